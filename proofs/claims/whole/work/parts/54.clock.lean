/-! the model's clock -/
def f128 (i : Nat → Int32) (x2 : Int32) : Nat → Int32 := if x2 = 0 then i else if i 21 = 0 then i else upd (upd i 17 (i 17 ||| 32)) 21 0
def f98 (i : Nat → Int32) (x1 x2 x3 s1 : Int32) : Nat → Int32 := f128 (if x1 = 0 then upd i 13 s1 else if i 20 = 0 then upd i 13 s1 else upd (upd (upd i 13 s1) 17 (i 17 ||| 64)) 20 x3) x2
def f79 (i : Nat → Int32) (x1 x2 x3 s1 : Int32) : Nat → Int32 := f98 (upd i 12 s1) x1 x2 x3 (if x2 = 0 then i 13 - 1 else 65535)
def f51 (i : Nat → Int32) (x1 x2 s0 : Int32) : Nat → Int32 := f79 i x1 x2 s0 (if x1 = 0 then i 12 - 1 else if s0 = 0 then 65535 else i 14)
def fclk (i : Nat → Int32) : Nat → Int32 := f51 i (if i 12 = 0 then 1 else 0) (if i 13 = 0 then 1 else 0) (if i 16 &&& 64 = 0 then 0 else 1)
theorem cm_128 (u : S_Model) (x2 : Int32) : Cm1 (wp_X9_clock_128 u x2) (f128 u.1 x2, u.2.1, u.2.2) := by
  intro Φ hp
  unfold f128 at hp
  refine ⟨fun a => ?_, fun a => ⟨fun b => ?_, fun b => ?_⟩⟩
  · rwa [if_pos a] at hp
  · rwa [if_neg a, if_pos b] at hp
  · rwa [if_neg a, if_neg b] at hp
theorem cm_98 (u : S_Model) (x1 x2 : Int32) {x3 : Int32} (hx : bl1 x3) (s1 : Int32) : Cm1 (wp_X9_clock_98 u x1 x2 x3 s1) (f98 u.1 x1 x2 x3 s1, u.2.1, u.2.2) := by
  intro Φ hp
  unfold f98 at hp
  refine ⟨fun a => ?_, fun a => ⟨fun b => ?_, fun b => ⟨bl_ok hx, ?_⟩⟩⟩
  · rw [if_pos a] at hp; exact cm_128 _ _ _ hp
  · rw [if_neg a, if_pos b] at hp; exact cm_128 _ _ _ hp
  · rw [if_neg a, if_neg b] at hp; exact cm_128 _ _ _ hp
theorem cm_79 (u : S_Model) (x1 x2 : Int32) {x3 : Int32} (hx : bl1 x3) (s1 : Int32) : Cm1 (wp_X9_clock_79 u x1 x2 x3 s1) (f79 u.1 x1 x2 x3 s1, u.2.1, u.2.2) := by
  intro Φ hp
  unfold f79 at hp
  refine ⟨fun a => ?_, fun a => ?_⟩
  · rw [if_pos a] at hp; exact cm_98 _ _ _ hx _ _ hp
  · rw [if_neg a] at hp; exact cm_98 _ _ _ hx _ _ hp
theorem cm_51 (u : S_Model) (x1 x2 : Int32) {x3 : Int32} (hx : bl1 x3) : Cm1 (wp_X9_clock_51 u x1 x2 x3) (f51 u.1 x1 x2 x3, u.2.1, u.2.2) := by
  intro Φ hp
  unfold f51 at hp
  refine ⟨fun a => ?_, fun a => ⟨fun b => ?_, fun b => ?_⟩⟩
  · rw [if_pos a] at hp; exact cm_79 _ _ _ hx _ _ hp
  · rw [if_neg a, if_pos b] at hp; exact cm_79 _ _ _ hx _ _ hp
  · rw [if_neg a, if_neg b] at hp; exact cm_79 _ _ _ hx _ _ hp
theorem cm_clock (u : S_Model) : Cm1 (wp_X9_clock u) (fclk u.1, vp_updL u.2.1 26 (u.2.1 26 + 1), u.2.2) := by
  intro Φ hp
  unfold fclk at hp
  have p35 : ∀ x1 s0 : Int32, Φ (f51 u.1 x1 s0 (if u.1 16 &&& 64 = 0 then 0 else 1), vp_updL u.2.1 26 (u.2.1 26 + 1), u.2.2) → wp_X9_clock_35 (u.1, vp_updL u.2.1 26 (u.2.1 26 + 1), u.2.2) x1 s0 Φ := by
    intro x1 s0 hp
    refine ⟨fun a => ?_, fun a => ?_⟩
    · have a : u.1 16 &&& 64 = 0 := a
      rw [if_pos a] at hp; exact cm_51 (u.1, vp_updL u.2.1 26 (u.2.1 26 + 1), u.2.2) _ _ (Or.inl rfl) _ hp
    · have a : ¬ u.1 16 &&& 64 = 0 := a
      rw [if_neg a] at hp; exact cm_51 (u.1, vp_updL u.2.1 26 (u.2.1 26 + 1), u.2.2) _ _ (Or.inr rfl) _ hp
  refine ⟨fun a => ⟨fun b => p35 _ _ ?_, fun b => p35 _ _ ?_⟩, fun a => ⟨fun b => p35 _ _ ?_, fun b => p35 _ _ ?_⟩⟩
  · have b : u.1 13 = 0 := b
    rwa [if_pos a, if_pos b] at hp
  · have b : ¬ u.1 13 = 0 := b
    rwa [if_pos a, if_neg b] at hp
  · have b : u.1 13 = 0 := b
    rwa [if_neg a, if_pos b] at hp
  · have b : ¬ u.1 13 = 0 := b
    rwa [if_neg a, if_neg b] at hp
/-- u is u0, n cycles on -/
def MC (u u0 : S_Model) (F : Bool) (n : Nat) : Prop := (u.1 12 = (S1 (u0.1 14) F (u0.1 12) (u0.1 20) n).1 ∧ u.1 20 = (S1 (u0.1 14) F (u0.1 12) (u0.1 20) n).2.1 ∧ u.1 13 = (S2 (u0.1 13) (u0.1 21) n).1 ∧ u.1 21 = (S2 (u0.1 13) (u0.1 21) n).2.1 ∧ u.1 17 = ob (ob (u0.1 17) 64 (S1 (u0.1 14) F (u0.1 12) (u0.1 20) n).2.2) 32 (S2 (u0.1 13) (u0.1 21) n).2.2) ∧ (∀ k, k ≠ 12 → k ≠ 13 → k ≠ 17 → k ≠ 20 → k ≠ 21 → u.1 k = u0.1 k) ∧ u.2.1 26 = u0.2.1 26 + lN n ∧ (∀ k, k ≠ 26 → u.2.1 k = u0.2.1 k) ∧ u.2.2 = u0.2.2
theorem fclk_at (i : Nat → Int32) : fclk i 12 = (if i 12 = 0 then (if i 16 &&& 64 = 0 then 65535 else i 14) else i 12 - 1) ∧ fclk i 20 = (if i 12 = 0 then (if i 20 = 0 then i 20 else if i 16 &&& 64 = 0 then 0 else 1) else i 20) ∧ fclk i 13 = (if i 13 = 0 then 65535 else i 13 - 1) ∧ fclk i 21 = (if i 13 = 0 then 0 else i 21) ∧ fclk i 17 = ob (ob (i 17) 64 (decide (i 12 = 0) && !decide (i 20 = 0))) 32 (decide (i 13 = 0) && !decide (i 21 = 0)) ∧ ∀ k, k ≠ 12 → k ≠ 13 → k ≠ 17 → k ≠ 20 → k ≠ 21 → fclk i k = i k := by
  by_cases a : i 12 = 0 <;> by_cases b : i 13 = 0 <;> by_cases c : i 16 &&& 64 = 0 <;> by_cases d : i 20 = 0 <;> by_cases e : i 21 = 0 <;> simp [fclk, f51, f79, f98, f128, upd, ob, a, b, c, d, e] <;> intro k h1 h2 h3 h4 h5 <;> simp [h1, h2, h3, h4, h5]
theorem MC.step {u u0 : S_Model} {F : Bool} (hF : (u0.1 16 &&& 64 = 0 ↔ F = false)) {n : Nat} (h : MC u u0 F n) : MC (fclk u.1, vp_updL u.2.1 26 (u.2.1 26 + 1), u.2.2) u0 F (n + 1) := by
  obtain ⟨⟨h12, h20, h13, h21, h17⟩, hk, h26, hl, ha⟩ := h
  obtain ⟨k12, k20, k13, k21, k17, kk⟩ := fclk_at u.1
  have e16 : u.1 16 = u0.1 16 := hk 16 (by decide) (by decide) (by decide) (by decide) (by decide)
  have e14 : u.1 14 = u0.1 14 := hk 14 (by decide) (by decide) (by decide) (by decide) (by decide)
  have q1 : S1 (u0.1 14) F (u0.1 12) (u0.1 20) (n + 1) = (fclk u.1 12, fclk u.1 20, ((S1 (u0.1 14) F (u0.1 12) (u0.1 20) n).2.2 || (decide (u.1 12 = 0) && !decide (u.1 20 = 0)))) := by
    rw [S1, k12, k20, ← h12, ← h20, e16, e14]
    by_cases a : u.1 12 = 0
    · rw [if_pos a, if_pos a, if_pos a, decide_eq_true a]
      cases F
      · rw [if_pos (hF.mpr rfl), if_pos (hF.mpr rfl)]
        by_cases d : u.1 20 = 0
        · simp [d]
        · simp [d]
      · have : ¬ u0.1 16 &&& 64 = 0 := fun z => absurd (hF.mp z) (by decide)
        rw [if_neg this, if_neg this]
        by_cases d : u.1 20 = 0
        · simp [d]
        · simp [d]
    · rw [if_neg a, if_neg a, if_neg a, decide_eq_false a]
      simp
  have q2 : S2 (u0.1 13) (u0.1 21) (n + 1) = (fclk u.1 13, fclk u.1 21, ((S2 (u0.1 13) (u0.1 21) n).2.2 || (decide (u.1 13 = 0) && !decide (u.1 21 = 0)))) := by
    rw [S2, k13, k21, ← h13, ← h21]
    by_cases a : u.1 13 = 0
    · rw [if_pos a, if_pos a, if_pos a, decide_eq_true a]
      simp
    · rw [if_neg a, if_neg a, if_neg a, decide_eq_false a]
      simp
  refine ⟨⟨?_, ?_, ?_, ?_, ?_⟩, fun k c1 c2 c3 c4 c5 => (kk k c1 c2 c3 c4 c5).trans (hk k c1 c2 c3 c4 c5), ?_, fun k hk' => ?_, ha⟩
  · rw [q1]
  · rw [q1]
  · rw [q2]
  · rw [q2]
  · rw [q1, q2]
    show fclk u.1 17 = _
    rw [k17, h17, ob_step]
  · show vp_updL u.2.1 26 (u.2.1 26 + 1) 26 = _
    rw [pk_uLs, h26, ← lN_1 n]
    grind
  · show vp_updL u.2.1 26 (u.2.1 26 + 1) k = _
    rw [pk_uLn hk']; exact hl k hk'
theorem clock_loop {u0 : S_Model} {F : Bool} (hF : (u0.1 16 &&& 64 = 0 ↔ F = false)) {n : Nat} (hn : n ≤ 20) : ∀ (d i : Nat) (u : S_Model), i + d = n → MC u u0 F i → ∃ u', MC u' u0 F n ∧ ∀ Φ : Int32 → S_Model → Prop, Φ (nI n) u' → wp_X9_step_12 (d + 1) u (nI n) (nI i) Φ := by
  intro d
  induction d with
  | zero =>
    intro i u hi h
    obtain rfl : i = n := by omega
    refine ⟨u, h, fun Φ hp => ?_⟩
    rw [wp_X9_step_12]
    exact ⟨fun _ => hp, fun q => absurd (nI_le (Nat.le_refl i) (by omega)) q⟩
  | succ d ih =>
    intro i u hi h
    obtain ⟨u', k3, k4⟩ := ih (i + 1) _ (by omega) (h.step hF)
    refine ⟨u', k3, fun Φ hp => ?_⟩
    rw [wp_X9_step_12]
    refine ⟨fun q => absurd q (nI_ge (by omega) (by omega)), fun _ => cm_clock u _ (fun v3 e3 => ?_)⟩
    rw [e3, nI_1]
    exact k4 Φ hp
/-! what a state with the same places keeps -/
theorem RPr.of {g : Nat} {p : Nat → Int32} {u v : S_Model} (h : RPr g p u) (e3 : v.1 3 = u.1 3) (e4 : v.1 4 = u.1 4) (e6 : v.1 6 = u.1 6) (e7 : v.1 7 = u.1 7) (e8 : v.1 8 = u.1 8) (l : v.2.1 28 = u.2.1 28) (a : v.2.2 2 = u.2.2 2) : RPr g p v := by
  unfold RPr at h ⊢
  rw [a, e3, e4, e6, e7, e8, l]
  exact h
theorem RTr.of {K : Kp} {g : Nat} {q : S_Trace} {u v : S_Model} (h : RTr K g q u) (e0 : v.1 0 = u.1 0) (e29 : v.1 29 = u.1 29) (e30 : v.1 30 = u.1 30) (l : v.2.1 27 = u.2.1 27) (a : v.2.2 31 = u.2.2 31) (b : v.2.2 32 = u.2.2 32) : RTr K g q v := by
  unfold RTr KK at h ⊢
  rw [e0, e29, e30, l, a, b]
  exact h
theorem RPt.of {g : Nat} {q : S_Port} {u v : S_Model} (h : RPt g q u) (e22 : v.1 22 = u.1 22) (e23 : v.1 23 = u.1 23) (e19 : v.1 19 = u.1 19) (a : v.2.2 24 = u.2.2 24) (b : v.2.2 25 = u.2.2 25) : RPt g q v := by
  unfold RPt at h ⊢
  rw [e22, e23, e19, a, b]
  exact h
theorem lo7_ob {x f : Int32} (h : lo7 x) (hf : lo7 f) (b : Bool) : lo7 (ob x f b) := by
  cases b
  · exact h
  · refine ⟨by8_or h.1 hf.1, ?_⟩
    show (x ||| f) &&& 128 = 0
    rw [i32_and_or, h.2, hf.2]; rfl
theorem lo64 : lo7 64 := ⟨by8_64, rfl⟩
theorem lo32 : lo7 32 := ⟨by8_of (n := 32) (by omega), rfl⟩
/-- the cycles pass on both sides -/
theorem sim_pass {K : Kp} {g : Nat} {s : S_Proc} {u : S_Model} (h : RR K g s u) {n : Nat} (hn : n ≤ 20) (h13 : s.1 13 = nI n) : ∃ s' u', Cm2 (wp_X5_advance_110 s) (nI n) s' ∧ Cm2 (fun Φ => ∃ m, wp_X9_step_12 m u (nI n) 0 Φ) (nI n) u' ∧ RR K g s' u' := by
  obtain ⟨hP, hC, hT, hB, ⟨⟨t0, t1, t2, t3, t4, t5, t6, t7, t8⟩, r0, r1, r2, r3, r4, r5, r6, r7, r8⟩, hQ, hM⟩ := h
  obtain ⟨F, hF⟩ : ∃ F : Bool, (u.1 16 &&& 64 = 0 ↔ F = false) := by
    by_cases e : u.1 16 &&& 64 = 0
    · exact ⟨false, ⟨fun _ => rfl, fun _ => e⟩⟩
    · exact ⟨true, ⟨fun q => absurd q e, fun q => absurd q (by decide)⟩⟩
  obtain ⟨a1, a2, ⟨x0, x7, x3, x1, x2, x4, x5, x6, x8⟩, ⟨y1, y8, y3, y0, y2, y4, y5, y6, y7⟩, hc⟩ := cm_pass (t0 := s.2.2.2.2.1) (F := F) (by rw [t6]; exact hF) (by rw [t0]; exact r0) (by rw [t1]; exact r1) hn
  obtain ⟨u', ⟨⟨m12, m20, m13, m21, m17⟩, hk, h26, hl, ha⟩, hm⟩ := clock_loop (u0 := u) hF hn n 0 u (by omega) ⟨⟨rfl, rfl, rfl, rfl, rfl⟩, fun _ _ _ _ _ _ => rfl, by show u.2.1 26 = u.2.1 26 + lN 0; rw [show lN 0 = 0 from rfl]; grind, fun _ _ => rfl, rfl⟩
  have e : ∀ k, (k ≠ 12 ∧ k ≠ 13 ∧ k ≠ 17 ∧ k ≠ 20 ∧ k ≠ 21) → u'.1 k = u.1 k := fun k q => hk k q.1 q.2.1 q.2.2.1 q.2.2.2.1 q.2.2.2.2
  refine ⟨(s.1, s.2.1 + (s.1 13).toInt64, s.2.2.1, (s.2.2.2.1, a2, s.2.2.2.2.2.1, s.2.2.2.2.2.2)), u', fun Φ hp => ?_, fun Φ hp => ⟨_, hm Φ hp⟩, ?_, ?_, ?_, ?_, ?_, ?_, ?_⟩
  · unfold wp_X5_advance_110
    rw [h13] at hp ⊢
    exact hc _ hp
  · exact hP.of (e 3 (by decide)) (e 4 (by decide)) (e 6 (by decide)) (e 7 (by decide)) (e 8 (by decide)) (hl 28 (by decide)) (by rw [ha])
  · show s.2.1 + (s.1 13).toInt64 = _
    rw [h26, hC, h13, nI_l (by omega)]
  · exact hT.of (e 0 (by decide)) (e 29 (by decide)) (e 30 (by decide)) (hl 27 (by decide)) (by rw [ha]) (by rw [ha])
  · show _ = u'.1 5 ∧ (u'.1 5 = 0 ∨ u'.1 5 = 1 ∨ u'.1 5 = 2 ∨ u'.1 5 = 3)
    rw [e 5 (by decide)]; exact hB
  · refine ⟨⟨?_, ?_, ?_, ?_, ?_, ?_, ?_, ?_, ?_⟩, ?_, ?_, ?_, ?_, ?_, ?_, ?_, ?_, ?_⟩
    · show a2 0 = _; rw [y0, x0, m12, t2, t0, t7]
    · show a2 1 = _; rw [y1, m13, t1, t8]
    · show a2 2 = _; rw [y2, x2, t2, e 14 (by decide)]
    · show a2 3 = _; rw [y3, x3, m17, t2, t0, t7, t1, t8, t3]
    · show a2 4 = _; rw [y4, x4, t4, e 18 (by decide)]
    · show a2 5 = _; rw [y5, x5, t5, e 15 (by decide)]
    · show a2 6 = _; rw [y6, x6, t6, e 16 (by decide)]
    · show a2 7 = _; rw [y7, x7, m20, t2, t0, t7]
    · show a2 8 = _; rw [y8, m21, t1, t8]
    · rw [m12]; exact S1_wd r0 r2 n
    · rw [m13]; exact S2_wd r1 n
    · rw [e 14 (by decide)]; exact r2
    · rw [e 15 (by decide)]; exact r3
    · rw [e 16 (by decide)]; exact r4
    · rw [m17]; exact lo7_ob (lo7_ob r5 lo64 _) lo32 _
    · rw [e 18 (by decide)]; exact r6
    · rw [m20]; exact S1_bl r7 n
    · rw [m21]; exact S2_bl r8 n
  · exact hQ.of (e 22 (by decide)) (e 23 (by decide)) (e 19 (by decide)) (by rw [ha]) (by rw [ha])
  · show RMem _ (u'.2.2 1)
    rw [ha]; exact hM
