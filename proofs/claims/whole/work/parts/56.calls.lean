/-! the calls that do not throw -/
theorem wd0 : wd16 0 := ⟨by decide, by decide⟩
theorem wdT : wd16 65535 := ⟨by decide, by decide⟩
theorem by0 : by8 0 := ⟨by decide, by decide⟩
theorem lo0 : lo7 0 := ⟨by0, rfl⟩
def RM (t : Int32) (g : Nat) (k : S_BM) (u : S_Model) : Prop := ∃ B : Int32 × (Nat → Int32), RR (t, B) g k.1 u ∧ (∃ n : Nat, n ≤ 16 ∧ B.1 = nI n ∧ k.2.1 0 = nI n) ∧ ∀ j, j < 16 → k.2.2 j = B.2 j
theorem RM.mono {t : Int32} {g g' : Nat} {k : S_BM} {u : S_Model} (h : RM t g k u) (hg : g ≤ g') : RM t g' k u := by
  obtain ⟨B, h1, h2⟩ := h
  exact ⟨B, h1.mono hg, h2⟩
theorem RM.m0 {t : Int32} {g : Nat} {k : S_BM} {u : S_Model} (h : RM t g k u) (x : Int32) : RM x g k (mI u 0 x) := by
  obtain ⟨B, h1, h2⟩ := h
  exact ⟨B, h1.m0 x, h2⟩
theorem call_step {t : Int32} {g : Nat} (hg : g < 2 ^ 30 - 16) {k : S_BM} {u : S_Model} (h : RM t g k u) : ∃ r k' u', Cm2 (wp_X8_step k) r k' ∧ Cm2 (wp_X9_step u) r u' ∧ RM 0 (g + 6) k' u' := by
  obtain ⟨B, h1, h2⟩ := h
  obtain ⟨n, s', u', -, c1, c2, h3⟩ := sim_step hg h1
  exact ⟨nI n, (s', k.2), u', fun Φ hp => c1 _ hp, fun Φ hp => c2 _ hp, ⟨B, h3, h2⟩⟩
theorem call_nmi {t : Int32} {g : Nat} {k : S_BM} {u : S_Model} (h : RM t g k u) : ∃ k' u', Cm1 (wp_X8_nmi k) k' ∧ Cm1 (wp_X9_nmi u) u' ∧ RM 0 (g + 6) k' u' := by
  obtain ⟨B, h1, h2⟩ := h
  exact ⟨_, _, fun Φ hp => hp, fun Φ hp => hp, ⟨B, ((h1.m0 0).edg (x := 1) (Or.inr rfl)).mono (by omega), h2⟩⟩
theorem call_reset {t : Int32} {g : Nat} {k : S_BM} {u : S_Model} (h : RM t g k u) : ∃ k' u', Cm1 (wp_X8_reset k) k' ∧ Cm1 (wp_X9_reset u) u' ∧ RM 0 (g + 6) k' u' := by
  obtain ⟨B, h1, h2⟩ := h
  have p8 := h1.1.2.1.2.2.2.2.1
  have e4 := h1.1.1.2.2.2.2.1
  -- behind the devices
  have hd : RR (0, B) g (sP (sP (k.1.1, k.1.2.1, k.1.2.2.1, (upd k.1.2.2.2.1 2 0, upd (upd (upd (upd (upd (upd (upd (upd (upd k.1.2.2.2.2.1 0 65535) 1 65535) 2 0) 3 0) 4 0) 5 0) 6 0) 7 0) 8 0, (upd (upd (upd k.1.2.2.2.2.2.1.1 0 0) 4 0) 5 0, k.1.2.2.2.2.2.1.2.1, k.1.2.2.2.2.2.1.2.2), k.1.2.2.2.2.2.2)) 3 253) 4 ((k.1.1 4 &&& -9) ||| 4)) (mI (mR (upd (upd (upd (upd (upd (upd (upd (upd (upd (upd (upd (upd (upd u.1 0 0) 12 65535) 13 65535) 5 0) 22 0) 19 0) 18 0) 17 0) 16 0) 15 0) 14 0) 20 0) 21 0, u.2.1, u.2.2) 3 253) 3 (fl (fl (u.1 3) 4 1) 8 0)) := by
    rw [e4, int_p p8]
    refine RR.p (RR.r3 ?_ (by8_of (n := 253) (by omega))) (by8_fl (by8_fl p8 (by8_of (n := 4) (by omega)) _) (by8_of (n := 8) (by omega)) _)
    obtain ⟨hP, hC, hT, ⟨hB, hB2⟩, ⟨⟨t0, t1, t2, t3, t4, t5, t6, t7, t8⟩, r0, r1, r2, r3, r4, r5, r6, r7, r8⟩, ⟨⟨p0, p1, p5, p6⟩, ⟨w, o, hw, ew, ho, eo, hq⟩, ht, hs⟩, hM⟩ := h1.m0 0
    exact ⟨hP, hC, hT, ⟨rfl, Or.inl rfl⟩, ⟨⟨rfl, rfl, rfl, rfl, rfl, rfl, rfl, rfl, rfl⟩, wdT, wdT, wd0, by0, by0, lo0, by0, Or.inl rfl, Or.inl rfl⟩, ⟨⟨rfl, p1, rfl, by0⟩, ⟨0, 0, by omega, rfl, by omega, rfl, fun k hk => absurd hk (by omega)⟩, ht, hs⟩, hM⟩
  have he : RR (0, B) g (sP (sP (k.1.1, k.1.2.1, k.1.2.2.1, (upd k.1.2.2.2.1 2 0, upd (upd (upd (upd (upd (upd (upd (upd (upd k.1.2.2.2.2.1 0 65535) 1 65535) 2 0) 3 0) 4 0) 5 0) 6 0) 7 0) 8 0, (upd (upd (upd k.1.2.2.2.2.2.1.1 0 0) 4 0) 5 0, k.1.2.2.2.2.2.1.2.1, k.1.2.2.2.2.2.1.2.2), k.1.2.2.2.2.2.2)) 3 253) 4 ((k.1.1 4 &&& -9) ||| 4)) (mI (mR (upd (upd (upd (upd (upd (upd (upd (upd (upd (upd (upd (upd (upd u.1 0 0) 12 65535) 13 65535) 5 0) 22 0) 19 0) 18 0) 17 0) 16 0) 15 0) 14 0) 20 0) 21 0, u.2.1, u.2.2) 3 253) 3 (fl (fl (u.1 3) 4 1) 8 0)) := hd
  generalize hs0 : (sP (sP (k.1.1, k.1.2.1, k.1.2.2.1, (upd k.1.2.2.2.1 2 0, upd (upd (upd (upd (upd (upd (upd (upd (upd k.1.2.2.2.2.1 0 65535) 1 65535) 2 0) 3 0) 4 0) 5 0) 6 0) 7 0) 8 0, (upd (upd (upd k.1.2.2.2.2.2.1.1 0 0) 4 0) 5 0, k.1.2.2.2.2.2.1.2.1, k.1.2.2.2.2.2.1.2.2), k.1.2.2.2.2.2.2)) 3 253) 4 ((k.1.1 4 &&& -9) ||| 4) : S_Proc) = s0 at he
  generalize hu0 : mI (mR (upd (upd (upd (upd (upd (upd (upd (upd (upd (upd (upd (upd (upd u.1 0 0) 12 65535) 13 65535) 5 0) 22 0) 19 0) 18 0) 17 0) 16 0) 15 0) 14 0) 20 0) 21 0, u.2.1, u.2.2) 3 253) 3 (fl (fl (u.1 3) 4 1) 8 0) = u0 at he
  have hf : RR (0, B) g (sP (sP (sP s0 6 0) 7 0) 8 0) (upd (upd (upd u0.1 6 0) 7 0) 8 0, u0.2.1, u0.2.2) := ((he.wai (x := 0) (Or.inl rfl)).stp (x := 0) (Or.inl rfl)).edg (x := 0) (Or.inl rfl)
  obtain ⟨v, s1, u1, hv, c1, c2, h3, e1, -⟩ := hf.word (a := 65532) ⟨by decide, by decide⟩
  -- the class reads before it clears
  have c1' : Cm2 (wp_X5_wordAt s0 65532) v (s0.1, s1.2.1, s1.2.2.1, s1.2.2.2) := by
    intro Φ hp
    exact c1 (fun r s => Φ r (s0.1, s.2.1, s.2.2.1, s.2.2.2)) hp
  refine ⟨((upd (upd (upd (upd s0.1 5 v) 6 0) 7 0) 8 0, s1.2.1, s1.2.2.1, s1.2.2.2), k.2), mI u1 4 v, fun Φ hp => ?_, fun Φ hp => ?_, ⟨B, RR.mono (g := g) ?_ (by omega), h2⟩⟩
  · have := c1' (fun r1 u2 => Φ ((upd (upd (upd (upd u2.1 5 r1) 6 0) 7 0) 8 0, u2.2.1, u2.2.2.1, u2.2.2.2), k.2)) hp
    rw [← hs0] at this
    exact this
  · refine ⟨vp_in_nI (n := 3) (by omega) (by omega), cmM_flag _ _ _ _ (cmM_flag _ _ _ _ ?_)⟩
    have := c2 (fun r4 u5 => Φ (upd u5.1 4 r4, u5.2.1, u5.2.2)) hp
    rw [← hu0] at this
    show wp_X9_wordAt (upd (upd (upd (upd (upd _ 3 (fl (u.1 3) 4 1)) 3 (fl (fl (u.1 3) 4 1) 8 0)) 6 0) 7 0) 8 0, _, _) 65532 _
    rw [upd_upd]
    exact this
  · have h4 := h3.pc hv
    have : (sP s1 5 v) = (upd (upd (upd (upd s0.1 6 0) 7 0) 8 0) 5 v, s1.2.1, s1.2.2.1, s1.2.2.2) := by
      show (upd s1.1 5 v, s1.2.1, s1.2.2.1, s1.2.2.2) = _
      rw [e1]
    rw [this] at h4
    exact h4
theorem call_receive {t : Int32} {g : Nat} {k : S_BM} {u : S_Model} (h : RM t g k u) (a : Int32) : ∃ r k' u', Cm2 (wp_X8_receive k a) r k' ∧ Cm2 (wp_X9_receive u a) r u' ∧ RM 0 (g + 6) k' u' := by
  have h0 := (h.m0 0).mono (g' := g + 6) (by omega)
  obtain ⟨B, ⟨hP, hC, hT, hB, hTm, ⟨⟨p0, p1, p5, p6⟩, ⟨w, o, hw, ew, ho, eo, hq⟩, ht, hs⟩, hM⟩, h2⟩ := h0
  have p0 : k.1.2.2.2.2.2.1.1 0 = u.1 22 := p0
  have ew : u.1 22 = nI w := ew
  by_cases e1 : w = 64
  · have z : u.1 22 = 64 := by rw [ew, e1]; rfl
    exact ⟨-1, k, _, fun Φ hp => ⟨fun _ => hp, fun q => absurd (p0.trans z) q⟩, fun Φ hp => ⟨fun _ => hp, fun q => absurd z q⟩, (h.m0 0).mono (by omega)⟩
  · have z : ¬ u.1 22 = 64 := fun q => e1 ((nI_eq (a := w) (b := 64) (by omega) (by omega)).mp (ew.symm.trans q))
    have z' : ¬ k.1.2.2.2.2.2.1.1 0 = 64 := fun q => z (p0.symm.trans q)
    by_cases e2 : a < 0
    · exact ⟨-1, k, _, fun Φ hp => ⟨fun q => absurd q z', fun _ => ⟨fun _ => hp, fun q => absurd e2 q⟩⟩, fun Φ hp => ⟨fun q => absurd q z, fun _ => ⟨fun _ => hp, fun q => absurd e2 q⟩⟩, (h.m0 0).mono (by omega)⟩
    · by_cases e3 : a ≤ 255
      · have ha : by8 a := ⟨by grind, e3⟩
        have ix : (nI o + nI w) &&& 63 = nI ((o + w) % 64) := by rw [nI_add, pk_andN (n := o + w) (by omega) (m := 63) 6 rfl]
        refine ⟨nI (w + 1), ((k.1.1, k.1.2.1, k.1.2.2.1, (k.1.2.2.2.1, k.1.2.2.2.2.1, (upd k.1.2.2.2.2.2.1.1 0 (nI (w + 1)), upd k.1.2.2.2.2.2.1.2.1 ((o + w) % 64) a, k.1.2.2.2.2.2.1.2.2), k.1.2.2.2.2.2.2)), k.2), (upd (upd u.1 0 0) 22 (nI (w + 1)), u.2.1, va_up u.2.2 24 (upd (u.2.2 24) w a)), fun Φ hp => ⟨fun q => absurd q z', fun _ => ⟨fun q => absurd q e2, fun _ => ⟨fun _ => ?_, fun q => absurd e3 q⟩⟩⟩, fun Φ hp => ⟨fun q => absurd q z, fun _ => ⟨fun q => absurd q e2, fun _ => ⟨fun _ => ?_, fun q => absurd e3 q⟩⟩⟩, ⟨B, ⟨hP, hC, hT, hB, hTm, ⟨⟨rfl, p1, p5, p6⟩, ⟨w + 1, o, by omega, rfl, ho, eo, fun j hj => ?_⟩, ht, hs⟩, hM⟩, h2⟩⟩
        · rw [eo, p0, ew, ix]
          refine ⟨vp_in_nI (by omega) (by omega), ?_⟩
          rw [nI_clamp (by omega), nI_1]
          exact hp
        · rw [ew]
          refine ⟨vp_in_nI (by omega) (by omega), ?_⟩
          rw [nI_clamp (by omega), nI_1]
          exact hp
        · show by8 (upd (u.2.2 24) w a j) ∧ upd k.1.2.2.2.2.2.1.2.1 ((o + w) % 64) a ((o + j) % 64) = upd (u.2.2 24) w a j
          by_cases ej : j = w
          · subst ej; rw [pk_us, pk_us]; exact ⟨ha, rfl⟩
          · have hne : (o + j) % 64 ≠ (o + w) % 64 := by omega
            rw [pk_un ej, pk_un hne]
            exact hq j (by omega)
      · exact ⟨-1, k, _, fun Φ hp => ⟨fun q => absurd q z', fun _ => ⟨fun q => absurd q e2, fun _ => ⟨fun q => absurd q e3, fun _ => hp⟩⟩⟩, fun Φ hp => ⟨fun q => absurd q z, fun _ => ⟨fun q => absurd q e2, fun _ => ⟨fun q => absurd q e3, fun _ => hp⟩⟩⟩, (h.m0 0).mono (by omega)⟩
theorem call_sent {t : Int32} {g : Nat} (hg : g < 2 ^ 30) {k : S_BM} {u : S_Model} (h : RM t g k u) (a : Int32) : ∃ r u', Cm1 (wp_X8_sent k a) r ∧ Cm2 (wp_X9_sent u a) r u' ∧ RM 0 (g + 6) k u' := by
  have h0 := (h.m0 0).mono (g' := g + 6) (by omega)
  obtain ⟨B, ⟨-, -, -, -, -, ⟨⟨-, p1, -, -⟩, -, ⟨n, hn, en⟩, hs⟩, -⟩, -⟩ := h
  by_cases e1 : a < 0
  · exact ⟨-1, _, fun Φ hp => ⟨fun _ => hp, fun q => absurd e1 q⟩, fun Φ hp => ⟨fun _ => hp, fun q => absurd e1 q⟩, h0⟩
  · by_cases e2 : u.1 23 ≤ a
    · exact ⟨-1, _, fun Φ hp => ⟨fun q => absurd q e1, fun _ => ⟨fun _ => hp, fun q => absurd (by rw [p1]; exact e2) q⟩⟩, fun Φ hp => ⟨fun q => absurd q e1, fun _ => ⟨fun _ => hp, fun q => absurd e2 q⟩⟩, h0⟩
    · have e2' : ¬ k.1.2.2.2.2.2.1.1 1 ≤ a := by rw [p1]; exact e2
      by_cases e3 : a < u.1 23 - 256
      · exact ⟨-1, _, fun Φ hp => ⟨fun q => absurd q e1, fun _ => ⟨fun q => absurd q e2', fun _ => ⟨fun q => absurd (by rw [p1] at q; exact q) (by grind), fun _ => hp⟩⟩⟩, fun Φ hp => ⟨fun q => absurd q e1, fun _ => ⟨fun q => absurd q e2, fun _ => ⟨fun _ => hp, fun q => absurd e3 q⟩⟩⟩, h0⟩
      · obtain ⟨j, hj, rfl⟩ := nI_of e1
        obtain ⟨x1, x2⟩ := sent_ix (t := j) hj
        refine ⟨u.2.2 25 (j % 256), _, fun Φ hp => ⟨fun q => absurd q e1, fun _ => ⟨fun q => absurd q e2', fun _ => ⟨fun _ => ?_, fun q => absurd (by rw [p1]; grind) q⟩⟩⟩, fun Φ hp => ⟨fun q => absurd q e1, fun _ => ⟨fun q => absurd q e2, fun _ => ⟨fun q => absurd q e3, fun _ => ?_⟩⟩⟩, h0⟩
        · rw [x2]
          refine ⟨vp_in_nI (by omega) (by omega), ?_⟩
          rw [nI_clamp (by omega), hs _ (by omega)]
          exact hp
        · rw [x1]
          refine ⟨vp_in_nI (by omega) (by omega), fun v4 e4 => ?_⟩
          rw [e4, nI_clamp (by omega)]
          exact hp
theorem reg_cases (a : Int32) : a = 0 ∨ a = 1 ∨ a = 2 ∨ a = 3 ∨ a = 4 ∨ a = 5 ∨ (¬ a = 0 ∧ ¬ a = 1 ∧ ¬ a = 2 ∧ ¬ a = 3 ∧ ¬ a = 4 ∧ ¬ a = 5 ∧ (a < 0 ∨ 5 < a)) := by grind
theorem call_register {t : Int32} {g : Nat} {k : S_BM} {u : S_Model} (h : RM t g k u) (a : Int32) : ∃ r u', Cm1 (wp_X8_register k a) r ∧ Cm2 (wp_X9_register u a) r u' ∧ RM 0 (g + 6) k u' := by
  have h0 := (h.m0 0).mono (g' := g + 6) (by omega)
  obtain ⟨B, ⟨⟨⟨a0, a1, a2, a3, a4, a5, a6, a7, a8⟩, -, -⟩, -⟩, -⟩ := h
  rcases reg_cases a with rfl | rfl | rfl | rfl | rfl | rfl | ⟨n0, n1, n2, n3, n4, n5, n6⟩
  · exact ⟨u.2.2 2 0, _, fun Φ hp => by simp [wp_X8_register, a0]; exact hp, fun Φ hp => by simp [wp_X9_register]; exact ⟨vp_in_nI (n := 0) (by omega) (by omega), hp⟩, h0⟩
  · exact ⟨u.2.2 2 1, _, fun Φ hp => by simp [wp_X8_register, a1]; exact hp, fun Φ hp => by simp [wp_X9_register]; exact ⟨vp_in_nI (n := 1) (by omega) (by omega), hp⟩, h0⟩
  · exact ⟨u.2.2 2 2, _, fun Φ hp => by simp [wp_X8_register, a2]; exact hp, fun Φ hp => by simp [wp_X9_register]; exact ⟨vp_in_nI (n := 2) (by omega) (by omega), hp⟩, h0⟩
  · exact ⟨u.2.2 2 3, _, fun Φ hp => by simp [wp_X8_register, a3]; exact hp, fun Φ hp => by simp [wp_X9_register]; exact ⟨vp_in_nI (n := 3) (by omega) (by omega), hp⟩, h0⟩
  · exact ⟨u.1 3 ||| 48, _, fun Φ hp => by simp [wp_X8_register, a4]; exact hp, fun Φ hp => by simp [wp_X9_register]; exact hp, h0⟩
  · exact ⟨u.1 4, _, fun Φ hp => by simp [wp_X8_register, a5]; exact hp, fun Φ hp => by simp [wp_X9_register]; exact hp, h0⟩
  · refine ⟨-1, _, fun Φ hp => by simp [wp_X8_register, n0, n1, n2, n3, n4, n5]; exact hp, fun Φ hp => ⟨fun q => absurd q n5, fun _ => ⟨fun q => absurd q n4, fun _ => ⟨fun _ => hp, fun q => ⟨fun _ => hp, fun q2 => absurd (by grind) q2⟩⟩⟩⟩, h0⟩
theorem call_trace {t : Int32} {g : Nat} (hg : g < 2 ^ 30) {k : S_BM} {u : S_Model} (h : RM t g k u) (a : Int32) : ∃ r u', Cm1 (wp_X8_trace k a) r ∧ Cm2 (wp_X9_trace u a) r u' ∧ RM 0 (g + 6) k u' := by
  have h0 := (h.m0 0).mono (g' := g + 6) (by omega)
  obtain ⟨B, ⟨-, -, ⟨-, ⟨n, hn, k1, k2, k3⟩, hd⟩, -⟩, -⟩ := h
  have l32 : ((32 : Int32) < nI n) ↔ 32 < n := nI_ltI (a := 32) (b := n) (by omega) (by omega)
  obtain ⟨m, hm, em⟩ : ∃ m : Nat, m ≤ n ∧ m ≤ 32 ∧ (if 32 < k.1.2.2.1.1 0 then (32 : Int32) else k.1.2.2.1.1 0) = nI m := by
    rw [k1]
    by_cases e : 32 < n
    · exact ⟨32, by omega, by omega, by rw [if_pos (l32.mpr e)]; rfl⟩
    · exact ⟨n, by omega, by omega, by rw [if_neg (fun q => e (l32.mp q))]⟩
  obtain ⟨hm2, em⟩ := em
  have hmn : m = n ∨ m = 32 := by
    rw [k1] at em
    by_cases e : 32 < n
    · rw [if_pos (l32.mpr e)] at em
      exact Or.inr ((nI_eq (a := 32) (b := m) (by omega) (by omega)).mp em).symm
    · rw [if_neg (fun q => e (l32.mp q))] at em
      exact Or.inl ((nI_eq (by omega) (by omega)).mp em).symm
  have way : ∀ Φ, wp_X9_trace_23 (mI u 0 0) a (nI m) Φ → wp_X9_trace u a Φ := by
    intro Φ hp
    refine ⟨fun q => ?_, fun q => ?_⟩
    · rw [k2] at q
      have q : 32 ≤ n := (nI_leI (a := 32) (b := n) (by omega) (by omega)).mp q
      obtain rfl : m = 32 := by omega
      exact hp
    · rw [k2] at q
      have q : ¬ 32 ≤ n := fun z => q ((nI_leI (a := 32) (b := n) (by omega) (by omega)).mpr z)
      rw [k2, show n = m by omega]; exact hp
  by_cases e1 : a < 0
  · exact ⟨-1, _, fun Φ hp => ⟨fun _ => hp, fun q => absurd e1 q⟩, fun Φ hp => way Φ ⟨fun _ => hp, fun q => absurd e1 q⟩, h0⟩
  · by_cases e2 : a < nI m
    · obtain ⟨j, hj, rfl⟩ := nI_of e1
      have hjm : j < m := (nI_ltI (by omega) (by omega)).mp e2
      have ix : nI n - nI m + nI j = nI (n - m + j) := by rw [pk_sub hm, nI_add]
      obtain ⟨y1, y2⟩ := trace_ix (t := n - m + j) (by omega)
      refine ⟨u.2.2 32 ((n - m + j) % 32), _, fun Φ hp => ⟨fun q => absurd q e1, fun _ => ⟨fun _ v3 e3 => ?_, fun q => absurd (by rw [em]; exact e2) q⟩⟩, fun Φ hp => way Φ ⟨fun q => absurd q e1, fun _ => ⟨fun q => absurd q (by grind), fun _ v3 e3 => ?_⟩⟩, h0⟩
      · rw [em, k1, ix] at e3
        rw [e3, y2]
        refine ⟨vp_in_nI (by omega) (by omega), ?_⟩
        rw [nI_clamp (by omega), hd _ (by omega)]
        exact hp
      · have e3 : v3 = u.1 30 - nI m + nI j - (u.1 30 - nI m + nI j) / 32 * 32 := e3
        rw [k2, ix, y1] at e3
        rw [e3]
        refine ⟨vp_in_nI (by omega) (by omega), ?_⟩
        rw [nI_clamp (by omega)]
        exact hp
    · exact ⟨-1, _, fun Φ hp => ⟨fun _ => hp, fun _ => ⟨fun q => absurd (by rw [em] at q; exact q) e2, fun _ => hp⟩⟩, fun Φ hp => way Φ ⟨fun _ => hp, fun _ => ⟨fun _ => hp, fun q => absurd (by grind) q⟩⟩, h0⟩
theorem cnt_cases (a : Int32) : a = 0 ∨ a = 1 ∨ a = 2 ∨ a = 3 ∨ a = 4 ∨ a = 5 ∨ a = 6 ∨ a = 7 ∨ a = 8 ∨ a = 9 ∨ a = 10 ∨ a = 11 ∨ a = 12 ∨ a = 13 ∨ a = 14 ∨ (¬ a = 0 ∧ ¬ a = 1 ∧ ¬ a = 2 ∧ ¬ a = 3 ∧ ¬ a = 4 ∧ ¬ a = 5 ∧ ¬ a = 6 ∧ ¬ a = 7 ∧ ¬ a = 8 ∧ ¬ a = 9 ∧ ¬ a = 10 ∧ ¬ a = 11 ∧ ¬ a = 12 ∧ ¬ a = 13 ∧ ¬ a = 14) := by
  by_cases e0 : a = 0
  · exact Or.inl e0
  · grind
theorem call_count {t : Int32} {g : Nat} (hg : g < 2 ^ 30) {k : S_BM} {u : S_Model} (h : RM t g k u) (a : Int32) : ∃ r u', Cm1 (wp_X8_count k a) r ∧ Cm2 (wp_X9_count u a) r u' ∧ RM 0 (g + 6) k u' := by
  have h0 := (h.m0 0).mono (g' := g + 6) (by omega)
  obtain ⟨B, ⟨⟨⟨a0, a1, a2, a3, a4, a5, a6, a7, a8⟩, -, ⟨n1, hn1, i1, i2⟩⟩, hC, ⟨hK, ⟨n, hn, k1, k2, k3⟩, hd⟩, ⟨b1, -⟩, ⟨⟨t0, t1, t2, t3, t4, t5, t6, t7, t8⟩, -⟩, ⟨⟨p0, p1, -, -⟩, -⟩, -⟩, ⟨m, hm, m1, m2⟩, -⟩ := h
  have e29 : u.1 29 = nI m := hK.2.1.trans m1
  rcases cnt_cases a with rfl | rfl | rfl | rfl | rfl | rfl | rfl | rfl | rfl | rfl | rfl | rfl | rfl | rfl | rfl | ⟨c0, c1, c2, c3, c4, c5, c6, c7, c8, c9, c10, c11, c12, c13, c14⟩
  · exact ⟨u.2.1 26, _, fun Φ hp => by simp [wp_X8_count, hC]; exact hp, fun Φ hp => by simp [wp_X9_count]; exact hp, h0⟩
  · exact ⟨u.2.1 27, _, fun Φ hp => by simp [wp_X8_count, k1, nI_l (show n < 2 ^ 31 by omega)]; rw [← k3]; exact hp, fun Φ hp => by simp [wp_X9_count]; exact hp, h0⟩
  · exact ⟨(u.1 23).toInt64, _, fun Φ hp => by simp [wp_X8_count, p1]; exact hp, fun Φ hp => by simp [wp_X9_count]; exact hp, h0⟩
  · exact ⟨(u.1 22).toInt64, _, fun Φ hp => by simp [wp_X8_count, p0]; exact hp, fun Φ hp => by simp [wp_X9_count]; exact hp, h0⟩
  · exact ⟨(u.1 5).toInt64, _, fun Φ hp => by simp [wp_X8_count, b1]; exact hp, fun Φ hp => by simp [wp_X9_count]; exact hp, h0⟩
  · exact ⟨(u.1 12).toInt64, _, fun Φ hp => by simp [wp_X8_count, t0]; exact hp, fun Φ hp => by simp [wp_X9_count]; exact hp, h0⟩
  · exact ⟨(u.1 13).toInt64, _, fun Φ hp => by simp [wp_X8_count, t1]; exact hp, fun Φ hp => by simp [wp_X9_count]; exact hp, h0⟩
  · exact ⟨(u.1 14).toInt64, _, fun Φ hp => by simp [wp_X8_count, t2]; exact hp, fun Φ hp => by simp [wp_X9_count]; exact hp, h0⟩
  · exact ⟨(u.1 17).toInt64, _, fun Φ hp => by simp [wp_X8_count, t3]; exact hp, fun Φ hp => by simp [wp_X9_count]; exact hp, h0⟩
  · exact ⟨(u.1 18).toInt64, _, fun Φ hp => by simp [wp_X8_count, t4]; exact hp, fun Φ hp => by simp [wp_X9_count]; exact hp, h0⟩
  · by_cases q : u.1 6 = 0
    · exact ⟨0, _, fun Φ hp => by simp [wp_X8_count, a6, q]; exact hp, fun Φ hp => by simp [wp_X9_count, q]; exact hp, h0⟩
    · exact ⟨1, _, fun Φ hp => by simp [wp_X8_count, a6, q]; exact hp, fun Φ hp => by simp [wp_X9_count, q]; exact hp, h0⟩
  · by_cases q : u.1 7 = 0
    · exact ⟨0, _, fun Φ hp => by simp [wp_X8_count, a7, q]; exact hp, fun Φ hp => by simp [wp_X9_count, q]; exact hp, h0⟩
    · exact ⟨1, _, fun Φ hp => by simp [wp_X8_count, a7, q]; exact hp, fun Φ hp => by simp [wp_X9_count, q]; exact hp, h0⟩
  · by_cases q : u.1 8 = 0
    · exact ⟨0, _, fun Φ hp => by simp [wp_X8_count, a8, q]; exact hp, fun Φ hp => by simp [wp_X9_count, q]; exact hp, h0⟩
    · exact ⟨1, _, fun Φ hp => by simp [wp_X8_count, a8, q]; exact hp, fun Φ hp => by simp [wp_X9_count, q]; exact hp, h0⟩
  · exact ⟨(nI m).toInt64, _, fun Φ hp => by simp [wp_X8_count, m2]; exact hp, fun Φ hp => by simp [wp_X9_count, e29]; exact hp, h0⟩
  · exact ⟨u.2.1 28, _, fun Φ hp => by simp [wp_X8_count, i1, nI_l (show n1 < 2 ^ 31 by omega)]; rw [← i2]; exact hp, fun Φ hp => by simp [wp_X9_count]; exact hp, h0⟩
  · exact ⟨-1, _, fun Φ hp => by simp [wp_X8_count, c0, c1, c2, c3, c4, c5, c6, c7, c8, c9, c10, c11, c12, c13, c14]; exact hp, fun Φ hp => by simp [wp_X9_count, c0, c1, c2, c3, c4, c5, c6, c7, c8, c9, c10, c11, c12, c13, c14]; exact hp, h0⟩
