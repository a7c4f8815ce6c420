/-! a step -/
theorem or_and_128 {x : Int32} (h : lo7 x) : ¬ (x ||| 128) &&& 128 = 0 := by
  rw [i32_and_or, h.2]; decide
theorem sim_asks {g : Nat} {b : S_Board} {u : S_Model} (h : RB g b u) : ∃ v, (v = 0 ∨ v = 1) ∧ Cm1 (wp_X0_asks b) v ∧ ∀ A B : Prop, (v = 0 → A) → (v = 1 → B) → ((u.1 17 &&& u.1 18 = 0 → wp_X9_asks u (fun r => (r = 0 → A) ∧ (¬ r = 0 → B))) ∧ (¬ u.1 17 &&& u.1 18 = 0 → B)) := by
  obtain ⟨-, ⟨⟨t0, t1, t2, t3, t4, t5, t6, t7, t8⟩, r0, r1, r2, r3, r4, r5, r6, r7, r8⟩, ⟨⟨p0, p1, p5, p6⟩, ⟨w, o, hw, ew, ho, eo, hq⟩, -, -⟩, -⟩ := h
  obtain ⟨z1, z2⟩ := ni_le0 hw
  by_cases e : u.1 17 &&& u.1 18 = 0
  · have hT : ∀ Φ : Int32 → Prop, Φ 0 → wp_X6_asks b.2.1 Φ := by
      intro Φ hp
      simp [wp_X6_asks, wp_X6_peek, t3, t4, e, r5.2]
      exact hp
    by_cases ez : w = 0
    · refine ⟨0, Or.inl rfl, fun Φ hp => hT _ ⟨fun _ => ?_, fun q => absurd rfl q⟩, fun A B hA hB => ⟨fun _ => ?_, fun q => absurd e q⟩⟩
      · simp [wp_X4_asks, wp_X4_peek, show ((16 : Int32) &&& 128 = 0) = True from eq_true rfl, show ((24 : Int32) &&& 128 = 0) = True from eq_true rfl, show ((152 : Int32) &&& 128 = 0) = False from eq_false (by decide), p0, ew, ez, nI_0]
        exact hp
      · simp [wp_X9_asks, ew, ez, nI_0]
        exact hA rfl
    · by_cases e3 : u.1 19 &&& 3 = 1
      · refine ⟨1, Or.inr rfl, fun Φ hp => hT _ ⟨fun _ => ?_, fun q => absurd rfl q⟩, fun A B hA hB => ⟨fun _ => ?_, fun q => absurd e q⟩⟩
        · simp [wp_X4_asks, wp_X4_peek, show ((16 : Int32) &&& 128 = 0) = True from eq_true rfl, show ((24 : Int32) &&& 128 = 0) = True from eq_true rfl, show ((152 : Int32) &&& 128 = 0) = False from eq_false (by decide), p0, p5, ew, z2, ez, e3]
          exact hp
        · simp [wp_X9_asks, ew, z1, ez, e3]
          exact hB rfl
      · refine ⟨0, Or.inl rfl, fun Φ hp => hT _ ⟨fun _ => ?_, fun q => absurd rfl q⟩, fun A B hA hB => ⟨fun _ => ?_, fun q => absurd e q⟩⟩
        · simp [wp_X4_asks, wp_X4_peek, show ((16 : Int32) &&& 128 = 0) = True from eq_true rfl, show ((24 : Int32) &&& 128 = 0) = True from eq_true rfl, show ((152 : Int32) &&& 128 = 0) = False from eq_false (by decide), p0, p5, ew, z2, ez, e3]
          exact hp
        · simp [wp_X9_asks, ew, z1, ez, e3]
          exact hA rfl
  · have hT : ∀ Φ : Int32 → Prop, Φ 1 → wp_X6_asks b.2.1 Φ := by
      intro Φ hp
      simp [wp_X6_asks, wp_X6_peek, t3, t4, e, or_and_128 r5]
      exact hp
    exact ⟨1, Or.inr rfl, fun Φ hp => hT _ ⟨fun q => absurd q (by decide), fun _ => hp⟩, fun A B hA hB => ⟨fun q => absurd q e, fun _ => hB rfl⟩⟩
theorem sim_91 {K : Kp} {g : Nat} (hg : g < 2 ^ 30 - 16) {s : S_Proc} {u : S_Model} (h : RR K g s u) : ∃ n s' u', n ≤ 20 ∧ Cm2 (wp_X5_advance_91 s) (nI n) s' ∧ Cm2 (fun Φ => wp_X9_once_73 u (fun r4 u5 => ∃ m, wp_X9_step_12 m u5 r4 0 Φ)) (nI n) u' ∧ RR K (g + 6) s' u' := by
  have e6 : s.1 6 = u.1 6 := h.1.1.2.2.2.2.2.2.1
  by_cases e : u.1 6 = 0
  · obtain ⟨s1, n, u1, c1, c2, h1, h13, k, k1, k2, rfl⟩ := sim_instr hg h
    obtain ⟨s', u', d1, d2, h2⟩ := sim_pass h1 k2 h13
    refine ⟨k, s', u', k2, fun Φ hp => ⟨fun _ => c1 _ (d1 _ hp), fun q => absurd (e6.trans e) q⟩, fun Φ hp => ⟨fun _ => c2 _ (d2 _ hp), fun q => absurd e q⟩, h2.mono (by omega)⟩
  · obtain ⟨s', u', d1, d2, h2⟩ := sim_pass (s := sP s 13 1) (h.c13 1) (n := 1) (by omega) rfl
    exact ⟨1, s', u', by omega, fun Φ hp => ⟨fun q => absurd (e6.symm.trans q) e, fun _ => d1 _ hp⟩, fun Φ hp => ⟨fun q => absurd q e, fun _ => d2 _ hp⟩, h2.mono (by omega)⟩
theorem sim_taken {K : Kp} {g : Nat} (hg : g < 2 ^ 30 - 16) {s : S_Proc} {u : S_Model} (h : RR K g s u) {vec : Int32} (hv : vec = 65534 ∨ vec = 65530) : ∃ s' u', Cm2 (fun Φ => wp_X5_takeInterrupt s vec (fun u7 => wp_X5_advance_110 u7 Φ)) (nI 7) s' ∧ Cm2 (fun Φ => wp_X9_taken2 u vec (fun r4 u5 => ∃ m, wp_X9_step_12 m u5 r4 0 Φ)) (nI 7) u' ∧ RR K (g + 6) s' u' := by
  have h1 : RR K (g + 1) (upd (upd s.1 10 (s.1 10 + 1)) 13 7, s.2.1, s.2.2.1, s.2.2.2) (u.1, vp_updL u.2.1 28 (u.2.1 28 + 1), u.2.2) := by
    obtain ⟨⟨a, b, t, ht, x1, x2⟩, d, e, f⟩ := h.mono (g' := g + 1) (by omega)
    obtain ⟨-, -, t, ht, x1, x2⟩ := h.1
    refine ⟨⟨a, b, t + 1, by omega, ?_, ?_⟩, d, e, f⟩
    · show s.1 10 + 1 = _
      rw [x1, nI_1]
    · show vp_updL u.2.1 28 (u.2.1 28 + 1) 28 = _
      rw [pk_uLs, x2, lN_1]
  obtain ⟨s1, u1, c1, c2, h2, h13⟩ := h1.inter (by omega) (vec := vec) (own := 0) (a2 := s.1 4 &&& -17) hv (Or.inl ⟨rfl, rfl⟩)
  obtain ⟨s', u', d1, d2, h3⟩ := sim_pass h2 (n := 7) (by omega) h13
  exact ⟨s', u', fun Φ hp => c1 _ (d1 _ hp), fun Φ hp => c2 _ (d2 _ hp), h3.mono (by omega)⟩
theorem sim_step {K : Kp} {g : Nat} (hg : g < 2 ^ 30 - 16) {s : S_Proc} {u : S_Model} (h : RR K g s u) : ∃ n s' u', n ≤ 20 ∧ Cm2 (wp_X5_advance s) (nI n) s' ∧ Cm2 (wp_X9_step u) (nI n) u' ∧ RR (0, K.2) (g + 6) s' u' := by
  have h := h.m0 0
  have e7 : s.1 7 = u.1 7 := h.1.1.2.2.2.2.2.2.2.1
  have e8 : s.1 8 = u.1 8 := h.1.1.2.2.2.2.2.2.2.2
  have e4 : s.1 4 = u.1 3 ||| 48 := h.1.1.2.2.2.2.1
  by_cases q7 : u.1 7 = 0
  · by_cases q8 : u.1 8 = 0
    · obtain ⟨v, hv, a1, a2⟩ := sim_asks h.2.2.2
      rcases hv with rfl | rfl
      · obtain ⟨n, s', u', k, c1, c2, h2⟩ := sim_91 hg h
        refine ⟨n, s', u', k, fun Φ hp => ⟨fun _ => ⟨fun _ => a1 _ ⟨fun _ => ?_, fun q => absurd rfl q⟩, fun q => absurd (e8.trans q8) q⟩, fun q => absurd (e7.trans q7) q⟩, fun Φ hp => ⟨fun _ => ⟨fun _ => a2 _ _ (fun _ => c2 _ hp) (fun q => absurd q (by decide)), fun q => absurd q8 q⟩, fun q => absurd q7 q⟩, h2⟩
        exact ⟨fun _ => ⟨fun _ => ⟨fun _ => ⟨fun _ => c1 _ hp, fun q => absurd rfl q⟩, fun q => absurd (e8.trans q8) q⟩, fun q => absurd rfl q⟩, fun q => absurd (e8.trans q8) q⟩
      · have h6 := h.wai (x := 0) (Or.inl rfl)
        have way : ∀ Φ, wp_X5_advance_48 (sP s 6 0) 1 Φ → wp_X5_advance s Φ := fun Φ hp => ⟨fun _ => ⟨fun _ => a1 _ ⟨fun q => absurd q (by decide), fun _ => ⟨fun _ => ⟨fun q => absurd q (by decide), fun _ => hp⟩, fun q => absurd (e8.trans q8) q⟩⟩, fun q => absurd (e8.trans q8) q⟩, fun q => absurd (e7.trans q7) q⟩
        have eb : s.1 4 &&& 4 = u.1 3 &&& 4 := by rw [e4]; exact bit_48 _ rfl
        by_cases q4 : u.1 3 &&& 4 = 0
        · obtain ⟨s', u', c1, c2, h2⟩ := sim_taken hg h6 (vec := 65534) (Or.inl rfl)
          refine ⟨7, s', u', by omega, fun Φ hp => way Φ ⟨fun _ => ⟨fun q => absurd q (by decide), fun _ => ⟨fun _ => c1 _ hp, fun q => absurd (eb.trans q4) q⟩⟩, fun q => absurd (e8.trans q8) q⟩, fun Φ hp => ⟨fun _ => ⟨fun _ => a2 _ _ (fun q => absurd q (by decide)) (fun _ => ?_), fun q => absurd q8 q⟩, fun q => absurd q7 q⟩, h2⟩
          exact ⟨fun _ => ⟨fun _ => c2 _ hp, fun q => absurd rfl q⟩, fun q => absurd q4 q⟩
        · obtain ⟨n, s', u', k, c1, c2, h2⟩ := sim_91 hg h6
          refine ⟨n, s', u', k, fun Φ hp => way Φ ⟨fun _ => ⟨fun q => absurd q (by decide), fun _ => ⟨fun q => absurd (eb.symm.trans q) q4, fun _ => c1 _ hp⟩⟩, fun q => absurd (e8.trans q8) q⟩, fun Φ hp => ⟨fun _ => ⟨fun _ => a2 _ _ (fun q => absurd q (by decide)) (fun _ => ?_), fun q => absurd q8 q⟩, fun q => absurd q7 q⟩, h2⟩
          exact ⟨fun q => absurd q q4, fun _ => ⟨fun q => absurd q (by decide), fun _ => c2 _ hp⟩⟩
    · have q8' : ¬ s.1 8 = 0 := fun q => q8 (e8.symm.trans q)
      have h6 : RR (0, K.2) g (sP (sP s 6 0) 8 0) (upd (upd (upd u.1 0 0) 8 0) 6 0, u.2.1, u.2.2) := by
        obtain ⟨⟨⟨a0, a1, a2, a3, a4, a5, a6, a7, a8⟩, ⟨b0, b1, b2, b3, b4, b5, b6, b7, b8⟩, c⟩, d, e, f⟩ := h
        exact ⟨⟨⟨a0, a1, a2, a3, a4, a5, rfl, a7, rfl⟩, ⟨b0, b1, b2, b3, b4, b5, Or.inl rfl, b7, Or.inl rfl⟩, c⟩, d, e, f⟩
      obtain ⟨s', u', c1, c2, h2⟩ := sim_taken hg h6 (vec := 65530) (Or.inr rfl)
      refine ⟨7, s', u', by omega, fun Φ hp => ⟨fun _ => ⟨fun q => absurd q q8', fun _ => ⟨fun q => absurd q q8', fun _ => ⟨fun q => absurd q q8', fun _ => c1 _ hp⟩⟩⟩, fun q => absurd (e7.trans q7) q⟩, fun Φ hp => ⟨fun _ => ⟨fun q => absurd q q8, fun _ => c2 _ hp⟩, fun q => absurd q7 q⟩, h2⟩
  · refine ⟨0, s, _, by omega, fun Φ hp => ⟨fun q => absurd (e7.symm.trans q) q7, fun _ => hp⟩, fun Φ hp => ⟨fun q => absurd q q7, fun _ => ⟨1, ?_⟩⟩, h.mono (by omega)⟩
    rw [wp_X9_step_12]
    exact ⟨fun _ => hp, fun q => absurd (by decide) q⟩
