/-! break points -/
theorem sim_find {b : S_Breaks} {u : S_Model} {n : Nat} (hn : n ≤ 16) (h1 : b.1 0 = nI n) (h2 : u.1 29 = nI n) (h3 : ∀ j, j < 16 → b.2 j = u.2.2 31 j) (a : Int32) : ∃ r : Int32, (r = -1 ∨ ∃ j : Nat, j < n ∧ r = nI j) ∧ Cm1 (wp_X1_find b a) r ∧ Cm1 (wp_X9_find u a) r := by
  have loop : ∀ d i : Nat, i + d = n → ∃ r : Int32, (r = -1 ∨ ∃ j : Nat, j < n ∧ r = nI j) ∧ (∀ Φ : Int32 → Prop, Φ r → wp_X1_find_2 (d + 1) b a (nI i) Φ) ∧ (∀ Φ : Int32 → Prop, Φ r → wp_X9_find_2 (d + 1) u a (nI i) Φ) := by
    intro d
    induction d with
    | zero =>
      intro i hi
      obtain rfl : i = n := by omega
      refine ⟨-1, Or.inl rfl, fun Φ hp => ?_, fun Φ hp => ?_⟩
      · rw [wp_X1_find_2, h1]
        exact ⟨fun _ => hp, fun q => absurd (nI_le (Nat.le_refl i) (by omega)) q⟩
      · rw [wp_X9_find_2, h2]
        exact ⟨fun _ => hp, fun q => absurd (nI_le (Nat.le_refl i) (by omega)) q⟩
    | succ d ih =>
      intro i hi
      by_cases e : u.2.2 31 i = a
      · refine ⟨nI i, Or.inr ⟨i, by omega, rfl⟩, fun Φ hp => ?_, fun Φ hp => ?_⟩
        · rw [wp_X1_find_2, h1, nI_clamp (by omega), h3 i (by omega)]
          exact ⟨fun q => absurd q (nI_ge (by omega) (by omega)), fun _ => ⟨vp_in_nI (by omega) (by omega), fun _ => hp, fun q => absurd e q⟩⟩
        · rw [wp_X9_find_2, h2, nI_clamp (by omega)]
          exact ⟨fun q => absurd q (nI_ge (by omega) (by omega)), fun _ => ⟨vp_in_nI (by omega) (by omega), fun _ => hp, fun q => absurd e q⟩⟩
      · obtain ⟨r, hr, k1, k2⟩ := ih (i + 1) (by omega)
        refine ⟨r, hr, fun Φ hp => ?_, fun Φ hp => ?_⟩
        · rw [wp_X1_find_2, h1, nI_clamp (by omega), h3 i (by omega)]
          refine ⟨fun q => absurd q (nI_ge (by omega) (by omega)), fun _ => ⟨vp_in_nI (by omega) (by omega), fun q => absurd q e, fun _ v e3 => ?_⟩⟩
          rw [e3, nI_1]; exact k1 Φ hp
        · rw [wp_X9_find_2, h2, nI_clamp (by omega)]
          refine ⟨fun q => absurd q (nI_ge (by omega) (by omega)), fun _ => ⟨vp_in_nI (by omega) (by omega), fun q => absurd q e, fun _ v e3 => ?_⟩⟩
          rw [e3, nI_1]; exact k2 Φ hp
  obtain ⟨r, hr, k1, k2⟩ := loop n 0 (by omega)
  exact ⟨r, hr, fun Φ hp => ⟨_, k1 Φ hp⟩, fun Φ hp => ⟨_, k2 Φ hp⟩⟩
theorem RM.find {t : Int32} {g : Nat} {k : S_BM} {u : S_Model} (h : RM t g k u) (a : Int32) : ∃ (n : Nat) (r : Int32), n ≤ 16 ∧ k.2.1 0 = nI n ∧ u.1 29 = nI n ∧ (r = -1 ∨ ∃ j : Nat, j < n ∧ r = nI j) ∧ Cm1 (wp_X1_find k.2 a) r ∧ Cm1 (wp_X9_find u a) r := by
  obtain ⟨B, h1, ⟨n, hn, e1, e2⟩, h3⟩ := h
  have e29 : u.1 29 = nI n := h1.2.2.1.1.2.1.trans e1
  have e31 : u.2.2 31 = B.2 := h1.2.2.1.1.2.2
  obtain ⟨r, hr, k1, k2⟩ := sim_find (b := k.2) (u := u) hn e2 e29 (fun j hj => by rw [e31]; exact h3 j hj) a
  exact ⟨n, r, hn, e2, e29, hr, k1, k2⟩
/-- break points changed on both sides -/
theorem RM.brk {t : Int32} {g : Nat} {k : S_BM} {u : S_Model} (h : RM t g k u) {n : Nat} (hn : n ≤ 16) {f f' : Nat → Int32} (hf : ∀ j, j < 16 → f j = f' j) : RM t g (k.1, (upd k.2.1 0 (nI n), f)) (upd u.1 29 (nI n), u.2.1, va_up u.2.2 31 f') := by
  obtain ⟨B, ⟨hP, hC, ⟨⟨k0, k29, k31⟩, hT⟩, hB⟩, -, -⟩ := h
  exact ⟨(nI n, f'), ⟨hP, hC, ⟨⟨k0, rfl, rfl⟩, hT⟩, hB⟩, ⟨n, hn, rfl, rfl⟩, hf⟩
theorem RM.arr {t : Int32} {g : Nat} {k : S_BM} {u : S_Model} (h : RM t g k u) : ∀ j, j < 16 → k.2.2 j = u.2.2 31 j := by
  obtain ⟨B, h1, -, h3⟩ := h
  intro j hj
  rw [h3 j hj, h1.2.2.1.1.2.2]
theorem upd_eq {f f' : Nat → Int32} {N i : Nat} {x y : Int32} (h : ∀ j, j < N → f j = f' j) (e : x = y) : ∀ j, j < N → upd f i x j = upd f' i y j := by
  intro j hj
  subst e
  by_cases e : j = i
  · rw [e, pk_us, pk_us]
  · rw [pk_un e, pk_un e]; exact h j hj
theorem neg1 : ¬ ((-1 : Int32) = 0) ∧ (-1 : Int32) < 0 ∧ ¬ (0 : Int32) ≤ -1 := by decide
theorem nI_neg1 {j : Nat} (h : j < 2 ^ 31) : ¬ nI j = -1 := by
  intro e
  exact absurd (show nI j < 0 by rw [e]; decide) (nI_pos h)
theorem call_setBreak {t : Int32} {g : Nat} {k : S_BM} {u : S_Model} (h : RM t g k u) (a : Int32) : ∃ r k' u', bl1 r ∧ Cm2 (wp_X8_setBreak k a) r k' ∧ Cm2 (wp_X9_setBreak u a) r u' ∧ RM 0 (g + 6) k' u' := by
  have h0 := (h.m0 0).mono (g' := g + 6) (by omega)
  by_cases e1 : a < 0
  · exact ⟨0, k, _, Or.inl rfl, fun Φ hp => ⟨fun _ => ⟨fun _ => hp, fun q => absurd rfl q⟩, fun q => absurd e1 q⟩, fun Φ hp => ⟨fun _ => hp, fun q => absurd e1 q⟩, h0⟩
  · by_cases e2 : 65535 < a
    · exact ⟨0, k, _, Or.inl rfl, fun Φ hp => ⟨fun q => absurd q e1, fun _ => ⟨fun _ => ⟨fun _ => hp, fun q => absurd rfl q⟩, fun q => absurd (by grind) q⟩⟩, fun Φ hp => ⟨fun q => absurd q e1, fun _ => ⟨fun _ => hp, fun q => absurd e2 q⟩⟩, h0⟩
    · have way : ∀ Φ, wp_X1_add k.2 a (fun r3 u4 => (r3 = 0 → Φ 0 (k.1, u4)) ∧ (¬ r3 = 0 → Φ 1 (k.1, u4))) → wp_X8_setBreak k a Φ := fun Φ hp => ⟨fun q => absurd q e1, fun _ => ⟨fun q => absurd q (by grind), fun _ => ⟨fun q => absurd q (by decide), fun _ => hp⟩⟩⟩
      have wayM : ∀ Φ, _ → wp_X9_setBreak u a Φ := fun Φ hp => ⟨fun q => absurd q e1, fun _ => ⟨fun q => absurd q e2, fun _ => hp⟩⟩
      obtain ⟨n, r, hn, z1, z2, hr, f1, f2⟩ := h0.find a
      have z2 : u.1 29 = nI n := z2
      by_cases e3 : n = 16
      · have q1 : k.2.1 0 = 16 := by rw [z1, e3]; rfl
        have q2 : u.1 29 = 16 := by rw [z2, e3]; rfl
        exact ⟨0, k, _, Or.inl rfl, fun Φ hp => way Φ ⟨fun _ => ⟨fun _ => hp, fun q => absurd rfl q⟩, fun q => absurd q1 q⟩, fun Φ hp => wayM Φ ⟨fun _ => hp, fun q => absurd q2 q⟩, h0⟩
      · have q0 : ¬ nI n = 16 := fun q => e3 ((nI_eq (a := n) (b := 16) (by omega) (by omega)).mp q)
        have q1 : ¬ k.2.1 0 = 16 := by rw [z1]; exact q0
        have q2 : ¬ u.1 29 = 16 := by rw [z2]; exact q0
        rcases hr with rfl | ⟨j, hj, rfl⟩
        · refine ⟨1, _, _, Or.inr rfl, fun Φ hp => way Φ ⟨fun q => absurd q q1, fun _ => f1 _ ⟨fun _ => ⟨fun _ => ?_, fun q => absurd rfl q⟩, fun q => absurd rfl q⟩⟩, fun Φ hp => wayM Φ ⟨fun q => absurd q q2, fun _ => f2 _ ⟨fun _ => ?_, fun q => absurd neg1.2.1 q⟩⟩, h0.brk (n := n + 1) (by omega) (upd_eq (i := n) (x := a) h0.arr rfl)⟩
          · rw [z1]
            refine ⟨vp_in_nI (by omega) (by omega), fun q => absurd q (by decide), fun _ => ?_⟩
            rw [nI_clamp (by omega), nI_1]
            exact hp
          · rw [z2]
            refine ⟨vp_in_nI (by omega) (by omega), ?_⟩
            rw [nI_clamp (by omega), nI_1]
            exact hp
        · exact ⟨0, k, _, Or.inl rfl, fun Φ hp => way Φ ⟨fun q => absurd q q1, fun _ => f1 _ ⟨fun q => absurd q (nI_neg1 (by omega)), fun _ => ⟨fun q => absurd q (by decide), fun _ => ⟨fun _ => hp, fun q => absurd rfl q⟩⟩⟩⟩, fun Φ hp => wayM Φ ⟨fun q => absurd q q2, fun _ => f2 _ ⟨fun q => absurd q (nI_pos (by omega)), fun _ => hp⟩⟩, h0⟩
theorem call_clearBreak {t : Int32} {g : Nat} {k : S_BM} {u : S_Model} (h : RM t g k u) (a : Int32) : ∃ r k' u', bl1 r ∧ Cm2 (wp_X8_clearBreak k a) r k' ∧ Cm2 (wp_X9_clearBreak u a) r u' ∧ RM 0 (g + 6) k' u' := by
  have h0 := (h.m0 0).mono (g' := g + 6) (by omega)
  obtain ⟨n, r, hn, z1, z2, hr, f1, f2⟩ := h0.find a
  have z2 : u.1 29 = nI n := z2
  rcases hr with rfl | ⟨j, hj, rfl⟩
  · exact ⟨0, k, _, Or.inl rfl, fun Φ hp => f1 _ ⟨fun _ => ⟨(bl_ok (Or.inl rfl)).1, hp⟩, fun q => absurd rfl q⟩, fun Φ hp => f2 _ ⟨fun q => absurd q neg1.2.2, fun _ => hp⟩, h0⟩
  · obtain ⟨m, rfl⟩ : ∃ m, n = m + 1 := ⟨n - 1, by omega⟩
    refine ⟨1, _, _, Or.inr rfl, fun Φ hp => f1 _ ⟨fun q => absurd q (nI_neg1 (by omega)), fun _ => ?_⟩, fun Φ hp => f2 _ ⟨fun _ => ?_, fun q => absurd (nI_pos' (by omega)) q⟩, h0.brk (n := m) (by omega) (upd_eq (i := j) (x := k.2.2 m) (y := u.2.2 31 m) h0.arr (h0.arr m (by omega)))⟩
    · rw [z1, nI_pred]
      refine ⟨vp_in_nI (by omega) (by omega), vp_in_nI (by omega) (by omega), (bl_ok (Or.inr rfl)).1, ?_⟩
      rw [nI_clamp (by omega), nI_clamp (by omega)]
      exact hp
    · rw [z2, nI_pred]
      refine ⟨vp_in_nI (by omega) (by omega), fun v e => ⟨vp_in_nI (by omega) (by omega), ?_⟩⟩
      rw [e, nI_clamp (by omega), nI_clamp (by omega)]
      exact hp
