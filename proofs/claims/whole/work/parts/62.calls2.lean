/-! the calls that may throw -/
theorem cm_fails0 (u : S_Model) : Cm2 (wp_X9_fails u 0) 0 (mI u 0 0) := fun Φ hp => ⟨fun _ => ⟨rfl, hp⟩, fun q => absurd rfl q⟩
theorem cm_fails1 (u : S_Model) : Cm2 (wp_X9_fails u 1) 1 (mI u 0 1) := fun Φ hp => ⟨fun q => absurd q (by decide), fun _ => ⟨rfl, hp⟩⟩
theorem look_r {u : S_Model} {a : Int32} {Φ : Int32 → S_Model → Prop} (hp : Φ 0 (mI u 0 1)) : wp_X9_look_11 u a Φ := by
  unfold wp_X9_look_11 wp_X9_look_16
  exact cm_fails1 u _ ⟨fun q => absurd q (by decide), fun _ => hp⟩
theorem run_r {u : S_Model} {a : Int32} {Φ : Int32 → S_Model → Prop} (hp : Φ 0 (mI u 0 1)) : wp_X9_run_12 u a Φ := by
  unfold wp_X9_run_12 wp_X9_run_17
  exact cm_fails1 u _ ⟨fun q => absurd q (by decide), fun _ => hp⟩
theorem set_r {u : S_Model} {a v : Int32} {Φ : S_Model → Prop} (hp : Φ (mI u 0 1)) : wp_X9_set_10 u a v Φ := by
  unfold wp_X9_set_10 wp_X9_set_15
  exact cm_fails1 u _ ⟨fun q => absurd q (by decide), fun _ => hp⟩
theorem load_r {u : S_Model} {a n : Int32} {x : Int64} {Φ : S_Model → Prop} (hp : Φ (mI u 0 1)) : wp_X9_load_27 u a x n Φ := by
  unfold wp_X9_load_27 wp_X9_load_32
  exact cm_fails1 u _ ⟨fun q => absurd q (by decide), fun _ => hp⟩
/-- either both answer, or both refuse -/
def Ok2 {α : Type} (C : (α → S_BM → Prop) → Prop → Prop) (P : (α → S_Model → Prop) → Prop) (g : Nat) (k : S_BM) : Prop :=
  (∃ r k' u', (∀ (Φ : α → S_BM → Prop) (Ψ : Prop), Φ r k' → C Φ Ψ) ∧ Cm2 P r u' ∧ RM 0 g k' u') ∨ (∃ r u', (∀ (Φ : α → S_BM → Prop) (Ψ : Prop), Ψ → C Φ Ψ) ∧ Cm2 P r u' ∧ RM 1 g k u')
def Ok1 (C : (S_BM → Prop) → Prop → Prop) (P : (S_Model → Prop) → Prop) (g : Nat) (k : S_BM) : Prop :=
  (∃ k' u', (∀ (Φ : S_BM → Prop) (Ψ : Prop), Φ k' → C Φ Ψ) ∧ Cm1 P u' ∧ RM 0 g k' u') ∨ (∃ u', (∀ (Φ : S_BM → Prop) (Ψ : Prop), Ψ → C Φ Ψ) ∧ Cm1 P u' ∧ RM 1 g k u')
theorem call_look {t : Int32} {g : Nat} {k : S_BM} {u : S_Model} (h : RM t g k u) (a : Int32) : Ok2 (wp_X8_look k a) (wp_X9_look u a) (g + 6) k := by
  have h1 := (h.m0 1).mono (g' := g + 6) (by omega)
  have h0 := (h.m0 0).mono (g' := g + 6) (by omega)
  by_cases e1 : a < 0
  · exact Or.inr ⟨0, _, fun Φ Ψ hp => ⟨fun _ => ⟨fun _ => hp, fun q => absurd rfl q⟩, fun q => absurd e1 q⟩, fun Φ hp => ⟨fun _ => look_r hp, fun q => absurd e1 q⟩, h1⟩
  · by_cases e2 : a ≤ 65535
    · obtain ⟨B, hR, -⟩ := h0
      obtain ⟨v, -, c1, c2⟩ := sim_look hR.2.2.2 (a := a) ⟨by grind, e2⟩
      exact Or.inl ⟨v, k, _, fun Φ Ψ hp => ⟨fun q => absurd q e1, fun _ => ⟨fun q => absurd q (by grind), fun _ => ⟨fun q => absurd q (by decide), fun _ => c1 _ hp⟩⟩⟩, fun Φ hp => ⟨fun q => absurd q e1, fun _ => ⟨fun _ => cm_fails0 u _ ⟨fun _ => c2 _ hp, fun q => absurd rfl q⟩, fun q => absurd e2 q⟩⟩, (h.m0 0).mono (by omega)⟩
    · exact Or.inr ⟨0, _, fun Φ Ψ hp => ⟨fun q => absurd q e1, fun _ => ⟨fun _ => ⟨fun _ => hp, fun q => absurd rfl q⟩, fun q => absurd (by grind) q⟩⟩, fun Φ hp => ⟨fun q => absurd q e1, fun _ => ⟨fun q => absurd q e2, fun _ => look_r hp⟩⟩, h1⟩
theorem RM.proc {t : Int32} {g : Nat} {k : S_BM} {u u' : S_Model} {s : S_Proc} (h : RM t g k u) (f : ∀ K : Kp, RR K g k.1 u → RR K g s u') : RM t g (s, k.2) u' := by
  obtain ⟨B, h1, h2⟩ := h
  exact ⟨B, f _ h1, h2⟩
theorem call_set {t : Int32} {g : Nat} {k : S_BM} {u : S_Model} (h : RM t g k u) (a v : Int32) : Ok1 (wp_X8_set k a v) (wp_X9_set u a v) (g + 6) k := by
  have h1 := (h.m0 1).mono (g' := g + 6) (by omega)
  have h0 := (h.m0 0).mono (g' := g + 6) (by omega)
  have way : ∀ Φ, 0 ≤ a → a ≤ 5 → _ → wp_X9_set u a v Φ := fun Φ z1 z2 hp => ⟨fun q => absurd q (by grind), fun _ => ⟨fun _ => cm_fails0 u _ ⟨fun _ => hp, fun q => absurd rfl q⟩, fun q => absurd z2 q⟩⟩
  have b8 := by8_and v
  rcases reg_cases a with rfl | rfl | rfl | rfl | rfl | rfl | ⟨n0, n1, n2, n3, n4, n5, n6⟩
  · exact Or.inl ⟨_, _, fun Φ Ψ hp => by simp [wp_X8_set]; exact hp, fun Φ hp => way Φ (by decide) (by decide) ⟨fun q => absurd q (by decide), fun _ => ⟨fun q => absurd q (by decide), fun _ => ⟨vp_in_nI (n := 0) (by omega) (by omega), hp⟩⟩⟩, h0.proc (fun K hR => hR.r0 b8)⟩
  · exact Or.inl ⟨_, _, fun Φ Ψ hp => by simp [wp_X8_set]; exact hp, fun Φ hp => way Φ (by decide) (by decide) ⟨fun q => absurd q (by decide), fun _ => ⟨fun q => absurd q (by decide), fun _ => ⟨vp_in_nI (n := 1) (by omega) (by omega), hp⟩⟩⟩, h0.proc (fun K hR => hR.r1 b8)⟩
  · exact Or.inl ⟨_, _, fun Φ Ψ hp => by simp [wp_X8_set]; exact hp, fun Φ hp => way Φ (by decide) (by decide) ⟨fun q => absurd q (by decide), fun _ => ⟨fun q => absurd q (by decide), fun _ => ⟨vp_in_nI (n := 2) (by omega) (by omega), hp⟩⟩⟩, h0.proc (fun K hR => hR.r2 b8)⟩
  · exact Or.inl ⟨_, _, fun Φ Ψ hp => by simp [wp_X8_set]; exact hp, fun Φ hp => way Φ (by decide) (by decide) ⟨fun q => absurd q (by decide), fun _ => ⟨fun q => absurd q (by decide), fun _ => ⟨vp_in_nI (n := 3) (by omega) (by omega), hp⟩⟩⟩, h0.proc (fun K hR => hR.r3 b8)⟩
  · refine Or.inl ⟨_, _, fun Φ Ψ hp => by simp [wp_X8_set]; exact hp, fun Φ hp => way Φ (by decide) (by decide) ⟨fun q => absurd q (by decide), fun _ => ⟨fun _ => hp, fun q => absurd rfl q⟩⟩, h0.proc (fun K hR => ?_)⟩
    have := hR.p (x := (v &&& 255) ||| 48) (by8_or b8 (by8_of (n := 48) (by omega)))
    rw [or_idem] at this
    exact this
  · exact Or.inl ⟨_, _, fun Φ Ψ hp => by simp [wp_X8_set]; exact hp, fun Φ hp => way Φ (by decide) (by decide) ⟨fun _ => hp, fun q => absurd rfl q⟩, h0.proc (fun K hR => hR.pc (wd16_and v))⟩
  · refine Or.inr ⟨_, fun Φ Ψ hp => by simp [wp_X8_set, n0, n1, n2, n3, n4, n5]; exact hp, fun Φ hp => ?_, h1⟩
    have z : wp_X9_set_10 u a v Φ := set_r hp
    exact ⟨fun _ => z, fun q => ⟨fun q2 => absurd n6 (by grind), fun _ => z⟩⟩
/-! run -/
theorem run_loop {n : Nat} (hn : n ≤ 100000) : ∀ (d i g : Nat) (k : S_BM) (u : S_Model), i + d = n → g + 6 * d < 2 ^ 30 - 16 → RM 0 g k u → ∃ r k' u', (∀ Φ, Φ r k' → wp_X8_run_34 (d + 1) k (nI n) (nI i) Φ) ∧ (∀ Φ, Φ r u' → wp_X9_run_36 (d + 1) u (nI n) (nI i) Φ) ∧ RM 0 (g + 6 * d) k' u' := by
  intro d
  induction d with
  | zero =>
    intro i g k u hi hg h
    obtain rfl : i = n := by omega
    refine ⟨0, k, u, fun Φ hp => ?_, fun Φ hp => ?_, h.mono (by omega)⟩
    · rw [wp_X8_run_34]
      exact ⟨fun _ => hp, fun q => absurd (nI_le (Nat.le_refl i) (by omega)) q⟩
    · rw [wp_X9_run_36]
      exact ⟨fun _ => hp, fun q => absurd (nI_le (Nat.le_refl i) (by omega)) q⟩
  | succ d ih =>
    intro i g k u hi hg h
    obtain ⟨B, h1, h2⟩ := h
    obtain ⟨m, s', u', -, c1, c2, h3⟩ := sim_step (by omega) h1
    have h4 : RM 0 (g + 6) (s', k.2) u' := ⟨B, h3, h2⟩
    have e7 : s'.1 7 = u'.1 7 := h3.1.1.2.2.2.2.2.2.2.1
    have e5 : s'.1 5 = u'.1 4 := h3.1.1.2.2.2.2.2.1
    have lt : ¬ nI n ≤ nI i := nI_ge (by omega) (by omega)
    by_cases q7 : u'.1 7 = 0
    · obtain ⟨b, r, hb, z1, z2, hr, f1, f2⟩ := h4.find (u'.1 4)
      rcases hr with rfl | ⟨j, hj, rfl⟩
      · obtain ⟨r, k', u2, k1, k2, k3⟩ := ih (i + 1) (g + 6) (s', k.2) u' (by omega) (by omega) h4
        refine ⟨r, k', u2, fun Φ hp => ?_, fun Φ hp => ?_, k3.mono (by omega)⟩
        · rw [wp_X8_run_34]
          refine ⟨fun q => absurd q lt, fun _ => c1 _ ⟨fun _ => ?_, fun q => absurd (e7.trans q7) q⟩⟩
          rw [e5]
          refine f1 _ ⟨fun _ => ⟨fun _ v e => ?_, fun q => absurd rfl q⟩, fun q => absurd rfl q⟩
          rw [e, nI_1]; exact k1 Φ hp
        · rw [wp_X9_run_36]
          refine ⟨fun q => absurd q lt, fun _ => c2 _ ⟨fun _ => f2 _ ⟨fun _ v e => ?_, fun q => absurd neg1.2.1 q⟩, fun q => absurd q7 q⟩⟩
          rw [e, nI_1]; exact k2 Φ hp
      · refine ⟨1, (s', k.2), u', fun Φ hp => ?_, fun Φ hp => ?_, h4.mono (by omega)⟩
        · rw [wp_X8_run_34]
          refine ⟨fun q => absurd q lt, fun _ => c1 _ ⟨fun _ => ?_, fun q => absurd (e7.trans q7) q⟩⟩
          rw [e5]
          exact f1 _ ⟨fun q => absurd q (nI_neg1 (by omega)), fun _ => ⟨fun q => absurd q (by decide), fun _ => hp⟩⟩
        · rw [wp_X9_run_36]
          exact ⟨fun q => absurd q lt, fun _ => c2 _ ⟨fun _ => f2 _ ⟨fun q => absurd q (nI_pos (by omega)), fun _ => hp⟩, fun q => absurd q7 q⟩⟩
    · refine ⟨2, (s', k.2), u', fun Φ hp => ?_, fun Φ hp => ?_, h4.mono (by omega)⟩
      · rw [wp_X8_run_34]
        exact ⟨fun q => absurd q lt, fun _ => c1 _ ⟨fun q => absurd (e7.symm.trans q) q7, fun _ => hp⟩⟩
      · rw [wp_X9_run_36]
        exact ⟨fun q => absurd q lt, fun _ => c2 _ ⟨fun q => absurd q q7, fun _ => hp⟩⟩
theorem call_run {t : Int32} {g : Nat} (hg : g + 600000 < 2 ^ 30 - 16) {k : S_BM} {u : S_Model} (h : RM t g k u) (a : Int32) : Ok2 (wp_X8_run k a) (wp_X9_run u a) (g + 600000) k := by
  have h1 := (h.m0 1).mono (g' := g + 600000) (by omega)
  by_cases e1 : a < 0
  · exact Or.inr ⟨0, _, fun Φ Ψ hp => ⟨fun _ => hp, fun q => absurd e1 q⟩, fun Φ hp => ⟨fun _ => run_r hp, fun q => absurd e1 q⟩, h1⟩
  · by_cases e2 : a ≤ 100000
    · obtain ⟨n, hn, rfl⟩ := nI_of2 (x := a) (M := 100000) (n := 100000) rfl e1 e2
      have h0 := h.m0 0
      have e7 : k.1.1 7 = u.1 7 := by
        obtain ⟨B, hR, -⟩ := h
        exact hR.1.1.2.2.2.2.2.2.2.1
      by_cases q7 : u.1 7 = 0
      · obtain ⟨r, k', u', k1, k2, k3⟩ := run_loop hn n 0 g k _ (by omega) (by omega) h0
        exact Or.inl ⟨r, k', u', fun Φ Ψ hp => ⟨fun q => absurd q e1, fun _ => ⟨fun _ => ⟨fun _ => ⟨_, k1 Φ hp⟩, fun q => absurd (e7.trans q7) q⟩, fun q => absurd e2 q⟩⟩, fun Φ hp => ⟨fun q => absurd q e1, fun _ => ⟨fun _ => cm_fails0 u _ ⟨fun _ => ⟨fun _ => ⟨_, k2 Φ hp⟩, fun q => absurd q7 q⟩, fun q => absurd rfl q⟩, fun q => absurd e2 q⟩⟩, k3.mono (by omega)⟩
      · exact Or.inl ⟨2, k, _, fun Φ Ψ hp => ⟨fun q => absurd q e1, fun _ => ⟨fun _ => ⟨fun q => absurd (e7.symm.trans q) q7, fun _ => hp⟩, fun q => absurd e2 q⟩⟩, fun Φ hp => ⟨fun q => absurd q e1, fun _ => ⟨fun _ => cm_fails0 u _ ⟨fun _ => ⟨fun q => absurd q q7, fun _ => hp⟩, fun q => absurd rfl q⟩, fun q => absurd e2 q⟩⟩, h0.mono (by omega)⟩
    · exact Or.inr ⟨0, _, fun Φ Ψ hp => ⟨fun q => absurd q e1, fun _ => ⟨fun q => absurd q e2, fun _ => hp⟩⟩, fun Φ hp => ⟨fun q => absurd q e1, fun _ => ⟨fun q => absurd q e2, fun _ => run_r hp⟩⟩, h1⟩
/-! load -/
theorem m255 : ∀ i : Fin 32, (255#32).getLsbD i.val = decide (i.val < 8) := by decide
theorem bv_byte (x : BitVec 64) (k : Nat) (hk : k + 8 ≤ 64) : BitVec.signExtend 32 (x >>> k) &&& 255#32 = BitVec.signExtend 32 (x.sshiftRight k) &&& 255#32 := by
  apply BitVec.eq_of_getLsbD_eq
  intro i hi
  rw [BitVec.getLsbD_and, BitVec.getLsbD_and, m255 ⟨i, hi⟩]
  by_cases h8 : i < 8
  · have h1 : i < 64 := by omega
    have h2 : k + i < 64 := by omega
    have h3 : ¬ 64 ≤ i := by omega
    simp [BitVec.getLsbD_signExtend, BitVec.getElem_sshiftRight, h1, h2, h3]
  · simp [h8]
theorem byte_same (x : Int64) {s : Nat} (hs : s ≤ 7) : (x.toUInt64 >>> ((nI (8 * s)).toInt64.toUInt64 &&& Int64.toUInt64 63)).toInt64.toInt32 &&& 255 = ((x >>> ((nI (8 * s)).toInt64 &&& 63)) &&& 255).toInt32 := by
  have : s = 0 ∨ s = 1 ∨ s = 2 ∨ s = 3 ∨ s = 4 ∨ s = 5 ∨ s = 6 ∨ s = 7 := by omega
  rcases this with rfl | rfl | rfl | rfl | rfl | rfl | rfl | rfl
  all_goals
    apply Int32.toBitVec_inj.mp
    simp [nI]
    try exact bv_byte _ _ (by omega)
theorem by8_byte (x : Int64) (y : Int32) : by8 ((x.toInt32 &&& 255)) := by8_and _
theorem load_loop {A n : Nat} (hn : n ≤ 8) (hA : A + n ≤ 65536) (x : Int64) (g : Nat) : ∀ (d i : Nat) (k : S_BM) (u : S_Model), i + d = n → RM 0 g k u → ∃ k' u', (∀ Φ, Φ k' → wp_X8_load_49 (d + 1) k (nI A) x (nI n) (nI i) Φ) ∧ (∀ Φ, Φ u' → wp_X9_load_42 (d + 1) u (nI A) x (nI n) (nI i) Φ) ∧ RM 0 g k' u' := by
  intro d
  induction d with
  | zero =>
    intro i k u hi h
    obtain rfl : i = n := by omega
    refine ⟨k, u, fun Φ hp => ?_, fun Φ hp => ?_, h⟩
    · rw [wp_X8_load_49]
      exact ⟨fun _ => hp, fun q => absurd (nI_le (Nat.le_refl i) (by omega)) q⟩
    · rw [wp_X9_load_42]
      exact ⟨fun _ => hp, fun q => absurd (nI_le (Nat.le_refl i) (by omega)) q⟩
  | succ d ih =>
    intro i k u hi h
    have lt : ¬ nI n ≤ nI i := nI_ge (by omega) (by omega)
    have ea : nI A + nI i = nI (A + i) := nI_add _ _
    have wa : wd16 (nI (A + i)) := wd16_of (by omega)
    have es : (8 : Int32) * (nI n - 1 - nI i) = nI (8 * (n - 1 - i)) := by
      obtain ⟨m, rfl⟩ : ∃ m, n = m + 1 := ⟨n - 1, by omega⟩
      rw [nI_pred, pk_sub (by omega), show (8 : Int32) = nI 8 from rfl, pk_mul, show m + 1 - 1 - i = m - i by omega]
    have hbyte := byte_same x (s := n - 1 - i) (by omega)
    by_cases hd : nI (A + i) < 40960 ∨ 49152 ≤ nI (A + i)
    · obtain ⟨B, hR, hB⟩ := h
      obtain ⟨j, hj, ej⟩ := cellI_in hR.2.2.2.1.2 wa hd
      obtain ⟨w', c1, hM⟩ := cm_store hR.2.2.2.2.2.2 hj (v := (x.toUInt64 >>> ((nI (8 * (n - 1 - i))).toInt64.toUInt64 &&& Int64.toUInt64 63)).toInt64.toInt32 &&& 255) (by8_and _)
      obtain ⟨k', u', k1, k2, k3⟩ := ih (i + 1) ((k.1.1, k.1.2.1, k.1.2.2.1, (k.1.2.2.2.1, k.1.2.2.2.2.1, k.1.2.2.2.2.2.1, w')), k.2) (u.1, u.2.1, va_up u.2.2 1 (upd (u.2.2 1) j ((x.toUInt64 >>> ((nI (8 * (n - 1 - i))).toInt64.toUInt64 &&& Int64.toUInt64 63)).toInt64.toInt32 &&& 255))) (by omega) ⟨B, ⟨hR.1, hR.2.1, hR.2.2.1, hR.2.2.2.1, hR.2.2.2.2.1, hR.2.2.2.2.2.1, hM⟩, hB⟩
      refine ⟨k', u', fun Φ hp => ?_, fun Φ hp => ?_, k3⟩
      · rw [wp_X8_load_49, es, ea]
        refine ⟨fun q => absurd q lt, fun _ v2 e2 => ?_⟩
        rw [e2]
        refine cm_isDev _ _ ?_
        rw [show (if nI (A + i) < 40960 then (0 : Int32) else if 49152 ≤ nI (A + i) then 0 else 1) = 0 by split; rfl; split; rfl; exact absurd hd (by grind)]
        refine ⟨fun _ => cm_cellC _ _ _ ?_, fun q => absurd rfl q⟩
        rw [hR.2.2.2.1.1, ej]
        refine c1 _ (fun v4 e4 => ?_)
        rw [e4, nI_1]
        exact k1 Φ hp
      · rw [wp_X9_load_42, es, ea]
        refine ⟨fun q => absurd q lt, fun _ => cm_cellM u _ hd _ ?_⟩
        rw [ej]
        refine ⟨fun q => absurd q (nI_pos (by omega)), fun _ v5 e5 => ⟨vp_in_nI (by omega) (by omega), fun v6 e6 => ?_⟩⟩
        rw [e6, nI_1, e5, ← hbyte, nI_clamp (by omega)]
        exact k2 Φ hp
    · obtain ⟨k', u', k1, k2, k3⟩ := ih (i + 1) k u (by omega) h
      refine ⟨k', u', fun Φ hp => ?_, fun Φ hp => ?_, k3⟩
      · rw [wp_X8_load_49, es, ea]
        refine ⟨fun q => absurd q lt, fun _ v2 e2 => ?_⟩
        refine cm_isDev _ _ ?_
        rw [show (if nI (A + i) < 40960 then (0 : Int32) else if 49152 ≤ nI (A + i) then 0 else 1) = 1 by rw [if_neg (by grind), if_neg (by grind)]]
        refine ⟨fun q => absurd q (by decide), fun _ v4 e4 => ?_⟩
        rw [e4, nI_1]
        exact k1 Φ hp
      · rw [wp_X9_load_42, es, ea]
        refine ⟨fun q => absurd q lt, fun _ => cm_cellN u _ (by grind) (by grind) _ ⟨fun _ v4 e4 => ?_, fun q => absurd neg1.2.1 q⟩⟩
        rw [e4, nI_1]
        exact k2 Φ hp
theorem call_load {t : Int32} {g : Nat} {k : S_BM} {u : S_Model} (h : RM t g k u) (a : Int32) (x : Int64) (n : Int32) : Ok1 (wp_X8_load k a x n) (wp_X9_load u a x n) (g + 6) k := by
  have h1 := (h.m0 1).mono (g' := g + 6) (by omega)
  by_cases e1 : n < 1
  · exact Or.inr ⟨_, fun Φ Ψ hp => ⟨fun _ => hp, fun q => absurd e1 q⟩, fun Φ hp => ⟨fun _ => load_r hp, fun q => absurd e1 q⟩, h1⟩
  · by_cases e2 : n ≤ 8
    · have e2' : ¬ 8 < n := by grind
      by_cases e3 : a < 0
      · exact Or.inr ⟨_, fun Φ Ψ hp => ⟨fun q => absurd q e1, fun _ => ⟨fun _ => ⟨fun _ => hp, fun q => absurd e3 q⟩, fun q => absurd e2 q⟩⟩, fun Φ hp => ⟨fun q => absurd q e1, fun _ => ⟨fun q => absurd q e2', fun _ => ⟨fun _ => load_r hp, fun q => absurd e3 q⟩⟩⟩, h1⟩
      · by_cases e4 : a ≤ 65536 - n
        · obtain ⟨N, hN, rfl⟩ := nI_of2 (x := n) (M := 8) (n := 8) rfl (by grind) e2
          obtain ⟨A, hA, rfl⟩ := nI_of2 (x := a) (M := 65536) (n := 65536) rfl e3 (by grind)
          have hAN : A ≤ 65536 - N := by
            rw [show (65536 : Int32) = nI 65536 from rfl, pk_sub (by omega)] at e4
            exact (nI_leI (by omega) (by omega)).mp e4
          obtain ⟨k', u', k1, k2, k3⟩ := load_loop (A := A) hN (by omega) x (g + 6) N 0 k _ (by omega) ((h.m0 0).mono (by omega))
          exact Or.inl ⟨k', u', fun Φ Ψ hp => ⟨fun q => absurd q e1, fun _ => ⟨fun _ => ⟨fun q => absurd q e3, fun _ => ⟨fun _ => ⟨_, k1 Φ hp⟩, fun q => absurd e4 q⟩⟩, fun q => absurd e2 q⟩⟩, fun Φ hp => ⟨fun q => absurd q e1, fun _ => ⟨fun q => absurd q e2', fun _ => ⟨fun q => absurd q e3, fun _ => ⟨fun _ => cm_fails0 u _ ⟨fun _ => ⟨_, k2 Φ hp⟩, fun q => absurd rfl q⟩, fun q => absurd e4 q⟩⟩⟩⟩, k3⟩
        · exact Or.inr ⟨_, fun Φ Ψ hp => ⟨fun q => absurd q e1, fun _ => ⟨fun _ => ⟨fun q => absurd q e3, fun _ => ⟨fun q => absurd q e4, fun _ => hp⟩⟩, fun q => absurd e2 q⟩⟩, fun Φ hp => ⟨fun q => absurd q e1, fun _ => ⟨fun q => absurd q e2', fun _ => ⟨fun q => absurd q e3, fun _ => ⟨fun q => absurd q e4, fun _ => load_r hp⟩⟩⟩⟩, h1⟩
    · exact Or.inr ⟨_, fun Φ Ψ hp => ⟨fun q => absurd q e1, fun _ => ⟨fun q => absurd q e2, fun _ => hp⟩⟩, fun Φ hp => ⟨fun q => absurd q e1, fun _ => ⟨fun _ => load_r hp, fun q => absurd (by grind) q⟩⟩, h1⟩
