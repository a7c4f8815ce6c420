/-! what an operation that reads does with the byte -/
theorem by8_xor {x y : Int32} (hx : by8 x) (hy : by8 y) : by8 (x ^^^ y) := by
  obtain ⟨a, ha, rfl⟩ := by8_nI hx
  obtain ⟨b, hb, rfl⟩ := by8_nI hy
  have : nI a ^^^ nI b = nI (a ^^^ b) := by
    apply Int32.toBitVec_inj.mp
    show BitVec.ofNat 32 a ^^^ BitVec.ofNat 32 b = BitVec.ofNat 32 (a ^^^ b)
    apply BitVec.eq_of_getLsbD_eq
    intro i hi
    simp [BitVec.getLsbD_ofNat, hi]
  rw [this]
  exact by8_of (Nat.xor_lt_two_pow (n := 8) ha hb)
/-- a register becomes a byte, N and Z by it -/
theorem ld_c {s : S_Proc} {v : Int32} (hv : by8 v) : Cm2 (wp_X5_shown s v) v (sP s 4 (shP (s.1 4) v)) := by
  have := cmC_shown s v
  rw [hv.and] at this
  exact this
theorem RR.pbit {K : Kp} {g : Nat} {s : S_Proc} {u : S_Model} (h : RR K g s u) {f : Int32} (hf : (48 : Int32) &&& f = 0) : s.1 4 &&& f = u.1 3 &&& f := by
  rw [h.1.1.2.2.2.2.1, bit_48 _ hf]
theorem add0 (x : Int32) : x + 0 = x := by grind
def UseOK (K : Kp) (g : Nat) (s : S_Proc) (u : S_Model) (op what v : Int32) : Prop := ∃ s' e u', Cm1 (wp_X5_use s op v) s' ∧ (∀ T L : Int32, Cm2 (wp_X9_alu_88 u what v T L) (T + L + e) u') ∧ RR K g s' u' ∧ s'.1 13 = s.1 13 + e ∧ (e = 0 ∨ e = 1)
theorem use_ORA {K : Kp} {g : Nat} {s : S_Proc} {u : S_Model} (h : RR K g s u) {v : Int32} (hv : by8 v) : UseOK K g s u 0 0 v := by
  have e0 := h.1.1.1
  have hb : by8 (u.2.2 2 0 ||| v) := by8_or h.1.2.1.1 hv
  refine ⟨_, 0, _, fun Φ hp => ?_, fun T L Φ hp => ?_, (h.shown hb).r0 hb, (add0 _).symm, Or.inl rfl⟩
  · simp [wp_X5_use]; rw [e0]; exact ld_c hb _ hp
  · simp [wp_X9_alu_88]; rw [add0] at hp; exact ⟨vp04, cmM_tested u _ _ ⟨vp04, hp⟩⟩
theorem use_AND {K : Kp} {g : Nat} {s : S_Proc} {u : S_Model} (h : RR K g s u) {v : Int32} (_hv : by8 v) : UseOK K g s u 1 1 v := by
  have e0 := h.1.1.1
  have hb : by8 (u.2.2 2 0 &&& v) := by8_andl h.1.2.1.1 v
  refine ⟨_, 0, _, fun Φ hp => ?_, fun T L Φ hp => ?_, (h.shown hb).r0 hb, (add0 _).symm, Or.inl rfl⟩
  · simp [wp_X5_use]; rw [e0]; exact ld_c hb _ hp
  · simp [wp_X9_alu_88]; rw [add0] at hp; exact ⟨vp04, cmM_tested u _ _ ⟨vp04, hp⟩⟩
theorem use_EOR {K : Kp} {g : Nat} {s : S_Proc} {u : S_Model} (h : RR K g s u) {v : Int32} (hv : by8 v) : UseOK K g s u 2 2 v := by
  have e0 := h.1.1.1
  have hb : by8 (u.2.2 2 0 ^^^ v) := by8_xor h.1.2.1.1 hv
  refine ⟨_, 0, _, fun Φ hp => ?_, fun T L Φ hp => ?_, (h.shown hb).r0 hb, (add0 _).symm, Or.inl rfl⟩
  · simp [wp_X5_use]; rw [e0]; exact ld_c hb _ hp
  · simp [wp_X9_alu_88]; rw [add0] at hp; exact ⟨vp04, cmM_tested u _ _ ⟨vp04, hp⟩⟩
theorem use_LDA {K : Kp} {g : Nat} {s : S_Proc} {u : S_Model} (h : RR K g s u) {v : Int32} (hv : by8 v) : UseOK K g s u 4 5 v := by
  refine ⟨_, 0, _, fun Φ hp => ?_, fun T L Φ hp => ?_, (h.shown hv).r0 hv, (add0 _).symm, Or.inl rfl⟩
  · simp [wp_X5_use]; exact ld_c hv _ hp
  · simp [wp_X9_alu_88]; rw [add0] at hp; exact cmM_tested u _ _ ⟨vp04, hp⟩
/-- comparing -/
theorem RR.compare {K : Kp} {g : Nat} {s : S_Proc} {u : S_Model} (h : RR K g s u) (a v : Int32) : ∃ s' u', Cm1 (wp_X5_compare s a v) s' ∧ Cm1 (wp_X9_compare u a v) u' ∧ RR K g s' u' ∧ s'.1 13 = s.1 13 ∧ u'.1 11 = u.1 11 := by
  by_cases e : a < v
  · have h1 := h.mark 1 0 (by decide) (by8_of (n := 1) (by omega))
    have h2 := h1.shown (by8_and (a - v))
    refine ⟨_, _, fun Φ hp => ?_, fun Φ hp => ?_, h2, rfl, rfl⟩
    · exact ⟨fun _ => cmC_mark s 1 0 _ (cmC_shown _ _ _ hp), fun q => absurd e q⟩
    · exact ⟨fun _ => cmM_flag u 1 0 _ (cmM_tested _ _ _ hp), fun q => absurd e q⟩
  · have h1 := h.mark 1 1 (by decide) (by8_of (n := 1) (by omega))
    have h2 := h1.shown (by8_and (a - v))
    refine ⟨_, _, fun Φ hp => ?_, fun Φ hp => ?_, h2, rfl, rfl⟩
    · exact ⟨fun q => absurd q e, fun _ => cmC_mark s 1 1 _ (cmC_shown _ _ _ hp)⟩
    · exact ⟨fun q => absurd q e, fun _ => cmM_flag u 1 1 _ (cmM_tested _ _ _ hp)⟩
theorem use_CMP {K : Kp} {g : Nat} {s : S_Proc} {u : S_Model} (h : RR K g s u) {v : Int32} (_hv : by8 v) : UseOK K g s u 5 6 v := by
  obtain ⟨s', u', hc, hm, hR, e13, -⟩ := h.compare (s.1 0) v
  refine ⟨s', 0, u', fun Φ hp => ?_, fun T L Φ hp => ?_, hR, by rw [e13, add0], Or.inl rfl⟩
  · simp [wp_X5_use]; exact hc _ hp
  · simp [wp_X9_alu_88]; rw [add0] at hp
    rw [h.1.1.1] at hm
    exact ⟨vp04, hm _ hp⟩
/-- adding: the sum's flags -/
theorem cm_sign (s : S_Proc) (v x : Int32) : Cm1 (wp_X5_changesSign s v x) (if ((s.1 0 ^^^ x) &&& (v ^^^ x)) &&& 128 = 0 then 0 else 1) := by
  intro Φ hp
  refine fun v1 e1 => ⟨fun q => ?_, fun q => ?_⟩
  · rwa [if_pos (e1.symm.trans q)] at hp
  · rwa [if_neg (fun z => q (e1.trans z))] at hp
theorem cm_over (u : S_Model) (v x : Int32) : Cm1 (wp_X9_overflows u v x) (mI u 3 (fl (u.1 3) 64 (if ((u.2.2 2 0 ^^^ x) &&& (v ^^^ x)) &&& 128 = 0 then 0 else 1))) := by
  intro Φ hp
  refine ⟨vp04, fun v1 e1 => ⟨fun q => ?_, fun q => ?_⟩⟩
  · rw [e1] at q
    have q : ((u.2.2 2 0 ^^^ x) &&& (v ^^^ x)) &&& 128 = 0 := q
    rw [if_pos q] at hp
    exact cmM_flag u 64 0 _ hp
  · rw [e1] at q
    have q : ¬ ((u.2.2 2 0 ^^^ x) &&& (v ^^^ x)) &&& 128 = 0 := q
    rw [if_neg q] at hp
    exact cmM_flag u 64 1 _ hp
theorem fl_bit8 {x : Int32} (hx : by8 x) (on : Int32) : (fl x 64 on &&& 8 = x &&& 8) ∧ (fl x 1 on &&& 8 = x &&& 8) := by
  obtain ⟨n, hn, rfl⟩ := by8_nI hx
  have : ∀ n : Fin 256, (fl (nI n.val) 64 0 &&& 8 = nI n.val &&& 8 ∧ fl (nI n.val) 1 0 &&& 8 = nI n.val &&& 8) ∧ (fl (nI n.val) 64 1 &&& 8 = nI n.val &&& 8 ∧ fl (nI n.val) 1 1 &&& 8 = nI n.val &&& 8) := by decide +kernel
  have t := this ⟨n, hn⟩
  unfold fl at t ⊢
  by_cases e : on = 0
  · subst e; exact t.1
  · simp only [e, if_false]
    exact t.2
theorem nz_bit8 {x : Int32} (hx : by8 x) (v : Int32) : nzM x v &&& 8 = x &&& 8 := by
  obtain ⟨n, hn, rfl⟩ := by8_nI hx
  have t : ∀ n : Fin 256, fl (fl (nI n.val) 128 0) 2 0 &&& 8 = nI n.val &&& 8 ∧ fl (fl (nI n.val) 128 0) 2 1 &&& 8 = nI n.val &&& 8 ∧ fl (fl (nI n.val) 128 1) 2 0 &&& 8 = nI n.val &&& 8 ∧ fl (fl (nI n.val) 128 1) 2 1 &&& 8 = nI n.val &&& 8 := by decide +kernel
  have t := t ⟨n, hn⟩
  unfold nzM
  split <;> split
  · exact t.2.1
  · exact t.1
  · exact t.2.2.2
  · exact t.2.2.1
theorem cm_is (u : S_Model) (f : Int32) : Cm1 (wp_X9_is u f) (if u.1 3 &&& f = 0 then 0 else 1) := by
  intro Φ hp
  refine ⟨fun q => ?_, fun q => ?_⟩
  · rwa [if_pos q] at hp
  · rwa [if_neg q] at hp
/-- what both do behind the sum x: V, C, then N, Z and A -/
theorem RR.sum {K : Kp} {g : Nat} {s : S_Proc} {u : S_Model} (h : RR K g s u) (V x : Int32) : RR K g (sP (sP (sP (sP s 4 (fl (s.1 4) 64 V)) 4 (fl (fl (s.1 4) 64 V) 1 (if x ≤ 255 then 0 else 1))) 4 (shP (fl (fl (s.1 4) 64 V) 1 (if x ≤ 255 then 0 else 1)) (x &&& 255))) 0 (x &&& 255)) (mR (mI (mI (mI u 3 (fl (u.1 3) 64 V)) 3 (fl (fl (u.1 3) 64 V) 1 (if x ≤ 255 then 0 else 1))) 3 (nzM (fl (fl (u.1 3) 64 V) 1 (if x ≤ 255 then 0 else 1)) (x &&& 255))) 0 (x &&& 255)) :=
  (((h.mark 64 V (by decide) (by8_of (n := 64) (by omega))).mark 1 (if x ≤ 255 then 0 else 1) (by decide) (by8_of (n := 1) (by omega))).shown (by8_and x)).r0 (by8_and x)
