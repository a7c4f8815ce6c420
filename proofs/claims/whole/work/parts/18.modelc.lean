def wp_X9_compare_12 (σ : S_Model) (x1 : Int32) (x2 : Int32) (s1 : Int32) (s2 : Int32) (Φ : S_Model → Prop) : Prop := wp_X9_flag σ s1 s2 (fun u1 => wp_X9_tested u1 ((x1 - x2) &&& (255 : Int32)) (fun r2 u3 => Φ u3))
def wp_X9_compare (σ : S_Model) (a1 : Int32) (a2 : Int32) (Φ : S_Model → Prop) : Prop := ((a1 < a2 → (wp_X9_compare_12 σ a1 a2 1 0 Φ)) ∧ (¬ a1 < a2 → (wp_X9_compare_12 σ a1 a2 1 1 Φ)))
set_option maxHeartbeats 4000000 in
set_option maxRecDepth 100000 in
theorem c_X9_compare (l : Launch) (dC : Nat → ClassId) (dI : Nat → Nat → Nat) (cI cJ : ClassId) (h : Nat → Nat) (sz : Nat) {σ : S_Model} {a1 : Int32} {a2 : Int32} {Φ : S_Model → Prop} (hok : wp_X9_compare σ a1 a2 Φ) : Met l yX9_compare wsX9_compare ({ frames := 2, cells := 0, slots := 0, locals := 43 }) (va_Pc [.ref (h 13), .int a1, .int a2] (cpre dC dI cI cJ (w_Model h cI cJ σ) sz)) (va_Qv Φ (fun u => cpost dC dI cI cJ (va_A (w_Model h cI cJ σ) sz) (w_Model h cI cJ u)) (va_A (w_Model h cI cJ σ) sz)) 0 0 (va_A (w_Model h cI cJ σ) sz) := by
  refine Met.ofW (cc := cX9_compare) (maxL := 3) (ret := none) (by decide) rfl ?_
  intro p e s m args below meth c s₁ B hml hv
  obtain ⟨rfl, hsz, hP, hK, hD0⟩ := hv
  have hx := B.exec
  have hb := B.bytes
  have hr := B.returns
  have hts := atoms_spec (ws := wsX9_compare) B.pre
  have hown : s.vm.findClass RX9 = some m.cls := findClass_of_methodNamed B.named
  have hlocks := B.notSynchronized
  subst hsz
  have hD := hD0.self (sz := s.heap.size)
  generalize hAe : va_A (w_Model h cI cJ σ) s.heap.size = A at hD ⊢
  have hA : ∀ q : Nat, s.heap.size ≤ q → A q := fun q h => by rw [← hAe]; exact Or.inr h
  clear hD0 hAe
  have hS : va_S A s.heap s.heap [] := va_S.rf
  have b12 : ∀ (σ : S_Model) (x1 : Int32) (x2 : Int32) (s1 : Int32) (s2 : Int32), wp_X9_compare_12 σ x1 x2 s1 s2 Φ → ∀ (H : Heap) (locs : List Loc), va_P (dC, dI) vwCl (w_Model h cI cJ σ) H → va_D A (w_Model h cI cJ σ) → va_S A s.heap H locs → ∀ ls : Array Slot, lv_has ls 3 [(0, .ref (h 13)), (1, .int x1), (2, .int x2)] → W p l e (headSpec wsX9_compare { frames := 2, cells := 0, slots := 0, locals := 43 }).room s m ([.ref (h 13), .int a1, .int a2] : List Value).toArray below meth c H locs 0 0 (MQ below (va_Qv Φ (fun u => cpost dC dI cI cJ A (w_Model h cI cJ u)) A) ([.ref (h 13), .int a1, .int a2] : List Value).toArray s 0 0 A) (F0 m 12 ls [.int s2, .int s1, .ref (h 13)]) := by
    intro σ x1 x2 s1 s2 hok H locs hP hD hS ls hl
    unfold wp_X9_compare_12 at hok
    have hPc := hP
    have hDc := hD
    have hFc := va_free (wc := w_Model h cI cJ σ) hD hS hA [0, 1, 2, 3, 4, 5, 6] rfl
    refine va_callv (va_runV (As := [.int s1, .int s2]) (rest := []) ⟨hx, hb, hml, hown, hts⟩ (c_X9_flag l dC dI cI cJ h _ hok) (cwV 2 hts (tb_gV tw_4_85 tw_4_87 tw_p_42 tw_1_9 tw_4_88) rfl rfl rfl (by decide +kernel) ⟨Nat.le_of_ble_eq_true rfl, Nat.le_of_ble_eq_true rfl⟩) (cpre_V (ci := 8) (q0 := 0) hK hPc hDc rfl rfl) rfl rfl hl.1 rfl (lv_room (Nat.le_of_ble_eq_true rfl)) dX9_compare_12 ⟨Nat.le_of_ble_eq_true rfl, Nat.le_of_ble_eq_true rfl⟩) hS (fun q _ h => hFc q h) hFc (fun u1 t H1 locs ht hvm hok hB hz1 hk1 hS => ?_)
    obtain ⟨hP, hD⟩ := cjoin_w ht hB hFc
    refine lv_aload_n hx hb dX9_compare_15 rfl (lv_at hl 0 rfl) ?_
    refine lv_iload_n hx hb dX9_compare_16 rfl (lv_at hl 1 rfl) ?_
    refine lv_iload_n hx hb dX9_compare_17 rfl (lv_at hl 2 rfl) ?_
    refine lv_isub hx hb dX9_compare_18 ?_
    refine lv_sipush (v := 255) hx hb dX9_compare_19 (by decide) ?_
    refine lv_iand hx hb dX9_compare_22 ?_
    have hPc := hP
    have hDc := hD
    have hFc := va_free (wc := w_Model h cI cJ u1) hD hS hA [0, 1, 2, 3, 4, 5, 6] rfl
    refine va_calli (va_runV (As := [.int ((x1 - x2) &&& (255 : Int32))]) (rest := []) ⟨hx, hb, hml, hown, hts⟩ (c_X9_tested l dC dI cI cJ h _ hok) (cwV 1 hts (tb_gV tw_4_160 tw_4_162 tw_p_59 tw_1_9 tw_4_163) rfl rfl rfl (by decide +kernel) ⟨Nat.le_of_ble_eq_true rfl, Nat.le_of_ble_eq_true rfl⟩) (cpre_V (ci := 8) (q0 := 0) hK hPc hDc rfl rfl) rfl rfl hl.1 rfl (lv_room (Nat.le_of_ble_eq_true rfl)) dX9_compare_23 ⟨Nat.le_of_ble_eq_true rfl, Nat.le_of_ble_eq_true rfl⟩) hS (fun q _ h => hFc q h) hFc (fun r2 u3 t H1 locs ht hvm hok hB hz1 hk1 hS => ?_)
    obtain ⟨hP, hD⟩ := cjoin_w ht hB hFc
    refine lv_pop hx hb dX9_compare_26 rfl ?_
    exact W.vret hx hb hr (fun t ht hW => ⟨⟨u3, rfl, hok, by rw [ht]; exact hP, va_K.moved hW.alike hK, hD⟩, hS.F ht⟩) hS.2.2 dX9_compare_27
  have hl := lv_entry ([.ref (h 13), .int a1, .int a2]) (n := 3) (Nat.le_of_ble_eq_true rfl)
  rw [lg_entry_eq]
  generalize (lg_sl ([.ref (h 13), .int a1, .int a2]) ++ List.replicate (3 - (lg_sl ([.ref (h 13), .int a1, .int a2])).length) Slot.unset).toArray = ls at hl ⊢
  have hl : lv_has ls 3 [(0, .ref (h 13)), (1, .int a1), (2, .int a2)] := hl
  unfold wp_X9_compare at hok
  refine lv_aload_n hx hb dX9_compare_0 rfl (lv_at hl 0 rfl) ?_
  refine lv_iconst (v := 1) hx hb dX9_compare_1 (by decide) ?_
  refine lv_iload_n hx hb dX9_compare_2 rfl (lv_at hl 1 rfl) ?_
  refine lv_iload_n hx hb dX9_compare_3 rfl (lv_at hl 2 rfl) ?_
  refine lv_icmp_lt (tgt := 11) hx hb dX9_compare_4 (by decide) (fun c4 => ?_) (fun c4 => ?_)
  · have hok := hok.1 c4
    refine lv_iconst (v := 0) hx hb dX9_compare_11 (by decide) ?_
    exact b12 σ a1 a2 1 0 hok _ _ hP hD hS _ (lv_sub hl [0, 1, 2] rfl)
  · have hok := hok.2 c4
    refine lv_iconst (v := 1) hx hb dX9_compare_7 (by decide) ?_
    refine lv_goto (tgt := 12) hx hb dX9_compare_8 (by decide) ?_
    exact b12 σ a1 a2 1 1 hok _ _ hP hD hS _ (lv_sub hl [0, 1, 2] rfl)
def wp_X9_subtract_132 (σ : S_Model) (s0 : Int32) (Φ : Int32 → S_Model → Prop) : Prop := wp_X9_tested σ (s0 &&& (255 : Int32)) (fun r1 u2 => (vp_in 0 4 ∧ (Φ 1 (u2.1, u2.2.1, va_up u2.2.2 2 (upd (u2.2.2 2) (0 : Int32).toNatClampNeg r1)))))
def wp_X9_subtract_115 (σ : S_Model) (x4 : Int32) (s0 : Int32) (Φ : Int32 → S_Model → Prop) : Prop := ((0 ≤ x4 → (wp_X9_subtract_132 σ s0 Φ)) ∧ (¬ 0 ≤ x4 → (wp_X9_subtract_132 σ (s0 - (6 : Int32)) Φ)))
def wp_X9_subtract_97 (σ : S_Model) (x4 : Int32) (x5 : Int32) (s1 : Int32) (s2 : Int32) (Φ : Int32 → S_Model → Prop) : Prop := wp_X9_flag σ s1 s2 (fun u4 => ((0 ≤ x5 → (wp_X9_subtract_115 u4 x4 x5 Φ)) ∧ (¬ 0 ≤ x5 → (wp_X9_subtract_115 u4 x4 (x5 - (96 : Int32)) Φ))))
def wp_X9_subtract (σ : S_Model) (a1 : Int32) (Φ : Int32 → S_Model → Prop) : Prop := wp_X9_is σ 8 (fun r6 => ((r6 = 0 → (wp_X9_add σ ((255 : Int32) - a1) (fun r15 u16 => Φ r15 u16))) ∧ (¬ r6 = 0 → (wp_X9_carry σ (fun r8 => (vp_in 0 4 ∧ (∀ v9 : Int32, v9 = ((σ.2.2 2) (0 : Int32).toNatClampNeg) + (255 : Int32) → wp_X9_overflows σ ((255 : Int32) - a1) ((v9 - a1) + r8) (fun u10 => (vp_in 0 4 ∧ (∀ v11 : Int32, v11 = ((u10.2.2 2) (0 : Int32).toNatClampNeg) &&& (15 : Int32) → ∀ v12 : Int32, v12 = ((v11 - (a1 &&& (15 : Int32))) + r8) - (1 : Int32) → (vp_in 0 4 ∧ (∀ v13 : Int32, v13 = (((u10.2.2 2) (0 : Int32).toNatClampNeg) - a1) + r8 → ((((v9 - a1) + r8) ≤ (255 : Int32) → (wp_X9_subtract_97 u10 v12 (v13 - (1 : Int32)) 1 0 Φ)) ∧ (¬ ((v9 - a1) + r8) ≤ (255 : Int32) → (wp_X9_subtract_97 u10 v12 (v13 - (1 : Int32)) 1 1 Φ)))))))))))))))
set_option maxHeartbeats 4000000 in
set_option maxRecDepth 100000 in
theorem c_X9_subtract (l : Launch) (dC : Nat → ClassId) (dI : Nat → Nat → Nat) (cI cJ : ClassId) (h : Nat → Nat) (sz : Nat) {σ : S_Model} {a1 : Int32} {Φ : Int32 → S_Model → Prop} (hok : wp_X9_subtract σ a1 Φ) : Met l yX9_subtract wsX9_subtract ({ frames := 3, cells := 0, slots := 0, locals := 67 }) (va_Pc [.ref (h 13), .int a1] (cpre dC dI cI cJ (w_Model h cI cJ σ) sz)) (va_Qi Φ (fun u => cpost dC dI cI cJ (va_A (w_Model h cI cJ σ) sz) (w_Model h cI cJ u)) (va_A (w_Model h cI cJ σ) sz)) 0 0 (va_A (w_Model h cI cJ σ) sz) := by
  refine Met.ofW (cc := cX9_subtract) (maxL := 6) (ret := (some .int)) (by decide) rfl ?_
  intro p e s m args below meth c s₁ B hml hv
  obtain ⟨rfl, hsz, hP, hK, hD0⟩ := hv
  have hx := B.exec
  have hb := B.bytes
  have hr := B.returns
  have hts := atoms_spec (ws := wsX9_subtract) B.pre
  have hown : s.vm.findClass RX9 = some m.cls := findClass_of_methodNamed B.named
  have hlocks := B.notSynchronized
  subst hsz
  have hD := hD0.self (sz := s.heap.size)
  generalize hAe : va_A (w_Model h cI cJ σ) s.heap.size = A at hD ⊢
  have hA : ∀ q : Nat, s.heap.size ≤ q → A q := fun q h => by rw [← hAe]; exact Or.inr h
  clear hD0 hAe
  have hS : va_S A s.heap s.heap [] := va_S.rf
  have b132 : ∀ (σ : S_Model) (s0 : Int32), wp_X9_subtract_132 σ s0 Φ → ∀ (H : Heap) (locs : List Loc), va_P (dC, dI) vwCl (w_Model h cI cJ σ) H → va_D A (w_Model h cI cJ σ) → va_S A s.heap H locs → ∀ ls : Array Slot, lv_has ls 6 [(0, .ref (h 13))] → W p l e (headSpec wsX9_subtract { frames := 3, cells := 0, slots := 0, locals := 67 }).room s m ([.ref (h 13), .int a1] : List Value).toArray below meth c H locs 0 0 (MQ below (va_Qi Φ (fun u => cpost dC dI cI cJ A (w_Model h cI cJ u)) A) ([.ref (h 13), .int a1] : List Value).toArray s 0 0 A) (F0 m 132 ls [.int s0]) := by
    intro σ s0 hok H locs hP hD hS ls hl
    unfold wp_X9_subtract_132 at hok
    refine lv_istore (lv' := [(5, .int s0), (0, .ref (h 13))]) hx hb dX9_subtract_132 hl (by decide) rfl (fun ls hl => ?_)
    refine lv_aload_n hx hb dX9_subtract_134 rfl (lv_at hl 1 rfl) ?_
    refine va_get (D := (dC, dI)) (ci := 8) (v := .ref (h 15)) (C := RX9) (T := TX9) (N := 33) hx hb hts (fun w h => List.mem_cons_of_mem _ (in_X9 w h)) hown hK hP 0 rfl rfl 2 (by decide) (hts _ (List.mem_cons_of_mem _ tw_3_189)) (fun _ h9 => h9) rfl dX9_subtract_135 ?_
    refine lv_iconst (v := 0) hx hb dX9_subtract_138 (by decide) ?_
    refine lv_aload_n hx hb dX9_subtract_139 rfl (lv_at hl 1 rfl) ?_
    refine lv_iload hx hb dX9_subtract_140 (lv_at hl 0 rfl) ?_
    refine lv_sipush (v := 255) hx hb dX9_subtract_142 (by decide) ?_
    refine lv_iand hx hb dX9_subtract_145 ?_
    have hPc := hP
    have hDc := hD
    have hFc := va_free (wc := w_Model h cI cJ σ) hD hS hA [0, 1, 2, 3, 4, 5, 6] rfl
    refine va_calli (va_runV (As := [.int (s0 &&& (255 : Int32))]) (rest := [.int 0, .ref (h 15)]) ⟨hx, hb, hml, hown, hts⟩ (c_X9_tested l dC dI cI cJ h _ hok) (cwV 1 hts (tb_gV tw_4_160 tw_4_162 tw_p_59 tw_1_9 tw_4_163) rfl rfl rfl (by decide +kernel) ⟨Nat.le_of_ble_eq_true rfl, Nat.le_of_ble_eq_true rfl⟩) (cpre_V (ci := 8) (q0 := 0) hK hPc hDc rfl rfl) rfl rfl hl.1 rfl (lv_room (Nat.le_of_ble_eq_true rfl)) dX9_subtract_146 ⟨Nat.le_of_ble_eq_true rfl, Nat.le_of_ble_eq_true rfl⟩) hS (fun q _ h => hFc q h) hFc (fun r1 u2 t H1 locs ht hvm hok hB hz1 hk1 hS => ?_)
    obtain ⟨hP, hD⟩ := cjoin_w ht hB hFc
    refine va_iast hx hb hK hP hD hS 2 0 rfl rfl hok.1 dX9_subtract_149 (fun H locs hP hD hS => ?_)
    have hok := hok.2
    have hP : va_P (dC, dI) vwCl (w_Model h cI cJ (u2.1, u2.2.1, va_up u2.2.2 2 (upd (u2.2.2 2) (0 : Int32).toNatClampNeg r1))) _ := hP
    have hD : va_D A (w_Model h cI cJ (u2.1, u2.2.1, va_up u2.2.2 2 (upd (u2.2.2 2) (0 : Int32).toNatClampNeg r1))) := hD
    refine lv_iconst (v := 1) hx hb dX9_subtract_150 (by decide) ?_
    exact W.iret (v := 1) hx hb hr (fun t ht hW => ⟨⟨1, (u2.1, u2.2.1, va_up u2.2.2 2 (upd (u2.2.2 2) (0 : Int32).toNatClampNeg r1)), rfl, hok, by rw [ht]; exact hP, va_K.moved hW.alike hK, hD⟩, hS.F ht⟩) hS.2.2 dX9_subtract_151
  have b115 : ∀ (σ : S_Model) (x4 : Int32) (s0 : Int32), wp_X9_subtract_115 σ x4 s0 Φ → ∀ (H : Heap) (locs : List Loc), va_P (dC, dI) vwCl (w_Model h cI cJ σ) H → va_D A (w_Model h cI cJ σ) → va_S A s.heap H locs → ∀ ls : Array Slot, lv_has ls 6 [(0, .ref (h 13)), (4, .int x4)] → W p l e (headSpec wsX9_subtract { frames := 3, cells := 0, slots := 0, locals := 67 }).room s m ([.ref (h 13), .int a1] : List Value).toArray below meth c H locs 0 0 (MQ below (va_Qi Φ (fun u => cpost dC dI cI cJ A (w_Model h cI cJ u)) A) ([.ref (h 13), .int a1] : List Value).toArray s 0 0 A) (F0 m 115 ls [.int s0]) := by
    intro σ x4 s0 hok H locs hP hD hS ls hl
    unfold wp_X9_subtract_115 at hok
    refine lv_istore (lv' := [(5, .int s0), (0, .ref (h 13)), (4, .int x4)]) hx hb dX9_subtract_115 hl (by decide) rfl (fun ls hl => ?_)
    refine lv_iload hx hb dX9_subtract_117 (lv_at hl 2 rfl) ?_
    refine lv_if_ge (tgt := 130) hx hb dX9_subtract_119 (by decide) (fun c3 => ?_) (fun c3 => ?_)
    · have hok := hok.1 c3
      refine lv_iload hx hb dX9_subtract_130 (lv_at hl 0 rfl) ?_
      exact b132 σ s0 hok _ _ hP hD hS _ (lv_sub hl [1] rfl)
    · have hok := hok.2 c3
      refine lv_iload hx hb dX9_subtract_122 (lv_at hl 0 rfl) ?_
      refine lv_bipush (v := 6) hx hb dX9_subtract_124 (by decide) ?_
      refine lv_isub hx hb dX9_subtract_126 ?_
      refine lv_goto (tgt := 132) hx hb dX9_subtract_127 (by decide) ?_
      exact b132 σ (s0 - (6 : Int32)) hok _ _ hP hD hS _ (lv_sub hl [1] rfl)
  have b97 : ∀ (σ : S_Model) (x4 : Int32) (x5 : Int32) (s1 : Int32) (s2 : Int32), wp_X9_subtract_97 σ x4 x5 s1 s2 Φ → ∀ (H : Heap) (locs : List Loc), va_P (dC, dI) vwCl (w_Model h cI cJ σ) H → va_D A (w_Model h cI cJ σ) → va_S A s.heap H locs → ∀ ls : Array Slot, lv_has ls 6 [(0, .ref (h 13)), (4, .int x4), (5, .int x5)] → W p l e (headSpec wsX9_subtract { frames := 3, cells := 0, slots := 0, locals := 67 }).room s m ([.ref (h 13), .int a1] : List Value).toArray below meth c H locs 0 0 (MQ below (va_Qi Φ (fun u => cpost dC dI cI cJ A (w_Model h cI cJ u)) A) ([.ref (h 13), .int a1] : List Value).toArray s 0 0 A) (F0 m 97 ls [.int s2, .int s1, .ref (h 13)]) := by
    intro σ x4 x5 s1 s2 hok H locs hP hD hS ls hl
    unfold wp_X9_subtract_97 at hok
    have hPc := hP
    have hDc := hD
    have hFc := va_free (wc := w_Model h cI cJ σ) hD hS hA [0, 1, 2, 3, 4, 5, 6] rfl
    refine va_callv (va_runV (As := [.int s1, .int s2]) (rest := []) ⟨hx, hb, hml, hown, hts⟩ (c_X9_flag l dC dI cI cJ h _ hok) (cwV 2 hts (tb_gV tw_4_85 tw_4_87 tw_p_42 tw_1_9 tw_4_88) rfl rfl rfl (by decide +kernel) ⟨Nat.le_of_ble_eq_true rfl, Nat.le_of_ble_eq_true rfl⟩) (cpre_V (ci := 8) (q0 := 0) hK hPc hDc rfl rfl) rfl rfl hl.1 rfl (lv_room (Nat.le_of_ble_eq_true rfl)) dX9_subtract_97 ⟨Nat.le_of_ble_eq_true rfl, Nat.le_of_ble_eq_true rfl⟩) hS (fun q _ h => hFc q h) hFc (fun u4 t H1 locs ht hvm hok hB hz1 hk1 hS => ?_)
    obtain ⟨hP, hD⟩ := cjoin_w ht hB hFc
    refine lv_iload hx hb dX9_subtract_100 (lv_at hl 2 rfl) ?_
    refine lv_if_ge (tgt := 113) hx hb dX9_subtract_102 (by decide) (fun c5 => ?_) (fun c5 => ?_)
    · have hok := hok.1 c5
      refine lv_iload hx hb dX9_subtract_113 (lv_at hl 2 rfl) ?_
      exact b115 u4 x4 x5 hok _ _ hP hD hS _ (lv_sub hl [0, 1] rfl)
    · have hok := hok.2 c5
      refine lv_iload hx hb dX9_subtract_105 (lv_at hl 2 rfl) ?_
      refine lv_bipush (v := 96) hx hb dX9_subtract_107 (by decide) ?_
      refine lv_isub hx hb dX9_subtract_109 ?_
      refine lv_goto (tgt := 115) hx hb dX9_subtract_110 (by decide) ?_
      exact b115 u4 x4 (x5 - (96 : Int32)) hok _ _ hP hD hS _ (lv_sub hl [0, 1] rfl)
  have hl := lv_entry ([.ref (h 13), .int a1]) (n := 6) (Nat.le_of_ble_eq_true rfl)
  rw [lg_entry_eq]
  generalize (lg_sl ([.ref (h 13), .int a1]) ++ List.replicate (6 - (lg_sl ([.ref (h 13), .int a1])).length) Slot.unset).toArray = ls at hl ⊢
  have hl : lv_has ls 6 [(0, .ref (h 13)), (1, .int a1)] := hl
  unfold wp_X9_subtract at hok
  refine lv_aload_n hx hb dX9_subtract_0 rfl (lv_at hl 0 rfl) ?_
  refine lv_bipush (v := 8) hx hb dX9_subtract_1 (by decide) ?_
  have hPc := hP
  have hDc := hD
  have hFc := va_free (wc := w_Model h cI cJ σ) hD hS hA [0, 1, 2, 3, 4, 5, 6] rfl
  refine va_calli (va_runV (As := [.int 8]) (rest := []) ⟨hx, hb, hml, hown, hts⟩ (c_X9_is l dC dI cI cJ h _ hok) (cwV 1 hts (tb_gV tw_4_112 tw_4_114 tw_p_48 tw_1_9 tw_4_115) rfl rfl rfl (by decide +kernel) ⟨Nat.le_of_ble_eq_true rfl, Nat.le_of_ble_eq_true rfl⟩) (cpre_V (ci := 8) (q0 := 0) hK hPc hDc rfl rfl) rfl rfl hl.1 rfl (lv_room (Nat.le_of_ble_eq_true rfl)) dX9_subtract_3 ⟨Nat.le_of_ble_eq_true rfl, Nat.le_of_ble_eq_true rfl⟩) hS (fun q _ h => hFc q h) hFc (fun r6 _ t H1 locs ht hvm hok hB hz1 hk1 hS => ?_)
  obtain ⟨hP, hD⟩ := cjoin_w ht hB hFc
  refine lv_if_ne (tgt := 19) hx hb dX9_subtract_6 (by decide) (fun c7 => ?_) (fun c7 => ?_)
  · have hok := hok.2 c7
    refine lv_aload_n hx hb dX9_subtract_19 rfl (lv_at hl 0 rfl) ?_
    have hPc := hP
    have hDc := hD
    have hFc := va_free (wc := w_Model h cI cJ σ) hD hS hA [0, 1, 2, 3, 4, 5, 6] rfl
    refine va_calli (va_runV (As := []) (rest := []) ⟨hx, hb, hml, hown, hts⟩ (c_X9_carry l dC dI cI cJ h _ hok) (cwV 0 hts (tb_gV tw_4_186 tw_4_188 tw_p_64 tw_1_9 tw_4_189) rfl rfl rfl (by decide +kernel) ⟨Nat.le_of_ble_eq_true rfl, Nat.le_of_ble_eq_true rfl⟩) (cpre_V (ci := 8) (q0 := 0) hK hPc hDc rfl rfl) rfl rfl hl.1 rfl (lv_room (Nat.le_of_ble_eq_true rfl)) dX9_subtract_20 ⟨Nat.le_of_ble_eq_true rfl, Nat.le_of_ble_eq_true rfl⟩) hS (fun q _ h => hFc q h) hFc (fun r8 _ t H1 locs ht hvm hok hB hz1 hk1 hS => ?_)
    obtain ⟨hP, hD⟩ := cjoin_w ht hB hFc
    refine lv_istore_n (lv' := [(2, .int r8), (0, .ref (h 13)), (1, .int a1)]) hx hb dX9_subtract_23 rfl hl (by decide) rfl (fun ls hl => ?_)
    refine lv_aload_n hx hb dX9_subtract_24 rfl (lv_at hl 1 rfl) ?_
    refine va_get (D := (dC, dI)) (ci := 8) (v := .ref (h 15)) (C := RX9) (T := TX9) (N := 33) hx hb hts (fun w h => List.mem_cons_of_mem _ (in_X9 w h)) hown hK hP 0 rfl rfl 2 (by decide) (hts _ (List.mem_cons_of_mem _ tw_3_189)) (fun _ h9 => h9) rfl dX9_subtract_25 ?_
    refine lv_iconst (v := 0) hx hb dX9_subtract_28 (by decide) ?_
    refine va_iald hx hb hK hP 2 0 rfl rfl hok.1 dX9_subtract_29 ?_
    have hok := hok.2
    refine lv_sipush (v := 255) hx hb dX9_subtract_30 (by decide) ?_
    refine lv_iadd hx hb dX9_subtract_33 ?_
    refine lv_topi (fun v9 ev9 => ?_)
    have hok := hok v9 ev9
    refine lv_iload_n hx hb dX9_subtract_34 rfl (lv_at hl 2 rfl) ?_
    refine lv_isub hx hb dX9_subtract_35 ?_
    refine lv_iload_n hx hb dX9_subtract_36 rfl (lv_at hl 0 rfl) ?_
    refine lv_iadd hx hb dX9_subtract_37 ?_
    refine lv_istore_n (lv' := [(3, .int ((v9 - a1) + r8)), (2, .int r8), (0, .ref (h 13)), (1, .int a1)]) hx hb dX9_subtract_38 rfl hl (by decide) rfl (fun ls hl => ?_)
    refine lv_aload_n hx hb dX9_subtract_39 rfl (lv_at hl 2 rfl) ?_
    refine lv_sipush (v := 255) hx hb dX9_subtract_40 (by decide) ?_
    refine lv_iload_n hx hb dX9_subtract_43 rfl (lv_at hl 3 rfl) ?_
    refine lv_isub hx hb dX9_subtract_44 ?_
    refine lv_iload_n hx hb dX9_subtract_45 rfl (lv_at hl 0 rfl) ?_
    have hPc := hP
    have hDc := hD
    have hFc := va_free (wc := w_Model h cI cJ σ) hD hS hA [0, 1, 2, 3, 4, 5, 6] rfl
    refine va_callv (va_runV (As := [.int ((255 : Int32) - a1), .int ((v9 - a1) + r8)]) (rest := []) ⟨hx, hb, hml, hown, hts⟩ (c_X9_overflows l dC dI cI cJ h _ hok) (cwV 2 hts (tb_gV tw_4_190 tw_4_192 tw_p_65 tw_1_9 tw_4_193) rfl rfl rfl (by decide +kernel) ⟨Nat.le_of_ble_eq_true rfl, Nat.le_of_ble_eq_true rfl⟩) (cpre_V (ci := 8) (q0 := 0) hK hPc hDc rfl rfl) rfl rfl hl.1 rfl (lv_room (Nat.le_of_ble_eq_true rfl)) dX9_subtract_46 ⟨Nat.le_of_ble_eq_true rfl, Nat.le_of_ble_eq_true rfl⟩) hS (fun q _ h => hFc q h) hFc (fun u10 t H1 locs ht hvm hok hB hz1 hk1 hS => ?_)
    obtain ⟨hP, hD⟩ := cjoin_w ht hB hFc
    refine lv_aload_n hx hb dX9_subtract_49 rfl (lv_at hl 2 rfl) ?_
    refine va_get (D := (dC, dI)) (ci := 8) (v := .ref (h 15)) (C := RX9) (T := TX9) (N := 33) hx hb hts (fun w h => List.mem_cons_of_mem _ (in_X9 w h)) hown hK hP 0 rfl rfl 2 (by decide) (hts _ (List.mem_cons_of_mem _ tw_3_189)) (fun _ h9 => h9) rfl dX9_subtract_50 ?_
    refine lv_iconst (v := 0) hx hb dX9_subtract_53 (by decide) ?_
    refine va_iald hx hb hK hP 2 0 rfl rfl hok.1 dX9_subtract_54 ?_
    have hok := hok.2
    refine lv_bipush (v := 15) hx hb dX9_subtract_55 (by decide) ?_
    refine lv_iand hx hb dX9_subtract_57 ?_
    refine lv_topi (fun v11 ev11 => ?_)
    have hok := hok v11 ev11
    refine lv_iload_n hx hb dX9_subtract_58 rfl (lv_at hl 3 rfl) ?_
    refine lv_bipush (v := 15) hx hb dX9_subtract_59 (by decide) ?_
    refine lv_iand hx hb dX9_subtract_61 ?_
    refine lv_isub hx hb dX9_subtract_62 ?_
    refine lv_iload_n hx hb dX9_subtract_63 rfl (lv_at hl 1 rfl) ?_
    refine lv_iadd hx hb dX9_subtract_64 ?_
    refine lv_iconst (v := 1) hx hb dX9_subtract_65 (by decide) ?_
    refine lv_isub hx hb dX9_subtract_66 ?_
    refine lv_topi (fun v12 ev12 => ?_)
    have hok := hok v12 ev12
    refine lv_istore (lv' := [(4, .int v12), (3, .int ((v9 - a1) + r8)), (2, .int r8), (0, .ref (h 13)), (1, .int a1)]) hx hb dX9_subtract_67 hl (by decide) rfl (fun ls hl => ?_)
    refine lv_aload_n hx hb dX9_subtract_69 rfl (lv_at hl 3 rfl) ?_
    refine va_get (D := (dC, dI)) (ci := 8) (v := .ref (h 15)) (C := RX9) (T := TX9) (N := 33) hx hb hts (fun w h => List.mem_cons_of_mem _ (in_X9 w h)) hown hK hP 0 rfl rfl 2 (by decide) (hts _ (List.mem_cons_of_mem _ tw_3_189)) (fun _ h9 => h9) rfl dX9_subtract_70 ?_
    refine lv_iconst (v := 0) hx hb dX9_subtract_73 (by decide) ?_
    refine va_iald hx hb hK hP 2 0 rfl rfl hok.1 dX9_subtract_74 ?_
    have hok := hok.2
    refine lv_iload_n hx hb dX9_subtract_75 rfl (lv_at hl 4 rfl) ?_
    refine lv_isub hx hb dX9_subtract_76 ?_
    refine lv_iload_n hx hb dX9_subtract_77 rfl (lv_at hl 2 rfl) ?_
    refine lv_iadd hx hb dX9_subtract_78 ?_
    refine lv_topi (fun v13 ev13 => ?_)
    have hok := hok v13 ev13
    refine lv_iconst (v := 1) hx hb dX9_subtract_79 (by decide) ?_
    refine lv_isub hx hb dX9_subtract_80 ?_
    refine lv_istore (lv' := [(5, .int (v13 - (1 : Int32))), (4, .int v12), (3, .int ((v9 - a1) + r8)), (2, .int r8), (0, .ref (h 13)), (1, .int a1)]) hx hb dX9_subtract_81 hl (by decide) rfl (fun ls hl => ?_)
    refine lv_aload_n hx hb dX9_subtract_83 rfl (lv_at hl 4 rfl) ?_
    refine lv_iconst (v := 1) hx hb dX9_subtract_84 (by decide) ?_
    refine lv_iload_n hx hb dX9_subtract_85 rfl (lv_at hl 2 rfl) ?_
    refine lv_sipush (v := 255) hx hb dX9_subtract_86 (by decide) ?_
    refine lv_icmp_le (tgt := 96) hx hb dX9_subtract_89 (by decide) (fun c14 => ?_) (fun c14 => ?_)
    · have hok := hok.1 c14
      refine lv_iconst (v := 0) hx hb dX9_subtract_96 (by decide) ?_
      exact b97 u10 v12 (v13 - (1 : Int32)) 1 0 hok _ _ hP hD hS _ (lv_sub hl [4, 1, 0] rfl)
    · have hok := hok.2 c14
      refine lv_iconst (v := 1) hx hb dX9_subtract_92 (by decide) ?_
      refine lv_goto (tgt := 97) hx hb dX9_subtract_93 (by decide) ?_
      exact b97 u10 v12 (v13 - (1 : Int32)) 1 1 hok _ _ hP hD hS _ (lv_sub hl [4, 1, 0] rfl)
  · have hok := hok.1 c7
    refine lv_aload_n hx hb dX9_subtract_9 rfl (lv_at hl 0 rfl) ?_
    refine lv_sipush (v := 255) hx hb dX9_subtract_10 (by decide) ?_
    refine lv_iload_n hx hb dX9_subtract_13 rfl (lv_at hl 1 rfl) ?_
    refine lv_isub hx hb dX9_subtract_14 ?_
    have hPc := hP
    have hDc := hD
    have hFc := va_free (wc := w_Model h cI cJ σ) hD hS hA [0, 1, 2, 3, 4, 5, 6] rfl
    refine va_calli (va_runV (As := [.int ((255 : Int32) - a1)]) (rest := []) ⟨hx, hb, hml, hown, hts⟩ (c_X9_add l dC dI cI cJ h _ hok) (cwV 1 hts (tb_gV tw_4_182 tw_4_184 tw_p_63 tw_1_9 tw_4_185) rfl rfl rfl (by decide +kernel) ⟨Nat.le_of_ble_eq_true rfl, Nat.le_of_ble_eq_true rfl⟩) (cpre_V (ci := 8) (q0 := 0) hK hPc hDc rfl rfl) rfl rfl hl.1 rfl (lv_room (Nat.le_of_ble_eq_true rfl)) dX9_subtract_15 ⟨Nat.le_of_ble_eq_true rfl, Nat.le_of_ble_eq_true rfl⟩) hS (fun q _ h => hFc q h) hFc (fun r15 u16 t H1 locs ht hvm hok hB hz1 hk1 hS => ?_)
    obtain ⟨hP, hD⟩ := cjoin_w ht hB hFc
    exact W.iret (v := r15) hx hb hr (fun t ht hW => ⟨⟨r15, u16, rfl, hok, by rw [ht]; exact hP, va_K.moved hW.alike hK, hD⟩, hS.F ht⟩) hS.2.2 dX9_subtract_18
def wp_X9_alu_88 (σ : S_Model) (x2 : Int32) (x4 : Int32) (s0 : Int32) (s1 : Int32) (Φ : Int32 → S_Model → Prop) : Prop := ((x2 = 0 → ((vp_in 0 4 ∧ (wp_X9_tested σ (((σ.2.2 2) (0 : Int32).toNatClampNeg) ||| x4) (fun r2 u3 => (vp_in 0 4 ∧ (Φ (s0 + s1) (u3.1, u3.2.1, va_up u3.2.2 2 (upd (u3.2.2 2) (0 : Int32).toNatClampNeg r2))))))))) ∧ (x2 = 1 → ((vp_in 0 4 ∧ (wp_X9_tested σ (((σ.2.2 2) (0 : Int32).toNatClampNeg) &&& x4) (fun r5 u6 => (vp_in 0 4 ∧ (Φ (s0 + s1) (u6.1, u6.2.1, va_up u6.2.2 2 (upd (u6.2.2 2) (0 : Int32).toNatClampNeg r5))))))))) ∧ (x2 = 2 → ((vp_in 0 4 ∧ (wp_X9_tested σ (((σ.2.2 2) (0 : Int32).toNatClampNeg) ^^^ x4) (fun r8 u9 => (vp_in 0 4 ∧ (Φ (s0 + s1) (u9.1, u9.2.1, va_up u9.2.2 2 (upd (u9.2.2 2) (0 : Int32).toNatClampNeg r8))))))))) ∧ (x2 = 3 → (wp_X9_add σ x4 (fun r11 u12 => Φ ((s0 + s1) + r11) u12))) ∧ (x2 = 5 → (wp_X9_tested σ x4 (fun r14 u15 => (vp_in 0 4 ∧ (Φ (s0 + s1) (u15.1, u15.2.1, va_up u15.2.2 2 (upd (u15.2.2 2) (0 : Int32).toNatClampNeg r14))))))) ∧ (x2 = 6 → ((vp_in 0 4 ∧ (wp_X9_compare σ ((σ.2.2 2) (0 : Int32).toNatClampNeg) x4 (fun u17 => Φ (s0 + s1) u17))))) ∧ ((¬ x2 = 0 ∧ ¬ x2 = 1 ∧ ¬ x2 = 2 ∧ ¬ x2 = 3 ∧ ¬ x2 = 5 ∧ ¬ x2 = 6) → (wp_X9_subtract σ x4 (fun r18 u19 => Φ ((s0 + s1) + r18) u19))))
def wp_X9_alu (σ : S_Model) (a1 : Int32) (Φ : Int32 → S_Model → Prop) : Prop := wp_X9_wide a1 (fun r20 => (((a1 >>> ((5 : Int32) &&& 31)) = (4 : Int32) → (wp_X9_address σ r20 (fun r26 u27 => (vp_in 0 4 ∧ (wp_X9_write u27 r26 ((u27.2.2 2) (0 : Int32).toNatClampNeg) (fun u28 => ((r20 = (5 : Int32) → (Φ 5 u28)) ∧ (¬ r20 = (5 : Int32) → (((r20 = (6 : Int32) → (Φ 5 u28)) ∧ (¬ r20 = (6 : Int32) → (((r20 = (8 : Int32) → (Φ 6 u28)) ∧ (¬ r20 = (8 : Int32) → (wp_X9_time r20 (fun r32 => Φ r32 u28)))))))))))))))) ∧ (¬ (a1 >>> ((5 : Int32) &&& 31)) = (4 : Int32) → (wp_X9_taken (upd σ.1 11 0, σ.2.1, σ.2.2) r20 (fun r22 u23 => wp_X9_time r20 (fun r24 => (((u23.1 11) = 0 → (wp_X9_alu_88 u23 (a1 >>> ((5 : Int32) &&& 31)) r22 r24 0 Φ)) ∧ (¬ (u23.1 11) = 0 → (wp_X9_alu_88 u23 (a1 >>> ((5 : Int32) &&& 31)) r22 r24 1 Φ)))))))))
set_option maxHeartbeats 4000000 in
set_option maxRecDepth 100000 in
theorem c_X9_alu (l : Launch) (dC : Nat → ClassId) (dI : Nat → Nat → Nat) (cI cJ : ClassId) (h : Nat → Nat) (sz : Nat) {σ : S_Model} {a1 : Int32} {Φ : Int32 → S_Model → Prop} (hok : wp_X9_alu σ a1 Φ) : Met l yX9_alu wsX9_alu ({ frames := 6, cells := 0, slots := 0, locals := 129 }) (va_Pc [.ref (h 13), .int a1] (cpre dC dI cI cJ (w_Model h cI cJ σ) sz)) (va_Qi Φ (fun u => cpost dC dI cI cJ (va_A (w_Model h cI cJ σ) sz) (w_Model h cI cJ u)) (va_A (w_Model h cI cJ σ) sz)) 0 0 (va_A (w_Model h cI cJ σ) sz) := by
  refine Met.ofW (cc := cX9_alu) (maxL := 6) (ret := (some .int)) (by decide) rfl ?_
  intro p e s m args below meth c s₁ B hml hv
  obtain ⟨rfl, hsz, hP, hK, hD0⟩ := hv
  have hx := B.exec
  have hb := B.bytes
  have hr := B.returns
  have hts := atoms_spec (ws := wsX9_alu) B.pre
  have hown : s.vm.findClass RX9 = some m.cls := findClass_of_methodNamed B.named
  have hlocks := B.notSynchronized
  subst hsz
  have hD := hD0.self (sz := s.heap.size)
  generalize hAe : va_A (w_Model h cI cJ σ) s.heap.size = A at hD ⊢
  have hA : ∀ q : Nat, s.heap.size ≤ q → A q := fun q h => by rw [← hAe]; exact Or.inr h
  clear hD0 hAe
  have hS : va_S A s.heap s.heap [] := va_S.rf
  have b88 : ∀ (σ : S_Model) (x2 : Int32) (x4 : Int32) (s0 : Int32) (s1 : Int32), wp_X9_alu_88 σ x2 x4 s0 s1 Φ → ∀ (H : Heap) (locs : List Loc), va_P (dC, dI) vwCl (w_Model h cI cJ σ) H → va_D A (w_Model h cI cJ σ) → va_S A s.heap H locs → ∀ ls : Array Slot, lv_has ls 6 [(0, .ref (h 13)), (2, .int x2), (4, .int x4)] → W p l e (headSpec wsX9_alu { frames := 6, cells := 0, slots := 0, locals := 129 }).room s m ([.ref (h 13), .int a1] : List Value).toArray below meth c H locs 0 0 (MQ below (va_Qi Φ (fun u => cpost dC dI cI cJ A (w_Model h cI cJ u)) A) ([.ref (h 13), .int a1] : List Value).toArray s 0 0 A) (F0 m 88 ls [.int s1, .int s0]) := by
    intro σ x2 x4 s0 s1 hok H locs hP hD hS ls hl
    unfold wp_X9_alu_88 at hok
    refine lv_iadd hx hb dX9_alu_88 ?_
    refine lv_istore (lv' := [(5, .int (s0 + s1)), (0, .ref (h 13)), (2, .int x2), (4, .int x4)]) hx hb dX9_alu_89 hl (by decide) rfl (fun ls hl => ?_)
    refine lv_iload_n hx hb dX9_alu_91 rfl (lv_at hl 2 rfl) ?_
    by_cases c1 : x2 = 0
    · have hok := hok.1 c1
      refine lv_tableIn (tgt := 136) (off := 44) hx hb dX9_alu_92 (by rw [c1]; decide) (by rw [c1]; decide) (by rw [c1]; decide) (by decide) ?_
      refine lv_aload_n hx hb dX9_alu_136 rfl (lv_at hl 1 rfl) ?_
      refine va_get (D := (dC, dI)) (ci := 8) (v := .ref (h 15)) (C := RX9) (T := TX9) (N := 33) hx hb hts (fun w h => List.mem_cons_of_mem _ (in_X9 w h)) hown hK hP 0 rfl rfl 2 (by decide) (hts _ (List.mem_cons_of_mem _ tw_3_189)) (fun _ h9 => h9) rfl dX9_alu_137 ?_
      refine lv_iconst (v := 0) hx hb dX9_alu_140 (by decide) ?_
      refine lv_aload_n hx hb dX9_alu_141 rfl (lv_at hl 1 rfl) ?_
      refine lv_aload_n hx hb dX9_alu_142 rfl (lv_at hl 1 rfl) ?_
      refine va_get (D := (dC, dI)) (ci := 8) (v := .ref (h 15)) (C := RX9) (T := TX9) (N := 33) hx hb hts (fun w h => List.mem_cons_of_mem _ (in_X9 w h)) hown hK hP 0 rfl rfl 2 (by decide) (hts _ (List.mem_cons_of_mem _ tw_3_189)) (fun _ h9 => h9) rfl dX9_alu_143 ?_
      refine lv_iconst (v := 0) hx hb dX9_alu_146 (by decide) ?_
      refine va_iald hx hb hK hP 2 0 rfl rfl hok.1 dX9_alu_147 ?_
      have hok := hok.2
      refine lv_iload hx hb dX9_alu_148 (lv_at hl 3 rfl) ?_
      refine lv_ior hx hb dX9_alu_150 ?_
      have hPc := hP
      have hDc := hD
      have hFc := va_free (wc := w_Model h cI cJ σ) hD hS hA [0, 1, 2, 3, 4, 5, 6] rfl
      refine va_calli (va_runV (As := [.int (((σ.2.2 2) (0 : Int32).toNatClampNeg) ||| x4)]) (rest := [.int 0, .ref (h 15)]) ⟨hx, hb, hml, hown, hts⟩ (c_X9_tested l dC dI cI cJ h _ hok) (cwV 1 hts (tb_gV tw_4_160 tw_4_162 tw_p_59 tw_1_9 tw_4_163) rfl rfl rfl (by decide +kernel) ⟨Nat.le_of_ble_eq_true rfl, Nat.le_of_ble_eq_true rfl⟩) (cpre_V (ci := 8) (q0 := 0) hK hPc hDc rfl rfl) rfl rfl hl.1 rfl (lv_room (Nat.le_of_ble_eq_true rfl)) dX9_alu_151 ⟨Nat.le_of_ble_eq_true rfl, Nat.le_of_ble_eq_true rfl⟩) hS (fun q _ h => hFc q h) hFc (fun r2 u3 t H1 locs ht hvm hok hB hz1 hk1 hS => ?_)
      obtain ⟨hP, hD⟩ := cjoin_w ht hB hFc
      refine va_iast hx hb hK hP hD hS 2 0 rfl rfl hok.1 dX9_alu_154 (fun H locs hP hD hS => ?_)
      have hok := hok.2
      have hP : va_P (dC, dI) vwCl (w_Model h cI cJ (u3.1, u3.2.1, va_up u3.2.2 2 (upd (u3.2.2 2) (0 : Int32).toNatClampNeg r2))) _ := hP
      have hD : va_D A (w_Model h cI cJ (u3.1, u3.2.1, va_up u3.2.2 2 (upd (u3.2.2 2) (0 : Int32).toNatClampNeg r2))) := hD
      refine lv_goto (tgt := 257) hx hb dX9_alu_155 (by decide) ?_
      refine lv_iload hx hb dX9_alu_257 (lv_at hl 0 rfl) ?_
      exact W.iret (v := s0 + s1) hx hb hr (fun t ht hW => ⟨⟨s0 + s1, (u3.1, u3.2.1, va_up u3.2.2 2 (upd (u3.2.2 2) (0 : Int32).toNatClampNeg r2)), rfl, hok, by rw [ht]; exact hP, va_K.moved hW.alike hK, hD⟩, hS.F ht⟩) hS.2.2 dX9_alu_259
    have hok := hok.2
    by_cases c4 : x2 = 1
    · have hok := hok.1 c4
      refine lv_tableIn (tgt := 158) (off := 66) hx hb dX9_alu_92 (by rw [c4]; decide) (by rw [c4]; decide) (by rw [c4]; decide) (by decide) ?_
      refine lv_aload_n hx hb dX9_alu_158 rfl (lv_at hl 1 rfl) ?_
      refine va_get (D := (dC, dI)) (ci := 8) (v := .ref (h 15)) (C := RX9) (T := TX9) (N := 33) hx hb hts (fun w h => List.mem_cons_of_mem _ (in_X9 w h)) hown hK hP 0 rfl rfl 2 (by decide) (hts _ (List.mem_cons_of_mem _ tw_3_189)) (fun _ h9 => h9) rfl dX9_alu_159 ?_
      refine lv_iconst (v := 0) hx hb dX9_alu_162 (by decide) ?_
      refine lv_aload_n hx hb dX9_alu_163 rfl (lv_at hl 1 rfl) ?_
      refine lv_aload_n hx hb dX9_alu_164 rfl (lv_at hl 1 rfl) ?_
      refine va_get (D := (dC, dI)) (ci := 8) (v := .ref (h 15)) (C := RX9) (T := TX9) (N := 33) hx hb hts (fun w h => List.mem_cons_of_mem _ (in_X9 w h)) hown hK hP 0 rfl rfl 2 (by decide) (hts _ (List.mem_cons_of_mem _ tw_3_189)) (fun _ h9 => h9) rfl dX9_alu_165 ?_
      refine lv_iconst (v := 0) hx hb dX9_alu_168 (by decide) ?_
      refine va_iald hx hb hK hP 2 0 rfl rfl hok.1 dX9_alu_169 ?_
      have hok := hok.2
      refine lv_iload hx hb dX9_alu_170 (lv_at hl 3 rfl) ?_
      refine lv_iand hx hb dX9_alu_172 ?_
      have hPc := hP
      have hDc := hD
      have hFc := va_free (wc := w_Model h cI cJ σ) hD hS hA [0, 1, 2, 3, 4, 5, 6] rfl
      refine va_calli (va_runV (As := [.int (((σ.2.2 2) (0 : Int32).toNatClampNeg) &&& x4)]) (rest := [.int 0, .ref (h 15)]) ⟨hx, hb, hml, hown, hts⟩ (c_X9_tested l dC dI cI cJ h _ hok) (cwV 1 hts (tb_gV tw_4_160 tw_4_162 tw_p_59 tw_1_9 tw_4_163) rfl rfl rfl (by decide +kernel) ⟨Nat.le_of_ble_eq_true rfl, Nat.le_of_ble_eq_true rfl⟩) (cpre_V (ci := 8) (q0 := 0) hK hPc hDc rfl rfl) rfl rfl hl.1 rfl (lv_room (Nat.le_of_ble_eq_true rfl)) dX9_alu_173 ⟨Nat.le_of_ble_eq_true rfl, Nat.le_of_ble_eq_true rfl⟩) hS (fun q _ h => hFc q h) hFc (fun r5 u6 t H1 locs ht hvm hok hB hz1 hk1 hS => ?_)
      obtain ⟨hP, hD⟩ := cjoin_w ht hB hFc
      refine va_iast hx hb hK hP hD hS 2 0 rfl rfl hok.1 dX9_alu_176 (fun H locs hP hD hS => ?_)
      have hok := hok.2
      have hP : va_P (dC, dI) vwCl (w_Model h cI cJ (u6.1, u6.2.1, va_up u6.2.2 2 (upd (u6.2.2 2) (0 : Int32).toNatClampNeg r5))) _ := hP
      have hD : va_D A (w_Model h cI cJ (u6.1, u6.2.1, va_up u6.2.2 2 (upd (u6.2.2 2) (0 : Int32).toNatClampNeg r5))) := hD
      refine lv_goto (tgt := 257) hx hb dX9_alu_177 (by decide) ?_
      refine lv_iload hx hb dX9_alu_257 (lv_at hl 0 rfl) ?_
      exact W.iret (v := s0 + s1) hx hb hr (fun t ht hW => ⟨⟨s0 + s1, (u6.1, u6.2.1, va_up u6.2.2 2 (upd (u6.2.2 2) (0 : Int32).toNatClampNeg r5)), rfl, hok, by rw [ht]; exact hP, va_K.moved hW.alike hK, hD⟩, hS.F ht⟩) hS.2.2 dX9_alu_259
    have hok := hok.2
    by_cases c7 : x2 = 2
    · have hok := hok.1 c7
      refine lv_tableIn (tgt := 180) (off := 88) hx hb dX9_alu_92 (by rw [c7]; decide) (by rw [c7]; decide) (by rw [c7]; decide) (by decide) ?_
      refine lv_aload_n hx hb dX9_alu_180 rfl (lv_at hl 1 rfl) ?_
      refine va_get (D := (dC, dI)) (ci := 8) (v := .ref (h 15)) (C := RX9) (T := TX9) (N := 33) hx hb hts (fun w h => List.mem_cons_of_mem _ (in_X9 w h)) hown hK hP 0 rfl rfl 2 (by decide) (hts _ (List.mem_cons_of_mem _ tw_3_189)) (fun _ h9 => h9) rfl dX9_alu_181 ?_
      refine lv_iconst (v := 0) hx hb dX9_alu_184 (by decide) ?_
      refine lv_aload_n hx hb dX9_alu_185 rfl (lv_at hl 1 rfl) ?_
      refine lv_aload_n hx hb dX9_alu_186 rfl (lv_at hl 1 rfl) ?_
      refine va_get (D := (dC, dI)) (ci := 8) (v := .ref (h 15)) (C := RX9) (T := TX9) (N := 33) hx hb hts (fun w h => List.mem_cons_of_mem _ (in_X9 w h)) hown hK hP 0 rfl rfl 2 (by decide) (hts _ (List.mem_cons_of_mem _ tw_3_189)) (fun _ h9 => h9) rfl dX9_alu_187 ?_
      refine lv_iconst (v := 0) hx hb dX9_alu_190 (by decide) ?_
      refine va_iald hx hb hK hP 2 0 rfl rfl hok.1 dX9_alu_191 ?_
      have hok := hok.2
      refine lv_iload hx hb dX9_alu_192 (lv_at hl 3 rfl) ?_
      refine lv_ixor hx hb dX9_alu_194 ?_
      have hPc := hP
      have hDc := hD
      have hFc := va_free (wc := w_Model h cI cJ σ) hD hS hA [0, 1, 2, 3, 4, 5, 6] rfl
      refine va_calli (va_runV (As := [.int (((σ.2.2 2) (0 : Int32).toNatClampNeg) ^^^ x4)]) (rest := [.int 0, .ref (h 15)]) ⟨hx, hb, hml, hown, hts⟩ (c_X9_tested l dC dI cI cJ h _ hok) (cwV 1 hts (tb_gV tw_4_160 tw_4_162 tw_p_59 tw_1_9 tw_4_163) rfl rfl rfl (by decide +kernel) ⟨Nat.le_of_ble_eq_true rfl, Nat.le_of_ble_eq_true rfl⟩) (cpre_V (ci := 8) (q0 := 0) hK hPc hDc rfl rfl) rfl rfl hl.1 rfl (lv_room (Nat.le_of_ble_eq_true rfl)) dX9_alu_195 ⟨Nat.le_of_ble_eq_true rfl, Nat.le_of_ble_eq_true rfl⟩) hS (fun q _ h => hFc q h) hFc (fun r8 u9 t H1 locs ht hvm hok hB hz1 hk1 hS => ?_)
      obtain ⟨hP, hD⟩ := cjoin_w ht hB hFc
      refine va_iast hx hb hK hP hD hS 2 0 rfl rfl hok.1 dX9_alu_198 (fun H locs hP hD hS => ?_)
      have hok := hok.2
      have hP : va_P (dC, dI) vwCl (w_Model h cI cJ (u9.1, u9.2.1, va_up u9.2.2 2 (upd (u9.2.2 2) (0 : Int32).toNatClampNeg r8))) _ := hP
      have hD : va_D A (w_Model h cI cJ (u9.1, u9.2.1, va_up u9.2.2 2 (upd (u9.2.2 2) (0 : Int32).toNatClampNeg r8))) := hD
      refine lv_goto (tgt := 257) hx hb dX9_alu_199 (by decide) ?_
      refine lv_iload hx hb dX9_alu_257 (lv_at hl 0 rfl) ?_
      exact W.iret (v := s0 + s1) hx hb hr (fun t ht hW => ⟨⟨s0 + s1, (u9.1, u9.2.1, va_up u9.2.2 2 (upd (u9.2.2 2) (0 : Int32).toNatClampNeg r8)), rfl, hok, by rw [ht]; exact hP, va_K.moved hW.alike hK, hD⟩, hS.F ht⟩) hS.2.2 dX9_alu_259
    have hok := hok.2
    by_cases c10 : x2 = 3
    · have hok := hok.1 c10
      refine lv_tableIn (tgt := 202) (off := 110) hx hb dX9_alu_92 (by rw [c10]; decide) (by rw [c10]; decide) (by rw [c10]; decide) (by decide) ?_
      refine lv_iload hx hb dX9_alu_202 (lv_at hl 0 rfl) ?_
      refine lv_aload_n hx hb dX9_alu_204 rfl (lv_at hl 1 rfl) ?_
      refine lv_iload hx hb dX9_alu_205 (lv_at hl 3 rfl) ?_
      have hPc := hP
      have hDc := hD
      have hFc := va_free (wc := w_Model h cI cJ σ) hD hS hA [0, 1, 2, 3, 4, 5, 6] rfl
      refine va_calli (va_runV (As := [.int x4]) (rest := [.int (s0 + s1)]) ⟨hx, hb, hml, hown, hts⟩ (c_X9_add l dC dI cI cJ h _ hok) (cwV 1 hts (tb_gV tw_4_182 tw_4_184 tw_p_63 tw_1_9 tw_4_185) rfl rfl rfl (by decide +kernel) ⟨Nat.le_of_ble_eq_true rfl, Nat.le_of_ble_eq_true rfl⟩) (cpre_V (ci := 8) (q0 := 0) hK hPc hDc rfl rfl) rfl rfl hl.1 rfl (lv_room (Nat.le_of_ble_eq_true rfl)) dX9_alu_207 ⟨Nat.le_of_ble_eq_true rfl, Nat.le_of_ble_eq_true rfl⟩) hS (fun q _ h => hFc q h) hFc (fun r11 u12 t H1 locs ht hvm hok hB hz1 hk1 hS => ?_)
      obtain ⟨hP, hD⟩ := cjoin_w ht hB hFc
      refine lv_iadd hx hb dX9_alu_210 ?_
      refine lv_istore (lv' := [(5, .int ((s0 + s1) + r11)), (0, .ref (h 13)), (2, .int x2), (4, .int x4)]) hx hb dX9_alu_211 hl (by decide) rfl (fun ls hl => ?_)
      refine lv_goto (tgt := 257) hx hb dX9_alu_213 (by decide) ?_
      refine lv_iload hx hb dX9_alu_257 (lv_at hl 0 rfl) ?_
      exact W.iret (v := (s0 + s1) + r11) hx hb hr (fun t ht hW => ⟨⟨(s0 + s1) + r11, u12, rfl, hok, by rw [ht]; exact hP, va_K.moved hW.alike hK, hD⟩, hS.F ht⟩) hS.2.2 dX9_alu_259
    have hok := hok.2
    by_cases c13 : x2 = 5
    · have hok := hok.1 c13
      refine lv_tableIn (tgt := 216) (off := 124) hx hb dX9_alu_92 (by rw [c13]; decide) (by rw [c13]; decide) (by rw [c13]; decide) (by decide) ?_
      refine lv_aload_n hx hb dX9_alu_216 rfl (lv_at hl 1 rfl) ?_
      refine va_get (D := (dC, dI)) (ci := 8) (v := .ref (h 15)) (C := RX9) (T := TX9) (N := 33) hx hb hts (fun w h => List.mem_cons_of_mem _ (in_X9 w h)) hown hK hP 0 rfl rfl 2 (by decide) (hts _ (List.mem_cons_of_mem _ tw_3_189)) (fun _ h9 => h9) rfl dX9_alu_217 ?_
      refine lv_iconst (v := 0) hx hb dX9_alu_220 (by decide) ?_
      refine lv_aload_n hx hb dX9_alu_221 rfl (lv_at hl 1 rfl) ?_
      refine lv_iload hx hb dX9_alu_222 (lv_at hl 3 rfl) ?_
      have hPc := hP
      have hDc := hD
      have hFc := va_free (wc := w_Model h cI cJ σ) hD hS hA [0, 1, 2, 3, 4, 5, 6] rfl
      refine va_calli (va_runV (As := [.int x4]) (rest := [.int 0, .ref (h 15)]) ⟨hx, hb, hml, hown, hts⟩ (c_X9_tested l dC dI cI cJ h _ hok) (cwV 1 hts (tb_gV tw_4_160 tw_4_162 tw_p_59 tw_1_9 tw_4_163) rfl rfl rfl (by decide +kernel) ⟨Nat.le_of_ble_eq_true rfl, Nat.le_of_ble_eq_true rfl⟩) (cpre_V (ci := 8) (q0 := 0) hK hPc hDc rfl rfl) rfl rfl hl.1 rfl (lv_room (Nat.le_of_ble_eq_true rfl)) dX9_alu_224 ⟨Nat.le_of_ble_eq_true rfl, Nat.le_of_ble_eq_true rfl⟩) hS (fun q _ h => hFc q h) hFc (fun r14 u15 t H1 locs ht hvm hok hB hz1 hk1 hS => ?_)
      obtain ⟨hP, hD⟩ := cjoin_w ht hB hFc
      refine va_iast hx hb hK hP hD hS 2 0 rfl rfl hok.1 dX9_alu_227 (fun H locs hP hD hS => ?_)
      have hok := hok.2
      have hP : va_P (dC, dI) vwCl (w_Model h cI cJ (u15.1, u15.2.1, va_up u15.2.2 2 (upd (u15.2.2 2) (0 : Int32).toNatClampNeg r14))) _ := hP
      have hD : va_D A (w_Model h cI cJ (u15.1, u15.2.1, va_up u15.2.2 2 (upd (u15.2.2 2) (0 : Int32).toNatClampNeg r14))) := hD
      refine lv_goto (tgt := 257) hx hb dX9_alu_228 (by decide) ?_
      refine lv_iload hx hb dX9_alu_257 (lv_at hl 0 rfl) ?_
      exact W.iret (v := s0 + s1) hx hb hr (fun t ht hW => ⟨⟨s0 + s1, (u15.1, u15.2.1, va_up u15.2.2 2 (upd (u15.2.2 2) (0 : Int32).toNatClampNeg r14)), rfl, hok, by rw [ht]; exact hP, va_K.moved hW.alike hK, hD⟩, hS.F ht⟩) hS.2.2 dX9_alu_259
    have hok := hok.2
    by_cases c16 : x2 = 6
    · have hok := hok.1 c16
      refine lv_tableIn (tgt := 231) (off := 139) hx hb dX9_alu_92 (by rw [c16]; decide) (by rw [c16]; decide) (by rw [c16]; decide) (by decide) ?_
      refine lv_aload_n hx hb dX9_alu_231 rfl (lv_at hl 1 rfl) ?_
      refine lv_aload_n hx hb dX9_alu_232 rfl (lv_at hl 1 rfl) ?_
      refine va_get (D := (dC, dI)) (ci := 8) (v := .ref (h 15)) (C := RX9) (T := TX9) (N := 33) hx hb hts (fun w h => List.mem_cons_of_mem _ (in_X9 w h)) hown hK hP 0 rfl rfl 2 (by decide) (hts _ (List.mem_cons_of_mem _ tw_3_189)) (fun _ h9 => h9) rfl dX9_alu_233 ?_
      refine lv_iconst (v := 0) hx hb dX9_alu_236 (by decide) ?_
      refine va_iald hx hb hK hP 2 0 rfl rfl hok.1 dX9_alu_237 ?_
      have hok := hok.2
      refine lv_iload hx hb dX9_alu_238 (lv_at hl 3 rfl) ?_
      have hPc := hP
      have hDc := hD
      have hFc := va_free (wc := w_Model h cI cJ σ) hD hS hA [0, 1, 2, 3, 4, 5, 6] rfl
      refine va_callv (va_runV (As := [.int ((σ.2.2 2) (0 : Int32).toNatClampNeg), .int x4]) (rest := []) ⟨hx, hb, hml, hown, hts⟩ (c_X9_compare l dC dI cI cJ h _ hok) (cwV 2 hts (tb_gV tw_4_171 tw_4_173 tw_p_61 tw_1_9 tw_4_174) rfl rfl rfl (by decide +kernel) ⟨Nat.le_of_ble_eq_true rfl, Nat.le_of_ble_eq_true rfl⟩) (cpre_V (ci := 8) (q0 := 0) hK hPc hDc rfl rfl) rfl rfl hl.1 rfl (lv_room (Nat.le_of_ble_eq_true rfl)) dX9_alu_240 ⟨Nat.le_of_ble_eq_true rfl, Nat.le_of_ble_eq_true rfl⟩) hS (fun q _ h => hFc q h) hFc (fun u17 t H1 locs ht hvm hok hB hz1 hk1 hS => ?_)
      obtain ⟨hP, hD⟩ := cjoin_w ht hB hFc
      refine lv_goto (tgt := 257) hx hb dX9_alu_243 (by decide) ?_
      refine lv_iload hx hb dX9_alu_257 (lv_at hl 0 rfl) ?_
      exact W.iret (v := s0 + s1) hx hb hr (fun t ht hW => ⟨⟨s0 + s1, u17, rfl, hok, by rw [ht]; exact hP, va_K.moved hW.alike hK, hD⟩, hS.F ht⟩) hS.2.2 dX9_alu_259
    have hok := hok.2
    have hok := hok ⟨c1, c4, c7, c10, c13, c16⟩
    have kz17 : ∀ k ∈ ([0, 1, 2, 3, 5, 6] : List Int), (x2).toInt ≠ k := List.forall_mem_cons.mpr ⟨tb_ne c1 rfl, List.forall_mem_cons.mpr ⟨tb_ne c4 rfl, List.forall_mem_cons.mpr ⟨tb_ne c7 rfl, List.forall_mem_cons.mpr ⟨tb_ne c10 rfl, List.forall_mem_cons.mpr ⟨tb_ne c13 rfl, List.forall_mem_cons.mpr ⟨tb_ne c16 rfl, fun k h => absurd h List.not_mem_nil⟩⟩⟩⟩⟩⟩
    refine tb_def (tgt := 246) (keys := [0, 1, 2, 3, 5, 6]) hx hb dX9_alu_92 kz17 (by decide) (by decide) ?_
    refine lv_iload hx hb dX9_alu_246 (lv_at hl 0 rfl) ?_
    refine lv_aload_n hx hb dX9_alu_248 rfl (lv_at hl 1 rfl) ?_
    refine lv_iload hx hb dX9_alu_249 (lv_at hl 3 rfl) ?_
    have hPc := hP
    have hDc := hD
    have hFc := va_free (wc := w_Model h cI cJ σ) hD hS hA [0, 1, 2, 3, 4, 5, 6] rfl
    refine va_calli (va_runV (As := [.int x4]) (rest := [.int (s0 + s1)]) ⟨hx, hb, hml, hown, hts⟩ (c_X9_subtract l dC dI cI cJ h _ hok) (cwV 1 hts (tb_gV tw_4_194 tw_4_196 tw_p_66 tw_1_9 tw_4_197) rfl rfl rfl (by decide +kernel) ⟨Nat.le_of_ble_eq_true rfl, Nat.le_of_ble_eq_true rfl⟩) (cpre_V (ci := 8) (q0 := 0) hK hPc hDc rfl rfl) rfl rfl hl.1 rfl (lv_room (Nat.le_of_ble_eq_true rfl)) dX9_alu_251 ⟨Nat.le_of_ble_eq_true rfl, Nat.le_of_ble_eq_true rfl⟩) hS (fun q _ h => hFc q h) hFc (fun r18 u19 t H1 locs ht hvm hok hB hz1 hk1 hS => ?_)
    obtain ⟨hP, hD⟩ := cjoin_w ht hB hFc
    refine lv_iadd hx hb dX9_alu_254 ?_
    refine lv_istore (lv' := [(5, .int ((s0 + s1) + r18)), (0, .ref (h 13)), (2, .int x2), (4, .int x4)]) hx hb dX9_alu_255 hl (by decide) rfl (fun ls hl => ?_)
    refine lv_iload hx hb dX9_alu_257 (lv_at hl 0 rfl) ?_
    exact W.iret (v := (s0 + s1) + r18) hx hb hr (fun t ht hW => ⟨⟨(s0 + s1) + r18, u19, rfl, hok, by rw [ht]; exact hP, va_K.moved hW.alike hK, hD⟩, hS.F ht⟩) hS.2.2 dX9_alu_259
  have hl := lv_entry ([.ref (h 13), .int a1]) (n := 6) (Nat.le_of_ble_eq_true rfl)
  rw [lg_entry_eq]
  generalize (lg_sl ([.ref (h 13), .int a1]) ++ List.replicate (6 - (lg_sl ([.ref (h 13), .int a1])).length) Slot.unset).toArray = ls at hl ⊢
  have hl : lv_has ls 6 [(0, .ref (h 13)), (1, .int a1)] := hl
  unfold wp_X9_alu at hok
  refine lv_iload_n hx hb dX9_alu_0 rfl (lv_at hl 1 rfl) ?_
  refine lv_iconst (v := 5) hx hb dX9_alu_1 (by decide) ?_
  refine lv_ishr hx hb dX9_alu_2 ?_
  refine lv_istore_n (lv' := [(2, .int (a1 >>> ((5 : Int32) &&& 31))), (0, .ref (h 13)), (1, .int a1)]) hx hb dX9_alu_3 rfl hl (by decide) rfl (fun ls hl => ?_)
  refine lv_iload_n hx hb dX9_alu_4 rfl (lv_at hl 2 rfl) ?_
  have hPc := hP.sub (ws' := []) [] rfl
  have hDc := hD.sub (ws' := []) [] (by decide) rfl
  have hFc := va_free (wc := []) hD hS hA [] rfl
  refine va_calli (va_runS (As := [.int a1]) (rest := []) ⟨hx, hb, hml, hown, hts⟩ (c_X9_wide l dC dI cI cJ h _ hok) (va_cwS 1 hts (tb_gS tw_4_179 tw_4_180 tw_1_9 tw_4_181) rfl rfl rfl (by decide +kernel) ⟨Nat.le_of_ble_eq_true rfl, Nat.le_of_ble_eq_true rfl⟩) (cpre_S hK hPc hDc) rfl rfl hl.1 rfl (lv_room (Nat.le_of_ble_eq_true rfl)) dX9_alu_5 ⟨Nat.le_of_ble_eq_true rfl, Nat.le_of_ble_eq_true rfl⟩) hS (fun q _ h => hFc q h) hFc (fun r20 _ t H1 locs ht hvm hok hB hz1 hk1 hS => ?_)
  obtain ⟨hP, hD⟩ := cjoin ht hP hD [] [0, 1, 2, 3, 4, 5, 6] rfl rfl (by decide) (by decide) hk1 hFc hB
  have hP := hP.sub (ws' := w_Model h cI cJ σ) [0, 1, 2, 3, 4, 5, 6] rfl
  have hD := hD.sub (ws' := w_Model h cI cJ σ) [0, 1, 2, 3, 4, 5, 6] (by decide) rfl
  refine lv_istore_n (lv' := [(3, .int r20), (2, .int (a1 >>> ((5 : Int32) &&& 31))), (0, .ref (h 13)), (1, .int a1)]) hx hb dX9_alu_8 rfl hl (by decide) rfl (fun ls hl => ?_)
  refine lv_iload_n hx hb dX9_alu_9 rfl (lv_at hl 1 rfl) ?_
  refine lv_iconst (v := 4) hx hb dX9_alu_10 (by decide) ?_
  refine lv_icmp_ne (tgt := 60) hx hb dX9_alu_11 (by decide) (fun c21 => ?_) (fun c21 => ?_)
  · have hok := hok.2 c21
    refine lv_aload_n hx hb dX9_alu_60 rfl (lv_at hl 2 rfl) ?_
    refine lv_iconst (v := 0) hx hb dX9_alu_61 (by decide) ?_
    refine va_put (D := (dC, dI)) (ci := 8) (v := .int 0) (ty := .boolean) (C := RX9) (T := TX9) (N := 33) hx hb hts (fun w h => List.mem_cons_of_mem _ (in_X9 w h)) tyX9 tyX9_ok nmX9 hown hK hP hD hS 0 rfl rfl 11 (by decide) (hts _ (List.mem_cons_of_mem _ tw_3_198)) (fun _ h9 => h9) rfl (by decide +kernel) rfl rfl (Nat.le_of_ble_eq_true rfl) dX9_alu_62 (fun H locs hP hD hS => ?_)
    have hP : va_P (dC, dI) vwCl (w_Model h cI cJ (upd σ.1 11 0, σ.2.1, σ.2.2)) _ := hP
    have hD : va_D A (w_Model h cI cJ (upd σ.1 11 0, σ.2.1, σ.2.2)) := hD
    refine lv_aload_n hx hb dX9_alu_65 rfl (lv_at hl 2 rfl) ?_
    refine lv_iload_n hx hb dX9_alu_66 rfl (lv_at hl 0 rfl) ?_
    have hPc := hP
    have hDc := hD
    have hFc := va_free (wc := w_Model h cI cJ (upd σ.1 11 0, σ.2.1, σ.2.2)) hD hS hA [0, 1, 2, 3, 4, 5, 6] rfl
    refine va_calli (va_runV (As := [.int r20]) (rest := []) ⟨hx, hb, hml, hown, hts⟩ (c_X9_taken l dC dI cI cJ h _ hok) (cwV 1 hts (tb_gV tw_4_144 tw_4_146 tw_p_55 tw_1_9 tw_4_147) rfl rfl rfl (by decide +kernel) ⟨Nat.le_of_ble_eq_true rfl, Nat.le_of_ble_eq_true rfl⟩) (cpre_V (ci := 8) (q0 := 0) hK hPc hDc rfl rfl) rfl rfl hl.1 rfl (lv_room (Nat.le_of_ble_eq_true rfl)) dX9_alu_67 ⟨Nat.le_of_ble_eq_true rfl, Nat.le_of_ble_eq_true rfl⟩) hS (fun q _ h => hFc q h) hFc (fun r22 u23 t H1 locs ht hvm hok hB hz1 hk1 hS => ?_)
    obtain ⟨hP, hD⟩ := cjoin_w ht hB hFc
    refine lv_istore (lv' := [(4, .int r22), (3, .int r20), (2, .int (a1 >>> ((5 : Int32) &&& 31))), (0, .ref (h 13)), (1, .int a1)]) hx hb dX9_alu_70 hl (by decide) rfl (fun ls hl => ?_)
    refine lv_iload_n hx hb dX9_alu_72 rfl (lv_at hl 1 rfl) ?_
    have hPc := hP.sub (ws' := []) [] rfl
    have hDc := hD.sub (ws' := []) [] (by decide) rfl
    have hFc := va_free (wc := []) hD hS hA [] rfl
    refine va_calli (va_runS (As := [.int r20]) (rest := []) ⟨hx, hb, hml, hown, hts⟩ (c_X9_time l dC dI cI cJ h _ hok) (va_cwS 1 hts (tb_gS tw_4_164 tw_4_165 tw_1_9 tw_4_166) rfl rfl rfl (by decide +kernel) ⟨Nat.le_of_ble_eq_true rfl, Nat.le_of_ble_eq_true rfl⟩) (cpre_S hK hPc hDc) rfl rfl hl.1 rfl (lv_room (Nat.le_of_ble_eq_true rfl)) dX9_alu_73 ⟨Nat.le_of_ble_eq_true rfl, Nat.le_of_ble_eq_true rfl⟩) hS (fun q _ h => hFc q h) hFc (fun r24 _ t H1 locs ht hvm hok hB hz1 hk1 hS => ?_)
    obtain ⟨hP, hD⟩ := cjoin ht hP hD [] [0, 1, 2, 3, 4, 5, 6] rfl rfl (by decide) (by decide) hk1 hFc hB
    have hP := hP.sub (ws' := w_Model h cI cJ u23) [0, 1, 2, 3, 4, 5, 6] rfl
    have hD := hD.sub (ws' := w_Model h cI cJ u23) [0, 1, 2, 3, 4, 5, 6] (by decide) rfl
    refine lv_aload_n hx hb dX9_alu_76 rfl (lv_at hl 3 rfl) ?_
    refine va_get (D := (dC, dI)) (ci := 8) (v := .int (u23.1 11)) (C := RX9) (T := TX9) (N := 33) hx hb hts (fun w h => List.mem_cons_of_mem _ (in_X9 w h)) hown hK hP 0 rfl rfl 11 (by decide) (hts _ (List.mem_cons_of_mem _ tw_3_198)) (fun _ h9 => h9) rfl dX9_alu_77 ?_
    refine lv_if_eq (tgt := 87) hx hb dX9_alu_80 (by decide) (fun c25 => ?_) (fun c25 => ?_)
    · have hok := hok.1 c25
      refine lv_iconst (v := 0) hx hb dX9_alu_87 (by decide) ?_
      exact b88 u23 (a1 >>> ((5 : Int32) &&& 31)) r22 r24 0 hok _ _ hP hD hS _ (lv_sub hl [3, 2, 0] rfl)
    · have hok := hok.2 c25
      refine lv_iconst (v := 1) hx hb dX9_alu_83 (by decide) ?_
      refine lv_goto (tgt := 88) hx hb dX9_alu_84 (by decide) ?_
      exact b88 u23 (a1 >>> ((5 : Int32) &&& 31)) r22 r24 1 hok _ _ hP hD hS _ (lv_sub hl [3, 2, 0] rfl)
  · have hok := hok.1 c21
    refine lv_aload_n hx hb dX9_alu_14 rfl (lv_at hl 2 rfl) ?_
    refine lv_aload_n hx hb dX9_alu_15 rfl (lv_at hl 2 rfl) ?_
    refine lv_iload_n hx hb dX9_alu_16 rfl (lv_at hl 0 rfl) ?_
    have hPc := hP
    have hDc := hD
    have hFc := va_free (wc := w_Model h cI cJ σ) hD hS hA [0, 1, 2, 3, 4, 5, 6] rfl
    refine va_calli (va_runV (As := [.int r20]) (rest := [.ref (h 13)]) ⟨hx, hb, hml, hown, hts⟩ (c_X9_address l dC dI cI cJ h _ hok) (cwV 1 hts (tb_gV tw_4_148 tw_4_150 tw_p_56 tw_1_9 tw_4_151) rfl rfl rfl (by decide +kernel) ⟨Nat.le_of_ble_eq_true rfl, Nat.le_of_ble_eq_true rfl⟩) (cpre_V (ci := 8) (q0 := 0) hK hPc hDc rfl rfl) rfl rfl hl.1 rfl (lv_room (Nat.le_of_ble_eq_true rfl)) dX9_alu_17 ⟨Nat.le_of_ble_eq_true rfl, Nat.le_of_ble_eq_true rfl⟩) hS (fun q _ h => hFc q h) hFc (fun r26 u27 t H1 locs ht hvm hok hB hz1 hk1 hS => ?_)
    obtain ⟨hP, hD⟩ := cjoin_w ht hB hFc
    refine lv_aload_n hx hb dX9_alu_20 rfl (lv_at hl 2 rfl) ?_
    refine va_get (D := (dC, dI)) (ci := 8) (v := .ref (h 15)) (C := RX9) (T := TX9) (N := 33) hx hb hts (fun w h => List.mem_cons_of_mem _ (in_X9 w h)) hown hK hP 0 rfl rfl 2 (by decide) (hts _ (List.mem_cons_of_mem _ tw_3_189)) (fun _ h9 => h9) rfl dX9_alu_21 ?_
    refine lv_iconst (v := 0) hx hb dX9_alu_24 (by decide) ?_
    refine va_iald hx hb hK hP 2 0 rfl rfl hok.1 dX9_alu_25 ?_
    have hok := hok.2
    have hPc := hP
    have hDc := hD
    have hFc := va_free (wc := w_Model h cI cJ u27) hD hS hA [0, 1, 2, 3, 4, 5, 6] rfl
    refine va_callv (va_runV (As := [.int r26, .int ((u27.2.2 2) (0 : Int32).toNatClampNeg)]) (rest := []) ⟨hx, hb, hml, hown, hts⟩ (c_X9_write l dC dI cI cJ h _ hok) (cwV 2 hts (tb_gV tw_4_72 tw_4_74 tw_p_40 tw_1_9 tw_4_75) rfl rfl rfl (by decide +kernel) ⟨Nat.le_of_ble_eq_true rfl, Nat.le_of_ble_eq_true rfl⟩) (cpre_V (ci := 8) (q0 := 0) hK hPc hDc rfl rfl) rfl rfl hl.1 rfl (lv_room (Nat.le_of_ble_eq_true rfl)) dX9_alu_26 ⟨Nat.le_of_ble_eq_true rfl, Nat.le_of_ble_eq_true rfl⟩) hS (fun q _ h => hFc q h) hFc (fun u28 t H1 locs ht hvm hok hB hz1 hk1 hS => ?_)
    obtain ⟨hP, hD⟩ := cjoin_w ht hB hFc
    refine lv_iload_n hx hb dX9_alu_29 rfl (lv_at hl 0 rfl) ?_
    refine lv_iconst (v := 5) hx hb dX9_alu_30 (by decide) ?_
    refine lv_icmp_eq (tgt := 40) hx hb dX9_alu_31 (by decide) (fun c29 => ?_) (fun c29 => ?_)
    · have hok := hok.1 c29
      refine lv_iconst (v := 5) hx hb dX9_alu_40 (by decide) ?_
      refine lv_goto (tgt := 59) hx hb dX9_alu_41 (by decide) ?_
      exact W.iret (v := 5) hx hb hr (fun t ht hW => ⟨⟨5, u28, rfl, hok, by rw [ht]; exact hP, va_K.moved hW.alike hK, hD⟩, hS.F ht⟩) hS.2.2 dX9_alu_59
    · have hok := hok.2 c29
      refine lv_iload_n hx hb dX9_alu_34 rfl (lv_at hl 0 rfl) ?_
      refine lv_bipush (v := 6) hx hb dX9_alu_35 (by decide) ?_
      refine lv_icmp_ne (tgt := 44) hx hb dX9_alu_37 (by decide) (fun c30 => ?_) (fun c30 => ?_)
      · have hok := hok.2 c30
        refine lv_iload_n hx hb dX9_alu_44 rfl (lv_at hl 0 rfl) ?_
        refine lv_bipush (v := 8) hx hb dX9_alu_45 (by decide) ?_
        refine lv_icmp_ne (tgt := 55) hx hb dX9_alu_47 (by decide) (fun c31 => ?_) (fun c31 => ?_)
        · have hok := hok.2 c31
          refine lv_iload_n hx hb dX9_alu_55 rfl (lv_at hl 0 rfl) ?_
          have hPc := hP.sub (ws' := []) [] rfl
          have hDc := hD.sub (ws' := []) [] (by decide) rfl
          have hFc := va_free (wc := []) hD hS hA [] rfl
          refine va_calli (va_runS (As := [.int r20]) (rest := []) ⟨hx, hb, hml, hown, hts⟩ (c_X9_time l dC dI cI cJ h _ hok) (va_cwS 1 hts (tb_gS tw_4_164 tw_4_165 tw_1_9 tw_4_166) rfl rfl rfl (by decide +kernel) ⟨Nat.le_of_ble_eq_true rfl, Nat.le_of_ble_eq_true rfl⟩) (cpre_S hK hPc hDc) rfl rfl hl.1 rfl (lv_room (Nat.le_of_ble_eq_true rfl)) dX9_alu_56 ⟨Nat.le_of_ble_eq_true rfl, Nat.le_of_ble_eq_true rfl⟩) hS (fun q _ h => hFc q h) hFc (fun r32 _ t H1 locs ht hvm hok hB hz1 hk1 hS => ?_)
          obtain ⟨hP, hD⟩ := cjoin ht hP hD [] [0, 1, 2, 3, 4, 5, 6] rfl rfl (by decide) (by decide) hk1 hFc hB
          have hP := hP.sub (ws' := w_Model h cI cJ u28) [0, 1, 2, 3, 4, 5, 6] rfl
          have hD := hD.sub (ws' := w_Model h cI cJ u28) [0, 1, 2, 3, 4, 5, 6] (by decide) rfl
          exact W.iret (v := r32) hx hb hr (fun t ht hW => ⟨⟨r32, u28, rfl, hok, by rw [ht]; exact hP, va_K.moved hW.alike hK, hD⟩, hS.F ht⟩) hS.2.2 dX9_alu_59
        · have hok := hok.1 c31
          refine lv_bipush (v := 6) hx hb dX9_alu_50 (by decide) ?_
          refine lv_goto (tgt := 59) hx hb dX9_alu_52 (by decide) ?_
          exact W.iret (v := 6) hx hb hr (fun t ht hW => ⟨⟨6, u28, rfl, hok, by rw [ht]; exact hP, va_K.moved hW.alike hK, hD⟩, hS.F ht⟩) hS.2.2 dX9_alu_59
      · have hok := hok.1 c30
        refine lv_iconst (v := 5) hx hb dX9_alu_40 (by decide) ?_
        refine lv_goto (tgt := 59) hx hb dX9_alu_41 (by decide) ?_
        exact W.iret (v := 5) hx hb hr (fun t ht hW => ⟨⟨5, u28, rfl, hok, by rw [ht]; exact hP, va_K.moved hW.alike hK, hD⟩, hS.F ht⟩) hS.2.2 dX9_alu_59
def wp_X9_changed_68 (σ : S_Model) (x1 : Int32) (x2 : Int32) (x3 : Int32) (s1 : Int32) (s2 : Int32) (Φ : Int32 → S_Model → Prop) : Prop := wp_X9_flag σ s1 s2 (fun u1 => ((x1 = (3 : Int32) → (∀ v6 : Int32, v6 = (x2 >>> ((1 : Int32) &&& 31)) ||| (x3 <<< ((7 : Int32) &&& 31)) → wp_X9_tested u1 v6 (fun r7 u8 => Φ r7 u8))) ∧ (¬ x1 = (3 : Int32) → (∀ v3 : Int32, v3 = (x2 >>> ((1 : Int32) &&& 31)) ||| (0 : Int32) → wp_X9_tested u1 v3 (fun r4 u5 => Φ r4 u5)))))
def wp_X9_changed_23 (σ : S_Model) (x1 : Int32) (x2 : Int32) (x3 : Int32) (s1 : Int32) (s2 : Int32) (Φ : Int32 → S_Model → Prop) : Prop := wp_X9_flag σ s1 s2 (fun u9 => ((x1 = (1 : Int32) → (∀ v14 : Int32, v14 = ((x2 <<< ((1 : Int32) &&& 31)) ||| x3) &&& (255 : Int32) → wp_X9_tested u9 v14 (fun r15 u16 => Φ r15 u16))) ∧ (¬ x1 = (1 : Int32) → (∀ v11 : Int32, v11 = (x2 <<< ((1 : Int32) &&& 31)) ||| (0 : Int32) → wp_X9_tested u9 (v11 &&& (255 : Int32)) (fun r12 u13 => Φ r12 u13)))))
def wp_X9_changed (σ : S_Model) (a1 : Int32) (a2 : Int32) (Φ : Int32 → S_Model → Prop) : Prop := wp_X9_carry σ (fun r17 => (((2 : Int32) ≤ a1 → ((((4 : Int32) ≤ a1 → (((a1 = (6 : Int32) → (wp_X9_tested σ ((a2 + (-1 : Int32)) &&& (255 : Int32)) (fun r23 u24 => Φ r23 u24))) ∧ (¬ a1 = (6 : Int32) → (wp_X9_tested σ ((a2 + (1 : Int32)) &&& (255 : Int32)) (fun r21 u22 => Φ r21 u22)))))) ∧ (¬ (4 : Int32) ≤ a1 → ((((a2 &&& (1 : Int32)) = (1 : Int32) → (wp_X9_changed_68 σ a1 a2 r17 1 1 Φ)) ∧ (¬ (a2 &&& (1 : Int32)) = (1 : Int32) → (wp_X9_changed_68 σ a1 a2 r17 1 0 Φ)))))))) ∧ (¬ (2 : Int32) ≤ a1 → (((a2 ≤ (127 : Int32) → (wp_X9_changed_23 σ a1 a2 r17 1 0 Φ)) ∧ (¬ a2 ≤ (127 : Int32) → (wp_X9_changed_23 σ a1 a2 r17 1 1 Φ)))))))
set_option maxHeartbeats 4000000 in
set_option maxRecDepth 100000 in
theorem c_X9_changed (l : Launch) (dC : Nat → ClassId) (dI : Nat → Nat → Nat) (cI cJ : ClassId) (h : Nat → Nat) (sz : Nat) {σ : S_Model} {a1 : Int32} {a2 : Int32} {Φ : Int32 → S_Model → Prop} (hok : wp_X9_changed σ a1 a2 Φ) : Met l yX9_changed wsX9_changed ({ frames := 2, cells := 0, slots := 0, locals := 43 }) (va_Pc [.ref (h 13), .int a1, .int a2] (cpre dC dI cI cJ (w_Model h cI cJ σ) sz)) (va_Qi Φ (fun u => cpost dC dI cI cJ (va_A (w_Model h cI cJ σ) sz) (w_Model h cI cJ u)) (va_A (w_Model h cI cJ σ) sz)) 0 0 (va_A (w_Model h cI cJ σ) sz) := by
  refine Met.ofW (cc := cX9_changed) (maxL := 4) (ret := (some .int)) (by decide) rfl ?_
  intro p e s m args below meth c s₁ B hml hv
  obtain ⟨rfl, hsz, hP, hK, hD0⟩ := hv
  have hx := B.exec
  have hb := B.bytes
  have hr := B.returns
  have hts := atoms_spec (ws := wsX9_changed) B.pre
  have hown : s.vm.findClass RX9 = some m.cls := findClass_of_methodNamed B.named
  have hlocks := B.notSynchronized
  subst hsz
  have hD := hD0.self (sz := s.heap.size)
  generalize hAe : va_A (w_Model h cI cJ σ) s.heap.size = A at hD ⊢
  have hA : ∀ q : Nat, s.heap.size ≤ q → A q := fun q h => by rw [← hAe]; exact Or.inr h
  clear hD0 hAe
  have hS : va_S A s.heap s.heap [] := va_S.rf
  have b68 : ∀ (σ : S_Model) (x1 : Int32) (x2 : Int32) (x3 : Int32) (s1 : Int32) (s2 : Int32), wp_X9_changed_68 σ x1 x2 x3 s1 s2 Φ → ∀ (H : Heap) (locs : List Loc), va_P (dC, dI) vwCl (w_Model h cI cJ σ) H → va_D A (w_Model h cI cJ σ) → va_S A s.heap H locs → ∀ ls : Array Slot, lv_has ls 4 [(0, .ref (h 13)), (1, .int x1), (2, .int x2), (3, .int x3)] → W p l e (headSpec wsX9_changed { frames := 2, cells := 0, slots := 0, locals := 43 }).room s m ([.ref (h 13), .int a1, .int a2] : List Value).toArray below meth c H locs 0 0 (MQ below (va_Qi Φ (fun u => cpost dC dI cI cJ A (w_Model h cI cJ u)) A) ([.ref (h 13), .int a1, .int a2] : List Value).toArray s 0 0 A) (F0 m 68 ls [.int s2, .int s1, .ref (h 13)]) := by
    intro σ x1 x2 x3 s1 s2 hok H locs hP hD hS ls hl
    unfold wp_X9_changed_68 at hok
    have hPc := hP
    have hDc := hD
    have hFc := va_free (wc := w_Model h cI cJ σ) hD hS hA [0, 1, 2, 3, 4, 5, 6] rfl
    refine va_callv (va_runV (As := [.int s1, .int s2]) (rest := []) ⟨hx, hb, hml, hown, hts⟩ (c_X9_flag l dC dI cI cJ h _ hok) (cwV 2 hts (tb_gV tw_4_85 tw_4_87 tw_p_42 tw_1_9 tw_4_88) rfl rfl rfl (by decide +kernel) ⟨Nat.le_of_ble_eq_true rfl, Nat.le_of_ble_eq_true rfl⟩) (cpre_V (ci := 8) (q0 := 0) hK hPc hDc rfl rfl) rfl rfl hl.1 rfl (lv_room (Nat.le_of_ble_eq_true rfl)) dX9_changed_68 ⟨Nat.le_of_ble_eq_true rfl, Nat.le_of_ble_eq_true rfl⟩) hS (fun q _ h => hFc q h) hFc (fun u1 t H1 locs ht hvm hok hB hz1 hk1 hS => ?_)
    obtain ⟨hP, hD⟩ := cjoin_w ht hB hFc
    refine lv_aload_n hx hb dX9_changed_71 rfl (lv_at hl 0 rfl) ?_
    refine lv_iload_n hx hb dX9_changed_72 rfl (lv_at hl 2 rfl) ?_
    refine lv_iconst (v := 1) hx hb dX9_changed_73 (by decide) ?_
    refine lv_ishr hx hb dX9_changed_74 ?_
    refine lv_iload_n hx hb dX9_changed_75 rfl (lv_at hl 1 rfl) ?_
    refine lv_iconst (v := 3) hx hb dX9_changed_76 (by decide) ?_
    refine lv_icmp_ne (tgt := 87) hx hb dX9_changed_77 (by decide) (fun c2 => ?_) (fun c2 => ?_)
    · have hok := hok.2 c2
      refine lv_iconst (v := 0) hx hb dX9_changed_87 (by decide) ?_
      refine lv_ior hx hb dX9_changed_88 ?_
      refine lv_topi (fun v3 ev3 => ?_)
      have hok := hok v3 ev3
      have hPc := hP
      have hDc := hD
      have hFc := va_free (wc := w_Model h cI cJ u1) hD hS hA [0, 1, 2, 3, 4, 5, 6] rfl
      refine va_calli (va_runV (As := [.int v3]) (rest := []) ⟨hx, hb, hml, hown, hts⟩ (c_X9_tested l dC dI cI cJ h _ hok) (cwV 1 hts (tb_gV tw_4_160 tw_4_162 tw_p_59 tw_1_9 tw_4_163) rfl rfl rfl (by decide +kernel) ⟨Nat.le_of_ble_eq_true rfl, Nat.le_of_ble_eq_true rfl⟩) (cpre_V (ci := 8) (q0 := 0) hK hPc hDc rfl rfl) rfl rfl hl.1 rfl (lv_room (Nat.le_of_ble_eq_true rfl)) dX9_changed_89 ⟨Nat.le_of_ble_eq_true rfl, Nat.le_of_ble_eq_true rfl⟩) hS (fun q _ h => hFc q h) hFc (fun r4 u5 t H1 locs ht hvm hok hB hz1 hk1 hS => ?_)
      obtain ⟨hP, hD⟩ := cjoin_w ht hB hFc
      exact W.iret (v := r4) hx hb hr (fun t ht hW => ⟨⟨r4, u5, rfl, hok, by rw [ht]; exact hP, va_K.moved hW.alike hK, hD⟩, hS.F ht⟩) hS.2.2 dX9_changed_92
    · have hok := hok.1 c2
      refine lv_iload_n hx hb dX9_changed_80 rfl (lv_at hl 3 rfl) ?_
      refine lv_bipush (v := 7) hx hb dX9_changed_81 (by decide) ?_
      refine lv_ishl hx hb dX9_changed_83 ?_
      refine lv_goto (tgt := 88) hx hb dX9_changed_84 (by decide) ?_
      refine lv_ior hx hb dX9_changed_88 ?_
      refine lv_topi (fun v6 ev6 => ?_)
      have hok := hok v6 ev6
      have hPc := hP
      have hDc := hD
      have hFc := va_free (wc := w_Model h cI cJ u1) hD hS hA [0, 1, 2, 3, 4, 5, 6] rfl
      refine va_calli (va_runV (As := [.int v6]) (rest := []) ⟨hx, hb, hml, hown, hts⟩ (c_X9_tested l dC dI cI cJ h _ hok) (cwV 1 hts (tb_gV tw_4_160 tw_4_162 tw_p_59 tw_1_9 tw_4_163) rfl rfl rfl (by decide +kernel) ⟨Nat.le_of_ble_eq_true rfl, Nat.le_of_ble_eq_true rfl⟩) (cpre_V (ci := 8) (q0 := 0) hK hPc hDc rfl rfl) rfl rfl hl.1 rfl (lv_room (Nat.le_of_ble_eq_true rfl)) dX9_changed_89 ⟨Nat.le_of_ble_eq_true rfl, Nat.le_of_ble_eq_true rfl⟩) hS (fun q _ h => hFc q h) hFc (fun r7 u8 t H1 locs ht hvm hok hB hz1 hk1 hS => ?_)
      obtain ⟨hP, hD⟩ := cjoin_w ht hB hFc
      exact W.iret (v := r7) hx hb hr (fun t ht hW => ⟨⟨r7, u8, rfl, hok, by rw [ht]; exact hP, va_K.moved hW.alike hK, hD⟩, hS.F ht⟩) hS.2.2 dX9_changed_92
  have b23 : ∀ (σ : S_Model) (x1 : Int32) (x2 : Int32) (x3 : Int32) (s1 : Int32) (s2 : Int32), wp_X9_changed_23 σ x1 x2 x3 s1 s2 Φ → ∀ (H : Heap) (locs : List Loc), va_P (dC, dI) vwCl (w_Model h cI cJ σ) H → va_D A (w_Model h cI cJ σ) → va_S A s.heap H locs → ∀ ls : Array Slot, lv_has ls 4 [(0, .ref (h 13)), (1, .int x1), (2, .int x2), (3, .int x3)] → W p l e (headSpec wsX9_changed { frames := 2, cells := 0, slots := 0, locals := 43 }).room s m ([.ref (h 13), .int a1, .int a2] : List Value).toArray below meth c H locs 0 0 (MQ below (va_Qi Φ (fun u => cpost dC dI cI cJ A (w_Model h cI cJ u)) A) ([.ref (h 13), .int a1, .int a2] : List Value).toArray s 0 0 A) (F0 m 23 ls [.int s2, .int s1, .ref (h 13)]) := by
    intro σ x1 x2 x3 s1 s2 hok H locs hP hD hS ls hl
    unfold wp_X9_changed_23 at hok
    have hPc := hP
    have hDc := hD
    have hFc := va_free (wc := w_Model h cI cJ σ) hD hS hA [0, 1, 2, 3, 4, 5, 6] rfl
    refine va_callv (va_runV (As := [.int s1, .int s2]) (rest := []) ⟨hx, hb, hml, hown, hts⟩ (c_X9_flag l dC dI cI cJ h _ hok) (cwV 2 hts (tb_gV tw_4_85 tw_4_87 tw_p_42 tw_1_9 tw_4_88) rfl rfl rfl (by decide +kernel) ⟨Nat.le_of_ble_eq_true rfl, Nat.le_of_ble_eq_true rfl⟩) (cpre_V (ci := 8) (q0 := 0) hK hPc hDc rfl rfl) rfl rfl hl.1 rfl (lv_room (Nat.le_of_ble_eq_true rfl)) dX9_changed_23 ⟨Nat.le_of_ble_eq_true rfl, Nat.le_of_ble_eq_true rfl⟩) hS (fun q _ h => hFc q h) hFc (fun u9 t H1 locs ht hvm hok hB hz1 hk1 hS => ?_)
    obtain ⟨hP, hD⟩ := cjoin_w ht hB hFc
    refine lv_aload_n hx hb dX9_changed_26 rfl (lv_at hl 0 rfl) ?_
    refine lv_iload_n hx hb dX9_changed_27 rfl (lv_at hl 2 rfl) ?_
    refine lv_iconst (v := 1) hx hb dX9_changed_28 (by decide) ?_
    refine lv_ishl hx hb dX9_changed_29 ?_
    refine lv_iload_n hx hb dX9_changed_30 rfl (lv_at hl 1 rfl) ?_
    refine lv_iconst (v := 1) hx hb dX9_changed_31 (by decide) ?_
    refine lv_icmp_ne (tgt := 39) hx hb dX9_changed_32 (by decide) (fun c10 => ?_) (fun c10 => ?_)
    · have hok := hok.2 c10
      refine lv_iconst (v := 0) hx hb dX9_changed_39 (by decide) ?_
      refine lv_ior hx hb dX9_changed_40 ?_
      refine lv_topi (fun v11 ev11 => ?_)
      have hok := hok v11 ev11
      refine lv_sipush (v := 255) hx hb dX9_changed_41 (by decide) ?_
      refine lv_iand hx hb dX9_changed_44 ?_
      have hPc := hP
      have hDc := hD
      have hFc := va_free (wc := w_Model h cI cJ u9) hD hS hA [0, 1, 2, 3, 4, 5, 6] rfl
      refine va_calli (va_runV (As := [.int (v11 &&& (255 : Int32))]) (rest := []) ⟨hx, hb, hml, hown, hts⟩ (c_X9_tested l dC dI cI cJ h _ hok) (cwV 1 hts (tb_gV tw_4_160 tw_4_162 tw_p_59 tw_1_9 tw_4_163) rfl rfl rfl (by decide +kernel) ⟨Nat.le_of_ble_eq_true rfl, Nat.le_of_ble_eq_true rfl⟩) (cpre_V (ci := 8) (q0 := 0) hK hPc hDc rfl rfl) rfl rfl hl.1 rfl (lv_room (Nat.le_of_ble_eq_true rfl)) dX9_changed_45 ⟨Nat.le_of_ble_eq_true rfl, Nat.le_of_ble_eq_true rfl⟩) hS (fun q _ h => hFc q h) hFc (fun r12 u13 t H1 locs ht hvm hok hB hz1 hk1 hS => ?_)
      obtain ⟨hP, hD⟩ := cjoin_w ht hB hFc
      exact W.iret (v := r12) hx hb hr (fun t ht hW => ⟨⟨r12, u13, rfl, hok, by rw [ht]; exact hP, va_K.moved hW.alike hK, hD⟩, hS.F ht⟩) hS.2.2 dX9_changed_48
    · have hok := hok.1 c10
      refine lv_iload_n hx hb dX9_changed_35 rfl (lv_at hl 3 rfl) ?_
      refine lv_goto (tgt := 40) hx hb dX9_changed_36 (by decide) ?_
      refine lv_ior hx hb dX9_changed_40 ?_
      refine lv_sipush (v := 255) hx hb dX9_changed_41 (by decide) ?_
      refine lv_iand hx hb dX9_changed_44 ?_
      refine lv_topi (fun v14 ev14 => ?_)
      have hok := hok v14 ev14
      have hPc := hP
      have hDc := hD
      have hFc := va_free (wc := w_Model h cI cJ u9) hD hS hA [0, 1, 2, 3, 4, 5, 6] rfl
      refine va_calli (va_runV (As := [.int v14]) (rest := []) ⟨hx, hb, hml, hown, hts⟩ (c_X9_tested l dC dI cI cJ h _ hok) (cwV 1 hts (tb_gV tw_4_160 tw_4_162 tw_p_59 tw_1_9 tw_4_163) rfl rfl rfl (by decide +kernel) ⟨Nat.le_of_ble_eq_true rfl, Nat.le_of_ble_eq_true rfl⟩) (cpre_V (ci := 8) (q0 := 0) hK hPc hDc rfl rfl) rfl rfl hl.1 rfl (lv_room (Nat.le_of_ble_eq_true rfl)) dX9_changed_45 ⟨Nat.le_of_ble_eq_true rfl, Nat.le_of_ble_eq_true rfl⟩) hS (fun q _ h => hFc q h) hFc (fun r15 u16 t H1 locs ht hvm hok hB hz1 hk1 hS => ?_)
      obtain ⟨hP, hD⟩ := cjoin_w ht hB hFc
      exact W.iret (v := r15) hx hb hr (fun t ht hW => ⟨⟨r15, u16, rfl, hok, by rw [ht]; exact hP, va_K.moved hW.alike hK, hD⟩, hS.F ht⟩) hS.2.2 dX9_changed_48
  have hl := lv_entry ([.ref (h 13), .int a1, .int a2]) (n := 4) (Nat.le_of_ble_eq_true rfl)
  rw [lg_entry_eq]
  generalize (lg_sl ([.ref (h 13), .int a1, .int a2]) ++ List.replicate (4 - (lg_sl ([.ref (h 13), .int a1, .int a2])).length) Slot.unset).toArray = ls at hl ⊢
  have hl : lv_has ls 4 [(0, .ref (h 13)), (1, .int a1), (2, .int a2)] := hl
  unfold wp_X9_changed at hok
  refine lv_aload_n hx hb dX9_changed_0 rfl (lv_at hl 0 rfl) ?_
  have hPc := hP
  have hDc := hD
  have hFc := va_free (wc := w_Model h cI cJ σ) hD hS hA [0, 1, 2, 3, 4, 5, 6] rfl
  refine va_calli (va_runV (As := []) (rest := []) ⟨hx, hb, hml, hown, hts⟩ (c_X9_carry l dC dI cI cJ h _ hok) (cwV 0 hts (tb_gV tw_4_186 tw_4_188 tw_p_64 tw_1_9 tw_4_189) rfl rfl rfl (by decide +kernel) ⟨Nat.le_of_ble_eq_true rfl, Nat.le_of_ble_eq_true rfl⟩) (cpre_V (ci := 8) (q0 := 0) hK hPc hDc rfl rfl) rfl rfl hl.1 rfl (lv_room (Nat.le_of_ble_eq_true rfl)) dX9_changed_1 ⟨Nat.le_of_ble_eq_true rfl, Nat.le_of_ble_eq_true rfl⟩) hS (fun q _ h => hFc q h) hFc (fun r17 _ t H1 locs ht hvm hok hB hz1 hk1 hS => ?_)
  obtain ⟨hP, hD⟩ := cjoin_w ht hB hFc
  refine lv_istore_n (lv' := [(3, .int r17), (0, .ref (h 13)), (1, .int a1), (2, .int a2)]) hx hb dX9_changed_4 rfl hl (by decide) rfl (fun ls hl => ?_)
  refine lv_iload_n hx hb dX9_changed_5 rfl (lv_at hl 2 rfl) ?_
  refine lv_iconst (v := 2) hx hb dX9_changed_6 (by decide) ?_
  refine lv_icmp_ge (tgt := 49) hx hb dX9_changed_7 (by decide) (fun c18 => ?_) (fun c18 => ?_)
  · have hok := hok.1 c18
    refine lv_iload_n hx hb dX9_changed_49 rfl (lv_at hl 2 rfl) ?_
    refine lv_iconst (v := 4) hx hb dX9_changed_50 (by decide) ?_
    refine lv_icmp_ge (tgt := 93) hx hb dX9_changed_51 (by decide) (fun c19 => ?_) (fun c19 => ?_)
    · have hok := hok.1 c19
      refine lv_aload_n hx hb dX9_changed_93 rfl (lv_at hl 1 rfl) ?_
      refine lv_iload_n hx hb dX9_changed_94 rfl (lv_at hl 3 rfl) ?_
      refine lv_iload_n hx hb dX9_changed_95 rfl (lv_at hl 2 rfl) ?_
      refine lv_bipush (v := 6) hx hb dX9_changed_96 (by decide) ?_
      refine lv_icmp_ne (tgt := 105) hx hb dX9_changed_98 (by decide) (fun c20 => ?_) (fun c20 => ?_)
      · have hok := hok.2 c20
        refine lv_iconst (v := 1) hx hb dX9_changed_105 (by decide) ?_
        refine lv_iadd hx hb dX9_changed_106 ?_
        refine lv_sipush (v := 255) hx hb dX9_changed_107 (by decide) ?_
        refine lv_iand hx hb dX9_changed_110 ?_
        have hPc := hP
        have hDc := hD
        have hFc := va_free (wc := w_Model h cI cJ σ) hD hS hA [0, 1, 2, 3, 4, 5, 6] rfl
        refine va_calli (va_runV (As := [.int ((a2 + (1 : Int32)) &&& (255 : Int32))]) (rest := []) ⟨hx, hb, hml, hown, hts⟩ (c_X9_tested l dC dI cI cJ h _ hok) (cwV 1 hts (tb_gV tw_4_160 tw_4_162 tw_p_59 tw_1_9 tw_4_163) rfl rfl rfl (by decide +kernel) ⟨Nat.le_of_ble_eq_true rfl, Nat.le_of_ble_eq_true rfl⟩) (cpre_V (ci := 8) (q0 := 0) hK hPc hDc rfl rfl) rfl rfl hl.1 rfl (lv_room (Nat.le_of_ble_eq_true rfl)) dX9_changed_111 ⟨Nat.le_of_ble_eq_true rfl, Nat.le_of_ble_eq_true rfl⟩) hS (fun q _ h => hFc q h) hFc (fun r21 u22 t H1 locs ht hvm hok hB hz1 hk1 hS => ?_)
        obtain ⟨hP, hD⟩ := cjoin_w ht hB hFc
        exact W.iret (v := r21) hx hb hr (fun t ht hW => ⟨⟨r21, u22, rfl, hok, by rw [ht]; exact hP, va_K.moved hW.alike hK, hD⟩, hS.F ht⟩) hS.2.2 dX9_changed_114
      · have hok := hok.1 c20
        refine lv_iconst (v := (-1)) hx hb dX9_changed_101 (by decide) ?_
        refine lv_goto (tgt := 106) hx hb dX9_changed_102 (by decide) ?_
        refine lv_iadd hx hb dX9_changed_106 ?_
        refine lv_sipush (v := 255) hx hb dX9_changed_107 (by decide) ?_
        refine lv_iand hx hb dX9_changed_110 ?_
        have hPc := hP
        have hDc := hD
        have hFc := va_free (wc := w_Model h cI cJ σ) hD hS hA [0, 1, 2, 3, 4, 5, 6] rfl
        refine va_calli (va_runV (As := [.int ((a2 + (-1 : Int32)) &&& (255 : Int32))]) (rest := []) ⟨hx, hb, hml, hown, hts⟩ (c_X9_tested l dC dI cI cJ h _ hok) (cwV 1 hts (tb_gV tw_4_160 tw_4_162 tw_p_59 tw_1_9 tw_4_163) rfl rfl rfl (by decide +kernel) ⟨Nat.le_of_ble_eq_true rfl, Nat.le_of_ble_eq_true rfl⟩) (cpre_V (ci := 8) (q0 := 0) hK hPc hDc rfl rfl) rfl rfl hl.1 rfl (lv_room (Nat.le_of_ble_eq_true rfl)) dX9_changed_111 ⟨Nat.le_of_ble_eq_true rfl, Nat.le_of_ble_eq_true rfl⟩) hS (fun q _ h => hFc q h) hFc (fun r23 u24 t H1 locs ht hvm hok hB hz1 hk1 hS => ?_)
        obtain ⟨hP, hD⟩ := cjoin_w ht hB hFc
        exact W.iret (v := r23) hx hb hr (fun t ht hW => ⟨⟨r23, u24, rfl, hok, by rw [ht]; exact hP, va_K.moved hW.alike hK, hD⟩, hS.F ht⟩) hS.2.2 dX9_changed_114
    · have hok := hok.2 c19
      refine lv_aload_n hx hb dX9_changed_54 rfl (lv_at hl 1 rfl) ?_
      refine lv_iconst (v := 1) hx hb dX9_changed_55 (by decide) ?_
      refine lv_iload_n hx hb dX9_changed_56 rfl (lv_at hl 3 rfl) ?_
      refine lv_iconst (v := 1) hx hb dX9_changed_57 (by decide) ?_
      refine lv_iand hx hb dX9_changed_58 ?_
      refine lv_iconst (v := 1) hx hb dX9_changed_59 (by decide) ?_
      refine lv_icmp_ne (tgt := 67) hx hb dX9_changed_60 (by decide) (fun c25 => ?_) (fun c25 => ?_)
      · have hok := hok.2 c25
        refine lv_iconst (v := 0) hx hb dX9_changed_67 (by decide) ?_
        exact b68 σ a1 a2 r17 1 0 hok _ _ hP hD hS _ (lv_sub hl [1, 2, 3, 0] rfl)
      · have hok := hok.1 c25
        refine lv_iconst (v := 1) hx hb dX9_changed_63 (by decide) ?_
        refine lv_goto (tgt := 68) hx hb dX9_changed_64 (by decide) ?_
        exact b68 σ a1 a2 r17 1 1 hok _ _ hP hD hS _ (lv_sub hl [1, 2, 3, 0] rfl)
  · have hok := hok.2 c18
    refine lv_aload_n hx hb dX9_changed_10 rfl (lv_at hl 1 rfl) ?_
    refine lv_iconst (v := 1) hx hb dX9_changed_11 (by decide) ?_
    refine lv_iload_n hx hb dX9_changed_12 rfl (lv_at hl 3 rfl) ?_
    refine lv_bipush (v := 127) hx hb dX9_changed_13 (by decide) ?_
    refine lv_icmp_le (tgt := 22) hx hb dX9_changed_15 (by decide) (fun c26 => ?_) (fun c26 => ?_)
    · have hok := hok.1 c26
      refine lv_iconst (v := 0) hx hb dX9_changed_22 (by decide) ?_
      exact b23 σ a1 a2 r17 1 0 hok _ _ hP hD hS _ (lv_sub hl [1, 2, 3, 0] rfl)
    · have hok := hok.2 c26
      refine lv_iconst (v := 1) hx hb dX9_changed_18 (by decide) ?_
      refine lv_goto (tgt := 23) hx hb dX9_changed_19 (by decide) ?_
      exact b23 σ a1 a2 r17 1 1 hok _ _ hP hD hS _ (lv_sub hl [1, 2, 3, 0] rfl)
def wp_X9_change (σ : S_Model) (a1 : Int32) (a2 : Int32) (Φ : Int32 → S_Model → Prop) : Prop := ((a2 = (10 : Int32) → ((vp_in 0 4 ∧ (wp_X9_changed σ a1 ((σ.2.2 2) (0 : Int32).toNatClampNeg) (fun r13 u14 => (vp_in 0 4 ∧ (Φ 2 (u14.1, u14.2.1, va_up u14.2.2 2 (upd (u14.2.2 2) (0 : Int32).toNatClampNeg r13))))))))) ∧ (¬ a2 = (10 : Int32) → (wp_X9_address σ a2 (fun r2 u3 => wp_X9_read u3 r2 (fun r4 u5 => wp_X9_changed u5 a1 r4 (fun r6 u7 => wp_X9_write u7 r2 r6 (fun u8 => ((a2 = (1 : Int32) → (Φ 5 u8)) ∧ (¬ a2 = (1 : Int32) → (((a2 = (5 : Int32) → ((((3 : Int32) < a1 → (Φ 7 u8)) ∧ (¬ (3 : Int32) < a1 → ((((u8.1 11) = 0 → (Φ 6 u8)) ∧ (¬ (u8.1 11) = 0 → (Φ 7 u8)))))))) ∧ (¬ a2 = (5 : Int32) → (Φ 6 u8)))))))))))))
set_option maxHeartbeats 4000000 in
set_option maxRecDepth 100000 in
theorem c_X9_change (l : Launch) (dC : Nat → ClassId) (dI : Nat → Nat → Nat) (cI cJ : ClassId) (h : Nat → Nat) (sz : Nat) {σ : S_Model} {a1 : Int32} {a2 : Int32} {Φ : Int32 → S_Model → Prop} (hok : wp_X9_change σ a1 a2 Φ) : Met l yX9_change wsX9_change ({ frames := 5, cells := 0, slots := 0, locals := 108 }) (va_Pc [.ref (h 13), .int a1, .int a2] (cpre dC dI cI cJ (w_Model h cI cJ σ) sz)) (va_Qi Φ (fun u => cpost dC dI cI cJ (va_A (w_Model h cI cJ σ) sz) (w_Model h cI cJ u)) (va_A (w_Model h cI cJ σ) sz)) 0 0 (va_A (w_Model h cI cJ σ) sz) := by
  refine Met.ofW (cc := cX9_change) (maxL := 4) (ret := (some .int)) (by decide) rfl ?_
  intro p e s m args below meth c s₁ B hml hv
  obtain ⟨rfl, hsz, hP, hK, hD0⟩ := hv
  have hx := B.exec
  have hb := B.bytes
  have hr := B.returns
  have hts := atoms_spec (ws := wsX9_change) B.pre
  have hown : s.vm.findClass RX9 = some m.cls := findClass_of_methodNamed B.named
  have hlocks := B.notSynchronized
  subst hsz
  have hD := hD0.self (sz := s.heap.size)
  generalize hAe : va_A (w_Model h cI cJ σ) s.heap.size = A at hD ⊢
  have hA : ∀ q : Nat, s.heap.size ≤ q → A q := fun q h => by rw [← hAe]; exact Or.inr h
  clear hD0 hAe
  have hS : va_S A s.heap s.heap [] := va_S.rf
  have hl := lv_entry ([.ref (h 13), .int a1, .int a2]) (n := 4) (Nat.le_of_ble_eq_true rfl)
  rw [lg_entry_eq]
  generalize (lg_sl ([.ref (h 13), .int a1, .int a2]) ++ List.replicate (4 - (lg_sl ([.ref (h 13), .int a1, .int a2])).length) Slot.unset).toArray = ls at hl ⊢
  have hl : lv_has ls 4 [(0, .ref (h 13)), (1, .int a1), (2, .int a2)] := hl
  unfold wp_X9_change at hok
  refine lv_iload_n hx hb dX9_change_0 rfl (lv_at hl 2 rfl) ?_
  refine lv_bipush (v := 10) hx hb dX9_change_1 (by decide) ?_
  refine lv_icmp_ne (tgt := 25) hx hb dX9_change_3 (by decide) (fun c1 => ?_) (fun c1 => ?_)
  · have hok := hok.2 c1
    refine lv_aload_n hx hb dX9_change_25 rfl (lv_at hl 0 rfl) ?_
    refine lv_iload_n hx hb dX9_change_26 rfl (lv_at hl 2 rfl) ?_
    have hPc := hP
    have hDc := hD
    have hFc := va_free (wc := w_Model h cI cJ σ) hD hS hA [0, 1, 2, 3, 4, 5, 6] rfl
    refine va_calli (va_runV (As := [.int a2]) (rest := []) ⟨hx, hb, hml, hown, hts⟩ (c_X9_address l dC dI cI cJ h _ hok) (cwV 1 hts (tb_gV tw_4_148 tw_4_150 tw_p_56 tw_1_9 tw_4_151) rfl rfl rfl (by decide +kernel) ⟨Nat.le_of_ble_eq_true rfl, Nat.le_of_ble_eq_true rfl⟩) (cpre_V (ci := 8) (q0 := 0) hK hPc hDc rfl rfl) rfl rfl hl.1 rfl (lv_room (Nat.le_of_ble_eq_true rfl)) dX9_change_27 ⟨Nat.le_of_ble_eq_true rfl, Nat.le_of_ble_eq_true rfl⟩) hS (fun q _ h => hFc q h) hFc (fun r2 u3 t H1 locs ht hvm hok hB hz1 hk1 hS => ?_)
    obtain ⟨hP, hD⟩ := cjoin_w ht hB hFc
    refine lv_istore_n (lv' := [(3, .int r2), (0, .ref (h 13)), (1, .int a1), (2, .int a2)]) hx hb dX9_change_30 rfl hl (by decide) rfl (fun ls hl => ?_)
    refine lv_aload_n hx hb dX9_change_31 rfl (lv_at hl 1 rfl) ?_
    refine lv_iload_n hx hb dX9_change_32 rfl (lv_at hl 0 rfl) ?_
    refine lv_aload_n hx hb dX9_change_33 rfl (lv_at hl 1 rfl) ?_
    refine lv_iload_n hx hb dX9_change_34 rfl (lv_at hl 2 rfl) ?_
    refine lv_aload_n hx hb dX9_change_35 rfl (lv_at hl 1 rfl) ?_
    refine lv_iload_n hx hb dX9_change_36 rfl (lv_at hl 0 rfl) ?_
    have hPc := hP
    have hDc := hD
    have hFc := va_free (wc := w_Model h cI cJ u3) hD hS hA [0, 1, 2, 3, 4, 5, 6] rfl
    refine va_calli (va_runV (As := [.int r2]) (rest := [.int a1, .ref (h 13), .int r2, .ref (h 13)]) ⟨hx, hb, hml, hown, hts⟩ (c_X9_read l dC dI cI cJ h _ hok) (cwV 1 hts (tb_gV tw_4_93 tw_4_95 tw_p_44 tw_1_9 tw_4_96) rfl rfl rfl (by decide +kernel) ⟨Nat.le_of_ble_eq_true rfl, Nat.le_of_ble_eq_true rfl⟩) (cpre_V (ci := 8) (q0 := 0) hK hPc hDc rfl rfl) rfl rfl hl.1 rfl (lv_room (Nat.le_of_ble_eq_true rfl)) dX9_change_37 ⟨Nat.le_of_ble_eq_true rfl, Nat.le_of_ble_eq_true rfl⟩) hS (fun q _ h => hFc q h) hFc (fun r4 u5 t H1 locs ht hvm hok hB hz1 hk1 hS => ?_)
    obtain ⟨hP, hD⟩ := cjoin_w ht hB hFc
    have hPc := hP
    have hDc := hD
    have hFc := va_free (wc := w_Model h cI cJ u5) hD hS hA [0, 1, 2, 3, 4, 5, 6] rfl
    refine va_calli (va_runV (As := [.int a1, .int r4]) (rest := [.int r2, .ref (h 13)]) ⟨hx, hb, hml, hown, hts⟩ (c_X9_changed l dC dI cI cJ h _ hok) (cwV 2 hts (tb_gV tw_4_229 tw_4_231 tw_p_74 tw_1_9 tw_4_232) rfl rfl rfl (by decide +kernel) ⟨Nat.le_of_ble_eq_true rfl, Nat.le_of_ble_eq_true rfl⟩) (cpre_V (ci := 8) (q0 := 0) hK hPc hDc rfl rfl) rfl rfl hl.1 rfl (lv_room (Nat.le_of_ble_eq_true rfl)) dX9_change_40 ⟨Nat.le_of_ble_eq_true rfl, Nat.le_of_ble_eq_true rfl⟩) hS (fun q _ h => hFc q h) hFc (fun r6 u7 t H1 locs ht hvm hok hB hz1 hk1 hS => ?_)
    obtain ⟨hP, hD⟩ := cjoin_w ht hB hFc
    have hPc := hP
    have hDc := hD
    have hFc := va_free (wc := w_Model h cI cJ u7) hD hS hA [0, 1, 2, 3, 4, 5, 6] rfl
    refine va_callv (va_runV (As := [.int r2, .int r6]) (rest := []) ⟨hx, hb, hml, hown, hts⟩ (c_X9_write l dC dI cI cJ h _ hok) (cwV 2 hts (tb_gV tw_4_72 tw_4_74 tw_p_40 tw_1_9 tw_4_75) rfl rfl rfl (by decide +kernel) ⟨Nat.le_of_ble_eq_true rfl, Nat.le_of_ble_eq_true rfl⟩) (cpre_V (ci := 8) (q0 := 0) hK hPc hDc rfl rfl) rfl rfl hl.1 rfl (lv_room (Nat.le_of_ble_eq_true rfl)) dX9_change_43 ⟨Nat.le_of_ble_eq_true rfl, Nat.le_of_ble_eq_true rfl⟩) hS (fun q _ h => hFc q h) hFc (fun u8 t H1 locs ht hvm hok hB hz1 hk1 hS => ?_)
    obtain ⟨hP, hD⟩ := cjoin_w ht hB hFc
    refine lv_iload_n hx hb dX9_change_46 rfl (lv_at hl 3 rfl) ?_
    refine lv_iconst (v := 1) hx hb dX9_change_47 (by decide) ?_
    refine lv_icmp_ne (tgt := 55) hx hb dX9_change_48 (by decide) (fun c9 => ?_) (fun c9 => ?_)
    · have hok := hok.2 c9
      refine lv_iload_n hx hb dX9_change_55 rfl (lv_at hl 3 rfl) ?_
      refine lv_iconst (v := 5) hx hb dX9_change_56 (by decide) ?_
      refine lv_icmp_eq (tgt := 65) hx hb dX9_change_57 (by decide) (fun c10 => ?_) (fun c10 => ?_)
      · have hok := hok.1 c10
        refine lv_iload_n hx hb dX9_change_65 rfl (lv_at hl 2 rfl) ?_
        refine lv_iconst (v := 3) hx hb dX9_change_66 (by decide) ?_
        refine lv_icmp_gt (tgt := 77) hx hb dX9_change_67 (by decide) (fun c11 => ?_) (fun c11 => ?_)
        · have hok := hok.1 c11
          refine lv_bipush (v := 7) hx hb dX9_change_77 (by decide) ?_
          refine lv_goto (tgt := 84) hx hb dX9_change_79 (by decide) ?_
          exact W.iret (v := 7) hx hb hr (fun t ht hW => ⟨⟨7, u8, rfl, hok, by rw [ht]; exact hP, va_K.moved hW.alike hK, hD⟩, hS.F ht⟩) hS.2.2 dX9_change_84
        · have hok := hok.2 c11
          refine lv_aload_n hx hb dX9_change_70 rfl (lv_at hl 1 rfl) ?_
          refine va_get (D := (dC, dI)) (ci := 8) (v := .int (u8.1 11)) (C := RX9) (T := TX9) (N := 33) hx hb hts (fun w h => List.mem_cons_of_mem _ (in_X9 w h)) hown hK hP 0 rfl rfl 11 (by decide) (hts _ (List.mem_cons_of_mem _ tw_3_198)) (fun _ h9 => h9) rfl dX9_change_71 ?_
          refine lv_if_eq (tgt := 82) hx hb dX9_change_74 (by decide) (fun c12 => ?_) (fun c12 => ?_)
          · have hok := hok.1 c12
            refine lv_bipush (v := 6) hx hb dX9_change_82 (by decide) ?_
            exact W.iret (v := 6) hx hb hr (fun t ht hW => ⟨⟨6, u8, rfl, hok, by rw [ht]; exact hP, va_K.moved hW.alike hK, hD⟩, hS.F ht⟩) hS.2.2 dX9_change_84
          · have hok := hok.2 c12
            refine lv_bipush (v := 7) hx hb dX9_change_77 (by decide) ?_
            refine lv_goto (tgt := 84) hx hb dX9_change_79 (by decide) ?_
            exact W.iret (v := 7) hx hb hr (fun t ht hW => ⟨⟨7, u8, rfl, hok, by rw [ht]; exact hP, va_K.moved hW.alike hK, hD⟩, hS.F ht⟩) hS.2.2 dX9_change_84
      · have hok := hok.2 c10
        refine lv_bipush (v := 6) hx hb dX9_change_60 (by decide) ?_
        refine lv_goto (tgt := 84) hx hb dX9_change_62 (by decide) ?_
        exact W.iret (v := 6) hx hb hr (fun t ht hW => ⟨⟨6, u8, rfl, hok, by rw [ht]; exact hP, va_K.moved hW.alike hK, hD⟩, hS.F ht⟩) hS.2.2 dX9_change_84
    · have hok := hok.1 c9
      refine lv_iconst (v := 5) hx hb dX9_change_51 (by decide) ?_
      refine lv_goto (tgt := 84) hx hb dX9_change_52 (by decide) ?_
      exact W.iret (v := 5) hx hb hr (fun t ht hW => ⟨⟨5, u8, rfl, hok, by rw [ht]; exact hP, va_K.moved hW.alike hK, hD⟩, hS.F ht⟩) hS.2.2 dX9_change_84
  · have hok := hok.1 c1
    refine lv_aload_n hx hb dX9_change_6 rfl (lv_at hl 0 rfl) ?_
    refine va_get (D := (dC, dI)) (ci := 8) (v := .ref (h 15)) (C := RX9) (T := TX9) (N := 33) hx hb hts (fun w h => List.mem_cons_of_mem _ (in_X9 w h)) hown hK hP 0 rfl rfl 2 (by decide) (hts _ (List.mem_cons_of_mem _ tw_3_189)) (fun _ h9 => h9) rfl dX9_change_7 ?_
    refine lv_iconst (v := 0) hx hb dX9_change_10 (by decide) ?_
    refine lv_aload_n hx hb dX9_change_11 rfl (lv_at hl 0 rfl) ?_
    refine lv_iload_n hx hb dX9_change_12 rfl (lv_at hl 1 rfl) ?_
    refine lv_aload_n hx hb dX9_change_13 rfl (lv_at hl 0 rfl) ?_
    refine va_get (D := (dC, dI)) (ci := 8) (v := .ref (h 15)) (C := RX9) (T := TX9) (N := 33) hx hb hts (fun w h => List.mem_cons_of_mem _ (in_X9 w h)) hown hK hP 0 rfl rfl 2 (by decide) (hts _ (List.mem_cons_of_mem _ tw_3_189)) (fun _ h9 => h9) rfl dX9_change_14 ?_
    refine lv_iconst (v := 0) hx hb dX9_change_17 (by decide) ?_
    refine va_iald hx hb hK hP 2 0 rfl rfl hok.1 dX9_change_18 ?_
    have hok := hok.2
    have hPc := hP
    have hDc := hD
    have hFc := va_free (wc := w_Model h cI cJ σ) hD hS hA [0, 1, 2, 3, 4, 5, 6] rfl
    refine va_calli (va_runV (As := [.int a1, .int ((σ.2.2 2) (0 : Int32).toNatClampNeg)]) (rest := [.int 0, .ref (h 15)]) ⟨hx, hb, hml, hown, hts⟩ (c_X9_changed l dC dI cI cJ h _ hok) (cwV 2 hts (tb_gV tw_4_229 tw_4_231 tw_p_74 tw_1_9 tw_4_232) rfl rfl rfl (by decide +kernel) ⟨Nat.le_of_ble_eq_true rfl, Nat.le_of_ble_eq_true rfl⟩) (cpre_V (ci := 8) (q0 := 0) hK hPc hDc rfl rfl) rfl rfl hl.1 rfl (lv_room (Nat.le_of_ble_eq_true rfl)) dX9_change_19 ⟨Nat.le_of_ble_eq_true rfl, Nat.le_of_ble_eq_true rfl⟩) hS (fun q _ h => hFc q h) hFc (fun r13 u14 t H1 locs ht hvm hok hB hz1 hk1 hS => ?_)
    obtain ⟨hP, hD⟩ := cjoin_w ht hB hFc
    refine va_iast hx hb hK hP hD hS 2 0 rfl rfl hok.1 dX9_change_22 (fun H locs hP hD hS => ?_)
    have hok := hok.2
    have hP : va_P (dC, dI) vwCl (w_Model h cI cJ (u14.1, u14.2.1, va_up u14.2.2 2 (upd (u14.2.2 2) (0 : Int32).toNatClampNeg r13))) _ := hP
    have hD : va_D A (w_Model h cI cJ (u14.1, u14.2.1, va_up u14.2.2 2 (upd (u14.2.2 2) (0 : Int32).toNatClampNeg r13))) := hD
    refine lv_iconst (v := 2) hx hb dX9_change_23 (by decide) ?_
    exact W.iret (v := 2) hx hb hr (fun t ht hW => ⟨⟨2, (u14.1, u14.2.1, va_up u14.2.2 2 (upd (u14.2.2 2) (0 : Int32).toNatClampNeg r13)), rfl, hok, by rw [ht]; exact hP, va_K.moved hW.alike hK, hD⟩, hS.F ht⟩) hS.2.2 dX9_change_24
def wp_X9_loaded (σ : S_Model) (a1 : Int32) (a2 : Int32) (Φ : Int32 → S_Model → Prop) : Prop := wp_X9_taken (upd σ.1 11 0, σ.2.1, σ.2.2) a2 (fun r1 u2 => wp_X9_tested u2 r1 (fun r3 u4 => (vp_in a1 4 ∧ (wp_X9_time a2 (fun r5 => (((u4.1 11) = 0 → (Φ (r5 + (0 : Int32)) (u4.1, u4.2.1, va_up u4.2.2 2 (upd (u4.2.2 2) a1.toNatClampNeg r3)))) ∧ (¬ (u4.1 11) = 0 → (Φ (r5 + (1 : Int32)) (u4.1, u4.2.1, va_up u4.2.2 2 (upd (u4.2.2 2) a1.toNatClampNeg r3))))))))))
set_option maxHeartbeats 4000000 in
set_option maxRecDepth 100000 in
theorem c_X9_loaded (l : Launch) (dC : Nat → ClassId) (dI : Nat → Nat → Nat) (cI cJ : ClassId) (h : Nat → Nat) (sz : Nat) {σ : S_Model} {a1 : Int32} {a2 : Int32} {Φ : Int32 → S_Model → Prop} (hok : wp_X9_loaded σ a1 a2 Φ) : Met l yX9_loaded wsX9_loaded ({ frames := 6, cells := 0, slots := 0, locals := 129 }) (va_Pc [.ref (h 13), .int a1, .int a2] (cpre dC dI cI cJ (w_Model h cI cJ σ) sz)) (va_Qi Φ (fun u => cpost dC dI cI cJ (va_A (w_Model h cI cJ σ) sz) (w_Model h cI cJ u)) (va_A (w_Model h cI cJ σ) sz)) 0 0 (va_A (w_Model h cI cJ σ) sz) := by
  refine Met.ofW (cc := cX9_loaded) (maxL := 3) (ret := (some .int)) (by decide) rfl ?_
  intro p e s m args below meth c s₁ B hml hv
  obtain ⟨rfl, hsz, hP, hK, hD0⟩ := hv
  have hx := B.exec
  have hb := B.bytes
  have hr := B.returns
  have hts := atoms_spec (ws := wsX9_loaded) B.pre
  have hown : s.vm.findClass RX9 = some m.cls := findClass_of_methodNamed B.named
  have hlocks := B.notSynchronized
  subst hsz
  have hD := hD0.self (sz := s.heap.size)
  generalize hAe : va_A (w_Model h cI cJ σ) s.heap.size = A at hD ⊢
  have hA : ∀ q : Nat, s.heap.size ≤ q → A q := fun q h => by rw [← hAe]; exact Or.inr h
  clear hD0 hAe
  have hS : va_S A s.heap s.heap [] := va_S.rf
  have hl := lv_entry ([.ref (h 13), .int a1, .int a2]) (n := 3) (Nat.le_of_ble_eq_true rfl)
  rw [lg_entry_eq]
  generalize (lg_sl ([.ref (h 13), .int a1, .int a2]) ++ List.replicate (3 - (lg_sl ([.ref (h 13), .int a1, .int a2])).length) Slot.unset).toArray = ls at hl ⊢
  have hl : lv_has ls 3 [(0, .ref (h 13)), (1, .int a1), (2, .int a2)] := hl
  unfold wp_X9_loaded at hok
  refine lv_aload_n hx hb dX9_loaded_0 rfl (lv_at hl 0 rfl) ?_
  refine lv_iconst (v := 0) hx hb dX9_loaded_1 (by decide) ?_
  refine va_put (D := (dC, dI)) (ci := 8) (v := .int 0) (ty := .boolean) (C := RX9) (T := TX9) (N := 33) hx hb hts (fun w h => List.mem_cons_of_mem _ (in_X9 w h)) tyX9 tyX9_ok nmX9 hown hK hP hD hS 0 rfl rfl 11 (by decide) (hts _ (List.mem_cons_of_mem _ tw_3_198)) (fun _ h9 => h9) rfl (by decide +kernel) rfl rfl (Nat.le_of_ble_eq_true rfl) dX9_loaded_2 (fun H locs hP hD hS => ?_)
  have hP : va_P (dC, dI) vwCl (w_Model h cI cJ (upd σ.1 11 0, σ.2.1, σ.2.2)) _ := hP
  have hD : va_D A (w_Model h cI cJ (upd σ.1 11 0, σ.2.1, σ.2.2)) := hD
  refine lv_aload_n hx hb dX9_loaded_5 rfl (lv_at hl 0 rfl) ?_
  refine va_get (D := (dC, dI)) (ci := 8) (v := .ref (h 15)) (C := RX9) (T := TX9) (N := 33) hx hb hts (fun w h => List.mem_cons_of_mem _ (in_X9 w h)) hown hK hP 0 rfl rfl 2 (by decide) (hts _ (List.mem_cons_of_mem _ tw_3_189)) (fun _ h9 => h9) rfl dX9_loaded_6 ?_
  refine lv_iload_n hx hb dX9_loaded_9 rfl (lv_at hl 1 rfl) ?_
  refine lv_aload_n hx hb dX9_loaded_10 rfl (lv_at hl 0 rfl) ?_
  refine lv_aload_n hx hb dX9_loaded_11 rfl (lv_at hl 0 rfl) ?_
  refine lv_iload_n hx hb dX9_loaded_12 rfl (lv_at hl 2 rfl) ?_
  have hPc := hP
  have hDc := hD
  have hFc := va_free (wc := w_Model h cI cJ (upd σ.1 11 0, σ.2.1, σ.2.2)) hD hS hA [0, 1, 2, 3, 4, 5, 6] rfl
  refine va_calli (va_runV (As := [.int a2]) (rest := [.ref (h 13), .int a1, .ref (h 15)]) ⟨hx, hb, hml, hown, hts⟩ (c_X9_taken l dC dI cI cJ h _ hok) (cwV 1 hts (tb_gV tw_4_144 tw_4_146 tw_p_55 tw_1_9 tw_4_147) rfl rfl rfl (by decide +kernel) ⟨Nat.le_of_ble_eq_true rfl, Nat.le_of_ble_eq_true rfl⟩) (cpre_V (ci := 8) (q0 := 0) hK hPc hDc rfl rfl) rfl rfl hl.1 rfl (lv_room (Nat.le_of_ble_eq_true rfl)) dX9_loaded_13 ⟨Nat.le_of_ble_eq_true rfl, Nat.le_of_ble_eq_true rfl⟩) hS (fun q _ h => hFc q h) hFc (fun r1 u2 t H1 locs ht hvm hok hB hz1 hk1 hS => ?_)
  obtain ⟨hP, hD⟩ := cjoin_w ht hB hFc
  have hPc := hP
  have hDc := hD
  have hFc := va_free (wc := w_Model h cI cJ u2) hD hS hA [0, 1, 2, 3, 4, 5, 6] rfl
  refine va_calli (va_runV (As := [.int r1]) (rest := [.int a1, .ref (h 15)]) ⟨hx, hb, hml, hown, hts⟩ (c_X9_tested l dC dI cI cJ h _ hok) (cwV 1 hts (tb_gV tw_4_160 tw_4_162 tw_p_59 tw_1_9 tw_4_163) rfl rfl rfl (by decide +kernel) ⟨Nat.le_of_ble_eq_true rfl, Nat.le_of_ble_eq_true rfl⟩) (cpre_V (ci := 8) (q0 := 0) hK hPc hDc rfl rfl) rfl rfl hl.1 rfl (lv_room (Nat.le_of_ble_eq_true rfl)) dX9_loaded_16 ⟨Nat.le_of_ble_eq_true rfl, Nat.le_of_ble_eq_true rfl⟩) hS (fun q _ h => hFc q h) hFc (fun r3 u4 t H1 locs ht hvm hok hB hz1 hk1 hS => ?_)
  obtain ⟨hP, hD⟩ := cjoin_w ht hB hFc
  refine va_iast hx hb hK hP hD hS 2 0 rfl rfl hok.1 dX9_loaded_19 (fun H locs hP hD hS => ?_)
  have hok := hok.2
  have hP : va_P (dC, dI) vwCl (w_Model h cI cJ (u4.1, u4.2.1, va_up u4.2.2 2 (upd (u4.2.2 2) a1.toNatClampNeg r3))) _ := hP
  have hD : va_D A (w_Model h cI cJ (u4.1, u4.2.1, va_up u4.2.2 2 (upd (u4.2.2 2) a1.toNatClampNeg r3))) := hD
  refine lv_iload_n hx hb dX9_loaded_20 rfl (lv_at hl 2 rfl) ?_
  have hPc := hP.sub (ws' := []) [] rfl
  have hDc := hD.sub (ws' := []) [] (by decide) rfl
  have hFc := va_free (wc := []) hD hS hA [] rfl
  refine va_calli (va_runS (As := [.int a2]) (rest := []) ⟨hx, hb, hml, hown, hts⟩ (c_X9_time l dC dI cI cJ h _ hok) (va_cwS 1 hts (tb_gS tw_4_164 tw_4_165 tw_1_9 tw_4_166) rfl rfl rfl (by decide +kernel) ⟨Nat.le_of_ble_eq_true rfl, Nat.le_of_ble_eq_true rfl⟩) (cpre_S hK hPc hDc) rfl rfl hl.1 rfl (lv_room (Nat.le_of_ble_eq_true rfl)) dX9_loaded_21 ⟨Nat.le_of_ble_eq_true rfl, Nat.le_of_ble_eq_true rfl⟩) hS (fun q _ h => hFc q h) hFc (fun r5 _ t H1 locs ht hvm hok hB hz1 hk1 hS => ?_)
  obtain ⟨hP, hD⟩ := cjoin ht hP hD [] [0, 1, 2, 3, 4, 5, 6] rfl rfl (by decide) (by decide) hk1 hFc hB
  have hP := hP.sub (ws' := w_Model h cI cJ (u4.1, u4.2.1, va_up u4.2.2 2 (upd (u4.2.2 2) a1.toNatClampNeg r3))) [0, 1, 2, 3, 4, 5, 6] rfl
  have hD := hD.sub (ws' := w_Model h cI cJ (u4.1, u4.2.1, va_up u4.2.2 2 (upd (u4.2.2 2) a1.toNatClampNeg r3))) [0, 1, 2, 3, 4, 5, 6] (by decide) rfl
  refine lv_aload_n hx hb dX9_loaded_24 rfl (lv_at hl 0 rfl) ?_
  refine va_get (D := (dC, dI)) (ci := 8) (v := .int (u4.1 11)) (C := RX9) (T := TX9) (N := 33) hx hb hts (fun w h => List.mem_cons_of_mem _ (in_X9 w h)) hown hK hP 0 rfl rfl 11 (by decide) (hts _ (List.mem_cons_of_mem _ tw_3_198)) (fun _ h9 => h9) rfl dX9_loaded_25 ?_
  refine lv_if_eq (tgt := 35) hx hb dX9_loaded_28 (by decide) (fun c6 => ?_) (fun c6 => ?_)
  · have hok := hok.1 c6
    refine lv_iconst (v := 0) hx hb dX9_loaded_35 (by decide) ?_
    refine lv_iadd hx hb dX9_loaded_36 ?_
    exact W.iret (v := r5 + (0 : Int32)) hx hb hr (fun t ht hW => ⟨⟨r5 + (0 : Int32), (u4.1, u4.2.1, va_up u4.2.2 2 (upd (u4.2.2 2) a1.toNatClampNeg r3)), rfl, hok, by rw [ht]; exact hP, va_K.moved hW.alike hK, hD⟩, hS.F ht⟩) hS.2.2 dX9_loaded_37
  · have hok := hok.2 c6
    refine lv_iconst (v := 1) hx hb dX9_loaded_31 (by decide) ?_
    refine lv_goto (tgt := 36) hx hb dX9_loaded_32 (by decide) ?_
    refine lv_iadd hx hb dX9_loaded_36 ?_
    exact W.iret (v := r5 + (1 : Int32)) hx hb hr (fun t ht hW => ⟨⟨r5 + (1 : Int32), (u4.1, u4.2.1, va_up u4.2.2 2 (upd (u4.2.2 2) a1.toNatClampNeg r3)), rfl, hok, by rw [ht]; exact hP, va_K.moved hW.alike hK, hD⟩, hS.F ht⟩) hS.2.2 dX9_loaded_37
def wp_X9_shifts_78 (σ : S_Model) (x2 : Int32) (s0 : Int32) (Φ : Int32 → S_Model → Prop) : Prop := ((x2 = (4 : Int32) → (wp_X9_address σ s0 (fun r4 u5 => (vp_in 1 4 ∧ (wp_X9_write u5 r4 ((u5.2.2 2) (1 : Int32).toNatClampNeg) (fun u6 => wp_X9_time s0 (fun r7 => Φ r7 u6))))))) ∧ (¬ x2 = (4 : Int32) → (wp_X9_loaded σ 1 s0 (fun r2 u3 => Φ r2 u3))))
def wp_X9_shifts_58 (σ : S_Model) (x2 : Int32) (x3 : Int32) (Φ : Int32 → S_Model → Prop) : Prop := ((x3 = (2 : Int32) → (wp_X9_shifts_78 σ x2 3 Φ)) ∧ (¬ x3 = (2 : Int32) → (((x3 = (5 : Int32) → (wp_X9_shifts_78 σ x2 6 Φ)) ∧ (¬ x3 = (5 : Int32) → (wp_X9_shifts_78 σ x2 x3 Φ))))))
def wp_X9_shifts_21 (σ : S_Model) (x1 : Int32) (Φ : Int32 → S_Model → Prop) : Prop := ((x1 = (26 : Int32) → (wp_X9_change σ 7 10 (fun r13 u14 => Φ r13 u14))) ∧ (¬ x1 = (26 : Int32) → (wp_X9_change σ 6 10 (fun r11 u12 => Φ r11 u12))))
def wp_X9_shifts (σ : S_Model) (a1 : Int32) (Φ : Int32 → S_Model → Prop) : Prop := wp_X9_narrow a1 (fun r15 => ((a1 = (26 : Int32) → (wp_X9_shifts_21 σ a1 Φ)) ∧ (¬ a1 = (26 : Int32) → (((a1 = (58 : Int32) → (wp_X9_shifts_21 σ a1 Φ)) ∧ (¬ a1 = (58 : Int32) → ((((a1 >>> ((5 : Int32) &&& 31)) = (4 : Int32) → (wp_X9_shifts_58 σ (a1 >>> ((5 : Int32) &&& 31)) r15 Φ)) ∧ (¬ (a1 >>> ((5 : Int32) &&& 31)) = (4 : Int32) → ((((a1 >>> ((5 : Int32) &&& 31)) = (5 : Int32) → (wp_X9_shifts_58 σ (a1 >>> ((5 : Int32) &&& 31)) r15 Φ)) ∧ (¬ (a1 >>> ((5 : Int32) &&& 31)) = (5 : Int32) → (wp_X9_change σ (a1 >>> ((5 : Int32) &&& 31)) r15 (fun r20 u21 => Φ r20 u21))))))))))))))
set_option maxHeartbeats 4000000 in
set_option maxRecDepth 100000 in
theorem c_X9_shifts (l : Launch) (dC : Nat → ClassId) (dI : Nat → Nat → Nat) (cI cJ : ClassId) (h : Nat → Nat) (sz : Nat) {σ : S_Model} {a1 : Int32} {Φ : Int32 → S_Model → Prop} (hok : wp_X9_shifts σ a1 Φ) : Met l yX9_shifts wsX9_shifts ({ frames := 7, cells := 0, slots := 0, locals := 151 }) (va_Pc [.ref (h 13), .int a1] (cpre dC dI cI cJ (w_Model h cI cJ σ) sz)) (va_Qi Φ (fun u => cpost dC dI cI cJ (va_A (w_Model h cI cJ σ) sz) (w_Model h cI cJ u)) (va_A (w_Model h cI cJ σ) sz)) 0 0 (va_A (w_Model h cI cJ σ) sz) := by
  refine Met.ofW (cc := cX9_shifts) (maxL := 4) (ret := (some .int)) (by decide) rfl ?_
  intro p e s m args below meth c s₁ B hml hv
  obtain ⟨rfl, hsz, hP, hK, hD0⟩ := hv
  have hx := B.exec
  have hb := B.bytes
  have hr := B.returns
  have hts := atoms_spec (ws := wsX9_shifts) B.pre
  have hown : s.vm.findClass RX9 = some m.cls := findClass_of_methodNamed B.named
  have hlocks := B.notSynchronized
  subst hsz
  have hD := hD0.self (sz := s.heap.size)
  generalize hAe : va_A (w_Model h cI cJ σ) s.heap.size = A at hD ⊢
  have hA : ∀ q : Nat, s.heap.size ≤ q → A q := fun q h => by rw [← hAe]; exact Or.inr h
  clear hD0 hAe
  have hS : va_S A s.heap s.heap [] := va_S.rf
  have b78 : ∀ (σ : S_Model) (x2 : Int32) (s0 : Int32), wp_X9_shifts_78 σ x2 s0 Φ → ∀ (H : Heap) (locs : List Loc), va_P (dC, dI) vwCl (w_Model h cI cJ σ) H → va_D A (w_Model h cI cJ σ) → va_S A s.heap H locs → ∀ ls : Array Slot, lv_has ls 4 [(0, .ref (h 13)), (2, .int x2)] → W p l e (headSpec wsX9_shifts { frames := 7, cells := 0, slots := 0, locals := 151 }).room s m ([.ref (h 13), .int a1] : List Value).toArray below meth c H locs 0 0 (MQ below (va_Qi Φ (fun u => cpost dC dI cI cJ A (w_Model h cI cJ u)) A) ([.ref (h 13), .int a1] : List Value).toArray s 0 0 A) (F0 m 78 ls [.int s0]) := by
    intro σ x2 s0 hok H locs hP hD hS ls hl
    unfold wp_X9_shifts_78 at hok
    refine lv_istore_n (lv' := [(3, .int s0), (0, .ref (h 13)), (2, .int x2)]) hx hb dX9_shifts_78 rfl hl (by decide) rfl (fun ls hl => ?_)
    refine lv_iload_n hx hb dX9_shifts_79 rfl (lv_at hl 2 rfl) ?_
    refine lv_iconst (v := 4) hx hb dX9_shifts_80 (by decide) ?_
    refine lv_icmp_ne (tgt := 104) hx hb dX9_shifts_81 (by decide) (fun c1 => ?_) (fun c1 => ?_)
    · have hok := hok.2 c1
      refine lv_aload_n hx hb dX9_shifts_104 rfl (lv_at hl 1 rfl) ?_
      refine lv_iconst (v := 1) hx hb dX9_shifts_105 (by decide) ?_
      refine lv_iload_n hx hb dX9_shifts_106 rfl (lv_at hl 0 rfl) ?_
      have hPc := hP
      have hDc := hD
      have hFc := va_free (wc := w_Model h cI cJ σ) hD hS hA [0, 1, 2, 3, 4, 5, 6] rfl
      refine va_calli (va_runV (As := [.int 1, .int s0]) (rest := []) ⟨hx, hb, hml, hown, hts⟩ (c_X9_loaded l dC dI cI cJ h _ hok) (cwV 2 hts (tb_gV tw_4_140 tw_4_142 tw_p_54 tw_1_9 tw_4_143) rfl rfl rfl (by decide +kernel) ⟨Nat.le_of_ble_eq_true rfl, Nat.le_of_ble_eq_true rfl⟩) (cpre_V (ci := 8) (q0 := 0) hK hPc hDc rfl rfl) rfl rfl hl.1 rfl (lv_room (Nat.le_of_ble_eq_true rfl)) dX9_shifts_107 ⟨Nat.le_of_ble_eq_true rfl, Nat.le_of_ble_eq_true rfl⟩) hS (fun q _ h => hFc q h) hFc (fun r2 u3 t H1 locs ht hvm hok hB hz1 hk1 hS => ?_)
      obtain ⟨hP, hD⟩ := cjoin_w ht hB hFc
      exact W.iret (v := r2) hx hb hr (fun t ht hW => ⟨⟨r2, u3, rfl, hok, by rw [ht]; exact hP, va_K.moved hW.alike hK, hD⟩, hS.F ht⟩) hS.2.2 dX9_shifts_110
    · have hok := hok.1 c1
      refine lv_aload_n hx hb dX9_shifts_84 rfl (lv_at hl 1 rfl) ?_
      refine lv_aload_n hx hb dX9_shifts_85 rfl (lv_at hl 1 rfl) ?_
      refine lv_iload_n hx hb dX9_shifts_86 rfl (lv_at hl 0 rfl) ?_
      have hPc := hP
      have hDc := hD
      have hFc := va_free (wc := w_Model h cI cJ σ) hD hS hA [0, 1, 2, 3, 4, 5, 6] rfl
      refine va_calli (va_runV (As := [.int s0]) (rest := [.ref (h 13)]) ⟨hx, hb, hml, hown, hts⟩ (c_X9_address l dC dI cI cJ h _ hok) (cwV 1 hts (tb_gV tw_4_148 tw_4_150 tw_p_56 tw_1_9 tw_4_151) rfl rfl rfl (by decide +kernel) ⟨Nat.le_of_ble_eq_true rfl, Nat.le_of_ble_eq_true rfl⟩) (cpre_V (ci := 8) (q0 := 0) hK hPc hDc rfl rfl) rfl rfl hl.1 rfl (lv_room (Nat.le_of_ble_eq_true rfl)) dX9_shifts_87 ⟨Nat.le_of_ble_eq_true rfl, Nat.le_of_ble_eq_true rfl⟩) hS (fun q _ h => hFc q h) hFc (fun r4 u5 t H1 locs ht hvm hok hB hz1 hk1 hS => ?_)
      obtain ⟨hP, hD⟩ := cjoin_w ht hB hFc
      refine lv_aload_n hx hb dX9_shifts_90 rfl (lv_at hl 1 rfl) ?_
      refine va_get (D := (dC, dI)) (ci := 8) (v := .ref (h 15)) (C := RX9) (T := TX9) (N := 33) hx hb hts (fun w h => List.mem_cons_of_mem _ (in_X9 w h)) hown hK hP 0 rfl rfl 2 (by decide) (hts _ (List.mem_cons_of_mem _ tw_3_189)) (fun _ h9 => h9) rfl dX9_shifts_91 ?_
      refine lv_iconst (v := 1) hx hb dX9_shifts_94 (by decide) ?_
      refine va_iald hx hb hK hP 2 0 rfl rfl hok.1 dX9_shifts_95 ?_
      have hok := hok.2
      have hPc := hP
      have hDc := hD
      have hFc := va_free (wc := w_Model h cI cJ u5) hD hS hA [0, 1, 2, 3, 4, 5, 6] rfl
      refine va_callv (va_runV (As := [.int r4, .int ((u5.2.2 2) (1 : Int32).toNatClampNeg)]) (rest := []) ⟨hx, hb, hml, hown, hts⟩ (c_X9_write l dC dI cI cJ h _ hok) (cwV 2 hts (tb_gV tw_4_72 tw_4_74 tw_p_40 tw_1_9 tw_4_75) rfl rfl rfl (by decide +kernel) ⟨Nat.le_of_ble_eq_true rfl, Nat.le_of_ble_eq_true rfl⟩) (cpre_V (ci := 8) (q0 := 0) hK hPc hDc rfl rfl) rfl rfl hl.1 rfl (lv_room (Nat.le_of_ble_eq_true rfl)) dX9_shifts_96 ⟨Nat.le_of_ble_eq_true rfl, Nat.le_of_ble_eq_true rfl⟩) hS (fun q _ h => hFc q h) hFc (fun u6 t H1 locs ht hvm hok hB hz1 hk1 hS => ?_)
      obtain ⟨hP, hD⟩ := cjoin_w ht hB hFc
      refine lv_iload_n hx hb dX9_shifts_99 rfl (lv_at hl 0 rfl) ?_
      have hPc := hP.sub (ws' := []) [] rfl
      have hDc := hD.sub (ws' := []) [] (by decide) rfl
      have hFc := va_free (wc := []) hD hS hA [] rfl
      refine va_calli (va_runS (As := [.int s0]) (rest := []) ⟨hx, hb, hml, hown, hts⟩ (c_X9_time l dC dI cI cJ h _ hok) (va_cwS 1 hts (tb_gS tw_4_164 tw_4_165 tw_1_9 tw_4_166) rfl rfl rfl (by decide +kernel) ⟨Nat.le_of_ble_eq_true rfl, Nat.le_of_ble_eq_true rfl⟩) (cpre_S hK hPc hDc) rfl rfl hl.1 rfl (lv_room (Nat.le_of_ble_eq_true rfl)) dX9_shifts_100 ⟨Nat.le_of_ble_eq_true rfl, Nat.le_of_ble_eq_true rfl⟩) hS (fun q _ h => hFc q h) hFc (fun r7 _ t H1 locs ht hvm hok hB hz1 hk1 hS => ?_)
      obtain ⟨hP, hD⟩ := cjoin ht hP hD [] [0, 1, 2, 3, 4, 5, 6] rfl rfl (by decide) (by decide) hk1 hFc hB
      have hP := hP.sub (ws' := w_Model h cI cJ u6) [0, 1, 2, 3, 4, 5, 6] rfl
      have hD := hD.sub (ws' := w_Model h cI cJ u6) [0, 1, 2, 3, 4, 5, 6] (by decide) rfl
      exact W.iret (v := r7) hx hb hr (fun t ht hW => ⟨⟨r7, u6, rfl, hok, by rw [ht]; exact hP, va_K.moved hW.alike hK, hD⟩, hS.F ht⟩) hS.2.2 dX9_shifts_103
  have b58 : ∀ (σ : S_Model) (x2 : Int32) (x3 : Int32), wp_X9_shifts_58 σ x2 x3 Φ → ∀ (H : Heap) (locs : List Loc), va_P (dC, dI) vwCl (w_Model h cI cJ σ) H → va_D A (w_Model h cI cJ σ) → va_S A s.heap H locs → ∀ ls : Array Slot, lv_has ls 4 [(0, .ref (h 13)), (2, .int x2), (3, .int x3)] → W p l e (headSpec wsX9_shifts { frames := 7, cells := 0, slots := 0, locals := 151 }).room s m ([.ref (h 13), .int a1] : List Value).toArray below meth c H locs 0 0 (MQ below (va_Qi Φ (fun u => cpost dC dI cI cJ A (w_Model h cI cJ u)) A) ([.ref (h 13), .int a1] : List Value).toArray s 0 0 A) (F0 m 58 ls []) := by
    intro σ x2 x3 hok H locs hP hD hS ls hl
    unfold wp_X9_shifts_58 at hok
    refine lv_iload_n hx hb dX9_shifts_58 rfl (lv_at hl 2 rfl) ?_
    refine lv_iconst (v := 2) hx hb dX9_shifts_59 (by decide) ?_
    refine lv_icmp_ne (tgt := 67) hx hb dX9_shifts_60 (by decide) (fun c8 => ?_) (fun c8 => ?_)
    · have hok := hok.2 c8
      refine lv_iload_n hx hb dX9_shifts_67 rfl (lv_at hl 2 rfl) ?_
      refine lv_iconst (v := 5) hx hb dX9_shifts_68 (by decide) ?_
      refine lv_icmp_ne (tgt := 77) hx hb dX9_shifts_69 (by decide) (fun c9 => ?_) (fun c9 => ?_)
      · have hok := hok.2 c9
        refine lv_iload_n hx hb dX9_shifts_77 rfl (lv_at hl 2 rfl) ?_
        exact b78 σ x2 x3 hok _ _ hP hD hS _ (lv_sub hl [0, 1] rfl)
      · have hok := hok.1 c9
        refine lv_bipush (v := 6) hx hb dX9_shifts_72 (by decide) ?_
        refine lv_goto (tgt := 78) hx hb dX9_shifts_74 (by decide) ?_
        exact b78 σ x2 6 hok _ _ hP hD hS _ (lv_sub hl [0, 1] rfl)
    · have hok := hok.1 c8
      refine lv_iconst (v := 3) hx hb dX9_shifts_63 (by decide) ?_
      refine lv_goto (tgt := 78) hx hb dX9_shifts_64 (by decide) ?_
      exact b78 σ x2 3 hok _ _ hP hD hS _ (lv_sub hl [0, 1] rfl)
  have b21 : ∀ (σ : S_Model) (x1 : Int32), wp_X9_shifts_21 σ x1 Φ → ∀ (H : Heap) (locs : List Loc), va_P (dC, dI) vwCl (w_Model h cI cJ σ) H → va_D A (w_Model h cI cJ σ) → va_S A s.heap H locs → ∀ ls : Array Slot, lv_has ls 4 [(0, .ref (h 13)), (1, .int x1)] → W p l e (headSpec wsX9_shifts { frames := 7, cells := 0, slots := 0, locals := 151 }).room s m ([.ref (h 13), .int a1] : List Value).toArray below meth c H locs 0 0 (MQ below (va_Qi Φ (fun u => cpost dC dI cI cJ A (w_Model h cI cJ u)) A) ([.ref (h 13), .int a1] : List Value).toArray s 0 0 A) (F0 m 21 ls []) := by
    intro σ x1 hok H locs hP hD hS ls hl
    unfold wp_X9_shifts_21 at hok
    refine lv_aload_n hx hb dX9_shifts_21 rfl (lv_at hl 0 rfl) ?_
    refine lv_iload_n hx hb dX9_shifts_22 rfl (lv_at hl 1 rfl) ?_
    refine lv_bipush (v := 26) hx hb dX9_shifts_23 (by decide) ?_
    refine lv_icmp_ne (tgt := 33) hx hb dX9_shifts_25 (by decide) (fun c10 => ?_) (fun c10 => ?_)
    · have hok := hok.2 c10
      refine lv_bipush (v := 6) hx hb dX9_shifts_33 (by decide) ?_
      refine lv_bipush (v := 10) hx hb dX9_shifts_35 (by decide) ?_
      have hPc := hP
      have hDc := hD
      have hFc := va_free (wc := w_Model h cI cJ σ) hD hS hA [0, 1, 2, 3, 4, 5, 6] rfl
      refine va_calli (va_runV (As := [.int 6, .int 10]) (rest := []) ⟨hx, hb, hml, hown, hts⟩ (c_X9_change l dC dI cI cJ h _ hok) (cwV 2 hts (tb_gV tw_4_225 tw_4_227 tw_p_73 tw_1_9 tw_4_228) rfl rfl rfl (by decide +kernel) ⟨Nat.le_of_ble_eq_true rfl, Nat.le_of_ble_eq_true rfl⟩) (cpre_V (ci := 8) (q0 := 0) hK hPc hDc rfl rfl) rfl rfl hl.1 rfl (lv_room (Nat.le_of_ble_eq_true rfl)) dX9_shifts_37 ⟨Nat.le_of_ble_eq_true rfl, Nat.le_of_ble_eq_true rfl⟩) hS (fun q _ h => hFc q h) hFc (fun r11 u12 t H1 locs ht hvm hok hB hz1 hk1 hS => ?_)
      obtain ⟨hP, hD⟩ := cjoin_w ht hB hFc
      exact W.iret (v := r11) hx hb hr (fun t ht hW => ⟨⟨r11, u12, rfl, hok, by rw [ht]; exact hP, va_K.moved hW.alike hK, hD⟩, hS.F ht⟩) hS.2.2 dX9_shifts_40
    · have hok := hok.1 c10
      refine lv_bipush (v := 7) hx hb dX9_shifts_28 (by decide) ?_
      refine lv_goto (tgt := 35) hx hb dX9_shifts_30 (by decide) ?_
      refine lv_bipush (v := 10) hx hb dX9_shifts_35 (by decide) ?_
      have hPc := hP
      have hDc := hD
      have hFc := va_free (wc := w_Model h cI cJ σ) hD hS hA [0, 1, 2, 3, 4, 5, 6] rfl
      refine va_calli (va_runV (As := [.int 7, .int 10]) (rest := []) ⟨hx, hb, hml, hown, hts⟩ (c_X9_change l dC dI cI cJ h _ hok) (cwV 2 hts (tb_gV tw_4_225 tw_4_227 tw_p_73 tw_1_9 tw_4_228) rfl rfl rfl (by decide +kernel) ⟨Nat.le_of_ble_eq_true rfl, Nat.le_of_ble_eq_true rfl⟩) (cpre_V (ci := 8) (q0 := 0) hK hPc hDc rfl rfl) rfl rfl hl.1 rfl (lv_room (Nat.le_of_ble_eq_true rfl)) dX9_shifts_37 ⟨Nat.le_of_ble_eq_true rfl, Nat.le_of_ble_eq_true rfl⟩) hS (fun q _ h => hFc q h) hFc (fun r13 u14 t H1 locs ht hvm hok hB hz1 hk1 hS => ?_)
      obtain ⟨hP, hD⟩ := cjoin_w ht hB hFc
      exact W.iret (v := r13) hx hb hr (fun t ht hW => ⟨⟨r13, u14, rfl, hok, by rw [ht]; exact hP, va_K.moved hW.alike hK, hD⟩, hS.F ht⟩) hS.2.2 dX9_shifts_40
  have hl := lv_entry ([.ref (h 13), .int a1]) (n := 4) (Nat.le_of_ble_eq_true rfl)
  rw [lg_entry_eq]
  generalize (lg_sl ([.ref (h 13), .int a1]) ++ List.replicate (4 - (lg_sl ([.ref (h 13), .int a1])).length) Slot.unset).toArray = ls at hl ⊢
  have hl : lv_has ls 4 [(0, .ref (h 13)), (1, .int a1)] := hl
  unfold wp_X9_shifts at hok
  refine lv_iload_n hx hb dX9_shifts_0 rfl (lv_at hl 1 rfl) ?_
  refine lv_iconst (v := 5) hx hb dX9_shifts_1 (by decide) ?_
  refine lv_ishr hx hb dX9_shifts_2 ?_
  refine lv_istore_n (lv' := [(2, .int (a1 >>> ((5 : Int32) &&& 31))), (0, .ref (h 13)), (1, .int a1)]) hx hb dX9_shifts_3 rfl hl (by decide) rfl (fun ls hl => ?_)
  refine lv_iload_n hx hb dX9_shifts_4 rfl (lv_at hl 2 rfl) ?_
  have hPc := hP.sub (ws' := []) [] rfl
  have hDc := hD.sub (ws' := []) [] (by decide) rfl
  have hFc := va_free (wc := []) hD hS hA [] rfl
  refine va_calli (va_runS (As := [.int a1]) (rest := []) ⟨hx, hb, hml, hown, hts⟩ (c_X9_narrow l dC dI cI cJ h _ hok) (va_cwS 1 hts (tb_gS tw_4_206 tw_4_207 tw_1_9 tw_4_208) rfl rfl rfl (by decide +kernel) ⟨Nat.le_of_ble_eq_true rfl, Nat.le_of_ble_eq_true rfl⟩) (cpre_S hK hPc hDc) rfl rfl hl.1 rfl (lv_room (Nat.le_of_ble_eq_true rfl)) dX9_shifts_5 ⟨Nat.le_of_ble_eq_true rfl, Nat.le_of_ble_eq_true rfl⟩) hS (fun q _ h => hFc q h) hFc (fun r15 _ t H1 locs ht hvm hok hB hz1 hk1 hS => ?_)
  obtain ⟨hP, hD⟩ := cjoin ht hP hD [] [0, 1, 2, 3, 4, 5, 6] rfl rfl (by decide) (by decide) hk1 hFc hB
  have hP := hP.sub (ws' := w_Model h cI cJ σ) [0, 1, 2, 3, 4, 5, 6] rfl
  have hD := hD.sub (ws' := w_Model h cI cJ σ) [0, 1, 2, 3, 4, 5, 6] (by decide) rfl
  refine lv_istore_n (lv' := [(3, .int r15), (2, .int (a1 >>> ((5 : Int32) &&& 31))), (0, .ref (h 13)), (1, .int a1)]) hx hb dX9_shifts_8 rfl hl (by decide) rfl (fun ls hl => ?_)
  refine lv_iload_n hx hb dX9_shifts_9 rfl (lv_at hl 3 rfl) ?_
  refine lv_bipush (v := 26) hx hb dX9_shifts_10 (by decide) ?_
  refine lv_icmp_eq (tgt := 21) hx hb dX9_shifts_12 (by decide) (fun c16 => ?_) (fun c16 => ?_)
  · have hok := hok.1 c16
    exact b21 σ a1 hok _ _ hP hD hS _ (lv_sub hl [2, 3] rfl)
  · have hok := hok.2 c16
    refine lv_iload_n hx hb dX9_shifts_15 rfl (lv_at hl 3 rfl) ?_
    refine lv_bipush (v := 58) hx hb dX9_shifts_16 (by decide) ?_
    refine lv_icmp_ne (tgt := 41) hx hb dX9_shifts_18 (by decide) (fun c17 => ?_) (fun c17 => ?_)
    · have hok := hok.2 c17
      refine lv_iload_n hx hb dX9_shifts_41 rfl (lv_at hl 1 rfl) ?_
      refine lv_iconst (v := 4) hx hb dX9_shifts_42 (by decide) ?_
      refine lv_icmp_eq (tgt := 58) hx hb dX9_shifts_43 (by decide) (fun c18 => ?_) (fun c18 => ?_)
      · have hok := hok.1 c18
        exact b58 σ (a1 >>> ((5 : Int32) &&& 31)) r15 hok _ _ hP hD hS _ (lv_sub hl [2, 1, 0] rfl)
      · have hok := hok.2 c18
        refine lv_iload_n hx hb dX9_shifts_46 rfl (lv_at hl 1 rfl) ?_
        refine lv_iconst (v := 5) hx hb dX9_shifts_47 (by decide) ?_
        refine lv_icmp_eq (tgt := 58) hx hb dX9_shifts_48 (by decide) (fun c19 => ?_) (fun c19 => ?_)
        · have hok := hok.1 c19
          exact b58 σ (a1 >>> ((5 : Int32) &&& 31)) r15 hok _ _ hP hD hS _ (lv_sub hl [2, 1, 0] rfl)
        · have hok := hok.2 c19
          refine lv_aload_n hx hb dX9_shifts_51 rfl (lv_at hl 2 rfl) ?_
          refine lv_iload_n hx hb dX9_shifts_52 rfl (lv_at hl 1 rfl) ?_
          refine lv_iload_n hx hb dX9_shifts_53 rfl (lv_at hl 0 rfl) ?_
          have hPc := hP
          have hDc := hD
          have hFc := va_free (wc := w_Model h cI cJ σ) hD hS hA [0, 1, 2, 3, 4, 5, 6] rfl
          refine va_calli (va_runV (As := [.int (a1 >>> ((5 : Int32) &&& 31)), .int r15]) (rest := []) ⟨hx, hb, hml, hown, hts⟩ (c_X9_change l dC dI cI cJ h _ hok) (cwV 2 hts (tb_gV tw_4_225 tw_4_227 tw_p_73 tw_1_9 tw_4_228) rfl rfl rfl (by decide +kernel) ⟨Nat.le_of_ble_eq_true rfl, Nat.le_of_ble_eq_true rfl⟩) (cpre_V (ci := 8) (q0 := 0) hK hPc hDc rfl rfl) rfl rfl hl.1 rfl (lv_room (Nat.le_of_ble_eq_true rfl)) dX9_shifts_54 ⟨Nat.le_of_ble_eq_true rfl, Nat.le_of_ble_eq_true rfl⟩) hS (fun q _ h => hFc q h) hFc (fun r20 u21 t H1 locs ht hvm hok hB hz1 hk1 hS => ?_)
          obtain ⟨hP, hD⟩ := cjoin_w ht hB hFc
          exact W.iret (v := r20) hx hb hr (fun t ht hW => ⟨⟨r20, u21, rfl, hok, by rw [ht]; exact hP, va_K.moved hW.alike hK, hD⟩, hS.F ht⟩) hS.2.2 dX9_shifts_57
    · have hok := hok.1 c17
      exact b21 σ a1 hok _ _ hP hD hS _ (lv_sub hl [2, 3] rfl)
def wp_X9_compared (σ : S_Model) (a1 : Int32) (a2 : Int32) (Φ : Int32 → S_Model → Prop) : Prop := (vp_in a1 4 ∧ (wp_X9_taken σ a2 (fun r1 u2 => wp_X9_compare u2 ((σ.2.2 2) a1.toNatClampNeg) r1 (fun u3 => wp_X9_time a2 (fun r4 => Φ r4 u3)))))
set_option maxHeartbeats 4000000 in
set_option maxRecDepth 100000 in
theorem c_X9_compared (l : Launch) (dC : Nat → ClassId) (dI : Nat → Nat → Nat) (cI cJ : ClassId) (h : Nat → Nat) (sz : Nat) {σ : S_Model} {a1 : Int32} {a2 : Int32} {Φ : Int32 → S_Model → Prop} (hok : wp_X9_compared σ a1 a2 Φ) : Met l yX9_compared wsX9_compared ({ frames := 6, cells := 0, slots := 0, locals := 129 }) (va_Pc [.ref (h 13), .int a1, .int a2] (cpre dC dI cI cJ (w_Model h cI cJ σ) sz)) (va_Qi Φ (fun u => cpost dC dI cI cJ (va_A (w_Model h cI cJ σ) sz) (w_Model h cI cJ u)) (va_A (w_Model h cI cJ σ) sz)) 0 0 (va_A (w_Model h cI cJ σ) sz) := by
  refine Met.ofW (cc := cX9_compared) (maxL := 3) (ret := (some .int)) (by decide) rfl ?_
  intro p e s m args below meth c s₁ B hml hv
  obtain ⟨rfl, hsz, hP, hK, hD0⟩ := hv
  have hx := B.exec
  have hb := B.bytes
  have hr := B.returns
  have hts := atoms_spec (ws := wsX9_compared) B.pre
  have hown : s.vm.findClass RX9 = some m.cls := findClass_of_methodNamed B.named
  have hlocks := B.notSynchronized
  subst hsz
  have hD := hD0.self (sz := s.heap.size)
  generalize hAe : va_A (w_Model h cI cJ σ) s.heap.size = A at hD ⊢
  have hA : ∀ q : Nat, s.heap.size ≤ q → A q := fun q h => by rw [← hAe]; exact Or.inr h
  clear hD0 hAe
  have hS : va_S A s.heap s.heap [] := va_S.rf
  have hl := lv_entry ([.ref (h 13), .int a1, .int a2]) (n := 3) (Nat.le_of_ble_eq_true rfl)
  rw [lg_entry_eq]
  generalize (lg_sl ([.ref (h 13), .int a1, .int a2]) ++ List.replicate (3 - (lg_sl ([.ref (h 13), .int a1, .int a2])).length) Slot.unset).toArray = ls at hl ⊢
  have hl : lv_has ls 3 [(0, .ref (h 13)), (1, .int a1), (2, .int a2)] := hl
  unfold wp_X9_compared at hok
  refine lv_aload_n hx hb dX9_compared_0 rfl (lv_at hl 0 rfl) ?_
  refine lv_aload_n hx hb dX9_compared_1 rfl (lv_at hl 0 rfl) ?_
  refine va_get (D := (dC, dI)) (ci := 8) (v := .ref (h 15)) (C := RX9) (T := TX9) (N := 33) hx hb hts (fun w h => List.mem_cons_of_mem _ (in_X9 w h)) hown hK hP 0 rfl rfl 2 (by decide) (hts _ (List.mem_cons_of_mem _ tw_3_189)) (fun _ h9 => h9) rfl dX9_compared_2 ?_
  refine lv_iload_n hx hb dX9_compared_5 rfl (lv_at hl 1 rfl) ?_
  refine va_iald hx hb hK hP 2 0 rfl rfl hok.1 dX9_compared_6 ?_
  have hok := hok.2
  refine lv_aload_n hx hb dX9_compared_7 rfl (lv_at hl 0 rfl) ?_
  refine lv_iload_n hx hb dX9_compared_8 rfl (lv_at hl 2 rfl) ?_
  have hPc := hP
  have hDc := hD
  have hFc := va_free (wc := w_Model h cI cJ σ) hD hS hA [0, 1, 2, 3, 4, 5, 6] rfl
  refine va_calli (va_runV (As := [.int a2]) (rest := [.int ((σ.2.2 2) a1.toNatClampNeg), .ref (h 13)]) ⟨hx, hb, hml, hown, hts⟩ (c_X9_taken l dC dI cI cJ h _ hok) (cwV 1 hts (tb_gV tw_4_144 tw_4_146 tw_p_55 tw_1_9 tw_4_147) rfl rfl rfl (by decide +kernel) ⟨Nat.le_of_ble_eq_true rfl, Nat.le_of_ble_eq_true rfl⟩) (cpre_V (ci := 8) (q0 := 0) hK hPc hDc rfl rfl) rfl rfl hl.1 rfl (lv_room (Nat.le_of_ble_eq_true rfl)) dX9_compared_9 ⟨Nat.le_of_ble_eq_true rfl, Nat.le_of_ble_eq_true rfl⟩) hS (fun q _ h => hFc q h) hFc (fun r1 u2 t H1 locs ht hvm hok hB hz1 hk1 hS => ?_)
  obtain ⟨hP, hD⟩ := cjoin_w ht hB hFc
  have hPc := hP
  have hDc := hD
  have hFc := va_free (wc := w_Model h cI cJ u2) hD hS hA [0, 1, 2, 3, 4, 5, 6] rfl
  refine va_callv (va_runV (As := [.int ((σ.2.2 2) a1.toNatClampNeg), .int r1]) (rest := []) ⟨hx, hb, hml, hown, hts⟩ (c_X9_compare l dC dI cI cJ h _ hok) (cwV 2 hts (tb_gV tw_4_171 tw_4_173 tw_p_61 tw_1_9 tw_4_174) rfl rfl rfl (by decide +kernel) ⟨Nat.le_of_ble_eq_true rfl, Nat.le_of_ble_eq_true rfl⟩) (cpre_V (ci := 8) (q0 := 0) hK hPc hDc rfl rfl) rfl rfl hl.1 rfl (lv_room (Nat.le_of_ble_eq_true rfl)) dX9_compared_12 ⟨Nat.le_of_ble_eq_true rfl, Nat.le_of_ble_eq_true rfl⟩) hS (fun q _ h => hFc q h) hFc (fun u3 t H1 locs ht hvm hok hB hz1 hk1 hS => ?_)
  obtain ⟨hP, hD⟩ := cjoin_w ht hB hFc
  refine lv_iload_n hx hb dX9_compared_15 rfl (lv_at hl 2 rfl) ?_
  have hPc := hP.sub (ws' := []) [] rfl
  have hDc := hD.sub (ws' := []) [] (by decide) rfl
  have hFc := va_free (wc := []) hD hS hA [] rfl
  refine va_calli (va_runS (As := [.int a2]) (rest := []) ⟨hx, hb, hml, hown, hts⟩ (c_X9_time l dC dI cI cJ h _ hok) (va_cwS 1 hts (tb_gS tw_4_164 tw_4_165 tw_1_9 tw_4_166) rfl rfl rfl (by decide +kernel) ⟨Nat.le_of_ble_eq_true rfl, Nat.le_of_ble_eq_true rfl⟩) (cpre_S hK hPc hDc) rfl rfl hl.1 rfl (lv_room (Nat.le_of_ble_eq_true rfl)) dX9_compared_16 ⟨Nat.le_of_ble_eq_true rfl, Nat.le_of_ble_eq_true rfl⟩) hS (fun q _ h => hFc q h) hFc (fun r4 _ t H1 locs ht hvm hok hB hz1 hk1 hS => ?_)
  obtain ⟨hP, hD⟩ := cjoin ht hP hD [] [0, 1, 2, 3, 4, 5, 6] rfl rfl (by decide) (by decide) hk1 hFc hB
  have hP := hP.sub (ws' := w_Model h cI cJ u3) [0, 1, 2, 3, 4, 5, 6] rfl
  have hD := hD.sub (ws' := w_Model h cI cJ u3) [0, 1, 2, 3, 4, 5, 6] (by decide) rfl
  exact W.iret (v := r4) hx hb hr (fun t ht hW => ⟨⟨r4, u3, rfl, hok, by rw [ht]; exact hP, va_K.moved hW.alike hK, hD⟩, hS.F ht⟩) hS.2.2 dX9_compared_19
