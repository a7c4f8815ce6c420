def wp_X9_stacks (σ : S_Model) (a1 : Int32) (a2 : Int32) (Φ : Int32 → S_Model → Prop) : Prop := ((a2 = 0 → (wp_X9_pull σ (fun r2 u3 => ((0 ≤ a1 → (wp_X9_tested u3 r2 (fun r5 u6 => (vp_in a1 4 ∧ (Φ 4 (u6.1, u6.2.1, va_up u6.2.2 2 (upd (u6.2.2 2) a1.toNatClampNeg r5))))))) ∧ (¬ 0 ≤ a1 → (Φ 4 (upd u3.1 3 (r2 ||| (48 : Int32)), u3.2.1, u3.2.2))))))) ∧ (¬ a2 = 0 → (((0 ≤ a1 → ((vp_in a1 4 ∧ (wp_X9_push σ ((σ.2.2 2) a1.toNatClampNeg) (fun u8 => Φ 3 u8))))) ∧ (¬ 0 ≤ a1 → (wp_X9_push σ ((σ.1 3) ||| (48 : Int32)) (fun u9 => Φ 3 u9)))))))
set_option maxHeartbeats 4000000 in
set_option maxRecDepth 100000 in
theorem c_X9_stacks (l : Launch) (dC : Nat → ClassId) (dI : Nat → Nat → Nat) (cI cJ : ClassId) (h : Nat → Nat) (sz : Nat) {σ : S_Model} {a1 : Int32} {a2 : Int32} {Φ : Int32 → S_Model → Prop} (hok : wp_X9_stacks σ a1 a2 Φ) : Met l yX9_stacks wsX9_stacks ({ frames := 4, cells := 0, slots := 0, locals := 85 }) (va_Pc [.ref (h 13), .int a1, .int a2] (cpre dC dI cI cJ (w_Model h cI cJ σ) sz)) (va_Qi Φ (fun u => cpost dC dI cI cJ (va_A (w_Model h cI cJ σ) sz) (w_Model h cI cJ u)) (va_A (w_Model h cI cJ σ) sz)) 0 0 (va_A (w_Model h cI cJ σ) sz) := by
  refine Met.ofW (cc := cX9_stacks) (maxL := 4) (ret := (some .int)) (by decide) rfl ?_
  intro p e s m args below meth c s₁ B hml hv
  obtain ⟨rfl, hsz, hP, hK, hD0⟩ := hv
  have hx := B.exec
  have hb := B.bytes
  have hr := B.returns
  have hts := atoms_spec (ws := wsX9_stacks) B.pre
  have hown : s.vm.findClass RX9 = some m.cls := findClass_of_methodNamed B.named
  have hlocks := B.notSynchronized
  subst hsz
  have hD := hD0.self (sz := s.heap.size)
  generalize hAe : va_A (w_Model h cI cJ σ) s.heap.size = A at hD ⊢
  have hA : ∀ q : Nat, s.heap.size ≤ q → A q := fun q h => by rw [← hAe]; exact Or.inr h
  clear hD0 hAe
  have hS : va_S A s.heap s.heap [] := va_S.rf
  have hl := lv_entry ([.ref (h 13), .int a1, .int a2]) (n := 4) (Nat.le_of_ble_eq_true rfl)
  rw [lg_entry_eq]
  generalize (lg_sl ([.ref (h 13), .int a1, .int a2]) ++ List.replicate (4 - (lg_sl ([.ref (h 13), .int a1, .int a2])).length) Slot.unset).toArray = ls at hl ⊢
  have hl : lv_has ls 4 [(0, .ref (h 13)), (1, .int a1), (2, .int a2)] := hl
  unfold wp_X9_stacks at hok
  refine lv_iload_n hx hb dX9_stacks_0 rfl (lv_at hl 2 rfl) ?_
  refine lv_if_eq (tgt := 30) hx hb dX9_stacks_1 (by decide) (fun c1 => ?_) (fun c1 => ?_)
  · have hok := hok.1 c1
    refine lv_aload_n hx hb dX9_stacks_30 rfl (lv_at hl 0 rfl) ?_
    have hPc := hP
    have hDc := hD
    have hFc := va_free (wc := w_Model h cI cJ σ) hD hS hA [0, 1, 2, 3, 4, 5, 6] rfl
    refine va_calli (va_runV (As := []) (rest := []) ⟨hx, hb, hml, hown, hts⟩ (c_X9_pull l dC dI cI cJ h _ hok) (cwV 0 hts (tb_gV tw_4_136 tw_4_138 tw_p_53 tw_1_9 tw_4_139) rfl rfl rfl (by decide +kernel) ⟨Nat.le_of_ble_eq_true rfl, Nat.le_of_ble_eq_true rfl⟩) (cpre_V (ci := 8) (q0 := 0) hK hPc hDc rfl rfl) rfl rfl hl.1 rfl (lv_room (Nat.le_of_ble_eq_true rfl)) dX9_stacks_31 ⟨Nat.le_of_ble_eq_true rfl, Nat.le_of_ble_eq_true rfl⟩) hS (fun q _ h => hFc q h) hFc (fun r2 u3 t H1 locs ht hvm hok hB hz1 hk1 hS => ?_)
    obtain ⟨hP, hD⟩ := cjoin_w ht hB hFc
    refine lv_istore_n (lv' := [(3, .int r2), (0, .ref (h 13)), (1, .int a1), (2, .int a2)]) hx hb dX9_stacks_34 rfl hl (by decide) rfl (fun ls hl => ?_)
    refine lv_iload_n hx hb dX9_stacks_35 rfl (lv_at hl 2 rfl) ?_
    refine lv_if_ge (tgt := 50) hx hb dX9_stacks_36 (by decide) (fun c4 => ?_) (fun c4 => ?_)
    · have hok := hok.1 c4
      refine lv_aload_n hx hb dX9_stacks_50 rfl (lv_at hl 1 rfl) ?_
      refine va_get (D := (dC, dI)) (ci := 8) (v := .ref (h 15)) (C := RX9) (T := TX9) (N := 33) hx hb hts (fun w h => List.mem_cons_of_mem _ (in_X9 w h)) hown hK hP 0 rfl rfl 2 (by decide) (hts _ (List.mem_cons_of_mem _ tw_3_189)) (fun _ h9 => h9) rfl dX9_stacks_51 ?_
      refine lv_iload_n hx hb dX9_stacks_54 rfl (lv_at hl 2 rfl) ?_
      refine lv_aload_n hx hb dX9_stacks_55 rfl (lv_at hl 1 rfl) ?_
      refine lv_iload_n hx hb dX9_stacks_56 rfl (lv_at hl 0 rfl) ?_
      have hPc := hP
      have hDc := hD
      have hFc := va_free (wc := w_Model h cI cJ u3) hD hS hA [0, 1, 2, 3, 4, 5, 6] rfl
      refine va_calli (va_runV (As := [.int r2]) (rest := [.int a1, .ref (h 15)]) ⟨hx, hb, hml, hown, hts⟩ (c_X9_tested l dC dI cI cJ h _ hok) (cwV 1 hts (tb_gV tw_4_160 tw_4_162 tw_p_59 tw_1_9 tw_4_163) rfl rfl rfl (by decide +kernel) ⟨Nat.le_of_ble_eq_true rfl, Nat.le_of_ble_eq_true rfl⟩) (cpre_V (ci := 8) (q0 := 0) hK hPc hDc rfl rfl) rfl rfl hl.1 rfl (lv_room (Nat.le_of_ble_eq_true rfl)) dX9_stacks_57 ⟨Nat.le_of_ble_eq_true rfl, Nat.le_of_ble_eq_true rfl⟩) hS (fun q _ h => hFc q h) hFc (fun r5 u6 t H1 locs ht hvm hok hB hz1 hk1 hS => ?_)
      obtain ⟨hP, hD⟩ := cjoin_w ht hB hFc
      refine va_iast hx hb hK hP hD hS 2 0 rfl rfl hok.1 dX9_stacks_60 (fun H locs hP hD hS => ?_)
      have hok := hok.2
      have hP : va_P (dC, dI) vwCl (w_Model h cI cJ (u6.1, u6.2.1, va_up u6.2.2 2 (upd (u6.2.2 2) a1.toNatClampNeg r5))) _ := hP
      have hD : va_D A (w_Model h cI cJ (u6.1, u6.2.1, va_up u6.2.2 2 (upd (u6.2.2 2) a1.toNatClampNeg r5))) := hD
      refine lv_iconst (v := 4) hx hb dX9_stacks_61 (by decide) ?_
      exact W.iret (v := 4) hx hb hr (fun t ht hW => ⟨⟨4, (u6.1, u6.2.1, va_up u6.2.2 2 (upd (u6.2.2 2) a1.toNatClampNeg r5)), rfl, hok, by rw [ht]; exact hP, va_K.moved hW.alike hK, hD⟩, hS.F ht⟩) hS.2.2 dX9_stacks_62
    · have hok := hok.2 c4
      refine lv_aload_n hx hb dX9_stacks_39 rfl (lv_at hl 1 rfl) ?_
      refine lv_iload_n hx hb dX9_stacks_40 rfl (lv_at hl 0 rfl) ?_
      refine lv_bipush (v := 48) hx hb dX9_stacks_41 (by decide) ?_
      refine lv_ior hx hb dX9_stacks_43 ?_
      refine va_put (D := (dC, dI)) (ci := 8) (v := .int (r2 ||| (48 : Int32))) (ty := .int) (C := RX9) (T := TX9) (N := 33) hx hb hts (fun w h => List.mem_cons_of_mem _ (in_X9 w h)) tyX9 tyX9_ok nmX9 hown hK hP hD hS 0 rfl rfl 3 (by decide) (hts _ (List.mem_cons_of_mem _ tw_3_190)) (fun _ h9 => h9) rfl (by decide +kernel) rfl rfl (Nat.le_of_ble_eq_true rfl) dX9_stacks_44 (fun H locs hP hD hS => ?_)
      have hP : va_P (dC, dI) vwCl (w_Model h cI cJ (upd u3.1 3 (r2 ||| (48 : Int32)), u3.2.1, u3.2.2)) _ := hP
      have hD : va_D A (w_Model h cI cJ (upd u3.1 3 (r2 ||| (48 : Int32)), u3.2.1, u3.2.2)) := hD
      refine lv_goto (tgt := 61) hx hb dX9_stacks_47 (by decide) ?_
      refine lv_iconst (v := 4) hx hb dX9_stacks_61 (by decide) ?_
      exact W.iret (v := 4) hx hb hr (fun t ht hW => ⟨⟨4, (upd u3.1 3 (r2 ||| (48 : Int32)), u3.2.1, u3.2.2), rfl, hok, by rw [ht]; exact hP, va_K.moved hW.alike hK, hD⟩, hS.F ht⟩) hS.2.2 dX9_stacks_62
  · have hok := hok.2 c1
    refine lv_aload_n hx hb dX9_stacks_4 rfl (lv_at hl 0 rfl) ?_
    refine lv_iload_n hx hb dX9_stacks_5 rfl (lv_at hl 1 rfl) ?_
    refine lv_if_ge (tgt := 19) hx hb dX9_stacks_6 (by decide) (fun c7 => ?_) (fun c7 => ?_)
    · have hok := hok.1 c7
      refine lv_aload_n hx hb dX9_stacks_19 rfl (lv_at hl 0 rfl) ?_
      refine va_get (D := (dC, dI)) (ci := 8) (v := .ref (h 15)) (C := RX9) (T := TX9) (N := 33) hx hb hts (fun w h => List.mem_cons_of_mem _ (in_X9 w h)) hown hK hP 0 rfl rfl 2 (by decide) (hts _ (List.mem_cons_of_mem _ tw_3_189)) (fun _ h9 => h9) rfl dX9_stacks_20 ?_
      refine lv_iload_n hx hb dX9_stacks_23 rfl (lv_at hl 1 rfl) ?_
      refine va_iald hx hb hK hP 2 0 rfl rfl hok.1 dX9_stacks_24 ?_
      have hok := hok.2
      have hPc := hP
      have hDc := hD
      have hFc := va_free (wc := w_Model h cI cJ σ) hD hS hA [0, 1, 2, 3, 4, 5, 6] rfl
      refine va_callv (va_runV (As := [.int ((σ.2.2 2) a1.toNatClampNeg)]) (rest := []) ⟨hx, hb, hml, hown, hts⟩ (c_X9_push l dC dI cI cJ h _ hok) (cwV 1 hts (tb_gV tw_4_68 tw_4_70 tw_p_39 tw_1_9 tw_4_71) rfl rfl rfl (by decide +kernel) ⟨Nat.le_of_ble_eq_true rfl, Nat.le_of_ble_eq_true rfl⟩) (cpre_V (ci := 8) (q0 := 0) hK hPc hDc rfl rfl) rfl rfl hl.1 rfl (lv_room (Nat.le_of_ble_eq_true rfl)) dX9_stacks_25 ⟨Nat.le_of_ble_eq_true rfl, Nat.le_of_ble_eq_true rfl⟩) hS (fun q _ h => hFc q h) hFc (fun u8 t H1 locs ht hvm hok hB hz1 hk1 hS => ?_)
      obtain ⟨hP, hD⟩ := cjoin_w ht hB hFc
      refine lv_iconst (v := 3) hx hb dX9_stacks_28 (by decide) ?_
      exact W.iret (v := 3) hx hb hr (fun t ht hW => ⟨⟨3, u8, rfl, hok, by rw [ht]; exact hP, va_K.moved hW.alike hK, hD⟩, hS.F ht⟩) hS.2.2 dX9_stacks_29
    · have hok := hok.2 c7
      refine lv_aload_n hx hb dX9_stacks_9 rfl (lv_at hl 0 rfl) ?_
      refine va_get (D := (dC, dI)) (ci := 8) (v := .int (σ.1 3)) (C := RX9) (T := TX9) (N := 33) hx hb hts (fun w h => List.mem_cons_of_mem _ (in_X9 w h)) hown hK hP 0 rfl rfl 3 (by decide) (hts _ (List.mem_cons_of_mem _ tw_3_190)) (fun _ h9 => h9) rfl dX9_stacks_10 ?_
      refine lv_bipush (v := 48) hx hb dX9_stacks_13 (by decide) ?_
      refine lv_ior hx hb dX9_stacks_15 ?_
      refine lv_goto (tgt := 25) hx hb dX9_stacks_16 (by decide) ?_
      have hPc := hP
      have hDc := hD
      have hFc := va_free (wc := w_Model h cI cJ σ) hD hS hA [0, 1, 2, 3, 4, 5, 6] rfl
      refine va_callv (va_runV (As := [.int ((σ.1 3) ||| (48 : Int32))]) (rest := []) ⟨hx, hb, hml, hown, hts⟩ (c_X9_push l dC dI cI cJ h _ hok) (cwV 1 hts (tb_gV tw_4_68 tw_4_70 tw_p_39 tw_1_9 tw_4_71) rfl rfl rfl (by decide +kernel) ⟨Nat.le_of_ble_eq_true rfl, Nat.le_of_ble_eq_true rfl⟩) (cpre_V (ci := 8) (q0 := 0) hK hPc hDc rfl rfl) rfl rfl hl.1 rfl (lv_room (Nat.le_of_ble_eq_true rfl)) dX9_stacks_25 ⟨Nat.le_of_ble_eq_true rfl, Nat.le_of_ble_eq_true rfl⟩) hS (fun q _ h => hFc q h) hFc (fun u9 t H1 locs ht hvm hok hB hz1 hk1 hS => ?_)
      obtain ⟨hP, hD⟩ := cjoin_w ht hB hFc
      refine lv_iconst (v := 3) hx hb dX9_stacks_28 (by decide) ?_
      exact W.iret (v := 3) hx hb hr (fun t ht hW => ⟨⟨3, u9, rfl, hok, by rw [ht]; exact hP, va_K.moved hW.alike hK, hD⟩, hS.F ht⟩) hS.2.2 dX9_stacks_29
def wp_X9_moved (σ : S_Model) (a1 : Int32) (a2 : Int32) (Φ : Int32 → S_Model → Prop) : Prop := (vp_in a2 4 ∧ (wp_X9_tested σ ((σ.2.2 2) a2.toNatClampNeg) (fun r1 u2 => (vp_in a1 4 ∧ (Φ 2 (u2.1, u2.2.1, va_up u2.2.2 2 (upd (u2.2.2 2) a1.toNatClampNeg r1)))))))
set_option maxHeartbeats 4000000 in
set_option maxRecDepth 100000 in
theorem c_X9_moved (l : Launch) (dC : Nat → ClassId) (dI : Nat → Nat → Nat) (cI cJ : ClassId) (h : Nat → Nat) (sz : Nat) {σ : S_Model} {a1 : Int32} {a2 : Int32} {Φ : Int32 → S_Model → Prop} (hok : wp_X9_moved σ a1 a2 Φ) : Met l yX9_moved wsX9_moved ({ frames := 2, cells := 0, slots := 0, locals := 43 }) (va_Pc [.ref (h 13), .int a1, .int a2] (cpre dC dI cI cJ (w_Model h cI cJ σ) sz)) (va_Qi Φ (fun u => cpost dC dI cI cJ (va_A (w_Model h cI cJ σ) sz) (w_Model h cI cJ u)) (va_A (w_Model h cI cJ σ) sz)) 0 0 (va_A (w_Model h cI cJ σ) sz) := by
  refine Met.ofW (cc := cX9_moved) (maxL := 3) (ret := (some .int)) (by decide) rfl ?_
  intro p e s m args below meth c s₁ B hml hv
  obtain ⟨rfl, hsz, hP, hK, hD0⟩ := hv
  have hx := B.exec
  have hb := B.bytes
  have hr := B.returns
  have hts := atoms_spec (ws := wsX9_moved) B.pre
  have hown : s.vm.findClass RX9 = some m.cls := findClass_of_methodNamed B.named
  have hlocks := B.notSynchronized
  subst hsz
  have hD := hD0.self (sz := s.heap.size)
  generalize hAe : va_A (w_Model h cI cJ σ) s.heap.size = A at hD ⊢
  have hA : ∀ q : Nat, s.heap.size ≤ q → A q := fun q h => by rw [← hAe]; exact Or.inr h
  clear hD0 hAe
  have hS : va_S A s.heap s.heap [] := va_S.rf
  have hl := lv_entry ([.ref (h 13), .int a1, .int a2]) (n := 3) (Nat.le_of_ble_eq_true rfl)
  rw [lg_entry_eq]
  generalize (lg_sl ([.ref (h 13), .int a1, .int a2]) ++ List.replicate (3 - (lg_sl ([.ref (h 13), .int a1, .int a2])).length) Slot.unset).toArray = ls at hl ⊢
  have hl : lv_has ls 3 [(0, .ref (h 13)), (1, .int a1), (2, .int a2)] := hl
  unfold wp_X9_moved at hok
  refine lv_aload_n hx hb dX9_moved_0 rfl (lv_at hl 0 rfl) ?_
  refine va_get (D := (dC, dI)) (ci := 8) (v := .ref (h 15)) (C := RX9) (T := TX9) (N := 33) hx hb hts (fun w h => List.mem_cons_of_mem _ (in_X9 w h)) hown hK hP 0 rfl rfl 2 (by decide) (hts _ (List.mem_cons_of_mem _ tw_3_189)) (fun _ h9 => h9) rfl dX9_moved_1 ?_
  refine lv_iload_n hx hb dX9_moved_4 rfl (lv_at hl 1 rfl) ?_
  refine lv_aload_n hx hb dX9_moved_5 rfl (lv_at hl 0 rfl) ?_
  refine lv_aload_n hx hb dX9_moved_6 rfl (lv_at hl 0 rfl) ?_
  refine va_get (D := (dC, dI)) (ci := 8) (v := .ref (h 15)) (C := RX9) (T := TX9) (N := 33) hx hb hts (fun w h => List.mem_cons_of_mem _ (in_X9 w h)) hown hK hP 0 rfl rfl 2 (by decide) (hts _ (List.mem_cons_of_mem _ tw_3_189)) (fun _ h9 => h9) rfl dX9_moved_7 ?_
  refine lv_iload_n hx hb dX9_moved_10 rfl (lv_at hl 2 rfl) ?_
  refine va_iald hx hb hK hP 2 0 rfl rfl hok.1 dX9_moved_11 ?_
  have hok := hok.2
  have hPc := hP
  have hDc := hD
  have hFc := va_free (wc := w_Model h cI cJ σ) hD hS hA [0, 1, 2, 3, 4, 5, 6] rfl
  refine va_calli (va_runV (As := [.int ((σ.2.2 2) a2.toNatClampNeg)]) (rest := [.int a1, .ref (h 15)]) ⟨hx, hb, hml, hown, hts⟩ (c_X9_tested l dC dI cI cJ h _ hok) (cwV 1 hts (tb_gV tw_4_160 tw_4_162 tw_p_59 tw_1_9 tw_4_163) rfl rfl rfl (by decide +kernel) ⟨Nat.le_of_ble_eq_true rfl, Nat.le_of_ble_eq_true rfl⟩) (cpre_V (ci := 8) (q0 := 0) hK hPc hDc rfl rfl) rfl rfl hl.1 rfl (lv_room (Nat.le_of_ble_eq_true rfl)) dX9_moved_12 ⟨Nat.le_of_ble_eq_true rfl, Nat.le_of_ble_eq_true rfl⟩) hS (fun q _ h => hFc q h) hFc (fun r1 u2 t H1 locs ht hvm hok hB hz1 hk1 hS => ?_)
  obtain ⟨hP, hD⟩ := cjoin_w ht hB hFc
  refine va_iast hx hb hK hP hD hS 2 0 rfl rfl hok.1 dX9_moved_15 (fun H locs hP hD hS => ?_)
  have hok := hok.2
  have hP : va_P (dC, dI) vwCl (w_Model h cI cJ (u2.1, u2.2.1, va_up u2.2.2 2 (upd (u2.2.2 2) a1.toNatClampNeg r1))) _ := hP
  have hD : va_D A (w_Model h cI cJ (u2.1, u2.2.1, va_up u2.2.2 2 (upd (u2.2.2 2) a1.toNatClampNeg r1))) := hD
  refine lv_iconst (v := 2) hx hb dX9_moved_16 (by decide) ?_
  exact W.iret (v := 2) hx hb hr (fun t ht hW => ⟨⟨2, (u2.1, u2.2.1, va_up u2.2.2 2 (upd (u2.2.2 2) a1.toNatClampNeg r1)), rfl, hok, by rw [ht]; exact hP, va_K.moved hW.alike hK, hD⟩, hS.F ht⟩) hS.2.2 dX9_moved_17
def wp_X9_counted (σ : S_Model) (a1 : Int32) (a2 : Int32) (Φ : Int32 → S_Model → Prop) : Prop := (vp_in a1 4 ∧ (∀ v1 : Int32, v1 = (((σ.2.2 2) a1.toNatClampNeg) + a2) &&& (255 : Int32) → wp_X9_tested σ v1 (fun r2 u3 => (vp_in a1 4 ∧ (Φ 2 (u3.1, u3.2.1, va_up u3.2.2 2 (upd (u3.2.2 2) a1.toNatClampNeg r2)))))))
set_option maxHeartbeats 4000000 in
set_option maxRecDepth 100000 in
theorem c_X9_counted (l : Launch) (dC : Nat → ClassId) (dI : Nat → Nat → Nat) (cI cJ : ClassId) (h : Nat → Nat) (sz : Nat) {σ : S_Model} {a1 : Int32} {a2 : Int32} {Φ : Int32 → S_Model → Prop} (hok : wp_X9_counted σ a1 a2 Φ) : Met l yX9_counted wsX9_counted ({ frames := 2, cells := 0, slots := 0, locals := 43 }) (va_Pc [.ref (h 13), .int a1, .int a2] (cpre dC dI cI cJ (w_Model h cI cJ σ) sz)) (va_Qi Φ (fun u => cpost dC dI cI cJ (va_A (w_Model h cI cJ σ) sz) (w_Model h cI cJ u)) (va_A (w_Model h cI cJ σ) sz)) 0 0 (va_A (w_Model h cI cJ σ) sz) := by
  refine Met.ofW (cc := cX9_counted) (maxL := 3) (ret := (some .int)) (by decide) rfl ?_
  intro p e s m args below meth c s₁ B hml hv
  obtain ⟨rfl, hsz, hP, hK, hD0⟩ := hv
  have hx := B.exec
  have hb := B.bytes
  have hr := B.returns
  have hts := atoms_spec (ws := wsX9_counted) B.pre
  have hown : s.vm.findClass RX9 = some m.cls := findClass_of_methodNamed B.named
  have hlocks := B.notSynchronized
  subst hsz
  have hD := hD0.self (sz := s.heap.size)
  generalize hAe : va_A (w_Model h cI cJ σ) s.heap.size = A at hD ⊢
  have hA : ∀ q : Nat, s.heap.size ≤ q → A q := fun q h => by rw [← hAe]; exact Or.inr h
  clear hD0 hAe
  have hS : va_S A s.heap s.heap [] := va_S.rf
  have hl := lv_entry ([.ref (h 13), .int a1, .int a2]) (n := 3) (Nat.le_of_ble_eq_true rfl)
  rw [lg_entry_eq]
  generalize (lg_sl ([.ref (h 13), .int a1, .int a2]) ++ List.replicate (3 - (lg_sl ([.ref (h 13), .int a1, .int a2])).length) Slot.unset).toArray = ls at hl ⊢
  have hl : lv_has ls 3 [(0, .ref (h 13)), (1, .int a1), (2, .int a2)] := hl
  unfold wp_X9_counted at hok
  refine lv_aload_n hx hb dX9_counted_0 rfl (lv_at hl 0 rfl) ?_
  refine va_get (D := (dC, dI)) (ci := 8) (v := .ref (h 15)) (C := RX9) (T := TX9) (N := 33) hx hb hts (fun w h => List.mem_cons_of_mem _ (in_X9 w h)) hown hK hP 0 rfl rfl 2 (by decide) (hts _ (List.mem_cons_of_mem _ tw_3_189)) (fun _ h9 => h9) rfl dX9_counted_1 ?_
  refine lv_iload_n hx hb dX9_counted_4 rfl (lv_at hl 1 rfl) ?_
  refine lv_aload_n hx hb dX9_counted_5 rfl (lv_at hl 0 rfl) ?_
  refine lv_aload_n hx hb dX9_counted_6 rfl (lv_at hl 0 rfl) ?_
  refine va_get (D := (dC, dI)) (ci := 8) (v := .ref (h 15)) (C := RX9) (T := TX9) (N := 33) hx hb hts (fun w h => List.mem_cons_of_mem _ (in_X9 w h)) hown hK hP 0 rfl rfl 2 (by decide) (hts _ (List.mem_cons_of_mem _ tw_3_189)) (fun _ h9 => h9) rfl dX9_counted_7 ?_
  refine lv_iload_n hx hb dX9_counted_10 rfl (lv_at hl 1 rfl) ?_
  refine va_iald hx hb hK hP 2 0 rfl rfl hok.1 dX9_counted_11 ?_
  have hok := hok.2
  refine lv_iload_n hx hb dX9_counted_12 rfl (lv_at hl 2 rfl) ?_
  refine lv_iadd hx hb dX9_counted_13 ?_
  refine lv_sipush (v := 255) hx hb dX9_counted_14 (by decide) ?_
  refine lv_iand hx hb dX9_counted_17 ?_
  refine lv_topi (fun v1 ev1 => ?_)
  have hok := hok v1 ev1
  have hPc := hP
  have hDc := hD
  have hFc := va_free (wc := w_Model h cI cJ σ) hD hS hA [0, 1, 2, 3, 4, 5, 6] rfl
  refine va_calli (va_runV (As := [.int v1]) (rest := [.int a1, .ref (h 15)]) ⟨hx, hb, hml, hown, hts⟩ (c_X9_tested l dC dI cI cJ h _ hok) (cwV 1 hts (tb_gV tw_4_160 tw_4_162 tw_p_59 tw_1_9 tw_4_163) rfl rfl rfl (by decide +kernel) ⟨Nat.le_of_ble_eq_true rfl, Nat.le_of_ble_eq_true rfl⟩) (cpre_V (ci := 8) (q0 := 0) hK hPc hDc rfl rfl) rfl rfl hl.1 rfl (lv_room (Nat.le_of_ble_eq_true rfl)) dX9_counted_18 ⟨Nat.le_of_ble_eq_true rfl, Nat.le_of_ble_eq_true rfl⟩) hS (fun q _ h => hFc q h) hFc (fun r2 u3 t H1 locs ht hvm hok hB hz1 hk1 hS => ?_)
  obtain ⟨hP, hD⟩ := cjoin_w ht hB hFc
  refine va_iast hx hb hK hP hD hS 2 0 rfl rfl hok.1 dX9_counted_21 (fun H locs hP hD hS => ?_)
  have hok := hok.2
  have hP : va_P (dC, dI) vwCl (w_Model h cI cJ (u3.1, u3.2.1, va_up u3.2.2 2 (upd (u3.2.2 2) a1.toNatClampNeg r2))) _ := hP
  have hD : va_D A (w_Model h cI cJ (u3.1, u3.2.1, va_up u3.2.2 2 (upd (u3.2.2 2) a1.toNatClampNeg r2))) := hD
  refine lv_iconst (v := 2) hx hb dX9_counted_22 (by decide) ?_
  exact W.iret (v := 2) hx hb hr (fun t ht hW => ⟨⟨2, (u3.1, u3.2.1, va_up u3.2.2 2 (upd (u3.2.2 2) a1.toNatClampNeg r2)), rfl, hok, by rw [ht]; exact hP, va_K.moved hW.alike hK, hD⟩, hS.F ht⟩) hS.2.2 dX9_counted_23
def wp_X9_flagged (σ : S_Model) (a1 : Int32) (a2 : Int32) (Φ : Int32 → S_Model → Prop) : Prop := wp_X9_flag σ a1 a2 (fun u1 => Φ 2 u1)
set_option maxHeartbeats 4000000 in
set_option maxRecDepth 100000 in
theorem c_X9_flagged (l : Launch) (dC : Nat → ClassId) (dI : Nat → Nat → Nat) (cI cJ : ClassId) (h : Nat → Nat) (sz : Nat) {σ : S_Model} {a1 : Int32} {a2 : Int32} {Φ : Int32 → S_Model → Prop} (hok : wp_X9_flagged σ a1 a2 Φ) : Met l yX9_flagged wsX9_flagged ({ frames := 1, cells := 0, slots := 0, locals := 22 }) (va_Pc [.ref (h 13), .int a1, .int a2] (cpre dC dI cI cJ (w_Model h cI cJ σ) sz)) (va_Qi Φ (fun u => cpost dC dI cI cJ (va_A (w_Model h cI cJ σ) sz) (w_Model h cI cJ u)) (va_A (w_Model h cI cJ σ) sz)) 0 0 (va_A (w_Model h cI cJ σ) sz) := by
  refine Met.ofW (cc := cX9_flagged) (maxL := 3) (ret := (some .int)) (by decide) rfl ?_
  intro p e s m args below meth c s₁ B hml hv
  obtain ⟨rfl, hsz, hP, hK, hD0⟩ := hv
  have hx := B.exec
  have hb := B.bytes
  have hr := B.returns
  have hts := atoms_spec (ws := wsX9_flagged) B.pre
  have hown : s.vm.findClass RX9 = some m.cls := findClass_of_methodNamed B.named
  have hlocks := B.notSynchronized
  subst hsz
  have hD := hD0.self (sz := s.heap.size)
  generalize hAe : va_A (w_Model h cI cJ σ) s.heap.size = A at hD ⊢
  have hA : ∀ q : Nat, s.heap.size ≤ q → A q := fun q h => by rw [← hAe]; exact Or.inr h
  clear hD0 hAe
  have hS : va_S A s.heap s.heap [] := va_S.rf
  have hl := lv_entry ([.ref (h 13), .int a1, .int a2]) (n := 3) (Nat.le_of_ble_eq_true rfl)
  rw [lg_entry_eq]
  generalize (lg_sl ([.ref (h 13), .int a1, .int a2]) ++ List.replicate (3 - (lg_sl ([.ref (h 13), .int a1, .int a2])).length) Slot.unset).toArray = ls at hl ⊢
  have hl : lv_has ls 3 [(0, .ref (h 13)), (1, .int a1), (2, .int a2)] := hl
  unfold wp_X9_flagged at hok
  refine lv_aload_n hx hb dX9_flagged_0 rfl (lv_at hl 0 rfl) ?_
  refine lv_iload_n hx hb dX9_flagged_1 rfl (lv_at hl 1 rfl) ?_
  refine lv_iload_n hx hb dX9_flagged_2 rfl (lv_at hl 2 rfl) ?_
  have hPc := hP
  have hDc := hD
  have hFc := va_free (wc := w_Model h cI cJ σ) hD hS hA [0, 1, 2, 3, 4, 5, 6] rfl
  refine va_callv (va_runV (As := [.int a1, .int a2]) (rest := []) ⟨hx, hb, hml, hown, hts⟩ (c_X9_flag l dC dI cI cJ h _ hok) (cwV 2 hts (tb_gV tw_4_85 tw_4_87 tw_p_42 tw_1_9 tw_4_88) rfl rfl rfl (by decide +kernel) ⟨Nat.le_of_ble_eq_true rfl, Nat.le_of_ble_eq_true rfl⟩) (cpre_V (ci := 8) (q0 := 0) hK hPc hDc rfl rfl) rfl rfl hl.1 rfl (lv_room (Nat.le_of_ble_eq_true rfl)) dX9_flagged_3 ⟨Nat.le_of_ble_eq_true rfl, Nat.le_of_ble_eq_true rfl⟩) hS (fun q _ h => hFc q h) hFc (fun u1 t H1 locs ht hvm hok hB hz1 hk1 hS => ?_)
  obtain ⟨hP, hD⟩ := cjoin_w ht hB hFc
  refine lv_iconst (v := 2) hx hb dX9_flagged_6 (by decide) ?_
  exact W.iret (v := 2) hx hb hr (fun t ht hW => ⟨⟨2, u1, rfl, hok, by rw [ht]; exact hP, va_K.moved hW.alike hK, hD⟩, hS.F ht⟩) hS.2.2 dX9_flagged_7
def wp_X9_eights (σ : S_Model) (a1 : Int32) (Φ : Int32 → S_Model → Prop) : Prop := (((a1 >>> ((4 : Int32) &&& 31)) = 0 → (wp_X9_stacks σ (-1) 1 (fun r2 u3 => Φ r2 u3))) ∧ ((a1 >>> ((4 : Int32) &&& 31)) = 1 → (wp_X9_flagged σ 1 0 (fun r5 u6 => Φ r5 u6))) ∧ ((a1 >>> ((4 : Int32) &&& 31)) = 2 → (wp_X9_stacks σ (-1) 0 (fun r8 u9 => Φ r8 u9))) ∧ ((a1 >>> ((4 : Int32) &&& 31)) = 3 → (wp_X9_flagged σ 1 1 (fun r11 u12 => Φ r11 u12))) ∧ ((a1 >>> ((4 : Int32) &&& 31)) = 4 → (wp_X9_stacks σ 0 1 (fun r14 u15 => Φ r14 u15))) ∧ ((a1 >>> ((4 : Int32) &&& 31)) = 5 → (wp_X9_flagged σ 4 0 (fun r17 u18 => Φ r17 u18))) ∧ ((a1 >>> ((4 : Int32) &&& 31)) = 6 → (wp_X9_stacks σ 0 0 (fun r20 u21 => Φ r20 u21))) ∧ ((a1 >>> ((4 : Int32) &&& 31)) = 7 → (wp_X9_flagged σ 4 1 (fun r23 u24 => Φ r23 u24))) ∧ ((a1 >>> ((4 : Int32) &&& 31)) = 8 → (wp_X9_counted σ 2 (-1) (fun r26 u27 => Φ r26 u27))) ∧ ((a1 >>> ((4 : Int32) &&& 31)) = 9 → (wp_X9_moved σ 0 2 (fun r29 u30 => Φ r29 u30))) ∧ ((a1 >>> ((4 : Int32) &&& 31)) = 10 → (wp_X9_moved σ 2 0 (fun r32 u33 => Φ r32 u33))) ∧ ((a1 >>> ((4 : Int32) &&& 31)) = 11 → (wp_X9_flagged σ 64 0 (fun r35 u36 => Φ r35 u36))) ∧ ((a1 >>> ((4 : Int32) &&& 31)) = 12 → (wp_X9_counted σ 2 1 (fun r38 u39 => Φ r38 u39))) ∧ ((a1 >>> ((4 : Int32) &&& 31)) = 13 → (wp_X9_flagged σ 8 0 (fun r41 u42 => Φ r41 u42))) ∧ ((a1 >>> ((4 : Int32) &&& 31)) = 14 → (wp_X9_counted σ 1 1 (fun r44 u45 => Φ r44 u45))) ∧ ((¬ (a1 >>> ((4 : Int32) &&& 31)) = 0 ∧ ¬ (a1 >>> ((4 : Int32) &&& 31)) = 1 ∧ ¬ (a1 >>> ((4 : Int32) &&& 31)) = 2 ∧ ¬ (a1 >>> ((4 : Int32) &&& 31)) = 3 ∧ ¬ (a1 >>> ((4 : Int32) &&& 31)) = 4 ∧ ¬ (a1 >>> ((4 : Int32) &&& 31)) = 5 ∧ ¬ (a1 >>> ((4 : Int32) &&& 31)) = 6 ∧ ¬ (a1 >>> ((4 : Int32) &&& 31)) = 7 ∧ ¬ (a1 >>> ((4 : Int32) &&& 31)) = 8 ∧ ¬ (a1 >>> ((4 : Int32) &&& 31)) = 9 ∧ ¬ (a1 >>> ((4 : Int32) &&& 31)) = 10 ∧ ¬ (a1 >>> ((4 : Int32) &&& 31)) = 11 ∧ ¬ (a1 >>> ((4 : Int32) &&& 31)) = 12 ∧ ¬ (a1 >>> ((4 : Int32) &&& 31)) = 13 ∧ ¬ (a1 >>> ((4 : Int32) &&& 31)) = 14) → (wp_X9_flagged σ 8 1 (fun r46 u47 => Φ r46 u47))))
set_option maxHeartbeats 4000000 in
set_option maxRecDepth 100000 in
theorem c_X9_eights (l : Launch) (dC : Nat → ClassId) (dI : Nat → Nat → Nat) (cI cJ : ClassId) (h : Nat → Nat) (sz : Nat) {σ : S_Model} {a1 : Int32} {Φ : Int32 → S_Model → Prop} (hok : wp_X9_eights σ a1 Φ) : Met l yX9_eights wsX9_eights ({ frames := 5, cells := 0, slots := 0, locals := 108 }) (va_Pc [.ref (h 13), .int a1] (cpre dC dI cI cJ (w_Model h cI cJ σ) sz)) (va_Qi Φ (fun u => cpost dC dI cI cJ (va_A (w_Model h cI cJ σ) sz) (w_Model h cI cJ u)) (va_A (w_Model h cI cJ σ) sz)) 0 0 (va_A (w_Model h cI cJ σ) sz) := by
  refine Met.ofW (cc := cX9_eights) (maxL := 2) (ret := (some .int)) (by decide) rfl ?_
  intro p e s m args below meth c s₁ B hml hv
  obtain ⟨rfl, hsz, hP, hK, hD0⟩ := hv
  have hx := B.exec
  have hb := B.bytes
  have hr := B.returns
  have hts := atoms_spec (ws := wsX9_eights) B.pre
  have hown : s.vm.findClass RX9 = some m.cls := findClass_of_methodNamed B.named
  have hlocks := B.notSynchronized
  subst hsz
  have hD := hD0.self (sz := s.heap.size)
  generalize hAe : va_A (w_Model h cI cJ σ) s.heap.size = A at hD ⊢
  have hA : ∀ q : Nat, s.heap.size ≤ q → A q := fun q h => by rw [← hAe]; exact Or.inr h
  clear hD0 hAe
  have hS : va_S A s.heap s.heap [] := va_S.rf
  have hl := lv_entry ([.ref (h 13), .int a1]) (n := 2) (Nat.le_of_ble_eq_true rfl)
  rw [lg_entry_eq]
  generalize (lg_sl ([.ref (h 13), .int a1]) ++ List.replicate (2 - (lg_sl ([.ref (h 13), .int a1])).length) Slot.unset).toArray = ls at hl ⊢
  have hl : lv_has ls 2 [(0, .ref (h 13)), (1, .int a1)] := hl
  unfold wp_X9_eights at hok
  refine lv_iload_n hx hb dX9_eights_0 rfl (lv_at hl 1 rfl) ?_
  refine lv_iconst (v := 4) hx hb dX9_eights_1 (by decide) ?_
  refine lv_ishr hx hb dX9_eights_2 ?_
  by_cases c1 : (a1 >>> ((4 : Int32) &&& 31)) = 0
  · have hok := hok.1 c1
    refine lv_tableIn (tgt := 76) (off := 73) hx hb dX9_eights_3 (by rw [c1]; decide) (by rw [c1]; decide) (by rw [c1]; decide) (by decide) ?_
    refine lv_aload_n hx hb dX9_eights_76 rfl (lv_at hl 0 rfl) ?_
    refine lv_iconst (v := (-1)) hx hb dX9_eights_77 (by decide) ?_
    refine lv_iconst (v := 1) hx hb dX9_eights_78 (by decide) ?_
    have hPc := hP
    have hDc := hD
    have hFc := va_free (wc := w_Model h cI cJ σ) hD hS hA [0, 1, 2, 3, 4, 5, 6] rfl
    refine va_calli (va_runV (As := [.int (-1), .int 1]) (rest := []) ⟨hx, hb, hml, hown, hts⟩ (c_X9_stacks l dC dI cI cJ h _ hok) (cwV 2 hts (tb_gV tw_5_1 tw_5_3 tw_p_77 tw_1_9 tw_5_4) rfl rfl rfl (by decide +kernel) ⟨Nat.le_of_ble_eq_true rfl, Nat.le_of_ble_eq_true rfl⟩) (cpre_V (ci := 8) (q0 := 0) hK hPc hDc rfl rfl) rfl rfl hl.1 rfl (lv_room (Nat.le_of_ble_eq_true rfl)) dX9_eights_79 ⟨Nat.le_of_ble_eq_true rfl, Nat.le_of_ble_eq_true rfl⟩) hS (fun q _ h => hFc q h) hFc (fun r2 u3 t H1 locs ht hvm hok hB hz1 hk1 hS => ?_)
    obtain ⟨hP, hD⟩ := cjoin_w ht hB hFc
    exact W.iret (v := r2) hx hb hr (fun t ht hW => ⟨⟨r2, u3, rfl, hok, by rw [ht]; exact hP, va_K.moved hW.alike hK, hD⟩, hS.F ht⟩) hS.2.2 dX9_eights_82
  have hok := hok.2
  by_cases c4 : (a1 >>> ((4 : Int32) &&& 31)) = 1
  · have hok := hok.1 c4
    refine lv_tableIn (tgt := 83) (off := 80) hx hb dX9_eights_3 (by rw [c4]; decide) (by rw [c4]; decide) (by rw [c4]; decide) (by decide) ?_
    refine lv_aload_n hx hb dX9_eights_83 rfl (lv_at hl 0 rfl) ?_
    refine lv_iconst (v := 1) hx hb dX9_eights_84 (by decide) ?_
    refine lv_iconst (v := 0) hx hb dX9_eights_85 (by decide) ?_
    have hPc := hP
    have hDc := hD
    have hFc := va_free (wc := w_Model h cI cJ σ) hD hS hA [0, 1, 2, 3, 4, 5, 6] rfl
    refine va_calli (va_runV (As := [.int 1, .int 0]) (rest := []) ⟨hx, hb, hml, hown, hts⟩ (c_X9_flagged l dC dI cI cJ h _ hok) (cwV 2 hts (tb_gV tw_5_5 tw_5_7 tw_p_78 tw_1_9 tw_5_8) rfl rfl rfl (by decide +kernel) ⟨Nat.le_of_ble_eq_true rfl, Nat.le_of_ble_eq_true rfl⟩) (cpre_V (ci := 8) (q0 := 0) hK hPc hDc rfl rfl) rfl rfl hl.1 rfl (lv_room (Nat.le_of_ble_eq_true rfl)) dX9_eights_86 ⟨Nat.le_of_ble_eq_true rfl, Nat.le_of_ble_eq_true rfl⟩) hS (fun q _ h => hFc q h) hFc (fun r5 u6 t H1 locs ht hvm hok hB hz1 hk1 hS => ?_)
    obtain ⟨hP, hD⟩ := cjoin_w ht hB hFc
    exact W.iret (v := r5) hx hb hr (fun t ht hW => ⟨⟨r5, u6, rfl, hok, by rw [ht]; exact hP, va_K.moved hW.alike hK, hD⟩, hS.F ht⟩) hS.2.2 dX9_eights_89
  have hok := hok.2
  by_cases c7 : (a1 >>> ((4 : Int32) &&& 31)) = 2
  · have hok := hok.1 c7
    refine lv_tableIn (tgt := 90) (off := 87) hx hb dX9_eights_3 (by rw [c7]; decide) (by rw [c7]; decide) (by rw [c7]; decide) (by decide) ?_
    refine lv_aload_n hx hb dX9_eights_90 rfl (lv_at hl 0 rfl) ?_
    refine lv_iconst (v := (-1)) hx hb dX9_eights_91 (by decide) ?_
    refine lv_iconst (v := 0) hx hb dX9_eights_92 (by decide) ?_
    have hPc := hP
    have hDc := hD
    have hFc := va_free (wc := w_Model h cI cJ σ) hD hS hA [0, 1, 2, 3, 4, 5, 6] rfl
    refine va_calli (va_runV (As := [.int (-1), .int 0]) (rest := []) ⟨hx, hb, hml, hown, hts⟩ (c_X9_stacks l dC dI cI cJ h _ hok) (cwV 2 hts (tb_gV tw_5_1 tw_5_3 tw_p_77 tw_1_9 tw_5_4) rfl rfl rfl (by decide +kernel) ⟨Nat.le_of_ble_eq_true rfl, Nat.le_of_ble_eq_true rfl⟩) (cpre_V (ci := 8) (q0 := 0) hK hPc hDc rfl rfl) rfl rfl hl.1 rfl (lv_room (Nat.le_of_ble_eq_true rfl)) dX9_eights_93 ⟨Nat.le_of_ble_eq_true rfl, Nat.le_of_ble_eq_true rfl⟩) hS (fun q _ h => hFc q h) hFc (fun r8 u9 t H1 locs ht hvm hok hB hz1 hk1 hS => ?_)
    obtain ⟨hP, hD⟩ := cjoin_w ht hB hFc
    exact W.iret (v := r8) hx hb hr (fun t ht hW => ⟨⟨r8, u9, rfl, hok, by rw [ht]; exact hP, va_K.moved hW.alike hK, hD⟩, hS.F ht⟩) hS.2.2 dX9_eights_96
  have hok := hok.2
  by_cases c10 : (a1 >>> ((4 : Int32) &&& 31)) = 3
  · have hok := hok.1 c10
    refine lv_tableIn (tgt := 97) (off := 94) hx hb dX9_eights_3 (by rw [c10]; decide) (by rw [c10]; decide) (by rw [c10]; decide) (by decide) ?_
    refine lv_aload_n hx hb dX9_eights_97 rfl (lv_at hl 0 rfl) ?_
    refine lv_iconst (v := 1) hx hb dX9_eights_98 (by decide) ?_
    refine lv_iconst (v := 1) hx hb dX9_eights_99 (by decide) ?_
    have hPc := hP
    have hDc := hD
    have hFc := va_free (wc := w_Model h cI cJ σ) hD hS hA [0, 1, 2, 3, 4, 5, 6] rfl
    refine va_calli (va_runV (As := [.int 1, .int 1]) (rest := []) ⟨hx, hb, hml, hown, hts⟩ (c_X9_flagged l dC dI cI cJ h _ hok) (cwV 2 hts (tb_gV tw_5_5 tw_5_7 tw_p_78 tw_1_9 tw_5_8) rfl rfl rfl (by decide +kernel) ⟨Nat.le_of_ble_eq_true rfl, Nat.le_of_ble_eq_true rfl⟩) (cpre_V (ci := 8) (q0 := 0) hK hPc hDc rfl rfl) rfl rfl hl.1 rfl (lv_room (Nat.le_of_ble_eq_true rfl)) dX9_eights_100 ⟨Nat.le_of_ble_eq_true rfl, Nat.le_of_ble_eq_true rfl⟩) hS (fun q _ h => hFc q h) hFc (fun r11 u12 t H1 locs ht hvm hok hB hz1 hk1 hS => ?_)
    obtain ⟨hP, hD⟩ := cjoin_w ht hB hFc
    exact W.iret (v := r11) hx hb hr (fun t ht hW => ⟨⟨r11, u12, rfl, hok, by rw [ht]; exact hP, va_K.moved hW.alike hK, hD⟩, hS.F ht⟩) hS.2.2 dX9_eights_103
  have hok := hok.2
  by_cases c13 : (a1 >>> ((4 : Int32) &&& 31)) = 4
  · have hok := hok.1 c13
    refine lv_tableIn (tgt := 104) (off := 101) hx hb dX9_eights_3 (by rw [c13]; decide) (by rw [c13]; decide) (by rw [c13]; decide) (by decide) ?_
    refine lv_aload_n hx hb dX9_eights_104 rfl (lv_at hl 0 rfl) ?_
    refine lv_iconst (v := 0) hx hb dX9_eights_105 (by decide) ?_
    refine lv_iconst (v := 1) hx hb dX9_eights_106 (by decide) ?_
    have hPc := hP
    have hDc := hD
    have hFc := va_free (wc := w_Model h cI cJ σ) hD hS hA [0, 1, 2, 3, 4, 5, 6] rfl
    refine va_calli (va_runV (As := [.int 0, .int 1]) (rest := []) ⟨hx, hb, hml, hown, hts⟩ (c_X9_stacks l dC dI cI cJ h _ hok) (cwV 2 hts (tb_gV tw_5_1 tw_5_3 tw_p_77 tw_1_9 tw_5_4) rfl rfl rfl (by decide +kernel) ⟨Nat.le_of_ble_eq_true rfl, Nat.le_of_ble_eq_true rfl⟩) (cpre_V (ci := 8) (q0 := 0) hK hPc hDc rfl rfl) rfl rfl hl.1 rfl (lv_room (Nat.le_of_ble_eq_true rfl)) dX9_eights_107 ⟨Nat.le_of_ble_eq_true rfl, Nat.le_of_ble_eq_true rfl⟩) hS (fun q _ h => hFc q h) hFc (fun r14 u15 t H1 locs ht hvm hok hB hz1 hk1 hS => ?_)
    obtain ⟨hP, hD⟩ := cjoin_w ht hB hFc
    exact W.iret (v := r14) hx hb hr (fun t ht hW => ⟨⟨r14, u15, rfl, hok, by rw [ht]; exact hP, va_K.moved hW.alike hK, hD⟩, hS.F ht⟩) hS.2.2 dX9_eights_110
  have hok := hok.2
  by_cases c16 : (a1 >>> ((4 : Int32) &&& 31)) = 5
  · have hok := hok.1 c16
    refine lv_tableIn (tgt := 111) (off := 108) hx hb dX9_eights_3 (by rw [c16]; decide) (by rw [c16]; decide) (by rw [c16]; decide) (by decide) ?_
    refine lv_aload_n hx hb dX9_eights_111 rfl (lv_at hl 0 rfl) ?_
    refine lv_iconst (v := 4) hx hb dX9_eights_112 (by decide) ?_
    refine lv_iconst (v := 0) hx hb dX9_eights_113 (by decide) ?_
    have hPc := hP
    have hDc := hD
    have hFc := va_free (wc := w_Model h cI cJ σ) hD hS hA [0, 1, 2, 3, 4, 5, 6] rfl
    refine va_calli (va_runV (As := [.int 4, .int 0]) (rest := []) ⟨hx, hb, hml, hown, hts⟩ (c_X9_flagged l dC dI cI cJ h _ hok) (cwV 2 hts (tb_gV tw_5_5 tw_5_7 tw_p_78 tw_1_9 tw_5_8) rfl rfl rfl (by decide +kernel) ⟨Nat.le_of_ble_eq_true rfl, Nat.le_of_ble_eq_true rfl⟩) (cpre_V (ci := 8) (q0 := 0) hK hPc hDc rfl rfl) rfl rfl hl.1 rfl (lv_room (Nat.le_of_ble_eq_true rfl)) dX9_eights_114 ⟨Nat.le_of_ble_eq_true rfl, Nat.le_of_ble_eq_true rfl⟩) hS (fun q _ h => hFc q h) hFc (fun r17 u18 t H1 locs ht hvm hok hB hz1 hk1 hS => ?_)
    obtain ⟨hP, hD⟩ := cjoin_w ht hB hFc
    exact W.iret (v := r17) hx hb hr (fun t ht hW => ⟨⟨r17, u18, rfl, hok, by rw [ht]; exact hP, va_K.moved hW.alike hK, hD⟩, hS.F ht⟩) hS.2.2 dX9_eights_117
  have hok := hok.2
  by_cases c19 : (a1 >>> ((4 : Int32) &&& 31)) = 6
  · have hok := hok.1 c19
    refine lv_tableIn (tgt := 118) (off := 115) hx hb dX9_eights_3 (by rw [c19]; decide) (by rw [c19]; decide) (by rw [c19]; decide) (by decide) ?_
    refine lv_aload_n hx hb dX9_eights_118 rfl (lv_at hl 0 rfl) ?_
    refine lv_iconst (v := 0) hx hb dX9_eights_119 (by decide) ?_
    refine lv_iconst (v := 0) hx hb dX9_eights_120 (by decide) ?_
    have hPc := hP
    have hDc := hD
    have hFc := va_free (wc := w_Model h cI cJ σ) hD hS hA [0, 1, 2, 3, 4, 5, 6] rfl
    refine va_calli (va_runV (As := [.int 0, .int 0]) (rest := []) ⟨hx, hb, hml, hown, hts⟩ (c_X9_stacks l dC dI cI cJ h _ hok) (cwV 2 hts (tb_gV tw_5_1 tw_5_3 tw_p_77 tw_1_9 tw_5_4) rfl rfl rfl (by decide +kernel) ⟨Nat.le_of_ble_eq_true rfl, Nat.le_of_ble_eq_true rfl⟩) (cpre_V (ci := 8) (q0 := 0) hK hPc hDc rfl rfl) rfl rfl hl.1 rfl (lv_room (Nat.le_of_ble_eq_true rfl)) dX9_eights_121 ⟨Nat.le_of_ble_eq_true rfl, Nat.le_of_ble_eq_true rfl⟩) hS (fun q _ h => hFc q h) hFc (fun r20 u21 t H1 locs ht hvm hok hB hz1 hk1 hS => ?_)
    obtain ⟨hP, hD⟩ := cjoin_w ht hB hFc
    exact W.iret (v := r20) hx hb hr (fun t ht hW => ⟨⟨r20, u21, rfl, hok, by rw [ht]; exact hP, va_K.moved hW.alike hK, hD⟩, hS.F ht⟩) hS.2.2 dX9_eights_124
  have hok := hok.2
  by_cases c22 : (a1 >>> ((4 : Int32) &&& 31)) = 7
  · have hok := hok.1 c22
    refine lv_tableIn (tgt := 125) (off := 122) hx hb dX9_eights_3 (by rw [c22]; decide) (by rw [c22]; decide) (by rw [c22]; decide) (by decide) ?_
    refine lv_aload_n hx hb dX9_eights_125 rfl (lv_at hl 0 rfl) ?_
    refine lv_iconst (v := 4) hx hb dX9_eights_126 (by decide) ?_
    refine lv_iconst (v := 1) hx hb dX9_eights_127 (by decide) ?_
    have hPc := hP
    have hDc := hD
    have hFc := va_free (wc := w_Model h cI cJ σ) hD hS hA [0, 1, 2, 3, 4, 5, 6] rfl
    refine va_calli (va_runV (As := [.int 4, .int 1]) (rest := []) ⟨hx, hb, hml, hown, hts⟩ (c_X9_flagged l dC dI cI cJ h _ hok) (cwV 2 hts (tb_gV tw_5_5 tw_5_7 tw_p_78 tw_1_9 tw_5_8) rfl rfl rfl (by decide +kernel) ⟨Nat.le_of_ble_eq_true rfl, Nat.le_of_ble_eq_true rfl⟩) (cpre_V (ci := 8) (q0 := 0) hK hPc hDc rfl rfl) rfl rfl hl.1 rfl (lv_room (Nat.le_of_ble_eq_true rfl)) dX9_eights_128 ⟨Nat.le_of_ble_eq_true rfl, Nat.le_of_ble_eq_true rfl⟩) hS (fun q _ h => hFc q h) hFc (fun r23 u24 t H1 locs ht hvm hok hB hz1 hk1 hS => ?_)
    obtain ⟨hP, hD⟩ := cjoin_w ht hB hFc
    exact W.iret (v := r23) hx hb hr (fun t ht hW => ⟨⟨r23, u24, rfl, hok, by rw [ht]; exact hP, va_K.moved hW.alike hK, hD⟩, hS.F ht⟩) hS.2.2 dX9_eights_131
  have hok := hok.2
  by_cases c25 : (a1 >>> ((4 : Int32) &&& 31)) = 8
  · have hok := hok.1 c25
    refine lv_tableIn (tgt := 132) (off := 129) hx hb dX9_eights_3 (by rw [c25]; decide) (by rw [c25]; decide) (by rw [c25]; decide) (by decide) ?_
    refine lv_aload_n hx hb dX9_eights_132 rfl (lv_at hl 0 rfl) ?_
    refine lv_iconst (v := 2) hx hb dX9_eights_133 (by decide) ?_
    refine lv_iconst (v := (-1)) hx hb dX9_eights_134 (by decide) ?_
    have hPc := hP
    have hDc := hD
    have hFc := va_free (wc := w_Model h cI cJ σ) hD hS hA [0, 1, 2, 3, 4, 5, 6] rfl
    refine va_calli (va_runV (As := [.int 2, .int (-1)]) (rest := []) ⟨hx, hb, hml, hown, hts⟩ (c_X9_counted l dC dI cI cJ h _ hok) (cwV 2 hts (tb_gV tw_5_9 tw_5_11 tw_p_79 tw_1_9 tw_5_12) rfl rfl rfl (by decide +kernel) ⟨Nat.le_of_ble_eq_true rfl, Nat.le_of_ble_eq_true rfl⟩) (cpre_V (ci := 8) (q0 := 0) hK hPc hDc rfl rfl) rfl rfl hl.1 rfl (lv_room (Nat.le_of_ble_eq_true rfl)) dX9_eights_135 ⟨Nat.le_of_ble_eq_true rfl, Nat.le_of_ble_eq_true rfl⟩) hS (fun q _ h => hFc q h) hFc (fun r26 u27 t H1 locs ht hvm hok hB hz1 hk1 hS => ?_)
    obtain ⟨hP, hD⟩ := cjoin_w ht hB hFc
    exact W.iret (v := r26) hx hb hr (fun t ht hW => ⟨⟨r26, u27, rfl, hok, by rw [ht]; exact hP, va_K.moved hW.alike hK, hD⟩, hS.F ht⟩) hS.2.2 dX9_eights_138
  have hok := hok.2
  by_cases c28 : (a1 >>> ((4 : Int32) &&& 31)) = 9
  · have hok := hok.1 c28
    refine lv_tableIn (tgt := 139) (off := 136) hx hb dX9_eights_3 (by rw [c28]; decide) (by rw [c28]; decide) (by rw [c28]; decide) (by decide) ?_
    refine lv_aload_n hx hb dX9_eights_139 rfl (lv_at hl 0 rfl) ?_
    refine lv_iconst (v := 0) hx hb dX9_eights_140 (by decide) ?_
    refine lv_iconst (v := 2) hx hb dX9_eights_141 (by decide) ?_
    have hPc := hP
    have hDc := hD
    have hFc := va_free (wc := w_Model h cI cJ σ) hD hS hA [0, 1, 2, 3, 4, 5, 6] rfl
    refine va_calli (va_runV (As := [.int 0, .int 2]) (rest := []) ⟨hx, hb, hml, hown, hts⟩ (c_X9_moved l dC dI cI cJ h _ hok) (cwV 2 hts (tb_gV tw_5_13 tw_5_15 tw_p_80 tw_1_9 tw_5_16) rfl rfl rfl (by decide +kernel) ⟨Nat.le_of_ble_eq_true rfl, Nat.le_of_ble_eq_true rfl⟩) (cpre_V (ci := 8) (q0 := 0) hK hPc hDc rfl rfl) rfl rfl hl.1 rfl (lv_room (Nat.le_of_ble_eq_true rfl)) dX9_eights_142 ⟨Nat.le_of_ble_eq_true rfl, Nat.le_of_ble_eq_true rfl⟩) hS (fun q _ h => hFc q h) hFc (fun r29 u30 t H1 locs ht hvm hok hB hz1 hk1 hS => ?_)
    obtain ⟨hP, hD⟩ := cjoin_w ht hB hFc
    exact W.iret (v := r29) hx hb hr (fun t ht hW => ⟨⟨r29, u30, rfl, hok, by rw [ht]; exact hP, va_K.moved hW.alike hK, hD⟩, hS.F ht⟩) hS.2.2 dX9_eights_145
  have hok := hok.2
  by_cases c31 : (a1 >>> ((4 : Int32) &&& 31)) = 10
  · have hok := hok.1 c31
    refine lv_tableIn (tgt := 146) (off := 143) hx hb dX9_eights_3 (by rw [c31]; decide) (by rw [c31]; decide) (by rw [c31]; decide) (by decide) ?_
    refine lv_aload_n hx hb dX9_eights_146 rfl (lv_at hl 0 rfl) ?_
    refine lv_iconst (v := 2) hx hb dX9_eights_147 (by decide) ?_
    refine lv_iconst (v := 0) hx hb dX9_eights_148 (by decide) ?_
    have hPc := hP
    have hDc := hD
    have hFc := va_free (wc := w_Model h cI cJ σ) hD hS hA [0, 1, 2, 3, 4, 5, 6] rfl
    refine va_calli (va_runV (As := [.int 2, .int 0]) (rest := []) ⟨hx, hb, hml, hown, hts⟩ (c_X9_moved l dC dI cI cJ h _ hok) (cwV 2 hts (tb_gV tw_5_13 tw_5_15 tw_p_80 tw_1_9 tw_5_16) rfl rfl rfl (by decide +kernel) ⟨Nat.le_of_ble_eq_true rfl, Nat.le_of_ble_eq_true rfl⟩) (cpre_V (ci := 8) (q0 := 0) hK hPc hDc rfl rfl) rfl rfl hl.1 rfl (lv_room (Nat.le_of_ble_eq_true rfl)) dX9_eights_149 ⟨Nat.le_of_ble_eq_true rfl, Nat.le_of_ble_eq_true rfl⟩) hS (fun q _ h => hFc q h) hFc (fun r32 u33 t H1 locs ht hvm hok hB hz1 hk1 hS => ?_)
    obtain ⟨hP, hD⟩ := cjoin_w ht hB hFc
    exact W.iret (v := r32) hx hb hr (fun t ht hW => ⟨⟨r32, u33, rfl, hok, by rw [ht]; exact hP, va_K.moved hW.alike hK, hD⟩, hS.F ht⟩) hS.2.2 dX9_eights_152
  have hok := hok.2
  by_cases c34 : (a1 >>> ((4 : Int32) &&& 31)) = 11
  · have hok := hok.1 c34
    refine lv_tableIn (tgt := 153) (off := 150) hx hb dX9_eights_3 (by rw [c34]; decide) (by rw [c34]; decide) (by rw [c34]; decide) (by decide) ?_
    refine lv_aload_n hx hb dX9_eights_153 rfl (lv_at hl 0 rfl) ?_
    refine lv_bipush (v := 64) hx hb dX9_eights_154 (by decide) ?_
    refine lv_iconst (v := 0) hx hb dX9_eights_156 (by decide) ?_
    have hPc := hP
    have hDc := hD
    have hFc := va_free (wc := w_Model h cI cJ σ) hD hS hA [0, 1, 2, 3, 4, 5, 6] rfl
    refine va_calli (va_runV (As := [.int 64, .int 0]) (rest := []) ⟨hx, hb, hml, hown, hts⟩ (c_X9_flagged l dC dI cI cJ h _ hok) (cwV 2 hts (tb_gV tw_5_5 tw_5_7 tw_p_78 tw_1_9 tw_5_8) rfl rfl rfl (by decide +kernel) ⟨Nat.le_of_ble_eq_true rfl, Nat.le_of_ble_eq_true rfl⟩) (cpre_V (ci := 8) (q0 := 0) hK hPc hDc rfl rfl) rfl rfl hl.1 rfl (lv_room (Nat.le_of_ble_eq_true rfl)) dX9_eights_157 ⟨Nat.le_of_ble_eq_true rfl, Nat.le_of_ble_eq_true rfl⟩) hS (fun q _ h => hFc q h) hFc (fun r35 u36 t H1 locs ht hvm hok hB hz1 hk1 hS => ?_)
    obtain ⟨hP, hD⟩ := cjoin_w ht hB hFc
    exact W.iret (v := r35) hx hb hr (fun t ht hW => ⟨⟨r35, u36, rfl, hok, by rw [ht]; exact hP, va_K.moved hW.alike hK, hD⟩, hS.F ht⟩) hS.2.2 dX9_eights_160
  have hok := hok.2
  by_cases c37 : (a1 >>> ((4 : Int32) &&& 31)) = 12
  · have hok := hok.1 c37
    refine lv_tableIn (tgt := 161) (off := 158) hx hb dX9_eights_3 (by rw [c37]; decide) (by rw [c37]; decide) (by rw [c37]; decide) (by decide) ?_
    refine lv_aload_n hx hb dX9_eights_161 rfl (lv_at hl 0 rfl) ?_
    refine lv_iconst (v := 2) hx hb dX9_eights_162 (by decide) ?_
    refine lv_iconst (v := 1) hx hb dX9_eights_163 (by decide) ?_
    have hPc := hP
    have hDc := hD
    have hFc := va_free (wc := w_Model h cI cJ σ) hD hS hA [0, 1, 2, 3, 4, 5, 6] rfl
    refine va_calli (va_runV (As := [.int 2, .int 1]) (rest := []) ⟨hx, hb, hml, hown, hts⟩ (c_X9_counted l dC dI cI cJ h _ hok) (cwV 2 hts (tb_gV tw_5_9 tw_5_11 tw_p_79 tw_1_9 tw_5_12) rfl rfl rfl (by decide +kernel) ⟨Nat.le_of_ble_eq_true rfl, Nat.le_of_ble_eq_true rfl⟩) (cpre_V (ci := 8) (q0 := 0) hK hPc hDc rfl rfl) rfl rfl hl.1 rfl (lv_room (Nat.le_of_ble_eq_true rfl)) dX9_eights_164 ⟨Nat.le_of_ble_eq_true rfl, Nat.le_of_ble_eq_true rfl⟩) hS (fun q _ h => hFc q h) hFc (fun r38 u39 t H1 locs ht hvm hok hB hz1 hk1 hS => ?_)
    obtain ⟨hP, hD⟩ := cjoin_w ht hB hFc
    exact W.iret (v := r38) hx hb hr (fun t ht hW => ⟨⟨r38, u39, rfl, hok, by rw [ht]; exact hP, va_K.moved hW.alike hK, hD⟩, hS.F ht⟩) hS.2.2 dX9_eights_167
  have hok := hok.2
  by_cases c40 : (a1 >>> ((4 : Int32) &&& 31)) = 13
  · have hok := hok.1 c40
    refine lv_tableIn (tgt := 168) (off := 165) hx hb dX9_eights_3 (by rw [c40]; decide) (by rw [c40]; decide) (by rw [c40]; decide) (by decide) ?_
    refine lv_aload_n hx hb dX9_eights_168 rfl (lv_at hl 0 rfl) ?_
    refine lv_bipush (v := 8) hx hb dX9_eights_169 (by decide) ?_
    refine lv_iconst (v := 0) hx hb dX9_eights_171 (by decide) ?_
    have hPc := hP
    have hDc := hD
    have hFc := va_free (wc := w_Model h cI cJ σ) hD hS hA [0, 1, 2, 3, 4, 5, 6] rfl
    refine va_calli (va_runV (As := [.int 8, .int 0]) (rest := []) ⟨hx, hb, hml, hown, hts⟩ (c_X9_flagged l dC dI cI cJ h _ hok) (cwV 2 hts (tb_gV tw_5_5 tw_5_7 tw_p_78 tw_1_9 tw_5_8) rfl rfl rfl (by decide +kernel) ⟨Nat.le_of_ble_eq_true rfl, Nat.le_of_ble_eq_true rfl⟩) (cpre_V (ci := 8) (q0 := 0) hK hPc hDc rfl rfl) rfl rfl hl.1 rfl (lv_room (Nat.le_of_ble_eq_true rfl)) dX9_eights_172 ⟨Nat.le_of_ble_eq_true rfl, Nat.le_of_ble_eq_true rfl⟩) hS (fun q _ h => hFc q h) hFc (fun r41 u42 t H1 locs ht hvm hok hB hz1 hk1 hS => ?_)
    obtain ⟨hP, hD⟩ := cjoin_w ht hB hFc
    exact W.iret (v := r41) hx hb hr (fun t ht hW => ⟨⟨r41, u42, rfl, hok, by rw [ht]; exact hP, va_K.moved hW.alike hK, hD⟩, hS.F ht⟩) hS.2.2 dX9_eights_175
  have hok := hok.2
  by_cases c43 : (a1 >>> ((4 : Int32) &&& 31)) = 14
  · have hok := hok.1 c43
    refine lv_tableIn (tgt := 176) (off := 173) hx hb dX9_eights_3 (by rw [c43]; decide) (by rw [c43]; decide) (by rw [c43]; decide) (by decide) ?_
    refine lv_aload_n hx hb dX9_eights_176 rfl (lv_at hl 0 rfl) ?_
    refine lv_iconst (v := 1) hx hb dX9_eights_177 (by decide) ?_
    refine lv_iconst (v := 1) hx hb dX9_eights_178 (by decide) ?_
    have hPc := hP
    have hDc := hD
    have hFc := va_free (wc := w_Model h cI cJ σ) hD hS hA [0, 1, 2, 3, 4, 5, 6] rfl
    refine va_calli (va_runV (As := [.int 1, .int 1]) (rest := []) ⟨hx, hb, hml, hown, hts⟩ (c_X9_counted l dC dI cI cJ h _ hok) (cwV 2 hts (tb_gV tw_5_9 tw_5_11 tw_p_79 tw_1_9 tw_5_12) rfl rfl rfl (by decide +kernel) ⟨Nat.le_of_ble_eq_true rfl, Nat.le_of_ble_eq_true rfl⟩) (cpre_V (ci := 8) (q0 := 0) hK hPc hDc rfl rfl) rfl rfl hl.1 rfl (lv_room (Nat.le_of_ble_eq_true rfl)) dX9_eights_179 ⟨Nat.le_of_ble_eq_true rfl, Nat.le_of_ble_eq_true rfl⟩) hS (fun q _ h => hFc q h) hFc (fun r44 u45 t H1 locs ht hvm hok hB hz1 hk1 hS => ?_)
    obtain ⟨hP, hD⟩ := cjoin_w ht hB hFc
    exact W.iret (v := r44) hx hb hr (fun t ht hW => ⟨⟨r44, u45, rfl, hok, by rw [ht]; exact hP, va_K.moved hW.alike hK, hD⟩, hS.F ht⟩) hS.2.2 dX9_eights_182
  have hok := hok.2
  have hok := hok ⟨c1, c4, c7, c10, c13, c16, c19, c22, c25, c28, c31, c34, c37, c40, c43⟩
  have kz45 : ∀ k ∈ ([0, 1, 2, 3, 4, 5, 6, 7, 8, 9, 10, 11, 12, 13, 14] : List Int), ((a1 >>> ((4 : Int32) &&& 31))).toInt ≠ k := List.forall_mem_cons.mpr ⟨tb_ne c1 rfl, List.forall_mem_cons.mpr ⟨tb_ne c4 rfl, List.forall_mem_cons.mpr ⟨tb_ne c7 rfl, List.forall_mem_cons.mpr ⟨tb_ne c10 rfl, List.forall_mem_cons.mpr ⟨tb_ne c13 rfl, List.forall_mem_cons.mpr ⟨tb_ne c16 rfl, List.forall_mem_cons.mpr ⟨tb_ne c19 rfl, List.forall_mem_cons.mpr ⟨tb_ne c22 rfl, List.forall_mem_cons.mpr ⟨tb_ne c25 rfl, List.forall_mem_cons.mpr ⟨tb_ne c28 rfl, List.forall_mem_cons.mpr ⟨tb_ne c31 rfl, List.forall_mem_cons.mpr ⟨tb_ne c34 rfl, List.forall_mem_cons.mpr ⟨tb_ne c37 rfl, List.forall_mem_cons.mpr ⟨tb_ne c40 rfl, List.forall_mem_cons.mpr ⟨tb_ne c43 rfl, fun k h => absurd h List.not_mem_nil⟩⟩⟩⟩⟩⟩⟩⟩⟩⟩⟩⟩⟩⟩⟩
  refine tb_def (tgt := 183) (keys := [0, 1, 2, 3, 4, 5, 6, 7, 8, 9, 10, 11, 12, 13, 14]) hx hb dX9_eights_3 kz45 (by decide) (by decide) ?_
  refine lv_aload_n hx hb dX9_eights_183 rfl (lv_at hl 0 rfl) ?_
  refine lv_bipush (v := 8) hx hb dX9_eights_184 (by decide) ?_
  refine lv_iconst (v := 1) hx hb dX9_eights_186 (by decide) ?_
  have hPc := hP
  have hDc := hD
  have hFc := va_free (wc := w_Model h cI cJ σ) hD hS hA [0, 1, 2, 3, 4, 5, 6] rfl
  refine va_calli (va_runV (As := [.int 8, .int 1]) (rest := []) ⟨hx, hb, hml, hown, hts⟩ (c_X9_flagged l dC dI cI cJ h _ hok) (cwV 2 hts (tb_gV tw_5_5 tw_5_7 tw_p_78 tw_1_9 tw_5_8) rfl rfl rfl (by decide +kernel) ⟨Nat.le_of_ble_eq_true rfl, Nat.le_of_ble_eq_true rfl⟩) (cpre_V (ci := 8) (q0 := 0) hK hPc hDc rfl rfl) rfl rfl hl.1 rfl (lv_room (Nat.le_of_ble_eq_true rfl)) dX9_eights_187 ⟨Nat.le_of_ble_eq_true rfl, Nat.le_of_ble_eq_true rfl⟩) hS (fun q _ h => hFc q h) hFc (fun r46 u47 t H1 locs ht hvm hok hB hz1 hk1 hS => ?_)
  obtain ⟨hP, hD⟩ := cjoin_w ht hB hFc
  exact W.iret (v := r46) hx hb hr (fun t ht hW => ⟨⟨r46, u47, rfl, hok, by rw [ht]; exact hP, va_K.moved hW.alike hK, hD⟩, hS.F ht⟩) hS.2.2 dX9_eights_190
def wp_X9_tens (σ : S_Model) (a1 : Int32) (Φ : Int32 → S_Model → Prop) : Prop := (((a1 >>> ((4 : Int32) &&& 31)) = 5 → (wp_X9_stacks σ 2 1 (fun r2 u3 => Φ r2 u3))) ∧ ((a1 >>> ((4 : Int32) &&& 31)) = 7 → (wp_X9_stacks σ 2 0 (fun r5 u6 => Φ r5 u6))) ∧ ((a1 >>> ((4 : Int32) &&& 31)) = 8 → (wp_X9_moved σ 0 1 (fun r8 u9 => Φ r8 u9))) ∧ ((a1 >>> ((4 : Int32) &&& 31)) = 9 → ((vp_in 1 4 ∧ ((vp_in 3 4 ∧ (Φ 2 (σ.1, σ.2.1, va_up σ.2.2 2 (upd (σ.2.2 2) (3 : Int32).toNatClampNeg ((σ.2.2 2) (1 : Int32).toNatClampNeg))))))))) ∧ ((a1 >>> ((4 : Int32) &&& 31)) = 10 → (wp_X9_moved σ 1 0 (fun r12 u13 => Φ r12 u13))) ∧ ((a1 >>> ((4 : Int32) &&& 31)) = 11 → (wp_X9_moved σ 1 3 (fun r15 u16 => Φ r15 u16))) ∧ ((a1 >>> ((4 : Int32) &&& 31)) = 12 → (wp_X9_counted σ 1 (-1) (fun r18 u19 => Φ r18 u19))) ∧ ((a1 >>> ((4 : Int32) &&& 31)) = 13 → (wp_X9_stacks σ 1 1 (fun r21 u22 => Φ r21 u22))) ∧ ((a1 >>> ((4 : Int32) &&& 31)) = 15 → (wp_X9_stacks σ 1 0 (fun r24 u25 => Φ r24 u25))) ∧ ((¬ (a1 >>> ((4 : Int32) &&& 31)) = 5 ∧ ¬ (a1 >>> ((4 : Int32) &&& 31)) = 7 ∧ ¬ (a1 >>> ((4 : Int32) &&& 31)) = 8 ∧ ¬ (a1 >>> ((4 : Int32) &&& 31)) = 9 ∧ ¬ (a1 >>> ((4 : Int32) &&& 31)) = 10 ∧ ¬ (a1 >>> ((4 : Int32) &&& 31)) = 11 ∧ ¬ (a1 >>> ((4 : Int32) &&& 31)) = 12 ∧ ¬ (a1 >>> ((4 : Int32) &&& 31)) = 13 ∧ ¬ (a1 >>> ((4 : Int32) &&& 31)) = 15) → (Φ 2 σ)))
set_option maxHeartbeats 4000000 in
set_option maxRecDepth 100000 in
theorem c_X9_tens (l : Launch) (dC : Nat → ClassId) (dI : Nat → Nat → Nat) (cI cJ : ClassId) (h : Nat → Nat) (sz : Nat) {σ : S_Model} {a1 : Int32} {Φ : Int32 → S_Model → Prop} (hok : wp_X9_tens σ a1 Φ) : Met l yX9_tens wsX9_tens ({ frames := 5, cells := 0, slots := 0, locals := 108 }) (va_Pc [.ref (h 13), .int a1] (cpre dC dI cI cJ (w_Model h cI cJ σ) sz)) (va_Qi Φ (fun u => cpost dC dI cI cJ (va_A (w_Model h cI cJ σ) sz) (w_Model h cI cJ u)) (va_A (w_Model h cI cJ σ) sz)) 0 0 (va_A (w_Model h cI cJ σ) sz) := by
  refine Met.ofW (cc := cX9_tens) (maxL := 2) (ret := (some .int)) (by decide) rfl ?_
  intro p e s m args below meth c s₁ B hml hv
  obtain ⟨rfl, hsz, hP, hK, hD0⟩ := hv
  have hx := B.exec
  have hb := B.bytes
  have hr := B.returns
  have hts := atoms_spec (ws := wsX9_tens) B.pre
  have hown : s.vm.findClass RX9 = some m.cls := findClass_of_methodNamed B.named
  have hlocks := B.notSynchronized
  subst hsz
  have hD := hD0.self (sz := s.heap.size)
  generalize hAe : va_A (w_Model h cI cJ σ) s.heap.size = A at hD ⊢
  have hA : ∀ q : Nat, s.heap.size ≤ q → A q := fun q h => by rw [← hAe]; exact Or.inr h
  clear hD0 hAe
  have hS : va_S A s.heap s.heap [] := va_S.rf
  have hl := lv_entry ([.ref (h 13), .int a1]) (n := 2) (Nat.le_of_ble_eq_true rfl)
  rw [lg_entry_eq]
  generalize (lg_sl ([.ref (h 13), .int a1]) ++ List.replicate (2 - (lg_sl ([.ref (h 13), .int a1])).length) Slot.unset).toArray = ls at hl ⊢
  have hl : lv_has ls 2 [(0, .ref (h 13)), (1, .int a1)] := hl
  unfold wp_X9_tens at hok
  refine lv_iload_n hx hb dX9_tens_0 rfl (lv_at hl 1 rfl) ?_
  refine lv_iconst (v := 4) hx hb dX9_tens_1 (by decide) ?_
  refine lv_ishr hx hb dX9_tens_2 ?_
  by_cases c1 : (a1 >>> ((4 : Int32) &&& 31)) = 5
  · have hok := hok.1 c1
    refine lv_tableIn (tgt := 60) (off := 57) hx hb dX9_tens_3 (by rw [c1]; decide) (by rw [c1]; decide) (by rw [c1]; decide) (by decide) ?_
    refine lv_aload_n hx hb dX9_tens_60 rfl (lv_at hl 0 rfl) ?_
    refine lv_iconst (v := 2) hx hb dX9_tens_61 (by decide) ?_
    refine lv_iconst (v := 1) hx hb dX9_tens_62 (by decide) ?_
    have hPc := hP
    have hDc := hD
    have hFc := va_free (wc := w_Model h cI cJ σ) hD hS hA [0, 1, 2, 3, 4, 5, 6] rfl
    refine va_calli (va_runV (As := [.int 2, .int 1]) (rest := []) ⟨hx, hb, hml, hown, hts⟩ (c_X9_stacks l dC dI cI cJ h _ hok) (cwV 2 hts (tb_gV tw_5_1 tw_5_3 tw_p_77 tw_1_9 tw_5_4) rfl rfl rfl (by decide +kernel) ⟨Nat.le_of_ble_eq_true rfl, Nat.le_of_ble_eq_true rfl⟩) (cpre_V (ci := 8) (q0 := 0) hK hPc hDc rfl rfl) rfl rfl hl.1 rfl (lv_room (Nat.le_of_ble_eq_true rfl)) dX9_tens_63 ⟨Nat.le_of_ble_eq_true rfl, Nat.le_of_ble_eq_true rfl⟩) hS (fun q _ h => hFc q h) hFc (fun r2 u3 t H1 locs ht hvm hok hB hz1 hk1 hS => ?_)
    obtain ⟨hP, hD⟩ := cjoin_w ht hB hFc
    exact W.iret (v := r2) hx hb hr (fun t ht hW => ⟨⟨r2, u3, rfl, hok, by rw [ht]; exact hP, va_K.moved hW.alike hK, hD⟩, hS.F ht⟩) hS.2.2 dX9_tens_66
  have hok := hok.2
  by_cases c4 : (a1 >>> ((4 : Int32) &&& 31)) = 7
  · have hok := hok.1 c4
    refine lv_tableIn (tgt := 67) (off := 64) hx hb dX9_tens_3 (by rw [c4]; decide) (by rw [c4]; decide) (by rw [c4]; decide) (by decide) ?_
    refine lv_aload_n hx hb dX9_tens_67 rfl (lv_at hl 0 rfl) ?_
    refine lv_iconst (v := 2) hx hb dX9_tens_68 (by decide) ?_
    refine lv_iconst (v := 0) hx hb dX9_tens_69 (by decide) ?_
    have hPc := hP
    have hDc := hD
    have hFc := va_free (wc := w_Model h cI cJ σ) hD hS hA [0, 1, 2, 3, 4, 5, 6] rfl
    refine va_calli (va_runV (As := [.int 2, .int 0]) (rest := []) ⟨hx, hb, hml, hown, hts⟩ (c_X9_stacks l dC dI cI cJ h _ hok) (cwV 2 hts (tb_gV tw_5_1 tw_5_3 tw_p_77 tw_1_9 tw_5_4) rfl rfl rfl (by decide +kernel) ⟨Nat.le_of_ble_eq_true rfl, Nat.le_of_ble_eq_true rfl⟩) (cpre_V (ci := 8) (q0 := 0) hK hPc hDc rfl rfl) rfl rfl hl.1 rfl (lv_room (Nat.le_of_ble_eq_true rfl)) dX9_tens_70 ⟨Nat.le_of_ble_eq_true rfl, Nat.le_of_ble_eq_true rfl⟩) hS (fun q _ h => hFc q h) hFc (fun r5 u6 t H1 locs ht hvm hok hB hz1 hk1 hS => ?_)
    obtain ⟨hP, hD⟩ := cjoin_w ht hB hFc
    exact W.iret (v := r5) hx hb hr (fun t ht hW => ⟨⟨r5, u6, rfl, hok, by rw [ht]; exact hP, va_K.moved hW.alike hK, hD⟩, hS.F ht⟩) hS.2.2 dX9_tens_73
  have hok := hok.2
  by_cases c7 : (a1 >>> ((4 : Int32) &&& 31)) = 8
  · have hok := hok.1 c7
    refine lv_tableIn (tgt := 74) (off := 71) hx hb dX9_tens_3 (by rw [c7]; decide) (by rw [c7]; decide) (by rw [c7]; decide) (by decide) ?_
    refine lv_aload_n hx hb dX9_tens_74 rfl (lv_at hl 0 rfl) ?_
    refine lv_iconst (v := 0) hx hb dX9_tens_75 (by decide) ?_
    refine lv_iconst (v := 1) hx hb dX9_tens_76 (by decide) ?_
    have hPc := hP
    have hDc := hD
    have hFc := va_free (wc := w_Model h cI cJ σ) hD hS hA [0, 1, 2, 3, 4, 5, 6] rfl
    refine va_calli (va_runV (As := [.int 0, .int 1]) (rest := []) ⟨hx, hb, hml, hown, hts⟩ (c_X9_moved l dC dI cI cJ h _ hok) (cwV 2 hts (tb_gV tw_5_13 tw_5_15 tw_p_80 tw_1_9 tw_5_16) rfl rfl rfl (by decide +kernel) ⟨Nat.le_of_ble_eq_true rfl, Nat.le_of_ble_eq_true rfl⟩) (cpre_V (ci := 8) (q0 := 0) hK hPc hDc rfl rfl) rfl rfl hl.1 rfl (lv_room (Nat.le_of_ble_eq_true rfl)) dX9_tens_77 ⟨Nat.le_of_ble_eq_true rfl, Nat.le_of_ble_eq_true rfl⟩) hS (fun q _ h => hFc q h) hFc (fun r8 u9 t H1 locs ht hvm hok hB hz1 hk1 hS => ?_)
    obtain ⟨hP, hD⟩ := cjoin_w ht hB hFc
    exact W.iret (v := r8) hx hb hr (fun t ht hW => ⟨⟨r8, u9, rfl, hok, by rw [ht]; exact hP, va_K.moved hW.alike hK, hD⟩, hS.F ht⟩) hS.2.2 dX9_tens_80
  have hok := hok.2
  by_cases c10 : (a1 >>> ((4 : Int32) &&& 31)) = 9
  · have hok := hok.1 c10
    refine lv_tableIn (tgt := 81) (off := 78) hx hb dX9_tens_3 (by rw [c10]; decide) (by rw [c10]; decide) (by rw [c10]; decide) (by decide) ?_
    refine lv_aload_n hx hb dX9_tens_81 rfl (lv_at hl 0 rfl) ?_
    refine va_get (D := (dC, dI)) (ci := 8) (v := .ref (h 15)) (C := RX9) (T := TX9) (N := 33) hx hb hts (fun w h => List.mem_cons_of_mem _ (in_X9 w h)) hown hK hP 0 rfl rfl 2 (by decide) (hts _ (List.mem_cons_of_mem _ tw_3_189)) (fun _ h9 => h9) rfl dX9_tens_82 ?_
    refine lv_iconst (v := 3) hx hb dX9_tens_85 (by decide) ?_
    refine lv_aload_n hx hb dX9_tens_86 rfl (lv_at hl 0 rfl) ?_
    refine va_get (D := (dC, dI)) (ci := 8) (v := .ref (h 15)) (C := RX9) (T := TX9) (N := 33) hx hb hts (fun w h => List.mem_cons_of_mem _ (in_X9 w h)) hown hK hP 0 rfl rfl 2 (by decide) (hts _ (List.mem_cons_of_mem _ tw_3_189)) (fun _ h9 => h9) rfl dX9_tens_87 ?_
    refine lv_iconst (v := 1) hx hb dX9_tens_90 (by decide) ?_
    refine va_iald hx hb hK hP 2 0 rfl rfl hok.1 dX9_tens_91 ?_
    have hok := hok.2
    refine va_iast hx hb hK hP hD hS 2 0 rfl rfl hok.1 dX9_tens_92 (fun H locs hP hD hS => ?_)
    have hok := hok.2
    have hP : va_P (dC, dI) vwCl (w_Model h cI cJ (σ.1, σ.2.1, va_up σ.2.2 2 (upd (σ.2.2 2) (3 : Int32).toNatClampNeg ((σ.2.2 2) (1 : Int32).toNatClampNeg)))) _ := hP
    have hD : va_D A (w_Model h cI cJ (σ.1, σ.2.1, va_up σ.2.2 2 (upd (σ.2.2 2) (3 : Int32).toNatClampNeg ((σ.2.2 2) (1 : Int32).toNatClampNeg)))) := hD
    refine lv_iconst (v := 2) hx hb dX9_tens_93 (by decide) ?_
    exact W.iret (v := 2) hx hb hr (fun t ht hW => ⟨⟨2, (σ.1, σ.2.1, va_up σ.2.2 2 (upd (σ.2.2 2) (3 : Int32).toNatClampNeg ((σ.2.2 2) (1 : Int32).toNatClampNeg))), rfl, hok, by rw [ht]; exact hP, va_K.moved hW.alike hK, hD⟩, hS.F ht⟩) hS.2.2 dX9_tens_94
  have hok := hok.2
  by_cases c11 : (a1 >>> ((4 : Int32) &&& 31)) = 10
  · have hok := hok.1 c11
    refine lv_tableIn (tgt := 95) (off := 92) hx hb dX9_tens_3 (by rw [c11]; decide) (by rw [c11]; decide) (by rw [c11]; decide) (by decide) ?_
    refine lv_aload_n hx hb dX9_tens_95 rfl (lv_at hl 0 rfl) ?_
    refine lv_iconst (v := 1) hx hb dX9_tens_96 (by decide) ?_
    refine lv_iconst (v := 0) hx hb dX9_tens_97 (by decide) ?_
    have hPc := hP
    have hDc := hD
    have hFc := va_free (wc := w_Model h cI cJ σ) hD hS hA [0, 1, 2, 3, 4, 5, 6] rfl
    refine va_calli (va_runV (As := [.int 1, .int 0]) (rest := []) ⟨hx, hb, hml, hown, hts⟩ (c_X9_moved l dC dI cI cJ h _ hok) (cwV 2 hts (tb_gV tw_5_13 tw_5_15 tw_p_80 tw_1_9 tw_5_16) rfl rfl rfl (by decide +kernel) ⟨Nat.le_of_ble_eq_true rfl, Nat.le_of_ble_eq_true rfl⟩) (cpre_V (ci := 8) (q0 := 0) hK hPc hDc rfl rfl) rfl rfl hl.1 rfl (lv_room (Nat.le_of_ble_eq_true rfl)) dX9_tens_98 ⟨Nat.le_of_ble_eq_true rfl, Nat.le_of_ble_eq_true rfl⟩) hS (fun q _ h => hFc q h) hFc (fun r12 u13 t H1 locs ht hvm hok hB hz1 hk1 hS => ?_)
    obtain ⟨hP, hD⟩ := cjoin_w ht hB hFc
    exact W.iret (v := r12) hx hb hr (fun t ht hW => ⟨⟨r12, u13, rfl, hok, by rw [ht]; exact hP, va_K.moved hW.alike hK, hD⟩, hS.F ht⟩) hS.2.2 dX9_tens_101
  have hok := hok.2
  by_cases c14 : (a1 >>> ((4 : Int32) &&& 31)) = 11
  · have hok := hok.1 c14
    refine lv_tableIn (tgt := 102) (off := 99) hx hb dX9_tens_3 (by rw [c14]; decide) (by rw [c14]; decide) (by rw [c14]; decide) (by decide) ?_
    refine lv_aload_n hx hb dX9_tens_102 rfl (lv_at hl 0 rfl) ?_
    refine lv_iconst (v := 1) hx hb dX9_tens_103 (by decide) ?_
    refine lv_iconst (v := 3) hx hb dX9_tens_104 (by decide) ?_
    have hPc := hP
    have hDc := hD
    have hFc := va_free (wc := w_Model h cI cJ σ) hD hS hA [0, 1, 2, 3, 4, 5, 6] rfl
    refine va_calli (va_runV (As := [.int 1, .int 3]) (rest := []) ⟨hx, hb, hml, hown, hts⟩ (c_X9_moved l dC dI cI cJ h _ hok) (cwV 2 hts (tb_gV tw_5_13 tw_5_15 tw_p_80 tw_1_9 tw_5_16) rfl rfl rfl (by decide +kernel) ⟨Nat.le_of_ble_eq_true rfl, Nat.le_of_ble_eq_true rfl⟩) (cpre_V (ci := 8) (q0 := 0) hK hPc hDc rfl rfl) rfl rfl hl.1 rfl (lv_room (Nat.le_of_ble_eq_true rfl)) dX9_tens_105 ⟨Nat.le_of_ble_eq_true rfl, Nat.le_of_ble_eq_true rfl⟩) hS (fun q _ h => hFc q h) hFc (fun r15 u16 t H1 locs ht hvm hok hB hz1 hk1 hS => ?_)
    obtain ⟨hP, hD⟩ := cjoin_w ht hB hFc
    exact W.iret (v := r15) hx hb hr (fun t ht hW => ⟨⟨r15, u16, rfl, hok, by rw [ht]; exact hP, va_K.moved hW.alike hK, hD⟩, hS.F ht⟩) hS.2.2 dX9_tens_108
  have hok := hok.2
  by_cases c17 : (a1 >>> ((4 : Int32) &&& 31)) = 12
  · have hok := hok.1 c17
    refine lv_tableIn (tgt := 109) (off := 106) hx hb dX9_tens_3 (by rw [c17]; decide) (by rw [c17]; decide) (by rw [c17]; decide) (by decide) ?_
    refine lv_aload_n hx hb dX9_tens_109 rfl (lv_at hl 0 rfl) ?_
    refine lv_iconst (v := 1) hx hb dX9_tens_110 (by decide) ?_
    refine lv_iconst (v := (-1)) hx hb dX9_tens_111 (by decide) ?_
    have hPc := hP
    have hDc := hD
    have hFc := va_free (wc := w_Model h cI cJ σ) hD hS hA [0, 1, 2, 3, 4, 5, 6] rfl
    refine va_calli (va_runV (As := [.int 1, .int (-1)]) (rest := []) ⟨hx, hb, hml, hown, hts⟩ (c_X9_counted l dC dI cI cJ h _ hok) (cwV 2 hts (tb_gV tw_5_9 tw_5_11 tw_p_79 tw_1_9 tw_5_12) rfl rfl rfl (by decide +kernel) ⟨Nat.le_of_ble_eq_true rfl, Nat.le_of_ble_eq_true rfl⟩) (cpre_V (ci := 8) (q0 := 0) hK hPc hDc rfl rfl) rfl rfl hl.1 rfl (lv_room (Nat.le_of_ble_eq_true rfl)) dX9_tens_112 ⟨Nat.le_of_ble_eq_true rfl, Nat.le_of_ble_eq_true rfl⟩) hS (fun q _ h => hFc q h) hFc (fun r18 u19 t H1 locs ht hvm hok hB hz1 hk1 hS => ?_)
    obtain ⟨hP, hD⟩ := cjoin_w ht hB hFc
    exact W.iret (v := r18) hx hb hr (fun t ht hW => ⟨⟨r18, u19, rfl, hok, by rw [ht]; exact hP, va_K.moved hW.alike hK, hD⟩, hS.F ht⟩) hS.2.2 dX9_tens_115
  have hok := hok.2
  by_cases c20 : (a1 >>> ((4 : Int32) &&& 31)) = 13
  · have hok := hok.1 c20
    refine lv_tableIn (tgt := 116) (off := 113) hx hb dX9_tens_3 (by rw [c20]; decide) (by rw [c20]; decide) (by rw [c20]; decide) (by decide) ?_
    refine lv_aload_n hx hb dX9_tens_116 rfl (lv_at hl 0 rfl) ?_
    refine lv_iconst (v := 1) hx hb dX9_tens_117 (by decide) ?_
    refine lv_iconst (v := 1) hx hb dX9_tens_118 (by decide) ?_
    have hPc := hP
    have hDc := hD
    have hFc := va_free (wc := w_Model h cI cJ σ) hD hS hA [0, 1, 2, 3, 4, 5, 6] rfl
    refine va_calli (va_runV (As := [.int 1, .int 1]) (rest := []) ⟨hx, hb, hml, hown, hts⟩ (c_X9_stacks l dC dI cI cJ h _ hok) (cwV 2 hts (tb_gV tw_5_1 tw_5_3 tw_p_77 tw_1_9 tw_5_4) rfl rfl rfl (by decide +kernel) ⟨Nat.le_of_ble_eq_true rfl, Nat.le_of_ble_eq_true rfl⟩) (cpre_V (ci := 8) (q0 := 0) hK hPc hDc rfl rfl) rfl rfl hl.1 rfl (lv_room (Nat.le_of_ble_eq_true rfl)) dX9_tens_119 ⟨Nat.le_of_ble_eq_true rfl, Nat.le_of_ble_eq_true rfl⟩) hS (fun q _ h => hFc q h) hFc (fun r21 u22 t H1 locs ht hvm hok hB hz1 hk1 hS => ?_)
    obtain ⟨hP, hD⟩ := cjoin_w ht hB hFc
    exact W.iret (v := r21) hx hb hr (fun t ht hW => ⟨⟨r21, u22, rfl, hok, by rw [ht]; exact hP, va_K.moved hW.alike hK, hD⟩, hS.F ht⟩) hS.2.2 dX9_tens_122
  have hok := hok.2
  by_cases c23 : (a1 >>> ((4 : Int32) &&& 31)) = 15
  · have hok := hok.1 c23
    refine lv_tableIn (tgt := 123) (off := 120) hx hb dX9_tens_3 (by rw [c23]; decide) (by rw [c23]; decide) (by rw [c23]; decide) (by decide) ?_
    refine lv_aload_n hx hb dX9_tens_123 rfl (lv_at hl 0 rfl) ?_
    refine lv_iconst (v := 1) hx hb dX9_tens_124 (by decide) ?_
    refine lv_iconst (v := 0) hx hb dX9_tens_125 (by decide) ?_
    have hPc := hP
    have hDc := hD
    have hFc := va_free (wc := w_Model h cI cJ σ) hD hS hA [0, 1, 2, 3, 4, 5, 6] rfl
    refine va_calli (va_runV (As := [.int 1, .int 0]) (rest := []) ⟨hx, hb, hml, hown, hts⟩ (c_X9_stacks l dC dI cI cJ h _ hok) (cwV 2 hts (tb_gV tw_5_1 tw_5_3 tw_p_77 tw_1_9 tw_5_4) rfl rfl rfl (by decide +kernel) ⟨Nat.le_of_ble_eq_true rfl, Nat.le_of_ble_eq_true rfl⟩) (cpre_V (ci := 8) (q0 := 0) hK hPc hDc rfl rfl) rfl rfl hl.1 rfl (lv_room (Nat.le_of_ble_eq_true rfl)) dX9_tens_126 ⟨Nat.le_of_ble_eq_true rfl, Nat.le_of_ble_eq_true rfl⟩) hS (fun q _ h => hFc q h) hFc (fun r24 u25 t H1 locs ht hvm hok hB hz1 hk1 hS => ?_)
    obtain ⟨hP, hD⟩ := cjoin_w ht hB hFc
    exact W.iret (v := r24) hx hb hr (fun t ht hW => ⟨⟨r24, u25, rfl, hok, by rw [ht]; exact hP, va_K.moved hW.alike hK, hD⟩, hS.F ht⟩) hS.2.2 dX9_tens_129
  have hok := hok.2
  have hok := hok ⟨c1, c4, c7, c10, c11, c14, c17, c20, c23⟩
  have kz25 : ∀ k ∈ ([5, 7, 8, 9, 10, 11, 12, 13, 15] : List Int), ((a1 >>> ((4 : Int32) &&& 31))).toInt ≠ k := List.forall_mem_cons.mpr ⟨tb_ne c1 rfl, List.forall_mem_cons.mpr ⟨tb_ne c4 rfl, List.forall_mem_cons.mpr ⟨tb_ne c7 rfl, List.forall_mem_cons.mpr ⟨tb_ne c10 rfl, List.forall_mem_cons.mpr ⟨tb_ne c11 rfl, List.forall_mem_cons.mpr ⟨tb_ne c14 rfl, List.forall_mem_cons.mpr ⟨tb_ne c17 rfl, List.forall_mem_cons.mpr ⟨tb_ne c20 rfl, List.forall_mem_cons.mpr ⟨tb_ne c23 rfl, fun k h => absurd h List.not_mem_nil⟩⟩⟩⟩⟩⟩⟩⟩⟩
  refine tb_def (tgt := 130) (keys := [5, 7, 8, 9, 10, 11, 12, 13, 15]) hx hb dX9_tens_3 kz25 (by decide) (by decide) ?_
  refine lv_iconst (v := 2) hx hb dX9_tens_130 (by decide) ?_
  exact W.iret (v := 2) hx hb hr (fun t ht hW => ⟨⟨2, σ, rfl, hok, by rw [ht]; exact hP, va_K.moved hW.alike hK, hD⟩, hS.F ht⟩) hS.2.2 dX9_tens_131
def wp_X9_halts_43 (σ : S_Model) (x1 : Int32) (s1 : Int32) (Φ : Int32 → S_Model → Prop) : Prop := ((narrow .boolean (.int s1) = .int s1 ∧ fits .boolean (.int s1) = true) ∧ (((x1 = (203 : Int32) → (Φ 3 (upd σ.1 7 s1, σ.2.1, σ.2.2))) ∧ (¬ x1 = (203 : Int32) → (((x1 = (219 : Int32) → (Φ 3 (upd σ.1 7 s1, σ.2.1, σ.2.2))) ∧ (¬ x1 = (219 : Int32) → (Φ 1 (upd σ.1 7 s1, σ.2.1, σ.2.2)))))))))
def wp_X9_halts_38 (σ : S_Model) (x1 : Int32) (Φ : Int32 → S_Model → Prop) : Prop := wp_X9_halts_43 σ x1 1 Φ
def wp_X9_halts_20 (σ : S_Model) (x1 : Int32) (s1 : Int32) (Φ : Int32 → S_Model → Prop) : Prop := ((narrow .boolean (.int s1) = .int s1 ∧ fits .boolean (.int s1) = true) ∧ ((((σ.1 7) = 0 → (((x1 = (219 : Int32) → (wp_X9_halts_38 (upd σ.1 6 s1, σ.2.1, σ.2.2) x1 Φ)) ∧ (¬ x1 = (219 : Int32) → (wp_X9_halts_43 (upd σ.1 6 s1, σ.2.1, σ.2.2) x1 0 Φ))))) ∧ (¬ (σ.1 7) = 0 → (wp_X9_halts_38 (upd σ.1 6 s1, σ.2.1, σ.2.2) x1 Φ)))))
def wp_X9_halts_15 (σ : S_Model) (x1 : Int32) (Φ : Int32 → S_Model → Prop) : Prop := wp_X9_halts_20 σ x1 1 Φ
def wp_X9_halts (σ : S_Model) (a1 : Int32) (Φ : Int32 → S_Model → Prop) : Prop := (((σ.1 6) = 0 → (((a1 = (203 : Int32) → (wp_X9_halts_15 σ a1 Φ)) ∧ (¬ a1 = (203 : Int32) → (wp_X9_halts_20 σ a1 0 Φ))))) ∧ (¬ (σ.1 6) = 0 → (wp_X9_halts_15 σ a1 Φ)))
set_option maxHeartbeats 4000000 in
set_option maxRecDepth 100000 in
theorem c_X9_halts (l : Launch) (dC : Nat → ClassId) (dI : Nat → Nat → Nat) (cI cJ : ClassId) (h : Nat → Nat) (sz : Nat) {σ : S_Model} {a1 : Int32} {Φ : Int32 → S_Model → Prop} (hok : wp_X9_halts σ a1 Φ) : Met l yX9_halts wsX9_halts ({ frames := 0, cells := 0, slots := 0, locals := 0 }) (va_Pc [.ref (h 13), .int a1] (cpre dC dI cI cJ (w_Model h cI cJ σ) sz)) (va_Qi Φ (fun u => cpost dC dI cI cJ (va_A (w_Model h cI cJ σ) sz) (w_Model h cI cJ u)) (va_A (w_Model h cI cJ σ) sz)) 0 0 (va_A (w_Model h cI cJ σ) sz) := by
  refine Met.ofW (cc := cX9_halts) (maxL := 2) (ret := (some .int)) (by decide) rfl ?_
  intro p e s m args below meth c s₁ B hml hv
  obtain ⟨rfl, hsz, hP, hK, hD0⟩ := hv
  have hx := B.exec
  have hb := B.bytes
  have hr := B.returns
  have hts := atoms_spec (ws := wsX9_halts) B.pre
  have hown : s.vm.findClass RX9 = some m.cls := findClass_of_methodNamed B.named
  have hlocks := B.notSynchronized
  subst hsz
  have hD := hD0.self (sz := s.heap.size)
  generalize hAe : va_A (w_Model h cI cJ σ) s.heap.size = A at hD ⊢
  have hA : ∀ q : Nat, s.heap.size ≤ q → A q := fun q h => by rw [← hAe]; exact Or.inr h
  clear hD0 hAe
  have hS : va_S A s.heap s.heap [] := va_S.rf
  have b43 : ∀ (σ : S_Model) (x1 : Int32) (s1 : Int32), wp_X9_halts_43 σ x1 s1 Φ → ∀ (H : Heap) (locs : List Loc), va_P (dC, dI) vwCl (w_Model h cI cJ σ) H → va_D A (w_Model h cI cJ σ) → va_S A s.heap H locs → ∀ ls : Array Slot, lv_has ls 2 [(1, .int x1)] → W p l e (headSpec wsX9_halts { frames := 0, cells := 0, slots := 0, locals := 0 }).room s m ([.ref (h 13), .int a1] : List Value).toArray below meth c H locs 0 0 (MQ below (va_Qi Φ (fun u => cpost dC dI cI cJ A (w_Model h cI cJ u)) A) ([.ref (h 13), .int a1] : List Value).toArray s 0 0 A) (F0 m 43 ls [.int s1, .ref (h 13)]) := by
    intro σ x1 s1 hok H locs hP hD hS ls hl
    unfold wp_X9_halts_43 at hok
    refine va_put (D := (dC, dI)) (ci := 8) (v := .int s1) (ty := .boolean) (C := RX9) (T := TX9) (N := 33) hx hb hts (fun w h => List.mem_cons_of_mem _ (in_X9 w h)) tyX9 tyX9_ok nmX9 hown hK hP hD hS 0 rfl rfl 7 (by decide) (hts _ (List.mem_cons_of_mem _ tw_3_194)) (fun _ h9 => h9) rfl (by decide +kernel) hok.1.1 hok.1.2 (Nat.le_of_ble_eq_true rfl) dX9_halts_43 (fun H locs hP hD hS => ?_)
    have hP : va_P (dC, dI) vwCl (w_Model h cI cJ (upd σ.1 7 s1, σ.2.1, σ.2.2)) _ := hP
    have hD : va_D A (w_Model h cI cJ (upd σ.1 7 s1, σ.2.1, σ.2.2)) := hD
    have hok := hok.2
    refine lv_iload_n hx hb dX9_halts_46 rfl (lv_at hl 0 rfl) ?_
    refine lv_sipush (v := 203) hx hb dX9_halts_47 (by decide) ?_
    refine lv_icmp_eq (tgt := 60) hx hb dX9_halts_50 (by decide) (fun c1 => ?_) (fun c1 => ?_)
    · have hok := hok.1 c1
      refine lv_iconst (v := 3) hx hb dX9_halts_60 (by decide) ?_
      refine lv_goto (tgt := 65) hx hb dX9_halts_61 (by decide) ?_
      exact W.iret (v := 3) hx hb hr (fun t ht hW => ⟨⟨3, (upd σ.1 7 s1, σ.2.1, σ.2.2), rfl, hok, by rw [ht]; exact hP, va_K.moved hW.alike hK, hD⟩, hS.F ht⟩) hS.2.2 dX9_halts_65
    · have hok := hok.2 c1
      refine lv_iload_n hx hb dX9_halts_53 rfl (lv_at hl 0 rfl) ?_
      refine lv_sipush (v := 219) hx hb dX9_halts_54 (by decide) ?_
      refine lv_icmp_ne (tgt := 64) hx hb dX9_halts_57 (by decide) (fun c2 => ?_) (fun c2 => ?_)
      · have hok := hok.2 c2
        refine lv_iconst (v := 1) hx hb dX9_halts_64 (by decide) ?_
        exact W.iret (v := 1) hx hb hr (fun t ht hW => ⟨⟨1, (upd σ.1 7 s1, σ.2.1, σ.2.2), rfl, hok, by rw [ht]; exact hP, va_K.moved hW.alike hK, hD⟩, hS.F ht⟩) hS.2.2 dX9_halts_65
      · have hok := hok.1 c2
        refine lv_iconst (v := 3) hx hb dX9_halts_60 (by decide) ?_
        refine lv_goto (tgt := 65) hx hb dX9_halts_61 (by decide) ?_
        exact W.iret (v := 3) hx hb hr (fun t ht hW => ⟨⟨3, (upd σ.1 7 s1, σ.2.1, σ.2.2), rfl, hok, by rw [ht]; exact hP, va_K.moved hW.alike hK, hD⟩, hS.F ht⟩) hS.2.2 dX9_halts_65
  have b38 : ∀ (σ : S_Model) (x1 : Int32), wp_X9_halts_38 σ x1 Φ → ∀ (H : Heap) (locs : List Loc), va_P (dC, dI) vwCl (w_Model h cI cJ σ) H → va_D A (w_Model h cI cJ σ) → va_S A s.heap H locs → ∀ ls : Array Slot, lv_has ls 2 [(1, .int x1)] → W p l e (headSpec wsX9_halts { frames := 0, cells := 0, slots := 0, locals := 0 }).room s m ([.ref (h 13), .int a1] : List Value).toArray below meth c H locs 0 0 (MQ below (va_Qi Φ (fun u => cpost dC dI cI cJ A (w_Model h cI cJ u)) A) ([.ref (h 13), .int a1] : List Value).toArray s 0 0 A) (F0 m 38 ls [.ref (h 13)]) := by
    intro σ x1 hok H locs hP hD hS ls hl
    unfold wp_X9_halts_38 at hok
    refine lv_iconst (v := 1) hx hb dX9_halts_38 (by decide) ?_
    refine lv_goto (tgt := 43) hx hb dX9_halts_39 (by decide) ?_
    exact b43 σ x1 1 hok _ _ hP hD hS _ (lv_sub hl [0] rfl)
  have b20 : ∀ (σ : S_Model) (x1 : Int32) (s1 : Int32), wp_X9_halts_20 σ x1 s1 Φ → ∀ (H : Heap) (locs : List Loc), va_P (dC, dI) vwCl (w_Model h cI cJ σ) H → va_D A (w_Model h cI cJ σ) → va_S A s.heap H locs → ∀ ls : Array Slot, lv_has ls 2 [(0, .ref (h 13)), (1, .int x1)] → W p l e (headSpec wsX9_halts { frames := 0, cells := 0, slots := 0, locals := 0 }).room s m ([.ref (h 13), .int a1] : List Value).toArray below meth c H locs 0 0 (MQ below (va_Qi Φ (fun u => cpost dC dI cI cJ A (w_Model h cI cJ u)) A) ([.ref (h 13), .int a1] : List Value).toArray s 0 0 A) (F0 m 20 ls [.int s1, .ref (h 13)]) := by
    intro σ x1 s1 hok H locs hP hD hS ls hl
    unfold wp_X9_halts_20 at hok
    refine va_put (D := (dC, dI)) (ci := 8) (v := .int s1) (ty := .boolean) (C := RX9) (T := TX9) (N := 33) hx hb hts (fun w h => List.mem_cons_of_mem _ (in_X9 w h)) tyX9 tyX9_ok nmX9 hown hK hP hD hS 0 rfl rfl 6 (by decide) (hts _ (List.mem_cons_of_mem _ tw_3_193)) (fun _ h9 => h9) rfl (by decide +kernel) hok.1.1 hok.1.2 (Nat.le_of_ble_eq_true rfl) dX9_halts_20 (fun H locs hP hD hS => ?_)
    have hP : va_P (dC, dI) vwCl (w_Model h cI cJ (upd σ.1 6 s1, σ.2.1, σ.2.2)) _ := hP
    have hD : va_D A (w_Model h cI cJ (upd σ.1 6 s1, σ.2.1, σ.2.2)) := hD
    have hok := hok.2
    refine lv_aload_n hx hb dX9_halts_23 rfl (lv_at hl 0 rfl) ?_
    refine lv_aload_n hx hb dX9_halts_24 rfl (lv_at hl 0 rfl) ?_
    refine va_get (D := (dC, dI)) (ci := 8) (v := .int (σ.1 7)) (C := RX9) (T := TX9) (N := 33) hx hb hts (fun w h => List.mem_cons_of_mem _ (in_X9 w h)) hown hK hP 0 rfl rfl 7 (by decide) (hts _ (List.mem_cons_of_mem _ tw_3_194)) (fun _ h9 => h9) rfl dX9_halts_25 ?_
    refine lv_if_ne (tgt := 38) hx hb dX9_halts_28 (by decide) (fun c3 => ?_) (fun c3 => ?_)
    · have hok := hok.2 c3
      exact b38 (upd σ.1 6 s1, σ.2.1, σ.2.2) x1 hok _ _ hP hD hS _ (lv_sub hl [1] rfl)
    · have hok := hok.1 c3
      refine lv_iload_n hx hb dX9_halts_31 rfl (lv_at hl 1 rfl) ?_
      refine lv_sipush (v := 219) hx hb dX9_halts_32 (by decide) ?_
      refine lv_icmp_ne (tgt := 42) hx hb dX9_halts_35 (by decide) (fun c4 => ?_) (fun c4 => ?_)
      · have hok := hok.2 c4
        refine lv_iconst (v := 0) hx hb dX9_halts_42 (by decide) ?_
        exact b43 (upd σ.1 6 s1, σ.2.1, σ.2.2) x1 0 hok _ _ hP hD hS _ (lv_sub hl [1] rfl)
      · have hok := hok.1 c4
        exact b38 (upd σ.1 6 s1, σ.2.1, σ.2.2) x1 hok _ _ hP hD hS _ (lv_sub hl [1] rfl)
  have b15 : ∀ (σ : S_Model) (x1 : Int32), wp_X9_halts_15 σ x1 Φ → ∀ (H : Heap) (locs : List Loc), va_P (dC, dI) vwCl (w_Model h cI cJ σ) H → va_D A (w_Model h cI cJ σ) → va_S A s.heap H locs → ∀ ls : Array Slot, lv_has ls 2 [(0, .ref (h 13)), (1, .int x1)] → W p l e (headSpec wsX9_halts { frames := 0, cells := 0, slots := 0, locals := 0 }).room s m ([.ref (h 13), .int a1] : List Value).toArray below meth c H locs 0 0 (MQ below (va_Qi Φ (fun u => cpost dC dI cI cJ A (w_Model h cI cJ u)) A) ([.ref (h 13), .int a1] : List Value).toArray s 0 0 A) (F0 m 15 ls [.ref (h 13)]) := by
    intro σ x1 hok H locs hP hD hS ls hl
    unfold wp_X9_halts_15 at hok
    refine lv_iconst (v := 1) hx hb dX9_halts_15 (by decide) ?_
    refine lv_goto (tgt := 20) hx hb dX9_halts_16 (by decide) ?_
    exact b20 σ x1 1 hok _ _ hP hD hS _ (lv_sub hl [0, 1] rfl)
  have hl := lv_entry ([.ref (h 13), .int a1]) (n := 2) (Nat.le_of_ble_eq_true rfl)
  rw [lg_entry_eq]
  generalize (lg_sl ([.ref (h 13), .int a1]) ++ List.replicate (2 - (lg_sl ([.ref (h 13), .int a1])).length) Slot.unset).toArray = ls at hl ⊢
  have hl : lv_has ls 2 [(0, .ref (h 13)), (1, .int a1)] := hl
  unfold wp_X9_halts at hok
  refine lv_aload_n hx hb dX9_halts_0 rfl (lv_at hl 0 rfl) ?_
  refine lv_aload_n hx hb dX9_halts_1 rfl (lv_at hl 0 rfl) ?_
  refine va_get (D := (dC, dI)) (ci := 8) (v := .int (σ.1 6)) (C := RX9) (T := TX9) (N := 33) hx hb hts (fun w h => List.mem_cons_of_mem _ (in_X9 w h)) hown hK hP 0 rfl rfl 6 (by decide) (hts _ (List.mem_cons_of_mem _ tw_3_193)) (fun _ h9 => h9) rfl dX9_halts_2 ?_
  refine lv_if_ne (tgt := 15) hx hb dX9_halts_5 (by decide) (fun c5 => ?_) (fun c5 => ?_)
  · have hok := hok.2 c5
    exact b15 σ a1 hok _ _ hP hD hS _ (lv_sub hl [0, 1] rfl)
  · have hok := hok.1 c5
    refine lv_iload_n hx hb dX9_halts_8 rfl (lv_at hl 1 rfl) ?_
    refine lv_sipush (v := 203) hx hb dX9_halts_9 (by decide) ?_
    refine lv_icmp_ne (tgt := 19) hx hb dX9_halts_12 (by decide) (fun c6 => ?_) (fun c6 => ?_)
    · have hok := hok.2 c6
      refine lv_iconst (v := 0) hx hb dX9_halts_19 (by decide) ?_
      exact b20 σ a1 0 hok _ _ hP hD hS _ (lv_sub hl [0, 1] rfl)
    · have hok := hok.1 c6
      exact b15 σ a1 hok _ _ hP hD hS _ (lv_sub hl [0, 1] rfl)
def wp_X9_instruction_140 (σ : S_Model) (x1 : Int32) (s0 : Int32) (Φ : Int32 → S_Model → Prop) : Prop := (((x1 &&& (15 : Int32)) = 0 → (((s0 = 0 → (((x1 = (128 : Int32) → (wp_X9_branch σ x1 (fun r17 u18 => Φ r17 u18))) ∧ (¬ x1 = (128 : Int32) → ((((128 : Int32) ≤ x1 → (((x1 = (160 : Int32) → (wp_X9_loaded σ 2 0 (fun r13 u14 => Φ r13 u14))) ∧ (¬ x1 = (160 : Int32) → (((x1 = (192 : Int32) → (wp_X9_compared σ 2 0 (fun r11 u12 => Φ r11 u12))) ∧ (¬ x1 = (192 : Int32) → (wp_X9_compared σ 1 0 (fun r9 u10 => Φ r9 u10))))))))) ∧ (¬ (128 : Int32) ≤ x1 → (wp_X9_calls σ x1 (fun r15 u16 => Φ r15 u16))))))))) ∧ (¬ s0 = 0 → (wp_X9_branch σ x1 (fun r3 u4 => Φ r3 u4)))))) ∧ ((x1 &&& (15 : Int32)) = 2 → (((s0 = 0 → (((x1 = (162 : Int32) → (wp_X9_loaded σ 1 0 (fun r22 u23 => Φ r22 u23))) ∧ (¬ x1 = (162 : Int32) → (Φ 2 σ))))) ∧ (¬ s0 = 0 → (wp_X9_alu σ x1 (fun r24 u25 => Φ r24 u25)))))) ∧ ((x1 &&& (15 : Int32)) = 3 → (wp_X9_halts σ x1 (fun r27 u28 => Φ r27 u28))) ∧ ((x1 &&& (15 : Int32)) = 4 → (wp_X9_fours σ x1 (fun r30 u31 => Φ r30 u31))) ∧ ((x1 &&& (15 : Int32)) = 6 → (wp_X9_shifts σ x1 (fun r33 u34 => Φ r33 u34))) ∧ ((x1 &&& (15 : Int32)) = 7 → (wp_X9_single σ x1 (fun r36 u37 => Φ r36 u37))) ∧ ((x1 &&& (15 : Int32)) = 8 → (wp_X9_eights σ x1 (fun r39 u40 => Φ r39 u40))) ∧ ((x1 &&& (15 : Int32)) = 9 → (((x1 = (137 : Int32) → (wp_X9_bits σ 0 (fun r45 u46 => Φ r45 u46))) ∧ (¬ x1 = (137 : Int32) → (wp_X9_alu σ x1 (fun r43 u44 => Φ r43 u44)))))) ∧ ((x1 &&& (15 : Int32)) = 10 → (((x1 < (80 : Int32) → (wp_X9_shifts σ x1 (fun r49 u50 => Φ r49 u50))) ∧ (¬ x1 < (80 : Int32) → (((x1 = (106 : Int32) → (wp_X9_shifts σ x1 (fun r54 u55 => Φ r54 u55))) ∧ (¬ x1 = (106 : Int32) → (wp_X9_tens σ x1 (fun r52 u53 => Φ r52 u53))))))))) ∧ ((x1 &&& (15 : Int32)) = 11 → (wp_X9_halts σ x1 (fun r57 u58 => Φ r57 u58))) ∧ ((x1 &&& (15 : Int32)) = 12 → (wp_X9_fours σ x1 (fun r60 u61 => Φ r60 u61))) ∧ ((x1 &&& (15 : Int32)) = 14 → (((x1 = (158 : Int32) → (wp_X9_zeroed σ 5 (fun r66 u67 => Φ r66 u67))) ∧ (¬ x1 = (158 : Int32) → (wp_X9_shifts σ x1 (fun r64 u65 => Φ r64 u65)))))) ∧ ((x1 &&& (15 : Int32)) = 15 → (wp_X9_single σ x1 (fun r69 u70 => Φ r69 u70))) ∧ ((¬ (x1 &&& (15 : Int32)) = 0 ∧ ¬ (x1 &&& (15 : Int32)) = 2 ∧ ¬ (x1 &&& (15 : Int32)) = 3 ∧ ¬ (x1 &&& (15 : Int32)) = 4 ∧ ¬ (x1 &&& (15 : Int32)) = 6 ∧ ¬ (x1 &&& (15 : Int32)) = 7 ∧ ¬ (x1 &&& (15 : Int32)) = 8 ∧ ¬ (x1 &&& (15 : Int32)) = 9 ∧ ¬ (x1 &&& (15 : Int32)) = 10 ∧ ¬ (x1 &&& (15 : Int32)) = 11 ∧ ¬ (x1 &&& (15 : Int32)) = 12 ∧ ¬ (x1 &&& (15 : Int32)) = 14 ∧ ¬ (x1 &&& (15 : Int32)) = 15) → (wp_X9_alu σ x1 (fun r71 u72 => Φ r71 u72))))
def wp_X9_instruction_110 (σ : S_Model) (x1 : Int32) (x2 : Int32) (s1 : Int32) (Φ : Int32 → S_Model → Prop) : Prop := ∀ v73 : Int32, v73 = (x1 >>> ((4 : Int32) &&& 31)) &&& (1 : Int32) → ((v73 = (1 : Int32) → (wp_X9_instruction_140 (upd (upd σ.1 10 s1) 4 (((σ.1 4) + x2) &&& (65535 : Int32)), σ.2.1, σ.2.2) x1 1 Φ)) ∧ (¬ v73 = (1 : Int32) → (wp_X9_instruction_140 (upd (upd σ.1 10 s1) 4 (((σ.1 4) + x2) &&& (65535 : Int32)), σ.2.1, σ.2.2) x1 0 Φ)))
def wp_X9_instruction_73 (σ : S_Model) (x1 : Int32) (x2 : Int32) (s1 : Int32) (Φ : Int32 → S_Model → Prop) : Prop := ((x2 ≤ (2 : Int32) → (wp_X9_instruction_110 (upd σ.1 9 s1, σ.2.1, σ.2.2) x1 x2 s1 Φ)) ∧ (¬ x2 ≤ (2 : Int32) → (wp_X9_read (upd σ.1 9 s1, σ.2.1, σ.2.2) (((σ.1 4) + (2 : Int32)) &&& (65535 : Int32)) (fun r76 u77 => wp_X9_instruction_110 u77 x1 x2 (s1 ||| (r76 <<< ((8 : Int32) &&& 31))) Φ))))
def wp_X9_instruction (σ : S_Model) (Φ : Int32 → S_Model → Prop) : Prop := ∀ v78 : Int32, v78 = (σ.1 30) - (σ.1 30) / (32 : Int32) * (32 : Int32) → (vp_in v78 32 ∧ (wp_X9_read (upd σ.1 30 ((σ.1 30) + (1 : Int32)), vp_updL σ.2.1 27 ((σ.2.1 27) + (1 : Int64)), va_up σ.2.2 32 (upd (σ.2.2 32) v78.toNatClampNeg (σ.1 4))) (σ.1 4) (fun r79 u80 => wp_X9_size r79 (fun r81 => ((r81 ≤ (1 : Int32) → (wp_X9_instruction_73 u80 r79 r81 0 Φ)) ∧ (¬ r81 ≤ (1 : Int32) → (∀ v83 : Int32, v83 = ((u80.1 4) + (1 : Int32)) &&& (65535 : Int32) → wp_X9_read u80 v83 (fun r84 u85 => wp_X9_instruction_73 u85 r79 r81 r84 Φ))))))))
set_option maxHeartbeats 4000000 in
set_option maxRecDepth 100000 in
theorem c_X9_instruction (l : Launch) (dC : Nat → ClassId) (dI : Nat → Nat → Nat) (cI cJ : ClassId) (h : Nat → Nat) (sz : Nat) {σ : S_Model} {Φ : Int32 → S_Model → Prop} (hok : wp_X9_instruction σ Φ) : Met l yX9_instruction wsX9_instruction ({ frames := 8, cells := 0, slots := 0, locals := 174 }) (va_Pc [.ref (h 13)] (cpre dC dI cI cJ (w_Model h cI cJ σ) sz)) (va_Qi Φ (fun u => cpost dC dI cI cJ (va_A (w_Model h cI cJ σ) sz) (w_Model h cI cJ u)) (va_A (w_Model h cI cJ σ) sz)) 0 0 (va_A (w_Model h cI cJ σ) sz) := by
  refine Met.ofW (cc := cX9_instruction) (maxL := 4) (ret := (some .int)) (by decide) rfl ?_
  intro p e s m args below meth c s₁ B hml hv
  obtain ⟨rfl, hsz, hP, hK, hD0⟩ := hv
  have hx := B.exec
  have hb := B.bytes
  have hr := B.returns
  have hts := atoms_spec (ws := wsX9_instruction) B.pre
  have hown : s.vm.findClass RX9 = some m.cls := findClass_of_methodNamed B.named
  have hlocks := B.notSynchronized
  subst hsz
  have hD := hD0.self (sz := s.heap.size)
  generalize hAe : va_A (w_Model h cI cJ σ) s.heap.size = A at hD ⊢
  have hA : ∀ q : Nat, s.heap.size ≤ q → A q := fun q h => by rw [← hAe]; exact Or.inr h
  clear hD0 hAe
  have hS : va_S A s.heap s.heap [] := va_S.rf
  have b140 : ∀ (σ : S_Model) (x1 : Int32) (s0 : Int32), wp_X9_instruction_140 σ x1 s0 Φ → ∀ (H : Heap) (locs : List Loc), va_P (dC, dI) vwCl (w_Model h cI cJ σ) H → va_D A (w_Model h cI cJ σ) → va_S A s.heap H locs → ∀ ls : Array Slot, lv_has ls 4 [(0, .ref (h 13)), (1, .int x1)] → W p l e (headSpec wsX9_instruction { frames := 8, cells := 0, slots := 0, locals := 174 }).room s m ([.ref (h 13)] : List Value).toArray below meth c H locs 0 0 (MQ below (va_Qi Φ (fun u => cpost dC dI cI cJ A (w_Model h cI cJ u)) A) ([.ref (h 13)] : List Value).toArray s 0 0 A) (F0 m 140 ls [.int s0]) := by
    intro σ x1 s0 hok H locs hP hD hS ls hl
    unfold wp_X9_instruction_140 at hok
    refine lv_istore_n (lv' := [(3, .int s0), (0, .ref (h 13)), (1, .int x1)]) hx hb dX9_instruction_140 rfl hl (by decide) rfl (fun ls hl => ?_)
    refine lv_iload_n hx hb dX9_instruction_141 rfl (lv_at hl 2 rfl) ?_
    refine lv_bipush (v := 15) hx hb dX9_instruction_142 (by decide) ?_
    refine lv_iand hx hb dX9_instruction_144 ?_
    by_cases c1 : (x1 &&& (15 : Int32)) = 0
    · have hok := hok.1 c1
      refine lv_tableIn (tgt := 224) (off := 79) hx hb dX9_instruction_145 (by rw [c1]; decide) (by rw [c1]; decide) (by rw [c1]; decide) (by decide) ?_
      refine lv_iload_n hx hb dX9_instruction_224 rfl (lv_at hl 0 rfl) ?_
      refine lv_if_ne (tgt := 235) hx hb dX9_instruction_225 (by decide) (fun c2 => ?_) (fun c2 => ?_)
      · have hok := hok.2 c2
        refine lv_aload_n hx hb dX9_instruction_235 rfl (lv_at hl 1 rfl) ?_
        refine lv_iload_n hx hb dX9_instruction_236 rfl (lv_at hl 2 rfl) ?_
        have hPc := hP
        have hDc := hD
        have hFc := va_free (wc := w_Model h cI cJ σ) hD hS hA [0, 1, 2, 3, 4, 5, 6] rfl
        refine va_calli (va_runV (As := [.int x1]) (rest := []) ⟨hx, hb, hml, hown, hts⟩ (c_X9_branch l dC dI cI cJ h _ hok) (cwV 1 hts (tb_gV tw_4_124 tw_4_126 tw_p_50 tw_1_9 tw_4_127) rfl rfl rfl (by decide +kernel) ⟨Nat.le_of_ble_eq_true rfl, Nat.le_of_ble_eq_true rfl⟩) (cpre_V (ci := 8) (q0 := 0) hK hPc hDc rfl rfl) rfl rfl hl.1 rfl (lv_room (Nat.le_of_ble_eq_true rfl)) dX9_instruction_237 ⟨Nat.le_of_ble_eq_true rfl, Nat.le_of_ble_eq_true rfl⟩) hS (fun q _ h => hFc q h) hFc (fun r3 u4 t H1 locs ht hvm hok hB hz1 hk1 hS => ?_)
        obtain ⟨hP, hD⟩ := cjoin_w ht hB hFc
        refine lv_goto (tgt := 291) hx hb dX9_instruction_240 (by decide) ?_
        exact W.iret (v := r3) hx hb hr (fun t ht hW => ⟨⟨r3, u4, rfl, hok, by rw [ht]; exact hP, va_K.moved hW.alike hK, hD⟩, hS.F ht⟩) hS.2.2 dX9_instruction_291
      · have hok := hok.1 c2
        refine lv_iload_n hx hb dX9_instruction_228 rfl (lv_at hl 2 rfl) ?_
        refine lv_sipush (v := 128) hx hb dX9_instruction_229 (by decide) ?_
        refine lv_icmp_ne (tgt := 243) hx hb dX9_instruction_232 (by decide) (fun c5 => ?_) (fun c5 => ?_)
        · have hok := hok.2 c5
          refine lv_iload_n hx hb dX9_instruction_243 rfl (lv_at hl 2 rfl) ?_
          refine lv_sipush (v := 128) hx hb dX9_instruction_244 (by decide) ?_
          refine lv_icmp_ge (tgt := 258) hx hb dX9_instruction_247 (by decide) (fun c6 => ?_) (fun c6 => ?_)
          · have hok := hok.1 c6
            refine lv_iload_n hx hb dX9_instruction_258 rfl (lv_at hl 2 rfl) ?_
            refine lv_sipush (v := 160) hx hb dX9_instruction_259 (by decide) ?_
            refine lv_icmp_ne (tgt := 274) hx hb dX9_instruction_262 (by decide) (fun c7 => ?_) (fun c7 => ?_)
            · have hok := hok.2 c7
              refine lv_aload_n hx hb dX9_instruction_274 rfl (lv_at hl 1 rfl) ?_
              refine lv_iload_n hx hb dX9_instruction_275 rfl (lv_at hl 2 rfl) ?_
              refine lv_sipush (v := 192) hx hb dX9_instruction_276 (by decide) ?_
              refine lv_icmp_ne (tgt := 286) hx hb dX9_instruction_279 (by decide) (fun c8 => ?_) (fun c8 => ?_)
              · have hok := hok.2 c8
                refine lv_iconst (v := 1) hx hb dX9_instruction_286 (by decide) ?_
                refine lv_iconst (v := 0) hx hb dX9_instruction_287 (by decide) ?_
                have hPc := hP
                have hDc := hD
                have hFc := va_free (wc := w_Model h cI cJ σ) hD hS hA [0, 1, 2, 3, 4, 5, 6] rfl
                refine va_calli (va_runV (As := [.int 1, .int 0]) (rest := []) ⟨hx, hb, hml, hown, hts⟩ (c_X9_compared l dC dI cI cJ h _ hok) (cwV 2 hts (tb_gV tw_4_167 tw_4_169 tw_p_60 tw_1_9 tw_4_170) rfl rfl rfl (by decide +kernel) ⟨Nat.le_of_ble_eq_true rfl, Nat.le_of_ble_eq_true rfl⟩) (cpre_V (ci := 8) (q0 := 0) hK hPc hDc rfl rfl) rfl rfl hl.1 rfl (lv_room (Nat.le_of_ble_eq_true rfl)) dX9_instruction_288 ⟨Nat.le_of_ble_eq_true rfl, Nat.le_of_ble_eq_true rfl⟩) hS (fun q _ h => hFc q h) hFc (fun r9 u10 t H1 locs ht hvm hok hB hz1 hk1 hS => ?_)
                obtain ⟨hP, hD⟩ := cjoin_w ht hB hFc
                exact W.iret (v := r9) hx hb hr (fun t ht hW => ⟨⟨r9, u10, rfl, hok, by rw [ht]; exact hP, va_K.moved hW.alike hK, hD⟩, hS.F ht⟩) hS.2.2 dX9_instruction_291
              · have hok := hok.1 c8
                refine lv_iconst (v := 2) hx hb dX9_instruction_282 (by decide) ?_
                refine lv_goto (tgt := 287) hx hb dX9_instruction_283 (by decide) ?_
                refine lv_iconst (v := 0) hx hb dX9_instruction_287 (by decide) ?_
                have hPc := hP
                have hDc := hD
                have hFc := va_free (wc := w_Model h cI cJ σ) hD hS hA [0, 1, 2, 3, 4, 5, 6] rfl
                refine va_calli (va_runV (As := [.int 2, .int 0]) (rest := []) ⟨hx, hb, hml, hown, hts⟩ (c_X9_compared l dC dI cI cJ h _ hok) (cwV 2 hts (tb_gV tw_4_167 tw_4_169 tw_p_60 tw_1_9 tw_4_170) rfl rfl rfl (by decide +kernel) ⟨Nat.le_of_ble_eq_true rfl, Nat.le_of_ble_eq_true rfl⟩) (cpre_V (ci := 8) (q0 := 0) hK hPc hDc rfl rfl) rfl rfl hl.1 rfl (lv_room (Nat.le_of_ble_eq_true rfl)) dX9_instruction_288 ⟨Nat.le_of_ble_eq_true rfl, Nat.le_of_ble_eq_true rfl⟩) hS (fun q _ h => hFc q h) hFc (fun r11 u12 t H1 locs ht hvm hok hB hz1 hk1 hS => ?_)
                obtain ⟨hP, hD⟩ := cjoin_w ht hB hFc
                exact W.iret (v := r11) hx hb hr (fun t ht hW => ⟨⟨r11, u12, rfl, hok, by rw [ht]; exact hP, va_K.moved hW.alike hK, hD⟩, hS.F ht⟩) hS.2.2 dX9_instruction_291
            · have hok := hok.1 c7
              refine lv_aload_n hx hb dX9_instruction_265 rfl (lv_at hl 1 rfl) ?_
              refine lv_iconst (v := 2) hx hb dX9_instruction_266 (by decide) ?_
              refine lv_iconst (v := 0) hx hb dX9_instruction_267 (by decide) ?_
              have hPc := hP
              have hDc := hD
              have hFc := va_free (wc := w_Model h cI cJ σ) hD hS hA [0, 1, 2, 3, 4, 5, 6] rfl
              refine va_calli (va_runV (As := [.int 2, .int 0]) (rest := []) ⟨hx, hb, hml, hown, hts⟩ (c_X9_loaded l dC dI cI cJ h _ hok) (cwV 2 hts (tb_gV tw_4_140 tw_4_142 tw_p_54 tw_1_9 tw_4_143) rfl rfl rfl (by decide +kernel) ⟨Nat.le_of_ble_eq_true rfl, Nat.le_of_ble_eq_true rfl⟩) (cpre_V (ci := 8) (q0 := 0) hK hPc hDc rfl rfl) rfl rfl hl.1 rfl (lv_room (Nat.le_of_ble_eq_true rfl)) dX9_instruction_268 ⟨Nat.le_of_ble_eq_true rfl, Nat.le_of_ble_eq_true rfl⟩) hS (fun q _ h => hFc q h) hFc (fun r13 u14 t H1 locs ht hvm hok hB hz1 hk1 hS => ?_)
              obtain ⟨hP, hD⟩ := cjoin_w ht hB hFc
              refine lv_goto (tgt := 291) hx hb dX9_instruction_271 (by decide) ?_
              exact W.iret (v := r13) hx hb hr (fun t ht hW => ⟨⟨r13, u14, rfl, hok, by rw [ht]; exact hP, va_K.moved hW.alike hK, hD⟩, hS.F ht⟩) hS.2.2 dX9_instruction_291
          · have hok := hok.2 c6
            refine lv_aload_n hx hb dX9_instruction_250 rfl (lv_at hl 1 rfl) ?_
            refine lv_iload_n hx hb dX9_instruction_251 rfl (lv_at hl 2 rfl) ?_
            have hPc := hP
            have hDc := hD
            have hFc := va_free (wc := w_Model h cI cJ σ) hD hS hA [0, 1, 2, 3, 4, 5, 6] rfl
            refine va_calli (va_runV (As := [.int x1]) (rest := []) ⟨hx, hb, hml, hown, hts⟩ (c_X9_calls l dC dI cI cJ h _ hok) (cwV 1 hts (tb_gV tw_4_132 tw_4_134 tw_p_52 tw_1_9 tw_4_135) rfl rfl rfl (by decide +kernel) ⟨Nat.le_of_ble_eq_true rfl, Nat.le_of_ble_eq_true rfl⟩) (cpre_V (ci := 8) (q0 := 0) hK hPc hDc rfl rfl) rfl rfl hl.1 rfl (lv_room (Nat.le_of_ble_eq_true rfl)) dX9_instruction_252 ⟨Nat.le_of_ble_eq_true rfl, Nat.le_of_ble_eq_true rfl⟩) hS (fun q _ h => hFc q h) hFc (fun r15 u16 t H1 locs ht hvm hok hB hz1 hk1 hS => ?_)
            obtain ⟨hP, hD⟩ := cjoin_w ht hB hFc
            refine lv_goto (tgt := 291) hx hb dX9_instruction_255 (by decide) ?_
            exact W.iret (v := r15) hx hb hr (fun t ht hW => ⟨⟨r15, u16, rfl, hok, by rw [ht]; exact hP, va_K.moved hW.alike hK, hD⟩, hS.F ht⟩) hS.2.2 dX9_instruction_291
        · have hok := hok.1 c5
          refine lv_aload_n hx hb dX9_instruction_235 rfl (lv_at hl 1 rfl) ?_
          refine lv_iload_n hx hb dX9_instruction_236 rfl (lv_at hl 2 rfl) ?_
          have hPc := hP
          have hDc := hD
          have hFc := va_free (wc := w_Model h cI cJ σ) hD hS hA [0, 1, 2, 3, 4, 5, 6] rfl
          refine va_calli (va_runV (As := [.int x1]) (rest := []) ⟨hx, hb, hml, hown, hts⟩ (c_X9_branch l dC dI cI cJ h _ hok) (cwV 1 hts (tb_gV tw_4_124 tw_4_126 tw_p_50 tw_1_9 tw_4_127) rfl rfl rfl (by decide +kernel) ⟨Nat.le_of_ble_eq_true rfl, Nat.le_of_ble_eq_true rfl⟩) (cpre_V (ci := 8) (q0 := 0) hK hPc hDc rfl rfl) rfl rfl hl.1 rfl (lv_room (Nat.le_of_ble_eq_true rfl)) dX9_instruction_237 ⟨Nat.le_of_ble_eq_true rfl, Nat.le_of_ble_eq_true rfl⟩) hS (fun q _ h => hFc q h) hFc (fun r17 u18 t H1 locs ht hvm hok hB hz1 hk1 hS => ?_)
          obtain ⟨hP, hD⟩ := cjoin_w ht hB hFc
          refine lv_goto (tgt := 291) hx hb dX9_instruction_240 (by decide) ?_
          exact W.iret (v := r17) hx hb hr (fun t ht hW => ⟨⟨r17, u18, rfl, hok, by rw [ht]; exact hP, va_K.moved hW.alike hK, hD⟩, hS.F ht⟩) hS.2.2 dX9_instruction_291
    have hok := hok.2
    by_cases c19 : (x1 &&& (15 : Int32)) = 2
    · have hok := hok.1 c19
      refine lv_tableIn (tgt := 292) (off := 147) hx hb dX9_instruction_145 (by rw [c19]; decide) (by rw [c19]; decide) (by rw [c19]; decide) (by decide) ?_
      refine lv_iload_n hx hb dX9_instruction_292 rfl (lv_at hl 0 rfl) ?_
      refine lv_if_eq (tgt := 304) hx hb dX9_instruction_293 (by decide) (fun c20 => ?_) (fun c20 => ?_)
      · have hok := hok.1 c20
        refine lv_iload_n hx hb dX9_instruction_304 rfl (lv_at hl 2 rfl) ?_
        refine lv_sipush (v := 162) hx hb dX9_instruction_305 (by decide) ?_
        refine lv_icmp_ne (tgt := 320) hx hb dX9_instruction_308 (by decide) (fun c21 => ?_) (fun c21 => ?_)
        · have hok := hok.2 c21
          refine lv_iconst (v := 2) hx hb dX9_instruction_320 (by decide) ?_
          exact W.iret (v := 2) hx hb hr (fun t ht hW => ⟨⟨2, σ, rfl, hok, by rw [ht]; exact hP, va_K.moved hW.alike hK, hD⟩, hS.F ht⟩) hS.2.2 dX9_instruction_321
        · have hok := hok.1 c21
          refine lv_aload_n hx hb dX9_instruction_311 rfl (lv_at hl 1 rfl) ?_
          refine lv_iconst (v := 1) hx hb dX9_instruction_312 (by decide) ?_
          refine lv_iconst (v := 0) hx hb dX9_instruction_313 (by decide) ?_
          have hPc := hP
          have hDc := hD
          have hFc := va_free (wc := w_Model h cI cJ σ) hD hS hA [0, 1, 2, 3, 4, 5, 6] rfl
          refine va_calli (va_runV (As := [.int 1, .int 0]) (rest := []) ⟨hx, hb, hml, hown, hts⟩ (c_X9_loaded l dC dI cI cJ h _ hok) (cwV 2 hts (tb_gV tw_4_140 tw_4_142 tw_p_54 tw_1_9 tw_4_143) rfl rfl rfl (by decide +kernel) ⟨Nat.le_of_ble_eq_true rfl, Nat.le_of_ble_eq_true rfl⟩) (cpre_V (ci := 8) (q0 := 0) hK hPc hDc rfl rfl) rfl rfl hl.1 rfl (lv_room (Nat.le_of_ble_eq_true rfl)) dX9_instruction_314 ⟨Nat.le_of_ble_eq_true rfl, Nat.le_of_ble_eq_true rfl⟩) hS (fun q _ h => hFc q h) hFc (fun r22 u23 t H1 locs ht hvm hok hB hz1 hk1 hS => ?_)
          obtain ⟨hP, hD⟩ := cjoin_w ht hB hFc
          refine lv_goto (tgt := 321) hx hb dX9_instruction_317 (by decide) ?_
          exact W.iret (v := r22) hx hb hr (fun t ht hW => ⟨⟨r22, u23, rfl, hok, by rw [ht]; exact hP, va_K.moved hW.alike hK, hD⟩, hS.F ht⟩) hS.2.2 dX9_instruction_321
      · have hok := hok.2 c20
        refine lv_aload_n hx hb dX9_instruction_296 rfl (lv_at hl 1 rfl) ?_
        refine lv_iload_n hx hb dX9_instruction_297 rfl (lv_at hl 2 rfl) ?_
        have hPc := hP
        have hDc := hD
        have hFc := va_free (wc := w_Model h cI cJ σ) hD hS hA [0, 1, 2, 3, 4, 5, 6] rfl
        refine va_calli (va_runV (As := [.int x1]) (rest := []) ⟨hx, hb, hml, hown, hts⟩ (c_X9_alu l dC dI cI cJ h _ hok) (cwV 1 hts (tb_gV tw_4_175 tw_4_177 tw_p_62 tw_1_9 tw_4_178) rfl rfl rfl (by decide +kernel) ⟨Nat.le_of_ble_eq_true rfl, Nat.le_of_ble_eq_true rfl⟩) (cpre_V (ci := 8) (q0 := 0) hK hPc hDc rfl rfl) rfl rfl hl.1 rfl (lv_room (Nat.le_of_ble_eq_true rfl)) dX9_instruction_298 ⟨Nat.le_of_ble_eq_true rfl, Nat.le_of_ble_eq_true rfl⟩) hS (fun q _ h => hFc q h) hFc (fun r24 u25 t H1 locs ht hvm hok hB hz1 hk1 hS => ?_)
        obtain ⟨hP, hD⟩ := cjoin_w ht hB hFc
        refine lv_goto (tgt := 321) hx hb dX9_instruction_301 (by decide) ?_
        exact W.iret (v := r24) hx hb hr (fun t ht hW => ⟨⟨r24, u25, rfl, hok, by rw [ht]; exact hP, va_K.moved hW.alike hK, hD⟩, hS.F ht⟩) hS.2.2 dX9_instruction_321
    have hok := hok.2
    by_cases c26 : (x1 &&& (15 : Int32)) = 3
    · have hok := hok.1 c26
      refine lv_tableIn (tgt := 322) (off := 177) hx hb dX9_instruction_145 (by rw [c26]; decide) (by rw [c26]; decide) (by rw [c26]; decide) (by decide) ?_
      refine lv_aload_n hx hb dX9_instruction_322 rfl (lv_at hl 1 rfl) ?_
      refine lv_iload_n hx hb dX9_instruction_323 rfl (lv_at hl 2 rfl) ?_
      have hPc := hP
      have hDc := hD
      have hFc := va_free (wc := w_Model h cI cJ σ) hD hS hA [0, 1, 2, 3, 4, 5, 6] rfl
      refine va_calli (va_runV (As := [.int x1]) (rest := []) ⟨hx, hb, hml, hown, hts⟩ (c_X9_halts l dC dI cI cJ h _ hok) (cwV 1 hts (tb_gV tw_4_198 tw_4_200 tw_p_67 tw_1_9 tw_4_201) rfl rfl rfl (by decide +kernel) ⟨Nat.le_of_ble_eq_true rfl, Nat.le_of_ble_eq_true rfl⟩) (cpre_V (ci := 8) (q0 := 0) hK hPc hDc rfl rfl) rfl rfl hl.1 rfl (lv_room (Nat.le_of_ble_eq_true rfl)) dX9_instruction_324 ⟨Nat.le_of_ble_eq_true rfl, Nat.le_of_ble_eq_true rfl⟩) hS (fun q _ h => hFc q h) hFc (fun r27 u28 t H1 locs ht hvm hok hB hz1 hk1 hS => ?_)
      obtain ⟨hP, hD⟩ := cjoin_w ht hB hFc
      exact W.iret (v := r27) hx hb hr (fun t ht hW => ⟨⟨r27, u28, rfl, hok, by rw [ht]; exact hP, va_K.moved hW.alike hK, hD⟩, hS.F ht⟩) hS.2.2 dX9_instruction_327
    have hok := hok.2
    by_cases c29 : (x1 &&& (15 : Int32)) = 4
    · have hok := hok.1 c29
      refine lv_tableIn (tgt := 328) (off := 183) hx hb dX9_instruction_145 (by rw [c29]; decide) (by rw [c29]; decide) (by rw [c29]; decide) (by decide) ?_
      refine lv_aload_n hx hb dX9_instruction_328 rfl (lv_at hl 1 rfl) ?_
      refine lv_iload_n hx hb dX9_instruction_329 rfl (lv_at hl 2 rfl) ?_
      have hPc := hP
      have hDc := hD
      have hFc := va_free (wc := w_Model h cI cJ σ) hD hS hA [0, 1, 2, 3, 4, 5, 6] rfl
      refine va_calli (va_runV (As := [.int x1]) (rest := []) ⟨hx, hb, hml, hown, hts⟩ (c_X9_fours l dC dI cI cJ h _ hok) (cwV 1 hts (tb_gV tw_4_202 tw_4_204 tw_p_68 tw_1_9 tw_4_205) rfl rfl rfl (by decide +kernel) ⟨Nat.le_of_ble_eq_true rfl, Nat.le_of_ble_eq_true rfl⟩) (cpre_V (ci := 8) (q0 := 0) hK hPc hDc rfl rfl) rfl rfl hl.1 rfl (lv_room (Nat.le_of_ble_eq_true rfl)) dX9_instruction_330 ⟨Nat.le_of_ble_eq_true rfl, Nat.le_of_ble_eq_true rfl⟩) hS (fun q _ h => hFc q h) hFc (fun r30 u31 t H1 locs ht hvm hok hB hz1 hk1 hS => ?_)
      obtain ⟨hP, hD⟩ := cjoin_w ht hB hFc
      exact W.iret (v := r30) hx hb hr (fun t ht hW => ⟨⟨r30, u31, rfl, hok, by rw [ht]; exact hP, va_K.moved hW.alike hK, hD⟩, hS.F ht⟩) hS.2.2 dX9_instruction_333
    have hok := hok.2
    by_cases c32 : (x1 &&& (15 : Int32)) = 6
    · have hok := hok.1 c32
      refine lv_tableIn (tgt := 334) (off := 189) hx hb dX9_instruction_145 (by rw [c32]; decide) (by rw [c32]; decide) (by rw [c32]; decide) (by decide) ?_
      refine lv_aload_n hx hb dX9_instruction_334 rfl (lv_at hl 1 rfl) ?_
      refine lv_iload_n hx hb dX9_instruction_335 rfl (lv_at hl 2 rfl) ?_
      have hPc := hP
      have hDc := hD
      have hFc := va_free (wc := w_Model h cI cJ σ) hD hS hA [0, 1, 2, 3, 4, 5, 6] rfl
      refine va_calli (va_runV (As := [.int x1]) (rest := []) ⟨hx, hb, hml, hown, hts⟩ (c_X9_shifts l dC dI cI cJ h _ hok) (cwV 1 hts (tb_gV tw_4_221 tw_4_223 tw_p_72 tw_1_9 tw_4_224) rfl rfl rfl (by decide +kernel) ⟨Nat.le_of_ble_eq_true rfl, Nat.le_of_ble_eq_true rfl⟩) (cpre_V (ci := 8) (q0 := 0) hK hPc hDc rfl rfl) rfl rfl hl.1 rfl (lv_room (Nat.le_of_ble_eq_true rfl)) dX9_instruction_336 ⟨Nat.le_of_ble_eq_true rfl, Nat.le_of_ble_eq_true rfl⟩) hS (fun q _ h => hFc q h) hFc (fun r33 u34 t H1 locs ht hvm hok hB hz1 hk1 hS => ?_)
      obtain ⟨hP, hD⟩ := cjoin_w ht hB hFc
      exact W.iret (v := r33) hx hb hr (fun t ht hW => ⟨⟨r33, u34, rfl, hok, by rw [ht]; exact hP, va_K.moved hW.alike hK, hD⟩, hS.F ht⟩) hS.2.2 dX9_instruction_339
    have hok := hok.2
    by_cases c35 : (x1 &&& (15 : Int32)) = 7
    · have hok := hok.1 c35
      refine lv_tableIn (tgt := 340) (off := 195) hx hb dX9_instruction_145 (by rw [c35]; decide) (by rw [c35]; decide) (by rw [c35]; decide) (by decide) ?_
      refine lv_aload_n hx hb dX9_instruction_340 rfl (lv_at hl 1 rfl) ?_
      refine lv_iload_n hx hb dX9_instruction_341 rfl (lv_at hl 2 rfl) ?_
      have hPc := hP
      have hDc := hD
      have hFc := va_free (wc := w_Model h cI cJ σ) hD hS hA [0, 1, 2, 3, 4, 5, 6] rfl
      refine va_calli (va_runV (As := [.int x1]) (rest := []) ⟨hx, hb, hml, hown, hts⟩ (c_X9_single l dC dI cI cJ h _ hok) (cwV 1 hts (tb_gV tw_4_233 tw_4_235 tw_p_75 tw_1_9 tw_4_236) rfl rfl rfl (by decide +kernel) ⟨Nat.le_of_ble_eq_true rfl, Nat.le_of_ble_eq_true rfl⟩) (cpre_V (ci := 8) (q0 := 0) hK hPc hDc rfl rfl) rfl rfl hl.1 rfl (lv_room (Nat.le_of_ble_eq_true rfl)) dX9_instruction_342 ⟨Nat.le_of_ble_eq_true rfl, Nat.le_of_ble_eq_true rfl⟩) hS (fun q _ h => hFc q h) hFc (fun r36 u37 t H1 locs ht hvm hok hB hz1 hk1 hS => ?_)
      obtain ⟨hP, hD⟩ := cjoin_w ht hB hFc
      exact W.iret (v := r36) hx hb hr (fun t ht hW => ⟨⟨r36, u37, rfl, hok, by rw [ht]; exact hP, va_K.moved hW.alike hK, hD⟩, hS.F ht⟩) hS.2.2 dX9_instruction_345
    have hok := hok.2
    by_cases c38 : (x1 &&& (15 : Int32)) = 8
    · have hok := hok.1 c38
      refine lv_tableIn (tgt := 346) (off := 201) hx hb dX9_instruction_145 (by rw [c38]; decide) (by rw [c38]; decide) (by rw [c38]; decide) (by decide) ?_
      refine lv_aload_n hx hb dX9_instruction_346 rfl (lv_at hl 1 rfl) ?_
      refine lv_iload_n hx hb dX9_instruction_347 rfl (lv_at hl 2 rfl) ?_
      have hPc := hP
      have hDc := hD
      have hFc := va_free (wc := w_Model h cI cJ σ) hD hS hA [0, 1, 2, 3, 4, 5, 6] rfl
      refine va_calli (va_runV (As := [.int x1]) (rest := []) ⟨hx, hb, hml, hown, hts⟩ (c_X9_eights l dC dI cI cJ h _ hok) (cwV 1 hts (tb_gV tw_4_237 tw_4_239 tw_p_76 tw_1_9 tw_5_0) rfl rfl rfl (by decide +kernel) ⟨Nat.le_of_ble_eq_true rfl, Nat.le_of_ble_eq_true rfl⟩) (cpre_V (ci := 8) (q0 := 0) hK hPc hDc rfl rfl) rfl rfl hl.1 rfl (lv_room (Nat.le_of_ble_eq_true rfl)) dX9_instruction_348 ⟨Nat.le_of_ble_eq_true rfl, Nat.le_of_ble_eq_true rfl⟩) hS (fun q _ h => hFc q h) hFc (fun r39 u40 t H1 locs ht hvm hok hB hz1 hk1 hS => ?_)
      obtain ⟨hP, hD⟩ := cjoin_w ht hB hFc
      exact W.iret (v := r39) hx hb hr (fun t ht hW => ⟨⟨r39, u40, rfl, hok, by rw [ht]; exact hP, va_K.moved hW.alike hK, hD⟩, hS.F ht⟩) hS.2.2 dX9_instruction_351
    have hok := hok.2
    by_cases c41 : (x1 &&& (15 : Int32)) = 9
    · have hok := hok.1 c41
      refine lv_tableIn (tgt := 352) (off := 207) hx hb dX9_instruction_145 (by rw [c41]; decide) (by rw [c41]; decide) (by rw [c41]; decide) (by decide) ?_
      refine lv_iload_n hx hb dX9_instruction_352 rfl (lv_at hl 2 rfl) ?_
      refine lv_sipush (v := 137) hx hb dX9_instruction_353 (by decide) ?_
      refine lv_icmp_ne (tgt := 367) hx hb dX9_instruction_356 (by decide) (fun c42 => ?_) (fun c42 => ?_)
      · have hok := hok.2 c42
        refine lv_aload_n hx hb dX9_instruction_367 rfl (lv_at hl 1 rfl) ?_
        refine lv_iload_n hx hb dX9_instruction_368 rfl (lv_at hl 2 rfl) ?_
        have hPc := hP
        have hDc := hD
        have hFc := va_free (wc := w_Model h cI cJ σ) hD hS hA [0, 1, 2, 3, 4, 5, 6] rfl
        refine va_calli (va_runV (As := [.int x1]) (rest := []) ⟨hx, hb, hml, hown, hts⟩ (c_X9_alu l dC dI cI cJ h _ hok) (cwV 1 hts (tb_gV tw_4_175 tw_4_177 tw_p_62 tw_1_9 tw_4_178) rfl rfl rfl (by decide +kernel) ⟨Nat.le_of_ble_eq_true rfl, Nat.le_of_ble_eq_true rfl⟩) (cpre_V (ci := 8) (q0 := 0) hK hPc hDc rfl rfl) rfl rfl hl.1 rfl (lv_room (Nat.le_of_ble_eq_true rfl)) dX9_instruction_369 ⟨Nat.le_of_ble_eq_true rfl, Nat.le_of_ble_eq_true rfl⟩) hS (fun q _ h => hFc q h) hFc (fun r43 u44 t H1 locs ht hvm hok hB hz1 hk1 hS => ?_)
        obtain ⟨hP, hD⟩ := cjoin_w ht hB hFc
        exact W.iret (v := r43) hx hb hr (fun t ht hW => ⟨⟨r43, u44, rfl, hok, by rw [ht]; exact hP, va_K.moved hW.alike hK, hD⟩, hS.F ht⟩) hS.2.2 dX9_instruction_372
      · have hok := hok.1 c42
        refine lv_aload_n hx hb dX9_instruction_359 rfl (lv_at hl 1 rfl) ?_
        refine lv_iconst (v := 0) hx hb dX9_instruction_360 (by decide) ?_
        have hPc := hP
        have hDc := hD
        have hFc := va_free (wc := w_Model h cI cJ σ) hD hS hA [0, 1, 2, 3, 4, 5, 6] rfl
        refine va_calli (va_runV (As := [.int 0]) (rest := []) ⟨hx, hb, hml, hown, hts⟩ (c_X9_bits l dC dI cI cJ h _ hok) (cwV 1 hts (tb_gV tw_4_213 tw_4_215 tw_p_70 tw_1_9 tw_4_216) rfl rfl rfl (by decide +kernel) ⟨Nat.le_of_ble_eq_true rfl, Nat.le_of_ble_eq_true rfl⟩) (cpre_V (ci := 8) (q0 := 0) hK hPc hDc rfl rfl) rfl rfl hl.1 rfl (lv_room (Nat.le_of_ble_eq_true rfl)) dX9_instruction_361 ⟨Nat.le_of_ble_eq_true rfl, Nat.le_of_ble_eq_true rfl⟩) hS (fun q _ h => hFc q h) hFc (fun r45 u46 t H1 locs ht hvm hok hB hz1 hk1 hS => ?_)
        obtain ⟨hP, hD⟩ := cjoin_w ht hB hFc
        refine lv_goto (tgt := 372) hx hb dX9_instruction_364 (by decide) ?_
        exact W.iret (v := r45) hx hb hr (fun t ht hW => ⟨⟨r45, u46, rfl, hok, by rw [ht]; exact hP, va_K.moved hW.alike hK, hD⟩, hS.F ht⟩) hS.2.2 dX9_instruction_372
    have hok := hok.2
    by_cases c47 : (x1 &&& (15 : Int32)) = 10
    · have hok := hok.1 c47
      refine lv_tableIn (tgt := 373) (off := 228) hx hb dX9_instruction_145 (by rw [c47]; decide) (by rw [c47]; decide) (by rw [c47]; decide) (by decide) ?_
      refine lv_iload_n hx hb dX9_instruction_373 rfl (lv_at hl 2 rfl) ?_
      refine lv_bipush (v := 80) hx hb dX9_instruction_374 (by decide) ?_
      refine lv_icmp_lt (tgt := 385) hx hb dX9_instruction_376 (by decide) (fun c48 => ?_) (fun c48 => ?_)
      · have hok := hok.1 c48
        refine lv_aload_n hx hb dX9_instruction_385 rfl (lv_at hl 1 rfl) ?_
        refine lv_iload_n hx hb dX9_instruction_386 rfl (lv_at hl 2 rfl) ?_
        have hPc := hP
        have hDc := hD
        have hFc := va_free (wc := w_Model h cI cJ σ) hD hS hA [0, 1, 2, 3, 4, 5, 6] rfl
        refine va_calli (va_runV (As := [.int x1]) (rest := []) ⟨hx, hb, hml, hown, hts⟩ (c_X9_shifts l dC dI cI cJ h _ hok) (cwV 1 hts (tb_gV tw_4_221 tw_4_223 tw_p_72 tw_1_9 tw_4_224) rfl rfl rfl (by decide +kernel) ⟨Nat.le_of_ble_eq_true rfl, Nat.le_of_ble_eq_true rfl⟩) (cpre_V (ci := 8) (q0 := 0) hK hPc hDc rfl rfl) rfl rfl hl.1 rfl (lv_room (Nat.le_of_ble_eq_true rfl)) dX9_instruction_387 ⟨Nat.le_of_ble_eq_true rfl, Nat.le_of_ble_eq_true rfl⟩) hS (fun q _ h => hFc q h) hFc (fun r49 u50 t H1 locs ht hvm hok hB hz1 hk1 hS => ?_)
        obtain ⟨hP, hD⟩ := cjoin_w ht hB hFc
        refine lv_goto (tgt := 398) hx hb dX9_instruction_390 (by decide) ?_
        exact W.iret (v := r49) hx hb hr (fun t ht hW => ⟨⟨r49, u50, rfl, hok, by rw [ht]; exact hP, va_K.moved hW.alike hK, hD⟩, hS.F ht⟩) hS.2.2 dX9_instruction_398
      · have hok := hok.2 c48
        refine lv_iload_n hx hb dX9_instruction_379 rfl (lv_at hl 2 rfl) ?_
        refine lv_bipush (v := 106) hx hb dX9_instruction_380 (by decide) ?_
        refine lv_icmp_ne (tgt := 393) hx hb dX9_instruction_382 (by decide) (fun c51 => ?_) (fun c51 => ?_)
        · have hok := hok.2 c51
          refine lv_aload_n hx hb dX9_instruction_393 rfl (lv_at hl 1 rfl) ?_
          refine lv_iload_n hx hb dX9_instruction_394 rfl (lv_at hl 2 rfl) ?_
          have hPc := hP
          have hDc := hD
          have hFc := va_free (wc := w_Model h cI cJ σ) hD hS hA [0, 1, 2, 3, 4, 5, 6] rfl
          refine va_calli (va_runV (As := [.int x1]) (rest := []) ⟨hx, hb, hml, hown, hts⟩ (c_X9_tens l dC dI cI cJ h _ hok) (cwV 1 hts (tb_gV tw_5_17 tw_5_19 tw_p_81 tw_1_9 tw_5_20) rfl rfl rfl (by decide +kernel) ⟨Nat.le_of_ble_eq_true rfl, Nat.le_of_ble_eq_true rfl⟩) (cpre_V (ci := 8) (q0 := 0) hK hPc hDc rfl rfl) rfl rfl hl.1 rfl (lv_room (Nat.le_of_ble_eq_true rfl)) dX9_instruction_395 ⟨Nat.le_of_ble_eq_true rfl, Nat.le_of_ble_eq_true rfl⟩) hS (fun q _ h => hFc q h) hFc (fun r52 u53 t H1 locs ht hvm hok hB hz1 hk1 hS => ?_)
          obtain ⟨hP, hD⟩ := cjoin_w ht hB hFc
          exact W.iret (v := r52) hx hb hr (fun t ht hW => ⟨⟨r52, u53, rfl, hok, by rw [ht]; exact hP, va_K.moved hW.alike hK, hD⟩, hS.F ht⟩) hS.2.2 dX9_instruction_398
        · have hok := hok.1 c51
          refine lv_aload_n hx hb dX9_instruction_385 rfl (lv_at hl 1 rfl) ?_
          refine lv_iload_n hx hb dX9_instruction_386 rfl (lv_at hl 2 rfl) ?_
          have hPc := hP
          have hDc := hD
          have hFc := va_free (wc := w_Model h cI cJ σ) hD hS hA [0, 1, 2, 3, 4, 5, 6] rfl
          refine va_calli (va_runV (As := [.int x1]) (rest := []) ⟨hx, hb, hml, hown, hts⟩ (c_X9_shifts l dC dI cI cJ h _ hok) (cwV 1 hts (tb_gV tw_4_221 tw_4_223 tw_p_72 tw_1_9 tw_4_224) rfl rfl rfl (by decide +kernel) ⟨Nat.le_of_ble_eq_true rfl, Nat.le_of_ble_eq_true rfl⟩) (cpre_V (ci := 8) (q0 := 0) hK hPc hDc rfl rfl) rfl rfl hl.1 rfl (lv_room (Nat.le_of_ble_eq_true rfl)) dX9_instruction_387 ⟨Nat.le_of_ble_eq_true rfl, Nat.le_of_ble_eq_true rfl⟩) hS (fun q _ h => hFc q h) hFc (fun r54 u55 t H1 locs ht hvm hok hB hz1 hk1 hS => ?_)
          obtain ⟨hP, hD⟩ := cjoin_w ht hB hFc
          refine lv_goto (tgt := 398) hx hb dX9_instruction_390 (by decide) ?_
          exact W.iret (v := r54) hx hb hr (fun t ht hW => ⟨⟨r54, u55, rfl, hok, by rw [ht]; exact hP, va_K.moved hW.alike hK, hD⟩, hS.F ht⟩) hS.2.2 dX9_instruction_398
    have hok := hok.2
    by_cases c56 : (x1 &&& (15 : Int32)) = 11
    · have hok := hok.1 c56
      refine lv_tableIn (tgt := 322) (off := 177) hx hb dX9_instruction_145 (by rw [c56]; decide) (by rw [c56]; decide) (by rw [c56]; decide) (by decide) ?_
      refine lv_aload_n hx hb dX9_instruction_322 rfl (lv_at hl 1 rfl) ?_
      refine lv_iload_n hx hb dX9_instruction_323 rfl (lv_at hl 2 rfl) ?_
      have hPc := hP
      have hDc := hD
      have hFc := va_free (wc := w_Model h cI cJ σ) hD hS hA [0, 1, 2, 3, 4, 5, 6] rfl
      refine va_calli (va_runV (As := [.int x1]) (rest := []) ⟨hx, hb, hml, hown, hts⟩ (c_X9_halts l dC dI cI cJ h _ hok) (cwV 1 hts (tb_gV tw_4_198 tw_4_200 tw_p_67 tw_1_9 tw_4_201) rfl rfl rfl (by decide +kernel) ⟨Nat.le_of_ble_eq_true rfl, Nat.le_of_ble_eq_true rfl⟩) (cpre_V (ci := 8) (q0 := 0) hK hPc hDc rfl rfl) rfl rfl hl.1 rfl (lv_room (Nat.le_of_ble_eq_true rfl)) dX9_instruction_324 ⟨Nat.le_of_ble_eq_true rfl, Nat.le_of_ble_eq_true rfl⟩) hS (fun q _ h => hFc q h) hFc (fun r57 u58 t H1 locs ht hvm hok hB hz1 hk1 hS => ?_)
      obtain ⟨hP, hD⟩ := cjoin_w ht hB hFc
      exact W.iret (v := r57) hx hb hr (fun t ht hW => ⟨⟨r57, u58, rfl, hok, by rw [ht]; exact hP, va_K.moved hW.alike hK, hD⟩, hS.F ht⟩) hS.2.2 dX9_instruction_327
    have hok := hok.2
    by_cases c59 : (x1 &&& (15 : Int32)) = 12
    · have hok := hok.1 c59
      refine lv_tableIn (tgt := 328) (off := 183) hx hb dX9_instruction_145 (by rw [c59]; decide) (by rw [c59]; decide) (by rw [c59]; decide) (by decide) ?_
      refine lv_aload_n hx hb dX9_instruction_328 rfl (lv_at hl 1 rfl) ?_
      refine lv_iload_n hx hb dX9_instruction_329 rfl (lv_at hl 2 rfl) ?_
      have hPc := hP
      have hDc := hD
      have hFc := va_free (wc := w_Model h cI cJ σ) hD hS hA [0, 1, 2, 3, 4, 5, 6] rfl
      refine va_calli (va_runV (As := [.int x1]) (rest := []) ⟨hx, hb, hml, hown, hts⟩ (c_X9_fours l dC dI cI cJ h _ hok) (cwV 1 hts (tb_gV tw_4_202 tw_4_204 tw_p_68 tw_1_9 tw_4_205) rfl rfl rfl (by decide +kernel) ⟨Nat.le_of_ble_eq_true rfl, Nat.le_of_ble_eq_true rfl⟩) (cpre_V (ci := 8) (q0 := 0) hK hPc hDc rfl rfl) rfl rfl hl.1 rfl (lv_room (Nat.le_of_ble_eq_true rfl)) dX9_instruction_330 ⟨Nat.le_of_ble_eq_true rfl, Nat.le_of_ble_eq_true rfl⟩) hS (fun q _ h => hFc q h) hFc (fun r60 u61 t H1 locs ht hvm hok hB hz1 hk1 hS => ?_)
      obtain ⟨hP, hD⟩ := cjoin_w ht hB hFc
      exact W.iret (v := r60) hx hb hr (fun t ht hW => ⟨⟨r60, u61, rfl, hok, by rw [ht]; exact hP, va_K.moved hW.alike hK, hD⟩, hS.F ht⟩) hS.2.2 dX9_instruction_333
    have hok := hok.2
    by_cases c62 : (x1 &&& (15 : Int32)) = 14
    · have hok := hok.1 c62
      refine lv_tableIn (tgt := 399) (off := 254) hx hb dX9_instruction_145 (by rw [c62]; decide) (by rw [c62]; decide) (by rw [c62]; decide) (by decide) ?_
      refine lv_iload_n hx hb dX9_instruction_399 rfl (lv_at hl 2 rfl) ?_
      refine lv_sipush (v := 158) hx hb dX9_instruction_400 (by decide) ?_
      refine lv_icmp_ne (tgt := 414) hx hb dX9_instruction_403 (by decide) (fun c63 => ?_) (fun c63 => ?_)
      · have hok := hok.2 c63
        refine lv_aload_n hx hb dX9_instruction_414 rfl (lv_at hl 1 rfl) ?_
        refine lv_iload_n hx hb dX9_instruction_415 rfl (lv_at hl 2 rfl) ?_
        have hPc := hP
        have hDc := hD
        have hFc := va_free (wc := w_Model h cI cJ σ) hD hS hA [0, 1, 2, 3, 4, 5, 6] rfl
        refine va_calli (va_runV (As := [.int x1]) (rest := []) ⟨hx, hb, hml, hown, hts⟩ (c_X9_shifts l dC dI cI cJ h _ hok) (cwV 1 hts (tb_gV tw_4_221 tw_4_223 tw_p_72 tw_1_9 tw_4_224) rfl rfl rfl (by decide +kernel) ⟨Nat.le_of_ble_eq_true rfl, Nat.le_of_ble_eq_true rfl⟩) (cpre_V (ci := 8) (q0 := 0) hK hPc hDc rfl rfl) rfl rfl hl.1 rfl (lv_room (Nat.le_of_ble_eq_true rfl)) dX9_instruction_416 ⟨Nat.le_of_ble_eq_true rfl, Nat.le_of_ble_eq_true rfl⟩) hS (fun q _ h => hFc q h) hFc (fun r64 u65 t H1 locs ht hvm hok hB hz1 hk1 hS => ?_)
        obtain ⟨hP, hD⟩ := cjoin_w ht hB hFc
        exact W.iret (v := r64) hx hb hr (fun t ht hW => ⟨⟨r64, u65, rfl, hok, by rw [ht]; exact hP, va_K.moved hW.alike hK, hD⟩, hS.F ht⟩) hS.2.2 dX9_instruction_419
      · have hok := hok.1 c63
        refine lv_aload_n hx hb dX9_instruction_406 rfl (lv_at hl 1 rfl) ?_
        refine lv_iconst (v := 5) hx hb dX9_instruction_407 (by decide) ?_
        have hPc := hP
        have hDc := hD
        have hFc := va_free (wc := w_Model h cI cJ σ) hD hS hA [0, 1, 2, 3, 4, 5, 6] rfl
        refine va_calli (va_runV (As := [.int 5]) (rest := []) ⟨hx, hb, hml, hown, hts⟩ (c_X9_zeroed l dC dI cI cJ h _ hok) (cwV 1 hts (tb_gV tw_4_217 tw_4_219 tw_p_71 tw_1_9 tw_4_220) rfl rfl rfl (by decide +kernel) ⟨Nat.le_of_ble_eq_true rfl, Nat.le_of_ble_eq_true rfl⟩) (cpre_V (ci := 8) (q0 := 0) hK hPc hDc rfl rfl) rfl rfl hl.1 rfl (lv_room (Nat.le_of_ble_eq_true rfl)) dX9_instruction_408 ⟨Nat.le_of_ble_eq_true rfl, Nat.le_of_ble_eq_true rfl⟩) hS (fun q _ h => hFc q h) hFc (fun r66 u67 t H1 locs ht hvm hok hB hz1 hk1 hS => ?_)
        obtain ⟨hP, hD⟩ := cjoin_w ht hB hFc
        refine lv_goto (tgt := 419) hx hb dX9_instruction_411 (by decide) ?_
        exact W.iret (v := r66) hx hb hr (fun t ht hW => ⟨⟨r66, u67, rfl, hok, by rw [ht]; exact hP, va_K.moved hW.alike hK, hD⟩, hS.F ht⟩) hS.2.2 dX9_instruction_419
    have hok := hok.2
    by_cases c68 : (x1 &&& (15 : Int32)) = 15
    · have hok := hok.1 c68
      refine lv_tableIn (tgt := 340) (off := 195) hx hb dX9_instruction_145 (by rw [c68]; decide) (by rw [c68]; decide) (by rw [c68]; decide) (by decide) ?_
      refine lv_aload_n hx hb dX9_instruction_340 rfl (lv_at hl 1 rfl) ?_
      refine lv_iload_n hx hb dX9_instruction_341 rfl (lv_at hl 2 rfl) ?_
      have hPc := hP
      have hDc := hD
      have hFc := va_free (wc := w_Model h cI cJ σ) hD hS hA [0, 1, 2, 3, 4, 5, 6] rfl
      refine va_calli (va_runV (As := [.int x1]) (rest := []) ⟨hx, hb, hml, hown, hts⟩ (c_X9_single l dC dI cI cJ h _ hok) (cwV 1 hts (tb_gV tw_4_233 tw_4_235 tw_p_75 tw_1_9 tw_4_236) rfl rfl rfl (by decide +kernel) ⟨Nat.le_of_ble_eq_true rfl, Nat.le_of_ble_eq_true rfl⟩) (cpre_V (ci := 8) (q0 := 0) hK hPc hDc rfl rfl) rfl rfl hl.1 rfl (lv_room (Nat.le_of_ble_eq_true rfl)) dX9_instruction_342 ⟨Nat.le_of_ble_eq_true rfl, Nat.le_of_ble_eq_true rfl⟩) hS (fun q _ h => hFc q h) hFc (fun r69 u70 t H1 locs ht hvm hok hB hz1 hk1 hS => ?_)
      obtain ⟨hP, hD⟩ := cjoin_w ht hB hFc
      exact W.iret (v := r69) hx hb hr (fun t ht hW => ⟨⟨r69, u70, rfl, hok, by rw [ht]; exact hP, va_K.moved hW.alike hK, hD⟩, hS.F ht⟩) hS.2.2 dX9_instruction_345
    have hok := hok.2
    have hok := hok ⟨c1, c19, c26, c29, c32, c35, c38, c41, c47, c56, c59, c62, c68⟩
    have kz70 : ∀ k ∈ ([0, 2, 3, 4, 6, 7, 8, 9, 10, 11, 12, 14, 15] : List Int), ((x1 &&& (15 : Int32))).toInt ≠ k := List.forall_mem_cons.mpr ⟨tb_ne c1 rfl, List.forall_mem_cons.mpr ⟨tb_ne c19 rfl, List.forall_mem_cons.mpr ⟨tb_ne c26 rfl, List.forall_mem_cons.mpr ⟨tb_ne c29 rfl, List.forall_mem_cons.mpr ⟨tb_ne c32 rfl, List.forall_mem_cons.mpr ⟨tb_ne c35 rfl, List.forall_mem_cons.mpr ⟨tb_ne c38 rfl, List.forall_mem_cons.mpr ⟨tb_ne c41 rfl, List.forall_mem_cons.mpr ⟨tb_ne c47 rfl, List.forall_mem_cons.mpr ⟨tb_ne c56 rfl, List.forall_mem_cons.mpr ⟨tb_ne c59 rfl, List.forall_mem_cons.mpr ⟨tb_ne c62 rfl, List.forall_mem_cons.mpr ⟨tb_ne c68 rfl, fun k h => absurd h List.not_mem_nil⟩⟩⟩⟩⟩⟩⟩⟩⟩⟩⟩⟩⟩
    refine tb_def (tgt := 420) (keys := [0, 2, 3, 4, 6, 7, 8, 9, 10, 11, 12, 14, 15]) hx hb dX9_instruction_145 kz70 (by decide) (by decide) ?_
    refine lv_aload_n hx hb dX9_instruction_420 rfl (lv_at hl 1 rfl) ?_
    refine lv_iload_n hx hb dX9_instruction_421 rfl (lv_at hl 2 rfl) ?_
    have hPc := hP
    have hDc := hD
    have hFc := va_free (wc := w_Model h cI cJ σ) hD hS hA [0, 1, 2, 3, 4, 5, 6] rfl
    refine va_calli (va_runV (As := [.int x1]) (rest := []) ⟨hx, hb, hml, hown, hts⟩ (c_X9_alu l dC dI cI cJ h _ hok) (cwV 1 hts (tb_gV tw_4_175 tw_4_177 tw_p_62 tw_1_9 tw_4_178) rfl rfl rfl (by decide +kernel) ⟨Nat.le_of_ble_eq_true rfl, Nat.le_of_ble_eq_true rfl⟩) (cpre_V (ci := 8) (q0 := 0) hK hPc hDc rfl rfl) rfl rfl hl.1 rfl (lv_room (Nat.le_of_ble_eq_true rfl)) dX9_instruction_422 ⟨Nat.le_of_ble_eq_true rfl, Nat.le_of_ble_eq_true rfl⟩) hS (fun q _ h => hFc q h) hFc (fun r71 u72 t H1 locs ht hvm hok hB hz1 hk1 hS => ?_)
    obtain ⟨hP, hD⟩ := cjoin_w ht hB hFc
    exact W.iret (v := r71) hx hb hr (fun t ht hW => ⟨⟨r71, u72, rfl, hok, by rw [ht]; exact hP, va_K.moved hW.alike hK, hD⟩, hS.F ht⟩) hS.2.2 dX9_instruction_425
  have b110 : ∀ (σ : S_Model) (x1 : Int32) (x2 : Int32) (s1 : Int32), wp_X9_instruction_110 σ x1 x2 s1 Φ → ∀ (H : Heap) (locs : List Loc), va_P (dC, dI) vwCl (w_Model h cI cJ σ) H → va_D A (w_Model h cI cJ σ) → va_S A s.heap H locs → ∀ ls : Array Slot, lv_has ls 4 [(0, .ref (h 13)), (1, .int x1), (2, .int x2)] → W p l e (headSpec wsX9_instruction { frames := 8, cells := 0, slots := 0, locals := 174 }).room s m ([.ref (h 13)] : List Value).toArray below meth c H locs 0 0 (MQ below (va_Qi Φ (fun u => cpost dC dI cI cJ A (w_Model h cI cJ u)) A) ([.ref (h 13)] : List Value).toArray s 0 0 A) (F0 m 110 ls [.int s1, .ref (h 13)]) := by
    intro σ x1 x2 s1 hok H locs hP hD hS ls hl
    unfold wp_X9_instruction_110 at hok
    refine va_put (D := (dC, dI)) (ci := 8) (v := .int s1) (ty := .int) (C := RX9) (T := TX9) (N := 33) hx hb hts (fun w h => List.mem_cons_of_mem _ (in_X9 w h)) tyX9 tyX9_ok nmX9 hown hK hP hD hS 0 rfl rfl 10 (by decide) (hts _ (List.mem_cons_of_mem _ tw_3_197)) (fun _ h9 => h9) rfl (by decide +kernel) rfl rfl (Nat.le_of_ble_eq_true rfl) dX9_instruction_110 (fun H locs hP hD hS => ?_)
    have hP : va_P (dC, dI) vwCl (w_Model h cI cJ (upd σ.1 10 s1, σ.2.1, σ.2.2)) _ := hP
    have hD : va_D A (w_Model h cI cJ (upd σ.1 10 s1, σ.2.1, σ.2.2)) := hD
    refine lv_aload_n hx hb dX9_instruction_113 rfl (lv_at hl 0 rfl) ?_
    refine lv_aload_n hx hb dX9_instruction_114 rfl (lv_at hl 0 rfl) ?_
    refine va_get (D := (dC, dI)) (ci := 8) (v := .int (σ.1 4)) (C := RX9) (T := TX9) (N := 33) hx hb hts (fun w h => List.mem_cons_of_mem _ (in_X9 w h)) hown hK hP 0 rfl rfl 4 (by decide) (hts _ (List.mem_cons_of_mem _ tw_3_191)) (fun _ h9 => h9) rfl dX9_instruction_115 ?_
    refine lv_iload_n hx hb dX9_instruction_118 rfl (lv_at hl 2 rfl) ?_
    refine lv_iadd hx hb dX9_instruction_119 ?_
    refine lv_ldc (v := 65535) hx hb hown (hts _ (List.mem_cons_of_mem _ tw_3_186)) dX9_instruction_120 ?_
    refine lv_iand hx hb dX9_instruction_122 ?_
    refine va_put (D := (dC, dI)) (ci := 8) (v := .int (((σ.1 4) + x2) &&& (65535 : Int32))) (ty := .int) (C := RX9) (T := TX9) (N := 33) hx hb hts (fun w h => List.mem_cons_of_mem _ (in_X9 w h)) tyX9 tyX9_ok nmX9 hown hK hP hD hS 0 rfl rfl 4 (by decide) (hts _ (List.mem_cons_of_mem _ tw_3_191)) (fun _ h9 => h9) rfl (by decide +kernel) rfl rfl (Nat.le_of_ble_eq_true rfl) dX9_instruction_123 (fun H locs hP hD hS => ?_)
    have hP : va_P (dC, dI) vwCl (w_Model h cI cJ (upd (upd σ.1 10 s1) 4 (((σ.1 4) + x2) &&& (65535 : Int32)), σ.2.1, σ.2.2)) _ := hP
    have hD : va_D A (w_Model h cI cJ (upd (upd σ.1 10 s1) 4 (((σ.1 4) + x2) &&& (65535 : Int32)), σ.2.1, σ.2.2)) := hD
    refine lv_iload_n hx hb dX9_instruction_126 rfl (lv_at hl 1 rfl) ?_
    refine lv_iconst (v := 4) hx hb dX9_instruction_127 (by decide) ?_
    refine lv_ishr hx hb dX9_instruction_128 ?_
    refine lv_iconst (v := 1) hx hb dX9_instruction_129 (by decide) ?_
    refine lv_iand hx hb dX9_instruction_130 ?_
    refine lv_topi (fun v73 ev73 => ?_)
    have hok := hok v73 ev73
    refine lv_iconst (v := 1) hx hb dX9_instruction_131 (by decide) ?_
    refine lv_icmp_ne (tgt := 139) hx hb dX9_instruction_132 (by decide) (fun c74 => ?_) (fun c74 => ?_)
    · have hok := hok.2 c74
      refine lv_iconst (v := 0) hx hb dX9_instruction_139 (by decide) ?_
      exact b140 (upd (upd σ.1 10 s1) 4 (((σ.1 4) + x2) &&& (65535 : Int32)), σ.2.1, σ.2.2) x1 0 hok _ _ hP hD hS _ (lv_sub hl [0, 1] rfl)
    · have hok := hok.1 c74
      refine lv_iconst (v := 1) hx hb dX9_instruction_135 (by decide) ?_
      refine lv_goto (tgt := 140) hx hb dX9_instruction_136 (by decide) ?_
      exact b140 (upd (upd σ.1 10 s1) 4 (((σ.1 4) + x2) &&& (65535 : Int32)), σ.2.1, σ.2.2) x1 1 hok _ _ hP hD hS _ (lv_sub hl [0, 1] rfl)
  have b73 : ∀ (σ : S_Model) (x1 : Int32) (x2 : Int32) (s1 : Int32), wp_X9_instruction_73 σ x1 x2 s1 Φ → ∀ (H : Heap) (locs : List Loc), va_P (dC, dI) vwCl (w_Model h cI cJ σ) H → va_D A (w_Model h cI cJ σ) → va_S A s.heap H locs → ∀ ls : Array Slot, lv_has ls 4 [(0, .ref (h 13)), (1, .int x1), (2, .int x2)] → W p l e (headSpec wsX9_instruction { frames := 8, cells := 0, slots := 0, locals := 174 }).room s m ([.ref (h 13)] : List Value).toArray below meth c H locs 0 0 (MQ below (va_Qi Φ (fun u => cpost dC dI cI cJ A (w_Model h cI cJ u)) A) ([.ref (h 13)] : List Value).toArray s 0 0 A) (F0 m 73 ls [.int s1, .ref (h 13)]) := by
    intro σ x1 x2 s1 hok H locs hP hD hS ls hl
    unfold wp_X9_instruction_73 at hok
    refine va_put (D := (dC, dI)) (ci := 8) (v := .int s1) (ty := .int) (C := RX9) (T := TX9) (N := 33) hx hb hts (fun w h => List.mem_cons_of_mem _ (in_X9 w h)) tyX9 tyX9_ok nmX9 hown hK hP hD hS 0 rfl rfl 9 (by decide) (hts _ (List.mem_cons_of_mem _ tw_3_196)) (fun _ h9 => h9) rfl (by decide +kernel) rfl rfl (Nat.le_of_ble_eq_true rfl) dX9_instruction_73 (fun H locs hP hD hS => ?_)
    have hP : va_P (dC, dI) vwCl (w_Model h cI cJ (upd σ.1 9 s1, σ.2.1, σ.2.2)) _ := hP
    have hD : va_D A (w_Model h cI cJ (upd σ.1 9 s1, σ.2.1, σ.2.2)) := hD
    refine lv_aload_n hx hb dX9_instruction_76 rfl (lv_at hl 0 rfl) ?_
    refine lv_iload_n hx hb dX9_instruction_77 rfl (lv_at hl 2 rfl) ?_
    refine lv_iconst (v := 2) hx hb dX9_instruction_78 (by decide) ?_
    refine lv_icmp_le (tgt := 106) hx hb dX9_instruction_79 (by decide) (fun c75 => ?_) (fun c75 => ?_)
    · have hok := hok.1 c75
      refine lv_aload_n hx hb dX9_instruction_106 rfl (lv_at hl 0 rfl) ?_
      refine va_get (D := (dC, dI)) (ci := 8) (v := .int s1) (C := RX9) (T := TX9) (N := 33) hx hb hts (fun w h => List.mem_cons_of_mem _ (in_X9 w h)) hown hK hP 0 rfl rfl 9 (by decide) (hts _ (List.mem_cons_of_mem _ tw_3_196)) (fun _ h9 => h9) rfl dX9_instruction_107 ?_
      exact b110 (upd σ.1 9 s1, σ.2.1, σ.2.2) x1 x2 s1 hok _ _ hP hD hS _ (lv_sub hl [0, 1, 2] rfl)
    · have hok := hok.2 c75
      refine lv_aload_n hx hb dX9_instruction_82 rfl (lv_at hl 0 rfl) ?_
      refine va_get (D := (dC, dI)) (ci := 8) (v := .int s1) (C := RX9) (T := TX9) (N := 33) hx hb hts (fun w h => List.mem_cons_of_mem _ (in_X9 w h)) hown hK hP 0 rfl rfl 9 (by decide) (hts _ (List.mem_cons_of_mem _ tw_3_196)) (fun _ h9 => h9) rfl dX9_instruction_83 ?_
      refine lv_aload_n hx hb dX9_instruction_86 rfl (lv_at hl 0 rfl) ?_
      refine lv_aload_n hx hb dX9_instruction_87 rfl (lv_at hl 0 rfl) ?_
      refine va_get (D := (dC, dI)) (ci := 8) (v := .int (σ.1 4)) (C := RX9) (T := TX9) (N := 33) hx hb hts (fun w h => List.mem_cons_of_mem _ (in_X9 w h)) hown hK hP 0 rfl rfl 4 (by decide) (hts _ (List.mem_cons_of_mem _ tw_3_191)) (fun _ h9 => h9) rfl dX9_instruction_88 ?_
      refine lv_iconst (v := 2) hx hb dX9_instruction_91 (by decide) ?_
      refine lv_iadd hx hb dX9_instruction_92 ?_
      refine lv_ldc (v := 65535) hx hb hown (hts _ (List.mem_cons_of_mem _ tw_3_186)) dX9_instruction_93 ?_
      refine lv_iand hx hb dX9_instruction_95 ?_
      have hPc := hP
      have hDc := hD
      have hFc := va_free (wc := w_Model h cI cJ (upd σ.1 9 s1, σ.2.1, σ.2.2)) hD hS hA [0, 1, 2, 3, 4, 5, 6] rfl
      refine va_calli (va_runV (As := [.int (((σ.1 4) + (2 : Int32)) &&& (65535 : Int32))]) (rest := [.int s1, .ref (h 13)]) ⟨hx, hb, hml, hown, hts⟩ (c_X9_read l dC dI cI cJ h _ hok) (cwV 1 hts (tb_gV tw_4_93 tw_4_95 tw_p_44 tw_1_9 tw_4_96) rfl rfl rfl (by decide +kernel) ⟨Nat.le_of_ble_eq_true rfl, Nat.le_of_ble_eq_true rfl⟩) (cpre_V (ci := 8) (q0 := 0) hK hPc hDc rfl rfl) rfl rfl hl.1 rfl (lv_room (Nat.le_of_ble_eq_true rfl)) dX9_instruction_96 ⟨Nat.le_of_ble_eq_true rfl, Nat.le_of_ble_eq_true rfl⟩) hS (fun q _ h => hFc q h) hFc (fun r76 u77 t H1 locs ht hvm hok hB hz1 hk1 hS => ?_)
      obtain ⟨hP, hD⟩ := cjoin_w ht hB hFc
      refine lv_bipush (v := 8) hx hb dX9_instruction_99 (by decide) ?_
      refine lv_ishl hx hb dX9_instruction_101 ?_
      refine lv_ior hx hb dX9_instruction_102 ?_
      refine lv_goto (tgt := 110) hx hb dX9_instruction_103 (by decide) ?_
      exact b110 u77 x1 x2 (s1 ||| (r76 <<< ((8 : Int32) &&& 31))) hok _ _ hP hD hS _ (lv_sub hl [0, 1, 2] rfl)
  have hl := lv_entry ([.ref (h 13)]) (n := 4) (Nat.le_of_ble_eq_true rfl)
  rw [lg_entry_eq]
  generalize (lg_sl ([.ref (h 13)]) ++ List.replicate (4 - (lg_sl ([.ref (h 13)])).length) Slot.unset).toArray = ls at hl ⊢
  have hl : lv_has ls 4 [(0, .ref (h 13))] := hl
  unfold wp_X9_instruction at hok
  refine lv_aload_n hx hb dX9_instruction_0 rfl (lv_at hl 0 rfl) ?_
  refine va_get (D := (dC, dI)) (ci := 8) (v := .ref (h 19)) (C := RX9) (T := TX9) (N := 33) hx hb hts (fun w h => List.mem_cons_of_mem _ (in_X9 w h)) hown hK hP 0 rfl rfl 32 (by decide) (hts _ (List.mem_cons_of_mem _ tw_3_219)) (fun _ h9 => h9) rfl dX9_instruction_1 ?_
  refine lv_aload_n hx hb dX9_instruction_4 rfl (lv_at hl 0 rfl) ?_
  refine va_get (D := (dC, dI)) (ci := 8) (v := .int (σ.1 30)) (C := RX9) (T := TX9) (N := 33) hx hb hts (fun w h => List.mem_cons_of_mem _ (in_X9 w h)) hown hK hP 0 rfl rfl 30 (by decide) (hts _ (List.mem_cons_of_mem _ tw_3_217)) (fun _ h9 => h9) rfl dX9_instruction_5 ?_
  refine lv_bipush (v := 32) hx hb dX9_instruction_8 (by decide) ?_
  refine lv_irem hx hb dX9_instruction_10 (by decide) ?_
  refine lv_topi (fun v78 ev78 => ?_)
  have hok := hok v78 ev78
  refine lv_aload_n hx hb dX9_instruction_11 rfl (lv_at hl 0 rfl) ?_
  refine va_get (D := (dC, dI)) (ci := 8) (v := .int (σ.1 4)) (C := RX9) (T := TX9) (N := 33) hx hb hts (fun w h => List.mem_cons_of_mem _ (in_X9 w h)) hown hK hP 0 rfl rfl 4 (by decide) (hts _ (List.mem_cons_of_mem _ tw_3_191)) (fun _ h9 => h9) rfl dX9_instruction_12 ?_
  refine va_iast hx hb hK hP hD hS 6 0 rfl rfl hok.1 dX9_instruction_15 (fun H locs hP hD hS => ?_)
  have hok := hok.2
  have hP : va_P (dC, dI) vwCl (w_Model h cI cJ (σ.1, σ.2.1, va_up σ.2.2 32 (upd (σ.2.2 32) v78.toNatClampNeg (σ.1 4)))) _ := hP
  have hD : va_D A (w_Model h cI cJ (σ.1, σ.2.1, va_up σ.2.2 32 (upd (σ.2.2 32) v78.toNatClampNeg (σ.1 4)))) := hD
  refine lv_aload_n hx hb dX9_instruction_16 rfl (lv_at hl 0 rfl) ?_
  refine lv_dup hx hb dX9_instruction_17 rfl ?_
  refine va_get (D := (dC, dI)) (ci := 8) (v := .int (σ.1 30)) (C := RX9) (T := TX9) (N := 33) hx hb hts (fun w h => List.mem_cons_of_mem _ (in_X9 w h)) hown hK hP 0 rfl rfl 30 (by decide) (hts _ (List.mem_cons_of_mem _ tw_3_217)) (fun _ h9 => h9) rfl dX9_instruction_18 ?_
  refine lv_iconst (v := 1) hx hb dX9_instruction_21 (by decide) ?_
  refine lv_iadd hx hb dX9_instruction_22 ?_
  refine va_put (D := (dC, dI)) (ci := 8) (v := .int ((σ.1 30) + (1 : Int32))) (ty := .int) (C := RX9) (T := TX9) (N := 33) hx hb hts (fun w h => List.mem_cons_of_mem _ (in_X9 w h)) tyX9 tyX9_ok nmX9 hown hK hP hD hS 0 rfl rfl 30 (by decide) (hts _ (List.mem_cons_of_mem _ tw_3_217)) (fun _ h9 => h9) rfl (by decide +kernel) rfl rfl (Nat.le_of_ble_eq_true rfl) dX9_instruction_23 (fun H locs hP hD hS => ?_)
  have hP : va_P (dC, dI) vwCl (w_Model h cI cJ (upd σ.1 30 ((σ.1 30) + (1 : Int32)), σ.2.1, va_up σ.2.2 32 (upd (σ.2.2 32) v78.toNatClampNeg (σ.1 4)))) _ := hP
  have hD : va_D A (w_Model h cI cJ (upd σ.1 30 ((σ.1 30) + (1 : Int32)), σ.2.1, va_up σ.2.2 32 (upd (σ.2.2 32) v78.toNatClampNeg (σ.1 4)))) := hD
  refine lv_aload_n hx hb dX9_instruction_26 rfl (lv_at hl 0 rfl) ?_
  refine lv_dup hx hb dX9_instruction_27 rfl ?_
  refine va_get (D := (dC, dI)) (ci := 8) (v := .long (σ.2.1 27)) (C := RX9) (T := TX9) (N := 33) hx hb hts (fun w h => List.mem_cons_of_mem _ (in_X9 w h)) hown hK hP 0 rfl rfl 27 (by decide) (hts _ (List.mem_cons_of_mem _ tw_3_214)) (fun _ h9 => h9) rfl dX9_instruction_28 ?_
  refine lv_lconst (v := 1) hx hb dX9_instruction_31 (by decide) ?_
  refine lv_ladd hx hb dX9_instruction_32 ?_
  refine va_put (D := (dC, dI)) (ci := 8) (v := .long ((σ.2.1 27) + (1 : Int64))) (ty := .long) (C := RX9) (T := TX9) (N := 33) hx hb hts (fun w h => List.mem_cons_of_mem _ (in_X9 w h)) tyX9 tyX9_ok nmX9 hown hK hP hD hS 0 rfl rfl 27 (by decide) (hts _ (List.mem_cons_of_mem _ tw_3_214)) (fun _ h9 => h9) rfl (by decide +kernel) rfl rfl (Nat.le_of_ble_eq_true rfl) dX9_instruction_33 (fun H locs hP hD hS => ?_)
  have hP : va_P (dC, dI) vwCl (w_Model h cI cJ (upd σ.1 30 ((σ.1 30) + (1 : Int32)), vp_updL σ.2.1 27 ((σ.2.1 27) + (1 : Int64)), va_up σ.2.2 32 (upd (σ.2.2 32) v78.toNatClampNeg (σ.1 4)))) _ := hP
  have hD : va_D A (w_Model h cI cJ (upd σ.1 30 ((σ.1 30) + (1 : Int32)), vp_updL σ.2.1 27 ((σ.2.1 27) + (1 : Int64)), va_up σ.2.2 32 (upd (σ.2.2 32) v78.toNatClampNeg (σ.1 4)))) := hD
  refine lv_aload_n hx hb dX9_instruction_36 rfl (lv_at hl 0 rfl) ?_
  refine lv_aload_n hx hb dX9_instruction_37 rfl (lv_at hl 0 rfl) ?_
  refine va_get (D := (dC, dI)) (ci := 8) (v := .int (σ.1 4)) (C := RX9) (T := TX9) (N := 33) hx hb hts (fun w h => List.mem_cons_of_mem _ (in_X9 w h)) hown hK hP 0 rfl rfl 4 (by decide) (hts _ (List.mem_cons_of_mem _ tw_3_191)) (fun _ h9 => h9) rfl dX9_instruction_38 ?_
  have hPc := hP
  have hDc := hD
  have hFc := va_free (wc := w_Model h cI cJ (upd σ.1 30 ((σ.1 30) + (1 : Int32)), vp_updL σ.2.1 27 ((σ.2.1 27) + (1 : Int64)), va_up σ.2.2 32 (upd (σ.2.2 32) v78.toNatClampNeg (σ.1 4)))) hD hS hA [0, 1, 2, 3, 4, 5, 6] rfl
  refine va_calli (va_runV (As := [.int (σ.1 4)]) (rest := []) ⟨hx, hb, hml, hown, hts⟩ (c_X9_read l dC dI cI cJ h _ hok) (cwV 1 hts (tb_gV tw_4_93 tw_4_95 tw_p_44 tw_1_9 tw_4_96) rfl rfl rfl (by decide +kernel) ⟨Nat.le_of_ble_eq_true rfl, Nat.le_of_ble_eq_true rfl⟩) (cpre_V (ci := 8) (q0 := 0) hK hPc hDc rfl rfl) rfl rfl hl.1 rfl (lv_room (Nat.le_of_ble_eq_true rfl)) dX9_instruction_41 ⟨Nat.le_of_ble_eq_true rfl, Nat.le_of_ble_eq_true rfl⟩) hS (fun q _ h => hFc q h) hFc (fun r79 u80 t H1 locs ht hvm hok hB hz1 hk1 hS => ?_)
  obtain ⟨hP, hD⟩ := cjoin_w ht hB hFc
  refine lv_istore_n (lv' := [(1, .int r79), (0, .ref (h 13))]) hx hb dX9_instruction_44 rfl hl (by decide) rfl (fun ls hl => ?_)
  refine lv_iload_n hx hb dX9_instruction_45 rfl (lv_at hl 0 rfl) ?_
  have hPc := hP.sub (ws' := []) [] rfl
  have hDc := hD.sub (ws' := []) [] (by decide) rfl
  have hFc := va_free (wc := []) hD hS hA [] rfl
  refine va_calli (va_runS (As := [.int r79]) (rest := []) ⟨hx, hb, hml, hown, hts⟩ (c_X9_size l dC dI cI cJ h _ hok) (va_cwS 1 hts (tb_gS tw_4_121 tw_4_122 tw_1_9 tw_4_123) rfl rfl rfl (by decide +kernel) ⟨Nat.le_of_ble_eq_true rfl, Nat.le_of_ble_eq_true rfl⟩) (cpre_S hK hPc hDc) rfl rfl hl.1 rfl (lv_room (Nat.le_of_ble_eq_true rfl)) dX9_instruction_46 ⟨Nat.le_of_ble_eq_true rfl, Nat.le_of_ble_eq_true rfl⟩) hS (fun q _ h => hFc q h) hFc (fun r81 _ t H1 locs ht hvm hok hB hz1 hk1 hS => ?_)
  obtain ⟨hP, hD⟩ := cjoin ht hP hD [] [0, 1, 2, 3, 4, 5, 6] rfl rfl (by decide) (by decide) hk1 hFc hB
  have hP := hP.sub (ws' := w_Model h cI cJ u80) [0, 1, 2, 3, 4, 5, 6] rfl
  have hD := hD.sub (ws' := w_Model h cI cJ u80) [0, 1, 2, 3, 4, 5, 6] (by decide) rfl
  refine lv_istore_n (lv' := [(2, .int r81), (1, .int r79), (0, .ref (h 13))]) hx hb dX9_instruction_49 rfl hl (by decide) rfl (fun ls hl => ?_)
  refine lv_aload_n hx hb dX9_instruction_50 rfl (lv_at hl 2 rfl) ?_
  refine lv_iload_n hx hb dX9_instruction_51 rfl (lv_at hl 0 rfl) ?_
  refine lv_iconst (v := 1) hx hb dX9_instruction_52 (by decide) ?_
  refine lv_icmp_le (tgt := 72) hx hb dX9_instruction_53 (by decide) (fun c82 => ?_) (fun c82 => ?_)
  · have hok := hok.1 c82
    refine lv_iconst (v := 0) hx hb dX9_instruction_72 (by decide) ?_
    exact b73 u80 r79 r81 0 hok _ _ hP hD hS _ (lv_sub hl [2, 1, 0] rfl)
  · have hok := hok.2 c82
    refine lv_aload_n hx hb dX9_instruction_56 rfl (lv_at hl 2 rfl) ?_
    refine lv_aload_n hx hb dX9_instruction_57 rfl (lv_at hl 2 rfl) ?_
    refine va_get (D := (dC, dI)) (ci := 8) (v := .int (u80.1 4)) (C := RX9) (T := TX9) (N := 33) hx hb hts (fun w h => List.mem_cons_of_mem _ (in_X9 w h)) hown hK hP 0 rfl rfl 4 (by decide) (hts _ (List.mem_cons_of_mem _ tw_3_191)) (fun _ h9 => h9) rfl dX9_instruction_58 ?_
    refine lv_iconst (v := 1) hx hb dX9_instruction_61 (by decide) ?_
    refine lv_iadd hx hb dX9_instruction_62 ?_
    refine lv_ldc (v := 65535) hx hb hown (hts _ (List.mem_cons_of_mem _ tw_3_186)) dX9_instruction_63 ?_
    refine lv_iand hx hb dX9_instruction_65 ?_
    refine lv_topi (fun v83 ev83 => ?_)
    have hok := hok v83 ev83
    have hPc := hP
    have hDc := hD
    have hFc := va_free (wc := w_Model h cI cJ u80) hD hS hA [0, 1, 2, 3, 4, 5, 6] rfl
    refine va_calli (va_runV (As := [.int v83]) (rest := [.ref (h 13)]) ⟨hx, hb, hml, hown, hts⟩ (c_X9_read l dC dI cI cJ h _ hok) (cwV 1 hts (tb_gV tw_4_93 tw_4_95 tw_p_44 tw_1_9 tw_4_96) rfl rfl rfl (by decide +kernel) ⟨Nat.le_of_ble_eq_true rfl, Nat.le_of_ble_eq_true rfl⟩) (cpre_V (ci := 8) (q0 := 0) hK hPc hDc rfl rfl) rfl rfl hl.1 rfl (lv_room (Nat.le_of_ble_eq_true rfl)) dX9_instruction_66 ⟨Nat.le_of_ble_eq_true rfl, Nat.le_of_ble_eq_true rfl⟩) hS (fun q _ h => hFc q h) hFc (fun r84 u85 t H1 locs ht hvm hok hB hz1 hk1 hS => ?_)
    obtain ⟨hP, hD⟩ := cjoin_w ht hB hFc
    refine lv_goto (tgt := 73) hx hb dX9_instruction_69 (by decide) ?_
    exact b73 u85 r79 r81 r84 hok _ _ hP hD hS _ (lv_sub hl [2, 1, 0] rfl)
def wp_X9_clock_128 (σ : S_Model) (x2 : Int32) (Φ : S_Model → Prop) : Prop := ((x2 = 0 → (Φ σ)) ∧ (¬ x2 = 0 → ((((σ.1 21) = 0 → (Φ σ)) ∧ (¬ (σ.1 21) = 0 → (Φ (upd (upd σ.1 17 ((σ.1 17) ||| (32 : Int32))) 21 0, σ.2.1, σ.2.2)))))))
def wp_X9_clock_98 (σ : S_Model) (x1 : Int32) (x2 : Int32) (x3 : Int32) (s1 : Int32) (Φ : S_Model → Prop) : Prop := ((x1 = 0 → (wp_X9_clock_128 (upd σ.1 13 s1, σ.2.1, σ.2.2) x2 Φ)) ∧ (¬ x1 = 0 → ((((σ.1 20) = 0 → (wp_X9_clock_128 (upd σ.1 13 s1, σ.2.1, σ.2.2) x2 Φ)) ∧ (¬ (σ.1 20) = 0 → (((narrow .boolean (.int x3) = .int x3 ∧ fits .boolean (.int x3) = true) ∧ (wp_X9_clock_128 (upd (upd (upd σ.1 13 s1) 17 ((σ.1 17) ||| (64 : Int32))) 20 x3, σ.2.1, σ.2.2) x2 Φ))))))))
def wp_X9_clock_79 (σ : S_Model) (x1 : Int32) (x2 : Int32) (x3 : Int32) (s1 : Int32) (Φ : S_Model → Prop) : Prop := ((x2 = 0 → (wp_X9_clock_98 (upd σ.1 12 s1, σ.2.1, σ.2.2) x1 x2 x3 ((σ.1 13) - (1 : Int32)) Φ)) ∧ (¬ x2 = 0 → (wp_X9_clock_98 (upd σ.1 12 s1, σ.2.1, σ.2.2) x1 x2 x3 65535 Φ)))
def wp_X9_clock_51 (σ : S_Model) (x1 : Int32) (x2 : Int32) (s0 : Int32) (Φ : S_Model → Prop) : Prop := ((x1 = 0 → (wp_X9_clock_79 σ x1 x2 s0 ((σ.1 12) - (1 : Int32)) Φ)) ∧ (¬ x1 = 0 → (((s0 = 0 → (wp_X9_clock_79 σ x1 x2 s0 65535 Φ)) ∧ (¬ s0 = 0 → (wp_X9_clock_79 σ x1 x2 s0 (σ.1 14) Φ))))))
def wp_X9_clock_35 (σ : S_Model) (x1 : Int32) (s0 : Int32) (Φ : S_Model → Prop) : Prop := ((((σ.1 16) &&& (64 : Int32)) = 0 → (wp_X9_clock_51 σ x1 s0 0 Φ)) ∧ (¬ ((σ.1 16) &&& (64 : Int32)) = 0 → (wp_X9_clock_51 σ x1 s0 1 Φ)))
def wp_X9_clock_22 (σ : S_Model) (s0 : Int32) (Φ : S_Model → Prop) : Prop := (((σ.1 13) = 0 → (wp_X9_clock_35 σ s0 1 Φ)) ∧ (¬ (σ.1 13) = 0 → (wp_X9_clock_35 σ s0 0 Φ)))
def wp_X9_clock (σ : S_Model) (Φ : S_Model → Prop) : Prop := (((σ.1 12) = 0 → (wp_X9_clock_22 (σ.1, vp_updL σ.2.1 26 ((σ.2.1 26) + (1 : Int64)), σ.2.2) 1 Φ)) ∧ (¬ (σ.1 12) = 0 → (wp_X9_clock_22 (σ.1, vp_updL σ.2.1 26 ((σ.2.1 26) + (1 : Int64)), σ.2.2) 0 Φ)))
set_option maxHeartbeats 4000000 in
set_option maxRecDepth 100000 in
theorem c_X9_clock (l : Launch) (dC : Nat → ClassId) (dI : Nat → Nat → Nat) (cI cJ : ClassId) (h : Nat → Nat) (sz : Nat) {σ : S_Model} {Φ : S_Model → Prop} (hok : wp_X9_clock σ Φ) : Met l yX9_clock wsX9_clock ({ frames := 0, cells := 0, slots := 0, locals := 0 }) (va_Pc [.ref (h 13)] (cpre dC dI cI cJ (w_Model h cI cJ σ) sz)) (va_Qv Φ (fun u => cpost dC dI cI cJ (va_A (w_Model h cI cJ σ) sz) (w_Model h cI cJ u)) (va_A (w_Model h cI cJ σ) sz)) 0 0 (va_A (w_Model h cI cJ σ) sz) := by
  refine Met.ofW (cc := cX9_clock) (maxL := 4) (ret := none) (by decide) rfl ?_
  intro p e s m args below meth c s₁ B hml hv
  obtain ⟨rfl, hsz, hP, hK, hD0⟩ := hv
  have hx := B.exec
  have hb := B.bytes
  have hr := B.returns
  have hts := atoms_spec (ws := wsX9_clock) B.pre
  have hown : s.vm.findClass RX9 = some m.cls := findClass_of_methodNamed B.named
  have hlocks := B.notSynchronized
  subst hsz
  have hD := hD0.self (sz := s.heap.size)
  generalize hAe : va_A (w_Model h cI cJ σ) s.heap.size = A at hD ⊢
  have hA : ∀ q : Nat, s.heap.size ≤ q → A q := fun q h => by rw [← hAe]; exact Or.inr h
  clear hD0 hAe
  have hS : va_S A s.heap s.heap [] := va_S.rf
  have b128 : ∀ (σ : S_Model) (x2 : Int32), wp_X9_clock_128 σ x2 Φ → ∀ (H : Heap) (locs : List Loc), va_P (dC, dI) vwCl (w_Model h cI cJ σ) H → va_D A (w_Model h cI cJ σ) → va_S A s.heap H locs → ∀ ls : Array Slot, lv_has ls 4 [(0, .ref (h 13)), (2, .int x2)] → W p l e (headSpec wsX9_clock { frames := 0, cells := 0, slots := 0, locals := 0 }).room s m ([.ref (h 13)] : List Value).toArray below meth c H locs 0 0 (MQ below (va_Qv Φ (fun u => cpost dC dI cI cJ A (w_Model h cI cJ u)) A) ([.ref (h 13)] : List Value).toArray s 0 0 A) (F0 m 128 ls []) := by
    intro σ x2 hok H locs hP hD hS ls hl
    unfold wp_X9_clock_128 at hok
    refine lv_iload_n hx hb dX9_clock_128 rfl (lv_at hl 1 rfl) ?_
    refine lv_if_eq (tgt := 155) hx hb dX9_clock_129 (by decide) (fun c1 => ?_) (fun c1 => ?_)
    · have hok := hok.1 c1
      exact W.vret hx hb hr (fun t ht hW => ⟨⟨σ, rfl, hok, by rw [ht]; exact hP, va_K.moved hW.alike hK, hD⟩, hS.F ht⟩) hS.2.2 dX9_clock_155
    · have hok := hok.2 c1
      refine lv_aload_n hx hb dX9_clock_132 rfl (lv_at hl 0 rfl) ?_
      refine va_get (D := (dC, dI)) (ci := 8) (v := .int (σ.1 21)) (C := RX9) (T := TX9) (N := 33) hx hb hts (fun w h => List.mem_cons_of_mem _ (in_X9 w h)) hown hK hP 0 rfl rfl 21 (by decide) (hts _ (List.mem_cons_of_mem _ tw_3_208)) (fun _ h9 => h9) rfl dX9_clock_133 ?_
      refine lv_if_eq (tgt := 155) hx hb dX9_clock_136 (by decide) (fun c2 => ?_) (fun c2 => ?_)
      · have hok := hok.1 c2
        exact W.vret hx hb hr (fun t ht hW => ⟨⟨σ, rfl, hok, by rw [ht]; exact hP, va_K.moved hW.alike hK, hD⟩, hS.F ht⟩) hS.2.2 dX9_clock_155
      · have hok := hok.2 c2
        refine lv_aload_n hx hb dX9_clock_139 rfl (lv_at hl 0 rfl) ?_
        refine lv_dup hx hb dX9_clock_140 rfl ?_
        refine va_get (D := (dC, dI)) (ci := 8) (v := .int (σ.1 17)) (C := RX9) (T := TX9) (N := 33) hx hb hts (fun w h => List.mem_cons_of_mem _ (in_X9 w h)) hown hK hP 0 rfl rfl 17 (by decide) (hts _ (List.mem_cons_of_mem _ tw_3_204)) (fun _ h9 => h9) rfl dX9_clock_141 ?_
        refine lv_bipush (v := 32) hx hb dX9_clock_144 (by decide) ?_
        refine lv_ior hx hb dX9_clock_146 ?_
        refine va_put (D := (dC, dI)) (ci := 8) (v := .int ((σ.1 17) ||| (32 : Int32))) (ty := .int) (C := RX9) (T := TX9) (N := 33) hx hb hts (fun w h => List.mem_cons_of_mem _ (in_X9 w h)) tyX9 tyX9_ok nmX9 hown hK hP hD hS 0 rfl rfl 17 (by decide) (hts _ (List.mem_cons_of_mem _ tw_3_204)) (fun _ h9 => h9) rfl (by decide +kernel) rfl rfl (Nat.le_of_ble_eq_true rfl) dX9_clock_147 (fun H locs hP hD hS => ?_)
        have hP : va_P (dC, dI) vwCl (w_Model h cI cJ (upd σ.1 17 ((σ.1 17) ||| (32 : Int32)), σ.2.1, σ.2.2)) _ := hP
        have hD : va_D A (w_Model h cI cJ (upd σ.1 17 ((σ.1 17) ||| (32 : Int32)), σ.2.1, σ.2.2)) := hD
        refine lv_aload_n hx hb dX9_clock_150 rfl (lv_at hl 0 rfl) ?_
        refine lv_iconst (v := 0) hx hb dX9_clock_151 (by decide) ?_
        refine va_put (D := (dC, dI)) (ci := 8) (v := .int 0) (ty := .boolean) (C := RX9) (T := TX9) (N := 33) hx hb hts (fun w h => List.mem_cons_of_mem _ (in_X9 w h)) tyX9 tyX9_ok nmX9 hown hK hP hD hS 0 rfl rfl 21 (by decide) (hts _ (List.mem_cons_of_mem _ tw_3_208)) (fun _ h9 => h9) rfl (by decide +kernel) rfl rfl (Nat.le_of_ble_eq_true rfl) dX9_clock_152 (fun H locs hP hD hS => ?_)
        have hP : va_P (dC, dI) vwCl (w_Model h cI cJ (upd (upd σ.1 17 ((σ.1 17) ||| (32 : Int32))) 21 0, σ.2.1, σ.2.2)) _ := hP
        have hD : va_D A (w_Model h cI cJ (upd (upd σ.1 17 ((σ.1 17) ||| (32 : Int32))) 21 0, σ.2.1, σ.2.2)) := hD
        exact W.vret hx hb hr (fun t ht hW => ⟨⟨(upd (upd σ.1 17 ((σ.1 17) ||| (32 : Int32))) 21 0, σ.2.1, σ.2.2), rfl, hok, by rw [ht]; exact hP, va_K.moved hW.alike hK, hD⟩, hS.F ht⟩) hS.2.2 dX9_clock_155
  have b98 : ∀ (σ : S_Model) (x1 : Int32) (x2 : Int32) (x3 : Int32) (s1 : Int32), wp_X9_clock_98 σ x1 x2 x3 s1 Φ → ∀ (H : Heap) (locs : List Loc), va_P (dC, dI) vwCl (w_Model h cI cJ σ) H → va_D A (w_Model h cI cJ σ) → va_S A s.heap H locs → ∀ ls : Array Slot, lv_has ls 4 [(0, .ref (h 13)), (1, .int x1), (2, .int x2), (3, .int x3)] → W p l e (headSpec wsX9_clock { frames := 0, cells := 0, slots := 0, locals := 0 }).room s m ([.ref (h 13)] : List Value).toArray below meth c H locs 0 0 (MQ below (va_Qv Φ (fun u => cpost dC dI cI cJ A (w_Model h cI cJ u)) A) ([.ref (h 13)] : List Value).toArray s 0 0 A) (F0 m 98 ls [.int s1, .ref (h 13)]) := by
    intro σ x1 x2 x3 s1 hok H locs hP hD hS ls hl
    unfold wp_X9_clock_98 at hok
    refine va_put (D := (dC, dI)) (ci := 8) (v := .int s1) (ty := .int) (C := RX9) (T := TX9) (N := 33) hx hb hts (fun w h => List.mem_cons_of_mem _ (in_X9 w h)) tyX9 tyX9_ok nmX9 hown hK hP hD hS 0 rfl rfl 13 (by decide) (hts _ (List.mem_cons_of_mem _ tw_3_200)) (fun _ h9 => h9) rfl (by decide +kernel) rfl rfl (Nat.le_of_ble_eq_true rfl) dX9_clock_98 (fun H locs hP hD hS => ?_)
    have hP : va_P (dC, dI) vwCl (w_Model h cI cJ (upd σ.1 13 s1, σ.2.1, σ.2.2)) _ := hP
    have hD : va_D A (w_Model h cI cJ (upd σ.1 13 s1, σ.2.1, σ.2.2)) := hD
    refine lv_iload_n hx hb dX9_clock_101 rfl (lv_at hl 1 rfl) ?_
    refine lv_if_eq (tgt := 128) hx hb dX9_clock_102 (by decide) (fun c3 => ?_) (fun c3 => ?_)
    · have hok := hok.1 c3
      exact b128 (upd σ.1 13 s1, σ.2.1, σ.2.2) x2 hok _ _ hP hD hS _ (lv_sub hl [0, 2] rfl)
    · have hok := hok.2 c3
      refine lv_aload_n hx hb dX9_clock_105 rfl (lv_at hl 0 rfl) ?_
      refine va_get (D := (dC, dI)) (ci := 8) (v := .int (σ.1 20)) (C := RX9) (T := TX9) (N := 33) hx hb hts (fun w h => List.mem_cons_of_mem _ (in_X9 w h)) hown hK hP 0 rfl rfl 20 (by decide) (hts _ (List.mem_cons_of_mem _ tw_3_207)) (fun _ h9 => h9) rfl dX9_clock_106 ?_
      refine lv_if_eq (tgt := 128) hx hb dX9_clock_109 (by decide) (fun c4 => ?_) (fun c4 => ?_)
      · have hok := hok.1 c4
        exact b128 (upd σ.1 13 s1, σ.2.1, σ.2.2) x2 hok _ _ hP hD hS _ (lv_sub hl [0, 2] rfl)
      · have hok := hok.2 c4
        refine lv_aload_n hx hb dX9_clock_112 rfl (lv_at hl 0 rfl) ?_
        refine lv_dup hx hb dX9_clock_113 rfl ?_
        refine va_get (D := (dC, dI)) (ci := 8) (v := .int (σ.1 17)) (C := RX9) (T := TX9) (N := 33) hx hb hts (fun w h => List.mem_cons_of_mem _ (in_X9 w h)) hown hK hP 0 rfl rfl 17 (by decide) (hts _ (List.mem_cons_of_mem _ tw_3_204)) (fun _ h9 => h9) rfl dX9_clock_114 ?_
        refine lv_bipush (v := 64) hx hb dX9_clock_117 (by decide) ?_
        refine lv_ior hx hb dX9_clock_119 ?_
        refine va_put (D := (dC, dI)) (ci := 8) (v := .int ((σ.1 17) ||| (64 : Int32))) (ty := .int) (C := RX9) (T := TX9) (N := 33) hx hb hts (fun w h => List.mem_cons_of_mem _ (in_X9 w h)) tyX9 tyX9_ok nmX9 hown hK hP hD hS 0 rfl rfl 17 (by decide) (hts _ (List.mem_cons_of_mem _ tw_3_204)) (fun _ h9 => h9) rfl (by decide +kernel) rfl rfl (Nat.le_of_ble_eq_true rfl) dX9_clock_120 (fun H locs hP hD hS => ?_)
        have hP : va_P (dC, dI) vwCl (w_Model h cI cJ (upd (upd σ.1 13 s1) 17 ((σ.1 17) ||| (64 : Int32)), σ.2.1, σ.2.2)) _ := hP
        have hD : va_D A (w_Model h cI cJ (upd (upd σ.1 13 s1) 17 ((σ.1 17) ||| (64 : Int32)), σ.2.1, σ.2.2)) := hD
        refine lv_aload_n hx hb dX9_clock_123 rfl (lv_at hl 0 rfl) ?_
        refine lv_iload_n hx hb dX9_clock_124 rfl (lv_at hl 3 rfl) ?_
        refine va_put (D := (dC, dI)) (ci := 8) (v := .int x3) (ty := .boolean) (C := RX9) (T := TX9) (N := 33) hx hb hts (fun w h => List.mem_cons_of_mem _ (in_X9 w h)) tyX9 tyX9_ok nmX9 hown hK hP hD hS 0 rfl rfl 20 (by decide) (hts _ (List.mem_cons_of_mem _ tw_3_207)) (fun _ h9 => h9) rfl (by decide +kernel) hok.1.1 hok.1.2 (Nat.le_of_ble_eq_true rfl) dX9_clock_125 (fun H locs hP hD hS => ?_)
        have hP : va_P (dC, dI) vwCl (w_Model h cI cJ (upd (upd (upd σ.1 13 s1) 17 ((σ.1 17) ||| (64 : Int32))) 20 x3, σ.2.1, σ.2.2)) _ := hP
        have hD : va_D A (w_Model h cI cJ (upd (upd (upd σ.1 13 s1) 17 ((σ.1 17) ||| (64 : Int32))) 20 x3, σ.2.1, σ.2.2)) := hD
        have hok := hok.2
        exact b128 (upd (upd (upd σ.1 13 s1) 17 ((σ.1 17) ||| (64 : Int32))) 20 x3, σ.2.1, σ.2.2) x2 hok _ _ hP hD hS _ (lv_sub hl [0, 2] rfl)
  have b79 : ∀ (σ : S_Model) (x1 : Int32) (x2 : Int32) (x3 : Int32) (s1 : Int32), wp_X9_clock_79 σ x1 x2 x3 s1 Φ → ∀ (H : Heap) (locs : List Loc), va_P (dC, dI) vwCl (w_Model h cI cJ σ) H → va_D A (w_Model h cI cJ σ) → va_S A s.heap H locs → ∀ ls : Array Slot, lv_has ls 4 [(0, .ref (h 13)), (1, .int x1), (2, .int x2), (3, .int x3)] → W p l e (headSpec wsX9_clock { frames := 0, cells := 0, slots := 0, locals := 0 }).room s m ([.ref (h 13)] : List Value).toArray below meth c H locs 0 0 (MQ below (va_Qv Φ (fun u => cpost dC dI cI cJ A (w_Model h cI cJ u)) A) ([.ref (h 13)] : List Value).toArray s 0 0 A) (F0 m 79 ls [.int s1, .ref (h 13)]) := by
    intro σ x1 x2 x3 s1 hok H locs hP hD hS ls hl
    unfold wp_X9_clock_79 at hok
    refine va_put (D := (dC, dI)) (ci := 8) (v := .int s1) (ty := .int) (C := RX9) (T := TX9) (N := 33) hx hb hts (fun w h => List.mem_cons_of_mem _ (in_X9 w h)) tyX9 tyX9_ok nmX9 hown hK hP hD hS 0 rfl rfl 12 (by decide) (hts _ (List.mem_cons_of_mem _ tw_3_199)) (fun _ h9 => h9) rfl (by decide +kernel) rfl rfl (Nat.le_of_ble_eq_true rfl) dX9_clock_79 (fun H locs hP hD hS => ?_)
    have hP : va_P (dC, dI) vwCl (w_Model h cI cJ (upd σ.1 12 s1, σ.2.1, σ.2.2)) _ := hP
    have hD : va_D A (w_Model h cI cJ (upd σ.1 12 s1, σ.2.1, σ.2.2)) := hD
    refine lv_aload_n hx hb dX9_clock_82 rfl (lv_at hl 0 rfl) ?_
    refine lv_iload_n hx hb dX9_clock_83 rfl (lv_at hl 2 rfl) ?_
    refine lv_if_eq (tgt := 92) hx hb dX9_clock_84 (by decide) (fun c5 => ?_) (fun c5 => ?_)
    · have hok := hok.1 c5
      refine lv_aload_n hx hb dX9_clock_92 rfl (lv_at hl 0 rfl) ?_
      refine va_get (D := (dC, dI)) (ci := 8) (v := .int (σ.1 13)) (C := RX9) (T := TX9) (N := 33) hx hb hts (fun w h => List.mem_cons_of_mem _ (in_X9 w h)) hown hK hP 0 rfl rfl 13 (by decide) (hts _ (List.mem_cons_of_mem _ tw_3_200)) (fun _ h9 => h9) rfl dX9_clock_93 ?_
      refine lv_iconst (v := 1) hx hb dX9_clock_96 (by decide) ?_
      refine lv_isub hx hb dX9_clock_97 ?_
      exact b98 (upd σ.1 12 s1, σ.2.1, σ.2.2) x1 x2 x3 ((σ.1 13) - (1 : Int32)) hok _ _ hP hD hS _ (lv_sub hl [0, 1, 2, 3] rfl)
    · have hok := hok.2 c5
      refine lv_ldc (v := 65535) hx hb hown (hts _ (List.mem_cons_of_mem _ tw_3_186)) dX9_clock_87 ?_
      refine lv_goto (tgt := 98) hx hb dX9_clock_89 (by decide) ?_
      exact b98 (upd σ.1 12 s1, σ.2.1, σ.2.2) x1 x2 x3 65535 hok _ _ hP hD hS _ (lv_sub hl [0, 1, 2, 3] rfl)
  have b51 : ∀ (σ : S_Model) (x1 : Int32) (x2 : Int32) (s0 : Int32), wp_X9_clock_51 σ x1 x2 s0 Φ → ∀ (H : Heap) (locs : List Loc), va_P (dC, dI) vwCl (w_Model h cI cJ σ) H → va_D A (w_Model h cI cJ σ) → va_S A s.heap H locs → ∀ ls : Array Slot, lv_has ls 4 [(0, .ref (h 13)), (1, .int x1), (2, .int x2)] → W p l e (headSpec wsX9_clock { frames := 0, cells := 0, slots := 0, locals := 0 }).room s m ([.ref (h 13)] : List Value).toArray below meth c H locs 0 0 (MQ below (va_Qv Φ (fun u => cpost dC dI cI cJ A (w_Model h cI cJ u)) A) ([.ref (h 13)] : List Value).toArray s 0 0 A) (F0 m 51 ls [.int s0]) := by
    intro σ x1 x2 s0 hok H locs hP hD hS ls hl
    unfold wp_X9_clock_51 at hok
    refine lv_istore_n (lv' := [(3, .int s0), (0, .ref (h 13)), (1, .int x1), (2, .int x2)]) hx hb dX9_clock_51 rfl hl (by decide) rfl (fun ls hl => ?_)
    refine lv_aload_n hx hb dX9_clock_52 rfl (lv_at hl 1 rfl) ?_
    refine lv_iload_n hx hb dX9_clock_53 rfl (lv_at hl 2 rfl) ?_
    refine lv_if_eq (tgt := 73) hx hb dX9_clock_54 (by decide) (fun c6 => ?_) (fun c6 => ?_)
    · have hok := hok.1 c6
      refine lv_aload_n hx hb dX9_clock_73 rfl (lv_at hl 1 rfl) ?_
      refine va_get (D := (dC, dI)) (ci := 8) (v := .int (σ.1 12)) (C := RX9) (T := TX9) (N := 33) hx hb hts (fun w h => List.mem_cons_of_mem _ (in_X9 w h)) hown hK hP 0 rfl rfl 12 (by decide) (hts _ (List.mem_cons_of_mem _ tw_3_199)) (fun _ h9 => h9) rfl dX9_clock_74 ?_
      refine lv_iconst (v := 1) hx hb dX9_clock_77 (by decide) ?_
      refine lv_isub hx hb dX9_clock_78 ?_
      exact b79 σ x1 x2 s0 ((σ.1 12) - (1 : Int32)) hok _ _ hP hD hS _ (lv_sub hl [1, 2, 3, 0] rfl)
    · have hok := hok.2 c6
      refine lv_iload_n hx hb dX9_clock_57 rfl (lv_at hl 0 rfl) ?_
      refine lv_if_eq (tgt := 68) hx hb dX9_clock_58 (by decide) (fun c7 => ?_) (fun c7 => ?_)
      · have hok := hok.1 c7
        refine lv_ldc (v := 65535) hx hb hown (hts _ (List.mem_cons_of_mem _ tw_3_186)) dX9_clock_68 ?_
        refine lv_goto (tgt := 79) hx hb dX9_clock_70 (by decide) ?_
        exact b79 σ x1 x2 s0 65535 hok _ _ hP hD hS _ (lv_sub hl [1, 2, 3, 0] rfl)
      · have hok := hok.2 c7
        refine lv_aload_n hx hb dX9_clock_61 rfl (lv_at hl 1 rfl) ?_
        refine va_get (D := (dC, dI)) (ci := 8) (v := .int (σ.1 14)) (C := RX9) (T := TX9) (N := 33) hx hb hts (fun w h => List.mem_cons_of_mem _ (in_X9 w h)) hown hK hP 0 rfl rfl 14 (by decide) (hts _ (List.mem_cons_of_mem _ tw_3_201)) (fun _ h9 => h9) rfl dX9_clock_62 ?_
        refine lv_goto (tgt := 79) hx hb dX9_clock_65 (by decide) ?_
        exact b79 σ x1 x2 s0 (σ.1 14) hok _ _ hP hD hS _ (lv_sub hl [1, 2, 3, 0] rfl)
  have b35 : ∀ (σ : S_Model) (x1 : Int32) (s0 : Int32), wp_X9_clock_35 σ x1 s0 Φ → ∀ (H : Heap) (locs : List Loc), va_P (dC, dI) vwCl (w_Model h cI cJ σ) H → va_D A (w_Model h cI cJ σ) → va_S A s.heap H locs → ∀ ls : Array Slot, lv_has ls 4 [(0, .ref (h 13)), (1, .int x1)] → W p l e (headSpec wsX9_clock { frames := 0, cells := 0, slots := 0, locals := 0 }).room s m ([.ref (h 13)] : List Value).toArray below meth c H locs 0 0 (MQ below (va_Qv Φ (fun u => cpost dC dI cI cJ A (w_Model h cI cJ u)) A) ([.ref (h 13)] : List Value).toArray s 0 0 A) (F0 m 35 ls [.int s0]) := by
    intro σ x1 s0 hok H locs hP hD hS ls hl
    unfold wp_X9_clock_35 at hok
    refine lv_istore_n (lv' := [(2, .int s0), (0, .ref (h 13)), (1, .int x1)]) hx hb dX9_clock_35 rfl hl (by decide) rfl (fun ls hl => ?_)
    refine lv_aload_n hx hb dX9_clock_36 rfl (lv_at hl 1 rfl) ?_
    refine va_get (D := (dC, dI)) (ci := 8) (v := .int (σ.1 16)) (C := RX9) (T := TX9) (N := 33) hx hb hts (fun w h => List.mem_cons_of_mem _ (in_X9 w h)) hown hK hP 0 rfl rfl 16 (by decide) (hts _ (List.mem_cons_of_mem _ tw_3_203)) (fun _ h9 => h9) rfl dX9_clock_37 ?_
    refine lv_bipush (v := 64) hx hb dX9_clock_40 (by decide) ?_
    refine lv_iand hx hb dX9_clock_42 ?_
    refine lv_if_eq (tgt := 50) hx hb dX9_clock_43 (by decide) (fun c8 => ?_) (fun c8 => ?_)
    · have hok := hok.1 c8
      refine lv_iconst (v := 0) hx hb dX9_clock_50 (by decide) ?_
      exact b51 σ x1 s0 0 hok _ _ hP hD hS _ (lv_sub hl [1, 2, 0] rfl)
    · have hok := hok.2 c8
      refine lv_iconst (v := 1) hx hb dX9_clock_46 (by decide) ?_
      refine lv_goto (tgt := 51) hx hb dX9_clock_47 (by decide) ?_
      exact b51 σ x1 s0 1 hok _ _ hP hD hS _ (lv_sub hl [1, 2, 0] rfl)
  have b22 : ∀ (σ : S_Model) (s0 : Int32), wp_X9_clock_22 σ s0 Φ → ∀ (H : Heap) (locs : List Loc), va_P (dC, dI) vwCl (w_Model h cI cJ σ) H → va_D A (w_Model h cI cJ σ) → va_S A s.heap H locs → ∀ ls : Array Slot, lv_has ls 4 [(0, .ref (h 13))] → W p l e (headSpec wsX9_clock { frames := 0, cells := 0, slots := 0, locals := 0 }).room s m ([.ref (h 13)] : List Value).toArray below meth c H locs 0 0 (MQ below (va_Qv Φ (fun u => cpost dC dI cI cJ A (w_Model h cI cJ u)) A) ([.ref (h 13)] : List Value).toArray s 0 0 A) (F0 m 22 ls [.int s0]) := by
    intro σ s0 hok H locs hP hD hS ls hl
    unfold wp_X9_clock_22 at hok
    refine lv_istore_n (lv' := [(1, .int s0), (0, .ref (h 13))]) hx hb dX9_clock_22 rfl hl (by decide) rfl (fun ls hl => ?_)
    refine lv_aload_n hx hb dX9_clock_23 rfl (lv_at hl 1 rfl) ?_
    refine va_get (D := (dC, dI)) (ci := 8) (v := .int (σ.1 13)) (C := RX9) (T := TX9) (N := 33) hx hb hts (fun w h => List.mem_cons_of_mem _ (in_X9 w h)) hown hK hP 0 rfl rfl 13 (by decide) (hts _ (List.mem_cons_of_mem _ tw_3_200)) (fun _ h9 => h9) rfl dX9_clock_24 ?_
    refine lv_if_ne (tgt := 34) hx hb dX9_clock_27 (by decide) (fun c9 => ?_) (fun c9 => ?_)
    · have hok := hok.2 c9
      refine lv_iconst (v := 0) hx hb dX9_clock_34 (by decide) ?_
      exact b35 σ s0 0 hok _ _ hP hD hS _ (lv_sub hl [1, 0] rfl)
    · have hok := hok.1 c9
      refine lv_iconst (v := 1) hx hb dX9_clock_30 (by decide) ?_
      refine lv_goto (tgt := 35) hx hb dX9_clock_31 (by decide) ?_
      exact b35 σ s0 1 hok _ _ hP hD hS _ (lv_sub hl [1, 0] rfl)
  have hl := lv_entry ([.ref (h 13)]) (n := 4) (Nat.le_of_ble_eq_true rfl)
  rw [lg_entry_eq]
  generalize (lg_sl ([.ref (h 13)]) ++ List.replicate (4 - (lg_sl ([.ref (h 13)])).length) Slot.unset).toArray = ls at hl ⊢
  have hl : lv_has ls 4 [(0, .ref (h 13))] := hl
  unfold wp_X9_clock at hok
  refine lv_aload_n hx hb dX9_clock_0 rfl (lv_at hl 0 rfl) ?_
  refine lv_dup hx hb dX9_clock_1 rfl ?_
  refine va_get (D := (dC, dI)) (ci := 8) (v := .long (σ.2.1 26)) (C := RX9) (T := TX9) (N := 33) hx hb hts (fun w h => List.mem_cons_of_mem _ (in_X9 w h)) hown hK hP 0 rfl rfl 26 (by decide) (hts _ (List.mem_cons_of_mem _ tw_3_213)) (fun _ h9 => h9) rfl dX9_clock_2 ?_
  refine lv_lconst (v := 1) hx hb dX9_clock_5 (by decide) ?_
  refine lv_ladd hx hb dX9_clock_6 ?_
  refine va_put (D := (dC, dI)) (ci := 8) (v := .long ((σ.2.1 26) + (1 : Int64))) (ty := .long) (C := RX9) (T := TX9) (N := 33) hx hb hts (fun w h => List.mem_cons_of_mem _ (in_X9 w h)) tyX9 tyX9_ok nmX9 hown hK hP hD hS 0 rfl rfl 26 (by decide) (hts _ (List.mem_cons_of_mem _ tw_3_213)) (fun _ h9 => h9) rfl (by decide +kernel) rfl rfl (Nat.le_of_ble_eq_true rfl) dX9_clock_7 (fun H locs hP hD hS => ?_)
  have hP : va_P (dC, dI) vwCl (w_Model h cI cJ (σ.1, vp_updL σ.2.1 26 ((σ.2.1 26) + (1 : Int64)), σ.2.2)) _ := hP
  have hD : va_D A (w_Model h cI cJ (σ.1, vp_updL σ.2.1 26 ((σ.2.1 26) + (1 : Int64)), σ.2.2)) := hD
  refine lv_aload_n hx hb dX9_clock_10 rfl (lv_at hl 0 rfl) ?_
  refine va_get (D := (dC, dI)) (ci := 8) (v := .int (σ.1 12)) (C := RX9) (T := TX9) (N := 33) hx hb hts (fun w h => List.mem_cons_of_mem _ (in_X9 w h)) hown hK hP 0 rfl rfl 12 (by decide) (hts _ (List.mem_cons_of_mem _ tw_3_199)) (fun _ h9 => h9) rfl dX9_clock_11 ?_
  refine lv_if_ne (tgt := 21) hx hb dX9_clock_14 (by decide) (fun c10 => ?_) (fun c10 => ?_)
  · have hok := hok.2 c10
    refine lv_iconst (v := 0) hx hb dX9_clock_21 (by decide) ?_
    exact b22 (σ.1, vp_updL σ.2.1 26 ((σ.2.1 26) + (1 : Int64)), σ.2.2) 0 hok _ _ hP hD hS _ (lv_sub hl [0] rfl)
  · have hok := hok.1 c10
    refine lv_iconst (v := 1) hx hb dX9_clock_17 (by decide) ?_
    refine lv_goto (tgt := 22) hx hb dX9_clock_18 (by decide) ?_
    exact b22 (σ.1, vp_updL σ.2.1 26 ((σ.2.1 26) + (1 : Int64)), σ.2.2) 1 hok _ _ hP hD hS _ (lv_sub hl [0] rfl)
