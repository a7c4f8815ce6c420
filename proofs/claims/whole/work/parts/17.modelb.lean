def wp_X9_pull (σ : S_Model) (Φ : Int32 → S_Model → Prop) : Prop := (vp_in 3 4 ∧ (∀ v1 : Int32, v1 = ((σ.2.2 2) (3 : Int32).toNatClampNeg) + (1 : Int32) → (vp_in 3 4 ∧ ((vp_in 3 4 ∧ (∀ v2 : Int32, v2 = (upd (σ.2.2 2) (3 : Int32).toNatClampNeg (v1 &&& (255 : Int32))) (3 : Int32).toNatClampNeg → wp_X9_read (σ.1, σ.2.1, va_up σ.2.2 2 (upd (σ.2.2 2) (3 : Int32).toNatClampNeg (v1 &&& (255 : Int32)))) ((256 : Int32) + v2) (fun r3 u4 => Φ r3 u4)))))))
set_option maxHeartbeats 4000000 in
set_option maxRecDepth 100000 in
theorem c_X9_pull (l : Launch) (dC : Nat → ClassId) (dI : Nat → Nat → Nat) (cI cJ : ClassId) (h : Nat → Nat) (sz : Nat) {σ : S_Model} {Φ : Int32 → S_Model → Prop} (hok : wp_X9_pull σ Φ) : Met l yX9_pull wsX9_pull ({ frames := 3, cells := 0, slots := 0, locals := 65 }) (va_Pc [.ref (h 13)] (cpre dC dI cI cJ (w_Model h cI cJ σ) sz)) (va_Qi Φ (fun u => cpost dC dI cI cJ (va_A (w_Model h cI cJ σ) sz) (w_Model h cI cJ u)) (va_A (w_Model h cI cJ σ) sz)) 0 0 (va_A (w_Model h cI cJ σ) sz) := by
  refine Met.ofW (cc := cX9_pull) (maxL := 1) (ret := (some .int)) (by decide) rfl ?_
  intro p e s m args below meth c s₁ B hml hv
  obtain ⟨rfl, hsz, hP, hK, hD0⟩ := hv
  have hx := B.exec
  have hb := B.bytes
  have hr := B.returns
  have hts := atoms_spec (ws := wsX9_pull) B.pre
  have hown : s.vm.findClass RX9 = some m.cls := findClass_of_methodNamed B.named
  have hlocks := B.notSynchronized
  subst hsz
  have hD := hD0.self (sz := s.heap.size)
  generalize hAe : va_A (w_Model h cI cJ σ) s.heap.size = A at hD ⊢
  have hA : ∀ q : Nat, s.heap.size ≤ q → A q := fun q h => by rw [← hAe]; exact Or.inr h
  clear hD0 hAe
  have hS : va_S A s.heap s.heap [] := va_S.rf
  have hl := lv_entry ([.ref (h 13)]) (n := 1) (Nat.le_of_ble_eq_true rfl)
  rw [lg_entry_eq]
  generalize (lg_sl ([.ref (h 13)]) ++ List.replicate (1 - (lg_sl ([.ref (h 13)])).length) Slot.unset).toArray = ls at hl ⊢
  have hl : lv_has ls 1 [(0, .ref (h 13))] := hl
  unfold wp_X9_pull at hok
  refine lv_aload_n hx hb dX9_pull_0 rfl (lv_at hl 0 rfl) ?_
  refine va_get (D := (dC, dI)) (ci := 8) (v := .ref (h 15)) (C := RX9) (T := TX9) (N := 33) hx hb hts (fun w h => List.mem_cons_of_mem _ (in_X9 w h)) hown hK hP 0 rfl rfl 2 (by decide) (hts _ (List.mem_cons_of_mem _ tw_3_189)) (fun _ h9 => h9) rfl dX9_pull_1 ?_
  refine lv_iconst (v := 3) hx hb dX9_pull_4 (by decide) ?_
  refine lv_aload_n hx hb dX9_pull_5 rfl (lv_at hl 0 rfl) ?_
  refine va_get (D := (dC, dI)) (ci := 8) (v := .ref (h 15)) (C := RX9) (T := TX9) (N := 33) hx hb hts (fun w h => List.mem_cons_of_mem _ (in_X9 w h)) hown hK hP 0 rfl rfl 2 (by decide) (hts _ (List.mem_cons_of_mem _ tw_3_189)) (fun _ h9 => h9) rfl dX9_pull_6 ?_
  refine lv_iconst (v := 3) hx hb dX9_pull_9 (by decide) ?_
  refine va_iald hx hb hK hP 2 0 rfl rfl hok.1 dX9_pull_10 ?_
  have hok := hok.2
  refine lv_iconst (v := 1) hx hb dX9_pull_11 (by decide) ?_
  refine lv_iadd hx hb dX9_pull_12 ?_
  refine lv_topi (fun v1 ev1 => ?_)
  have hok := hok v1 ev1
  refine lv_sipush (v := 255) hx hb dX9_pull_13 (by decide) ?_
  refine lv_iand hx hb dX9_pull_16 ?_
  refine va_iast hx hb hK hP hD hS 2 0 rfl rfl hok.1 dX9_pull_17 (fun H locs hP hD hS => ?_)
  have hok := hok.2
  have hP : va_P (dC, dI) vwCl (w_Model h cI cJ (σ.1, σ.2.1, va_up σ.2.2 2 (upd (σ.2.2 2) (3 : Int32).toNatClampNeg (v1 &&& (255 : Int32))))) _ := hP
  have hD : va_D A (w_Model h cI cJ (σ.1, σ.2.1, va_up σ.2.2 2 (upd (σ.2.2 2) (3 : Int32).toNatClampNeg (v1 &&& (255 : Int32))))) := hD
  refine lv_aload_n hx hb dX9_pull_18 rfl (lv_at hl 0 rfl) ?_
  refine lv_sipush (v := 256) hx hb dX9_pull_19 (by decide) ?_
  refine lv_aload_n hx hb dX9_pull_22 rfl (lv_at hl 0 rfl) ?_
  refine va_get (D := (dC, dI)) (ci := 8) (v := .ref (h 15)) (C := RX9) (T := TX9) (N := 33) hx hb hts (fun w h => List.mem_cons_of_mem _ (in_X9 w h)) hown hK hP 0 rfl rfl 2 (by decide) (hts _ (List.mem_cons_of_mem _ tw_3_189)) (fun _ h9 => h9) rfl dX9_pull_23 ?_
  refine lv_iconst (v := 3) hx hb dX9_pull_26 (by decide) ?_
  refine va_iald hx hb hK hP 2 0 rfl rfl hok.1 dX9_pull_27 ?_
  have hok := hok.2
  refine lv_topi (fun v2 ev2 => ?_)
  have hok := hok v2 ev2
  refine lv_iadd hx hb dX9_pull_28 ?_
  have hPc := hP
  have hDc := hD
  have hFc := va_free (wc := w_Model h cI cJ (σ.1, σ.2.1, va_up σ.2.2 2 (upd (σ.2.2 2) (3 : Int32).toNatClampNeg (v1 &&& (255 : Int32))))) hD hS hA [0, 1, 2, 3, 4, 5, 6] rfl
  refine va_calli (va_runV (As := [.int ((256 : Int32) + v2)]) (rest := []) ⟨hx, hb, hml, hown, hts⟩ (c_X9_read l dC dI cI cJ h _ hok) (cwV 1 hts (tb_gV tw_4_93 tw_4_95 tw_p_44 tw_1_9 tw_4_96) rfl rfl rfl (by decide +kernel) ⟨Nat.le_of_ble_eq_true rfl, Nat.le_of_ble_eq_true rfl⟩) (cpre_V (ci := 8) (q0 := 0) hK hPc hDc rfl rfl) rfl rfl hl.1 rfl (lv_room (Nat.le_of_ble_eq_true rfl)) dX9_pull_29 ⟨Nat.le_of_ble_eq_true rfl, Nat.le_of_ble_eq_true rfl⟩) hS (fun q _ h => hFc q h) hFc (fun r3 u4 t H1 locs ht hvm hok hB hz1 hk1 hS => ?_)
  obtain ⟨hP, hD⟩ := cjoin_w ht hB hFc
  exact W.iret (v := r3) hx hb hr (fun t ht hW => ⟨⟨r3, u4, rfl, hok, by rw [ht]; exact hP, va_K.moved hW.alike hK, hD⟩, hS.F ht⟩) hS.2.2 dX9_pull_32
def wp_X9_flag (σ : S_Model) (a1 : Int32) (a2 : Int32) (Φ : S_Model → Prop) : Prop := ((a2 = 0 → (Φ (upd σ.1 3 ((σ.1 3) &&& (a1 ^^^ (-1 : Int32))), σ.2.1, σ.2.2))) ∧ (¬ a2 = 0 → (Φ (upd σ.1 3 ((σ.1 3) ||| a1), σ.2.1, σ.2.2))))
set_option maxHeartbeats 4000000 in
set_option maxRecDepth 100000 in
theorem c_X9_flag (l : Launch) (dC : Nat → ClassId) (dI : Nat → Nat → Nat) (cI cJ : ClassId) (h : Nat → Nat) (sz : Nat) {σ : S_Model} {a1 : Int32} {a2 : Int32} {Φ : S_Model → Prop} (hok : wp_X9_flag σ a1 a2 Φ) : Met l yX9_flag wsX9_flag ({ frames := 0, cells := 0, slots := 0, locals := 0 }) (va_Pc [.ref (h 13), .int a1, .int a2] (cpre dC dI cI cJ (w_Model h cI cJ σ) sz)) (va_Qv Φ (fun u => cpost dC dI cI cJ (va_A (w_Model h cI cJ σ) sz) (w_Model h cI cJ u)) (va_A (w_Model h cI cJ σ) sz)) 0 0 (va_A (w_Model h cI cJ σ) sz) := by
  refine Met.ofW (cc := cX9_flag) (maxL := 3) (ret := none) (by decide) rfl ?_
  intro p e s m args below meth c s₁ B hml hv
  obtain ⟨rfl, hsz, hP, hK, hD0⟩ := hv
  have hx := B.exec
  have hb := B.bytes
  have hr := B.returns
  have hts := atoms_spec (ws := wsX9_flag) B.pre
  have hown : s.vm.findClass RX9 = some m.cls := findClass_of_methodNamed B.named
  have hlocks := B.notSynchronized
  subst hsz
  have hD := hD0.self (sz := s.heap.size)
  generalize hAe : va_A (w_Model h cI cJ σ) s.heap.size = A at hD ⊢
  have hA : ∀ q : Nat, s.heap.size ≤ q → A q := fun q h => by rw [← hAe]; exact Or.inr h
  clear hD0 hAe
  have hS : va_S A s.heap s.heap [] := va_S.rf
  have hl := lv_entry ([.ref (h 13), .int a1, .int a2]) (n := 3) (Nat.le_of_ble_eq_true rfl)
  rw [lg_entry_eq]
  generalize (lg_sl ([.ref (h 13), .int a1, .int a2]) ++ List.replicate (3 - (lg_sl ([.ref (h 13), .int a1, .int a2])).length) Slot.unset).toArray = ls at hl ⊢
  have hl : lv_has ls 3 [(0, .ref (h 13)), (1, .int a1), (2, .int a2)] := hl
  unfold wp_X9_flag at hok
  refine lv_aload_n hx hb dX9_flag_0 rfl (lv_at hl 0 rfl) ?_
  refine lv_iload_n hx hb dX9_flag_1 rfl (lv_at hl 2 rfl) ?_
  refine lv_if_eq (tgt := 14) hx hb dX9_flag_2 (by decide) (fun c1 => ?_) (fun c1 => ?_)
  · have hok := hok.1 c1
    refine lv_aload_n hx hb dX9_flag_14 rfl (lv_at hl 0 rfl) ?_
    refine va_get (D := (dC, dI)) (ci := 8) (v := .int (σ.1 3)) (C := RX9) (T := TX9) (N := 33) hx hb hts (fun w h => List.mem_cons_of_mem _ (in_X9 w h)) hown hK hP 0 rfl rfl 3 (by decide) (hts _ (List.mem_cons_of_mem _ tw_3_190)) (fun _ h9 => h9) rfl dX9_flag_15 ?_
    refine lv_iload_n hx hb dX9_flag_18 rfl (lv_at hl 1 rfl) ?_
    refine lv_iconst (v := (-1)) hx hb dX9_flag_19 (by decide) ?_
    refine lv_ixor hx hb dX9_flag_20 ?_
    refine lv_iand hx hb dX9_flag_21 ?_
    refine va_put (D := (dC, dI)) (ci := 8) (v := .int ((σ.1 3) &&& (a1 ^^^ (-1 : Int32)))) (ty := .int) (C := RX9) (T := TX9) (N := 33) hx hb hts (fun w h => List.mem_cons_of_mem _ (in_X9 w h)) tyX9 tyX9_ok nmX9 hown hK hP hD hS 0 rfl rfl 3 (by decide) (hts _ (List.mem_cons_of_mem _ tw_3_190)) (fun _ h9 => h9) rfl (by decide +kernel) rfl rfl (Nat.le_of_ble_eq_true rfl) dX9_flag_22 (fun H locs hP hD hS => ?_)
    have hP : va_P (dC, dI) vwCl (w_Model h cI cJ (upd σ.1 3 ((σ.1 3) &&& (a1 ^^^ (-1 : Int32))), σ.2.1, σ.2.2)) _ := hP
    have hD : va_D A (w_Model h cI cJ (upd σ.1 3 ((σ.1 3) &&& (a1 ^^^ (-1 : Int32))), σ.2.1, σ.2.2)) := hD
    exact W.vret hx hb hr (fun t ht hW => ⟨⟨(upd σ.1 3 ((σ.1 3) &&& (a1 ^^^ (-1 : Int32))), σ.2.1, σ.2.2), rfl, hok, by rw [ht]; exact hP, va_K.moved hW.alike hK, hD⟩, hS.F ht⟩) hS.2.2 dX9_flag_25
  · have hok := hok.2 c1
    refine lv_aload_n hx hb dX9_flag_5 rfl (lv_at hl 0 rfl) ?_
    refine va_get (D := (dC, dI)) (ci := 8) (v := .int (σ.1 3)) (C := RX9) (T := TX9) (N := 33) hx hb hts (fun w h => List.mem_cons_of_mem _ (in_X9 w h)) hown hK hP 0 rfl rfl 3 (by decide) (hts _ (List.mem_cons_of_mem _ tw_3_190)) (fun _ h9 => h9) rfl dX9_flag_6 ?_
    refine lv_iload_n hx hb dX9_flag_9 rfl (lv_at hl 1 rfl) ?_
    refine lv_ior hx hb dX9_flag_10 ?_
    refine lv_goto (tgt := 22) hx hb dX9_flag_11 (by decide) ?_
    refine va_put (D := (dC, dI)) (ci := 8) (v := .int ((σ.1 3) ||| a1)) (ty := .int) (C := RX9) (T := TX9) (N := 33) hx hb hts (fun w h => List.mem_cons_of_mem _ (in_X9 w h)) tyX9 tyX9_ok nmX9 hown hK hP hD hS 0 rfl rfl 3 (by decide) (hts _ (List.mem_cons_of_mem _ tw_3_190)) (fun _ h9 => h9) rfl (by decide +kernel) rfl rfl (Nat.le_of_ble_eq_true rfl) dX9_flag_22 (fun H locs hP hD hS => ?_)
    have hP : va_P (dC, dI) vwCl (w_Model h cI cJ (upd σ.1 3 ((σ.1 3) ||| a1), σ.2.1, σ.2.2)) _ := hP
    have hD : va_D A (w_Model h cI cJ (upd σ.1 3 ((σ.1 3) ||| a1), σ.2.1, σ.2.2)) := hD
    exact W.vret hx hb hr (fun t ht hW => ⟨⟨(upd σ.1 3 ((σ.1 3) ||| a1), σ.2.1, σ.2.2), rfl, hok, by rw [ht]; exact hP, va_K.moved hW.alike hK, hD⟩, hS.F ht⟩) hS.2.2 dX9_flag_25
def wp_X9_is (σ : S_Model) (a1 : Int32) (Φ : Int32 → Prop) : Prop := ((((σ.1 3) &&& a1) = 0 → (Φ 0)) ∧ (¬ ((σ.1 3) &&& a1) = 0 → (Φ 1)))
set_option maxHeartbeats 4000000 in
set_option maxRecDepth 100000 in
theorem c_X9_is (l : Launch) (dC : Nat → ClassId) (dI : Nat → Nat → Nat) (cI cJ : ClassId) (h : Nat → Nat) (sz : Nat) {σ : S_Model} {a1 : Int32} {Φ : Int32 → Prop} (hok : wp_X9_is σ a1 Φ) : Met l yX9_is wsX9_is ({ frames := 0, cells := 0, slots := 0, locals := 0 }) (va_Pc [.ref (h 13), .int a1] (cpre dC dI cI cJ (w_Model h cI cJ σ) sz)) (va_Qi (fun (r : Int32) (_ : Unit) => Φ r) (fun _ => cpost dC dI cI cJ (va_A (w_Model h cI cJ σ) sz) (w_Model h cI cJ σ)) (va_A (w_Model h cI cJ σ) sz)) 0 0 (va_A (w_Model h cI cJ σ) sz) := by
  refine Met.ofW (cc := cX9_is) (maxL := 2) (ret := (some .boolean)) (by decide) rfl ?_
  intro p e s m args below meth c s₁ B hml hv
  obtain ⟨rfl, hsz, hP, hK, hD0⟩ := hv
  have hx := B.exec
  have hb := B.bytes
  have hr := B.returns
  have hts := atoms_spec (ws := wsX9_is) B.pre
  have hown : s.vm.findClass RX9 = some m.cls := findClass_of_methodNamed B.named
  have hlocks := B.notSynchronized
  subst hsz
  have hD := hD0.self (sz := s.heap.size)
  generalize hAe : va_A (w_Model h cI cJ σ) s.heap.size = A at hD ⊢
  have hA : ∀ q : Nat, s.heap.size ≤ q → A q := fun q h => by rw [← hAe]; exact Or.inr h
  clear hD0 hAe
  have hS : va_S A s.heap s.heap [] := va_S.rf
  have hl := lv_entry ([.ref (h 13), .int a1]) (n := 2) (Nat.le_of_ble_eq_true rfl)
  rw [lg_entry_eq]
  generalize (lg_sl ([.ref (h 13), .int a1]) ++ List.replicate (2 - (lg_sl ([.ref (h 13), .int a1])).length) Slot.unset).toArray = ls at hl ⊢
  have hl : lv_has ls 2 [(0, .ref (h 13)), (1, .int a1)] := hl
  unfold wp_X9_is at hok
  refine lv_aload_n hx hb dX9_is_0 rfl (lv_at hl 0 rfl) ?_
  refine va_get (D := (dC, dI)) (ci := 8) (v := .int (σ.1 3)) (C := RX9) (T := TX9) (N := 33) hx hb hts (fun w h => List.mem_cons_of_mem _ (in_X9 w h)) hown hK hP 0 rfl rfl 3 (by decide) (hts _ (List.mem_cons_of_mem _ tw_3_190)) (fun _ h9 => h9) rfl dX9_is_1 ?_
  refine lv_iload_n hx hb dX9_is_4 rfl (lv_at hl 1 rfl) ?_
  refine lv_iand hx hb dX9_is_5 ?_
  refine lv_if_eq (tgt := 13) hx hb dX9_is_6 (by decide) (fun c1 => ?_) (fun c1 => ?_)
  · have hok := hok.1 c1
    refine lv_iconst (v := 0) hx hb dX9_is_13 (by decide) ?_
    exact W.zret (v := 0) hx hb hr rfl (fun t ht hW => ⟨⟨0, (), rfl, hok, by rw [ht]; exact hP, va_K.moved hW.alike hK, hD⟩, hS.F ht⟩) hS.2.2 dX9_is_14
  · have hok := hok.2 c1
    refine lv_iconst (v := 1) hx hb dX9_is_9 (by decide) ?_
    refine lv_goto (tgt := 14) hx hb dX9_is_10 (by decide) ?_
    exact W.zret (v := 1) hx hb hr rfl (fun t ht hW => ⟨⟨1, (), rfl, hok, by rw [ht]; exact hP, va_K.moved hW.alike hK, hD⟩, hS.F ht⟩) hS.2.2 dX9_is_14
def wp_X9_carry (σ : S_Model) (Φ : Int32 → Prop) : Prop := Φ ((σ.1 3) &&& (1 : Int32))
set_option maxHeartbeats 4000000 in
set_option maxRecDepth 100000 in
theorem c_X9_carry (l : Launch) (dC : Nat → ClassId) (dI : Nat → Nat → Nat) (cI cJ : ClassId) (h : Nat → Nat) (sz : Nat) {σ : S_Model} {Φ : Int32 → Prop} (hok : wp_X9_carry σ Φ) : Met l yX9_carry wsX9_carry ({ frames := 0, cells := 0, slots := 0, locals := 0 }) (va_Pc [.ref (h 13)] (cpre dC dI cI cJ (w_Model h cI cJ σ) sz)) (va_Qi (fun (r : Int32) (_ : Unit) => Φ r) (fun _ => cpost dC dI cI cJ (va_A (w_Model h cI cJ σ) sz) (w_Model h cI cJ σ)) (va_A (w_Model h cI cJ σ) sz)) 0 0 (va_A (w_Model h cI cJ σ) sz) := by
  refine Met.ofW (cc := cX9_carry) (maxL := 1) (ret := (some .int)) (by decide) rfl ?_
  intro p e s m args below meth c s₁ B hml hv
  obtain ⟨rfl, hsz, hP, hK, hD0⟩ := hv
  have hx := B.exec
  have hb := B.bytes
  have hr := B.returns
  have hts := atoms_spec (ws := wsX9_carry) B.pre
  have hown : s.vm.findClass RX9 = some m.cls := findClass_of_methodNamed B.named
  have hlocks := B.notSynchronized
  subst hsz
  have hD := hD0.self (sz := s.heap.size)
  generalize hAe : va_A (w_Model h cI cJ σ) s.heap.size = A at hD ⊢
  have hA : ∀ q : Nat, s.heap.size ≤ q → A q := fun q h => by rw [← hAe]; exact Or.inr h
  clear hD0 hAe
  have hS : va_S A s.heap s.heap [] := va_S.rf
  have hl := lv_entry ([.ref (h 13)]) (n := 1) (Nat.le_of_ble_eq_true rfl)
  rw [lg_entry_eq]
  generalize (lg_sl ([.ref (h 13)]) ++ List.replicate (1 - (lg_sl ([.ref (h 13)])).length) Slot.unset).toArray = ls at hl ⊢
  have hl : lv_has ls 1 [(0, .ref (h 13))] := hl
  unfold wp_X9_carry at hok
  refine lv_aload_n hx hb dX9_carry_0 rfl (lv_at hl 0 rfl) ?_
  refine va_get (D := (dC, dI)) (ci := 8) (v := .int (σ.1 3)) (C := RX9) (T := TX9) (N := 33) hx hb hts (fun w h => List.mem_cons_of_mem _ (in_X9 w h)) hown hK hP 0 rfl rfl 3 (by decide) (hts _ (List.mem_cons_of_mem _ tw_3_190)) (fun _ h9 => h9) rfl dX9_carry_1 ?_
  refine lv_iconst (v := 1) hx hb dX9_carry_4 (by decide) ?_
  refine lv_iand hx hb dX9_carry_5 ?_
  exact W.iret (v := (σ.1 3) &&& (1 : Int32)) hx hb hr (fun t ht hW => ⟨⟨(σ.1 3) &&& (1 : Int32), (), rfl, hok, by rw [ht]; exact hP, va_K.moved hW.alike hK, hD⟩, hS.F ht⟩) hS.2.2 dX9_carry_6
def wp_X9_tested_15 (σ : S_Model) (x1 : Int32) (s1 : Int32) (s2 : Int32) (Φ : Int32 → S_Model → Prop) : Prop := wp_X9_flag σ s1 s2 (fun u1 => ((x1 = 0 → (wp_X9_flag u1 2 1 (fun u4 => Φ x1 u4))) ∧ (¬ x1 = 0 → (wp_X9_flag u1 2 0 (fun u3 => Φ x1 u3)))))
def wp_X9_tested (σ : S_Model) (a1 : Int32) (Φ : Int32 → S_Model → Prop) : Prop := ((a1 ≤ (127 : Int32) → (wp_X9_tested_15 σ a1 128 0 Φ)) ∧ (¬ a1 ≤ (127 : Int32) → (wp_X9_tested_15 σ a1 128 1 Φ)))
set_option maxHeartbeats 4000000 in
set_option maxRecDepth 100000 in
theorem c_X9_tested (l : Launch) (dC : Nat → ClassId) (dI : Nat → Nat → Nat) (cI cJ : ClassId) (h : Nat → Nat) (sz : Nat) {σ : S_Model} {a1 : Int32} {Φ : Int32 → S_Model → Prop} (hok : wp_X9_tested σ a1 Φ) : Met l yX9_tested wsX9_tested ({ frames := 1, cells := 0, slots := 0, locals := 22 }) (va_Pc [.ref (h 13), .int a1] (cpre dC dI cI cJ (w_Model h cI cJ σ) sz)) (va_Qi Φ (fun u => cpost dC dI cI cJ (va_A (w_Model h cI cJ σ) sz) (w_Model h cI cJ u)) (va_A (w_Model h cI cJ σ) sz)) 0 0 (va_A (w_Model h cI cJ σ) sz) := by
  refine Met.ofW (cc := cX9_tested) (maxL := 2) (ret := (some .int)) (by decide) rfl ?_
  intro p e s m args below meth c s₁ B hml hv
  obtain ⟨rfl, hsz, hP, hK, hD0⟩ := hv
  have hx := B.exec
  have hb := B.bytes
  have hr := B.returns
  have hts := atoms_spec (ws := wsX9_tested) B.pre
  have hown : s.vm.findClass RX9 = some m.cls := findClass_of_methodNamed B.named
  have hlocks := B.notSynchronized
  subst hsz
  have hD := hD0.self (sz := s.heap.size)
  generalize hAe : va_A (w_Model h cI cJ σ) s.heap.size = A at hD ⊢
  have hA : ∀ q : Nat, s.heap.size ≤ q → A q := fun q h => by rw [← hAe]; exact Or.inr h
  clear hD0 hAe
  have hS : va_S A s.heap s.heap [] := va_S.rf
  have b15 : ∀ (σ : S_Model) (x1 : Int32) (s1 : Int32) (s2 : Int32), wp_X9_tested_15 σ x1 s1 s2 Φ → ∀ (H : Heap) (locs : List Loc), va_P (dC, dI) vwCl (w_Model h cI cJ σ) H → va_D A (w_Model h cI cJ σ) → va_S A s.heap H locs → ∀ ls : Array Slot, lv_has ls 2 [(0, .ref (h 13)), (1, .int x1)] → W p l e (headSpec wsX9_tested { frames := 1, cells := 0, slots := 0, locals := 22 }).room s m ([.ref (h 13), .int a1] : List Value).toArray below meth c H locs 0 0 (MQ below (va_Qi Φ (fun u => cpost dC dI cI cJ A (w_Model h cI cJ u)) A) ([.ref (h 13), .int a1] : List Value).toArray s 0 0 A) (F0 m 15 ls [.int s2, .int s1, .ref (h 13)]) := by
    intro σ x1 s1 s2 hok H locs hP hD hS ls hl
    unfold wp_X9_tested_15 at hok
    have hPc := hP
    have hDc := hD
    have hFc := va_free (wc := w_Model h cI cJ σ) hD hS hA [0, 1, 2, 3, 4, 5, 6] rfl
    refine va_callv (va_runV (As := [.int s1, .int s2]) (rest := []) ⟨hx, hb, hml, hown, hts⟩ (c_X9_flag l dC dI cI cJ h _ hok) (cwV 2 hts (tb_gV tw_4_85 tw_4_87 tw_p_42 tw_1_9 tw_4_88) rfl rfl rfl (by decide +kernel) ⟨Nat.le_of_ble_eq_true rfl, Nat.le_of_ble_eq_true rfl⟩) (cpre_V (ci := 8) (q0 := 0) hK hPc hDc rfl rfl) rfl rfl hl.1 rfl (lv_room (Nat.le_of_ble_eq_true rfl)) dX9_tested_15 ⟨Nat.le_of_ble_eq_true rfl, Nat.le_of_ble_eq_true rfl⟩) hS (fun q _ h => hFc q h) hFc (fun u1 t H1 locs ht hvm hok hB hz1 hk1 hS => ?_)
    obtain ⟨hP, hD⟩ := cjoin_w ht hB hFc
    refine lv_aload_n hx hb dX9_tested_18 rfl (lv_at hl 0 rfl) ?_
    refine lv_iconst (v := 2) hx hb dX9_tested_19 (by decide) ?_
    refine lv_iload_n hx hb dX9_tested_20 rfl (lv_at hl 1 rfl) ?_
    refine lv_if_ne (tgt := 28) hx hb dX9_tested_21 (by decide) (fun c2 => ?_) (fun c2 => ?_)
    · have hok := hok.2 c2
      refine lv_iconst (v := 0) hx hb dX9_tested_28 (by decide) ?_
      have hPc := hP
      have hDc := hD
      have hFc := va_free (wc := w_Model h cI cJ u1) hD hS hA [0, 1, 2, 3, 4, 5, 6] rfl
      refine va_callv (va_runV (As := [.int 2, .int 0]) (rest := []) ⟨hx, hb, hml, hown, hts⟩ (c_X9_flag l dC dI cI cJ h _ hok) (cwV 2 hts (tb_gV tw_4_85 tw_4_87 tw_p_42 tw_1_9 tw_4_88) rfl rfl rfl (by decide +kernel) ⟨Nat.le_of_ble_eq_true rfl, Nat.le_of_ble_eq_true rfl⟩) (cpre_V (ci := 8) (q0 := 0) hK hPc hDc rfl rfl) rfl rfl hl.1 rfl (lv_room (Nat.le_of_ble_eq_true rfl)) dX9_tested_29 ⟨Nat.le_of_ble_eq_true rfl, Nat.le_of_ble_eq_true rfl⟩) hS (fun q _ h => hFc q h) hFc (fun u3 t H1 locs ht hvm hok hB hz1 hk1 hS => ?_)
      obtain ⟨hP, hD⟩ := cjoin_w ht hB hFc
      refine lv_iload_n hx hb dX9_tested_32 rfl (lv_at hl 1 rfl) ?_
      exact W.iret (v := x1) hx hb hr (fun t ht hW => ⟨⟨x1, u3, rfl, hok, by rw [ht]; exact hP, va_K.moved hW.alike hK, hD⟩, hS.F ht⟩) hS.2.2 dX9_tested_33
    · have hok := hok.1 c2
      refine lv_iconst (v := 1) hx hb dX9_tested_24 (by decide) ?_
      refine lv_goto (tgt := 29) hx hb dX9_tested_25 (by decide) ?_
      have hPc := hP
      have hDc := hD
      have hFc := va_free (wc := w_Model h cI cJ u1) hD hS hA [0, 1, 2, 3, 4, 5, 6] rfl
      refine va_callv (va_runV (As := [.int 2, .int 1]) (rest := []) ⟨hx, hb, hml, hown, hts⟩ (c_X9_flag l dC dI cI cJ h _ hok) (cwV 2 hts (tb_gV tw_4_85 tw_4_87 tw_p_42 tw_1_9 tw_4_88) rfl rfl rfl (by decide +kernel) ⟨Nat.le_of_ble_eq_true rfl, Nat.le_of_ble_eq_true rfl⟩) (cpre_V (ci := 8) (q0 := 0) hK hPc hDc rfl rfl) rfl rfl hl.1 rfl (lv_room (Nat.le_of_ble_eq_true rfl)) dX9_tested_29 ⟨Nat.le_of_ble_eq_true rfl, Nat.le_of_ble_eq_true rfl⟩) hS (fun q _ h => hFc q h) hFc (fun u4 t H1 locs ht hvm hok hB hz1 hk1 hS => ?_)
      obtain ⟨hP, hD⟩ := cjoin_w ht hB hFc
      refine lv_iload_n hx hb dX9_tested_32 rfl (lv_at hl 1 rfl) ?_
      exact W.iret (v := x1) hx hb hr (fun t ht hW => ⟨⟨x1, u4, rfl, hok, by rw [ht]; exact hP, va_K.moved hW.alike hK, hD⟩, hS.F ht⟩) hS.2.2 dX9_tested_33
  have hl := lv_entry ([.ref (h 13), .int a1]) (n := 2) (Nat.le_of_ble_eq_true rfl)
  rw [lg_entry_eq]
  generalize (lg_sl ([.ref (h 13), .int a1]) ++ List.replicate (2 - (lg_sl ([.ref (h 13), .int a1])).length) Slot.unset).toArray = ls at hl ⊢
  have hl : lv_has ls 2 [(0, .ref (h 13)), (1, .int a1)] := hl
  unfold wp_X9_tested at hok
  refine lv_aload_n hx hb dX9_tested_0 rfl (lv_at hl 0 rfl) ?_
  refine lv_sipush (v := 128) hx hb dX9_tested_1 (by decide) ?_
  refine lv_iload_n hx hb dX9_tested_4 rfl (lv_at hl 1 rfl) ?_
  refine lv_bipush (v := 127) hx hb dX9_tested_5 (by decide) ?_
  refine lv_icmp_le (tgt := 14) hx hb dX9_tested_7 (by decide) (fun c5 => ?_) (fun c5 => ?_)
  · have hok := hok.1 c5
    refine lv_iconst (v := 0) hx hb dX9_tested_14 (by decide) ?_
    exact b15 σ a1 128 0 hok _ _ hP hD hS _ (lv_sub hl [0, 1] rfl)
  · have hok := hok.2 c5
    refine lv_iconst (v := 1) hx hb dX9_tested_10 (by decide) ?_
    refine lv_goto (tgt := 15) hx hb dX9_tested_11 (by decide) ?_
    exact b15 σ a1 128 1 hok _ _ hP hD hS _ (lv_sub hl [0, 1] rfl)
def wp_X9_size_19  (x0 : Int32) (x1 : Int32) (s0 : Int32) (Φ : Int32 → Prop) : Prop := ((x1 = 0 → (((x0 = (32 : Int32) → (Φ 3)) ∧ (¬ x0 = (32 : Int32) → (((x0 = 0 → (Φ 1)) ∧ (¬ x0 = 0 → (((x0 = (64 : Int32) → (Φ 1)) ∧ (¬ x0 = (64 : Int32) → (((x0 = (96 : Int32) → (Φ 1)) ∧ (¬ x0 = (96 : Int32) → (Φ 2)))))))))))))) ∧ (¬ x1 = 0 → (((x1 = (3 : Int32) → (Φ 1)) ∧ (¬ x1 = (3 : Int32) → (((x1 = (8 : Int32) → (Φ 1)) ∧ (¬ x1 = (8 : Int32) → (((x1 = (10 : Int32) → (Φ 1)) ∧ (¬ x1 = (10 : Int32) → (((x1 = (11 : Int32) → (Φ 1)) ∧ (¬ x1 = (11 : Int32) → ((((11 : Int32) < x1 → (Φ 3)) ∧ (¬ (11 : Int32) < x1 → (((x1 = (9 : Int32) → (((s0 = 0 → (Φ 2)) ∧ (¬ s0 = 0 → (Φ 3))))) ∧ (¬ x1 = (9 : Int32) → (Φ 2)))))))))))))))))))))
def wp_X9_size (a1 : Int32) (Φ : Int32 → Prop) : Prop := ∀ v13 : Int32, v13 = (a1 >>> ((4 : Int32) &&& 31)) &&& (1 : Int32) → ((v13 = (1 : Int32) → (wp_X9_size_19 a1 (a1 &&& (15 : Int32)) 1 Φ)) ∧ (¬ v13 = (1 : Int32) → (wp_X9_size_19 a1 (a1 &&& (15 : Int32)) 0 Φ)))
set_option maxHeartbeats 4000000 in
set_option maxRecDepth 100000 in
theorem c_X9_size (l : Launch) (dC : Nat → ClassId) (dI : Nat → Nat → Nat) (cI cJ : ClassId) (h : Nat → Nat) (sz : Nat) {a1 : Int32} {Φ : Int32 → Prop} (hok : wp_X9_size a1 Φ) : Met l yX9_size wsX9_size ({ frames := 0, cells := 0, slots := 0, locals := 0 }) (va_Pc [.int a1] (cpre dC dI cI cJ ([] : va_W) sz)) (va_Qi (fun (r : Int32) (_ : Unit) => Φ r) (fun _ => cpost dC dI cI cJ (va_A ([] : va_W) sz) ([] : va_W)) (va_A ([] : va_W) sz)) 0 0 (va_A ([] : va_W) sz) := by
  refine Met.ofW (cc := cX9_size) (maxL := 3) (ret := (some .int)) (by decide) rfl ?_
  intro p e s m args below meth c s₁ B hml hv
  obtain ⟨rfl, hsz, hP, hK, hD0⟩ := hv
  have hx := B.exec
  have hb := B.bytes
  have hr := B.returns
  have hts := atoms_spec (ws := wsX9_size) B.pre
  have hown : s.vm.findClass RX9 = some m.cls := findClass_of_methodNamed B.named
  have hlocks := B.notSynchronized
  subst hsz
  have hD := hD0.self (sz := s.heap.size)
  generalize hAe : va_A ([] : va_W) s.heap.size = A at hD ⊢
  have hA : ∀ q : Nat, s.heap.size ≤ q → A q := fun q h => by rw [← hAe]; exact Or.inr h
  clear hD0 hAe
  have hS : va_S A s.heap s.heap [] := va_S.rf
  have b19 : ∀  (x0 : Int32) (x1 : Int32) (s0 : Int32), wp_X9_size_19  x0 x1 s0 Φ → ∀ (H : Heap) (locs : List Loc), va_P (dC, dI) vwCl ([] : va_W) H → va_D A ([] : va_W) → va_S A s.heap H locs → ∀ ls : Array Slot, lv_has ls 3 [(0, .int x0), (1, .int x1)] → W p l e (headSpec wsX9_size { frames := 0, cells := 0, slots := 0, locals := 0 }).room s m ([.int a1] : List Value).toArray below meth c H locs 0 0 (MQ below (va_Qi (fun (r : Int32) (_ : Unit) => Φ r) (fun _ => cpost dC dI cI cJ A ([] : va_W)) A) ([.int a1] : List Value).toArray s 0 0 A) (F0 m 19 ls [.int s0]) := by
    intro  x0 x1 s0 hok H locs hP hD hS ls hl
    unfold wp_X9_size_19 at hok
    refine lv_istore_n (lv' := [(2, .int s0), (0, .int x0), (1, .int x1)]) hx hb dX9_size_19 rfl hl (by decide) rfl (fun ls hl => ?_)
    refine lv_iload_n hx hb dX9_size_20 rfl (lv_at hl 2 rfl) ?_
    refine lv_if_ne (tgt := 56) hx hb dX9_size_21 (by decide) (fun c1 => ?_) (fun c1 => ?_)
    · have hok := hok.2 c1
      refine lv_iload_n hx hb dX9_size_56 rfl (lv_at hl 2 rfl) ?_
      refine lv_iconst (v := 3) hx hb dX9_size_57 (by decide) ?_
      refine lv_icmp_eq (tgt := 79) hx hb dX9_size_58 (by decide) (fun c2 => ?_) (fun c2 => ?_)
      · have hok := hok.1 c2
        refine lv_iconst (v := 1) hx hb dX9_size_79 (by decide) ?_
        exact W.iret (v := 1) hx hb hr (fun t ht hW => ⟨⟨1, (), rfl, hok, by rw [ht]; exact hP, va_K.moved hW.alike hK, hD⟩, hS.F ht⟩) hS.2.2 dX9_size_80
      · have hok := hok.2 c2
        refine lv_iload_n hx hb dX9_size_61 rfl (lv_at hl 2 rfl) ?_
        refine lv_bipush (v := 8) hx hb dX9_size_62 (by decide) ?_
        refine lv_icmp_eq (tgt := 79) hx hb dX9_size_64 (by decide) (fun c3 => ?_) (fun c3 => ?_)
        · have hok := hok.1 c3
          refine lv_iconst (v := 1) hx hb dX9_size_79 (by decide) ?_
          exact W.iret (v := 1) hx hb hr (fun t ht hW => ⟨⟨1, (), rfl, hok, by rw [ht]; exact hP, va_K.moved hW.alike hK, hD⟩, hS.F ht⟩) hS.2.2 dX9_size_80
        · have hok := hok.2 c3
          refine lv_iload_n hx hb dX9_size_67 rfl (lv_at hl 2 rfl) ?_
          refine lv_bipush (v := 10) hx hb dX9_size_68 (by decide) ?_
          refine lv_icmp_eq (tgt := 79) hx hb dX9_size_70 (by decide) (fun c4 => ?_) (fun c4 => ?_)
          · have hok := hok.1 c4
            refine lv_iconst (v := 1) hx hb dX9_size_79 (by decide) ?_
            exact W.iret (v := 1) hx hb hr (fun t ht hW => ⟨⟨1, (), rfl, hok, by rw [ht]; exact hP, va_K.moved hW.alike hK, hD⟩, hS.F ht⟩) hS.2.2 dX9_size_80
          · have hok := hok.2 c4
            refine lv_iload_n hx hb dX9_size_73 rfl (lv_at hl 2 rfl) ?_
            refine lv_bipush (v := 11) hx hb dX9_size_74 (by decide) ?_
            refine lv_icmp_ne (tgt := 81) hx hb dX9_size_76 (by decide) (fun c5 => ?_) (fun c5 => ?_)
            · have hok := hok.2 c5
              refine lv_iload_n hx hb dX9_size_81 rfl (lv_at hl 2 rfl) ?_
              refine lv_bipush (v := 11) hx hb dX9_size_82 (by decide) ?_
              refine lv_icmp_gt (tgt := 97) hx hb dX9_size_84 (by decide) (fun c6 => ?_) (fun c6 => ?_)
              · have hok := hok.1 c6
                refine lv_iconst (v := 3) hx hb dX9_size_97 (by decide) ?_
                refine lv_goto (tgt := 102) hx hb dX9_size_98 (by decide) ?_
                exact W.iret (v := 3) hx hb hr (fun t ht hW => ⟨⟨3, (), rfl, hok, by rw [ht]; exact hP, va_K.moved hW.alike hK, hD⟩, hS.F ht⟩) hS.2.2 dX9_size_102
              · have hok := hok.2 c6
                refine lv_iload_n hx hb dX9_size_87 rfl (lv_at hl 2 rfl) ?_
                refine lv_bipush (v := 9) hx hb dX9_size_88 (by decide) ?_
                refine lv_icmp_ne (tgt := 101) hx hb dX9_size_90 (by decide) (fun c7 => ?_) (fun c7 => ?_)
                · have hok := hok.2 c7
                  refine lv_iconst (v := 2) hx hb dX9_size_101 (by decide) ?_
                  exact W.iret (v := 2) hx hb hr (fun t ht hW => ⟨⟨2, (), rfl, hok, by rw [ht]; exact hP, va_K.moved hW.alike hK, hD⟩, hS.F ht⟩) hS.2.2 dX9_size_102
                · have hok := hok.1 c7
                  refine lv_iload_n hx hb dX9_size_93 rfl (lv_at hl 0 rfl) ?_
                  refine lv_if_eq (tgt := 101) hx hb dX9_size_94 (by decide) (fun c8 => ?_) (fun c8 => ?_)
                  · have hok := hok.1 c8
                    refine lv_iconst (v := 2) hx hb dX9_size_101 (by decide) ?_
                    exact W.iret (v := 2) hx hb hr (fun t ht hW => ⟨⟨2, (), rfl, hok, by rw [ht]; exact hP, va_K.moved hW.alike hK, hD⟩, hS.F ht⟩) hS.2.2 dX9_size_102
                  · have hok := hok.2 c8
                    refine lv_iconst (v := 3) hx hb dX9_size_97 (by decide) ?_
                    refine lv_goto (tgt := 102) hx hb dX9_size_98 (by decide) ?_
                    exact W.iret (v := 3) hx hb hr (fun t ht hW => ⟨⟨3, (), rfl, hok, by rw [ht]; exact hP, va_K.moved hW.alike hK, hD⟩, hS.F ht⟩) hS.2.2 dX9_size_102
            · have hok := hok.1 c5
              refine lv_iconst (v := 1) hx hb dX9_size_79 (by decide) ?_
              exact W.iret (v := 1) hx hb hr (fun t ht hW => ⟨⟨1, (), rfl, hok, by rw [ht]; exact hP, va_K.moved hW.alike hK, hD⟩, hS.F ht⟩) hS.2.2 dX9_size_80
    · have hok := hok.1 c1
      refine lv_iload_n hx hb dX9_size_24 rfl (lv_at hl 1 rfl) ?_
      refine lv_bipush (v := 32) hx hb dX9_size_25 (by decide) ?_
      refine lv_icmp_ne (tgt := 34) hx hb dX9_size_27 (by decide) (fun c9 => ?_) (fun c9 => ?_)
      · have hok := hok.2 c9
        refine lv_iload_n hx hb dX9_size_34 rfl (lv_at hl 1 rfl) ?_
        refine lv_if_eq (tgt := 50) hx hb dX9_size_35 (by decide) (fun c10 => ?_) (fun c10 => ?_)
        · have hok := hok.1 c10
          refine lv_iconst (v := 1) hx hb dX9_size_50 (by decide) ?_
          refine lv_goto (tgt := 55) hx hb dX9_size_51 (by decide) ?_
          exact W.iret (v := 1) hx hb hr (fun t ht hW => ⟨⟨1, (), rfl, hok, by rw [ht]; exact hP, va_K.moved hW.alike hK, hD⟩, hS.F ht⟩) hS.2.2 dX9_size_55
        · have hok := hok.2 c10
          refine lv_iload_n hx hb dX9_size_38 rfl (lv_at hl 1 rfl) ?_
          refine lv_bipush (v := 64) hx hb dX9_size_39 (by decide) ?_
          refine lv_icmp_eq (tgt := 50) hx hb dX9_size_41 (by decide) (fun c11 => ?_) (fun c11 => ?_)
          · have hok := hok.1 c11
            refine lv_iconst (v := 1) hx hb dX9_size_50 (by decide) ?_
            refine lv_goto (tgt := 55) hx hb dX9_size_51 (by decide) ?_
            exact W.iret (v := 1) hx hb hr (fun t ht hW => ⟨⟨1, (), rfl, hok, by rw [ht]; exact hP, va_K.moved hW.alike hK, hD⟩, hS.F ht⟩) hS.2.2 dX9_size_55
          · have hok := hok.2 c11
            refine lv_iload_n hx hb dX9_size_44 rfl (lv_at hl 1 rfl) ?_
            refine lv_bipush (v := 96) hx hb dX9_size_45 (by decide) ?_
            refine lv_icmp_ne (tgt := 54) hx hb dX9_size_47 (by decide) (fun c12 => ?_) (fun c12 => ?_)
            · have hok := hok.2 c12
              refine lv_iconst (v := 2) hx hb dX9_size_54 (by decide) ?_
              exact W.iret (v := 2) hx hb hr (fun t ht hW => ⟨⟨2, (), rfl, hok, by rw [ht]; exact hP, va_K.moved hW.alike hK, hD⟩, hS.F ht⟩) hS.2.2 dX9_size_55
            · have hok := hok.1 c12
              refine lv_iconst (v := 1) hx hb dX9_size_50 (by decide) ?_
              refine lv_goto (tgt := 55) hx hb dX9_size_51 (by decide) ?_
              exact W.iret (v := 1) hx hb hr (fun t ht hW => ⟨⟨1, (), rfl, hok, by rw [ht]; exact hP, va_K.moved hW.alike hK, hD⟩, hS.F ht⟩) hS.2.2 dX9_size_55
      · have hok := hok.1 c9
        refine lv_iconst (v := 3) hx hb dX9_size_30 (by decide) ?_
        refine lv_goto (tgt := 55) hx hb dX9_size_31 (by decide) ?_
        exact W.iret (v := 3) hx hb hr (fun t ht hW => ⟨⟨3, (), rfl, hok, by rw [ht]; exact hP, va_K.moved hW.alike hK, hD⟩, hS.F ht⟩) hS.2.2 dX9_size_55
  have hl := lv_entry ([.int a1]) (n := 3) (Nat.le_of_ble_eq_true rfl)
  rw [lg_entry_eq]
  generalize (lg_sl ([.int a1]) ++ List.replicate (3 - (lg_sl ([.int a1])).length) Slot.unset).toArray = ls at hl ⊢
  have hl : lv_has ls 3 [(0, .int a1)] := hl
  unfold wp_X9_size at hok
  refine lv_iload_n hx hb dX9_size_0 rfl (lv_at hl 0 rfl) ?_
  refine lv_bipush (v := 15) hx hb dX9_size_1 (by decide) ?_
  refine lv_iand hx hb dX9_size_3 ?_
  refine lv_istore_n (lv' := [(1, .int (a1 &&& (15 : Int32))), (0, .int a1)]) hx hb dX9_size_4 rfl hl (by decide) rfl (fun ls hl => ?_)
  refine lv_iload_n hx hb dX9_size_5 rfl (lv_at hl 1 rfl) ?_
  refine lv_iconst (v := 4) hx hb dX9_size_6 (by decide) ?_
  refine lv_ishr hx hb dX9_size_7 ?_
  refine lv_iconst (v := 1) hx hb dX9_size_8 (by decide) ?_
  refine lv_iand hx hb dX9_size_9 ?_
  refine lv_topi (fun v13 ev13 => ?_)
  have hok := hok v13 ev13
  refine lv_iconst (v := 1) hx hb dX9_size_10 (by decide) ?_
  refine lv_icmp_ne (tgt := 18) hx hb dX9_size_11 (by decide) (fun c14 => ?_) (fun c14 => ?_)
  · have hok := hok.2 c14
    refine lv_iconst (v := 0) hx hb dX9_size_18 (by decide) ?_
    exact b19 a1 (a1 &&& (15 : Int32)) 0 hok _ _ hP hD hS _ (lv_sub hl [1, 0] rfl)
  · have hok := hok.1 c14
    refine lv_iconst (v := 1) hx hb dX9_size_14 (by decide) ?_
    refine lv_goto (tgt := 19) hx hb dX9_size_15 (by decide) ?_
    exact b19 a1 (a1 &&& (15 : Int32)) 1 hok _ _ hP hD hS _ (lv_sub hl [1, 0] rfl)
def wp_X9_indexed (σ : S_Model) (a1 : Int32) (a2 : Int32) (Φ : Int32 → S_Model → Prop) : Prop := ∀ v1 : Int32, v1 = ((a1 + a2) &&& (65535 : Int32)) >>> ((8 : Int32) &&& 31) → ((v1 = (a1 >>> ((8 : Int32) &&& 31)) → (Φ ((a1 + a2) &&& (65535 : Int32)) (upd σ.1 11 0, σ.2.1, σ.2.2))) ∧ (¬ v1 = (a1 >>> ((8 : Int32) &&& 31)) → (Φ ((a1 + a2) &&& (65535 : Int32)) (upd σ.1 11 1, σ.2.1, σ.2.2))))
set_option maxHeartbeats 4000000 in
set_option maxRecDepth 100000 in
theorem c_X9_indexed (l : Launch) (dC : Nat → ClassId) (dI : Nat → Nat → Nat) (cI cJ : ClassId) (h : Nat → Nat) (sz : Nat) {σ : S_Model} {a1 : Int32} {a2 : Int32} {Φ : Int32 → S_Model → Prop} (hok : wp_X9_indexed σ a1 a2 Φ) : Met l yX9_indexed wsX9_indexed ({ frames := 0, cells := 0, slots := 0, locals := 0 }) (va_Pc [.ref (h 13), .int a1, .int a2] (cpre dC dI cI cJ (w_Model h cI cJ σ) sz)) (va_Qi Φ (fun u => cpost dC dI cI cJ (va_A (w_Model h cI cJ σ) sz) (w_Model h cI cJ u)) (va_A (w_Model h cI cJ σ) sz)) 0 0 (va_A (w_Model h cI cJ σ) sz) := by
  refine Met.ofW (cc := cX9_indexed) (maxL := 4) (ret := (some .int)) (by decide) rfl ?_
  intro p e s m args below meth c s₁ B hml hv
  obtain ⟨rfl, hsz, hP, hK, hD0⟩ := hv
  have hx := B.exec
  have hb := B.bytes
  have hr := B.returns
  have hts := atoms_spec (ws := wsX9_indexed) B.pre
  have hown : s.vm.findClass RX9 = some m.cls := findClass_of_methodNamed B.named
  have hlocks := B.notSynchronized
  subst hsz
  have hD := hD0.self (sz := s.heap.size)
  generalize hAe : va_A (w_Model h cI cJ σ) s.heap.size = A at hD ⊢
  have hA : ∀ q : Nat, s.heap.size ≤ q → A q := fun q h => by rw [← hAe]; exact Or.inr h
  clear hD0 hAe
  have hS : va_S A s.heap s.heap [] := va_S.rf
  have hl := lv_entry ([.ref (h 13), .int a1, .int a2]) (n := 4) (Nat.le_of_ble_eq_true rfl)
  rw [lg_entry_eq]
  generalize (lg_sl ([.ref (h 13), .int a1, .int a2]) ++ List.replicate (4 - (lg_sl ([.ref (h 13), .int a1, .int a2])).length) Slot.unset).toArray = ls at hl ⊢
  have hl : lv_has ls 4 [(0, .ref (h 13)), (1, .int a1), (2, .int a2)] := hl
  unfold wp_X9_indexed at hok
  refine lv_iload_n hx hb dX9_indexed_0 rfl (lv_at hl 1 rfl) ?_
  refine lv_iload_n hx hb dX9_indexed_1 rfl (lv_at hl 2 rfl) ?_
  refine lv_iadd hx hb dX9_indexed_2 ?_
  refine lv_ldc (v := 65535) hx hb hown (hts _ (List.mem_cons_of_mem _ tw_3_186)) dX9_indexed_3 ?_
  refine lv_iand hx hb dX9_indexed_5 ?_
  refine lv_istore_n (lv' := [(3, .int ((a1 + a2) &&& (65535 : Int32))), (0, .ref (h 13)), (1, .int a1), (2, .int a2)]) hx hb dX9_indexed_6 rfl hl (by decide) rfl (fun ls hl => ?_)
  refine lv_aload_n hx hb dX9_indexed_7 rfl (lv_at hl 1 rfl) ?_
  refine lv_iload_n hx hb dX9_indexed_8 rfl (lv_at hl 0 rfl) ?_
  refine lv_bipush (v := 8) hx hb dX9_indexed_9 (by decide) ?_
  refine lv_ishr hx hb dX9_indexed_11 ?_
  refine lv_topi (fun v1 ev1 => ?_)
  have hok := hok v1 ev1
  refine lv_iload_n hx hb dX9_indexed_12 rfl (lv_at hl 2 rfl) ?_
  refine lv_bipush (v := 8) hx hb dX9_indexed_13 (by decide) ?_
  refine lv_ishr hx hb dX9_indexed_15 ?_
  refine lv_icmp_eq (tgt := 23) hx hb dX9_indexed_16 (by decide) (fun c2 => ?_) (fun c2 => ?_)
  · have hok := hok.1 c2
    refine lv_iconst (v := 0) hx hb dX9_indexed_23 (by decide) ?_
    refine va_put (D := (dC, dI)) (ci := 8) (v := .int 0) (ty := .boolean) (C := RX9) (T := TX9) (N := 33) hx hb hts (fun w h => List.mem_cons_of_mem _ (in_X9 w h)) tyX9 tyX9_ok nmX9 hown hK hP hD hS 0 rfl rfl 11 (by decide) (hts _ (List.mem_cons_of_mem _ tw_3_198)) (fun _ h9 => h9) rfl (by decide +kernel) rfl rfl (Nat.le_of_ble_eq_true rfl) dX9_indexed_24 (fun H locs hP hD hS => ?_)
    have hP : va_P (dC, dI) vwCl (w_Model h cI cJ (upd σ.1 11 0, σ.2.1, σ.2.2)) _ := hP
    have hD : va_D A (w_Model h cI cJ (upd σ.1 11 0, σ.2.1, σ.2.2)) := hD
    refine lv_iload_n hx hb dX9_indexed_27 rfl (lv_at hl 0 rfl) ?_
    exact W.iret (v := (a1 + a2) &&& (65535 : Int32)) hx hb hr (fun t ht hW => ⟨⟨(a1 + a2) &&& (65535 : Int32), (upd σ.1 11 0, σ.2.1, σ.2.2), rfl, hok, by rw [ht]; exact hP, va_K.moved hW.alike hK, hD⟩, hS.F ht⟩) hS.2.2 dX9_indexed_28
  · have hok := hok.2 c2
    refine lv_iconst (v := 1) hx hb dX9_indexed_19 (by decide) ?_
    refine lv_goto (tgt := 24) hx hb dX9_indexed_20 (by decide) ?_
    refine va_put (D := (dC, dI)) (ci := 8) (v := .int 1) (ty := .boolean) (C := RX9) (T := TX9) (N := 33) hx hb hts (fun w h => List.mem_cons_of_mem _ (in_X9 w h)) tyX9 tyX9_ok nmX9 hown hK hP hD hS 0 rfl rfl 11 (by decide) (hts _ (List.mem_cons_of_mem _ tw_3_198)) (fun _ h9 => h9) rfl (by decide +kernel) rfl rfl (Nat.le_of_ble_eq_true rfl) dX9_indexed_24 (fun H locs hP hD hS => ?_)
    have hP : va_P (dC, dI) vwCl (w_Model h cI cJ (upd σ.1 11 1, σ.2.1, σ.2.2)) _ := hP
    have hD : va_D A (w_Model h cI cJ (upd σ.1 11 1, σ.2.1, σ.2.2)) := hD
    refine lv_iload_n hx hb dX9_indexed_27 rfl (lv_at hl 0 rfl) ?_
    exact W.iret (v := (a1 + a2) &&& (65535 : Int32)) hx hb hr (fun t ht hW => ⟨⟨(a1 + a2) &&& (65535 : Int32), (upd σ.1 11 1, σ.2.1, σ.2.2), rfl, hok, by rw [ht]; exact hP, va_K.moved hW.alike hK, hD⟩, hS.F ht⟩) hS.2.2 dX9_indexed_28
def wp_X9_address (σ : S_Model) (a1 : Int32) (Φ : Int32 → S_Model → Prop) : Prop := ((a1 = 1 → (Φ (σ.1 9) (upd σ.1 11 0, σ.2.1, σ.2.2))) ∧ (a1 = 2 → ((vp_in 1 4 ∧ (∀ v3 : Int32, v3 = (σ.1 9) + ((σ.2.2 2) (1 : Int32).toNatClampNeg) → Φ (v3 &&& (255 : Int32)) (upd σ.1 11 0, σ.2.1, σ.2.2))))) ∧ (a1 = 3 → ((vp_in 2 4 ∧ (∀ v5 : Int32, v5 = (σ.1 9) + ((σ.2.2 2) (2 : Int32).toNatClampNeg) → Φ (v5 &&& (255 : Int32)) (upd σ.1 11 0, σ.2.1, σ.2.2))))) ∧ (a1 = 4 → (Φ (σ.1 10) (upd σ.1 11 0, σ.2.1, σ.2.2))) ∧ (a1 = 5 → ((vp_in 1 4 ∧ (wp_X9_indexed (upd σ.1 11 0, σ.2.1, σ.2.2) (σ.1 10) ((σ.2.2 2) (1 : Int32).toNatClampNeg) (fun r8 u9 => Φ r8 u9))))) ∧ (a1 = 6 → ((vp_in 2 4 ∧ (wp_X9_indexed (upd σ.1 11 0, σ.2.1, σ.2.2) (σ.1 10) ((σ.2.2 2) (2 : Int32).toNatClampNeg) (fun r11 u12 => Φ r11 u12))))) ∧ (a1 = 7 → ((vp_in 1 4 ∧ (∀ v14 : Int32, v14 = (σ.1 9) + ((σ.2.2 2) (1 : Int32).toNatClampNeg) → wp_X9_zeroWord (upd σ.1 11 0, σ.2.1, σ.2.2) v14 (fun r15 u16 => Φ r15 u16))))) ∧ (a1 = 8 → (wp_X9_zeroWord (upd σ.1 11 0, σ.2.1, σ.2.2) (σ.1 9) (fun r18 u19 => (vp_in 2 4 ∧ (wp_X9_indexed u19 r18 ((u19.2.2 2) (2 : Int32).toNatClampNeg) (fun r20 u21 => Φ r20 u21)))))) ∧ ((¬ a1 = 1 ∧ ¬ a1 = 2 ∧ ¬ a1 = 3 ∧ ¬ a1 = 4 ∧ ¬ a1 = 5 ∧ ¬ a1 = 6 ∧ ¬ a1 = 7 ∧ ¬ a1 = 8) → (wp_X9_zeroWord (upd σ.1 11 0, σ.2.1, σ.2.2) (σ.1 9) (fun r22 u23 => Φ r22 u23))))
set_option maxHeartbeats 4000000 in
set_option maxRecDepth 100000 in
theorem c_X9_address (l : Launch) (dC : Nat → ClassId) (dI : Nat → Nat → Nat) (cI cJ : ClassId) (h : Nat → Nat) (sz : Nat) {σ : S_Model} {a1 : Int32} {Φ : Int32 → S_Model → Prop} (hok : wp_X9_address σ a1 Φ) : Met l yX9_address wsX9_address ({ frames := 4, cells := 0, slots := 0, locals := 87 }) (va_Pc [.ref (h 13), .int a1] (cpre dC dI cI cJ (w_Model h cI cJ σ) sz)) (va_Qi Φ (fun u => cpost dC dI cI cJ (va_A (w_Model h cI cJ σ) sz) (w_Model h cI cJ u)) (va_A (w_Model h cI cJ σ) sz)) 0 0 (va_A (w_Model h cI cJ σ) sz) := by
  refine Met.ofW (cc := cX9_address) (maxL := 2) (ret := (some .int)) (by decide) rfl ?_
  intro p e s m args below meth c s₁ B hml hv
  obtain ⟨rfl, hsz, hP, hK, hD0⟩ := hv
  have hx := B.exec
  have hb := B.bytes
  have hr := B.returns
  have hts := atoms_spec (ws := wsX9_address) B.pre
  have hown : s.vm.findClass RX9 = some m.cls := findClass_of_methodNamed B.named
  have hlocks := B.notSynchronized
  subst hsz
  have hD := hD0.self (sz := s.heap.size)
  generalize hAe : va_A (w_Model h cI cJ σ) s.heap.size = A at hD ⊢
  have hA : ∀ q : Nat, s.heap.size ≤ q → A q := fun q h => by rw [← hAe]; exact Or.inr h
  clear hD0 hAe
  have hS : va_S A s.heap s.heap [] := va_S.rf
  have hl := lv_entry ([.ref (h 13), .int a1]) (n := 2) (Nat.le_of_ble_eq_true rfl)
  rw [lg_entry_eq]
  generalize (lg_sl ([.ref (h 13), .int a1]) ++ List.replicate (2 - (lg_sl ([.ref (h 13), .int a1])).length) Slot.unset).toArray = ls at hl ⊢
  have hl : lv_has ls 2 [(0, .ref (h 13)), (1, .int a1)] := hl
  unfold wp_X9_address at hok
  refine lv_aload_n hx hb dX9_address_0 rfl (lv_at hl 0 rfl) ?_
  refine lv_iconst (v := 0) hx hb dX9_address_1 (by decide) ?_
  refine va_put (D := (dC, dI)) (ci := 8) (v := .int 0) (ty := .boolean) (C := RX9) (T := TX9) (N := 33) hx hb hts (fun w h => List.mem_cons_of_mem _ (in_X9 w h)) tyX9 tyX9_ok nmX9 hown hK hP hD hS 0 rfl rfl 11 (by decide) (hts _ (List.mem_cons_of_mem _ tw_3_198)) (fun _ h9 => h9) rfl (by decide +kernel) rfl rfl (Nat.le_of_ble_eq_true rfl) dX9_address_2 (fun H locs hP hD hS => ?_)
  have hP : va_P (dC, dI) vwCl (w_Model h cI cJ (upd σ.1 11 0, σ.2.1, σ.2.2)) _ := hP
  have hD : va_D A (w_Model h cI cJ (upd σ.1 11 0, σ.2.1, σ.2.2)) := hD
  refine lv_iload_n hx hb dX9_address_5 rfl (lv_at hl 1 rfl) ?_
  by_cases c1 : a1 = 1
  · have hok := hok.1 c1
    refine lv_tableIn (tgt := 52) (off := 46) hx hb dX9_address_6 (by rw [c1]; decide) (by rw [c1]; decide) (by rw [c1]; decide) (by decide) ?_
    refine lv_aload_n hx hb dX9_address_52 rfl (lv_at hl 0 rfl) ?_
    refine va_get (D := (dC, dI)) (ci := 8) (v := .int (σ.1 9)) (C := RX9) (T := TX9) (N := 33) hx hb hts (fun w h => List.mem_cons_of_mem _ (in_X9 w h)) hown hK hP 0 rfl rfl 9 (by decide) (hts _ (List.mem_cons_of_mem _ tw_3_196)) (fun _ h9 => h9) rfl dX9_address_53 ?_
    exact W.iret (v := σ.1 9) hx hb hr (fun t ht hW => ⟨⟨σ.1 9, (upd σ.1 11 0, σ.2.1, σ.2.2), rfl, hok, by rw [ht]; exact hP, va_K.moved hW.alike hK, hD⟩, hS.F ht⟩) hS.2.2 dX9_address_56
  have hok := hok.2
  by_cases c2 : a1 = 2
  · have hok := hok.1 c2
    refine lv_tableIn (tgt := 57) (off := 51) hx hb dX9_address_6 (by rw [c2]; decide) (by rw [c2]; decide) (by rw [c2]; decide) (by decide) ?_
    refine lv_aload_n hx hb dX9_address_57 rfl (lv_at hl 0 rfl) ?_
    refine va_get (D := (dC, dI)) (ci := 8) (v := .int (σ.1 9)) (C := RX9) (T := TX9) (N := 33) hx hb hts (fun w h => List.mem_cons_of_mem _ (in_X9 w h)) hown hK hP 0 rfl rfl 9 (by decide) (hts _ (List.mem_cons_of_mem _ tw_3_196)) (fun _ h9 => h9) rfl dX9_address_58 ?_
    refine lv_aload_n hx hb dX9_address_61 rfl (lv_at hl 0 rfl) ?_
    refine va_get (D := (dC, dI)) (ci := 8) (v := .ref (h 15)) (C := RX9) (T := TX9) (N := 33) hx hb hts (fun w h => List.mem_cons_of_mem _ (in_X9 w h)) hown hK hP 0 rfl rfl 2 (by decide) (hts _ (List.mem_cons_of_mem _ tw_3_189)) (fun _ h9 => h9) rfl dX9_address_62 ?_
    refine lv_iconst (v := 1) hx hb dX9_address_65 (by decide) ?_
    refine va_iald hx hb hK hP 2 0 rfl rfl hok.1 dX9_address_66 ?_
    have hok := hok.2
    refine lv_iadd hx hb dX9_address_67 ?_
    refine lv_topi (fun v3 ev3 => ?_)
    have hok := hok v3 ev3
    refine lv_sipush (v := 255) hx hb dX9_address_68 (by decide) ?_
    refine lv_iand hx hb dX9_address_71 ?_
    exact W.iret (v := v3 &&& (255 : Int32)) hx hb hr (fun t ht hW => ⟨⟨v3 &&& (255 : Int32), (upd σ.1 11 0, σ.2.1, σ.2.2), rfl, hok, by rw [ht]; exact hP, va_K.moved hW.alike hK, hD⟩, hS.F ht⟩) hS.2.2 dX9_address_72
  have hok := hok.2
  by_cases c4 : a1 = 3
  · have hok := hok.1 c4
    refine lv_tableIn (tgt := 73) (off := 67) hx hb dX9_address_6 (by rw [c4]; decide) (by rw [c4]; decide) (by rw [c4]; decide) (by decide) ?_
    refine lv_aload_n hx hb dX9_address_73 rfl (lv_at hl 0 rfl) ?_
    refine va_get (D := (dC, dI)) (ci := 8) (v := .int (σ.1 9)) (C := RX9) (T := TX9) (N := 33) hx hb hts (fun w h => List.mem_cons_of_mem _ (in_X9 w h)) hown hK hP 0 rfl rfl 9 (by decide) (hts _ (List.mem_cons_of_mem _ tw_3_196)) (fun _ h9 => h9) rfl dX9_address_74 ?_
    refine lv_aload_n hx hb dX9_address_77 rfl (lv_at hl 0 rfl) ?_
    refine va_get (D := (dC, dI)) (ci := 8) (v := .ref (h 15)) (C := RX9) (T := TX9) (N := 33) hx hb hts (fun w h => List.mem_cons_of_mem _ (in_X9 w h)) hown hK hP 0 rfl rfl 2 (by decide) (hts _ (List.mem_cons_of_mem _ tw_3_189)) (fun _ h9 => h9) rfl dX9_address_78 ?_
    refine lv_iconst (v := 2) hx hb dX9_address_81 (by decide) ?_
    refine va_iald hx hb hK hP 2 0 rfl rfl hok.1 dX9_address_82 ?_
    have hok := hok.2
    refine lv_iadd hx hb dX9_address_83 ?_
    refine lv_topi (fun v5 ev5 => ?_)
    have hok := hok v5 ev5
    refine lv_sipush (v := 255) hx hb dX9_address_84 (by decide) ?_
    refine lv_iand hx hb dX9_address_87 ?_
    exact W.iret (v := v5 &&& (255 : Int32)) hx hb hr (fun t ht hW => ⟨⟨v5 &&& (255 : Int32), (upd σ.1 11 0, σ.2.1, σ.2.2), rfl, hok, by rw [ht]; exact hP, va_K.moved hW.alike hK, hD⟩, hS.F ht⟩) hS.2.2 dX9_address_88
  have hok := hok.2
  by_cases c6 : a1 = 4
  · have hok := hok.1 c6
    refine lv_tableIn (tgt := 89) (off := 83) hx hb dX9_address_6 (by rw [c6]; decide) (by rw [c6]; decide) (by rw [c6]; decide) (by decide) ?_
    refine lv_aload_n hx hb dX9_address_89 rfl (lv_at hl 0 rfl) ?_
    refine va_get (D := (dC, dI)) (ci := 8) (v := .int (σ.1 10)) (C := RX9) (T := TX9) (N := 33) hx hb hts (fun w h => List.mem_cons_of_mem _ (in_X9 w h)) hown hK hP 0 rfl rfl 10 (by decide) (hts _ (List.mem_cons_of_mem _ tw_3_197)) (fun _ h9 => h9) rfl dX9_address_90 ?_
    exact W.iret (v := σ.1 10) hx hb hr (fun t ht hW => ⟨⟨σ.1 10, (upd σ.1 11 0, σ.2.1, σ.2.2), rfl, hok, by rw [ht]; exact hP, va_K.moved hW.alike hK, hD⟩, hS.F ht⟩) hS.2.2 dX9_address_93
  have hok := hok.2
  by_cases c7 : a1 = 5
  · have hok := hok.1 c7
    refine lv_tableIn (tgt := 94) (off := 88) hx hb dX9_address_6 (by rw [c7]; decide) (by rw [c7]; decide) (by rw [c7]; decide) (by decide) ?_
    refine lv_aload_n hx hb dX9_address_94 rfl (lv_at hl 0 rfl) ?_
    refine lv_aload_n hx hb dX9_address_95 rfl (lv_at hl 0 rfl) ?_
    refine va_get (D := (dC, dI)) (ci := 8) (v := .int (σ.1 10)) (C := RX9) (T := TX9) (N := 33) hx hb hts (fun w h => List.mem_cons_of_mem _ (in_X9 w h)) hown hK hP 0 rfl rfl 10 (by decide) (hts _ (List.mem_cons_of_mem _ tw_3_197)) (fun _ h9 => h9) rfl dX9_address_96 ?_
    refine lv_aload_n hx hb dX9_address_99 rfl (lv_at hl 0 rfl) ?_
    refine va_get (D := (dC, dI)) (ci := 8) (v := .ref (h 15)) (C := RX9) (T := TX9) (N := 33) hx hb hts (fun w h => List.mem_cons_of_mem _ (in_X9 w h)) hown hK hP 0 rfl rfl 2 (by decide) (hts _ (List.mem_cons_of_mem _ tw_3_189)) (fun _ h9 => h9) rfl dX9_address_100 ?_
    refine lv_iconst (v := 1) hx hb dX9_address_103 (by decide) ?_
    refine va_iald hx hb hK hP 2 0 rfl rfl hok.1 dX9_address_104 ?_
    have hok := hok.2
    have hPc := hP
    have hDc := hD
    have hFc := va_free (wc := w_Model h cI cJ (upd σ.1 11 0, σ.2.1, σ.2.2)) hD hS hA [0, 1, 2, 3, 4, 5, 6] rfl
    refine va_calli (va_runV (As := [.int (σ.1 10), .int ((σ.2.2 2) (1 : Int32).toNatClampNeg)]) (rest := []) ⟨hx, hb, hml, hown, hts⟩ (c_X9_indexed l dC dI cI cJ h _ hok) (cwV 2 hts (tb_gV tw_4_152 tw_4_154 tw_p_57 tw_1_9 tw_4_155) rfl rfl rfl (by decide +kernel) ⟨Nat.le_of_ble_eq_true rfl, Nat.le_of_ble_eq_true rfl⟩) (cpre_V (ci := 8) (q0 := 0) hK hPc hDc rfl rfl) rfl rfl hl.1 rfl (lv_room (Nat.le_of_ble_eq_true rfl)) dX9_address_105 ⟨Nat.le_of_ble_eq_true rfl, Nat.le_of_ble_eq_true rfl⟩) hS (fun q _ h => hFc q h) hFc (fun r8 u9 t H1 locs ht hvm hok hB hz1 hk1 hS => ?_)
    obtain ⟨hP, hD⟩ := cjoin_w ht hB hFc
    exact W.iret (v := r8) hx hb hr (fun t ht hW => ⟨⟨r8, u9, rfl, hok, by rw [ht]; exact hP, va_K.moved hW.alike hK, hD⟩, hS.F ht⟩) hS.2.2 dX9_address_108
  have hok := hok.2
  by_cases c10 : a1 = 6
  · have hok := hok.1 c10
    refine lv_tableIn (tgt := 109) (off := 103) hx hb dX9_address_6 (by rw [c10]; decide) (by rw [c10]; decide) (by rw [c10]; decide) (by decide) ?_
    refine lv_aload_n hx hb dX9_address_109 rfl (lv_at hl 0 rfl) ?_
    refine lv_aload_n hx hb dX9_address_110 rfl (lv_at hl 0 rfl) ?_
    refine va_get (D := (dC, dI)) (ci := 8) (v := .int (σ.1 10)) (C := RX9) (T := TX9) (N := 33) hx hb hts (fun w h => List.mem_cons_of_mem _ (in_X9 w h)) hown hK hP 0 rfl rfl 10 (by decide) (hts _ (List.mem_cons_of_mem _ tw_3_197)) (fun _ h9 => h9) rfl dX9_address_111 ?_
    refine lv_aload_n hx hb dX9_address_114 rfl (lv_at hl 0 rfl) ?_
    refine va_get (D := (dC, dI)) (ci := 8) (v := .ref (h 15)) (C := RX9) (T := TX9) (N := 33) hx hb hts (fun w h => List.mem_cons_of_mem _ (in_X9 w h)) hown hK hP 0 rfl rfl 2 (by decide) (hts _ (List.mem_cons_of_mem _ tw_3_189)) (fun _ h9 => h9) rfl dX9_address_115 ?_
    refine lv_iconst (v := 2) hx hb dX9_address_118 (by decide) ?_
    refine va_iald hx hb hK hP 2 0 rfl rfl hok.1 dX9_address_119 ?_
    have hok := hok.2
    have hPc := hP
    have hDc := hD
    have hFc := va_free (wc := w_Model h cI cJ (upd σ.1 11 0, σ.2.1, σ.2.2)) hD hS hA [0, 1, 2, 3, 4, 5, 6] rfl
    refine va_calli (va_runV (As := [.int (σ.1 10), .int ((σ.2.2 2) (2 : Int32).toNatClampNeg)]) (rest := []) ⟨hx, hb, hml, hown, hts⟩ (c_X9_indexed l dC dI cI cJ h _ hok) (cwV 2 hts (tb_gV tw_4_152 tw_4_154 tw_p_57 tw_1_9 tw_4_155) rfl rfl rfl (by decide +kernel) ⟨Nat.le_of_ble_eq_true rfl, Nat.le_of_ble_eq_true rfl⟩) (cpre_V (ci := 8) (q0 := 0) hK hPc hDc rfl rfl) rfl rfl hl.1 rfl (lv_room (Nat.le_of_ble_eq_true rfl)) dX9_address_120 ⟨Nat.le_of_ble_eq_true rfl, Nat.le_of_ble_eq_true rfl⟩) hS (fun q _ h => hFc q h) hFc (fun r11 u12 t H1 locs ht hvm hok hB hz1 hk1 hS => ?_)
    obtain ⟨hP, hD⟩ := cjoin_w ht hB hFc
    exact W.iret (v := r11) hx hb hr (fun t ht hW => ⟨⟨r11, u12, rfl, hok, by rw [ht]; exact hP, va_K.moved hW.alike hK, hD⟩, hS.F ht⟩) hS.2.2 dX9_address_123
  have hok := hok.2
  by_cases c13 : a1 = 7
  · have hok := hok.1 c13
    refine lv_tableIn (tgt := 124) (off := 118) hx hb dX9_address_6 (by rw [c13]; decide) (by rw [c13]; decide) (by rw [c13]; decide) (by decide) ?_
    refine lv_aload_n hx hb dX9_address_124 rfl (lv_at hl 0 rfl) ?_
    refine lv_aload_n hx hb dX9_address_125 rfl (lv_at hl 0 rfl) ?_
    refine va_get (D := (dC, dI)) (ci := 8) (v := .int (σ.1 9)) (C := RX9) (T := TX9) (N := 33) hx hb hts (fun w h => List.mem_cons_of_mem _ (in_X9 w h)) hown hK hP 0 rfl rfl 9 (by decide) (hts _ (List.mem_cons_of_mem _ tw_3_196)) (fun _ h9 => h9) rfl dX9_address_126 ?_
    refine lv_aload_n hx hb dX9_address_129 rfl (lv_at hl 0 rfl) ?_
    refine va_get (D := (dC, dI)) (ci := 8) (v := .ref (h 15)) (C := RX9) (T := TX9) (N := 33) hx hb hts (fun w h => List.mem_cons_of_mem _ (in_X9 w h)) hown hK hP 0 rfl rfl 2 (by decide) (hts _ (List.mem_cons_of_mem _ tw_3_189)) (fun _ h9 => h9) rfl dX9_address_130 ?_
    refine lv_iconst (v := 1) hx hb dX9_address_133 (by decide) ?_
    refine va_iald hx hb hK hP 2 0 rfl rfl hok.1 dX9_address_134 ?_
    have hok := hok.2
    refine lv_iadd hx hb dX9_address_135 ?_
    refine lv_topi (fun v14 ev14 => ?_)
    have hok := hok v14 ev14
    have hPc := hP
    have hDc := hD
    have hFc := va_free (wc := w_Model h cI cJ (upd σ.1 11 0, σ.2.1, σ.2.2)) hD hS hA [0, 1, 2, 3, 4, 5, 6] rfl
    refine va_calli (va_runV (As := [.int v14]) (rest := []) ⟨hx, hb, hml, hown, hts⟩ (c_X9_zeroWord l dC dI cI cJ h _ hok) (cwV 1 hts (tb_gV tw_4_156 tw_4_158 tw_p_58 tw_1_9 tw_4_159) rfl rfl rfl (by decide +kernel) ⟨Nat.le_of_ble_eq_true rfl, Nat.le_of_ble_eq_true rfl⟩) (cpre_V (ci := 8) (q0 := 0) hK hPc hDc rfl rfl) rfl rfl hl.1 rfl (lv_room (Nat.le_of_ble_eq_true rfl)) dX9_address_136 ⟨Nat.le_of_ble_eq_true rfl, Nat.le_of_ble_eq_true rfl⟩) hS (fun q _ h => hFc q h) hFc (fun r15 u16 t H1 locs ht hvm hok hB hz1 hk1 hS => ?_)
    obtain ⟨hP, hD⟩ := cjoin_w ht hB hFc
    exact W.iret (v := r15) hx hb hr (fun t ht hW => ⟨⟨r15, u16, rfl, hok, by rw [ht]; exact hP, va_K.moved hW.alike hK, hD⟩, hS.F ht⟩) hS.2.2 dX9_address_139
  have hok := hok.2
  by_cases c17 : a1 = 8
  · have hok := hok.1 c17
    refine lv_tableIn (tgt := 140) (off := 134) hx hb dX9_address_6 (by rw [c17]; decide) (by rw [c17]; decide) (by rw [c17]; decide) (by decide) ?_
    refine lv_aload_n hx hb dX9_address_140 rfl (lv_at hl 0 rfl) ?_
    refine lv_aload_n hx hb dX9_address_141 rfl (lv_at hl 0 rfl) ?_
    refine lv_aload_n hx hb dX9_address_142 rfl (lv_at hl 0 rfl) ?_
    refine va_get (D := (dC, dI)) (ci := 8) (v := .int (σ.1 9)) (C := RX9) (T := TX9) (N := 33) hx hb hts (fun w h => List.mem_cons_of_mem _ (in_X9 w h)) hown hK hP 0 rfl rfl 9 (by decide) (hts _ (List.mem_cons_of_mem _ tw_3_196)) (fun _ h9 => h9) rfl dX9_address_143 ?_
    have hPc := hP
    have hDc := hD
    have hFc := va_free (wc := w_Model h cI cJ (upd σ.1 11 0, σ.2.1, σ.2.2)) hD hS hA [0, 1, 2, 3, 4, 5, 6] rfl
    refine va_calli (va_runV (As := [.int (σ.1 9)]) (rest := [.ref (h 13)]) ⟨hx, hb, hml, hown, hts⟩ (c_X9_zeroWord l dC dI cI cJ h _ hok) (cwV 1 hts (tb_gV tw_4_156 tw_4_158 tw_p_58 tw_1_9 tw_4_159) rfl rfl rfl (by decide +kernel) ⟨Nat.le_of_ble_eq_true rfl, Nat.le_of_ble_eq_true rfl⟩) (cpre_V (ci := 8) (q0 := 0) hK hPc hDc rfl rfl) rfl rfl hl.1 rfl (lv_room (Nat.le_of_ble_eq_true rfl)) dX9_address_146 ⟨Nat.le_of_ble_eq_true rfl, Nat.le_of_ble_eq_true rfl⟩) hS (fun q _ h => hFc q h) hFc (fun r18 u19 t H1 locs ht hvm hok hB hz1 hk1 hS => ?_)
    obtain ⟨hP, hD⟩ := cjoin_w ht hB hFc
    refine lv_aload_n hx hb dX9_address_149 rfl (lv_at hl 0 rfl) ?_
    refine va_get (D := (dC, dI)) (ci := 8) (v := .ref (h 15)) (C := RX9) (T := TX9) (N := 33) hx hb hts (fun w h => List.mem_cons_of_mem _ (in_X9 w h)) hown hK hP 0 rfl rfl 2 (by decide) (hts _ (List.mem_cons_of_mem _ tw_3_189)) (fun _ h9 => h9) rfl dX9_address_150 ?_
    refine lv_iconst (v := 2) hx hb dX9_address_153 (by decide) ?_
    refine va_iald hx hb hK hP 2 0 rfl rfl hok.1 dX9_address_154 ?_
    have hok := hok.2
    have hPc := hP
    have hDc := hD
    have hFc := va_free (wc := w_Model h cI cJ u19) hD hS hA [0, 1, 2, 3, 4, 5, 6] rfl
    refine va_calli (va_runV (As := [.int r18, .int ((u19.2.2 2) (2 : Int32).toNatClampNeg)]) (rest := []) ⟨hx, hb, hml, hown, hts⟩ (c_X9_indexed l dC dI cI cJ h _ hok) (cwV 2 hts (tb_gV tw_4_152 tw_4_154 tw_p_57 tw_1_9 tw_4_155) rfl rfl rfl (by decide +kernel) ⟨Nat.le_of_ble_eq_true rfl, Nat.le_of_ble_eq_true rfl⟩) (cpre_V (ci := 8) (q0 := 0) hK hPc hDc rfl rfl) rfl rfl hl.1 rfl (lv_room (Nat.le_of_ble_eq_true rfl)) dX9_address_155 ⟨Nat.le_of_ble_eq_true rfl, Nat.le_of_ble_eq_true rfl⟩) hS (fun q _ h => hFc q h) hFc (fun r20 u21 t H1 locs ht hvm hok hB hz1 hk1 hS => ?_)
    obtain ⟨hP, hD⟩ := cjoin_w ht hB hFc
    exact W.iret (v := r20) hx hb hr (fun t ht hW => ⟨⟨r20, u21, rfl, hok, by rw [ht]; exact hP, va_K.moved hW.alike hK, hD⟩, hS.F ht⟩) hS.2.2 dX9_address_158
  have hok := hok.2
  have hok := hok ⟨c1, c2, c4, c6, c7, c10, c13, c17⟩
  have kz21 : ∀ k ∈ ([1, 2, 3, 4, 5, 6, 7, 8] : List Int), (a1).toInt ≠ k := List.forall_mem_cons.mpr ⟨tb_ne c1 rfl, List.forall_mem_cons.mpr ⟨tb_ne c2 rfl, List.forall_mem_cons.mpr ⟨tb_ne c4 rfl, List.forall_mem_cons.mpr ⟨tb_ne c6 rfl, List.forall_mem_cons.mpr ⟨tb_ne c7 rfl, List.forall_mem_cons.mpr ⟨tb_ne c10 rfl, List.forall_mem_cons.mpr ⟨tb_ne c13 rfl, List.forall_mem_cons.mpr ⟨tb_ne c17 rfl, fun k h => absurd h List.not_mem_nil⟩⟩⟩⟩⟩⟩⟩⟩
  refine tb_def (tgt := 159) (keys := [1, 2, 3, 4, 5, 6, 7, 8]) hx hb dX9_address_6 kz21 (by decide) (by decide) ?_
  refine lv_aload_n hx hb dX9_address_159 rfl (lv_at hl 0 rfl) ?_
  refine lv_aload_n hx hb dX9_address_160 rfl (lv_at hl 0 rfl) ?_
  refine va_get (D := (dC, dI)) (ci := 8) (v := .int (σ.1 9)) (C := RX9) (T := TX9) (N := 33) hx hb hts (fun w h => List.mem_cons_of_mem _ (in_X9 w h)) hown hK hP 0 rfl rfl 9 (by decide) (hts _ (List.mem_cons_of_mem _ tw_3_196)) (fun _ h9 => h9) rfl dX9_address_161 ?_
  have hPc := hP
  have hDc := hD
  have hFc := va_free (wc := w_Model h cI cJ (upd σ.1 11 0, σ.2.1, σ.2.2)) hD hS hA [0, 1, 2, 3, 4, 5, 6] rfl
  refine va_calli (va_runV (As := [.int (σ.1 9)]) (rest := []) ⟨hx, hb, hml, hown, hts⟩ (c_X9_zeroWord l dC dI cI cJ h _ hok) (cwV 1 hts (tb_gV tw_4_156 tw_4_158 tw_p_58 tw_1_9 tw_4_159) rfl rfl rfl (by decide +kernel) ⟨Nat.le_of_ble_eq_true rfl, Nat.le_of_ble_eq_true rfl⟩) (cpre_V (ci := 8) (q0 := 0) hK hPc hDc rfl rfl) rfl rfl hl.1 rfl (lv_room (Nat.le_of_ble_eq_true rfl)) dX9_address_164 ⟨Nat.le_of_ble_eq_true rfl, Nat.le_of_ble_eq_true rfl⟩) hS (fun q _ h => hFc q h) hFc (fun r22 u23 t H1 locs ht hvm hok hB hz1 hk1 hS => ?_)
  obtain ⟨hP, hD⟩ := cjoin_w ht hB hFc
  exact W.iret (v := r22) hx hb hr (fun t ht hW => ⟨⟨r22, u23, rfl, hok, by rw [ht]; exact hP, va_K.moved hW.alike hK, hD⟩, hS.F ht⟩) hS.2.2 dX9_address_167
def wp_X9_time (a1 : Int32) (Φ : Int32 → Prop) : Prop := ((a1 = 0 → (Φ 2)) ∧ (¬ a1 = 0 → (((a1 = (1 : Int32) → (Φ 3)) ∧ (¬ a1 = (1 : Int32) → (((a1 = (7 : Int32) → (Φ 6)) ∧ (¬ a1 = (7 : Int32) → (((a1 = (8 : Int32) → (Φ 5)) ∧ (¬ a1 = (8 : Int32) → (((a1 = (9 : Int32) → (Φ 5)) ∧ (¬ a1 = (9 : Int32) → (Φ 4)))))))))))))))
set_option maxHeartbeats 4000000 in
set_option maxRecDepth 100000 in
theorem c_X9_time (l : Launch) (dC : Nat → ClassId) (dI : Nat → Nat → Nat) (cI cJ : ClassId) (h : Nat → Nat) (sz : Nat) {a1 : Int32} {Φ : Int32 → Prop} (hok : wp_X9_time a1 Φ) : Met l yX9_time wsX9_time ({ frames := 0, cells := 0, slots := 0, locals := 0 }) (va_Pc [.int a1] (cpre dC dI cI cJ ([] : va_W) sz)) (va_Qi (fun (r : Int32) (_ : Unit) => Φ r) (fun _ => cpost dC dI cI cJ (va_A ([] : va_W) sz) ([] : va_W)) (va_A ([] : va_W) sz)) 0 0 (va_A ([] : va_W) sz) := by
  refine Met.ofW (cc := cX9_time) (maxL := 1) (ret := (some .int)) (by decide) rfl ?_
  intro p e s m args below meth c s₁ B hml hv
  obtain ⟨rfl, hsz, hP, hK, hD0⟩ := hv
  have hx := B.exec
  have hb := B.bytes
  have hr := B.returns
  have hts := atoms_spec (ws := wsX9_time) B.pre
  have hown : s.vm.findClass RX9 = some m.cls := findClass_of_methodNamed B.named
  have hlocks := B.notSynchronized
  subst hsz
  have hD := hD0.self (sz := s.heap.size)
  generalize hAe : va_A ([] : va_W) s.heap.size = A at hD ⊢
  have hA : ∀ q : Nat, s.heap.size ≤ q → A q := fun q h => by rw [← hAe]; exact Or.inr h
  clear hD0 hAe
  have hS : va_S A s.heap s.heap [] := va_S.rf
  have hl := lv_entry ([.int a1]) (n := 1) (Nat.le_of_ble_eq_true rfl)
  rw [lg_entry_eq]
  generalize (lg_sl ([.int a1]) ++ List.replicate (1 - (lg_sl ([.int a1])).length) Slot.unset).toArray = ls at hl ⊢
  have hl : lv_has ls 1 [(0, .int a1)] := hl
  unfold wp_X9_time at hok
  refine lv_iload_n hx hb dX9_time_0 rfl (lv_at hl 0 rfl) ?_
  refine lv_if_ne (tgt := 8) hx hb dX9_time_1 (by decide) (fun c1 => ?_) (fun c1 => ?_)
  · have hok := hok.2 c1
    refine lv_iload_n hx hb dX9_time_8 rfl (lv_at hl 0 rfl) ?_
    refine lv_iconst (v := 1) hx hb dX9_time_9 (by decide) ?_
    refine lv_icmp_ne (tgt := 17) hx hb dX9_time_10 (by decide) (fun c2 => ?_) (fun c2 => ?_)
    · have hok := hok.2 c2
      refine lv_iload_n hx hb dX9_time_17 rfl (lv_at hl 0 rfl) ?_
      refine lv_bipush (v := 7) hx hb dX9_time_18 (by decide) ?_
      refine lv_icmp_ne (tgt := 28) hx hb dX9_time_20 (by decide) (fun c3 => ?_) (fun c3 => ?_)
      · have hok := hok.2 c3
        refine lv_iload_n hx hb dX9_time_28 rfl (lv_at hl 0 rfl) ?_
        refine lv_bipush (v := 8) hx hb dX9_time_29 (by decide) ?_
        refine lv_icmp_eq (tgt := 40) hx hb dX9_time_31 (by decide) (fun c4 => ?_) (fun c4 => ?_)
        · have hok := hok.1 c4
          refine lv_iconst (v := 5) hx hb dX9_time_40 (by decide) ?_
          refine lv_goto (tgt := 45) hx hb dX9_time_41 (by decide) ?_
          exact W.iret (v := 5) hx hb hr (fun t ht hW => ⟨⟨5, (), rfl, hok, by rw [ht]; exact hP, va_K.moved hW.alike hK, hD⟩, hS.F ht⟩) hS.2.2 dX9_time_45
        · have hok := hok.2 c4
          refine lv_iload_n hx hb dX9_time_34 rfl (lv_at hl 0 rfl) ?_
          refine lv_bipush (v := 9) hx hb dX9_time_35 (by decide) ?_
          refine lv_icmp_ne (tgt := 44) hx hb dX9_time_37 (by decide) (fun c5 => ?_) (fun c5 => ?_)
          · have hok := hok.2 c5
            refine lv_iconst (v := 4) hx hb dX9_time_44 (by decide) ?_
            exact W.iret (v := 4) hx hb hr (fun t ht hW => ⟨⟨4, (), rfl, hok, by rw [ht]; exact hP, va_K.moved hW.alike hK, hD⟩, hS.F ht⟩) hS.2.2 dX9_time_45
          · have hok := hok.1 c5
            refine lv_iconst (v := 5) hx hb dX9_time_40 (by decide) ?_
            refine lv_goto (tgt := 45) hx hb dX9_time_41 (by decide) ?_
            exact W.iret (v := 5) hx hb hr (fun t ht hW => ⟨⟨5, (), rfl, hok, by rw [ht]; exact hP, va_K.moved hW.alike hK, hD⟩, hS.F ht⟩) hS.2.2 dX9_time_45
      · have hok := hok.1 c3
        refine lv_bipush (v := 6) hx hb dX9_time_23 (by decide) ?_
        refine lv_goto (tgt := 45) hx hb dX9_time_25 (by decide) ?_
        exact W.iret (v := 6) hx hb hr (fun t ht hW => ⟨⟨6, (), rfl, hok, by rw [ht]; exact hP, va_K.moved hW.alike hK, hD⟩, hS.F ht⟩) hS.2.2 dX9_time_45
    · have hok := hok.1 c2
      refine lv_iconst (v := 3) hx hb dX9_time_13 (by decide) ?_
      refine lv_goto (tgt := 45) hx hb dX9_time_14 (by decide) ?_
      exact W.iret (v := 3) hx hb hr (fun t ht hW => ⟨⟨3, (), rfl, hok, by rw [ht]; exact hP, va_K.moved hW.alike hK, hD⟩, hS.F ht⟩) hS.2.2 dX9_time_45
  · have hok := hok.1 c1
    refine lv_iconst (v := 2) hx hb dX9_time_4 (by decide) ?_
    refine lv_goto (tgt := 45) hx hb dX9_time_5 (by decide) ?_
    exact W.iret (v := 2) hx hb hr (fun t ht hW => ⟨⟨2, (), rfl, hok, by rw [ht]; exact hP, va_K.moved hW.alike hK, hD⟩, hS.F ht⟩) hS.2.2 dX9_time_45
def wp_X9_wide_14  (x0 : Int32) (s0 : Int32) (Φ : Int32 → Prop) : Prop := (((x0 &&& (15 : Int32)) = 1 → (((s0 = 0 → (Φ 7)) ∧ (¬ s0 = 0 → (Φ 8))))) ∧ ((x0 &&& (15 : Int32)) = 2 → (Φ 9)) ∧ ((x0 &&& (15 : Int32)) = 5 → (((s0 = 0 → (Φ 1)) ∧ (¬ s0 = 0 → (Φ 2))))) ∧ ((x0 &&& (15 : Int32)) = 9 → (((s0 = 0 → (Φ 0)) ∧ (¬ s0 = 0 → (Φ 6))))) ∧ ((¬ (x0 &&& (15 : Int32)) = 1 ∧ ¬ (x0 &&& (15 : Int32)) = 2 ∧ ¬ (x0 &&& (15 : Int32)) = 5 ∧ ¬ (x0 &&& (15 : Int32)) = 9) → (((s0 = 0 → (Φ 4)) ∧ (¬ s0 = 0 → (Φ 5))))))
def wp_X9_wide (a1 : Int32) (Φ : Int32 → Prop) : Prop := ∀ v9 : Int32, v9 = (a1 >>> ((4 : Int32) &&& 31)) &&& (1 : Int32) → ((v9 = (1 : Int32) → (wp_X9_wide_14 a1 1 Φ)) ∧ (¬ v9 = (1 : Int32) → (wp_X9_wide_14 a1 0 Φ)))
set_option maxHeartbeats 4000000 in
set_option maxRecDepth 100000 in
theorem c_X9_wide (l : Launch) (dC : Nat → ClassId) (dI : Nat → Nat → Nat) (cI cJ : ClassId) (h : Nat → Nat) (sz : Nat) {a1 : Int32} {Φ : Int32 → Prop} (hok : wp_X9_wide a1 Φ) : Met l yX9_wide wsX9_wide ({ frames := 0, cells := 0, slots := 0, locals := 0 }) (va_Pc [.int a1] (cpre dC dI cI cJ ([] : va_W) sz)) (va_Qi (fun (r : Int32) (_ : Unit) => Φ r) (fun _ => cpost dC dI cI cJ (va_A ([] : va_W) sz) ([] : va_W)) (va_A ([] : va_W) sz)) 0 0 (va_A ([] : va_W) sz) := by
  refine Met.ofW (cc := cX9_wide) (maxL := 2) (ret := (some .int)) (by decide) rfl ?_
  intro p e s m args below meth c s₁ B hml hv
  obtain ⟨rfl, hsz, hP, hK, hD0⟩ := hv
  have hx := B.exec
  have hb := B.bytes
  have hr := B.returns
  have hts := atoms_spec (ws := wsX9_wide) B.pre
  have hown : s.vm.findClass RX9 = some m.cls := findClass_of_methodNamed B.named
  have hlocks := B.notSynchronized
  subst hsz
  have hD := hD0.self (sz := s.heap.size)
  generalize hAe : va_A ([] : va_W) s.heap.size = A at hD ⊢
  have hA : ∀ q : Nat, s.heap.size ≤ q → A q := fun q h => by rw [← hAe]; exact Or.inr h
  clear hD0 hAe
  have hS : va_S A s.heap s.heap [] := va_S.rf
  have b14 : ∀  (x0 : Int32) (s0 : Int32), wp_X9_wide_14  x0 s0 Φ → ∀ (H : Heap) (locs : List Loc), va_P (dC, dI) vwCl ([] : va_W) H → va_D A ([] : va_W) → va_S A s.heap H locs → ∀ ls : Array Slot, lv_has ls 2 [(0, .int x0)] → W p l e (headSpec wsX9_wide { frames := 0, cells := 0, slots := 0, locals := 0 }).room s m ([.int a1] : List Value).toArray below meth c H locs 0 0 (MQ below (va_Qi (fun (r : Int32) (_ : Unit) => Φ r) (fun _ => cpost dC dI cI cJ A ([] : va_W)) A) ([.int a1] : List Value).toArray s 0 0 A) (F0 m 14 ls [.int s0]) := by
    intro  x0 s0 hok H locs hP hD hS ls hl
    unfold wp_X9_wide_14 at hok
    refine lv_istore_n (lv' := [(1, .int s0), (0, .int x0)]) hx hb dX9_wide_14 rfl hl (by decide) rfl (fun ls hl => ?_)
    refine lv_iload_n hx hb dX9_wide_15 rfl (lv_at hl 1 rfl) ?_
    refine lv_bipush (v := 15) hx hb dX9_wide_16 (by decide) ?_
    refine lv_iand hx hb dX9_wide_18 ?_
    by_cases c1 : (x0 &&& (15 : Int32)) = 1
    · have hok := hok.1 c1
      refine lv_tableIn (tgt := 68) (off := 49) hx hb dX9_wide_19 (by rw [c1]; decide) (by rw [c1]; decide) (by rw [c1]; decide) (by decide) ?_
      refine lv_iload_n hx hb dX9_wide_68 rfl (lv_at hl 0 rfl) ?_
      refine lv_if_eq (tgt := 77) hx hb dX9_wide_69 (by decide) (fun c2 => ?_) (fun c2 => ?_)
      · have hok := hok.1 c2
        refine lv_bipush (v := 7) hx hb dX9_wide_77 (by decide) ?_
        exact W.iret (v := 7) hx hb hr (fun t ht hW => ⟨⟨7, (), rfl, hok, by rw [ht]; exact hP, va_K.moved hW.alike hK, hD⟩, hS.F ht⟩) hS.2.2 dX9_wide_79
      · have hok := hok.2 c2
        refine lv_bipush (v := 8) hx hb dX9_wide_72 (by decide) ?_
        refine lv_goto (tgt := 79) hx hb dX9_wide_74 (by decide) ?_
        exact W.iret (v := 8) hx hb hr (fun t ht hW => ⟨⟨8, (), rfl, hok, by rw [ht]; exact hP, va_K.moved hW.alike hK, hD⟩, hS.F ht⟩) hS.2.2 dX9_wide_79
    have hok := hok.2
    by_cases c3 : (x0 &&& (15 : Int32)) = 2
    · have hok := hok.1 c3
      refine lv_tableIn (tgt := 80) (off := 61) hx hb dX9_wide_19 (by rw [c3]; decide) (by rw [c3]; decide) (by rw [c3]; decide) (by decide) ?_
      refine lv_bipush (v := 9) hx hb dX9_wide_80 (by decide) ?_
      exact W.iret (v := 9) hx hb hr (fun t ht hW => ⟨⟨9, (), rfl, hok, by rw [ht]; exact hP, va_K.moved hW.alike hK, hD⟩, hS.F ht⟩) hS.2.2 dX9_wide_82
    have hok := hok.2
    by_cases c4 : (x0 &&& (15 : Int32)) = 5
    · have hok := hok.1 c4
      refine lv_tableIn (tgt := 83) (off := 64) hx hb dX9_wide_19 (by rw [c4]; decide) (by rw [c4]; decide) (by rw [c4]; decide) (by decide) ?_
      refine lv_iload_n hx hb dX9_wide_83 rfl (lv_at hl 0 rfl) ?_
      refine lv_if_eq (tgt := 91) hx hb dX9_wide_84 (by decide) (fun c5 => ?_) (fun c5 => ?_)
      · have hok := hok.1 c5
        refine lv_iconst (v := 1) hx hb dX9_wide_91 (by decide) ?_
        exact W.iret (v := 1) hx hb hr (fun t ht hW => ⟨⟨1, (), rfl, hok, by rw [ht]; exact hP, va_K.moved hW.alike hK, hD⟩, hS.F ht⟩) hS.2.2 dX9_wide_92
      · have hok := hok.2 c5
        refine lv_iconst (v := 2) hx hb dX9_wide_87 (by decide) ?_
        refine lv_goto (tgt := 92) hx hb dX9_wide_88 (by decide) ?_
        exact W.iret (v := 2) hx hb hr (fun t ht hW => ⟨⟨2, (), rfl, hok, by rw [ht]; exact hP, va_K.moved hW.alike hK, hD⟩, hS.F ht⟩) hS.2.2 dX9_wide_92
    have hok := hok.2
    by_cases c6 : (x0 &&& (15 : Int32)) = 9
    · have hok := hok.1 c6
      refine lv_tableIn (tgt := 93) (off := 74) hx hb dX9_wide_19 (by rw [c6]; decide) (by rw [c6]; decide) (by rw [c6]; decide) (by decide) ?_
      refine lv_iload_n hx hb dX9_wide_93 rfl (lv_at hl 0 rfl) ?_
      refine lv_if_eq (tgt := 102) hx hb dX9_wide_94 (by decide) (fun c7 => ?_) (fun c7 => ?_)
      · have hok := hok.1 c7
        refine lv_iconst (v := 0) hx hb dX9_wide_102 (by decide) ?_
        exact W.iret (v := 0) hx hb hr (fun t ht hW => ⟨⟨0, (), rfl, hok, by rw [ht]; exact hP, va_K.moved hW.alike hK, hD⟩, hS.F ht⟩) hS.2.2 dX9_wide_103
      · have hok := hok.2 c7
        refine lv_bipush (v := 6) hx hb dX9_wide_97 (by decide) ?_
        refine lv_goto (tgt := 103) hx hb dX9_wide_99 (by decide) ?_
        exact W.iret (v := 6) hx hb hr (fun t ht hW => ⟨⟨6, (), rfl, hok, by rw [ht]; exact hP, va_K.moved hW.alike hK, hD⟩, hS.F ht⟩) hS.2.2 dX9_wide_103
    have hok := hok.2
    have hok := hok ⟨c1, c3, c4, c6⟩
    have kz7 : ∀ k ∈ ([1, 2, 5, 9] : List Int), ((x0 &&& (15 : Int32))).toInt ≠ k := List.forall_mem_cons.mpr ⟨tb_ne c1 rfl, List.forall_mem_cons.mpr ⟨tb_ne c3 rfl, List.forall_mem_cons.mpr ⟨tb_ne c4 rfl, List.forall_mem_cons.mpr ⟨tb_ne c6 rfl, fun k h => absurd h List.not_mem_nil⟩⟩⟩⟩
    refine tb_def (tgt := 104) (keys := [1, 2, 5, 9]) hx hb dX9_wide_19 kz7 (by decide) (by decide) ?_
    refine lv_iload_n hx hb dX9_wide_104 rfl (lv_at hl 0 rfl) ?_
    refine lv_if_eq (tgt := 112) hx hb dX9_wide_105 (by decide) (fun c8 => ?_) (fun c8 => ?_)
    · have hok := hok.1 c8
      refine lv_iconst (v := 4) hx hb dX9_wide_112 (by decide) ?_
      exact W.iret (v := 4) hx hb hr (fun t ht hW => ⟨⟨4, (), rfl, hok, by rw [ht]; exact hP, va_K.moved hW.alike hK, hD⟩, hS.F ht⟩) hS.2.2 dX9_wide_113
    · have hok := hok.2 c8
      refine lv_iconst (v := 5) hx hb dX9_wide_108 (by decide) ?_
      refine lv_goto (tgt := 113) hx hb dX9_wide_109 (by decide) ?_
      exact W.iret (v := 5) hx hb hr (fun t ht hW => ⟨⟨5, (), rfl, hok, by rw [ht]; exact hP, va_K.moved hW.alike hK, hD⟩, hS.F ht⟩) hS.2.2 dX9_wide_113
  have hl := lv_entry ([.int a1]) (n := 2) (Nat.le_of_ble_eq_true rfl)
  rw [lg_entry_eq]
  generalize (lg_sl ([.int a1]) ++ List.replicate (2 - (lg_sl ([.int a1])).length) Slot.unset).toArray = ls at hl ⊢
  have hl : lv_has ls 2 [(0, .int a1)] := hl
  unfold wp_X9_wide at hok
  refine lv_iload_n hx hb dX9_wide_0 rfl (lv_at hl 0 rfl) ?_
  refine lv_iconst (v := 4) hx hb dX9_wide_1 (by decide) ?_
  refine lv_ishr hx hb dX9_wide_2 ?_
  refine lv_iconst (v := 1) hx hb dX9_wide_3 (by decide) ?_
  refine lv_iand hx hb dX9_wide_4 ?_
  refine lv_topi (fun v9 ev9 => ?_)
  have hok := hok v9 ev9
  refine lv_iconst (v := 1) hx hb dX9_wide_5 (by decide) ?_
  refine lv_icmp_ne (tgt := 13) hx hb dX9_wide_6 (by decide) (fun c10 => ?_) (fun c10 => ?_)
  · have hok := hok.2 c10
    refine lv_iconst (v := 0) hx hb dX9_wide_13 (by decide) ?_
    exact b14 a1 0 hok _ _ hP hD hS _ (lv_sub hl [0] rfl)
  · have hok := hok.1 c10
    refine lv_iconst (v := 1) hx hb dX9_wide_9 (by decide) ?_
    refine lv_goto (tgt := 14) hx hb dX9_wide_10 (by decide) ?_
    exact b14 a1 1 hok _ _ hP hD hS _ (lv_sub hl [0] rfl)
def wp_X9_narrow_14  (x0 : Int32) (s0 : Int32) (Φ : Int32 → Prop) : Prop := (((3 : Int32) ≤ (x0 &&& (15 : Int32)) → ((((8 : Int32) ≤ (x0 &&& (15 : Int32)) → ((((x0 &&& (15 : Int32)) = (10 : Int32) → (Φ 10)) ∧ (¬ (x0 &&& (15 : Int32)) = (10 : Int32) → (((s0 = 0 → (Φ 4)) ∧ (¬ s0 = 0 → (Φ 5)))))))) ∧ (¬ (8 : Int32) ≤ (x0 &&& (15 : Int32)) → (((s0 = 0 → (Φ 1)) ∧ (¬ s0 = 0 → (Φ 2)))))))) ∧ (¬ (3 : Int32) ≤ (x0 &&& (15 : Int32)) → (Φ 0)))
def wp_X9_narrow (a1 : Int32) (Φ : Int32 → Prop) : Prop := ∀ v6 : Int32, v6 = (a1 >>> ((4 : Int32) &&& 31)) &&& (1 : Int32) → ((v6 = (1 : Int32) → (wp_X9_narrow_14 a1 1 Φ)) ∧ (¬ v6 = (1 : Int32) → (wp_X9_narrow_14 a1 0 Φ)))
set_option maxHeartbeats 4000000 in
set_option maxRecDepth 100000 in
theorem c_X9_narrow (l : Launch) (dC : Nat → ClassId) (dI : Nat → Nat → Nat) (cI cJ : ClassId) (h : Nat → Nat) (sz : Nat) {a1 : Int32} {Φ : Int32 → Prop} (hok : wp_X9_narrow a1 Φ) : Met l yX9_narrow wsX9_narrow ({ frames := 0, cells := 0, slots := 0, locals := 0 }) (va_Pc [.int a1] (cpre dC dI cI cJ ([] : va_W) sz)) (va_Qi (fun (r : Int32) (_ : Unit) => Φ r) (fun _ => cpost dC dI cI cJ (va_A ([] : va_W) sz) ([] : va_W)) (va_A ([] : va_W) sz)) 0 0 (va_A ([] : va_W) sz) := by
  refine Met.ofW (cc := cX9_narrow) (maxL := 3) (ret := (some .int)) (by decide) rfl ?_
  intro p e s m args below meth c s₁ B hml hv
  obtain ⟨rfl, hsz, hP, hK, hD0⟩ := hv
  have hx := B.exec
  have hb := B.bytes
  have hr := B.returns
  have hts := atoms_spec (ws := wsX9_narrow) B.pre
  have hown : s.vm.findClass RX9 = some m.cls := findClass_of_methodNamed B.named
  have hlocks := B.notSynchronized
  subst hsz
  have hD := hD0.self (sz := s.heap.size)
  generalize hAe : va_A ([] : va_W) s.heap.size = A at hD ⊢
  have hA : ∀ q : Nat, s.heap.size ≤ q → A q := fun q h => by rw [← hAe]; exact Or.inr h
  clear hD0 hAe
  have hS : va_S A s.heap s.heap [] := va_S.rf
  have b14 : ∀  (x0 : Int32) (s0 : Int32), wp_X9_narrow_14  x0 s0 Φ → ∀ (H : Heap) (locs : List Loc), va_P (dC, dI) vwCl ([] : va_W) H → va_D A ([] : va_W) → va_S A s.heap H locs → ∀ ls : Array Slot, lv_has ls 3 [(0, .int x0)] → W p l e (headSpec wsX9_narrow { frames := 0, cells := 0, slots := 0, locals := 0 }).room s m ([.int a1] : List Value).toArray below meth c H locs 0 0 (MQ below (va_Qi (fun (r : Int32) (_ : Unit) => Φ r) (fun _ => cpost dC dI cI cJ A ([] : va_W)) A) ([.int a1] : List Value).toArray s 0 0 A) (F0 m 14 ls [.int s0]) := by
    intro  x0 s0 hok H locs hP hD hS ls hl
    unfold wp_X9_narrow_14 at hok
    refine lv_istore_n (lv' := [(1, .int s0), (0, .int x0)]) hx hb dX9_narrow_14 rfl hl (by decide) rfl (fun ls hl => ?_)
    refine lv_iload_n hx hb dX9_narrow_15 rfl (lv_at hl 1 rfl) ?_
    refine lv_bipush (v := 15) hx hb dX9_narrow_16 (by decide) ?_
    refine lv_iand hx hb dX9_narrow_18 ?_
    refine lv_istore_n (lv' := [(2, .int (x0 &&& (15 : Int32))), (1, .int s0), (0, .int x0)]) hx hb dX9_narrow_19 rfl hl (by decide) rfl (fun ls hl => ?_)
    refine lv_iload_n hx hb dX9_narrow_20 rfl (lv_at hl 0 rfl) ?_
    refine lv_iconst (v := 3) hx hb dX9_narrow_21 (by decide) ?_
    refine lv_icmp_ge (tgt := 29) hx hb dX9_narrow_22 (by decide) (fun c1 => ?_) (fun c1 => ?_)
    · have hok := hok.1 c1
      refine lv_iload_n hx hb dX9_narrow_29 rfl (lv_at hl 0 rfl) ?_
      refine lv_bipush (v := 8) hx hb dX9_narrow_30 (by decide) ?_
      refine lv_icmp_ge (tgt := 47) hx hb dX9_narrow_32 (by decide) (fun c2 => ?_) (fun c2 => ?_)
      · have hok := hok.1 c2
        refine lv_iload_n hx hb dX9_narrow_47 rfl (lv_at hl 0 rfl) ?_
        refine lv_bipush (v := 10) hx hb dX9_narrow_48 (by decide) ?_
        refine lv_icmp_ne (tgt := 58) hx hb dX9_narrow_50 (by decide) (fun c3 => ?_) (fun c3 => ?_)
        · have hok := hok.2 c3
          refine lv_iload_n hx hb dX9_narrow_58 rfl (lv_at hl 1 rfl) ?_
          refine lv_if_eq (tgt := 66) hx hb dX9_narrow_59 (by decide) (fun c4 => ?_) (fun c4 => ?_)
          · have hok := hok.1 c4
            refine lv_iconst (v := 4) hx hb dX9_narrow_66 (by decide) ?_
            exact W.iret (v := 4) hx hb hr (fun t ht hW => ⟨⟨4, (), rfl, hok, by rw [ht]; exact hP, va_K.moved hW.alike hK, hD⟩, hS.F ht⟩) hS.2.2 dX9_narrow_67
          · have hok := hok.2 c4
            refine lv_iconst (v := 5) hx hb dX9_narrow_62 (by decide) ?_
            refine lv_goto (tgt := 67) hx hb dX9_narrow_63 (by decide) ?_
            exact W.iret (v := 5) hx hb hr (fun t ht hW => ⟨⟨5, (), rfl, hok, by rw [ht]; exact hP, va_K.moved hW.alike hK, hD⟩, hS.F ht⟩) hS.2.2 dX9_narrow_67
        · have hok := hok.1 c3
          refine lv_bipush (v := 10) hx hb dX9_narrow_53 (by decide) ?_
          refine lv_goto (tgt := 67) hx hb dX9_narrow_55 (by decide) ?_
          exact W.iret (v := 10) hx hb hr (fun t ht hW => ⟨⟨10, (), rfl, hok, by rw [ht]; exact hP, va_K.moved hW.alike hK, hD⟩, hS.F ht⟩) hS.2.2 dX9_narrow_67
      · have hok := hok.2 c2
        refine lv_iload_n hx hb dX9_narrow_35 rfl (lv_at hl 1 rfl) ?_
        refine lv_if_eq (tgt := 43) hx hb dX9_narrow_36 (by decide) (fun c5 => ?_) (fun c5 => ?_)
        · have hok := hok.1 c5
          refine lv_iconst (v := 1) hx hb dX9_narrow_43 (by decide) ?_
          refine lv_goto (tgt := 67) hx hb dX9_narrow_44 (by decide) ?_
          exact W.iret (v := 1) hx hb hr (fun t ht hW => ⟨⟨1, (), rfl, hok, by rw [ht]; exact hP, va_K.moved hW.alike hK, hD⟩, hS.F ht⟩) hS.2.2 dX9_narrow_67
        · have hok := hok.2 c5
          refine lv_iconst (v := 2) hx hb dX9_narrow_39 (by decide) ?_
          refine lv_goto (tgt := 67) hx hb dX9_narrow_40 (by decide) ?_
          exact W.iret (v := 2) hx hb hr (fun t ht hW => ⟨⟨2, (), rfl, hok, by rw [ht]; exact hP, va_K.moved hW.alike hK, hD⟩, hS.F ht⟩) hS.2.2 dX9_narrow_67
    · have hok := hok.2 c1
      refine lv_iconst (v := 0) hx hb dX9_narrow_25 (by decide) ?_
      refine lv_goto (tgt := 67) hx hb dX9_narrow_26 (by decide) ?_
      exact W.iret (v := 0) hx hb hr (fun t ht hW => ⟨⟨0, (), rfl, hok, by rw [ht]; exact hP, va_K.moved hW.alike hK, hD⟩, hS.F ht⟩) hS.2.2 dX9_narrow_67
  have hl := lv_entry ([.int a1]) (n := 3) (Nat.le_of_ble_eq_true rfl)
  rw [lg_entry_eq]
  generalize (lg_sl ([.int a1]) ++ List.replicate (3 - (lg_sl ([.int a1])).length) Slot.unset).toArray = ls at hl ⊢
  have hl : lv_has ls 3 [(0, .int a1)] := hl
  unfold wp_X9_narrow at hok
  refine lv_iload_n hx hb dX9_narrow_0 rfl (lv_at hl 0 rfl) ?_
  refine lv_iconst (v := 4) hx hb dX9_narrow_1 (by decide) ?_
  refine lv_ishr hx hb dX9_narrow_2 ?_
  refine lv_iconst (v := 1) hx hb dX9_narrow_3 (by decide) ?_
  refine lv_iand hx hb dX9_narrow_4 ?_
  refine lv_topi (fun v6 ev6 => ?_)
  have hok := hok v6 ev6
  refine lv_iconst (v := 1) hx hb dX9_narrow_5 (by decide) ?_
  refine lv_icmp_ne (tgt := 13) hx hb dX9_narrow_6 (by decide) (fun c7 => ?_) (fun c7 => ?_)
  · have hok := hok.2 c7
    refine lv_iconst (v := 0) hx hb dX9_narrow_13 (by decide) ?_
    exact b14 a1 0 hok _ _ hP hD hS _ (lv_sub hl [0] rfl)
  · have hok := hok.1 c7
    refine lv_iconst (v := 1) hx hb dX9_narrow_9 (by decide) ?_
    refine lv_goto (tgt := 14) hx hb dX9_narrow_10 (by decide) ?_
    exact b14 a1 1 hok _ _ hP hD hS _ (lv_sub hl [0] rfl)
def wp_X9_taken (σ : S_Model) (a1 : Int32) (Φ : Int32 → S_Model → Prop) : Prop := ((a1 = 0 → (Φ (σ.1 9) σ)) ∧ (¬ a1 = 0 → (wp_X9_address σ a1 (fun r2 u3 => wp_X9_read u3 r2 (fun r4 u5 => Φ r4 u5)))))
set_option maxHeartbeats 4000000 in
set_option maxRecDepth 100000 in
theorem c_X9_taken (l : Launch) (dC : Nat → ClassId) (dI : Nat → Nat → Nat) (cI cJ : ClassId) (h : Nat → Nat) (sz : Nat) {σ : S_Model} {a1 : Int32} {Φ : Int32 → S_Model → Prop} (hok : wp_X9_taken σ a1 Φ) : Met l yX9_taken wsX9_taken ({ frames := 5, cells := 0, slots := 0, locals := 108 }) (va_Pc [.ref (h 13), .int a1] (cpre dC dI cI cJ (w_Model h cI cJ σ) sz)) (va_Qi Φ (fun u => cpost dC dI cI cJ (va_A (w_Model h cI cJ σ) sz) (w_Model h cI cJ u)) (va_A (w_Model h cI cJ σ) sz)) 0 0 (va_A (w_Model h cI cJ σ) sz) := by
  refine Met.ofW (cc := cX9_taken) (maxL := 2) (ret := (some .int)) (by decide) rfl ?_
  intro p e s m args below meth c s₁ B hml hv
  obtain ⟨rfl, hsz, hP, hK, hD0⟩ := hv
  have hx := B.exec
  have hb := B.bytes
  have hr := B.returns
  have hts := atoms_spec (ws := wsX9_taken) B.pre
  have hown : s.vm.findClass RX9 = some m.cls := findClass_of_methodNamed B.named
  have hlocks := B.notSynchronized
  subst hsz
  have hD := hD0.self (sz := s.heap.size)
  generalize hAe : va_A (w_Model h cI cJ σ) s.heap.size = A at hD ⊢
  have hA : ∀ q : Nat, s.heap.size ≤ q → A q := fun q h => by rw [← hAe]; exact Or.inr h
  clear hD0 hAe
  have hS : va_S A s.heap s.heap [] := va_S.rf
  have hl := lv_entry ([.ref (h 13), .int a1]) (n := 2) (Nat.le_of_ble_eq_true rfl)
  rw [lg_entry_eq]
  generalize (lg_sl ([.ref (h 13), .int a1]) ++ List.replicate (2 - (lg_sl ([.ref (h 13), .int a1])).length) Slot.unset).toArray = ls at hl ⊢
  have hl : lv_has ls 2 [(0, .ref (h 13)), (1, .int a1)] := hl
  unfold wp_X9_taken at hok
  refine lv_iload_n hx hb dX9_taken_0 rfl (lv_at hl 1 rfl) ?_
  refine lv_if_ne (tgt := 11) hx hb dX9_taken_1 (by decide) (fun c1 => ?_) (fun c1 => ?_)
  · have hok := hok.2 c1
    refine lv_aload_n hx hb dX9_taken_11 rfl (lv_at hl 0 rfl) ?_
    refine lv_aload_n hx hb dX9_taken_12 rfl (lv_at hl 0 rfl) ?_
    refine lv_iload_n hx hb dX9_taken_13 rfl (lv_at hl 1 rfl) ?_
    have hPc := hP
    have hDc := hD
    have hFc := va_free (wc := w_Model h cI cJ σ) hD hS hA [0, 1, 2, 3, 4, 5, 6] rfl
    refine va_calli (va_runV (As := [.int a1]) (rest := [.ref (h 13)]) ⟨hx, hb, hml, hown, hts⟩ (c_X9_address l dC dI cI cJ h _ hok) (cwV 1 hts (tb_gV tw_4_148 tw_4_150 tw_p_56 tw_1_9 tw_4_151) rfl rfl rfl (by decide +kernel) ⟨Nat.le_of_ble_eq_true rfl, Nat.le_of_ble_eq_true rfl⟩) (cpre_V (ci := 8) (q0 := 0) hK hPc hDc rfl rfl) rfl rfl hl.1 rfl (lv_room (Nat.le_of_ble_eq_true rfl)) dX9_taken_14 ⟨Nat.le_of_ble_eq_true rfl, Nat.le_of_ble_eq_true rfl⟩) hS (fun q _ h => hFc q h) hFc (fun r2 u3 t H1 locs ht hvm hok hB hz1 hk1 hS => ?_)
    obtain ⟨hP, hD⟩ := cjoin_w ht hB hFc
    have hPc := hP
    have hDc := hD
    have hFc := va_free (wc := w_Model h cI cJ u3) hD hS hA [0, 1, 2, 3, 4, 5, 6] rfl
    refine va_calli (va_runV (As := [.int r2]) (rest := []) ⟨hx, hb, hml, hown, hts⟩ (c_X9_read l dC dI cI cJ h _ hok) (cwV 1 hts (tb_gV tw_4_93 tw_4_95 tw_p_44 tw_1_9 tw_4_96) rfl rfl rfl (by decide +kernel) ⟨Nat.le_of_ble_eq_true rfl, Nat.le_of_ble_eq_true rfl⟩) (cpre_V (ci := 8) (q0 := 0) hK hPc hDc rfl rfl) rfl rfl hl.1 rfl (lv_room (Nat.le_of_ble_eq_true rfl)) dX9_taken_17 ⟨Nat.le_of_ble_eq_true rfl, Nat.le_of_ble_eq_true rfl⟩) hS (fun q _ h => hFc q h) hFc (fun r4 u5 t H1 locs ht hvm hok hB hz1 hk1 hS => ?_)
    obtain ⟨hP, hD⟩ := cjoin_w ht hB hFc
    exact W.iret (v := r4) hx hb hr (fun t ht hW => ⟨⟨r4, u5, rfl, hok, by rw [ht]; exact hP, va_K.moved hW.alike hK, hD⟩, hS.F ht⟩) hS.2.2 dX9_taken_20
  · have hok := hok.1 c1
    refine lv_aload_n hx hb dX9_taken_4 rfl (lv_at hl 0 rfl) ?_
    refine va_get (D := (dC, dI)) (ci := 8) (v := .int (σ.1 9)) (C := RX9) (T := TX9) (N := 33) hx hb hts (fun w h => List.mem_cons_of_mem _ (in_X9 w h)) hown hK hP 0 rfl rfl 9 (by decide) (hts _ (List.mem_cons_of_mem _ tw_3_196)) (fun _ h9 => h9) rfl dX9_taken_5 ?_
    refine lv_goto (tgt := 20) hx hb dX9_taken_8 (by decide) ?_
    exact W.iret (v := σ.1 9) hx hb hr (fun t ht hW => ⟨⟨σ.1 9, σ, rfl, hok, by rw [ht]; exact hP, va_K.moved hW.alike hK, hD⟩, hS.F ht⟩) hS.2.2 dX9_taken_20
def wp_X9_overflows (σ : S_Model) (a1 : Int32) (a2 : Int32) (Φ : S_Model → Prop) : Prop := (vp_in 0 4 ∧ (∀ v1 : Int32, v1 = (((σ.2.2 2) (0 : Int32).toNatClampNeg) ^^^ a2) &&& (a1 ^^^ a2) → (((v1 &&& (128 : Int32)) = 0 → (wp_X9_flag σ 64 0 (fun u3 => Φ u3))) ∧ (¬ (v1 &&& (128 : Int32)) = 0 → (wp_X9_flag σ 64 1 (fun u4 => Φ u4))))))
set_option maxHeartbeats 4000000 in
set_option maxRecDepth 100000 in
theorem c_X9_overflows (l : Launch) (dC : Nat → ClassId) (dI : Nat → Nat → Nat) (cI cJ : ClassId) (h : Nat → Nat) (sz : Nat) {σ : S_Model} {a1 : Int32} {a2 : Int32} {Φ : S_Model → Prop} (hok : wp_X9_overflows σ a1 a2 Φ) : Met l yX9_overflows wsX9_overflows ({ frames := 1, cells := 0, slots := 0, locals := 22 }) (va_Pc [.ref (h 13), .int a1, .int a2] (cpre dC dI cI cJ (w_Model h cI cJ σ) sz)) (va_Qv Φ (fun u => cpost dC dI cI cJ (va_A (w_Model h cI cJ σ) sz) (w_Model h cI cJ u)) (va_A (w_Model h cI cJ σ) sz)) 0 0 (va_A (w_Model h cI cJ σ) sz) := by
  refine Met.ofW (cc := cX9_overflows) (maxL := 3) (ret := none) (by decide) rfl ?_
  intro p e s m args below meth c s₁ B hml hv
  obtain ⟨rfl, hsz, hP, hK, hD0⟩ := hv
  have hx := B.exec
  have hb := B.bytes
  have hr := B.returns
  have hts := atoms_spec (ws := wsX9_overflows) B.pre
  have hown : s.vm.findClass RX9 = some m.cls := findClass_of_methodNamed B.named
  have hlocks := B.notSynchronized
  subst hsz
  have hD := hD0.self (sz := s.heap.size)
  generalize hAe : va_A (w_Model h cI cJ σ) s.heap.size = A at hD ⊢
  have hA : ∀ q : Nat, s.heap.size ≤ q → A q := fun q h => by rw [← hAe]; exact Or.inr h
  clear hD0 hAe
  have hS : va_S A s.heap s.heap [] := va_S.rf
  have hl := lv_entry ([.ref (h 13), .int a1, .int a2]) (n := 3) (Nat.le_of_ble_eq_true rfl)
  rw [lg_entry_eq]
  generalize (lg_sl ([.ref (h 13), .int a1, .int a2]) ++ List.replicate (3 - (lg_sl ([.ref (h 13), .int a1, .int a2])).length) Slot.unset).toArray = ls at hl ⊢
  have hl : lv_has ls 3 [(0, .ref (h 13)), (1, .int a1), (2, .int a2)] := hl
  unfold wp_X9_overflows at hok
  refine lv_aload_n hx hb dX9_overflows_0 rfl (lv_at hl 0 rfl) ?_
  refine lv_bipush (v := 64) hx hb dX9_overflows_1 (by decide) ?_
  refine lv_aload_n hx hb dX9_overflows_3 rfl (lv_at hl 0 rfl) ?_
  refine va_get (D := (dC, dI)) (ci := 8) (v := .ref (h 15)) (C := RX9) (T := TX9) (N := 33) hx hb hts (fun w h => List.mem_cons_of_mem _ (in_X9 w h)) hown hK hP 0 rfl rfl 2 (by decide) (hts _ (List.mem_cons_of_mem _ tw_3_189)) (fun _ h9 => h9) rfl dX9_overflows_4 ?_
  refine lv_iconst (v := 0) hx hb dX9_overflows_7 (by decide) ?_
  refine va_iald hx hb hK hP 2 0 rfl rfl hok.1 dX9_overflows_8 ?_
  have hok := hok.2
  refine lv_iload_n hx hb dX9_overflows_9 rfl (lv_at hl 2 rfl) ?_
  refine lv_ixor hx hb dX9_overflows_10 ?_
  refine lv_iload_n hx hb dX9_overflows_11 rfl (lv_at hl 1 rfl) ?_
  refine lv_iload_n hx hb dX9_overflows_12 rfl (lv_at hl 2 rfl) ?_
  refine lv_ixor hx hb dX9_overflows_13 ?_
  refine lv_iand hx hb dX9_overflows_14 ?_
  refine lv_topi (fun v1 ev1 => ?_)
  have hok := hok v1 ev1
  refine lv_sipush (v := 128) hx hb dX9_overflows_15 (by decide) ?_
  refine lv_iand hx hb dX9_overflows_18 ?_
  refine lv_if_eq (tgt := 26) hx hb dX9_overflows_19 (by decide) (fun c2 => ?_) (fun c2 => ?_)
  · have hok := hok.1 c2
    refine lv_iconst (v := 0) hx hb dX9_overflows_26 (by decide) ?_
    have hPc := hP
    have hDc := hD
    have hFc := va_free (wc := w_Model h cI cJ σ) hD hS hA [0, 1, 2, 3, 4, 5, 6] rfl
    refine va_callv (va_runV (As := [.int 64, .int 0]) (rest := []) ⟨hx, hb, hml, hown, hts⟩ (c_X9_flag l dC dI cI cJ h _ hok) (cwV 2 hts (tb_gV tw_4_85 tw_4_87 tw_p_42 tw_1_9 tw_4_88) rfl rfl rfl (by decide +kernel) ⟨Nat.le_of_ble_eq_true rfl, Nat.le_of_ble_eq_true rfl⟩) (cpre_V (ci := 8) (q0 := 0) hK hPc hDc rfl rfl) rfl rfl hl.1 rfl (lv_room (Nat.le_of_ble_eq_true rfl)) dX9_overflows_27 ⟨Nat.le_of_ble_eq_true rfl, Nat.le_of_ble_eq_true rfl⟩) hS (fun q _ h => hFc q h) hFc (fun u3 t H1 locs ht hvm hok hB hz1 hk1 hS => ?_)
    obtain ⟨hP, hD⟩ := cjoin_w ht hB hFc
    exact W.vret hx hb hr (fun t ht hW => ⟨⟨u3, rfl, hok, by rw [ht]; exact hP, va_K.moved hW.alike hK, hD⟩, hS.F ht⟩) hS.2.2 dX9_overflows_30
  · have hok := hok.2 c2
    refine lv_iconst (v := 1) hx hb dX9_overflows_22 (by decide) ?_
    refine lv_goto (tgt := 27) hx hb dX9_overflows_23 (by decide) ?_
    have hPc := hP
    have hDc := hD
    have hFc := va_free (wc := w_Model h cI cJ σ) hD hS hA [0, 1, 2, 3, 4, 5, 6] rfl
    refine va_callv (va_runV (As := [.int 64, .int 1]) (rest := []) ⟨hx, hb, hml, hown, hts⟩ (c_X9_flag l dC dI cI cJ h _ hok) (cwV 2 hts (tb_gV tw_4_85 tw_4_87 tw_p_42 tw_1_9 tw_4_88) rfl rfl rfl (by decide +kernel) ⟨Nat.le_of_ble_eq_true rfl, Nat.le_of_ble_eq_true rfl⟩) (cpre_V (ci := 8) (q0 := 0) hK hPc hDc rfl rfl) rfl rfl hl.1 rfl (lv_room (Nat.le_of_ble_eq_true rfl)) dX9_overflows_27 ⟨Nat.le_of_ble_eq_true rfl, Nat.le_of_ble_eq_true rfl⟩) hS (fun q _ h => hFc q h) hFc (fun u4 t H1 locs ht hvm hok hB hz1 hk1 hS => ?_)
    obtain ⟨hP, hD⟩ := cjoin_w ht hB hFc
    exact W.vret hx hb hr (fun t ht hW => ⟨⟨u4, rfl, hok, by rw [ht]; exact hP, va_K.moved hW.alike hK, hD⟩, hS.F ht⟩) hS.2.2 dX9_overflows_30
def wp_X9_add_118 (σ : S_Model) (x2 : Int32) (s1 : Int32) (s2 : Int32) (Φ : Int32 → S_Model → Prop) : Prop := wp_X9_flag σ s1 s2 (fun u1 => wp_X9_tested u1 (x2 &&& (255 : Int32)) (fun r2 u3 => (vp_in 0 4 ∧ (wp_X9_is (u3.1, u3.2.1, va_up u3.2.2 2 (upd (u3.2.2 2) (0 : Int32).toNatClampNeg r2)) 8 (fun r4 => ((r4 = 0 → (Φ 0 (u3.1, u3.2.1, va_up u3.2.2 2 (upd (u3.2.2 2) (0 : Int32).toNatClampNeg r2)))) ∧ (¬ r4 = 0 → (Φ 1 (u3.1, u3.2.1, va_up u3.2.2 2 (upd (u3.2.2 2) (0 : Int32).toNatClampNeg r2))))))))))
def wp_X9_add_104 (σ : S_Model) (x2 : Int32) (Φ : Int32 → S_Model → Prop) : Prop := ((x2 ≤ (255 : Int32) → (wp_X9_add_118 σ x2 1 0 Φ)) ∧ (¬ x2 ≤ (255 : Int32) → (wp_X9_add_118 σ x2 1 1 Φ)))
def wp_X9_add_79 (σ : S_Model) (x1 : Int32) (x2 : Int32) (Φ : Int32 → S_Model → Prop) : Prop := wp_X9_overflows σ x1 x2 (fun u7 => wp_X9_is u7 8 (fun r8 => ((r8 = 0 → (wp_X9_add_104 u7 x2 Φ)) ∧ (¬ r8 = 0 → (((x2 ≤ (159 : Int32) → (wp_X9_add_104 u7 x2 Φ)) ∧ (¬ x2 ≤ (159 : Int32) → (∀ v11 : Int32, v11 = x2 + 96 → wp_X9_add_104 u7 v11 Φ))))))))
def wp_X9_add_60 (σ : S_Model) (x1 : Int32) (x3 : Int32) (Φ : Int32 → S_Model → Prop) : Prop := (vp_in 0 4 ∧ (∀ v12 : Int32, v12 = ((σ.2.2 2) (0 : Int32).toNatClampNeg) &&& (240 : Int32) → wp_X9_add_79 σ x1 ((v12 + (x1 &&& (240 : Int32))) + x3) Φ))
def wp_X9_add (σ : S_Model) (a1 : Int32) (Φ : Int32 → S_Model → Prop) : Prop := (vp_in 0 4 ∧ (wp_X9_carry σ (fun r13 => ∀ v14 : Int32, v14 = (((σ.2.2 2) (0 : Int32).toNatClampNeg) + a1) + r13 → wp_X9_is σ 8 (fun r15 => ((r15 = 0 → (wp_X9_add_79 σ a1 v14 Φ)) ∧ (¬ r15 = 0 → ((vp_in 0 4 ∧ (∀ v17 : Int32, v17 = ((σ.2.2 2) (0 : Int32).toNatClampNeg) &&& (15 : Int32) → wp_X9_carry σ (fun r18 => ((((v17 + (a1 &&& (15 : Int32))) + r18) ≤ (9 : Int32) → (wp_X9_add_60 σ a1 ((v17 + (a1 &&& (15 : Int32))) + r18) Φ)) ∧ (¬ ((v17 + (a1 &&& (15 : Int32))) + r18) ≤ (9 : Int32) → (∀ v20 : Int32, v20 = ((v17 + (a1 &&& (15 : Int32))) + r18) + (6 : Int32) → wp_X9_add_60 σ a1 ((v20 &&& (15 : Int32)) + (16 : Int32)) Φ)))))))))))))
set_option maxHeartbeats 4000000 in
set_option maxRecDepth 100000 in
theorem c_X9_add (l : Launch) (dC : Nat → ClassId) (dI : Nat → Nat → Nat) (cI cJ : ClassId) (h : Nat → Nat) (sz : Nat) {σ : S_Model} {a1 : Int32} {Φ : Int32 → S_Model → Prop} (hok : wp_X9_add σ a1 Φ) : Met l yX9_add wsX9_add ({ frames := 2, cells := 0, slots := 0, locals := 44 }) (va_Pc [.ref (h 13), .int a1] (cpre dC dI cI cJ (w_Model h cI cJ σ) sz)) (va_Qi Φ (fun u => cpost dC dI cI cJ (va_A (w_Model h cI cJ σ) sz) (w_Model h cI cJ u)) (va_A (w_Model h cI cJ σ) sz)) 0 0 (va_A (w_Model h cI cJ σ) sz) := by
  refine Met.ofW (cc := cX9_add) (maxL := 4) (ret := (some .int)) (by decide) rfl ?_
  intro p e s m args below meth c s₁ B hml hv
  obtain ⟨rfl, hsz, hP, hK, hD0⟩ := hv
  have hx := B.exec
  have hb := B.bytes
  have hr := B.returns
  have hts := atoms_spec (ws := wsX9_add) B.pre
  have hown : s.vm.findClass RX9 = some m.cls := findClass_of_methodNamed B.named
  have hlocks := B.notSynchronized
  subst hsz
  have hD := hD0.self (sz := s.heap.size)
  generalize hAe : va_A (w_Model h cI cJ σ) s.heap.size = A at hD ⊢
  have hA : ∀ q : Nat, s.heap.size ≤ q → A q := fun q h => by rw [← hAe]; exact Or.inr h
  clear hD0 hAe
  have hS : va_S A s.heap s.heap [] := va_S.rf
  have b118 : ∀ (σ : S_Model) (x2 : Int32) (s1 : Int32) (s2 : Int32), wp_X9_add_118 σ x2 s1 s2 Φ → ∀ (H : Heap) (locs : List Loc), va_P (dC, dI) vwCl (w_Model h cI cJ σ) H → va_D A (w_Model h cI cJ σ) → va_S A s.heap H locs → ∀ ls : Array Slot, lv_has ls 4 [(0, .ref (h 13)), (2, .int x2)] → W p l e (headSpec wsX9_add { frames := 2, cells := 0, slots := 0, locals := 44 }).room s m ([.ref (h 13), .int a1] : List Value).toArray below meth c H locs 0 0 (MQ below (va_Qi Φ (fun u => cpost dC dI cI cJ A (w_Model h cI cJ u)) A) ([.ref (h 13), .int a1] : List Value).toArray s 0 0 A) (F0 m 118 ls [.int s2, .int s1, .ref (h 13)]) := by
    intro σ x2 s1 s2 hok H locs hP hD hS ls hl
    unfold wp_X9_add_118 at hok
    have hPc := hP
    have hDc := hD
    have hFc := va_free (wc := w_Model h cI cJ σ) hD hS hA [0, 1, 2, 3, 4, 5, 6] rfl
    refine va_callv (va_runV (As := [.int s1, .int s2]) (rest := []) ⟨hx, hb, hml, hown, hts⟩ (c_X9_flag l dC dI cI cJ h _ hok) (cwV 2 hts (tb_gV tw_4_85 tw_4_87 tw_p_42 tw_1_9 tw_4_88) rfl rfl rfl (by decide +kernel) ⟨Nat.le_of_ble_eq_true rfl, Nat.le_of_ble_eq_true rfl⟩) (cpre_V (ci := 8) (q0 := 0) hK hPc hDc rfl rfl) rfl rfl hl.1 rfl (lv_room (Nat.le_of_ble_eq_true rfl)) dX9_add_118 ⟨Nat.le_of_ble_eq_true rfl, Nat.le_of_ble_eq_true rfl⟩) hS (fun q _ h => hFc q h) hFc (fun u1 t H1 locs ht hvm hok hB hz1 hk1 hS => ?_)
    obtain ⟨hP, hD⟩ := cjoin_w ht hB hFc
    refine lv_aload_n hx hb dX9_add_121 rfl (lv_at hl 0 rfl) ?_
    refine va_get (D := (dC, dI)) (ci := 8) (v := .ref (h 15)) (C := RX9) (T := TX9) (N := 33) hx hb hts (fun w h => List.mem_cons_of_mem _ (in_X9 w h)) hown hK hP 0 rfl rfl 2 (by decide) (hts _ (List.mem_cons_of_mem _ tw_3_189)) (fun _ h9 => h9) rfl dX9_add_122 ?_
    refine lv_iconst (v := 0) hx hb dX9_add_125 (by decide) ?_
    refine lv_aload_n hx hb dX9_add_126 rfl (lv_at hl 0 rfl) ?_
    refine lv_iload_n hx hb dX9_add_127 rfl (lv_at hl 1 rfl) ?_
    refine lv_sipush (v := 255) hx hb dX9_add_128 (by decide) ?_
    refine lv_iand hx hb dX9_add_131 ?_
    have hPc := hP
    have hDc := hD
    have hFc := va_free (wc := w_Model h cI cJ u1) hD hS hA [0, 1, 2, 3, 4, 5, 6] rfl
    refine va_calli (va_runV (As := [.int (x2 &&& (255 : Int32))]) (rest := [.int 0, .ref (h 15)]) ⟨hx, hb, hml, hown, hts⟩ (c_X9_tested l dC dI cI cJ h _ hok) (cwV 1 hts (tb_gV tw_4_160 tw_4_162 tw_p_59 tw_1_9 tw_4_163) rfl rfl rfl (by decide +kernel) ⟨Nat.le_of_ble_eq_true rfl, Nat.le_of_ble_eq_true rfl⟩) (cpre_V (ci := 8) (q0 := 0) hK hPc hDc rfl rfl) rfl rfl hl.1 rfl (lv_room (Nat.le_of_ble_eq_true rfl)) dX9_add_132 ⟨Nat.le_of_ble_eq_true rfl, Nat.le_of_ble_eq_true rfl⟩) hS (fun q _ h => hFc q h) hFc (fun r2 u3 t H1 locs ht hvm hok hB hz1 hk1 hS => ?_)
    obtain ⟨hP, hD⟩ := cjoin_w ht hB hFc
    refine va_iast hx hb hK hP hD hS 2 0 rfl rfl hok.1 dX9_add_135 (fun H locs hP hD hS => ?_)
    have hok := hok.2
    have hP : va_P (dC, dI) vwCl (w_Model h cI cJ (u3.1, u3.2.1, va_up u3.2.2 2 (upd (u3.2.2 2) (0 : Int32).toNatClampNeg r2))) _ := hP
    have hD : va_D A (w_Model h cI cJ (u3.1, u3.2.1, va_up u3.2.2 2 (upd (u3.2.2 2) (0 : Int32).toNatClampNeg r2))) := hD
    refine lv_aload_n hx hb dX9_add_136 rfl (lv_at hl 0 rfl) ?_
    refine lv_bipush (v := 8) hx hb dX9_add_137 (by decide) ?_
    have hPc := hP
    have hDc := hD
    have hFc := va_free (wc := w_Model h cI cJ (u3.1, u3.2.1, va_up u3.2.2 2 (upd (u3.2.2 2) (0 : Int32).toNatClampNeg r2))) hD hS hA [0, 1, 2, 3, 4, 5, 6] rfl
    refine va_calli (va_runV (As := [.int 8]) (rest := []) ⟨hx, hb, hml, hown, hts⟩ (c_X9_is l dC dI cI cJ h _ hok) (cwV 1 hts (tb_gV tw_4_112 tw_4_114 tw_p_48 tw_1_9 tw_4_115) rfl rfl rfl (by decide +kernel) ⟨Nat.le_of_ble_eq_true rfl, Nat.le_of_ble_eq_true rfl⟩) (cpre_V (ci := 8) (q0 := 0) hK hPc hDc rfl rfl) rfl rfl hl.1 rfl (lv_room (Nat.le_of_ble_eq_true rfl)) dX9_add_139 ⟨Nat.le_of_ble_eq_true rfl, Nat.le_of_ble_eq_true rfl⟩) hS (fun q _ h => hFc q h) hFc (fun r4 _ t H1 locs ht hvm hok hB hz1 hk1 hS => ?_)
    obtain ⟨hP, hD⟩ := cjoin_w ht hB hFc
    refine lv_if_eq (tgt := 149) hx hb dX9_add_142 (by decide) (fun c5 => ?_) (fun c5 => ?_)
    · have hok := hok.1 c5
      refine lv_iconst (v := 0) hx hb dX9_add_149 (by decide) ?_
      exact W.iret (v := 0) hx hb hr (fun t ht hW => ⟨⟨0, (u3.1, u3.2.1, va_up u3.2.2 2 (upd (u3.2.2 2) (0 : Int32).toNatClampNeg r2)), rfl, hok, by rw [ht]; exact hP, va_K.moved hW.alike hK, hD⟩, hS.F ht⟩) hS.2.2 dX9_add_150
    · have hok := hok.2 c5
      refine lv_iconst (v := 1) hx hb dX9_add_145 (by decide) ?_
      refine lv_goto (tgt := 150) hx hb dX9_add_146 (by decide) ?_
      exact W.iret (v := 1) hx hb hr (fun t ht hW => ⟨⟨1, (u3.1, u3.2.1, va_up u3.2.2 2 (upd (u3.2.2 2) (0 : Int32).toNatClampNeg r2)), rfl, hok, by rw [ht]; exact hP, va_K.moved hW.alike hK, hD⟩, hS.F ht⟩) hS.2.2 dX9_add_150
  have b104 : ∀ (σ : S_Model) (x2 : Int32), wp_X9_add_104 σ x2 Φ → ∀ (H : Heap) (locs : List Loc), va_P (dC, dI) vwCl (w_Model h cI cJ σ) H → va_D A (w_Model h cI cJ σ) → va_S A s.heap H locs → ∀ ls : Array Slot, lv_has ls 4 [(0, .ref (h 13)), (2, .int x2)] → W p l e (headSpec wsX9_add { frames := 2, cells := 0, slots := 0, locals := 44 }).room s m ([.ref (h 13), .int a1] : List Value).toArray below meth c H locs 0 0 (MQ below (va_Qi Φ (fun u => cpost dC dI cI cJ A (w_Model h cI cJ u)) A) ([.ref (h 13), .int a1] : List Value).toArray s 0 0 A) (F0 m 104 ls []) := by
    intro σ x2 hok H locs hP hD hS ls hl
    unfold wp_X9_add_104 at hok
    refine lv_aload_n hx hb dX9_add_104 rfl (lv_at hl 0 rfl) ?_
    refine lv_iconst (v := 1) hx hb dX9_add_105 (by decide) ?_
    refine lv_iload_n hx hb dX9_add_106 rfl (lv_at hl 1 rfl) ?_
    refine lv_sipush (v := 255) hx hb dX9_add_107 (by decide) ?_
    refine lv_icmp_le (tgt := 117) hx hb dX9_add_110 (by decide) (fun c6 => ?_) (fun c6 => ?_)
    · have hok := hok.1 c6
      refine lv_iconst (v := 0) hx hb dX9_add_117 (by decide) ?_
      exact b118 σ x2 1 0 hok _ _ hP hD hS _ (lv_sub hl [0, 1] rfl)
    · have hok := hok.2 c6
      refine lv_iconst (v := 1) hx hb dX9_add_113 (by decide) ?_
      refine lv_goto (tgt := 118) hx hb dX9_add_114 (by decide) ?_
      exact b118 σ x2 1 1 hok _ _ hP hD hS _ (lv_sub hl [0, 1] rfl)
  have b79 : ∀ (σ : S_Model) (x1 : Int32) (x2 : Int32), wp_X9_add_79 σ x1 x2 Φ → ∀ (H : Heap) (locs : List Loc), va_P (dC, dI) vwCl (w_Model h cI cJ σ) H → va_D A (w_Model h cI cJ σ) → va_S A s.heap H locs → ∀ ls : Array Slot, lv_has ls 4 [(0, .ref (h 13)), (1, .int x1), (2, .int x2)] → W p l e (headSpec wsX9_add { frames := 2, cells := 0, slots := 0, locals := 44 }).room s m ([.ref (h 13), .int a1] : List Value).toArray below meth c H locs 0 0 (MQ below (va_Qi Φ (fun u => cpost dC dI cI cJ A (w_Model h cI cJ u)) A) ([.ref (h 13), .int a1] : List Value).toArray s 0 0 A) (F0 m 79 ls []) := by
    intro σ x1 x2 hok H locs hP hD hS ls hl
    unfold wp_X9_add_79 at hok
    refine lv_aload_n hx hb dX9_add_79 rfl (lv_at hl 0 rfl) ?_
    refine lv_iload_n hx hb dX9_add_80 rfl (lv_at hl 1 rfl) ?_
    refine lv_iload_n hx hb dX9_add_81 rfl (lv_at hl 2 rfl) ?_
    have hPc := hP
    have hDc := hD
    have hFc := va_free (wc := w_Model h cI cJ σ) hD hS hA [0, 1, 2, 3, 4, 5, 6] rfl
    refine va_callv (va_runV (As := [.int x1, .int x2]) (rest := []) ⟨hx, hb, hml, hown, hts⟩ (c_X9_overflows l dC dI cI cJ h _ hok) (cwV 2 hts (tb_gV tw_4_190 tw_4_192 tw_p_65 tw_1_9 tw_4_193) rfl rfl rfl (by decide +kernel) ⟨Nat.le_of_ble_eq_true rfl, Nat.le_of_ble_eq_true rfl⟩) (cpre_V (ci := 8) (q0 := 0) hK hPc hDc rfl rfl) rfl rfl hl.1 rfl (lv_room (Nat.le_of_ble_eq_true rfl)) dX9_add_82 ⟨Nat.le_of_ble_eq_true rfl, Nat.le_of_ble_eq_true rfl⟩) hS (fun q _ h => hFc q h) hFc (fun u7 t H1 locs ht hvm hok hB hz1 hk1 hS => ?_)
    obtain ⟨hP, hD⟩ := cjoin_w ht hB hFc
    refine lv_aload_n hx hb dX9_add_85 rfl (lv_at hl 0 rfl) ?_
    refine lv_bipush (v := 8) hx hb dX9_add_86 (by decide) ?_
    have hPc := hP
    have hDc := hD
    have hFc := va_free (wc := w_Model h cI cJ u7) hD hS hA [0, 1, 2, 3, 4, 5, 6] rfl
    refine va_calli (va_runV (As := [.int 8]) (rest := []) ⟨hx, hb, hml, hown, hts⟩ (c_X9_is l dC dI cI cJ h _ hok) (cwV 1 hts (tb_gV tw_4_112 tw_4_114 tw_p_48 tw_1_9 tw_4_115) rfl rfl rfl (by decide +kernel) ⟨Nat.le_of_ble_eq_true rfl, Nat.le_of_ble_eq_true rfl⟩) (cpre_V (ci := 8) (q0 := 0) hK hPc hDc rfl rfl) rfl rfl hl.1 rfl (lv_room (Nat.le_of_ble_eq_true rfl)) dX9_add_88 ⟨Nat.le_of_ble_eq_true rfl, Nat.le_of_ble_eq_true rfl⟩) hS (fun q _ h => hFc q h) hFc (fun r8 _ t H1 locs ht hvm hok hB hz1 hk1 hS => ?_)
    obtain ⟨hP, hD⟩ := cjoin_w ht hB hFc
    refine lv_if_eq (tgt := 104) hx hb dX9_add_91 (by decide) (fun c9 => ?_) (fun c9 => ?_)
    · have hok := hok.1 c9
      exact b104 u7 x2 hok _ _ hP hD hS _ (lv_sub hl [0, 2] rfl)
    · have hok := hok.2 c9
      refine lv_iload_n hx hb dX9_add_94 rfl (lv_at hl 2 rfl) ?_
      refine lv_sipush (v := 159) hx hb dX9_add_95 (by decide) ?_
      refine lv_icmp_le (tgt := 104) hx hb dX9_add_98 (by decide) (fun c10 => ?_) (fun c10 => ?_)
      · have hok := hok.1 c10
        exact b104 u7 x2 hok _ _ hP hD hS _ (lv_sub hl [0, 2] rfl)
      · have hok := hok.2 c10
        obtain ⟨v11, ev11⟩ : ∃ y : Int32, y = x2 + 96 := ⟨_, rfl⟩
        have hok := hok v11 ev11
        refine lv_iinc (v := v11) (lv' := [(2, .int v11), (0, .ref (h 13)), (1, .int x1)]) hx hb dX9_add_101 hl (k := 2) rfl (by rw [ev11]; rfl) (by decide) rfl (fun ls hl => ?_)
        exact b104 u7 v11 hok _ _ hP hD hS _ (lv_sub hl [1, 0] rfl)
  have b60 : ∀ (σ : S_Model) (x1 : Int32) (x3 : Int32), wp_X9_add_60 σ x1 x3 Φ → ∀ (H : Heap) (locs : List Loc), va_P (dC, dI) vwCl (w_Model h cI cJ σ) H → va_D A (w_Model h cI cJ σ) → va_S A s.heap H locs → ∀ ls : Array Slot, lv_has ls 4 [(0, .ref (h 13)), (1, .int x1), (3, .int x3)] → W p l e (headSpec wsX9_add { frames := 2, cells := 0, slots := 0, locals := 44 }).room s m ([.ref (h 13), .int a1] : List Value).toArray below meth c H locs 0 0 (MQ below (va_Qi Φ (fun u => cpost dC dI cI cJ A (w_Model h cI cJ u)) A) ([.ref (h 13), .int a1] : List Value).toArray s 0 0 A) (F0 m 60 ls []) := by
    intro σ x1 x3 hok H locs hP hD hS ls hl
    unfold wp_X9_add_60 at hok
    refine lv_aload_n hx hb dX9_add_60 rfl (lv_at hl 0 rfl) ?_
    refine va_get (D := (dC, dI)) (ci := 8) (v := .ref (h 15)) (C := RX9) (T := TX9) (N := 33) hx hb hts (fun w h => List.mem_cons_of_mem _ (in_X9 w h)) hown hK hP 0 rfl rfl 2 (by decide) (hts _ (List.mem_cons_of_mem _ tw_3_189)) (fun _ h9 => h9) rfl dX9_add_61 ?_
    refine lv_iconst (v := 0) hx hb dX9_add_64 (by decide) ?_
    refine va_iald hx hb hK hP 2 0 rfl rfl hok.1 dX9_add_65 ?_
    have hok := hok.2
    refine lv_sipush (v := 240) hx hb dX9_add_66 (by decide) ?_
    refine lv_iand hx hb dX9_add_69 ?_
    refine lv_topi (fun v12 ev12 => ?_)
    have hok := hok v12 ev12
    refine lv_iload_n hx hb dX9_add_70 rfl (lv_at hl 1 rfl) ?_
    refine lv_sipush (v := 240) hx hb dX9_add_71 (by decide) ?_
    refine lv_iand hx hb dX9_add_74 ?_
    refine lv_iadd hx hb dX9_add_75 ?_
    refine lv_iload_n hx hb dX9_add_76 rfl (lv_at hl 2 rfl) ?_
    refine lv_iadd hx hb dX9_add_77 ?_
    refine lv_istore_n (lv' := [(2, .int ((v12 + (x1 &&& (240 : Int32))) + x3)), (0, .ref (h 13)), (1, .int x1), (3, .int x3)]) hx hb dX9_add_78 rfl hl (by decide) rfl (fun ls hl => ?_)
    exact b79 σ x1 ((v12 + (x1 &&& (240 : Int32))) + x3) hok _ _ hP hD hS _ (lv_sub hl [1, 2, 0] rfl)
  have hl := lv_entry ([.ref (h 13), .int a1]) (n := 4) (Nat.le_of_ble_eq_true rfl)
  rw [lg_entry_eq]
  generalize (lg_sl ([.ref (h 13), .int a1]) ++ List.replicate (4 - (lg_sl ([.ref (h 13), .int a1])).length) Slot.unset).toArray = ls at hl ⊢
  have hl : lv_has ls 4 [(0, .ref (h 13)), (1, .int a1)] := hl
  unfold wp_X9_add at hok
  refine lv_aload_n hx hb dX9_add_0 rfl (lv_at hl 0 rfl) ?_
  refine va_get (D := (dC, dI)) (ci := 8) (v := .ref (h 15)) (C := RX9) (T := TX9) (N := 33) hx hb hts (fun w h => List.mem_cons_of_mem _ (in_X9 w h)) hown hK hP 0 rfl rfl 2 (by decide) (hts _ (List.mem_cons_of_mem _ tw_3_189)) (fun _ h9 => h9) rfl dX9_add_1 ?_
  refine lv_iconst (v := 0) hx hb dX9_add_4 (by decide) ?_
  refine va_iald hx hb hK hP 2 0 rfl rfl hok.1 dX9_add_5 ?_
  have hok := hok.2
  refine lv_iload_n hx hb dX9_add_6 rfl (lv_at hl 1 rfl) ?_
  refine lv_iadd hx hb dX9_add_7 ?_
  refine lv_aload_n hx hb dX9_add_8 rfl (lv_at hl 0 rfl) ?_
  have hPc := hP
  have hDc := hD
  have hFc := va_free (wc := w_Model h cI cJ σ) hD hS hA [0, 1, 2, 3, 4, 5, 6] rfl
  refine va_calli (va_runV (As := []) (rest := [.int (((σ.2.2 2) (0 : Int32).toNatClampNeg) + a1)]) ⟨hx, hb, hml, hown, hts⟩ (c_X9_carry l dC dI cI cJ h _ hok) (cwV 0 hts (tb_gV tw_4_186 tw_4_188 tw_p_64 tw_1_9 tw_4_189) rfl rfl rfl (by decide +kernel) ⟨Nat.le_of_ble_eq_true rfl, Nat.le_of_ble_eq_true rfl⟩) (cpre_V (ci := 8) (q0 := 0) hK hPc hDc rfl rfl) rfl rfl hl.1 rfl (lv_room (Nat.le_of_ble_eq_true rfl)) dX9_add_9 ⟨Nat.le_of_ble_eq_true rfl, Nat.le_of_ble_eq_true rfl⟩) hS (fun q _ h => hFc q h) hFc (fun r13 _ t H1 locs ht hvm hok hB hz1 hk1 hS => ?_)
  obtain ⟨hP, hD⟩ := cjoin_w ht hB hFc
  refine lv_iadd hx hb dX9_add_12 ?_
  refine lv_topi (fun v14 ev14 => ?_)
  have hok := hok v14 ev14
  refine lv_istore_n (lv' := [(2, .int v14), (0, .ref (h 13)), (1, .int a1)]) hx hb dX9_add_13 rfl hl (by decide) rfl (fun ls hl => ?_)
  refine lv_aload_n hx hb dX9_add_14 rfl (lv_at hl 1 rfl) ?_
  refine lv_bipush (v := 8) hx hb dX9_add_15 (by decide) ?_
  have hPc := hP
  have hDc := hD
  have hFc := va_free (wc := w_Model h cI cJ σ) hD hS hA [0, 1, 2, 3, 4, 5, 6] rfl
  refine va_calli (va_runV (As := [.int 8]) (rest := []) ⟨hx, hb, hml, hown, hts⟩ (c_X9_is l dC dI cI cJ h _ hok) (cwV 1 hts (tb_gV tw_4_112 tw_4_114 tw_p_48 tw_1_9 tw_4_115) rfl rfl rfl (by decide +kernel) ⟨Nat.le_of_ble_eq_true rfl, Nat.le_of_ble_eq_true rfl⟩) (cpre_V (ci := 8) (q0 := 0) hK hPc hDc rfl rfl) rfl rfl hl.1 rfl (lv_room (Nat.le_of_ble_eq_true rfl)) dX9_add_17 ⟨Nat.le_of_ble_eq_true rfl, Nat.le_of_ble_eq_true rfl⟩) hS (fun q _ h => hFc q h) hFc (fun r15 _ t H1 locs ht hvm hok hB hz1 hk1 hS => ?_)
  obtain ⟨hP, hD⟩ := cjoin_w ht hB hFc
  refine lv_if_eq (tgt := 79) hx hb dX9_add_20 (by decide) (fun c16 => ?_) (fun c16 => ?_)
  · have hok := hok.1 c16
    exact b79 σ a1 v14 hok _ _ hP hD hS _ (lv_sub hl [1, 2, 0] rfl)
  · have hok := hok.2 c16
    refine lv_aload_n hx hb dX9_add_23 rfl (lv_at hl 1 rfl) ?_
    refine va_get (D := (dC, dI)) (ci := 8) (v := .ref (h 15)) (C := RX9) (T := TX9) (N := 33) hx hb hts (fun w h => List.mem_cons_of_mem _ (in_X9 w h)) hown hK hP 0 rfl rfl 2 (by decide) (hts _ (List.mem_cons_of_mem _ tw_3_189)) (fun _ h9 => h9) rfl dX9_add_24 ?_
    refine lv_iconst (v := 0) hx hb dX9_add_27 (by decide) ?_
    refine va_iald hx hb hK hP 2 0 rfl rfl hok.1 dX9_add_28 ?_
    have hok := hok.2
    refine lv_bipush (v := 15) hx hb dX9_add_29 (by decide) ?_
    refine lv_iand hx hb dX9_add_31 ?_
    refine lv_topi (fun v17 ev17 => ?_)
    have hok := hok v17 ev17
    refine lv_iload_n hx hb dX9_add_32 rfl (lv_at hl 2 rfl) ?_
    refine lv_bipush (v := 15) hx hb dX9_add_33 (by decide) ?_
    refine lv_iand hx hb dX9_add_35 ?_
    refine lv_iadd hx hb dX9_add_36 ?_
    refine lv_aload_n hx hb dX9_add_37 rfl (lv_at hl 1 rfl) ?_
    have hPc := hP
    have hDc := hD
    have hFc := va_free (wc := w_Model h cI cJ σ) hD hS hA [0, 1, 2, 3, 4, 5, 6] rfl
    refine va_calli (va_runV (As := []) (rest := [.int (v17 + (a1 &&& (15 : Int32)))]) ⟨hx, hb, hml, hown, hts⟩ (c_X9_carry l dC dI cI cJ h _ hok) (cwV 0 hts (tb_gV tw_4_186 tw_4_188 tw_p_64 tw_1_9 tw_4_189) rfl rfl rfl (by decide +kernel) ⟨Nat.le_of_ble_eq_true rfl, Nat.le_of_ble_eq_true rfl⟩) (cpre_V (ci := 8) (q0 := 0) hK hPc hDc rfl rfl) rfl rfl hl.1 rfl (lv_room (Nat.le_of_ble_eq_true rfl)) dX9_add_38 ⟨Nat.le_of_ble_eq_true rfl, Nat.le_of_ble_eq_true rfl⟩) hS (fun q _ h => hFc q h) hFc (fun r18 _ t H1 locs ht hvm hok hB hz1 hk1 hS => ?_)
    obtain ⟨hP, hD⟩ := cjoin_w ht hB hFc
    refine lv_iadd hx hb dX9_add_41 ?_
    refine lv_istore_n (lv' := [(3, .int ((v17 + (a1 &&& (15 : Int32))) + r18)), (2, .int v14), (0, .ref (h 13)), (1, .int a1)]) hx hb dX9_add_42 rfl hl (by decide) rfl (fun ls hl => ?_)
    refine lv_iload_n hx hb dX9_add_43 rfl (lv_at hl 0 rfl) ?_
    refine lv_bipush (v := 9) hx hb dX9_add_44 (by decide) ?_
    refine lv_icmp_le (tgt := 60) hx hb dX9_add_46 (by decide) (fun c19 => ?_) (fun c19 => ?_)
    · have hok := hok.1 c19
      exact b60 σ a1 ((v17 + (a1 &&& (15 : Int32))) + r18) hok _ _ hP hD hS _ (lv_sub hl [2, 3, 0] rfl)
    · have hok := hok.2 c19
      refine lv_iload_n hx hb dX9_add_49 rfl (lv_at hl 0 rfl) ?_
      refine lv_bipush (v := 6) hx hb dX9_add_50 (by decide) ?_
      refine lv_iadd hx hb dX9_add_52 ?_
      refine lv_topi (fun v20 ev20 => ?_)
      have hok := hok v20 ev20
      refine lv_bipush (v := 15) hx hb dX9_add_53 (by decide) ?_
      refine lv_iand hx hb dX9_add_55 ?_
      refine lv_bipush (v := 16) hx hb dX9_add_56 (by decide) ?_
      refine lv_iadd hx hb dX9_add_58 ?_
      refine lv_istore_n (lv' := [(3, .int ((v20 &&& (15 : Int32)) + (16 : Int32))), (2, .int v14), (0, .ref (h 13)), (1, .int a1)]) hx hb dX9_add_59 rfl hl (by decide) rfl (fun ls hl => ?_)
      exact b60 σ a1 ((v20 &&& (15 : Int32)) + (16 : Int32)) hok _ _ hP hD hS _ (lv_sub hl [2, 3, 0] rfl)
