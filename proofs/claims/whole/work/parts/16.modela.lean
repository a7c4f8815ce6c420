def wp_X9_clearDevices (σ : S_Model) (Φ : S_Model → Prop) : Prop := Φ (upd (upd (upd (upd (upd (upd (upd (upd (upd (upd (upd (upd σ.1 12 65535) 13 65535) 5 0) 22 0) 19 0) 18 0) 17 0) 16 0) 15 0) 14 0) 20 0) 21 0, σ.2.1, σ.2.2)
set_option maxHeartbeats 4000000 in
set_option maxRecDepth 100000 in
theorem c_X9_clearDevices (l : Launch) (dC : Nat → ClassId) (dI : Nat → Nat → Nat) (cI cJ : ClassId) (h : Nat → Nat) (sz : Nat) {σ : S_Model} {Φ : S_Model → Prop} (hok : wp_X9_clearDevices σ Φ) : Met l yX9_clearDevices wsX9_clearDevices ({ frames := 0, cells := 0, slots := 0, locals := 0 }) (va_Pc [.ref (h 13)] (cpre dC dI cI cJ (w_Model h cI cJ σ) sz)) (va_Qv Φ (fun u => cpost dC dI cI cJ (va_A (w_Model h cI cJ σ) sz) (w_Model h cI cJ u)) (va_A (w_Model h cI cJ σ) sz)) 0 0 (va_A (w_Model h cI cJ σ) sz) := by
  refine Met.ofW (cc := cX9_clearDevices) (maxL := 1) (ret := none) (by decide) rfl ?_
  intro p e s m args below meth c s₁ B hml hv
  obtain ⟨rfl, hsz, hP, hK, hD0⟩ := hv
  have hx := B.exec
  have hb := B.bytes
  have hr := B.returns
  have hts := atoms_spec (ws := wsX9_clearDevices) B.pre
  have hown : s.vm.findClass RX9 = some m.cls := findClass_of_methodNamed B.named
  have hlocks := B.notSynchronized
  subst hsz
  have hD := hD0.self (sz := s.heap.size)
  generalize hAe : va_A (w_Model h cI cJ σ) s.heap.size = A at hD ⊢
  have hA : ∀ q : Nat, s.heap.size ≤ q → A q := fun q h => by rw [← hAe]; exact Or.inr h
  clear hD0 hAe
  have hS : va_S A s.heap s.heap [] := va_S.rf
  have hl := lv_entry ([.ref (h 13)]) (n := 1) (Nat.le_of_ble_eq_true rfl)
  rw [lg_entry_eq]
  generalize (lg_sl ([.ref (h 13)]) ++ List.replicate (1 - (lg_sl ([.ref (h 13)])).length) Slot.unset).toArray = ls at hl ⊢
  have hl : lv_has ls 1 [(0, .ref (h 13))] := hl
  unfold wp_X9_clearDevices at hok
  refine lv_aload_n hx hb dX9_clearDevices_0 rfl (lv_at hl 0 rfl) ?_
  refine lv_ldc (v := 65535) hx hb hown (hts _ (List.mem_cons_of_mem _ tw_3_186)) dX9_clearDevices_1 ?_
  refine va_put (D := (dC, dI)) (ci := 8) (v := .int 65535) (ty := .int) (C := RX9) (T := TX9) (N := 33) hx hb hts (fun w h => List.mem_cons_of_mem _ (in_X9 w h)) tyX9 tyX9_ok nmX9 hown hK hP hD hS 0 rfl rfl 12 (by decide) (hts _ (List.mem_cons_of_mem _ tw_3_199)) (fun _ h9 => h9) rfl (by decide +kernel) rfl rfl (Nat.le_of_ble_eq_true rfl) dX9_clearDevices_3 (fun H locs hP hD hS => ?_)
  have hP : va_P (dC, dI) vwCl (w_Model h cI cJ (upd σ.1 12 65535, σ.2.1, σ.2.2)) _ := hP
  have hD : va_D A (w_Model h cI cJ (upd σ.1 12 65535, σ.2.1, σ.2.2)) := hD
  refine lv_aload_n hx hb dX9_clearDevices_6 rfl (lv_at hl 0 rfl) ?_
  refine lv_ldc (v := 65535) hx hb hown (hts _ (List.mem_cons_of_mem _ tw_3_186)) dX9_clearDevices_7 ?_
  refine va_put (D := (dC, dI)) (ci := 8) (v := .int 65535) (ty := .int) (C := RX9) (T := TX9) (N := 33) hx hb hts (fun w h => List.mem_cons_of_mem _ (in_X9 w h)) tyX9 tyX9_ok nmX9 hown hK hP hD hS 0 rfl rfl 13 (by decide) (hts _ (List.mem_cons_of_mem _ tw_3_200)) (fun _ h9 => h9) rfl (by decide +kernel) rfl rfl (Nat.le_of_ble_eq_true rfl) dX9_clearDevices_9 (fun H locs hP hD hS => ?_)
  have hP : va_P (dC, dI) vwCl (w_Model h cI cJ (upd (upd σ.1 12 65535) 13 65535, σ.2.1, σ.2.2)) _ := hP
  have hD : va_D A (w_Model h cI cJ (upd (upd σ.1 12 65535) 13 65535, σ.2.1, σ.2.2)) := hD
  refine lv_aload_n hx hb dX9_clearDevices_12 rfl (lv_at hl 0 rfl) ?_
  refine lv_aload_n hx hb dX9_clearDevices_13 rfl (lv_at hl 0 rfl) ?_
  refine lv_aload_n hx hb dX9_clearDevices_14 rfl (lv_at hl 0 rfl) ?_
  refine lv_aload_n hx hb dX9_clearDevices_15 rfl (lv_at hl 0 rfl) ?_
  refine lv_aload_n hx hb dX9_clearDevices_16 rfl (lv_at hl 0 rfl) ?_
  refine lv_aload_n hx hb dX9_clearDevices_17 rfl (lv_at hl 0 rfl) ?_
  refine lv_aload_n hx hb dX9_clearDevices_18 rfl (lv_at hl 0 rfl) ?_
  refine lv_aload_n hx hb dX9_clearDevices_19 rfl (lv_at hl 0 rfl) ?_
  refine lv_iconst (v := 0) hx hb dX9_clearDevices_20 (by decide) ?_
  refine lv_dup_x1 hx hb dX9_clearDevices_21 rfl rfl ?_
  refine va_put (D := (dC, dI)) (ci := 8) (v := .int 0) (ty := .int) (C := RX9) (T := TX9) (N := 33) hx hb hts (fun w h => List.mem_cons_of_mem _ (in_X9 w h)) tyX9 tyX9_ok nmX9 hown hK hP hD hS 0 rfl rfl 5 (by decide) (hts _ (List.mem_cons_of_mem _ tw_3_192)) (fun _ h9 => h9) rfl (by decide +kernel) rfl rfl (Nat.le_of_ble_eq_true rfl) dX9_clearDevices_22 (fun H locs hP hD hS => ?_)
  have hP : va_P (dC, dI) vwCl (w_Model h cI cJ (upd (upd (upd σ.1 12 65535) 13 65535) 5 0, σ.2.1, σ.2.2)) _ := hP
  have hD : va_D A (w_Model h cI cJ (upd (upd (upd σ.1 12 65535) 13 65535) 5 0, σ.2.1, σ.2.2)) := hD
  refine lv_dup_x1 hx hb dX9_clearDevices_25 rfl rfl ?_
  refine va_put (D := (dC, dI)) (ci := 8) (v := .int 0) (ty := .int) (C := RX9) (T := TX9) (N := 33) hx hb hts (fun w h => List.mem_cons_of_mem _ (in_X9 w h)) tyX9 tyX9_ok nmX9 hown hK hP hD hS 0 rfl rfl 22 (by decide) (hts _ (List.mem_cons_of_mem _ tw_3_209)) (fun _ h9 => h9) rfl (by decide +kernel) rfl rfl (Nat.le_of_ble_eq_true rfl) dX9_clearDevices_26 (fun H locs hP hD hS => ?_)
  have hP : va_P (dC, dI) vwCl (w_Model h cI cJ (upd (upd (upd (upd σ.1 12 65535) 13 65535) 5 0) 22 0, σ.2.1, σ.2.2)) _ := hP
  have hD : va_D A (w_Model h cI cJ (upd (upd (upd (upd σ.1 12 65535) 13 65535) 5 0) 22 0, σ.2.1, σ.2.2)) := hD
  refine lv_dup_x1 hx hb dX9_clearDevices_29 rfl rfl ?_
  refine va_put (D := (dC, dI)) (ci := 8) (v := .int 0) (ty := .int) (C := RX9) (T := TX9) (N := 33) hx hb hts (fun w h => List.mem_cons_of_mem _ (in_X9 w h)) tyX9 tyX9_ok nmX9 hown hK hP hD hS 0 rfl rfl 19 (by decide) (hts _ (List.mem_cons_of_mem _ tw_3_206)) (fun _ h9 => h9) rfl (by decide +kernel) rfl rfl (Nat.le_of_ble_eq_true rfl) dX9_clearDevices_30 (fun H locs hP hD hS => ?_)
  have hP : va_P (dC, dI) vwCl (w_Model h cI cJ (upd (upd (upd (upd (upd σ.1 12 65535) 13 65535) 5 0) 22 0) 19 0, σ.2.1, σ.2.2)) _ := hP
  have hD : va_D A (w_Model h cI cJ (upd (upd (upd (upd (upd σ.1 12 65535) 13 65535) 5 0) 22 0) 19 0, σ.2.1, σ.2.2)) := hD
  refine lv_dup_x1 hx hb dX9_clearDevices_33 rfl rfl ?_
  refine va_put (D := (dC, dI)) (ci := 8) (v := .int 0) (ty := .int) (C := RX9) (T := TX9) (N := 33) hx hb hts (fun w h => List.mem_cons_of_mem _ (in_X9 w h)) tyX9 tyX9_ok nmX9 hown hK hP hD hS 0 rfl rfl 18 (by decide) (hts _ (List.mem_cons_of_mem _ tw_3_205)) (fun _ h9 => h9) rfl (by decide +kernel) rfl rfl (Nat.le_of_ble_eq_true rfl) dX9_clearDevices_34 (fun H locs hP hD hS => ?_)
  have hP : va_P (dC, dI) vwCl (w_Model h cI cJ (upd (upd (upd (upd (upd (upd σ.1 12 65535) 13 65535) 5 0) 22 0) 19 0) 18 0, σ.2.1, σ.2.2)) _ := hP
  have hD : va_D A (w_Model h cI cJ (upd (upd (upd (upd (upd (upd σ.1 12 65535) 13 65535) 5 0) 22 0) 19 0) 18 0, σ.2.1, σ.2.2)) := hD
  refine lv_dup_x1 hx hb dX9_clearDevices_37 rfl rfl ?_
  refine va_put (D := (dC, dI)) (ci := 8) (v := .int 0) (ty := .int) (C := RX9) (T := TX9) (N := 33) hx hb hts (fun w h => List.mem_cons_of_mem _ (in_X9 w h)) tyX9 tyX9_ok nmX9 hown hK hP hD hS 0 rfl rfl 17 (by decide) (hts _ (List.mem_cons_of_mem _ tw_3_204)) (fun _ h9 => h9) rfl (by decide +kernel) rfl rfl (Nat.le_of_ble_eq_true rfl) dX9_clearDevices_38 (fun H locs hP hD hS => ?_)
  have hP : va_P (dC, dI) vwCl (w_Model h cI cJ (upd (upd (upd (upd (upd (upd (upd σ.1 12 65535) 13 65535) 5 0) 22 0) 19 0) 18 0) 17 0, σ.2.1, σ.2.2)) _ := hP
  have hD : va_D A (w_Model h cI cJ (upd (upd (upd (upd (upd (upd (upd σ.1 12 65535) 13 65535) 5 0) 22 0) 19 0) 18 0) 17 0, σ.2.1, σ.2.2)) := hD
  refine lv_dup_x1 hx hb dX9_clearDevices_41 rfl rfl ?_
  refine va_put (D := (dC, dI)) (ci := 8) (v := .int 0) (ty := .int) (C := RX9) (T := TX9) (N := 33) hx hb hts (fun w h => List.mem_cons_of_mem _ (in_X9 w h)) tyX9 tyX9_ok nmX9 hown hK hP hD hS 0 rfl rfl 16 (by decide) (hts _ (List.mem_cons_of_mem _ tw_3_203)) (fun _ h9 => h9) rfl (by decide +kernel) rfl rfl (Nat.le_of_ble_eq_true rfl) dX9_clearDevices_42 (fun H locs hP hD hS => ?_)
  have hP : va_P (dC, dI) vwCl (w_Model h cI cJ (upd (upd (upd (upd (upd (upd (upd (upd σ.1 12 65535) 13 65535) 5 0) 22 0) 19 0) 18 0) 17 0) 16 0, σ.2.1, σ.2.2)) _ := hP
  have hD : va_D A (w_Model h cI cJ (upd (upd (upd (upd (upd (upd (upd (upd σ.1 12 65535) 13 65535) 5 0) 22 0) 19 0) 18 0) 17 0) 16 0, σ.2.1, σ.2.2)) := hD
  refine lv_dup_x1 hx hb dX9_clearDevices_45 rfl rfl ?_
  refine va_put (D := (dC, dI)) (ci := 8) (v := .int 0) (ty := .int) (C := RX9) (T := TX9) (N := 33) hx hb hts (fun w h => List.mem_cons_of_mem _ (in_X9 w h)) tyX9 tyX9_ok nmX9 hown hK hP hD hS 0 rfl rfl 15 (by decide) (hts _ (List.mem_cons_of_mem _ tw_3_202)) (fun _ h9 => h9) rfl (by decide +kernel) rfl rfl (Nat.le_of_ble_eq_true rfl) dX9_clearDevices_46 (fun H locs hP hD hS => ?_)
  have hP : va_P (dC, dI) vwCl (w_Model h cI cJ (upd (upd (upd (upd (upd (upd (upd (upd (upd σ.1 12 65535) 13 65535) 5 0) 22 0) 19 0) 18 0) 17 0) 16 0) 15 0, σ.2.1, σ.2.2)) _ := hP
  have hD : va_D A (w_Model h cI cJ (upd (upd (upd (upd (upd (upd (upd (upd (upd σ.1 12 65535) 13 65535) 5 0) 22 0) 19 0) 18 0) 17 0) 16 0) 15 0, σ.2.1, σ.2.2)) := hD
  refine va_put (D := (dC, dI)) (ci := 8) (v := .int 0) (ty := .int) (C := RX9) (T := TX9) (N := 33) hx hb hts (fun w h => List.mem_cons_of_mem _ (in_X9 w h)) tyX9 tyX9_ok nmX9 hown hK hP hD hS 0 rfl rfl 14 (by decide) (hts _ (List.mem_cons_of_mem _ tw_3_201)) (fun _ h9 => h9) rfl (by decide +kernel) rfl rfl (Nat.le_of_ble_eq_true rfl) dX9_clearDevices_49 (fun H locs hP hD hS => ?_)
  have hP : va_P (dC, dI) vwCl (w_Model h cI cJ (upd (upd (upd (upd (upd (upd (upd (upd (upd (upd σ.1 12 65535) 13 65535) 5 0) 22 0) 19 0) 18 0) 17 0) 16 0) 15 0) 14 0, σ.2.1, σ.2.2)) _ := hP
  have hD : va_D A (w_Model h cI cJ (upd (upd (upd (upd (upd (upd (upd (upd (upd (upd σ.1 12 65535) 13 65535) 5 0) 22 0) 19 0) 18 0) 17 0) 16 0) 15 0) 14 0, σ.2.1, σ.2.2)) := hD
  refine lv_aload_n hx hb dX9_clearDevices_52 rfl (lv_at hl 0 rfl) ?_
  refine lv_iconst (v := 0) hx hb dX9_clearDevices_53 (by decide) ?_
  refine va_put (D := (dC, dI)) (ci := 8) (v := .int 0) (ty := .boolean) (C := RX9) (T := TX9) (N := 33) hx hb hts (fun w h => List.mem_cons_of_mem _ (in_X9 w h)) tyX9 tyX9_ok nmX9 hown hK hP hD hS 0 rfl rfl 20 (by decide) (hts _ (List.mem_cons_of_mem _ tw_3_207)) (fun _ h9 => h9) rfl (by decide +kernel) rfl rfl (Nat.le_of_ble_eq_true rfl) dX9_clearDevices_54 (fun H locs hP hD hS => ?_)
  have hP : va_P (dC, dI) vwCl (w_Model h cI cJ (upd (upd (upd (upd (upd (upd (upd (upd (upd (upd (upd σ.1 12 65535) 13 65535) 5 0) 22 0) 19 0) 18 0) 17 0) 16 0) 15 0) 14 0) 20 0, σ.2.1, σ.2.2)) _ := hP
  have hD : va_D A (w_Model h cI cJ (upd (upd (upd (upd (upd (upd (upd (upd (upd (upd (upd σ.1 12 65535) 13 65535) 5 0) 22 0) 19 0) 18 0) 17 0) 16 0) 15 0) 14 0) 20 0, σ.2.1, σ.2.2)) := hD
  refine lv_aload_n hx hb dX9_clearDevices_57 rfl (lv_at hl 0 rfl) ?_
  refine lv_iconst (v := 0) hx hb dX9_clearDevices_58 (by decide) ?_
  refine va_put (D := (dC, dI)) (ci := 8) (v := .int 0) (ty := .boolean) (C := RX9) (T := TX9) (N := 33) hx hb hts (fun w h => List.mem_cons_of_mem _ (in_X9 w h)) tyX9 tyX9_ok nmX9 hown hK hP hD hS 0 rfl rfl 21 (by decide) (hts _ (List.mem_cons_of_mem _ tw_3_208)) (fun _ h9 => h9) rfl (by decide +kernel) rfl rfl (Nat.le_of_ble_eq_true rfl) dX9_clearDevices_59 (fun H locs hP hD hS => ?_)
  have hP : va_P (dC, dI) vwCl (w_Model h cI cJ (upd (upd (upd (upd (upd (upd (upd (upd (upd (upd (upd (upd σ.1 12 65535) 13 65535) 5 0) 22 0) 19 0) 18 0) 17 0) 16 0) 15 0) 14 0) 20 0) 21 0, σ.2.1, σ.2.2)) _ := hP
  have hD : va_D A (w_Model h cI cJ (upd (upd (upd (upd (upd (upd (upd (upd (upd (upd (upd (upd σ.1 12 65535) 13 65535) 5 0) 22 0) 19 0) 18 0) 17 0) 16 0) 15 0) 14 0) 20 0) 21 0, σ.2.1, σ.2.2)) := hD
  exact W.vret hx hb hr (fun t ht hW => ⟨⟨(upd (upd (upd (upd (upd (upd (upd (upd (upd (upd (upd (upd σ.1 12 65535) 13 65535) 5 0) 22 0) 19 0) 18 0) 17 0) 16 0) 15 0) 14 0) 20 0) 21 0, σ.2.1, σ.2.2), rfl, hok, by rw [ht]; exact hP, va_K.moved hW.alike hK, hD⟩, hS.F ht⟩) hS.2.2 dX9_clearDevices_62
def wp_X9_thrown (σ : S_Model) (Φ : Int32 → Prop) : Prop := Φ (σ.1 0)
set_option maxHeartbeats 4000000 in
set_option maxRecDepth 100000 in
theorem c_X9_thrown (l : Launch) (dC : Nat → ClassId) (dI : Nat → Nat → Nat) (cI cJ : ClassId) (h : Nat → Nat) (sz : Nat) {σ : S_Model} {Φ : Int32 → Prop} (hok : wp_X9_thrown σ Φ) : Met l yX9_thrown wsX9_thrown ({ frames := 0, cells := 0, slots := 0, locals := 0 }) (va_Pc [.ref (h 13)] (cpre dC dI cI cJ (w_Model h cI cJ σ) sz)) (va_Qi (fun (r : Int32) (_ : Unit) => Φ r) (fun _ => cpost dC dI cI cJ (va_A (w_Model h cI cJ σ) sz) (w_Model h cI cJ σ)) (va_A (w_Model h cI cJ σ) sz)) 0 0 (va_A (w_Model h cI cJ σ) sz) := by
  refine Met.ofW (cc := cX9_thrown) (maxL := 1) (ret := (some .int)) (by decide) rfl ?_
  intro p e s m args below meth c s₁ B hml hv
  obtain ⟨rfl, hsz, hP, hK, hD0⟩ := hv
  have hx := B.exec
  have hb := B.bytes
  have hr := B.returns
  have hts := atoms_spec (ws := wsX9_thrown) B.pre
  have hown : s.vm.findClass RX9 = some m.cls := findClass_of_methodNamed B.named
  have hlocks := B.notSynchronized
  subst hsz
  have hD := hD0.self (sz := s.heap.size)
  generalize hAe : va_A (w_Model h cI cJ σ) s.heap.size = A at hD ⊢
  have hA : ∀ q : Nat, s.heap.size ≤ q → A q := fun q h => by rw [← hAe]; exact Or.inr h
  clear hD0 hAe
  have hS : va_S A s.heap s.heap [] := va_S.rf
  have hl := lv_entry ([.ref (h 13)]) (n := 1) (Nat.le_of_ble_eq_true rfl)
  rw [lg_entry_eq]
  generalize (lg_sl ([.ref (h 13)]) ++ List.replicate (1 - (lg_sl ([.ref (h 13)])).length) Slot.unset).toArray = ls at hl ⊢
  have hl : lv_has ls 1 [(0, .ref (h 13))] := hl
  unfold wp_X9_thrown at hok
  refine lv_aload_n hx hb dX9_thrown_0 rfl (lv_at hl 0 rfl) ?_
  refine va_get (D := (dC, dI)) (ci := 8) (v := .int (σ.1 0)) (C := RX9) (T := TX9) (N := 33) hx hb hts (fun w h => List.mem_cons_of_mem _ (in_X9 w h)) hown hK hP 0 rfl rfl 0 (by decide) (hts _ (List.mem_cons_of_mem _ tw_3_187)) (fun _ h9 => h9) rfl dX9_thrown_1 ?_
  exact W.iret (v := σ.1 0) hx hb hr (fun t ht hW => ⟨⟨σ.1 0, (), rfl, hok, by rw [ht]; exact hP, va_K.moved hW.alike hK, hD⟩, hS.F ht⟩) hS.2.2 dX9_thrown_4
def wp_X9_fails (σ : S_Model) (a1 : Int32) (Φ : Int32 → S_Model → Prop) : Prop := ((a1 = 0 → ((narrow .boolean (.int a1) = .int a1 ∧ Φ a1 (upd σ.1 0 0, σ.2.1, σ.2.2)))) ∧ (¬ a1 = 0 → ((narrow .boolean (.int a1) = .int a1 ∧ Φ a1 (upd σ.1 0 1, σ.2.1, σ.2.2)))))
set_option maxHeartbeats 4000000 in
set_option maxRecDepth 100000 in
theorem c_X9_fails (l : Launch) (dC : Nat → ClassId) (dI : Nat → Nat → Nat) (cI cJ : ClassId) (h : Nat → Nat) (sz : Nat) {σ : S_Model} {a1 : Int32} {Φ : Int32 → S_Model → Prop} (hok : wp_X9_fails σ a1 Φ) : Met l yX9_fails wsX9_fails ({ frames := 0, cells := 0, slots := 0, locals := 0 }) (va_Pc [.ref (h 13), .int a1] (cpre dC dI cI cJ (w_Model h cI cJ σ) sz)) (va_Qi Φ (fun u => cpost dC dI cI cJ (va_A (w_Model h cI cJ σ) sz) (w_Model h cI cJ u)) (va_A (w_Model h cI cJ σ) sz)) 0 0 (va_A (w_Model h cI cJ σ) sz) := by
  refine Met.ofW (cc := cX9_fails) (maxL := 2) (ret := (some .boolean)) (by decide) rfl ?_
  intro p e s m args below meth c s₁ B hml hv
  obtain ⟨rfl, hsz, hP, hK, hD0⟩ := hv
  have hx := B.exec
  have hb := B.bytes
  have hr := B.returns
  have hts := atoms_spec (ws := wsX9_fails) B.pre
  have hown : s.vm.findClass RX9 = some m.cls := findClass_of_methodNamed B.named
  have hlocks := B.notSynchronized
  subst hsz
  have hD := hD0.self (sz := s.heap.size)
  generalize hAe : va_A (w_Model h cI cJ σ) s.heap.size = A at hD ⊢
  have hA : ∀ q : Nat, s.heap.size ≤ q → A q := fun q h => by rw [← hAe]; exact Or.inr h
  clear hD0 hAe
  have hS : va_S A s.heap s.heap [] := va_S.rf
  have hl := lv_entry ([.ref (h 13), .int a1]) (n := 2) (Nat.le_of_ble_eq_true rfl)
  rw [lg_entry_eq]
  generalize (lg_sl ([.ref (h 13), .int a1]) ++ List.replicate (2 - (lg_sl ([.ref (h 13), .int a1])).length) Slot.unset).toArray = ls at hl ⊢
  have hl : lv_has ls 2 [(0, .ref (h 13)), (1, .int a1)] := hl
  unfold wp_X9_fails at hok
  refine lv_aload_n hx hb dX9_fails_0 rfl (lv_at hl 0 rfl) ?_
  refine lv_iload_n hx hb dX9_fails_1 rfl (lv_at hl 1 rfl) ?_
  refine lv_if_eq (tgt := 9) hx hb dX9_fails_2 (by decide) (fun c1 => ?_) (fun c1 => ?_)
  · have hok := hok.1 c1
    refine lv_iconst (v := 0) hx hb dX9_fails_9 (by decide) ?_
    refine va_put (D := (dC, dI)) (ci := 8) (v := .int 0) (ty := .int) (C := RX9) (T := TX9) (N := 33) hx hb hts (fun w h => List.mem_cons_of_mem _ (in_X9 w h)) tyX9 tyX9_ok nmX9 hown hK hP hD hS 0 rfl rfl 0 (by decide) (hts _ (List.mem_cons_of_mem _ tw_3_187)) (fun _ h9 => h9) rfl (by decide +kernel) rfl rfl (Nat.le_of_ble_eq_true rfl) dX9_fails_10 (fun H locs hP hD hS => ?_)
    have hP : va_P (dC, dI) vwCl (w_Model h cI cJ (upd σ.1 0 0, σ.2.1, σ.2.2)) _ := hP
    have hD : va_D A (w_Model h cI cJ (upd σ.1 0 0, σ.2.1, σ.2.2)) := hD
    refine lv_iload_n hx hb dX9_fails_13 rfl (lv_at hl 1 rfl) ?_
    exact W.zret (v := a1) hx hb hr hok.1 (fun t ht hW => ⟨⟨a1, (upd σ.1 0 0, σ.2.1, σ.2.2), rfl, hok.2, by rw [ht]; exact hP, va_K.moved hW.alike hK, hD⟩, hS.F ht⟩) hS.2.2 dX9_fails_14
  · have hok := hok.2 c1
    refine lv_iconst (v := 1) hx hb dX9_fails_5 (by decide) ?_
    refine lv_goto (tgt := 10) hx hb dX9_fails_6 (by decide) ?_
    refine va_put (D := (dC, dI)) (ci := 8) (v := .int 1) (ty := .int) (C := RX9) (T := TX9) (N := 33) hx hb hts (fun w h => List.mem_cons_of_mem _ (in_X9 w h)) tyX9 tyX9_ok nmX9 hown hK hP hD hS 0 rfl rfl 0 (by decide) (hts _ (List.mem_cons_of_mem _ tw_3_187)) (fun _ h9 => h9) rfl (by decide +kernel) rfl rfl (Nat.le_of_ble_eq_true rfl) dX9_fails_10 (fun H locs hP hD hS => ?_)
    have hP : va_P (dC, dI) vwCl (w_Model h cI cJ (upd σ.1 0 1, σ.2.1, σ.2.2)) _ := hP
    have hD : va_D A (w_Model h cI cJ (upd σ.1 0 1, σ.2.1, σ.2.2)) := hD
    refine lv_iload_n hx hb dX9_fails_13 rfl (lv_at hl 1 rfl) ?_
    exact W.zret (v := a1) hx hb hr hok.1 (fun t ht hW => ⟨⟨a1, (upd σ.1 0 1, σ.2.1, σ.2.2), rfl, hok.2, by rw [ht]; exact hP, va_K.moved hW.alike hK, hD⟩, hS.F ht⟩) hS.2.2 dX9_fails_14
def wp_X9_cell (σ : S_Model) (a1 : Int32) (Φ : Int32 → Prop) : Prop := (((32768 : Int32) ≤ a1 → ((((40960 : Int32) ≤ a1 → ((((49152 : Int32) ≤ a1 → (Φ (((65536 : Int32) + a1) - (49152 : Int32)))) ∧ (¬ (49152 : Int32) ≤ a1 → (Φ (-1)))))) ∧ (¬ (40960 : Int32) ≤ a1 → (∀ v4 : Int32, v4 = ((32768 : Int32) + ((8192 : Int32) * (σ.1 5))) + a1 → Φ (v4 - (32768 : Int32))))))) ∧ (¬ (32768 : Int32) ≤ a1 → (Φ a1)))
set_option maxHeartbeats 4000000 in
set_option maxRecDepth 100000 in
theorem c_X9_cell (l : Launch) (dC : Nat → ClassId) (dI : Nat → Nat → Nat) (cI cJ : ClassId) (h : Nat → Nat) (sz : Nat) {σ : S_Model} {a1 : Int32} {Φ : Int32 → Prop} (hok : wp_X9_cell σ a1 Φ) : Met l yX9_cell wsX9_cell ({ frames := 0, cells := 0, slots := 0, locals := 0 }) (va_Pc [.ref (h 13), .int a1] (cpre dC dI cI cJ (w_Model h cI cJ σ) sz)) (va_Qi (fun (r : Int32) (_ : Unit) => Φ r) (fun _ => cpost dC dI cI cJ (va_A (w_Model h cI cJ σ) sz) (w_Model h cI cJ σ)) (va_A (w_Model h cI cJ σ) sz)) 0 0 (va_A (w_Model h cI cJ σ) sz) := by
  refine Met.ofW (cc := cX9_cell) (maxL := 2) (ret := (some .int)) (by decide) rfl ?_
  intro p e s m args below meth c s₁ B hml hv
  obtain ⟨rfl, hsz, hP, hK, hD0⟩ := hv
  have hx := B.exec
  have hb := B.bytes
  have hr := B.returns
  have hts := atoms_spec (ws := wsX9_cell) B.pre
  have hown : s.vm.findClass RX9 = some m.cls := findClass_of_methodNamed B.named
  have hlocks := B.notSynchronized
  subst hsz
  have hD := hD0.self (sz := s.heap.size)
  generalize hAe : va_A (w_Model h cI cJ σ) s.heap.size = A at hD ⊢
  have hA : ∀ q : Nat, s.heap.size ≤ q → A q := fun q h => by rw [← hAe]; exact Or.inr h
  clear hD0 hAe
  have hS : va_S A s.heap s.heap [] := va_S.rf
  have hl := lv_entry ([.ref (h 13), .int a1]) (n := 2) (Nat.le_of_ble_eq_true rfl)
  rw [lg_entry_eq]
  generalize (lg_sl ([.ref (h 13), .int a1]) ++ List.replicate (2 - (lg_sl ([.ref (h 13), .int a1])).length) Slot.unset).toArray = ls at hl ⊢
  have hl : lv_has ls 2 [(0, .ref (h 13)), (1, .int a1)] := hl
  unfold wp_X9_cell at hok
  refine lv_iload_n hx hb dX9_cell_0 rfl (lv_at hl 1 rfl) ?_
  refine lv_ldc (v := 32768) hx hb hown (hts _ (List.mem_cons_of_mem _ tw_4_81)) dX9_cell_1 ?_
  refine lv_icmp_ge (tgt := 10) hx hb dX9_cell_3 (by decide) (fun c1 => ?_) (fun c1 => ?_)
  · have hok := hok.1 c1
    refine lv_iload_n hx hb dX9_cell_10 rfl (lv_at hl 1 rfl) ?_
    refine lv_ldc (v := 40960) hx hb hown (hts _ (List.mem_cons_of_mem _ tw_4_76)) dX9_cell_11 ?_
    refine lv_icmp_ge (tgt := 35) hx hb dX9_cell_13 (by decide) (fun c2 => ?_) (fun c2 => ?_)
    · have hok := hok.1 c2
      refine lv_iload_n hx hb dX9_cell_35 rfl (lv_at hl 1 rfl) ?_
      refine lv_ldc (v := 49152) hx hb hown (hts _ (List.mem_cons_of_mem _ tw_4_82)) dX9_cell_36 ?_
      refine lv_icmp_ge (tgt := 45) hx hb dX9_cell_38 (by decide) (fun c3 => ?_) (fun c3 => ?_)
      · have hok := hok.1 c3
        refine lv_ldc (v := 65536) hx hb hown (hts _ (List.mem_cons_of_mem _ tw_4_83)) dX9_cell_45 ?_
        refine lv_iload_n hx hb dX9_cell_47 rfl (lv_at hl 1 rfl) ?_
        refine lv_iadd hx hb dX9_cell_48 ?_
        refine lv_ldc (v := 49152) hx hb hown (hts _ (List.mem_cons_of_mem _ tw_4_82)) dX9_cell_49 ?_
        refine lv_isub hx hb dX9_cell_51 ?_
        exact W.iret (v := ((65536 : Int32) + a1) - (49152 : Int32)) hx hb hr (fun t ht hW => ⟨⟨((65536 : Int32) + a1) - (49152 : Int32), (), rfl, hok, by rw [ht]; exact hP, va_K.moved hW.alike hK, hD⟩, hS.F ht⟩) hS.2.2 dX9_cell_52
      · have hok := hok.2 c3
        refine lv_iconst (v := (-1)) hx hb dX9_cell_41 (by decide) ?_
        refine lv_goto (tgt := 52) hx hb dX9_cell_42 (by decide) ?_
        exact W.iret (v := (-1)) hx hb hr (fun t ht hW => ⟨⟨(-1), (), rfl, hok, by rw [ht]; exact hP, va_K.moved hW.alike hK, hD⟩, hS.F ht⟩) hS.2.2 dX9_cell_52
    · have hok := hok.2 c2
      refine lv_ldc (v := 32768) hx hb hown (hts _ (List.mem_cons_of_mem _ tw_4_81)) dX9_cell_16 ?_
      refine lv_sipush (v := 8192) hx hb dX9_cell_18 (by decide) ?_
      refine lv_aload_n hx hb dX9_cell_21 rfl (lv_at hl 0 rfl) ?_
      refine va_get (D := (dC, dI)) (ci := 8) (v := .int (σ.1 5)) (C := RX9) (T := TX9) (N := 33) hx hb hts (fun w h => List.mem_cons_of_mem _ (in_X9 w h)) hown hK hP 0 rfl rfl 5 (by decide) (hts _ (List.mem_cons_of_mem _ tw_3_192)) (fun _ h9 => h9) rfl dX9_cell_22 ?_
      refine lv_imul hx hb dX9_cell_25 ?_
      refine lv_iadd hx hb dX9_cell_26 ?_
      refine lv_iload_n hx hb dX9_cell_27 rfl (lv_at hl 1 rfl) ?_
      refine lv_iadd hx hb dX9_cell_28 ?_
      refine lv_topi (fun v4 ev4 => ?_)
      have hok := hok v4 ev4
      refine lv_ldc (v := 32768) hx hb hown (hts _ (List.mem_cons_of_mem _ tw_4_81)) dX9_cell_29 ?_
      refine lv_isub hx hb dX9_cell_31 ?_
      refine lv_goto (tgt := 52) hx hb dX9_cell_32 (by decide) ?_
      exact W.iret (v := v4 - (32768 : Int32)) hx hb hr (fun t ht hW => ⟨⟨v4 - (32768 : Int32), (), rfl, hok, by rw [ht]; exact hP, va_K.moved hW.alike hK, hD⟩, hS.F ht⟩) hS.2.2 dX9_cell_52
  · have hok := hok.2 c1
    refine lv_iload_n hx hb dX9_cell_6 rfl (lv_at hl 1 rfl) ?_
    refine lv_goto (tgt := 52) hx hb dX9_cell_7 (by decide) ?_
    exact W.iret (v := a1) hx hb hr (fun t ht hW => ⟨⟨a1, (), rfl, hok, by rw [ht]; exact hP, va_K.moved hW.alike hK, hD⟩, hS.F ht⟩) hS.2.2 dX9_cell_52
def wp_X9_asks (σ : S_Model) (Φ : Int32 → Prop) : Prop := (((σ.1 22) ≤ 0 → (Φ 0)) ∧ (¬ (σ.1 22) ≤ 0 → (((((σ.1 19) &&& (3 : Int32)) = (1 : Int32) → (Φ 1)) ∧ (¬ ((σ.1 19) &&& (3 : Int32)) = (1 : Int32) → (Φ 0))))))
set_option maxHeartbeats 4000000 in
set_option maxRecDepth 100000 in
theorem c_X9_asks (l : Launch) (dC : Nat → ClassId) (dI : Nat → Nat → Nat) (cI cJ : ClassId) (h : Nat → Nat) (sz : Nat) {σ : S_Model} {Φ : Int32 → Prop} (hok : wp_X9_asks σ Φ) : Met l yX9_asks wsX9_asks ({ frames := 0, cells := 0, slots := 0, locals := 0 }) (va_Pc [.ref (h 13)] (cpre dC dI cI cJ (w_Model h cI cJ σ) sz)) (va_Qi (fun (r : Int32) (_ : Unit) => Φ r) (fun _ => cpost dC dI cI cJ (va_A (w_Model h cI cJ σ) sz) (w_Model h cI cJ σ)) (va_A (w_Model h cI cJ σ) sz)) 0 0 (va_A (w_Model h cI cJ σ) sz) := by
  refine Met.ofW (cc := cX9_asks) (maxL := 1) (ret := (some .boolean)) (by decide) rfl ?_
  intro p e s m args below meth c s₁ B hml hv
  obtain ⟨rfl, hsz, hP, hK, hD0⟩ := hv
  have hx := B.exec
  have hb := B.bytes
  have hr := B.returns
  have hts := atoms_spec (ws := wsX9_asks) B.pre
  have hown : s.vm.findClass RX9 = some m.cls := findClass_of_methodNamed B.named
  have hlocks := B.notSynchronized
  subst hsz
  have hD := hD0.self (sz := s.heap.size)
  generalize hAe : va_A (w_Model h cI cJ σ) s.heap.size = A at hD ⊢
  have hA : ∀ q : Nat, s.heap.size ≤ q → A q := fun q h => by rw [← hAe]; exact Or.inr h
  clear hD0 hAe
  have hS : va_S A s.heap s.heap [] := va_S.rf
  have hl := lv_entry ([.ref (h 13)]) (n := 1) (Nat.le_of_ble_eq_true rfl)
  rw [lg_entry_eq]
  generalize (lg_sl ([.ref (h 13)]) ++ List.replicate (1 - (lg_sl ([.ref (h 13)])).length) Slot.unset).toArray = ls at hl ⊢
  have hl : lv_has ls 1 [(0, .ref (h 13))] := hl
  unfold wp_X9_asks at hok
  refine lv_aload_n hx hb dX9_asks_0 rfl (lv_at hl 0 rfl) ?_
  refine va_get (D := (dC, dI)) (ci := 8) (v := .int (σ.1 22)) (C := RX9) (T := TX9) (N := 33) hx hb hts (fun w h => List.mem_cons_of_mem _ (in_X9 w h)) hown hK hP 0 rfl rfl 22 (by decide) (hts _ (List.mem_cons_of_mem _ tw_3_209)) (fun _ h9 => h9) rfl dX9_asks_1 ?_
  refine lv_if_le (tgt := 21) hx hb dX9_asks_4 (by decide) (fun c1 => ?_) (fun c1 => ?_)
  · have hok := hok.1 c1
    refine lv_iconst (v := 0) hx hb dX9_asks_21 (by decide) ?_
    exact W.zret (v := 0) hx hb hr rfl (fun t ht hW => ⟨⟨0, (), rfl, hok, by rw [ht]; exact hP, va_K.moved hW.alike hK, hD⟩, hS.F ht⟩) hS.2.2 dX9_asks_22
  · have hok := hok.2 c1
    refine lv_aload_n hx hb dX9_asks_7 rfl (lv_at hl 0 rfl) ?_
    refine va_get (D := (dC, dI)) (ci := 8) (v := .int (σ.1 19)) (C := RX9) (T := TX9) (N := 33) hx hb hts (fun w h => List.mem_cons_of_mem _ (in_X9 w h)) hown hK hP 0 rfl rfl 19 (by decide) (hts _ (List.mem_cons_of_mem _ tw_3_206)) (fun _ h9 => h9) rfl dX9_asks_8 ?_
    refine lv_iconst (v := 3) hx hb dX9_asks_11 (by decide) ?_
    refine lv_iand hx hb dX9_asks_12 ?_
    refine lv_iconst (v := 1) hx hb dX9_asks_13 (by decide) ?_
    refine lv_icmp_ne (tgt := 21) hx hb dX9_asks_14 (by decide) (fun c2 => ?_) (fun c2 => ?_)
    · have hok := hok.2 c2
      refine lv_iconst (v := 0) hx hb dX9_asks_21 (by decide) ?_
      exact W.zret (v := 0) hx hb hr rfl (fun t ht hW => ⟨⟨0, (), rfl, hok, by rw [ht]; exact hP, va_K.moved hW.alike hK, hD⟩, hS.F ht⟩) hS.2.2 dX9_asks_22
    · have hok := hok.1 c2
      refine lv_iconst (v := 1) hx hb dX9_asks_17 (by decide) ?_
      refine lv_goto (tgt := 22) hx hb dX9_asks_18 (by decide) ?_
      exact W.zret (v := 1) hx hb hr rfl (fun t ht hW => ⟨⟨1, (), rfl, hok, by rw [ht]; exact hP, va_K.moved hW.alike hK, hD⟩, hS.F ht⟩) hS.2.2 dX9_asks_22
def wp_X9_flags (σ : S_Model) (Φ : Int32 → Prop) : Prop := ((((σ.1 17) &&& (σ.1 18)) = 0 → (Φ (σ.1 17))) ∧ (¬ ((σ.1 17) &&& (σ.1 18)) = 0 → (Φ ((σ.1 17) ||| (128 : Int32)))))
set_option maxHeartbeats 4000000 in
set_option maxRecDepth 100000 in
theorem c_X9_flags (l : Launch) (dC : Nat → ClassId) (dI : Nat → Nat → Nat) (cI cJ : ClassId) (h : Nat → Nat) (sz : Nat) {σ : S_Model} {Φ : Int32 → Prop} (hok : wp_X9_flags σ Φ) : Met l yX9_flags wsX9_flags ({ frames := 0, cells := 0, slots := 0, locals := 0 }) (va_Pc [.ref (h 13)] (cpre dC dI cI cJ (w_Model h cI cJ σ) sz)) (va_Qi (fun (r : Int32) (_ : Unit) => Φ r) (fun _ => cpost dC dI cI cJ (va_A (w_Model h cI cJ σ) sz) (w_Model h cI cJ σ)) (va_A (w_Model h cI cJ σ) sz)) 0 0 (va_A (w_Model h cI cJ σ) sz) := by
  refine Met.ofW (cc := cX9_flags) (maxL := 1) (ret := (some .int)) (by decide) rfl ?_
  intro p e s m args below meth c s₁ B hml hv
  obtain ⟨rfl, hsz, hP, hK, hD0⟩ := hv
  have hx := B.exec
  have hb := B.bytes
  have hr := B.returns
  have hts := atoms_spec (ws := wsX9_flags) B.pre
  have hown : s.vm.findClass RX9 = some m.cls := findClass_of_methodNamed B.named
  have hlocks := B.notSynchronized
  subst hsz
  have hD := hD0.self (sz := s.heap.size)
  generalize hAe : va_A (w_Model h cI cJ σ) s.heap.size = A at hD ⊢
  have hA : ∀ q : Nat, s.heap.size ≤ q → A q := fun q h => by rw [← hAe]; exact Or.inr h
  clear hD0 hAe
  have hS : va_S A s.heap s.heap [] := va_S.rf
  have hl := lv_entry ([.ref (h 13)]) (n := 1) (Nat.le_of_ble_eq_true rfl)
  rw [lg_entry_eq]
  generalize (lg_sl ([.ref (h 13)]) ++ List.replicate (1 - (lg_sl ([.ref (h 13)])).length) Slot.unset).toArray = ls at hl ⊢
  have hl : lv_has ls 1 [(0, .ref (h 13))] := hl
  unfold wp_X9_flags at hok
  refine lv_aload_n hx hb dX9_flags_0 rfl (lv_at hl 0 rfl) ?_
  refine va_get (D := (dC, dI)) (ci := 8) (v := .int (σ.1 17)) (C := RX9) (T := TX9) (N := 33) hx hb hts (fun w h => List.mem_cons_of_mem _ (in_X9 w h)) hown hK hP 0 rfl rfl 17 (by decide) (hts _ (List.mem_cons_of_mem _ tw_3_204)) (fun _ h9 => h9) rfl dX9_flags_1 ?_
  refine lv_aload_n hx hb dX9_flags_4 rfl (lv_at hl 0 rfl) ?_
  refine va_get (D := (dC, dI)) (ci := 8) (v := .int (σ.1 18)) (C := RX9) (T := TX9) (N := 33) hx hb hts (fun w h => List.mem_cons_of_mem _ (in_X9 w h)) hown hK hP 0 rfl rfl 18 (by decide) (hts _ (List.mem_cons_of_mem _ tw_3_205)) (fun _ h9 => h9) rfl dX9_flags_5 ?_
  refine lv_iand hx hb dX9_flags_8 ?_
  refine lv_if_ne (tgt := 19) hx hb dX9_flags_9 (by decide) (fun c1 => ?_) (fun c1 => ?_)
  · have hok := hok.2 c1
    refine lv_aload_n hx hb dX9_flags_19 rfl (lv_at hl 0 rfl) ?_
    refine va_get (D := (dC, dI)) (ci := 8) (v := .int (σ.1 17)) (C := RX9) (T := TX9) (N := 33) hx hb hts (fun w h => List.mem_cons_of_mem _ (in_X9 w h)) hown hK hP 0 rfl rfl 17 (by decide) (hts _ (List.mem_cons_of_mem _ tw_3_204)) (fun _ h9 => h9) rfl dX9_flags_20 ?_
    refine lv_sipush (v := 128) hx hb dX9_flags_23 (by decide) ?_
    refine lv_ior hx hb dX9_flags_26 ?_
    exact W.iret (v := (σ.1 17) ||| (128 : Int32)) hx hb hr (fun t ht hW => ⟨⟨(σ.1 17) ||| (128 : Int32), (), rfl, hok, by rw [ht]; exact hP, va_K.moved hW.alike hK, hD⟩, hS.F ht⟩) hS.2.2 dX9_flags_27
  · have hok := hok.1 c1
    refine lv_aload_n hx hb dX9_flags_12 rfl (lv_at hl 0 rfl) ?_
    refine va_get (D := (dC, dI)) (ci := 8) (v := .int (σ.1 17)) (C := RX9) (T := TX9) (N := 33) hx hb hts (fun w h => List.mem_cons_of_mem _ (in_X9 w h)) hown hK hP 0 rfl rfl 17 (by decide) (hts _ (List.mem_cons_of_mem _ tw_3_204)) (fun _ h9 => h9) rfl dX9_flags_13 ?_
    refine lv_goto (tgt := 27) hx hb dX9_flags_16 (by decide) ?_
    exact W.iret (v := σ.1 17) hx hb hr (fun t ht hW => ⟨⟨σ.1 17, (), rfl, hok, by rw [ht]; exact hP, va_K.moved hW.alike hK, hD⟩, hS.F ht⟩) hS.2.2 dX9_flags_27
def wp_X9_see_255 (σ : S_Model) (s0 : Int32) (s1 : Int32) (Φ : Int32 → Prop) : Prop := wp_X9_asks σ (fun r1 => ((r1 = 0 → (Φ ((s0 + s1) + (0 : Int32)))) ∧ (¬ r1 = 0 → (Φ ((s0 + s1) + (128 : Int32))))))
def wp_X9_see (σ : S_Model) (a1 : Int32) (Φ : Int32 → Prop) : Prop := wp_X9_cell σ a1 (fun r3 => ((r3 < 0 → ((((a1 - (40960 : Int32)) = 4 → (Φ ((σ.1 12) &&& (255 : Int32)))) ∧ ((a1 - (40960 : Int32)) = 5 → (Φ ((σ.1 12) >>> ((8 : Int32) &&& 31)))) ∧ ((a1 - (40960 : Int32)) = 6 → (Φ ((σ.1 14) &&& (255 : Int32)))) ∧ ((a1 - (40960 : Int32)) = 7 → (Φ ((σ.1 14) >>> ((8 : Int32) &&& 31)))) ∧ ((a1 - (40960 : Int32)) = 8 → (Φ ((σ.1 13) &&& (255 : Int32)))) ∧ ((a1 - (40960 : Int32)) = 9 → (Φ ((σ.1 13) >>> ((8 : Int32) &&& 31)))) ∧ ((a1 - (40960 : Int32)) = 11 → (Φ (σ.1 16))) ∧ ((a1 - (40960 : Int32)) = 13 → (wp_X9_flags σ (fun r13 => Φ r13))) ∧ ((a1 - (40960 : Int32)) = 14 → (Φ ((σ.1 18) ||| (128 : Int32)))) ∧ ((a1 - (40960 : Int32)) = 16 → ((((σ.1 22) ≤ 0 → (Φ 0)) ∧ (¬ (σ.1 22) ≤ 0 → ((vp_in 0 64 ∧ (Φ ((σ.2.2 24) (0 : Int32).toNatClampNeg)))))))) ∧ ((a1 - (40960 : Int32)) = 17 → ((((σ.1 22) ≤ 0 → (wp_X9_see_255 σ 16 0 Φ)) ∧ (¬ (σ.1 22) ≤ 0 → (wp_X9_see_255 σ 16 8 Φ))))) ∧ ((a1 - (40960 : Int32)) = 18 → (Φ (σ.1 19))) ∧ ((a1 - (40960 : Int32)) = 32 → (Φ (σ.1 5))) ∧ ((¬ (a1 - (40960 : Int32)) = 4 ∧ ¬ (a1 - (40960 : Int32)) = 5 ∧ ¬ (a1 - (40960 : Int32)) = 6 ∧ ¬ (a1 - (40960 : Int32)) = 7 ∧ ¬ (a1 - (40960 : Int32)) = 8 ∧ ¬ (a1 - (40960 : Int32)) = 9 ∧ ¬ (a1 - (40960 : Int32)) = 11 ∧ ¬ (a1 - (40960 : Int32)) = 13 ∧ ¬ (a1 - (40960 : Int32)) = 14 ∧ ¬ (a1 - (40960 : Int32)) = 16 ∧ ¬ (a1 - (40960 : Int32)) = 17 ∧ ¬ (a1 - (40960 : Int32)) = 18 ∧ ¬ (a1 - (40960 : Int32)) = 32) → (Φ 0))))) ∧ (¬ r3 < 0 → (wp_X9_cell σ a1 (fun r21 => (vp_in r21 81920 ∧ (Φ ((σ.2.2 1) r21.toNatClampNeg))))))))
set_option maxHeartbeats 4000000 in
set_option maxRecDepth 100000 in
theorem c_X9_see (l : Launch) (dC : Nat → ClassId) (dI : Nat → Nat → Nat) (cI cJ : ClassId) (h : Nat → Nat) (sz : Nat) {σ : S_Model} {a1 : Int32} {Φ : Int32 → Prop} (hok : wp_X9_see σ a1 Φ) : Met l yX9_see wsX9_see ({ frames := 1, cells := 0, slots := 0, locals := 21 }) (va_Pc [.ref (h 13), .int a1] (cpre dC dI cI cJ (w_Model h cI cJ σ) sz)) (va_Qi (fun (r : Int32) (_ : Unit) => Φ r) (fun _ => cpost dC dI cI cJ (va_A (w_Model h cI cJ σ) sz) (w_Model h cI cJ σ)) (va_A (w_Model h cI cJ σ) sz)) 0 0 (va_A (w_Model h cI cJ σ) sz) := by
  refine Met.ofW (cc := cX9_see) (maxL := 2) (ret := (some .int)) (by decide) rfl ?_
  intro p e s m args below meth c s₁ B hml hv
  obtain ⟨rfl, hsz, hP, hK, hD0⟩ := hv
  have hx := B.exec
  have hb := B.bytes
  have hr := B.returns
  have hts := atoms_spec (ws := wsX9_see) B.pre
  have hown : s.vm.findClass RX9 = some m.cls := findClass_of_methodNamed B.named
  have hlocks := B.notSynchronized
  subst hsz
  have hD := hD0.self (sz := s.heap.size)
  generalize hAe : va_A (w_Model h cI cJ σ) s.heap.size = A at hD ⊢
  have hA : ∀ q : Nat, s.heap.size ≤ q → A q := fun q h => by rw [← hAe]; exact Or.inr h
  clear hD0 hAe
  have hS : va_S A s.heap s.heap [] := va_S.rf
  have b255 : ∀ (σ : S_Model) (s0 : Int32) (s1 : Int32), wp_X9_see_255 σ s0 s1 Φ → ∀ (H : Heap) (locs : List Loc), va_P (dC, dI) vwCl (w_Model h cI cJ σ) H → va_D A (w_Model h cI cJ σ) → va_S A s.heap H locs → ∀ ls : Array Slot, lv_has ls 2 [(0, .ref (h 13))] → W p l e (headSpec wsX9_see { frames := 1, cells := 0, slots := 0, locals := 21 }).room s m ([.ref (h 13), .int a1] : List Value).toArray below meth c H locs 0 0 (MQ below (va_Qi (fun (r : Int32) (_ : Unit) => Φ r) (fun _ => cpost dC dI cI cJ A (w_Model h cI cJ σ)) A) ([.ref (h 13), .int a1] : List Value).toArray s 0 0 A) (F0 m 255 ls [.int s1, .int s0]) := by
    intro σ s0 s1 hok H locs hP hD hS ls hl
    unfold wp_X9_see_255 at hok
    refine lv_iadd hx hb dX9_see_255 ?_
    refine lv_aload_n hx hb dX9_see_256 rfl (lv_at hl 0 rfl) ?_
    have hPc := hP
    have hDc := hD
    have hFc := va_free (wc := w_Model h cI cJ σ) hD hS hA [0, 1, 2, 3, 4, 5, 6] rfl
    refine va_calli (va_runV (As := []) (rest := [.int (s0 + s1)]) ⟨hx, hb, hml, hown, hts⟩ (c_X9_asks l dC dI cI cJ h _ hok) (cwV 0 hts (tb_gV tw_4_105 tw_4_107 tw_p_47 tw_1_9 tw_4_108) rfl rfl rfl (by decide +kernel) ⟨Nat.le_of_ble_eq_true rfl, Nat.le_of_ble_eq_true rfl⟩) (cpre_V (ci := 8) (q0 := 0) hK hPc hDc rfl rfl) rfl rfl hl.1 rfl (lv_room (Nat.le_of_ble_eq_true rfl)) dX9_see_257 ⟨Nat.le_of_ble_eq_true rfl, Nat.le_of_ble_eq_true rfl⟩) hS (fun q _ h => hFc q h) hFc (fun r1 _ t H1 locs ht hvm hok hB hz1 hk1 hS => ?_)
    obtain ⟨hP, hD⟩ := cjoin_w ht hB hFc
    refine lv_if_eq (tgt := 269) hx hb dX9_see_260 (by decide) (fun c2 => ?_) (fun c2 => ?_)
    · have hok := hok.1 c2
      refine lv_iconst (v := 0) hx hb dX9_see_269 (by decide) ?_
      refine lv_iadd hx hb dX9_see_270 ?_
      exact W.iret (v := (s0 + s1) + (0 : Int32)) hx hb hr (fun t ht hW => ⟨⟨(s0 + s1) + (0 : Int32), (), rfl, hok, by rw [ht]; exact hP, va_K.moved hW.alike hK, hD⟩, hS.F ht⟩) hS.2.2 dX9_see_271
    · have hok := hok.2 c2
      refine lv_sipush (v := 128) hx hb dX9_see_263 (by decide) ?_
      refine lv_goto (tgt := 270) hx hb dX9_see_266 (by decide) ?_
      refine lv_iadd hx hb dX9_see_270 ?_
      exact W.iret (v := (s0 + s1) + (128 : Int32)) hx hb hr (fun t ht hW => ⟨⟨(s0 + s1) + (128 : Int32), (), rfl, hok, by rw [ht]; exact hP, va_K.moved hW.alike hK, hD⟩, hS.F ht⟩) hS.2.2 dX9_see_271
  have hl := lv_entry ([.ref (h 13), .int a1]) (n := 2) (Nat.le_of_ble_eq_true rfl)
  rw [lg_entry_eq]
  generalize (lg_sl ([.ref (h 13), .int a1]) ++ List.replicate (2 - (lg_sl ([.ref (h 13), .int a1])).length) Slot.unset).toArray = ls at hl ⊢
  have hl : lv_has ls 2 [(0, .ref (h 13)), (1, .int a1)] := hl
  unfold wp_X9_see at hok
  refine lv_aload_n hx hb dX9_see_0 rfl (lv_at hl 0 rfl) ?_
  refine lv_iload_n hx hb dX9_see_1 rfl (lv_at hl 1 rfl) ?_
  have hPc := hP
  have hDc := hD
  have hFc := va_free (wc := w_Model h cI cJ σ) hD hS hA [0, 1, 2, 3, 4, 5, 6] rfl
  refine va_calli (va_runV (As := [.int a1]) (rest := []) ⟨hx, hb, hml, hown, hts⟩ (c_X9_cell l dC dI cI cJ h _ hok) (cwV 1 hts (tb_gV tw_4_77 tw_4_79 tw_p_41 tw_1_9 tw_4_80) rfl rfl rfl (by decide +kernel) ⟨Nat.le_of_ble_eq_true rfl, Nat.le_of_ble_eq_true rfl⟩) (cpre_V (ci := 8) (q0 := 0) hK hPc hDc rfl rfl) rfl rfl hl.1 rfl (lv_room (Nat.le_of_ble_eq_true rfl)) dX9_see_2 ⟨Nat.le_of_ble_eq_true rfl, Nat.le_of_ble_eq_true rfl⟩) hS (fun q _ h => hFc q h) hFc (fun r3 _ t H1 locs ht hvm hok hB hz1 hk1 hS => ?_)
  obtain ⟨hP, hD⟩ := cjoin_w ht hB hFc
  refine lv_if_lt (tgt := 19) hx hb dX9_see_5 (by decide) (fun c4 => ?_) (fun c4 => ?_)
  · have hok := hok.1 c4
    refine lv_iload_n hx hb dX9_see_19 rfl (lv_at hl 1 rfl) ?_
    refine lv_ldc (v := 40960) hx hb hown (hts _ (List.mem_cons_of_mem _ tw_4_76)) dX9_see_20 ?_
    refine lv_isub hx hb dX9_see_22 ?_
    by_cases c5 : (a1 - (40960 : Int32)) = 4
    · have hok := hok.1 c5
      refine lv_tableIn (tgt := 152) (off := 129) hx hb dX9_see_23 (by rw [c5]; decide) (by rw [c5]; decide) (by rw [c5]; decide) (by decide) ?_
      refine lv_aload_n hx hb dX9_see_152 rfl (lv_at hl 0 rfl) ?_
      refine va_get (D := (dC, dI)) (ci := 8) (v := .int (σ.1 12)) (C := RX9) (T := TX9) (N := 33) hx hb hts (fun w h => List.mem_cons_of_mem _ (in_X9 w h)) hown hK hP 0 rfl rfl 12 (by decide) (hts _ (List.mem_cons_of_mem _ tw_3_199)) (fun _ h9 => h9) rfl dX9_see_153 ?_
      refine lv_sipush (v := 255) hx hb dX9_see_156 (by decide) ?_
      refine lv_iand hx hb dX9_see_159 ?_
      exact W.iret (v := (σ.1 12) &&& (255 : Int32)) hx hb hr (fun t ht hW => ⟨⟨(σ.1 12) &&& (255 : Int32), (), rfl, hok, by rw [ht]; exact hP, va_K.moved hW.alike hK, hD⟩, hS.F ht⟩) hS.2.2 dX9_see_160
    have hok := hok.2
    by_cases c6 : (a1 - (40960 : Int32)) = 5
    · have hok := hok.1 c6
      refine lv_tableIn (tgt := 161) (off := 138) hx hb dX9_see_23 (by rw [c6]; decide) (by rw [c6]; decide) (by rw [c6]; decide) (by decide) ?_
      refine lv_aload_n hx hb dX9_see_161 rfl (lv_at hl 0 rfl) ?_
      refine va_get (D := (dC, dI)) (ci := 8) (v := .int (σ.1 12)) (C := RX9) (T := TX9) (N := 33) hx hb hts (fun w h => List.mem_cons_of_mem _ (in_X9 w h)) hown hK hP 0 rfl rfl 12 (by decide) (hts _ (List.mem_cons_of_mem _ tw_3_199)) (fun _ h9 => h9) rfl dX9_see_162 ?_
      refine lv_bipush (v := 8) hx hb dX9_see_165 (by decide) ?_
      refine lv_ishr hx hb dX9_see_167 ?_
      exact W.iret (v := (σ.1 12) >>> ((8 : Int32) &&& 31)) hx hb hr (fun t ht hW => ⟨⟨(σ.1 12) >>> ((8 : Int32) &&& 31), (), rfl, hok, by rw [ht]; exact hP, va_K.moved hW.alike hK, hD⟩, hS.F ht⟩) hS.2.2 dX9_see_168
    have hok := hok.2
    by_cases c7 : (a1 - (40960 : Int32)) = 6
    · have hok := hok.1 c7
      refine lv_tableIn (tgt := 169) (off := 146) hx hb dX9_see_23 (by rw [c7]; decide) (by rw [c7]; decide) (by rw [c7]; decide) (by decide) ?_
      refine lv_aload_n hx hb dX9_see_169 rfl (lv_at hl 0 rfl) ?_
      refine va_get (D := (dC, dI)) (ci := 8) (v := .int (σ.1 14)) (C := RX9) (T := TX9) (N := 33) hx hb hts (fun w h => List.mem_cons_of_mem _ (in_X9 w h)) hown hK hP 0 rfl rfl 14 (by decide) (hts _ (List.mem_cons_of_mem _ tw_3_201)) (fun _ h9 => h9) rfl dX9_see_170 ?_
      refine lv_sipush (v := 255) hx hb dX9_see_173 (by decide) ?_
      refine lv_iand hx hb dX9_see_176 ?_
      exact W.iret (v := (σ.1 14) &&& (255 : Int32)) hx hb hr (fun t ht hW => ⟨⟨(σ.1 14) &&& (255 : Int32), (), rfl, hok, by rw [ht]; exact hP, va_K.moved hW.alike hK, hD⟩, hS.F ht⟩) hS.2.2 dX9_see_177
    have hok := hok.2
    by_cases c8 : (a1 - (40960 : Int32)) = 7
    · have hok := hok.1 c8
      refine lv_tableIn (tgt := 178) (off := 155) hx hb dX9_see_23 (by rw [c8]; decide) (by rw [c8]; decide) (by rw [c8]; decide) (by decide) ?_
      refine lv_aload_n hx hb dX9_see_178 rfl (lv_at hl 0 rfl) ?_
      refine va_get (D := (dC, dI)) (ci := 8) (v := .int (σ.1 14)) (C := RX9) (T := TX9) (N := 33) hx hb hts (fun w h => List.mem_cons_of_mem _ (in_X9 w h)) hown hK hP 0 rfl rfl 14 (by decide) (hts _ (List.mem_cons_of_mem _ tw_3_201)) (fun _ h9 => h9) rfl dX9_see_179 ?_
      refine lv_bipush (v := 8) hx hb dX9_see_182 (by decide) ?_
      refine lv_ishr hx hb dX9_see_184 ?_
      exact W.iret (v := (σ.1 14) >>> ((8 : Int32) &&& 31)) hx hb hr (fun t ht hW => ⟨⟨(σ.1 14) >>> ((8 : Int32) &&& 31), (), rfl, hok, by rw [ht]; exact hP, va_K.moved hW.alike hK, hD⟩, hS.F ht⟩) hS.2.2 dX9_see_185
    have hok := hok.2
    by_cases c9 : (a1 - (40960 : Int32)) = 8
    · have hok := hok.1 c9
      refine lv_tableIn (tgt := 186) (off := 163) hx hb dX9_see_23 (by rw [c9]; decide) (by rw [c9]; decide) (by rw [c9]; decide) (by decide) ?_
      refine lv_aload_n hx hb dX9_see_186 rfl (lv_at hl 0 rfl) ?_
      refine va_get (D := (dC, dI)) (ci := 8) (v := .int (σ.1 13)) (C := RX9) (T := TX9) (N := 33) hx hb hts (fun w h => List.mem_cons_of_mem _ (in_X9 w h)) hown hK hP 0 rfl rfl 13 (by decide) (hts _ (List.mem_cons_of_mem _ tw_3_200)) (fun _ h9 => h9) rfl dX9_see_187 ?_
      refine lv_sipush (v := 255) hx hb dX9_see_190 (by decide) ?_
      refine lv_iand hx hb dX9_see_193 ?_
      exact W.iret (v := (σ.1 13) &&& (255 : Int32)) hx hb hr (fun t ht hW => ⟨⟨(σ.1 13) &&& (255 : Int32), (), rfl, hok, by rw [ht]; exact hP, va_K.moved hW.alike hK, hD⟩, hS.F ht⟩) hS.2.2 dX9_see_194
    have hok := hok.2
    by_cases c10 : (a1 - (40960 : Int32)) = 9
    · have hok := hok.1 c10
      refine lv_tableIn (tgt := 195) (off := 172) hx hb dX9_see_23 (by rw [c10]; decide) (by rw [c10]; decide) (by rw [c10]; decide) (by decide) ?_
      refine lv_aload_n hx hb dX9_see_195 rfl (lv_at hl 0 rfl) ?_
      refine va_get (D := (dC, dI)) (ci := 8) (v := .int (σ.1 13)) (C := RX9) (T := TX9) (N := 33) hx hb hts (fun w h => List.mem_cons_of_mem _ (in_X9 w h)) hown hK hP 0 rfl rfl 13 (by decide) (hts _ (List.mem_cons_of_mem _ tw_3_200)) (fun _ h9 => h9) rfl dX9_see_196 ?_
      refine lv_bipush (v := 8) hx hb dX9_see_199 (by decide) ?_
      refine lv_ishr hx hb dX9_see_201 ?_
      exact W.iret (v := (σ.1 13) >>> ((8 : Int32) &&& 31)) hx hb hr (fun t ht hW => ⟨⟨(σ.1 13) >>> ((8 : Int32) &&& 31), (), rfl, hok, by rw [ht]; exact hP, va_K.moved hW.alike hK, hD⟩, hS.F ht⟩) hS.2.2 dX9_see_202
    have hok := hok.2
    by_cases c11 : (a1 - (40960 : Int32)) = 11
    · have hok := hok.1 c11
      refine lv_tableIn (tgt := 203) (off := 180) hx hb dX9_see_23 (by rw [c11]; decide) (by rw [c11]; decide) (by rw [c11]; decide) (by decide) ?_
      refine lv_aload_n hx hb dX9_see_203 rfl (lv_at hl 0 rfl) ?_
      refine va_get (D := (dC, dI)) (ci := 8) (v := .int (σ.1 16)) (C := RX9) (T := TX9) (N := 33) hx hb hts (fun w h => List.mem_cons_of_mem _ (in_X9 w h)) hown hK hP 0 rfl rfl 16 (by decide) (hts _ (List.mem_cons_of_mem _ tw_3_203)) (fun _ h9 => h9) rfl dX9_see_204 ?_
      exact W.iret (v := σ.1 16) hx hb hr (fun t ht hW => ⟨⟨σ.1 16, (), rfl, hok, by rw [ht]; exact hP, va_K.moved hW.alike hK, hD⟩, hS.F ht⟩) hS.2.2 dX9_see_207
    have hok := hok.2
    by_cases c12 : (a1 - (40960 : Int32)) = 13
    · have hok := hok.1 c12
      refine lv_tableIn (tgt := 208) (off := 185) hx hb dX9_see_23 (by rw [c12]; decide) (by rw [c12]; decide) (by rw [c12]; decide) (by decide) ?_
      refine lv_aload_n hx hb dX9_see_208 rfl (lv_at hl 0 rfl) ?_
      have hPc := hP
      have hDc := hD
      have hFc := va_free (wc := w_Model h cI cJ σ) hD hS hA [0, 1, 2, 3, 4, 5, 6] rfl
      refine va_calli (va_runV (As := []) (rest := []) ⟨hx, hb, hml, hown, hts⟩ (c_X9_flags l dC dI cI cJ h _ hok) (cwV 0 hts (tb_gV tw_4_101 tw_4_103 tw_p_46 tw_1_9 tw_4_104) rfl rfl rfl (by decide +kernel) ⟨Nat.le_of_ble_eq_true rfl, Nat.le_of_ble_eq_true rfl⟩) (cpre_V (ci := 8) (q0 := 0) hK hPc hDc rfl rfl) rfl rfl hl.1 rfl (lv_room (Nat.le_of_ble_eq_true rfl)) dX9_see_209 ⟨Nat.le_of_ble_eq_true rfl, Nat.le_of_ble_eq_true rfl⟩) hS (fun q _ h => hFc q h) hFc (fun r13 _ t H1 locs ht hvm hok hB hz1 hk1 hS => ?_)
      obtain ⟨hP, hD⟩ := cjoin_w ht hB hFc
      exact W.iret (v := r13) hx hb hr (fun t ht hW => ⟨⟨r13, (), rfl, hok, by rw [ht]; exact hP, va_K.moved hW.alike hK, hD⟩, hS.F ht⟩) hS.2.2 dX9_see_212
    have hok := hok.2
    by_cases c14 : (a1 - (40960 : Int32)) = 14
    · have hok := hok.1 c14
      refine lv_tableIn (tgt := 213) (off := 190) hx hb dX9_see_23 (by rw [c14]; decide) (by rw [c14]; decide) (by rw [c14]; decide) (by decide) ?_
      refine lv_aload_n hx hb dX9_see_213 rfl (lv_at hl 0 rfl) ?_
      refine va_get (D := (dC, dI)) (ci := 8) (v := .int (σ.1 18)) (C := RX9) (T := TX9) (N := 33) hx hb hts (fun w h => List.mem_cons_of_mem _ (in_X9 w h)) hown hK hP 0 rfl rfl 18 (by decide) (hts _ (List.mem_cons_of_mem _ tw_3_205)) (fun _ h9 => h9) rfl dX9_see_214 ?_
      refine lv_sipush (v := 128) hx hb dX9_see_217 (by decide) ?_
      refine lv_ior hx hb dX9_see_220 ?_
      exact W.iret (v := (σ.1 18) ||| (128 : Int32)) hx hb hr (fun t ht hW => ⟨⟨(σ.1 18) ||| (128 : Int32), (), rfl, hok, by rw [ht]; exact hP, va_K.moved hW.alike hK, hD⟩, hS.F ht⟩) hS.2.2 dX9_see_221
    have hok := hok.2
    by_cases c15 : (a1 - (40960 : Int32)) = 16
    · have hok := hok.1 c15
      refine lv_tableIn (tgt := 222) (off := 199) hx hb dX9_see_23 (by rw [c15]; decide) (by rw [c15]; decide) (by rw [c15]; decide) (by decide) ?_
      refine lv_aload_n hx hb dX9_see_222 rfl (lv_at hl 0 rfl) ?_
      refine va_get (D := (dC, dI)) (ci := 8) (v := .int (σ.1 22)) (C := RX9) (T := TX9) (N := 33) hx hb hts (fun w h => List.mem_cons_of_mem _ (in_X9 w h)) hown hK hP 0 rfl rfl 22 (by decide) (hts _ (List.mem_cons_of_mem _ tw_3_209)) (fun _ h9 => h9) rfl dX9_see_223 ?_
      refine lv_if_le (tgt := 238) hx hb dX9_see_226 (by decide) (fun c16 => ?_) (fun c16 => ?_)
      · have hok := hok.1 c16
        refine lv_iconst (v := 0) hx hb dX9_see_238 (by decide) ?_
        exact W.iret (v := 0) hx hb hr (fun t ht hW => ⟨⟨0, (), rfl, hok, by rw [ht]; exact hP, va_K.moved hW.alike hK, hD⟩, hS.F ht⟩) hS.2.2 dX9_see_239
      · have hok := hok.2 c16
        refine lv_aload_n hx hb dX9_see_229 rfl (lv_at hl 0 rfl) ?_
        refine va_get (D := (dC, dI)) (ci := 8) (v := .ref (h 16)) (C := RX9) (T := TX9) (N := 33) hx hb hts (fun w h => List.mem_cons_of_mem _ (in_X9 w h)) hown hK hP 0 rfl rfl 24 (by decide) (hts _ (List.mem_cons_of_mem _ tw_3_211)) (fun _ h9 => h9) rfl dX9_see_230 ?_
        refine lv_iconst (v := 0) hx hb dX9_see_233 (by decide) ?_
        refine va_iald hx hb hK hP 3 0 rfl rfl hok.1 dX9_see_234 ?_
        have hok := hok.2
        refine lv_goto (tgt := 239) hx hb dX9_see_235 (by decide) ?_
        exact W.iret (v := (σ.2.2 24) (0 : Int32).toNatClampNeg) hx hb hr (fun t ht hW => ⟨⟨(σ.2.2 24) (0 : Int32).toNatClampNeg, (), rfl, hok, by rw [ht]; exact hP, va_K.moved hW.alike hK, hD⟩, hS.F ht⟩) hS.2.2 dX9_see_239
    have hok := hok.2
    by_cases c17 : (a1 - (40960 : Int32)) = 17
    · have hok := hok.1 c17
      refine lv_tableIn (tgt := 240) (off := 217) hx hb dX9_see_23 (by rw [c17]; decide) (by rw [c17]; decide) (by rw [c17]; decide) (by decide) ?_
      refine lv_bipush (v := 16) hx hb dX9_see_240 (by decide) ?_
      refine lv_aload_n hx hb dX9_see_242 rfl (lv_at hl 0 rfl) ?_
      refine va_get (D := (dC, dI)) (ci := 8) (v := .int (σ.1 22)) (C := RX9) (T := TX9) (N := 33) hx hb hts (fun w h => List.mem_cons_of_mem _ (in_X9 w h)) hown hK hP 0 rfl rfl 22 (by decide) (hts _ (List.mem_cons_of_mem _ tw_3_209)) (fun _ h9 => h9) rfl dX9_see_243 ?_
      refine lv_if_le (tgt := 254) hx hb dX9_see_246 (by decide) (fun c18 => ?_) (fun c18 => ?_)
      · have hok := hok.1 c18
        refine lv_iconst (v := 0) hx hb dX9_see_254 (by decide) ?_
        exact b255 σ 16 0 hok _ _ hP hD hS _ (lv_sub hl [0] rfl)
      · have hok := hok.2 c18
        refine lv_bipush (v := 8) hx hb dX9_see_249 (by decide) ?_
        refine lv_goto (tgt := 255) hx hb dX9_see_251 (by decide) ?_
        exact b255 σ 16 8 hok _ _ hP hD hS _ (lv_sub hl [0] rfl)
    have hok := hok.2
    by_cases c19 : (a1 - (40960 : Int32)) = 18
    · have hok := hok.1 c19
      refine lv_tableIn (tgt := 272) (off := 249) hx hb dX9_see_23 (by rw [c19]; decide) (by rw [c19]; decide) (by rw [c19]; decide) (by decide) ?_
      refine lv_aload_n hx hb dX9_see_272 rfl (lv_at hl 0 rfl) ?_
      refine va_get (D := (dC, dI)) (ci := 8) (v := .int (σ.1 19)) (C := RX9) (T := TX9) (N := 33) hx hb hts (fun w h => List.mem_cons_of_mem _ (in_X9 w h)) hown hK hP 0 rfl rfl 19 (by decide) (hts _ (List.mem_cons_of_mem _ tw_3_206)) (fun _ h9 => h9) rfl dX9_see_273 ?_
      exact W.iret (v := σ.1 19) hx hb hr (fun t ht hW => ⟨⟨σ.1 19, (), rfl, hok, by rw [ht]; exact hP, va_K.moved hW.alike hK, hD⟩, hS.F ht⟩) hS.2.2 dX9_see_276
    have hok := hok.2
    by_cases c20 : (a1 - (40960 : Int32)) = 32
    · have hok := hok.1 c20
      refine lv_tableIn (tgt := 277) (off := 254) hx hb dX9_see_23 (by rw [c20]; decide) (by rw [c20]; decide) (by rw [c20]; decide) (by decide) ?_
      refine lv_aload_n hx hb dX9_see_277 rfl (lv_at hl 0 rfl) ?_
      refine va_get (D := (dC, dI)) (ci := 8) (v := .int (σ.1 5)) (C := RX9) (T := TX9) (N := 33) hx hb hts (fun w h => List.mem_cons_of_mem _ (in_X9 w h)) hown hK hP 0 rfl rfl 5 (by decide) (hts _ (List.mem_cons_of_mem _ tw_3_192)) (fun _ h9 => h9) rfl dX9_see_278 ?_
      exact W.iret (v := σ.1 5) hx hb hr (fun t ht hW => ⟨⟨σ.1 5, (), rfl, hok, by rw [ht]; exact hP, va_K.moved hW.alike hK, hD⟩, hS.F ht⟩) hS.2.2 dX9_see_281
    have hok := hok.2
    have hok := hok ⟨c5, c6, c7, c8, c9, c10, c11, c12, c14, c15, c17, c19, c20⟩
    have kz20 : ∀ k ∈ ([4, 5, 6, 7, 8, 9, 11, 13, 14, 16, 17, 18, 32] : List Int), ((a1 - (40960 : Int32))).toInt ≠ k := List.forall_mem_cons.mpr ⟨tb_ne c5 rfl, List.forall_mem_cons.mpr ⟨tb_ne c6 rfl, List.forall_mem_cons.mpr ⟨tb_ne c7 rfl, List.forall_mem_cons.mpr ⟨tb_ne c8 rfl, List.forall_mem_cons.mpr ⟨tb_ne c9 rfl, List.forall_mem_cons.mpr ⟨tb_ne c10 rfl, List.forall_mem_cons.mpr ⟨tb_ne c11 rfl, List.forall_mem_cons.mpr ⟨tb_ne c12 rfl, List.forall_mem_cons.mpr ⟨tb_ne c14 rfl, List.forall_mem_cons.mpr ⟨tb_ne c15 rfl, List.forall_mem_cons.mpr ⟨tb_ne c17 rfl, List.forall_mem_cons.mpr ⟨tb_ne c19 rfl, List.forall_mem_cons.mpr ⟨tb_ne c20 rfl, fun k h => absurd h List.not_mem_nil⟩⟩⟩⟩⟩⟩⟩⟩⟩⟩⟩⟩⟩
    refine tb_def (tgt := 282) (keys := [4, 5, 6, 7, 8, 9, 11, 13, 14, 16, 17, 18, 32]) hx hb dX9_see_23 kz20 (by decide) (by decide) ?_
    refine lv_iconst (v := 0) hx hb dX9_see_282 (by decide) ?_
    exact W.iret (v := 0) hx hb hr (fun t ht hW => ⟨⟨0, (), rfl, hok, by rw [ht]; exact hP, va_K.moved hW.alike hK, hD⟩, hS.F ht⟩) hS.2.2 dX9_see_283
  · have hok := hok.2 c4
    refine lv_aload_n hx hb dX9_see_8 rfl (lv_at hl 0 rfl) ?_
    refine va_get (D := (dC, dI)) (ci := 8) (v := .ref (h 14)) (C := RX9) (T := TX9) (N := 33) hx hb hts (fun w h => List.mem_cons_of_mem _ (in_X9 w h)) hown hK hP 0 rfl rfl 1 (by decide) (hts _ (List.mem_cons_of_mem _ tw_3_188)) (fun _ h9 => h9) rfl dX9_see_9 ?_
    refine lv_aload_n hx hb dX9_see_12 rfl (lv_at hl 0 rfl) ?_
    refine lv_iload_n hx hb dX9_see_13 rfl (lv_at hl 1 rfl) ?_
    have hPc := hP
    have hDc := hD
    have hFc := va_free (wc := w_Model h cI cJ σ) hD hS hA [0, 1, 2, 3, 4, 5, 6] rfl
    refine va_calli (va_runV (As := [.int a1]) (rest := [.ref (h 14)]) ⟨hx, hb, hml, hown, hts⟩ (c_X9_cell l dC dI cI cJ h _ hok) (cwV 1 hts (tb_gV tw_4_77 tw_4_79 tw_p_41 tw_1_9 tw_4_80) rfl rfl rfl (by decide +kernel) ⟨Nat.le_of_ble_eq_true rfl, Nat.le_of_ble_eq_true rfl⟩) (cpre_V (ci := 8) (q0 := 0) hK hPc hDc rfl rfl) rfl rfl hl.1 rfl (lv_room (Nat.le_of_ble_eq_true rfl)) dX9_see_14 ⟨Nat.le_of_ble_eq_true rfl, Nat.le_of_ble_eq_true rfl⟩) hS (fun q _ h => hFc q h) hFc (fun r21 _ t H1 locs ht hvm hok hB hz1 hk1 hS => ?_)
    obtain ⟨hP, hD⟩ := cjoin_w ht hB hFc
    refine va_iald hx hb hK hP 1 0 rfl rfl hok.1 dX9_see_17 ?_
    have hok := hok.2
    exact W.iret (v := (σ.2.2 1) r21.toNatClampNeg) hx hb hr (fun t ht hW => ⟨⟨(σ.2.2 1) r21.toNatClampNeg, (), rfl, hok, by rw [ht]; exact hP, va_K.moved hW.alike hK, hD⟩, hS.F ht⟩) hS.2.2 dX9_see_18
def wp_X9_read_65 : Nat → S_Model → Int32 → Int32 → (Int32 → S_Model → Prop) → Prop
  | 0, _, _, _, _ => False
  | n + 1, σ, x2, x3, Φ => (((σ.1 22) ≤ x3 → (Φ x2 σ)) ∧ (¬ (σ.1 22) ≤ x3 → ((vp_in (x3 + (1 : Int32)) 64 ∧ ((vp_in x3 64 ∧ (∀ v2 : Int32, v2 = x3 + 1 → wp_X9_read_65 n (σ.1, σ.2.1, va_up σ.2.2 24 (upd (σ.2.2 24) x3.toNatClampNeg ((σ.2.2 24) (x3 + (1 : Int32)).toNatClampNeg))) x2 v2 Φ)))))))
def wp_X9_read_40 (σ : S_Model) (x1 : Int32) (x2 : Int32) (Φ : Int32 → S_Model → Prop) : Prop := ((x1 = (40976 : Int32) → ((((σ.1 22) ≤ 0 → (Φ x2 σ)) ∧ (¬ (σ.1 22) ≤ 0 → ((∃ n, wp_X9_read_65 n (upd σ.1 22 ((σ.1 22) - (1 : Int32)), σ.2.1, σ.2.2) x2 0 Φ)))))) ∧ (¬ x1 = (40976 : Int32) → (Φ x2 σ)))
def wp_X9_read_23 (σ : S_Model) (x1 : Int32) (x2 : Int32) (Φ : Int32 → S_Model → Prop) : Prop := ((x1 = (40968 : Int32) → (wp_X9_read_40 (upd σ.1 17 ((σ.1 17) &&& (-33 : Int32)), σ.2.1, σ.2.2) x1 x2 Φ)) ∧ (¬ x1 = (40968 : Int32) → (wp_X9_read_40 σ x1 x2 Φ)))
def wp_X9_read (σ : S_Model) (a1 : Int32) (Φ : Int32 → S_Model → Prop) : Prop := wp_X9_see σ a1 (fun r6 => ((a1 = (40964 : Int32) → (wp_X9_read_23 (upd σ.1 17 ((σ.1 17) &&& (-65 : Int32)), σ.2.1, σ.2.2) a1 r6 Φ)) ∧ (¬ a1 = (40964 : Int32) → (wp_X9_read_23 σ a1 r6 Φ))))
set_option maxHeartbeats 4000000 in
set_option maxRecDepth 100000 in
theorem c_X9_read (l : Launch) (dC : Nat → ClassId) (dI : Nat → Nat → Nat) (cI cJ : ClassId) (h : Nat → Nat) (sz : Nat) {σ : S_Model} {a1 : Int32} {Φ : Int32 → S_Model → Prop} (hok : wp_X9_read σ a1 Φ) : Met l yX9_read wsX9_read ({ frames := 2, cells := 0, slots := 0, locals := 42 }) (va_Pc [.ref (h 13), .int a1] (cpre dC dI cI cJ (w_Model h cI cJ σ) sz)) (va_Qi Φ (fun u => cpost dC dI cI cJ (va_A (w_Model h cI cJ σ) sz) (w_Model h cI cJ u)) (va_A (w_Model h cI cJ σ) sz)) 0 0 (va_A (w_Model h cI cJ σ) sz) := by
  refine Met.ofW (cc := cX9_read) (maxL := 4) (ret := (some .int)) (by decide) rfl ?_
  intro p e s m args below meth c s₁ B hml hv
  obtain ⟨rfl, hsz, hP, hK, hD0⟩ := hv
  have hx := B.exec
  have hb := B.bytes
  have hr := B.returns
  have hts := atoms_spec (ws := wsX9_read) B.pre
  have hown : s.vm.findClass RX9 = some m.cls := findClass_of_methodNamed B.named
  have hlocks := B.notSynchronized
  subst hsz
  have hD := hD0.self (sz := s.heap.size)
  generalize hAe : va_A (w_Model h cI cJ σ) s.heap.size = A at hD ⊢
  have hA : ∀ q : Nat, s.heap.size ≤ q → A q := fun q h => by rw [← hAe]; exact Or.inr h
  clear hD0 hAe
  have hS : va_S A s.heap s.heap [] := va_S.rf
  have b65 : ∀ (n : Nat) (σ : S_Model) (x2 : Int32) (x3 : Int32), wp_X9_read_65 n σ x2 x3 Φ → ∀ (H : Heap) (locs : List Loc), va_P (dC, dI) vwCl (w_Model h cI cJ σ) H → va_D A (w_Model h cI cJ σ) → va_S A s.heap H locs → ∀ ls : Array Slot, lv_has ls 4 [(0, .ref (h 13)), (2, .int x2), (3, .int x3)] → W p l e (headSpec wsX9_read { frames := 2, cells := 0, slots := 0, locals := 42 }).room s m ([.ref (h 13), .int a1] : List Value).toArray below meth c H locs 0 0 (MQ below (va_Qi Φ (fun u => cpost dC dI cI cJ A (w_Model h cI cJ u)) A) ([.ref (h 13), .int a1] : List Value).toArray s 0 0 A) (F0 m 65 ls []) := by
    intro n
    induction n with
    | zero =>
      intro σ x2 x3 hok
      exact hok.elim
    | succ n ih =>
      intro σ x2 x3 hok H locs hP hD hS ls hl
      rw [wp_X9_read_65] at hok
      refine lv_iload_n hx hb dX9_read_65 rfl (lv_at hl 2 rfl) ?_
      refine lv_aload_n hx hb dX9_read_66 rfl (lv_at hl 0 rfl) ?_
      refine va_get (D := (dC, dI)) (ci := 8) (v := .int (σ.1 22)) (C := RX9) (T := TX9) (N := 33) hx hb hts (fun w h => List.mem_cons_of_mem _ (in_X9 w h)) hown hK hP 0 rfl rfl 22 (by decide) (hts _ (List.mem_cons_of_mem _ tw_3_209)) (fun _ h9 => h9) rfl dX9_read_67 ?_
      refine lv_icmp_ge (tgt := 93) hx hb dX9_read_70 (by decide) (fun c1 => ?_) (fun c1 => ?_)
      · have hok := hok.1 c1
        refine lv_iload_n hx hb dX9_read_93 rfl (lv_at hl 1 rfl) ?_
        exact W.iret (v := x2) hx hb hr (fun t ht hW => ⟨⟨x2, σ, rfl, hok, by rw [ht]; exact hP, va_K.moved hW.alike hK, hD⟩, hS.F ht⟩) hS.2.2 dX9_read_94
      · have hok := hok.2 c1
        refine lv_aload_n hx hb dX9_read_73 rfl (lv_at hl 0 rfl) ?_
        refine va_get (D := (dC, dI)) (ci := 8) (v := .ref (h 16)) (C := RX9) (T := TX9) (N := 33) hx hb hts (fun w h => List.mem_cons_of_mem _ (in_X9 w h)) hown hK hP 0 rfl rfl 24 (by decide) (hts _ (List.mem_cons_of_mem _ tw_3_211)) (fun _ h9 => h9) rfl dX9_read_74 ?_
        refine lv_iload_n hx hb dX9_read_77 rfl (lv_at hl 2 rfl) ?_
        refine lv_aload_n hx hb dX9_read_78 rfl (lv_at hl 0 rfl) ?_
        refine va_get (D := (dC, dI)) (ci := 8) (v := .ref (h 16)) (C := RX9) (T := TX9) (N := 33) hx hb hts (fun w h => List.mem_cons_of_mem _ (in_X9 w h)) hown hK hP 0 rfl rfl 24 (by decide) (hts _ (List.mem_cons_of_mem _ tw_3_211)) (fun _ h9 => h9) rfl dX9_read_79 ?_
        refine lv_iload_n hx hb dX9_read_82 rfl (lv_at hl 2 rfl) ?_
        refine lv_iconst (v := 1) hx hb dX9_read_83 (by decide) ?_
        refine lv_iadd hx hb dX9_read_84 ?_
        refine va_iald hx hb hK hP 3 0 rfl rfl hok.1 dX9_read_85 ?_
        have hok := hok.2
        refine va_iast hx hb hK hP hD hS 3 0 rfl rfl hok.1 dX9_read_86 (fun H locs hP hD hS => ?_)
        have hok := hok.2
        have hP : va_P (dC, dI) vwCl (w_Model h cI cJ (σ.1, σ.2.1, va_up σ.2.2 24 (upd (σ.2.2 24) x3.toNatClampNeg ((σ.2.2 24) (x3 + (1 : Int32)).toNatClampNeg)))) _ := hP
        have hD : va_D A (w_Model h cI cJ (σ.1, σ.2.1, va_up σ.2.2 24 (upd (σ.2.2 24) x3.toNatClampNeg ((σ.2.2 24) (x3 + (1 : Int32)).toNatClampNeg)))) := hD
        obtain ⟨v2, ev2⟩ : ∃ y : Int32, y = x3 + 1 := ⟨_, rfl⟩
        have hok := hok v2 ev2
        refine lv_iinc (v := v2) (lv' := [(3, .int v2), (0, .ref (h 13)), (2, .int x2)]) hx hb dX9_read_87 hl (k := 2) rfl (by rw [ev2]; rfl) (by decide) rfl (fun ls hl => ?_)
        refine lv_goto (tgt := 65) hx hb dX9_read_90 (by decide) ?_
        exact ih (σ.1, σ.2.1, va_up σ.2.2 24 (upd (σ.2.2 24) x3.toNatClampNeg ((σ.2.2 24) (x3 + (1 : Int32)).toNatClampNeg))) x2 v2 hok _ _ hP hD hS _ (lv_sub hl [1, 2, 0] rfl)
  have b40 : ∀ (σ : S_Model) (x1 : Int32) (x2 : Int32), wp_X9_read_40 σ x1 x2 Φ → ∀ (H : Heap) (locs : List Loc), va_P (dC, dI) vwCl (w_Model h cI cJ σ) H → va_D A (w_Model h cI cJ σ) → va_S A s.heap H locs → ∀ ls : Array Slot, lv_has ls 4 [(0, .ref (h 13)), (1, .int x1), (2, .int x2)] → W p l e (headSpec wsX9_read { frames := 2, cells := 0, slots := 0, locals := 42 }).room s m ([.ref (h 13), .int a1] : List Value).toArray below meth c H locs 0 0 (MQ below (va_Qi Φ (fun u => cpost dC dI cI cJ A (w_Model h cI cJ u)) A) ([.ref (h 13), .int a1] : List Value).toArray s 0 0 A) (F0 m 40 ls []) := by
    intro σ x1 x2 hok H locs hP hD hS ls hl
    unfold wp_X9_read_40 at hok
    refine lv_iload_n hx hb dX9_read_40 rfl (lv_at hl 1 rfl) ?_
    refine lv_ldc (v := 40976) hx hb hown (hts _ (List.mem_cons_of_mem _ tw_4_111)) dX9_read_41 ?_
    refine lv_icmp_ne (tgt := 93) hx hb dX9_read_43 (by decide) (fun c3 => ?_) (fun c3 => ?_)
    · have hok := hok.2 c3
      refine lv_iload_n hx hb dX9_read_93 rfl (lv_at hl 2 rfl) ?_
      exact W.iret (v := x2) hx hb hr (fun t ht hW => ⟨⟨x2, σ, rfl, hok, by rw [ht]; exact hP, va_K.moved hW.alike hK, hD⟩, hS.F ht⟩) hS.2.2 dX9_read_94
    · have hok := hok.1 c3
      refine lv_aload_n hx hb dX9_read_46 rfl (lv_at hl 0 rfl) ?_
      refine va_get (D := (dC, dI)) (ci := 8) (v := .int (σ.1 22)) (C := RX9) (T := TX9) (N := 33) hx hb hts (fun w h => List.mem_cons_of_mem _ (in_X9 w h)) hown hK hP 0 rfl rfl 22 (by decide) (hts _ (List.mem_cons_of_mem _ tw_3_209)) (fun _ h9 => h9) rfl dX9_read_47 ?_
      refine lv_if_le (tgt := 93) hx hb dX9_read_50 (by decide) (fun c4 => ?_) (fun c4 => ?_)
      · have hok := hok.1 c4
        refine lv_iload_n hx hb dX9_read_93 rfl (lv_at hl 2 rfl) ?_
        exact W.iret (v := x2) hx hb hr (fun t ht hW => ⟨⟨x2, σ, rfl, hok, by rw [ht]; exact hP, va_K.moved hW.alike hK, hD⟩, hS.F ht⟩) hS.2.2 dX9_read_94
      · have hok := hok.2 c4
        refine lv_aload_n hx hb dX9_read_53 rfl (lv_at hl 0 rfl) ?_
        refine lv_dup hx hb dX9_read_54 rfl ?_
        refine va_get (D := (dC, dI)) (ci := 8) (v := .int (σ.1 22)) (C := RX9) (T := TX9) (N := 33) hx hb hts (fun w h => List.mem_cons_of_mem _ (in_X9 w h)) hown hK hP 0 rfl rfl 22 (by decide) (hts _ (List.mem_cons_of_mem _ tw_3_209)) (fun _ h9 => h9) rfl dX9_read_55 ?_
        refine lv_iconst (v := 1) hx hb dX9_read_58 (by decide) ?_
        refine lv_isub hx hb dX9_read_59 ?_
        refine va_put (D := (dC, dI)) (ci := 8) (v := .int ((σ.1 22) - (1 : Int32))) (ty := .int) (C := RX9) (T := TX9) (N := 33) hx hb hts (fun w h => List.mem_cons_of_mem _ (in_X9 w h)) tyX9 tyX9_ok nmX9 hown hK hP hD hS 0 rfl rfl 22 (by decide) (hts _ (List.mem_cons_of_mem _ tw_3_209)) (fun _ h9 => h9) rfl (by decide +kernel) rfl rfl (Nat.le_of_ble_eq_true rfl) dX9_read_60 (fun H locs hP hD hS => ?_)
        have hP : va_P (dC, dI) vwCl (w_Model h cI cJ (upd σ.1 22 ((σ.1 22) - (1 : Int32)), σ.2.1, σ.2.2)) _ := hP
        have hD : va_D A (w_Model h cI cJ (upd σ.1 22 ((σ.1 22) - (1 : Int32)), σ.2.1, σ.2.2)) := hD
        refine lv_iconst (v := 0) hx hb dX9_read_63 (by decide) ?_
        refine lv_istore_n (lv' := [(3, .int 0), (0, .ref (h 13)), (1, .int x1), (2, .int x2)]) hx hb dX9_read_64 rfl hl (by decide) rfl (fun ls hl => ?_)
        obtain ⟨n, hok⟩ := hok
        exact b65 n (upd σ.1 22 ((σ.1 22) - (1 : Int32)), σ.2.1, σ.2.2) x2 0 hok _ _ hP hD hS _ (lv_sub hl [1, 3, 0] rfl)
  have b23 : ∀ (σ : S_Model) (x1 : Int32) (x2 : Int32), wp_X9_read_23 σ x1 x2 Φ → ∀ (H : Heap) (locs : List Loc), va_P (dC, dI) vwCl (w_Model h cI cJ σ) H → va_D A (w_Model h cI cJ σ) → va_S A s.heap H locs → ∀ ls : Array Slot, lv_has ls 4 [(0, .ref (h 13)), (1, .int x1), (2, .int x2)] → W p l e (headSpec wsX9_read { frames := 2, cells := 0, slots := 0, locals := 42 }).room s m ([.ref (h 13), .int a1] : List Value).toArray below meth c H locs 0 0 (MQ below (va_Qi Φ (fun u => cpost dC dI cI cJ A (w_Model h cI cJ u)) A) ([.ref (h 13), .int a1] : List Value).toArray s 0 0 A) (F0 m 23 ls []) := by
    intro σ x1 x2 hok H locs hP hD hS ls hl
    unfold wp_X9_read_23 at hok
    refine lv_iload_n hx hb dX9_read_23 rfl (lv_at hl 1 rfl) ?_
    refine lv_ldc (v := 40968) hx hb hown (hts _ (List.mem_cons_of_mem _ tw_4_110)) dX9_read_24 ?_
    refine lv_icmp_ne (tgt := 40) hx hb dX9_read_26 (by decide) (fun c5 => ?_) (fun c5 => ?_)
    · have hok := hok.2 c5
      exact b40 σ x1 x2 hok _ _ hP hD hS _ (lv_sub hl [0, 1, 2] rfl)
    · have hok := hok.1 c5
      refine lv_aload_n hx hb dX9_read_29 rfl (lv_at hl 0 rfl) ?_
      refine lv_dup hx hb dX9_read_30 rfl ?_
      refine va_get (D := (dC, dI)) (ci := 8) (v := .int (σ.1 17)) (C := RX9) (T := TX9) (N := 33) hx hb hts (fun w h => List.mem_cons_of_mem _ (in_X9 w h)) hown hK hP 0 rfl rfl 17 (by decide) (hts _ (List.mem_cons_of_mem _ tw_3_204)) (fun _ h9 => h9) rfl dX9_read_31 ?_
      refine lv_bipush (v := (-33)) hx hb dX9_read_34 (by decide) ?_
      refine lv_iand hx hb dX9_read_36 ?_
      refine va_put (D := (dC, dI)) (ci := 8) (v := .int ((σ.1 17) &&& (-33 : Int32))) (ty := .int) (C := RX9) (T := TX9) (N := 33) hx hb hts (fun w h => List.mem_cons_of_mem _ (in_X9 w h)) tyX9 tyX9_ok nmX9 hown hK hP hD hS 0 rfl rfl 17 (by decide) (hts _ (List.mem_cons_of_mem _ tw_3_204)) (fun _ h9 => h9) rfl (by decide +kernel) rfl rfl (Nat.le_of_ble_eq_true rfl) dX9_read_37 (fun H locs hP hD hS => ?_)
      have hP : va_P (dC, dI) vwCl (w_Model h cI cJ (upd σ.1 17 ((σ.1 17) &&& (-33 : Int32)), σ.2.1, σ.2.2)) _ := hP
      have hD : va_D A (w_Model h cI cJ (upd σ.1 17 ((σ.1 17) &&& (-33 : Int32)), σ.2.1, σ.2.2)) := hD
      exact b40 (upd σ.1 17 ((σ.1 17) &&& (-33 : Int32)), σ.2.1, σ.2.2) x1 x2 hok _ _ hP hD hS _ (lv_sub hl [0, 1, 2] rfl)
  have hl := lv_entry ([.ref (h 13), .int a1]) (n := 4) (Nat.le_of_ble_eq_true rfl)
  rw [lg_entry_eq]
  generalize (lg_sl ([.ref (h 13), .int a1]) ++ List.replicate (4 - (lg_sl ([.ref (h 13), .int a1])).length) Slot.unset).toArray = ls at hl ⊢
  have hl : lv_has ls 4 [(0, .ref (h 13)), (1, .int a1)] := hl
  unfold wp_X9_read at hok
  refine lv_aload_n hx hb dX9_read_0 rfl (lv_at hl 0 rfl) ?_
  refine lv_iload_n hx hb dX9_read_1 rfl (lv_at hl 1 rfl) ?_
  have hPc := hP
  have hDc := hD
  have hFc := va_free (wc := w_Model h cI cJ σ) hD hS hA [0, 1, 2, 3, 4, 5, 6] rfl
  refine va_calli (va_runV (As := [.int a1]) (rest := []) ⟨hx, hb, hml, hown, hts⟩ (c_X9_see l dC dI cI cJ h _ hok) (cwV 1 hts (tb_gV tw_4_97 tw_4_99 tw_p_45 tw_1_9 tw_4_100) rfl rfl rfl (by decide +kernel) ⟨Nat.le_of_ble_eq_true rfl, Nat.le_of_ble_eq_true rfl⟩) (cpre_V (ci := 8) (q0 := 0) hK hPc hDc rfl rfl) rfl rfl hl.1 rfl (lv_room (Nat.le_of_ble_eq_true rfl)) dX9_read_2 ⟨Nat.le_of_ble_eq_true rfl, Nat.le_of_ble_eq_true rfl⟩) hS (fun q _ h => hFc q h) hFc (fun r6 _ t H1 locs ht hvm hok hB hz1 hk1 hS => ?_)
  obtain ⟨hP, hD⟩ := cjoin_w ht hB hFc
  refine lv_istore_n (lv' := [(2, .int r6), (0, .ref (h 13)), (1, .int a1)]) hx hb dX9_read_5 rfl hl (by decide) rfl (fun ls hl => ?_)
  refine lv_iload_n hx hb dX9_read_6 rfl (lv_at hl 2 rfl) ?_
  refine lv_ldc (v := 40964) hx hb hown (hts _ (List.mem_cons_of_mem _ tw_4_109)) dX9_read_7 ?_
  refine lv_icmp_ne (tgt := 23) hx hb dX9_read_9 (by decide) (fun c7 => ?_) (fun c7 => ?_)
  · have hok := hok.2 c7
    exact b23 σ a1 r6 hok _ _ hP hD hS _ (lv_sub hl [1, 2, 0] rfl)
  · have hok := hok.1 c7
    refine lv_aload_n hx hb dX9_read_12 rfl (lv_at hl 1 rfl) ?_
    refine lv_dup hx hb dX9_read_13 rfl ?_
    refine va_get (D := (dC, dI)) (ci := 8) (v := .int (σ.1 17)) (C := RX9) (T := TX9) (N := 33) hx hb hts (fun w h => List.mem_cons_of_mem _ (in_X9 w h)) hown hK hP 0 rfl rfl 17 (by decide) (hts _ (List.mem_cons_of_mem _ tw_3_204)) (fun _ h9 => h9) rfl dX9_read_14 ?_
    refine lv_bipush (v := (-65)) hx hb dX9_read_17 (by decide) ?_
    refine lv_iand hx hb dX9_read_19 ?_
    refine va_put (D := (dC, dI)) (ci := 8) (v := .int ((σ.1 17) &&& (-65 : Int32))) (ty := .int) (C := RX9) (T := TX9) (N := 33) hx hb hts (fun w h => List.mem_cons_of_mem _ (in_X9 w h)) tyX9 tyX9_ok nmX9 hown hK hP hD hS 0 rfl rfl 17 (by decide) (hts _ (List.mem_cons_of_mem _ tw_3_204)) (fun _ h9 => h9) rfl (by decide +kernel) rfl rfl (Nat.le_of_ble_eq_true rfl) dX9_read_20 (fun H locs hP hD hS => ?_)
    have hP : va_P (dC, dI) vwCl (w_Model h cI cJ (upd σ.1 17 ((σ.1 17) &&& (-65 : Int32)), σ.2.1, σ.2.2)) _ := hP
    have hD : va_D A (w_Model h cI cJ (upd σ.1 17 ((σ.1 17) &&& (-65 : Int32)), σ.2.1, σ.2.2)) := hD
    exact b23 (upd σ.1 17 ((σ.1 17) &&& (-65 : Int32)), σ.2.1, σ.2.2) a1 r6 hok _ _ hP hD hS _ (lv_sub hl [1, 2, 0] rfl)
def wp_X9_write (σ : S_Model) (a1 : Int32) (a2 : Int32) (Φ : S_Model → Prop) : Prop := (((40960 : Int32) ≤ a1 → ((((a1 - (40960 : Int32)) = 4 → (Φ (upd σ.1 14 (((σ.1 14) &&& (65280 : Int32)) ||| a2), σ.2.1, σ.2.2))) ∧ ((a1 - (40960 : Int32)) = 5 → (∀ v4 : Int32, v4 = ((σ.1 14) &&& (255 : Int32)) ||| (a2 <<< ((8 : Int32) &&& 31)) → Φ (upd (upd (upd (upd σ.1 14 v4) 12 v4) 20 1) 17 ((σ.1 17) &&& (-65 : Int32)), σ.2.1, σ.2.2))) ∧ ((a1 - (40960 : Int32)) = 6 → (Φ (upd σ.1 14 (((σ.1 14) &&& (65280 : Int32)) ||| a2), σ.2.1, σ.2.2))) ∧ ((a1 - (40960 : Int32)) = 7 → (∀ v7 : Int32, v7 = ((σ.1 14) &&& (255 : Int32)) ||| (a2 <<< ((8 : Int32) &&& 31)) → Φ (upd (upd σ.1 14 v7) 17 ((σ.1 17) &&& (-65 : Int32)), σ.2.1, σ.2.2))) ∧ ((a1 - (40960 : Int32)) = 8 → (Φ (upd σ.1 15 a2, σ.2.1, σ.2.2))) ∧ ((a1 - (40960 : Int32)) = 9 → (Φ (upd (upd (upd σ.1 13 ((a2 <<< ((8 : Int32) &&& 31)) ||| (σ.1 15))) 21 1) 17 ((σ.1 17) &&& (-33 : Int32)), σ.2.1, σ.2.2))) ∧ ((a1 - (40960 : Int32)) = 11 → (Φ (upd σ.1 16 a2, σ.2.1, σ.2.2))) ∧ ((a1 - (40960 : Int32)) = 13 → (Φ (upd σ.1 17 ((σ.1 17) &&& (a2 ^^^ (-1 : Int32))), σ.2.1, σ.2.2))) ∧ ((a1 - (40960 : Int32)) = 14 → (((a2 ≤ (127 : Int32) → (Φ (upd σ.1 18 ((σ.1 18) &&& (a2 ^^^ (-1 : Int32))), σ.2.1, σ.2.2))) ∧ (¬ a2 ≤ (127 : Int32) → (Φ (upd σ.1 18 ((σ.1 18) ||| (a2 &&& (127 : Int32))), σ.2.1, σ.2.2)))))) ∧ ((a1 - (40960 : Int32)) = 16 → (∀ v15 : Int32, v15 = (σ.1 23) - (σ.1 23) / (256 : Int32) * (256 : Int32) → (vp_in v15 256 ∧ (Φ (upd σ.1 23 ((σ.1 23) + (1 : Int32)), σ.2.1, va_up σ.2.2 25 (upd (σ.2.2 25) v15.toNatClampNeg a2)))))) ∧ ((a1 - (40960 : Int32)) = 17 → (Φ (upd σ.1 19 0, σ.2.1, σ.2.2))) ∧ ((a1 - (40960 : Int32)) = 18 → (Φ (upd σ.1 19 a2, σ.2.1, σ.2.2))) ∧ ((a1 - (40960 : Int32)) = 32 → (Φ (upd σ.1 5 (a2 &&& (3 : Int32)), σ.2.1, σ.2.2))) ∧ ((¬ (a1 - (40960 : Int32)) = 4 ∧ ¬ (a1 - (40960 : Int32)) = 5 ∧ ¬ (a1 - (40960 : Int32)) = 6 ∧ ¬ (a1 - (40960 : Int32)) = 7 ∧ ¬ (a1 - (40960 : Int32)) = 8 ∧ ¬ (a1 - (40960 : Int32)) = 9 ∧ ¬ (a1 - (40960 : Int32)) = 11 ∧ ¬ (a1 - (40960 : Int32)) = 13 ∧ ¬ (a1 - (40960 : Int32)) = 14 ∧ ¬ (a1 - (40960 : Int32)) = 16 ∧ ¬ (a1 - (40960 : Int32)) = 17 ∧ ¬ (a1 - (40960 : Int32)) = 18 ∧ ¬ (a1 - (40960 : Int32)) = 32) → (Φ σ))))) ∧ (¬ (40960 : Int32) ≤ a1 → (wp_X9_cell σ a1 (fun r19 => (vp_in r19 81920 ∧ (Φ (σ.1, σ.2.1, va_up σ.2.2 1 (upd (σ.2.2 1) r19.toNatClampNeg a2))))))))
set_option maxHeartbeats 4000000 in
set_option maxRecDepth 100000 in
theorem c_X9_write (l : Launch) (dC : Nat → ClassId) (dI : Nat → Nat → Nat) (cI cJ : ClassId) (h : Nat → Nat) (sz : Nat) {σ : S_Model} {a1 : Int32} {a2 : Int32} {Φ : S_Model → Prop} (hok : wp_X9_write σ a1 a2 Φ) : Met l yX9_write wsX9_write ({ frames := 1, cells := 0, slots := 0, locals := 21 }) (va_Pc [.ref (h 13), .int a1, .int a2] (cpre dC dI cI cJ (w_Model h cI cJ σ) sz)) (va_Qv Φ (fun u => cpost dC dI cI cJ (va_A (w_Model h cI cJ σ) sz) (w_Model h cI cJ u)) (va_A (w_Model h cI cJ σ) sz)) 0 0 (va_A (w_Model h cI cJ σ) sz) := by
  refine Met.ofW (cc := cX9_write) (maxL := 3) (ret := none) (by decide) rfl ?_
  intro p e s m args below meth c s₁ B hml hv
  obtain ⟨rfl, hsz, hP, hK, hD0⟩ := hv
  have hx := B.exec
  have hb := B.bytes
  have hr := B.returns
  have hts := atoms_spec (ws := wsX9_write) B.pre
  have hown : s.vm.findClass RX9 = some m.cls := findClass_of_methodNamed B.named
  have hlocks := B.notSynchronized
  subst hsz
  have hD := hD0.self (sz := s.heap.size)
  generalize hAe : va_A (w_Model h cI cJ σ) s.heap.size = A at hD ⊢
  have hA : ∀ q : Nat, s.heap.size ≤ q → A q := fun q h => by rw [← hAe]; exact Or.inr h
  clear hD0 hAe
  have hS : va_S A s.heap s.heap [] := va_S.rf
  have hl := lv_entry ([.ref (h 13), .int a1, .int a2]) (n := 3) (Nat.le_of_ble_eq_true rfl)
  rw [lg_entry_eq]
  generalize (lg_sl ([.ref (h 13), .int a1, .int a2]) ++ List.replicate (3 - (lg_sl ([.ref (h 13), .int a1, .int a2])).length) Slot.unset).toArray = ls at hl ⊢
  have hl : lv_has ls 3 [(0, .ref (h 13)), (1, .int a1), (2, .int a2)] := hl
  unfold wp_X9_write at hok
  refine lv_iload_n hx hb dX9_write_0 rfl (lv_at hl 1 rfl) ?_
  refine lv_ldc (v := 40960) hx hb hown (hts _ (List.mem_cons_of_mem _ tw_4_76)) dX9_write_1 ?_
  refine lv_icmp_ge (tgt := 18) hx hb dX9_write_3 (by decide) (fun c1 => ?_) (fun c1 => ?_)
  · have hok := hok.1 c1
    refine lv_iload_n hx hb dX9_write_18 rfl (lv_at hl 1 rfl) ?_
    refine lv_ldc (v := 40960) hx hb hown (hts _ (List.mem_cons_of_mem _ tw_4_76)) dX9_write_19 ?_
    refine lv_isub hx hb dX9_write_21 ?_
    by_cases c2 : (a1 - (40960 : Int32)) = 4
    · have hok := hok.1 c2
      refine lv_tableIn (tgt := 152) (off := 130) hx hb dX9_write_22 (by rw [c2]; decide) (by rw [c2]; decide) (by rw [c2]; decide) (by decide) ?_
      refine lv_aload_n hx hb dX9_write_152 rfl (lv_at hl 0 rfl) ?_
      refine lv_aload_n hx hb dX9_write_153 rfl (lv_at hl 0 rfl) ?_
      refine va_get (D := (dC, dI)) (ci := 8) (v := .int (σ.1 14)) (C := RX9) (T := TX9) (N := 33) hx hb hts (fun w h => List.mem_cons_of_mem _ (in_X9 w h)) hown hK hP 0 rfl rfl 14 (by decide) (hts _ (List.mem_cons_of_mem _ tw_3_201)) (fun _ h9 => h9) rfl dX9_write_154 ?_
      refine lv_ldc (v := 65280) hx hb hown (hts _ (List.mem_cons_of_mem _ tw_4_84)) dX9_write_157 ?_
      refine lv_iand hx hb dX9_write_159 ?_
      refine lv_iload_n hx hb dX9_write_160 rfl (lv_at hl 2 rfl) ?_
      refine lv_ior hx hb dX9_write_161 ?_
      refine va_put (D := (dC, dI)) (ci := 8) (v := .int (((σ.1 14) &&& (65280 : Int32)) ||| a2)) (ty := .int) (C := RX9) (T := TX9) (N := 33) hx hb hts (fun w h => List.mem_cons_of_mem _ (in_X9 w h)) tyX9 tyX9_ok nmX9 hown hK hP hD hS 0 rfl rfl 14 (by decide) (hts _ (List.mem_cons_of_mem _ tw_3_201)) (fun _ h9 => h9) rfl (by decide +kernel) rfl rfl (Nat.le_of_ble_eq_true rfl) dX9_write_162 (fun H locs hP hD hS => ?_)
      have hP : va_P (dC, dI) vwCl (w_Model h cI cJ (upd σ.1 14 (((σ.1 14) &&& (65280 : Int32)) ||| a2), σ.2.1, σ.2.2)) _ := hP
      have hD : va_D A (w_Model h cI cJ (upd σ.1 14 (((σ.1 14) &&& (65280 : Int32)) ||| a2), σ.2.1, σ.2.2)) := hD
      refine lv_goto (tgt := 392) hx hb dX9_write_165 (by decide) ?_
      exact W.vret hx hb hr (fun t ht hW => ⟨⟨(upd σ.1 14 (((σ.1 14) &&& (65280 : Int32)) ||| a2), σ.2.1, σ.2.2), rfl, hok, by rw [ht]; exact hP, va_K.moved hW.alike hK, hD⟩, hS.F ht⟩) hS.2.2 dX9_write_392
    have hok := hok.2
    by_cases c3 : (a1 - (40960 : Int32)) = 5
    · have hok := hok.1 c3
      refine lv_tableIn (tgt := 168) (off := 146) hx hb dX9_write_22 (by rw [c3]; decide) (by rw [c3]; decide) (by rw [c3]; decide) (by decide) ?_
      refine lv_aload_n hx hb dX9_write_168 rfl (lv_at hl 0 rfl) ?_
      refine lv_aload_n hx hb dX9_write_169 rfl (lv_at hl 0 rfl) ?_
      refine va_get (D := (dC, dI)) (ci := 8) (v := .int (σ.1 14)) (C := RX9) (T := TX9) (N := 33) hx hb hts (fun w h => List.mem_cons_of_mem _ (in_X9 w h)) hown hK hP 0 rfl rfl 14 (by decide) (hts _ (List.mem_cons_of_mem _ tw_3_201)) (fun _ h9 => h9) rfl dX9_write_170 ?_
      refine lv_sipush (v := 255) hx hb dX9_write_173 (by decide) ?_
      refine lv_iand hx hb dX9_write_176 ?_
      refine lv_iload_n hx hb dX9_write_177 rfl (lv_at hl 2 rfl) ?_
      refine lv_bipush (v := 8) hx hb dX9_write_178 (by decide) ?_
      refine lv_ishl hx hb dX9_write_180 ?_
      refine lv_ior hx hb dX9_write_181 ?_
      refine lv_topi (fun v4 ev4 => ?_)
      have hok := hok v4 ev4
      refine va_put (D := (dC, dI)) (ci := 8) (v := .int v4) (ty := .int) (C := RX9) (T := TX9) (N := 33) hx hb hts (fun w h => List.mem_cons_of_mem _ (in_X9 w h)) tyX9 tyX9_ok nmX9 hown hK hP hD hS 0 rfl rfl 14 (by decide) (hts _ (List.mem_cons_of_mem _ tw_3_201)) (fun _ h9 => h9) rfl (by decide +kernel) rfl rfl (Nat.le_of_ble_eq_true rfl) dX9_write_182 (fun H locs hP hD hS => ?_)
      have hP : va_P (dC, dI) vwCl (w_Model h cI cJ (upd σ.1 14 v4, σ.2.1, σ.2.2)) _ := hP
      have hD : va_D A (w_Model h cI cJ (upd σ.1 14 v4, σ.2.1, σ.2.2)) := hD
      refine lv_aload_n hx hb dX9_write_185 rfl (lv_at hl 0 rfl) ?_
      refine lv_aload_n hx hb dX9_write_186 rfl (lv_at hl 0 rfl) ?_
      refine va_get (D := (dC, dI)) (ci := 8) (v := .int v4) (C := RX9) (T := TX9) (N := 33) hx hb hts (fun w h => List.mem_cons_of_mem _ (in_X9 w h)) hown hK hP 0 rfl rfl 14 (by decide) (hts _ (List.mem_cons_of_mem _ tw_3_201)) (fun _ h9 => h9) rfl dX9_write_187 ?_
      refine va_put (D := (dC, dI)) (ci := 8) (v := .int v4) (ty := .int) (C := RX9) (T := TX9) (N := 33) hx hb hts (fun w h => List.mem_cons_of_mem _ (in_X9 w h)) tyX9 tyX9_ok nmX9 hown hK hP hD hS 0 rfl rfl 12 (by decide) (hts _ (List.mem_cons_of_mem _ tw_3_199)) (fun _ h9 => h9) rfl (by decide +kernel) rfl rfl (Nat.le_of_ble_eq_true rfl) dX9_write_190 (fun H locs hP hD hS => ?_)
      have hP : va_P (dC, dI) vwCl (w_Model h cI cJ (upd (upd σ.1 14 v4) 12 v4, σ.2.1, σ.2.2)) _ := hP
      have hD : va_D A (w_Model h cI cJ (upd (upd σ.1 14 v4) 12 v4, σ.2.1, σ.2.2)) := hD
      refine lv_aload_n hx hb dX9_write_193 rfl (lv_at hl 0 rfl) ?_
      refine lv_iconst (v := 1) hx hb dX9_write_194 (by decide) ?_
      refine va_put (D := (dC, dI)) (ci := 8) (v := .int 1) (ty := .boolean) (C := RX9) (T := TX9) (N := 33) hx hb hts (fun w h => List.mem_cons_of_mem _ (in_X9 w h)) tyX9 tyX9_ok nmX9 hown hK hP hD hS 0 rfl rfl 20 (by decide) (hts _ (List.mem_cons_of_mem _ tw_3_207)) (fun _ h9 => h9) rfl (by decide +kernel) rfl rfl (Nat.le_of_ble_eq_true rfl) dX9_write_195 (fun H locs hP hD hS => ?_)
      have hP : va_P (dC, dI) vwCl (w_Model h cI cJ (upd (upd (upd σ.1 14 v4) 12 v4) 20 1, σ.2.1, σ.2.2)) _ := hP
      have hD : va_D A (w_Model h cI cJ (upd (upd (upd σ.1 14 v4) 12 v4) 20 1, σ.2.1, σ.2.2)) := hD
      refine lv_aload_n hx hb dX9_write_198 rfl (lv_at hl 0 rfl) ?_
      refine lv_dup hx hb dX9_write_199 rfl ?_
      refine va_get (D := (dC, dI)) (ci := 8) (v := .int (σ.1 17)) (C := RX9) (T := TX9) (N := 33) hx hb hts (fun w h => List.mem_cons_of_mem _ (in_X9 w h)) hown hK hP 0 rfl rfl 17 (by decide) (hts _ (List.mem_cons_of_mem _ tw_3_204)) (fun _ h9 => h9) rfl dX9_write_200 ?_
      refine lv_bipush (v := (-65)) hx hb dX9_write_203 (by decide) ?_
      refine lv_iand hx hb dX9_write_205 ?_
      refine va_put (D := (dC, dI)) (ci := 8) (v := .int ((σ.1 17) &&& (-65 : Int32))) (ty := .int) (C := RX9) (T := TX9) (N := 33) hx hb hts (fun w h => List.mem_cons_of_mem _ (in_X9 w h)) tyX9 tyX9_ok nmX9 hown hK hP hD hS 0 rfl rfl 17 (by decide) (hts _ (List.mem_cons_of_mem _ tw_3_204)) (fun _ h9 => h9) rfl (by decide +kernel) rfl rfl (Nat.le_of_ble_eq_true rfl) dX9_write_206 (fun H locs hP hD hS => ?_)
      have hP : va_P (dC, dI) vwCl (w_Model h cI cJ (upd (upd (upd (upd σ.1 14 v4) 12 v4) 20 1) 17 ((σ.1 17) &&& (-65 : Int32)), σ.2.1, σ.2.2)) _ := hP
      have hD : va_D A (w_Model h cI cJ (upd (upd (upd (upd σ.1 14 v4) 12 v4) 20 1) 17 ((σ.1 17) &&& (-65 : Int32)), σ.2.1, σ.2.2)) := hD
      refine lv_goto (tgt := 392) hx hb dX9_write_209 (by decide) ?_
      exact W.vret hx hb hr (fun t ht hW => ⟨⟨(upd (upd (upd (upd σ.1 14 v4) 12 v4) 20 1) 17 ((σ.1 17) &&& (-65 : Int32)), σ.2.1, σ.2.2), rfl, hok, by rw [ht]; exact hP, va_K.moved hW.alike hK, hD⟩, hS.F ht⟩) hS.2.2 dX9_write_392
    have hok := hok.2
    by_cases c5 : (a1 - (40960 : Int32)) = 6
    · have hok := hok.1 c5
      refine lv_tableIn (tgt := 152) (off := 130) hx hb dX9_write_22 (by rw [c5]; decide) (by rw [c5]; decide) (by rw [c5]; decide) (by decide) ?_
      refine lv_aload_n hx hb dX9_write_152 rfl (lv_at hl 0 rfl) ?_
      refine lv_aload_n hx hb dX9_write_153 rfl (lv_at hl 0 rfl) ?_
      refine va_get (D := (dC, dI)) (ci := 8) (v := .int (σ.1 14)) (C := RX9) (T := TX9) (N := 33) hx hb hts (fun w h => List.mem_cons_of_mem _ (in_X9 w h)) hown hK hP 0 rfl rfl 14 (by decide) (hts _ (List.mem_cons_of_mem _ tw_3_201)) (fun _ h9 => h9) rfl dX9_write_154 ?_
      refine lv_ldc (v := 65280) hx hb hown (hts _ (List.mem_cons_of_mem _ tw_4_84)) dX9_write_157 ?_
      refine lv_iand hx hb dX9_write_159 ?_
      refine lv_iload_n hx hb dX9_write_160 rfl (lv_at hl 2 rfl) ?_
      refine lv_ior hx hb dX9_write_161 ?_
      refine va_put (D := (dC, dI)) (ci := 8) (v := .int (((σ.1 14) &&& (65280 : Int32)) ||| a2)) (ty := .int) (C := RX9) (T := TX9) (N := 33) hx hb hts (fun w h => List.mem_cons_of_mem _ (in_X9 w h)) tyX9 tyX9_ok nmX9 hown hK hP hD hS 0 rfl rfl 14 (by decide) (hts _ (List.mem_cons_of_mem _ tw_3_201)) (fun _ h9 => h9) rfl (by decide +kernel) rfl rfl (Nat.le_of_ble_eq_true rfl) dX9_write_162 (fun H locs hP hD hS => ?_)
      have hP : va_P (dC, dI) vwCl (w_Model h cI cJ (upd σ.1 14 (((σ.1 14) &&& (65280 : Int32)) ||| a2), σ.2.1, σ.2.2)) _ := hP
      have hD : va_D A (w_Model h cI cJ (upd σ.1 14 (((σ.1 14) &&& (65280 : Int32)) ||| a2), σ.2.1, σ.2.2)) := hD
      refine lv_goto (tgt := 392) hx hb dX9_write_165 (by decide) ?_
      exact W.vret hx hb hr (fun t ht hW => ⟨⟨(upd σ.1 14 (((σ.1 14) &&& (65280 : Int32)) ||| a2), σ.2.1, σ.2.2), rfl, hok, by rw [ht]; exact hP, va_K.moved hW.alike hK, hD⟩, hS.F ht⟩) hS.2.2 dX9_write_392
    have hok := hok.2
    by_cases c6 : (a1 - (40960 : Int32)) = 7
    · have hok := hok.1 c6
      refine lv_tableIn (tgt := 212) (off := 190) hx hb dX9_write_22 (by rw [c6]; decide) (by rw [c6]; decide) (by rw [c6]; decide) (by decide) ?_
      refine lv_aload_n hx hb dX9_write_212 rfl (lv_at hl 0 rfl) ?_
      refine lv_aload_n hx hb dX9_write_213 rfl (lv_at hl 0 rfl) ?_
      refine va_get (D := (dC, dI)) (ci := 8) (v := .int (σ.1 14)) (C := RX9) (T := TX9) (N := 33) hx hb hts (fun w h => List.mem_cons_of_mem _ (in_X9 w h)) hown hK hP 0 rfl rfl 14 (by decide) (hts _ (List.mem_cons_of_mem _ tw_3_201)) (fun _ h9 => h9) rfl dX9_write_214 ?_
      refine lv_sipush (v := 255) hx hb dX9_write_217 (by decide) ?_
      refine lv_iand hx hb dX9_write_220 ?_
      refine lv_iload_n hx hb dX9_write_221 rfl (lv_at hl 2 rfl) ?_
      refine lv_bipush (v := 8) hx hb dX9_write_222 (by decide) ?_
      refine lv_ishl hx hb dX9_write_224 ?_
      refine lv_ior hx hb dX9_write_225 ?_
      refine lv_topi (fun v7 ev7 => ?_)
      have hok := hok v7 ev7
      refine va_put (D := (dC, dI)) (ci := 8) (v := .int v7) (ty := .int) (C := RX9) (T := TX9) (N := 33) hx hb hts (fun w h => List.mem_cons_of_mem _ (in_X9 w h)) tyX9 tyX9_ok nmX9 hown hK hP hD hS 0 rfl rfl 14 (by decide) (hts _ (List.mem_cons_of_mem _ tw_3_201)) (fun _ h9 => h9) rfl (by decide +kernel) rfl rfl (Nat.le_of_ble_eq_true rfl) dX9_write_226 (fun H locs hP hD hS => ?_)
      have hP : va_P (dC, dI) vwCl (w_Model h cI cJ (upd σ.1 14 v7, σ.2.1, σ.2.2)) _ := hP
      have hD : va_D A (w_Model h cI cJ (upd σ.1 14 v7, σ.2.1, σ.2.2)) := hD
      refine lv_aload_n hx hb dX9_write_229 rfl (lv_at hl 0 rfl) ?_
      refine lv_dup hx hb dX9_write_230 rfl ?_
      refine va_get (D := (dC, dI)) (ci := 8) (v := .int (σ.1 17)) (C := RX9) (T := TX9) (N := 33) hx hb hts (fun w h => List.mem_cons_of_mem _ (in_X9 w h)) hown hK hP 0 rfl rfl 17 (by decide) (hts _ (List.mem_cons_of_mem _ tw_3_204)) (fun _ h9 => h9) rfl dX9_write_231 ?_
      refine lv_bipush (v := (-65)) hx hb dX9_write_234 (by decide) ?_
      refine lv_iand hx hb dX9_write_236 ?_
      refine va_put (D := (dC, dI)) (ci := 8) (v := .int ((σ.1 17) &&& (-65 : Int32))) (ty := .int) (C := RX9) (T := TX9) (N := 33) hx hb hts (fun w h => List.mem_cons_of_mem _ (in_X9 w h)) tyX9 tyX9_ok nmX9 hown hK hP hD hS 0 rfl rfl 17 (by decide) (hts _ (List.mem_cons_of_mem _ tw_3_204)) (fun _ h9 => h9) rfl (by decide +kernel) rfl rfl (Nat.le_of_ble_eq_true rfl) dX9_write_237 (fun H locs hP hD hS => ?_)
      have hP : va_P (dC, dI) vwCl (w_Model h cI cJ (upd (upd σ.1 14 v7) 17 ((σ.1 17) &&& (-65 : Int32)), σ.2.1, σ.2.2)) _ := hP
      have hD : va_D A (w_Model h cI cJ (upd (upd σ.1 14 v7) 17 ((σ.1 17) &&& (-65 : Int32)), σ.2.1, σ.2.2)) := hD
      refine lv_goto (tgt := 392) hx hb dX9_write_240 (by decide) ?_
      exact W.vret hx hb hr (fun t ht hW => ⟨⟨(upd (upd σ.1 14 v7) 17 ((σ.1 17) &&& (-65 : Int32)), σ.2.1, σ.2.2), rfl, hok, by rw [ht]; exact hP, va_K.moved hW.alike hK, hD⟩, hS.F ht⟩) hS.2.2 dX9_write_392
    have hok := hok.2
    by_cases c8 : (a1 - (40960 : Int32)) = 8
    · have hok := hok.1 c8
      refine lv_tableIn (tgt := 243) (off := 221) hx hb dX9_write_22 (by rw [c8]; decide) (by rw [c8]; decide) (by rw [c8]; decide) (by decide) ?_
      refine lv_aload_n hx hb dX9_write_243 rfl (lv_at hl 0 rfl) ?_
      refine lv_iload_n hx hb dX9_write_244 rfl (lv_at hl 2 rfl) ?_
      refine va_put (D := (dC, dI)) (ci := 8) (v := .int a2) (ty := .int) (C := RX9) (T := TX9) (N := 33) hx hb hts (fun w h => List.mem_cons_of_mem _ (in_X9 w h)) tyX9 tyX9_ok nmX9 hown hK hP hD hS 0 rfl rfl 15 (by decide) (hts _ (List.mem_cons_of_mem _ tw_3_202)) (fun _ h9 => h9) rfl (by decide +kernel) rfl rfl (Nat.le_of_ble_eq_true rfl) dX9_write_245 (fun H locs hP hD hS => ?_)
      have hP : va_P (dC, dI) vwCl (w_Model h cI cJ (upd σ.1 15 a2, σ.2.1, σ.2.2)) _ := hP
      have hD : va_D A (w_Model h cI cJ (upd σ.1 15 a2, σ.2.1, σ.2.2)) := hD
      refine lv_goto (tgt := 392) hx hb dX9_write_248 (by decide) ?_
      exact W.vret hx hb hr (fun t ht hW => ⟨⟨(upd σ.1 15 a2, σ.2.1, σ.2.2), rfl, hok, by rw [ht]; exact hP, va_K.moved hW.alike hK, hD⟩, hS.F ht⟩) hS.2.2 dX9_write_392
    have hok := hok.2
    by_cases c9 : (a1 - (40960 : Int32)) = 9
    · have hok := hok.1 c9
      refine lv_tableIn (tgt := 251) (off := 229) hx hb dX9_write_22 (by rw [c9]; decide) (by rw [c9]; decide) (by rw [c9]; decide) (by decide) ?_
      refine lv_aload_n hx hb dX9_write_251 rfl (lv_at hl 0 rfl) ?_
      refine lv_iload_n hx hb dX9_write_252 rfl (lv_at hl 2 rfl) ?_
      refine lv_bipush (v := 8) hx hb dX9_write_253 (by decide) ?_
      refine lv_ishl hx hb dX9_write_255 ?_
      refine lv_aload_n hx hb dX9_write_256 rfl (lv_at hl 0 rfl) ?_
      refine va_get (D := (dC, dI)) (ci := 8) (v := .int (σ.1 15)) (C := RX9) (T := TX9) (N := 33) hx hb hts (fun w h => List.mem_cons_of_mem _ (in_X9 w h)) hown hK hP 0 rfl rfl 15 (by decide) (hts _ (List.mem_cons_of_mem _ tw_3_202)) (fun _ h9 => h9) rfl dX9_write_257 ?_
      refine lv_ior hx hb dX9_write_260 ?_
      refine va_put (D := (dC, dI)) (ci := 8) (v := .int ((a2 <<< ((8 : Int32) &&& 31)) ||| (σ.1 15))) (ty := .int) (C := RX9) (T := TX9) (N := 33) hx hb hts (fun w h => List.mem_cons_of_mem _ (in_X9 w h)) tyX9 tyX9_ok nmX9 hown hK hP hD hS 0 rfl rfl 13 (by decide) (hts _ (List.mem_cons_of_mem _ tw_3_200)) (fun _ h9 => h9) rfl (by decide +kernel) rfl rfl (Nat.le_of_ble_eq_true rfl) dX9_write_261 (fun H locs hP hD hS => ?_)
      have hP : va_P (dC, dI) vwCl (w_Model h cI cJ (upd σ.1 13 ((a2 <<< ((8 : Int32) &&& 31)) ||| (σ.1 15)), σ.2.1, σ.2.2)) _ := hP
      have hD : va_D A (w_Model h cI cJ (upd σ.1 13 ((a2 <<< ((8 : Int32) &&& 31)) ||| (σ.1 15)), σ.2.1, σ.2.2)) := hD
      refine lv_aload_n hx hb dX9_write_264 rfl (lv_at hl 0 rfl) ?_
      refine lv_iconst (v := 1) hx hb dX9_write_265 (by decide) ?_
      refine va_put (D := (dC, dI)) (ci := 8) (v := .int 1) (ty := .boolean) (C := RX9) (T := TX9) (N := 33) hx hb hts (fun w h => List.mem_cons_of_mem _ (in_X9 w h)) tyX9 tyX9_ok nmX9 hown hK hP hD hS 0 rfl rfl 21 (by decide) (hts _ (List.mem_cons_of_mem _ tw_3_208)) (fun _ h9 => h9) rfl (by decide +kernel) rfl rfl (Nat.le_of_ble_eq_true rfl) dX9_write_266 (fun H locs hP hD hS => ?_)
      have hP : va_P (dC, dI) vwCl (w_Model h cI cJ (upd (upd σ.1 13 ((a2 <<< ((8 : Int32) &&& 31)) ||| (σ.1 15))) 21 1, σ.2.1, σ.2.2)) _ := hP
      have hD : va_D A (w_Model h cI cJ (upd (upd σ.1 13 ((a2 <<< ((8 : Int32) &&& 31)) ||| (σ.1 15))) 21 1, σ.2.1, σ.2.2)) := hD
      refine lv_aload_n hx hb dX9_write_269 rfl (lv_at hl 0 rfl) ?_
      refine lv_dup hx hb dX9_write_270 rfl ?_
      refine va_get (D := (dC, dI)) (ci := 8) (v := .int (σ.1 17)) (C := RX9) (T := TX9) (N := 33) hx hb hts (fun w h => List.mem_cons_of_mem _ (in_X9 w h)) hown hK hP 0 rfl rfl 17 (by decide) (hts _ (List.mem_cons_of_mem _ tw_3_204)) (fun _ h9 => h9) rfl dX9_write_271 ?_
      refine lv_bipush (v := (-33)) hx hb dX9_write_274 (by decide) ?_
      refine lv_iand hx hb dX9_write_276 ?_
      refine va_put (D := (dC, dI)) (ci := 8) (v := .int ((σ.1 17) &&& (-33 : Int32))) (ty := .int) (C := RX9) (T := TX9) (N := 33) hx hb hts (fun w h => List.mem_cons_of_mem _ (in_X9 w h)) tyX9 tyX9_ok nmX9 hown hK hP hD hS 0 rfl rfl 17 (by decide) (hts _ (List.mem_cons_of_mem _ tw_3_204)) (fun _ h9 => h9) rfl (by decide +kernel) rfl rfl (Nat.le_of_ble_eq_true rfl) dX9_write_277 (fun H locs hP hD hS => ?_)
      have hP : va_P (dC, dI) vwCl (w_Model h cI cJ (upd (upd (upd σ.1 13 ((a2 <<< ((8 : Int32) &&& 31)) ||| (σ.1 15))) 21 1) 17 ((σ.1 17) &&& (-33 : Int32)), σ.2.1, σ.2.2)) _ := hP
      have hD : va_D A (w_Model h cI cJ (upd (upd (upd σ.1 13 ((a2 <<< ((8 : Int32) &&& 31)) ||| (σ.1 15))) 21 1) 17 ((σ.1 17) &&& (-33 : Int32)), σ.2.1, σ.2.2)) := hD
      refine lv_goto (tgt := 392) hx hb dX9_write_280 (by decide) ?_
      exact W.vret hx hb hr (fun t ht hW => ⟨⟨(upd (upd (upd σ.1 13 ((a2 <<< ((8 : Int32) &&& 31)) ||| (σ.1 15))) 21 1) 17 ((σ.1 17) &&& (-33 : Int32)), σ.2.1, σ.2.2), rfl, hok, by rw [ht]; exact hP, va_K.moved hW.alike hK, hD⟩, hS.F ht⟩) hS.2.2 dX9_write_392
    have hok := hok.2
    by_cases c10 : (a1 - (40960 : Int32)) = 11
    · have hok := hok.1 c10
      refine lv_tableIn (tgt := 283) (off := 261) hx hb dX9_write_22 (by rw [c10]; decide) (by rw [c10]; decide) (by rw [c10]; decide) (by decide) ?_
      refine lv_aload_n hx hb dX9_write_283 rfl (lv_at hl 0 rfl) ?_
      refine lv_iload_n hx hb dX9_write_284 rfl (lv_at hl 2 rfl) ?_
      refine va_put (D := (dC, dI)) (ci := 8) (v := .int a2) (ty := .int) (C := RX9) (T := TX9) (N := 33) hx hb hts (fun w h => List.mem_cons_of_mem _ (in_X9 w h)) tyX9 tyX9_ok nmX9 hown hK hP hD hS 0 rfl rfl 16 (by decide) (hts _ (List.mem_cons_of_mem _ tw_3_203)) (fun _ h9 => h9) rfl (by decide +kernel) rfl rfl (Nat.le_of_ble_eq_true rfl) dX9_write_285 (fun H locs hP hD hS => ?_)
      have hP : va_P (dC, dI) vwCl (w_Model h cI cJ (upd σ.1 16 a2, σ.2.1, σ.2.2)) _ := hP
      have hD : va_D A (w_Model h cI cJ (upd σ.1 16 a2, σ.2.1, σ.2.2)) := hD
      refine lv_goto (tgt := 392) hx hb dX9_write_288 (by decide) ?_
      exact W.vret hx hb hr (fun t ht hW => ⟨⟨(upd σ.1 16 a2, σ.2.1, σ.2.2), rfl, hok, by rw [ht]; exact hP, va_K.moved hW.alike hK, hD⟩, hS.F ht⟩) hS.2.2 dX9_write_392
    have hok := hok.2
    by_cases c11 : (a1 - (40960 : Int32)) = 13
    · have hok := hok.1 c11
      refine lv_tableIn (tgt := 291) (off := 269) hx hb dX9_write_22 (by rw [c11]; decide) (by rw [c11]; decide) (by rw [c11]; decide) (by decide) ?_
      refine lv_aload_n hx hb dX9_write_291 rfl (lv_at hl 0 rfl) ?_
      refine lv_dup hx hb dX9_write_292 rfl ?_
      refine va_get (D := (dC, dI)) (ci := 8) (v := .int (σ.1 17)) (C := RX9) (T := TX9) (N := 33) hx hb hts (fun w h => List.mem_cons_of_mem _ (in_X9 w h)) hown hK hP 0 rfl rfl 17 (by decide) (hts _ (List.mem_cons_of_mem _ tw_3_204)) (fun _ h9 => h9) rfl dX9_write_293 ?_
      refine lv_iload_n hx hb dX9_write_296 rfl (lv_at hl 2 rfl) ?_
      refine lv_iconst (v := (-1)) hx hb dX9_write_297 (by decide) ?_
      refine lv_ixor hx hb dX9_write_298 ?_
      refine lv_iand hx hb dX9_write_299 ?_
      refine va_put (D := (dC, dI)) (ci := 8) (v := .int ((σ.1 17) &&& (a2 ^^^ (-1 : Int32)))) (ty := .int) (C := RX9) (T := TX9) (N := 33) hx hb hts (fun w h => List.mem_cons_of_mem _ (in_X9 w h)) tyX9 tyX9_ok nmX9 hown hK hP hD hS 0 rfl rfl 17 (by decide) (hts _ (List.mem_cons_of_mem _ tw_3_204)) (fun _ h9 => h9) rfl (by decide +kernel) rfl rfl (Nat.le_of_ble_eq_true rfl) dX9_write_300 (fun H locs hP hD hS => ?_)
      have hP : va_P (dC, dI) vwCl (w_Model h cI cJ (upd σ.1 17 ((σ.1 17) &&& (a2 ^^^ (-1 : Int32))), σ.2.1, σ.2.2)) _ := hP
      have hD : va_D A (w_Model h cI cJ (upd σ.1 17 ((σ.1 17) &&& (a2 ^^^ (-1 : Int32))), σ.2.1, σ.2.2)) := hD
      refine lv_goto (tgt := 392) hx hb dX9_write_303 (by decide) ?_
      exact W.vret hx hb hr (fun t ht hW => ⟨⟨(upd σ.1 17 ((σ.1 17) &&& (a2 ^^^ (-1 : Int32))), σ.2.1, σ.2.2), rfl, hok, by rw [ht]; exact hP, va_K.moved hW.alike hK, hD⟩, hS.F ht⟩) hS.2.2 dX9_write_392
    have hok := hok.2
    by_cases c12 : (a1 - (40960 : Int32)) = 14
    · have hok := hok.1 c12
      refine lv_tableIn (tgt := 306) (off := 284) hx hb dX9_write_22 (by rw [c12]; decide) (by rw [c12]; decide) (by rw [c12]; decide) (by decide) ?_
      refine lv_aload_n hx hb dX9_write_306 rfl (lv_at hl 0 rfl) ?_
      refine lv_iload_n hx hb dX9_write_307 rfl (lv_at hl 2 rfl) ?_
      refine lv_bipush (v := 127) hx hb dX9_write_308 (by decide) ?_
      refine lv_icmp_le (tgt := 325) hx hb dX9_write_310 (by decide) (fun c13 => ?_) (fun c13 => ?_)
      · have hok := hok.1 c13
        refine lv_aload_n hx hb dX9_write_325 rfl (lv_at hl 0 rfl) ?_
        refine va_get (D := (dC, dI)) (ci := 8) (v := .int (σ.1 18)) (C := RX9) (T := TX9) (N := 33) hx hb hts (fun w h => List.mem_cons_of_mem _ (in_X9 w h)) hown hK hP 0 rfl rfl 18 (by decide) (hts _ (List.mem_cons_of_mem _ tw_3_205)) (fun _ h9 => h9) rfl dX9_write_326 ?_
        refine lv_iload_n hx hb dX9_write_329 rfl (lv_at hl 2 rfl) ?_
        refine lv_iconst (v := (-1)) hx hb dX9_write_330 (by decide) ?_
        refine lv_ixor hx hb dX9_write_331 ?_
        refine lv_iand hx hb dX9_write_332 ?_
        refine va_put (D := (dC, dI)) (ci := 8) (v := .int ((σ.1 18) &&& (a2 ^^^ (-1 : Int32)))) (ty := .int) (C := RX9) (T := TX9) (N := 33) hx hb hts (fun w h => List.mem_cons_of_mem _ (in_X9 w h)) tyX9 tyX9_ok nmX9 hown hK hP hD hS 0 rfl rfl 18 (by decide) (hts _ (List.mem_cons_of_mem _ tw_3_205)) (fun _ h9 => h9) rfl (by decide +kernel) rfl rfl (Nat.le_of_ble_eq_true rfl) dX9_write_333 (fun H locs hP hD hS => ?_)
        have hP : va_P (dC, dI) vwCl (w_Model h cI cJ (upd σ.1 18 ((σ.1 18) &&& (a2 ^^^ (-1 : Int32))), σ.2.1, σ.2.2)) _ := hP
        have hD : va_D A (w_Model h cI cJ (upd σ.1 18 ((σ.1 18) &&& (a2 ^^^ (-1 : Int32))), σ.2.1, σ.2.2)) := hD
        refine lv_goto (tgt := 392) hx hb dX9_write_336 (by decide) ?_
        exact W.vret hx hb hr (fun t ht hW => ⟨⟨(upd σ.1 18 ((σ.1 18) &&& (a2 ^^^ (-1 : Int32))), σ.2.1, σ.2.2), rfl, hok, by rw [ht]; exact hP, va_K.moved hW.alike hK, hD⟩, hS.F ht⟩) hS.2.2 dX9_write_392
      · have hok := hok.2 c13
        refine lv_aload_n hx hb dX9_write_313 rfl (lv_at hl 0 rfl) ?_
        refine va_get (D := (dC, dI)) (ci := 8) (v := .int (σ.1 18)) (C := RX9) (T := TX9) (N := 33) hx hb hts (fun w h => List.mem_cons_of_mem _ (in_X9 w h)) hown hK hP 0 rfl rfl 18 (by decide) (hts _ (List.mem_cons_of_mem _ tw_3_205)) (fun _ h9 => h9) rfl dX9_write_314 ?_
        refine lv_iload_n hx hb dX9_write_317 rfl (lv_at hl 2 rfl) ?_
        refine lv_bipush (v := 127) hx hb dX9_write_318 (by decide) ?_
        refine lv_iand hx hb dX9_write_320 ?_
        refine lv_ior hx hb dX9_write_321 ?_
        refine lv_goto (tgt := 333) hx hb dX9_write_322 (by decide) ?_
        refine va_put (D := (dC, dI)) (ci := 8) (v := .int ((σ.1 18) ||| (a2 &&& (127 : Int32)))) (ty := .int) (C := RX9) (T := TX9) (N := 33) hx hb hts (fun w h => List.mem_cons_of_mem _ (in_X9 w h)) tyX9 tyX9_ok nmX9 hown hK hP hD hS 0 rfl rfl 18 (by decide) (hts _ (List.mem_cons_of_mem _ tw_3_205)) (fun _ h9 => h9) rfl (by decide +kernel) rfl rfl (Nat.le_of_ble_eq_true rfl) dX9_write_333 (fun H locs hP hD hS => ?_)
        have hP : va_P (dC, dI) vwCl (w_Model h cI cJ (upd σ.1 18 ((σ.1 18) ||| (a2 &&& (127 : Int32))), σ.2.1, σ.2.2)) _ := hP
        have hD : va_D A (w_Model h cI cJ (upd σ.1 18 ((σ.1 18) ||| (a2 &&& (127 : Int32))), σ.2.1, σ.2.2)) := hD
        refine lv_goto (tgt := 392) hx hb dX9_write_336 (by decide) ?_
        exact W.vret hx hb hr (fun t ht hW => ⟨⟨(upd σ.1 18 ((σ.1 18) ||| (a2 &&& (127 : Int32))), σ.2.1, σ.2.2), rfl, hok, by rw [ht]; exact hP, va_K.moved hW.alike hK, hD⟩, hS.F ht⟩) hS.2.2 dX9_write_392
    have hok := hok.2
    by_cases c14 : (a1 - (40960 : Int32)) = 16
    · have hok := hok.1 c14
      refine lv_tableIn (tgt := 339) (off := 317) hx hb dX9_write_22 (by rw [c14]; decide) (by rw [c14]; decide) (by rw [c14]; decide) (by decide) ?_
      refine lv_aload_n hx hb dX9_write_339 rfl (lv_at hl 0 rfl) ?_
      refine va_get (D := (dC, dI)) (ci := 8) (v := .ref (h 17)) (C := RX9) (T := TX9) (N := 33) hx hb hts (fun w h => List.mem_cons_of_mem _ (in_X9 w h)) hown hK hP 0 rfl rfl 25 (by decide) (hts _ (List.mem_cons_of_mem _ tw_3_212)) (fun _ h9 => h9) rfl dX9_write_340 ?_
      refine lv_aload_n hx hb dX9_write_343 rfl (lv_at hl 0 rfl) ?_
      refine va_get (D := (dC, dI)) (ci := 8) (v := .int (σ.1 23)) (C := RX9) (T := TX9) (N := 33) hx hb hts (fun w h => List.mem_cons_of_mem _ (in_X9 w h)) hown hK hP 0 rfl rfl 23 (by decide) (hts _ (List.mem_cons_of_mem _ tw_3_210)) (fun _ h9 => h9) rfl dX9_write_344 ?_
      refine lv_sipush (v := 256) hx hb dX9_write_347 (by decide) ?_
      refine lv_irem hx hb dX9_write_350 (by decide) ?_
      refine lv_topi (fun v15 ev15 => ?_)
      have hok := hok v15 ev15
      refine lv_iload_n hx hb dX9_write_351 rfl (lv_at hl 2 rfl) ?_
      refine va_iast hx hb hK hP hD hS 4 0 rfl rfl hok.1 dX9_write_352 (fun H locs hP hD hS => ?_)
      have hok := hok.2
      have hP : va_P (dC, dI) vwCl (w_Model h cI cJ (σ.1, σ.2.1, va_up σ.2.2 25 (upd (σ.2.2 25) v15.toNatClampNeg a2))) _ := hP
      have hD : va_D A (w_Model h cI cJ (σ.1, σ.2.1, va_up σ.2.2 25 (upd (σ.2.2 25) v15.toNatClampNeg a2))) := hD
      refine lv_aload_n hx hb dX9_write_353 rfl (lv_at hl 0 rfl) ?_
      refine lv_dup hx hb dX9_write_354 rfl ?_
      refine va_get (D := (dC, dI)) (ci := 8) (v := .int (σ.1 23)) (C := RX9) (T := TX9) (N := 33) hx hb hts (fun w h => List.mem_cons_of_mem _ (in_X9 w h)) hown hK hP 0 rfl rfl 23 (by decide) (hts _ (List.mem_cons_of_mem _ tw_3_210)) (fun _ h9 => h9) rfl dX9_write_355 ?_
      refine lv_iconst (v := 1) hx hb dX9_write_358 (by decide) ?_
      refine lv_iadd hx hb dX9_write_359 ?_
      refine va_put (D := (dC, dI)) (ci := 8) (v := .int ((σ.1 23) + (1 : Int32))) (ty := .int) (C := RX9) (T := TX9) (N := 33) hx hb hts (fun w h => List.mem_cons_of_mem _ (in_X9 w h)) tyX9 tyX9_ok nmX9 hown hK hP hD hS 0 rfl rfl 23 (by decide) (hts _ (List.mem_cons_of_mem _ tw_3_210)) (fun _ h9 => h9) rfl (by decide +kernel) rfl rfl (Nat.le_of_ble_eq_true rfl) dX9_write_360 (fun H locs hP hD hS => ?_)
      have hP : va_P (dC, dI) vwCl (w_Model h cI cJ (upd σ.1 23 ((σ.1 23) + (1 : Int32)), σ.2.1, va_up σ.2.2 25 (upd (σ.2.2 25) v15.toNatClampNeg a2))) _ := hP
      have hD : va_D A (w_Model h cI cJ (upd σ.1 23 ((σ.1 23) + (1 : Int32)), σ.2.1, va_up σ.2.2 25 (upd (σ.2.2 25) v15.toNatClampNeg a2))) := hD
      refine lv_goto (tgt := 392) hx hb dX9_write_363 (by decide) ?_
      exact W.vret hx hb hr (fun t ht hW => ⟨⟨(upd σ.1 23 ((σ.1 23) + (1 : Int32)), σ.2.1, va_up σ.2.2 25 (upd (σ.2.2 25) v15.toNatClampNeg a2)), rfl, hok, by rw [ht]; exact hP, va_K.moved hW.alike hK, hD⟩, hS.F ht⟩) hS.2.2 dX9_write_392
    have hok := hok.2
    by_cases c16 : (a1 - (40960 : Int32)) = 17
    · have hok := hok.1 c16
      refine lv_tableIn (tgt := 366) (off := 344) hx hb dX9_write_22 (by rw [c16]; decide) (by rw [c16]; decide) (by rw [c16]; decide) (by decide) ?_
      refine lv_aload_n hx hb dX9_write_366 rfl (lv_at hl 0 rfl) ?_
      refine lv_iconst (v := 0) hx hb dX9_write_367 (by decide) ?_
      refine va_put (D := (dC, dI)) (ci := 8) (v := .int 0) (ty := .int) (C := RX9) (T := TX9) (N := 33) hx hb hts (fun w h => List.mem_cons_of_mem _ (in_X9 w h)) tyX9 tyX9_ok nmX9 hown hK hP hD hS 0 rfl rfl 19 (by decide) (hts _ (List.mem_cons_of_mem _ tw_3_206)) (fun _ h9 => h9) rfl (by decide +kernel) rfl rfl (Nat.le_of_ble_eq_true rfl) dX9_write_368 (fun H locs hP hD hS => ?_)
      have hP : va_P (dC, dI) vwCl (w_Model h cI cJ (upd σ.1 19 0, σ.2.1, σ.2.2)) _ := hP
      have hD : va_D A (w_Model h cI cJ (upd σ.1 19 0, σ.2.1, σ.2.2)) := hD
      refine lv_goto (tgt := 392) hx hb dX9_write_371 (by decide) ?_
      exact W.vret hx hb hr (fun t ht hW => ⟨⟨(upd σ.1 19 0, σ.2.1, σ.2.2), rfl, hok, by rw [ht]; exact hP, va_K.moved hW.alike hK, hD⟩, hS.F ht⟩) hS.2.2 dX9_write_392
    have hok := hok.2
    by_cases c17 : (a1 - (40960 : Int32)) = 18
    · have hok := hok.1 c17
      refine lv_tableIn (tgt := 374) (off := 352) hx hb dX9_write_22 (by rw [c17]; decide) (by rw [c17]; decide) (by rw [c17]; decide) (by decide) ?_
      refine lv_aload_n hx hb dX9_write_374 rfl (lv_at hl 0 rfl) ?_
      refine lv_iload_n hx hb dX9_write_375 rfl (lv_at hl 2 rfl) ?_
      refine va_put (D := (dC, dI)) (ci := 8) (v := .int a2) (ty := .int) (C := RX9) (T := TX9) (N := 33) hx hb hts (fun w h => List.mem_cons_of_mem _ (in_X9 w h)) tyX9 tyX9_ok nmX9 hown hK hP hD hS 0 rfl rfl 19 (by decide) (hts _ (List.mem_cons_of_mem _ tw_3_206)) (fun _ h9 => h9) rfl (by decide +kernel) rfl rfl (Nat.le_of_ble_eq_true rfl) dX9_write_376 (fun H locs hP hD hS => ?_)
      have hP : va_P (dC, dI) vwCl (w_Model h cI cJ (upd σ.1 19 a2, σ.2.1, σ.2.2)) _ := hP
      have hD : va_D A (w_Model h cI cJ (upd σ.1 19 a2, σ.2.1, σ.2.2)) := hD
      refine lv_goto (tgt := 392) hx hb dX9_write_379 (by decide) ?_
      exact W.vret hx hb hr (fun t ht hW => ⟨⟨(upd σ.1 19 a2, σ.2.1, σ.2.2), rfl, hok, by rw [ht]; exact hP, va_K.moved hW.alike hK, hD⟩, hS.F ht⟩) hS.2.2 dX9_write_392
    have hok := hok.2
    by_cases c18 : (a1 - (40960 : Int32)) = 32
    · have hok := hok.1 c18
      refine lv_tableIn (tgt := 382) (off := 360) hx hb dX9_write_22 (by rw [c18]; decide) (by rw [c18]; decide) (by rw [c18]; decide) (by decide) ?_
      refine lv_aload_n hx hb dX9_write_382 rfl (lv_at hl 0 rfl) ?_
      refine lv_iload_n hx hb dX9_write_383 rfl (lv_at hl 2 rfl) ?_
      refine lv_iconst (v := 3) hx hb dX9_write_384 (by decide) ?_
      refine lv_iand hx hb dX9_write_385 ?_
      refine va_put (D := (dC, dI)) (ci := 8) (v := .int (a2 &&& (3 : Int32))) (ty := .int) (C := RX9) (T := TX9) (N := 33) hx hb hts (fun w h => List.mem_cons_of_mem _ (in_X9 w h)) tyX9 tyX9_ok nmX9 hown hK hP hD hS 0 rfl rfl 5 (by decide) (hts _ (List.mem_cons_of_mem _ tw_3_192)) (fun _ h9 => h9) rfl (by decide +kernel) rfl rfl (Nat.le_of_ble_eq_true rfl) dX9_write_386 (fun H locs hP hD hS => ?_)
      have hP : va_P (dC, dI) vwCl (w_Model h cI cJ (upd σ.1 5 (a2 &&& (3 : Int32)), σ.2.1, σ.2.2)) _ := hP
      have hD : va_D A (w_Model h cI cJ (upd σ.1 5 (a2 &&& (3 : Int32)), σ.2.1, σ.2.2)) := hD
      refine lv_goto (tgt := 392) hx hb dX9_write_389 (by decide) ?_
      exact W.vret hx hb hr (fun t ht hW => ⟨⟨(upd σ.1 5 (a2 &&& (3 : Int32)), σ.2.1, σ.2.2), rfl, hok, by rw [ht]; exact hP, va_K.moved hW.alike hK, hD⟩, hS.F ht⟩) hS.2.2 dX9_write_392
    have hok := hok.2
    have hok := hok ⟨c2, c3, c5, c6, c8, c9, c10, c11, c12, c14, c16, c17, c18⟩
    have kz18 : ∀ k ∈ ([4, 5, 6, 7, 8, 9, 11, 13, 14, 16, 17, 18, 32] : List Int), ((a1 - (40960 : Int32))).toInt ≠ k := List.forall_mem_cons.mpr ⟨tb_ne c2 rfl, List.forall_mem_cons.mpr ⟨tb_ne c3 rfl, List.forall_mem_cons.mpr ⟨tb_ne c5 rfl, List.forall_mem_cons.mpr ⟨tb_ne c6 rfl, List.forall_mem_cons.mpr ⟨tb_ne c8 rfl, List.forall_mem_cons.mpr ⟨tb_ne c9 rfl, List.forall_mem_cons.mpr ⟨tb_ne c10 rfl, List.forall_mem_cons.mpr ⟨tb_ne c11 rfl, List.forall_mem_cons.mpr ⟨tb_ne c12 rfl, List.forall_mem_cons.mpr ⟨tb_ne c14 rfl, List.forall_mem_cons.mpr ⟨tb_ne c16 rfl, List.forall_mem_cons.mpr ⟨tb_ne c17 rfl, List.forall_mem_cons.mpr ⟨tb_ne c18 rfl, fun k h => absurd h List.not_mem_nil⟩⟩⟩⟩⟩⟩⟩⟩⟩⟩⟩⟩⟩
    refine tb_def (tgt := 392) (keys := [4, 5, 6, 7, 8, 9, 11, 13, 14, 16, 17, 18, 32]) hx hb dX9_write_22 kz18 (by decide) (by decide) ?_
    exact W.vret hx hb hr (fun t ht hW => ⟨⟨σ, rfl, hok, by rw [ht]; exact hP, va_K.moved hW.alike hK, hD⟩, hS.F ht⟩) hS.2.2 dX9_write_392
  · have hok := hok.2 c1
    refine lv_aload_n hx hb dX9_write_6 rfl (lv_at hl 0 rfl) ?_
    refine va_get (D := (dC, dI)) (ci := 8) (v := .ref (h 14)) (C := RX9) (T := TX9) (N := 33) hx hb hts (fun w h => List.mem_cons_of_mem _ (in_X9 w h)) hown hK hP 0 rfl rfl 1 (by decide) (hts _ (List.mem_cons_of_mem _ tw_3_188)) (fun _ h9 => h9) rfl dX9_write_7 ?_
    refine lv_aload_n hx hb dX9_write_10 rfl (lv_at hl 0 rfl) ?_
    refine lv_iload_n hx hb dX9_write_11 rfl (lv_at hl 1 rfl) ?_
    have hPc := hP
    have hDc := hD
    have hFc := va_free (wc := w_Model h cI cJ σ) hD hS hA [0, 1, 2, 3, 4, 5, 6] rfl
    refine va_calli (va_runV (As := [.int a1]) (rest := [.ref (h 14)]) ⟨hx, hb, hml, hown, hts⟩ (c_X9_cell l dC dI cI cJ h _ hok) (cwV 1 hts (tb_gV tw_4_77 tw_4_79 tw_p_41 tw_1_9 tw_4_80) rfl rfl rfl (by decide +kernel) ⟨Nat.le_of_ble_eq_true rfl, Nat.le_of_ble_eq_true rfl⟩) (cpre_V (ci := 8) (q0 := 0) hK hPc hDc rfl rfl) rfl rfl hl.1 rfl (lv_room (Nat.le_of_ble_eq_true rfl)) dX9_write_12 ⟨Nat.le_of_ble_eq_true rfl, Nat.le_of_ble_eq_true rfl⟩) hS (fun q _ h => hFc q h) hFc (fun r19 _ t H1 locs ht hvm hok hB hz1 hk1 hS => ?_)
    obtain ⟨hP, hD⟩ := cjoin_w ht hB hFc
    refine lv_iload_n hx hb dX9_write_15 rfl (lv_at hl 2 rfl) ?_
    refine va_iast hx hb hK hP hD hS 1 0 rfl rfl hok.1 dX9_write_16 (fun H locs hP hD hS => ?_)
    have hok := hok.2
    have hP : va_P (dC, dI) vwCl (w_Model h cI cJ (σ.1, σ.2.1, va_up σ.2.2 1 (upd (σ.2.2 1) r19.toNatClampNeg a2))) _ := hP
    have hD : va_D A (w_Model h cI cJ (σ.1, σ.2.1, va_up σ.2.2 1 (upd (σ.2.2 1) r19.toNatClampNeg a2))) := hD
    exact W.vret hx hb hr (fun t ht hW => ⟨⟨(σ.1, σ.2.1, va_up σ.2.2 1 (upd (σ.2.2 1) r19.toNatClampNeg a2)), rfl, hok, by rw [ht]; exact hP, va_K.moved hW.alike hK, hD⟩, hS.F ht⟩) hS.2.2 dX9_write_17
def wp_X9_wordAt (σ : S_Model) (a1 : Int32) (Φ : Int32 → S_Model → Prop) : Prop := wp_X9_read σ (a1 &&& (65535 : Int32)) (fun r1 u2 => wp_X9_read u2 ((a1 + (1 : Int32)) &&& (65535 : Int32)) (fun r3 u4 => Φ (r1 ||| (r3 <<< ((8 : Int32) &&& 31))) u4))
set_option maxHeartbeats 4000000 in
set_option maxRecDepth 100000 in
theorem c_X9_wordAt (l : Launch) (dC : Nat → ClassId) (dI : Nat → Nat → Nat) (cI cJ : ClassId) (h : Nat → Nat) (sz : Nat) {σ : S_Model} {a1 : Int32} {Φ : Int32 → S_Model → Prop} (hok : wp_X9_wordAt σ a1 Φ) : Met l yX9_wordAt wsX9_wordAt ({ frames := 3, cells := 0, slots := 0, locals := 65 }) (va_Pc [.ref (h 13), .int a1] (cpre dC dI cI cJ (w_Model h cI cJ σ) sz)) (va_Qi Φ (fun u => cpost dC dI cI cJ (va_A (w_Model h cI cJ σ) sz) (w_Model h cI cJ u)) (va_A (w_Model h cI cJ σ) sz)) 0 0 (va_A (w_Model h cI cJ σ) sz) := by
  refine Met.ofW (cc := cX9_wordAt) (maxL := 3) (ret := (some .int)) (by decide) rfl ?_
  intro p e s m args below meth c s₁ B hml hv
  obtain ⟨rfl, hsz, hP, hK, hD0⟩ := hv
  have hx := B.exec
  have hb := B.bytes
  have hr := B.returns
  have hts := atoms_spec (ws := wsX9_wordAt) B.pre
  have hown : s.vm.findClass RX9 = some m.cls := findClass_of_methodNamed B.named
  have hlocks := B.notSynchronized
  subst hsz
  have hD := hD0.self (sz := s.heap.size)
  generalize hAe : va_A (w_Model h cI cJ σ) s.heap.size = A at hD ⊢
  have hA : ∀ q : Nat, s.heap.size ≤ q → A q := fun q h => by rw [← hAe]; exact Or.inr h
  clear hD0 hAe
  have hS : va_S A s.heap s.heap [] := va_S.rf
  have hl := lv_entry ([.ref (h 13), .int a1]) (n := 3) (Nat.le_of_ble_eq_true rfl)
  rw [lg_entry_eq]
  generalize (lg_sl ([.ref (h 13), .int a1]) ++ List.replicate (3 - (lg_sl ([.ref (h 13), .int a1])).length) Slot.unset).toArray = ls at hl ⊢
  have hl : lv_has ls 3 [(0, .ref (h 13)), (1, .int a1)] := hl
  unfold wp_X9_wordAt at hok
  refine lv_aload_n hx hb dX9_wordAt_0 rfl (lv_at hl 0 rfl) ?_
  refine lv_iload_n hx hb dX9_wordAt_1 rfl (lv_at hl 1 rfl) ?_
  refine lv_ldc (v := 65535) hx hb hown (hts _ (List.mem_cons_of_mem _ tw_3_186)) dX9_wordAt_2 ?_
  refine lv_iand hx hb dX9_wordAt_4 ?_
  have hPc := hP
  have hDc := hD
  have hFc := va_free (wc := w_Model h cI cJ σ) hD hS hA [0, 1, 2, 3, 4, 5, 6] rfl
  refine va_calli (va_runV (As := [.int (a1 &&& (65535 : Int32))]) (rest := []) ⟨hx, hb, hml, hown, hts⟩ (c_X9_read l dC dI cI cJ h _ hok) (cwV 1 hts (tb_gV tw_4_93 tw_4_95 tw_p_44 tw_1_9 tw_4_96) rfl rfl rfl (by decide +kernel) ⟨Nat.le_of_ble_eq_true rfl, Nat.le_of_ble_eq_true rfl⟩) (cpre_V (ci := 8) (q0 := 0) hK hPc hDc rfl rfl) rfl rfl hl.1 rfl (lv_room (Nat.le_of_ble_eq_true rfl)) dX9_wordAt_5 ⟨Nat.le_of_ble_eq_true rfl, Nat.le_of_ble_eq_true rfl⟩) hS (fun q _ h => hFc q h) hFc (fun r1 u2 t H1 locs ht hvm hok hB hz1 hk1 hS => ?_)
  obtain ⟨hP, hD⟩ := cjoin_w ht hB hFc
  refine lv_istore_n (lv' := [(2, .int r1), (0, .ref (h 13)), (1, .int a1)]) hx hb dX9_wordAt_8 rfl hl (by decide) rfl (fun ls hl => ?_)
  refine lv_iload_n hx hb dX9_wordAt_9 rfl (lv_at hl 0 rfl) ?_
  refine lv_aload_n hx hb dX9_wordAt_10 rfl (lv_at hl 1 rfl) ?_
  refine lv_iload_n hx hb dX9_wordAt_11 rfl (lv_at hl 2 rfl) ?_
  refine lv_iconst (v := 1) hx hb dX9_wordAt_12 (by decide) ?_
  refine lv_iadd hx hb dX9_wordAt_13 ?_
  refine lv_ldc (v := 65535) hx hb hown (hts _ (List.mem_cons_of_mem _ tw_3_186)) dX9_wordAt_14 ?_
  refine lv_iand hx hb dX9_wordAt_16 ?_
  have hPc := hP
  have hDc := hD
  have hFc := va_free (wc := w_Model h cI cJ u2) hD hS hA [0, 1, 2, 3, 4, 5, 6] rfl
  refine va_calli (va_runV (As := [.int ((a1 + (1 : Int32)) &&& (65535 : Int32))]) (rest := [.int r1]) ⟨hx, hb, hml, hown, hts⟩ (c_X9_read l dC dI cI cJ h _ hok) (cwV 1 hts (tb_gV tw_4_93 tw_4_95 tw_p_44 tw_1_9 tw_4_96) rfl rfl rfl (by decide +kernel) ⟨Nat.le_of_ble_eq_true rfl, Nat.le_of_ble_eq_true rfl⟩) (cpre_V (ci := 8) (q0 := 0) hK hPc hDc rfl rfl) rfl rfl hl.1 rfl (lv_room (Nat.le_of_ble_eq_true rfl)) dX9_wordAt_17 ⟨Nat.le_of_ble_eq_true rfl, Nat.le_of_ble_eq_true rfl⟩) hS (fun q _ h => hFc q h) hFc (fun r3 u4 t H1 locs ht hvm hok hB hz1 hk1 hS => ?_)
  obtain ⟨hP, hD⟩ := cjoin_w ht hB hFc
  refine lv_bipush (v := 8) hx hb dX9_wordAt_20 (by decide) ?_
  refine lv_ishl hx hb dX9_wordAt_22 ?_
  refine lv_ior hx hb dX9_wordAt_23 ?_
  exact W.iret (v := r1 ||| (r3 <<< ((8 : Int32) &&& 31))) hx hb hr (fun t ht hW => ⟨⟨r1 ||| (r3 <<< ((8 : Int32) &&& 31)), u4, rfl, hok, by rw [ht]; exact hP, va_K.moved hW.alike hK, hD⟩, hS.F ht⟩) hS.2.2 dX9_wordAt_24
def wp_X9_zeroWord (σ : S_Model) (a1 : Int32) (Φ : Int32 → S_Model → Prop) : Prop := wp_X9_read σ (a1 &&& (255 : Int32)) (fun r1 u2 => wp_X9_read u2 ((a1 + (1 : Int32)) &&& (255 : Int32)) (fun r3 u4 => Φ (r1 ||| (r3 <<< ((8 : Int32) &&& 31))) u4))
set_option maxHeartbeats 4000000 in
set_option maxRecDepth 100000 in
theorem c_X9_zeroWord (l : Launch) (dC : Nat → ClassId) (dI : Nat → Nat → Nat) (cI cJ : ClassId) (h : Nat → Nat) (sz : Nat) {σ : S_Model} {a1 : Int32} {Φ : Int32 → S_Model → Prop} (hok : wp_X9_zeroWord σ a1 Φ) : Met l yX9_zeroWord wsX9_zeroWord ({ frames := 3, cells := 0, slots := 0, locals := 65 }) (va_Pc [.ref (h 13), .int a1] (cpre dC dI cI cJ (w_Model h cI cJ σ) sz)) (va_Qi Φ (fun u => cpost dC dI cI cJ (va_A (w_Model h cI cJ σ) sz) (w_Model h cI cJ u)) (va_A (w_Model h cI cJ σ) sz)) 0 0 (va_A (w_Model h cI cJ σ) sz) := by
  refine Met.ofW (cc := cX9_zeroWord) (maxL := 3) (ret := (some .int)) (by decide) rfl ?_
  intro p e s m args below meth c s₁ B hml hv
  obtain ⟨rfl, hsz, hP, hK, hD0⟩ := hv
  have hx := B.exec
  have hb := B.bytes
  have hr := B.returns
  have hts := atoms_spec (ws := wsX9_zeroWord) B.pre
  have hown : s.vm.findClass RX9 = some m.cls := findClass_of_methodNamed B.named
  have hlocks := B.notSynchronized
  subst hsz
  have hD := hD0.self (sz := s.heap.size)
  generalize hAe : va_A (w_Model h cI cJ σ) s.heap.size = A at hD ⊢
  have hA : ∀ q : Nat, s.heap.size ≤ q → A q := fun q h => by rw [← hAe]; exact Or.inr h
  clear hD0 hAe
  have hS : va_S A s.heap s.heap [] := va_S.rf
  have hl := lv_entry ([.ref (h 13), .int a1]) (n := 3) (Nat.le_of_ble_eq_true rfl)
  rw [lg_entry_eq]
  generalize (lg_sl ([.ref (h 13), .int a1]) ++ List.replicate (3 - (lg_sl ([.ref (h 13), .int a1])).length) Slot.unset).toArray = ls at hl ⊢
  have hl : lv_has ls 3 [(0, .ref (h 13)), (1, .int a1)] := hl
  unfold wp_X9_zeroWord at hok
  refine lv_aload_n hx hb dX9_zeroWord_0 rfl (lv_at hl 0 rfl) ?_
  refine lv_iload_n hx hb dX9_zeroWord_1 rfl (lv_at hl 1 rfl) ?_
  refine lv_sipush (v := 255) hx hb dX9_zeroWord_2 (by decide) ?_
  refine lv_iand hx hb dX9_zeroWord_5 ?_
  have hPc := hP
  have hDc := hD
  have hFc := va_free (wc := w_Model h cI cJ σ) hD hS hA [0, 1, 2, 3, 4, 5, 6] rfl
  refine va_calli (va_runV (As := [.int (a1 &&& (255 : Int32))]) (rest := []) ⟨hx, hb, hml, hown, hts⟩ (c_X9_read l dC dI cI cJ h _ hok) (cwV 1 hts (tb_gV tw_4_93 tw_4_95 tw_p_44 tw_1_9 tw_4_96) rfl rfl rfl (by decide +kernel) ⟨Nat.le_of_ble_eq_true rfl, Nat.le_of_ble_eq_true rfl⟩) (cpre_V (ci := 8) (q0 := 0) hK hPc hDc rfl rfl) rfl rfl hl.1 rfl (lv_room (Nat.le_of_ble_eq_true rfl)) dX9_zeroWord_6 ⟨Nat.le_of_ble_eq_true rfl, Nat.le_of_ble_eq_true rfl⟩) hS (fun q _ h => hFc q h) hFc (fun r1 u2 t H1 locs ht hvm hok hB hz1 hk1 hS => ?_)
  obtain ⟨hP, hD⟩ := cjoin_w ht hB hFc
  refine lv_istore_n (lv' := [(2, .int r1), (0, .ref (h 13)), (1, .int a1)]) hx hb dX9_zeroWord_9 rfl hl (by decide) rfl (fun ls hl => ?_)
  refine lv_iload_n hx hb dX9_zeroWord_10 rfl (lv_at hl 0 rfl) ?_
  refine lv_aload_n hx hb dX9_zeroWord_11 rfl (lv_at hl 1 rfl) ?_
  refine lv_iload_n hx hb dX9_zeroWord_12 rfl (lv_at hl 2 rfl) ?_
  refine lv_iconst (v := 1) hx hb dX9_zeroWord_13 (by decide) ?_
  refine lv_iadd hx hb dX9_zeroWord_14 ?_
  refine lv_sipush (v := 255) hx hb dX9_zeroWord_15 (by decide) ?_
  refine lv_iand hx hb dX9_zeroWord_18 ?_
  have hPc := hP
  have hDc := hD
  have hFc := va_free (wc := w_Model h cI cJ u2) hD hS hA [0, 1, 2, 3, 4, 5, 6] rfl
  refine va_calli (va_runV (As := [.int ((a1 + (1 : Int32)) &&& (255 : Int32))]) (rest := [.int r1]) ⟨hx, hb, hml, hown, hts⟩ (c_X9_read l dC dI cI cJ h _ hok) (cwV 1 hts (tb_gV tw_4_93 tw_4_95 tw_p_44 tw_1_9 tw_4_96) rfl rfl rfl (by decide +kernel) ⟨Nat.le_of_ble_eq_true rfl, Nat.le_of_ble_eq_true rfl⟩) (cpre_V (ci := 8) (q0 := 0) hK hPc hDc rfl rfl) rfl rfl hl.1 rfl (lv_room (Nat.le_of_ble_eq_true rfl)) dX9_zeroWord_19 ⟨Nat.le_of_ble_eq_true rfl, Nat.le_of_ble_eq_true rfl⟩) hS (fun q _ h => hFc q h) hFc (fun r3 u4 t H1 locs ht hvm hok hB hz1 hk1 hS => ?_)
  obtain ⟨hP, hD⟩ := cjoin_w ht hB hFc
  refine lv_bipush (v := 8) hx hb dX9_zeroWord_22 (by decide) ?_
  refine lv_ishl hx hb dX9_zeroWord_24 ?_
  refine lv_ior hx hb dX9_zeroWord_25 ?_
  exact W.iret (v := r1 ||| (r3 <<< ((8 : Int32) &&& 31))) hx hb hr (fun t ht hW => ⟨⟨r1 ||| (r3 <<< ((8 : Int32) &&& 31)), u4, rfl, hok, by rw [ht]; exact hP, va_K.moved hW.alike hK, hD⟩, hS.F ht⟩) hS.2.2 dX9_zeroWord_26
def wp_X9_push (σ : S_Model) (a1 : Int32) (Φ : S_Model → Prop) : Prop := (vp_in 3 4 ∧ (∀ v1 : Int32, v1 = (256 : Int32) + ((σ.2.2 2) (3 : Int32).toNatClampNeg) → wp_X9_write σ v1 a1 (fun u2 => (vp_in 3 4 ∧ (∀ v3 : Int32, v3 = ((u2.2.2 2) (3 : Int32).toNatClampNeg) - (1 : Int32) → (vp_in 3 4 ∧ (Φ (u2.1, u2.2.1, va_up u2.2.2 2 (upd (u2.2.2 2) (3 : Int32).toNatClampNeg (v3 &&& (255 : Int32)))))))))))
set_option maxHeartbeats 4000000 in
set_option maxRecDepth 100000 in
theorem c_X9_push (l : Launch) (dC : Nat → ClassId) (dI : Nat → Nat → Nat) (cI cJ : ClassId) (h : Nat → Nat) (sz : Nat) {σ : S_Model} {a1 : Int32} {Φ : S_Model → Prop} (hok : wp_X9_push σ a1 Φ) : Met l yX9_push wsX9_push ({ frames := 2, cells := 0, slots := 0, locals := 43 }) (va_Pc [.ref (h 13), .int a1] (cpre dC dI cI cJ (w_Model h cI cJ σ) sz)) (va_Qv Φ (fun u => cpost dC dI cI cJ (va_A (w_Model h cI cJ σ) sz) (w_Model h cI cJ u)) (va_A (w_Model h cI cJ σ) sz)) 0 0 (va_A (w_Model h cI cJ σ) sz) := by
  refine Met.ofW (cc := cX9_push) (maxL := 2) (ret := none) (by decide) rfl ?_
  intro p e s m args below meth c s₁ B hml hv
  obtain ⟨rfl, hsz, hP, hK, hD0⟩ := hv
  have hx := B.exec
  have hb := B.bytes
  have hr := B.returns
  have hts := atoms_spec (ws := wsX9_push) B.pre
  have hown : s.vm.findClass RX9 = some m.cls := findClass_of_methodNamed B.named
  have hlocks := B.notSynchronized
  subst hsz
  have hD := hD0.self (sz := s.heap.size)
  generalize hAe : va_A (w_Model h cI cJ σ) s.heap.size = A at hD ⊢
  have hA : ∀ q : Nat, s.heap.size ≤ q → A q := fun q h => by rw [← hAe]; exact Or.inr h
  clear hD0 hAe
  have hS : va_S A s.heap s.heap [] := va_S.rf
  have hl := lv_entry ([.ref (h 13), .int a1]) (n := 2) (Nat.le_of_ble_eq_true rfl)
  rw [lg_entry_eq]
  generalize (lg_sl ([.ref (h 13), .int a1]) ++ List.replicate (2 - (lg_sl ([.ref (h 13), .int a1])).length) Slot.unset).toArray = ls at hl ⊢
  have hl : lv_has ls 2 [(0, .ref (h 13)), (1, .int a1)] := hl
  unfold wp_X9_push at hok
  refine lv_aload_n hx hb dX9_push_0 rfl (lv_at hl 0 rfl) ?_
  refine lv_sipush (v := 256) hx hb dX9_push_1 (by decide) ?_
  refine lv_aload_n hx hb dX9_push_4 rfl (lv_at hl 0 rfl) ?_
  refine va_get (D := (dC, dI)) (ci := 8) (v := .ref (h 15)) (C := RX9) (T := TX9) (N := 33) hx hb hts (fun w h => List.mem_cons_of_mem _ (in_X9 w h)) hown hK hP 0 rfl rfl 2 (by decide) (hts _ (List.mem_cons_of_mem _ tw_3_189)) (fun _ h9 => h9) rfl dX9_push_5 ?_
  refine lv_iconst (v := 3) hx hb dX9_push_8 (by decide) ?_
  refine va_iald hx hb hK hP 2 0 rfl rfl hok.1 dX9_push_9 ?_
  have hok := hok.2
  refine lv_iadd hx hb dX9_push_10 ?_
  refine lv_topi (fun v1 ev1 => ?_)
  have hok := hok v1 ev1
  refine lv_iload_n hx hb dX9_push_11 rfl (lv_at hl 1 rfl) ?_
  have hPc := hP
  have hDc := hD
  have hFc := va_free (wc := w_Model h cI cJ σ) hD hS hA [0, 1, 2, 3, 4, 5, 6] rfl
  refine va_callv (va_runV (As := [.int v1, .int a1]) (rest := []) ⟨hx, hb, hml, hown, hts⟩ (c_X9_write l dC dI cI cJ h _ hok) (cwV 2 hts (tb_gV tw_4_72 tw_4_74 tw_p_40 tw_1_9 tw_4_75) rfl rfl rfl (by decide +kernel) ⟨Nat.le_of_ble_eq_true rfl, Nat.le_of_ble_eq_true rfl⟩) (cpre_V (ci := 8) (q0 := 0) hK hPc hDc rfl rfl) rfl rfl hl.1 rfl (lv_room (Nat.le_of_ble_eq_true rfl)) dX9_push_12 ⟨Nat.le_of_ble_eq_true rfl, Nat.le_of_ble_eq_true rfl⟩) hS (fun q _ h => hFc q h) hFc (fun u2 t H1 locs ht hvm hok hB hz1 hk1 hS => ?_)
  obtain ⟨hP, hD⟩ := cjoin_w ht hB hFc
  refine lv_aload_n hx hb dX9_push_15 rfl (lv_at hl 0 rfl) ?_
  refine va_get (D := (dC, dI)) (ci := 8) (v := .ref (h 15)) (C := RX9) (T := TX9) (N := 33) hx hb hts (fun w h => List.mem_cons_of_mem _ (in_X9 w h)) hown hK hP 0 rfl rfl 2 (by decide) (hts _ (List.mem_cons_of_mem _ tw_3_189)) (fun _ h9 => h9) rfl dX9_push_16 ?_
  refine lv_iconst (v := 3) hx hb dX9_push_19 (by decide) ?_
  refine lv_aload_n hx hb dX9_push_20 rfl (lv_at hl 0 rfl) ?_
  refine va_get (D := (dC, dI)) (ci := 8) (v := .ref (h 15)) (C := RX9) (T := TX9) (N := 33) hx hb hts (fun w h => List.mem_cons_of_mem _ (in_X9 w h)) hown hK hP 0 rfl rfl 2 (by decide) (hts _ (List.mem_cons_of_mem _ tw_3_189)) (fun _ h9 => h9) rfl dX9_push_21 ?_
  refine lv_iconst (v := 3) hx hb dX9_push_24 (by decide) ?_
  refine va_iald hx hb hK hP 2 0 rfl rfl hok.1 dX9_push_25 ?_
  have hok := hok.2
  refine lv_iconst (v := 1) hx hb dX9_push_26 (by decide) ?_
  refine lv_isub hx hb dX9_push_27 ?_
  refine lv_topi (fun v3 ev3 => ?_)
  have hok := hok v3 ev3
  refine lv_sipush (v := 255) hx hb dX9_push_28 (by decide) ?_
  refine lv_iand hx hb dX9_push_31 ?_
  refine va_iast hx hb hK hP hD hS 2 0 rfl rfl hok.1 dX9_push_32 (fun H locs hP hD hS => ?_)
  have hok := hok.2
  have hP : va_P (dC, dI) vwCl (w_Model h cI cJ (u2.1, u2.2.1, va_up u2.2.2 2 (upd (u2.2.2 2) (3 : Int32).toNatClampNeg (v3 &&& (255 : Int32))))) _ := hP
  have hD : va_D A (w_Model h cI cJ (u2.1, u2.2.1, va_up u2.2.2 2 (upd (u2.2.2 2) (3 : Int32).toNatClampNeg (v3 &&& (255 : Int32))))) := hD
  exact W.vret hx hb hr (fun t ht hW => ⟨⟨(u2.1, u2.2.1, va_up u2.2.2 2 (upd (u2.2.2 2) (3 : Int32).toNatClampNeg (v3 &&& (255 : Int32)))), rfl, hok, by rw [ht]; exact hP, va_K.moved hW.alike hK, hD⟩, hS.F ht⟩) hS.2.2 dX9_push_33
