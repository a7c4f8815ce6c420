def wp_X6_restart (σ : S_Timers) (Φ : S_Timers → Prop) : Prop := Φ (upd (upd (upd (upd (upd (upd (upd (upd (upd σ 0 65535) 1 65535) 2 0) 3 0) 4 0) 5 0) 6 0) 7 0) 8 0)
set_option maxHeartbeats 4000000 in
set_option maxRecDepth 100000 in
theorem c_X6_restart (l : Launch) (dC : Nat → ClassId) (dI : Nat → Nat → Nat) (cI cJ : ClassId) (h : Nat → Nat) (sz : Nat) {σ : S_Timers} {Φ : S_Timers → Prop} (hok : wp_X6_restart σ Φ) : Met l yX6_restart wsX6_restart ({ frames := 0, cells := 0, slots := 0, locals := 0 }) (va_Pc [.ref (h 5)] (cpre dC dI cI cJ (w_Timers h cI cJ σ) sz)) (va_Qv Φ (fun u => cpost dC dI cI cJ (va_A (w_Timers h cI cJ σ) sz) (w_Timers h cI cJ u)) (va_A (w_Timers h cI cJ σ) sz)) 0 0 (va_A (w_Timers h cI cJ σ) sz) := by
  refine Met.ofW (cc := cX6_restart) (maxL := 1) (ret := none) (by decide) rfl ?_
  intro p e s m args below meth c s₁ B hml hv
  obtain ⟨rfl, hsz, hP, hK, hD0⟩ := hv
  have hx := B.exec
  have hb := B.bytes
  have hr := B.returns
  have hts := atoms_spec (ws := wsX6_restart) B.pre
  have hown : s.vm.findClass RX6 = some m.cls := findClass_of_methodNamed B.named
  have hlocks := B.notSynchronized
  subst hsz
  have hD := hD0.self (sz := s.heap.size)
  generalize hAe : va_A (w_Timers h cI cJ σ) s.heap.size = A at hD ⊢
  have hA : ∀ q : Nat, s.heap.size ≤ q → A q := fun q h => by rw [← hAe]; exact Or.inr h
  clear hD0 hAe
  have hS : va_S A s.heap s.heap [] := va_S.rf
  have hl := lv_entry ([.ref (h 5)]) (n := 1) (Nat.le_of_ble_eq_true rfl)
  rw [lg_entry_eq]
  generalize (lg_sl ([.ref (h 5)]) ++ List.replicate (1 - (lg_sl ([.ref (h 5)])).length) Slot.unset).toArray = ls at hl ⊢
  have hl : lv_has ls 1 [(0, .ref (h 5))] := hl
  unfold wp_X6_restart at hok
  refine lv_aload_n hx hb dX6_restart_0 rfl (lv_at hl 0 rfl) ?_
  refine lv_ldc (v := 65535) hx hb hown (hts _ (List.mem_cons_of_mem _ tw_1_36)) dX6_restart_1 ?_
  refine va_put (D := (dC, dI)) (ci := 5) (v := .int 65535) (ty := .int) (C := RX6) (T := TX6) (N := 9) hx hb hts (fun w h => List.mem_cons_of_mem _ (in_X6 w h)) tyX6 tyX6_ok nmX6 hown hK hP hD hS 0 rfl rfl 0 (by decide) (hts _ (List.mem_cons_of_mem _ tw_1_37)) (fun _ h9 => h9) rfl (by decide +kernel) rfl rfl (Nat.le_of_ble_eq_true rfl) dX6_restart_3 (fun H locs hP hD hS => ?_)
  have hP : va_P (dC, dI) vwCl (w_Timers h cI cJ (upd σ 0 65535)) _ := hP
  have hD : va_D A (w_Timers h cI cJ (upd σ 0 65535)) := hD
  refine lv_aload_n hx hb dX6_restart_6 rfl (lv_at hl 0 rfl) ?_
  refine lv_ldc (v := 65535) hx hb hown (hts _ (List.mem_cons_of_mem _ tw_1_36)) dX6_restart_7 ?_
  refine va_put (D := (dC, dI)) (ci := 5) (v := .int 65535) (ty := .int) (C := RX6) (T := TX6) (N := 9) hx hb hts (fun w h => List.mem_cons_of_mem _ (in_X6 w h)) tyX6 tyX6_ok nmX6 hown hK hP hD hS 0 rfl rfl 1 (by decide) (hts _ (List.mem_cons_of_mem _ tw_1_39)) (fun _ h9 => h9) rfl (by decide +kernel) rfl rfl (Nat.le_of_ble_eq_true rfl) dX6_restart_9 (fun H locs hP hD hS => ?_)
  have hP : va_P (dC, dI) vwCl (w_Timers h cI cJ (upd (upd σ 0 65535) 1 65535)) _ := hP
  have hD : va_D A (w_Timers h cI cJ (upd (upd σ 0 65535) 1 65535)) := hD
  refine lv_aload_n hx hb dX6_restart_12 rfl (lv_at hl 0 rfl) ?_
  refine lv_iconst (v := 0) hx hb dX6_restart_13 (by decide) ?_
  refine va_put (D := (dC, dI)) (ci := 5) (v := .int 0) (ty := .int) (C := RX6) (T := TX6) (N := 9) hx hb hts (fun w h => List.mem_cons_of_mem _ (in_X6 w h)) tyX6 tyX6_ok nmX6 hown hK hP hD hS 0 rfl rfl 2 (by decide) (hts _ (List.mem_cons_of_mem _ tw_1_41)) (fun _ h9 => h9) rfl (by decide +kernel) rfl rfl (Nat.le_of_ble_eq_true rfl) dX6_restart_14 (fun H locs hP hD hS => ?_)
  have hP : va_P (dC, dI) vwCl (w_Timers h cI cJ (upd (upd (upd σ 0 65535) 1 65535) 2 0)) _ := hP
  have hD : va_D A (w_Timers h cI cJ (upd (upd (upd σ 0 65535) 1 65535) 2 0)) := hD
  refine lv_aload_n hx hb dX6_restart_17 rfl (lv_at hl 0 rfl) ?_
  refine lv_iconst (v := 0) hx hb dX6_restart_18 (by decide) ?_
  refine va_put (D := (dC, dI)) (ci := 5) (v := .int 0) (ty := .int) (C := RX6) (T := TX6) (N := 9) hx hb hts (fun w h => List.mem_cons_of_mem _ (in_X6 w h)) tyX6 tyX6_ok nmX6 hown hK hP hD hS 0 rfl rfl 3 (by decide) (hts _ (List.mem_cons_of_mem _ tw_1_43)) (fun _ h9 => h9) rfl (by decide +kernel) rfl rfl (Nat.le_of_ble_eq_true rfl) dX6_restart_19 (fun H locs hP hD hS => ?_)
  have hP : va_P (dC, dI) vwCl (w_Timers h cI cJ (upd (upd (upd (upd σ 0 65535) 1 65535) 2 0) 3 0)) _ := hP
  have hD : va_D A (w_Timers h cI cJ (upd (upd (upd (upd σ 0 65535) 1 65535) 2 0) 3 0)) := hD
  refine lv_aload_n hx hb dX6_restart_22 rfl (lv_at hl 0 rfl) ?_
  refine lv_iconst (v := 0) hx hb dX6_restart_23 (by decide) ?_
  refine va_put (D := (dC, dI)) (ci := 5) (v := .int 0) (ty := .int) (C := RX6) (T := TX6) (N := 9) hx hb hts (fun w h => List.mem_cons_of_mem _ (in_X6 w h)) tyX6 tyX6_ok nmX6 hown hK hP hD hS 0 rfl rfl 4 (by decide) (hts _ (List.mem_cons_of_mem _ tw_1_45)) (fun _ h9 => h9) rfl (by decide +kernel) rfl rfl (Nat.le_of_ble_eq_true rfl) dX6_restart_24 (fun H locs hP hD hS => ?_)
  have hP : va_P (dC, dI) vwCl (w_Timers h cI cJ (upd (upd (upd (upd (upd σ 0 65535) 1 65535) 2 0) 3 0) 4 0)) _ := hP
  have hD : va_D A (w_Timers h cI cJ (upd (upd (upd (upd (upd σ 0 65535) 1 65535) 2 0) 3 0) 4 0)) := hD
  refine lv_aload_n hx hb dX6_restart_27 rfl (lv_at hl 0 rfl) ?_
  refine lv_iconst (v := 0) hx hb dX6_restart_28 (by decide) ?_
  refine va_put (D := (dC, dI)) (ci := 5) (v := .int 0) (ty := .int) (C := RX6) (T := TX6) (N := 9) hx hb hts (fun w h => List.mem_cons_of_mem _ (in_X6 w h)) tyX6 tyX6_ok nmX6 hown hK hP hD hS 0 rfl rfl 5 (by decide) (hts _ (List.mem_cons_of_mem _ tw_1_47)) (fun _ h9 => h9) rfl (by decide +kernel) rfl rfl (Nat.le_of_ble_eq_true rfl) dX6_restart_29 (fun H locs hP hD hS => ?_)
  have hP : va_P (dC, dI) vwCl (w_Timers h cI cJ (upd (upd (upd (upd (upd (upd σ 0 65535) 1 65535) 2 0) 3 0) 4 0) 5 0)) _ := hP
  have hD : va_D A (w_Timers h cI cJ (upd (upd (upd (upd (upd (upd σ 0 65535) 1 65535) 2 0) 3 0) 4 0) 5 0)) := hD
  refine lv_aload_n hx hb dX6_restart_32 rfl (lv_at hl 0 rfl) ?_
  refine lv_iconst (v := 0) hx hb dX6_restart_33 (by decide) ?_
  refine va_put (D := (dC, dI)) (ci := 5) (v := .int 0) (ty := .int) (C := RX6) (T := TX6) (N := 9) hx hb hts (fun w h => List.mem_cons_of_mem _ (in_X6 w h)) tyX6 tyX6_ok nmX6 hown hK hP hD hS 0 rfl rfl 6 (by decide) (hts _ (List.mem_cons_of_mem _ tw_1_48)) (fun _ h9 => h9) rfl (by decide +kernel) rfl rfl (Nat.le_of_ble_eq_true rfl) dX6_restart_34 (fun H locs hP hD hS => ?_)
  have hP : va_P (dC, dI) vwCl (w_Timers h cI cJ (upd (upd (upd (upd (upd (upd (upd σ 0 65535) 1 65535) 2 0) 3 0) 4 0) 5 0) 6 0)) _ := hP
  have hD : va_D A (w_Timers h cI cJ (upd (upd (upd (upd (upd (upd (upd σ 0 65535) 1 65535) 2 0) 3 0) 4 0) 5 0) 6 0)) := hD
  refine lv_aload_n hx hb dX6_restart_37 rfl (lv_at hl 0 rfl) ?_
  refine lv_iconst (v := 0) hx hb dX6_restart_38 (by decide) ?_
  refine va_put (D := (dC, dI)) (ci := 5) (v := .int 0) (ty := .boolean) (C := RX6) (T := TX6) (N := 9) hx hb hts (fun w h => List.mem_cons_of_mem _ (in_X6 w h)) tyX6 tyX6_ok nmX6 hown hK hP hD hS 0 rfl rfl 7 (by decide) (hts _ (List.mem_cons_of_mem _ tw_1_49)) (fun _ h9 => h9) rfl (by decide +kernel) rfl rfl (Nat.le_of_ble_eq_true rfl) dX6_restart_39 (fun H locs hP hD hS => ?_)
  have hP : va_P (dC, dI) vwCl (w_Timers h cI cJ (upd (upd (upd (upd (upd (upd (upd (upd σ 0 65535) 1 65535) 2 0) 3 0) 4 0) 5 0) 6 0) 7 0)) _ := hP
  have hD : va_D A (w_Timers h cI cJ (upd (upd (upd (upd (upd (upd (upd (upd σ 0 65535) 1 65535) 2 0) 3 0) 4 0) 5 0) 6 0) 7 0)) := hD
  refine lv_aload_n hx hb dX6_restart_42 rfl (lv_at hl 0 rfl) ?_
  refine lv_iconst (v := 0) hx hb dX6_restart_43 (by decide) ?_
  refine va_put (D := (dC, dI)) (ci := 5) (v := .int 0) (ty := .boolean) (C := RX6) (T := TX6) (N := 9) hx hb hts (fun w h => List.mem_cons_of_mem _ (in_X6 w h)) tyX6 tyX6_ok nmX6 hown hK hP hD hS 0 rfl rfl 8 (by decide) (hts _ (List.mem_cons_of_mem _ tw_1_50)) (fun _ h9 => h9) rfl (by decide +kernel) rfl rfl (Nat.le_of_ble_eq_true rfl) dX6_restart_44 (fun H locs hP hD hS => ?_)
  have hP : va_P (dC, dI) vwCl (w_Timers h cI cJ (upd (upd (upd (upd (upd (upd (upd (upd (upd σ 0 65535) 1 65535) 2 0) 3 0) 4 0) 5 0) 6 0) 7 0) 8 0)) _ := hP
  have hD : va_D A (w_Timers h cI cJ (upd (upd (upd (upd (upd (upd (upd (upd (upd σ 0 65535) 1 65535) 2 0) 3 0) 4 0) 5 0) 6 0) 7 0) 8 0)) := hD
  exact W.vret hx hb hr (fun t ht hW => ⟨⟨upd (upd (upd (upd (upd (upd (upd (upd (upd σ 0 65535) 1 65535) 2 0) 3 0) 4 0) 5 0) 6 0) 7 0) 8 0, rfl, hok, by rw [ht]; exact hP, va_K.moved hW.alike hK, hD⟩, hS.F ht⟩) hS.2.2 dX6_restart_47
def wp_X4_restart (σ : S_Port) (Φ : S_Port → Prop) : Prop := Φ (upd (upd (upd σ.1 0 0) 4 0) 5 0, σ.2.1, σ.2.2)
set_option maxHeartbeats 4000000 in
set_option maxRecDepth 100000 in
theorem c_X4_restart (l : Launch) (dC : Nat → ClassId) (dI : Nat → Nat → Nat) (cI cJ : ClassId) (h : Nat → Nat) (sz : Nat) {σ : S_Port} {Φ : S_Port → Prop} (hok : wp_X4_restart σ Φ) : Met l yX4_restart wsX4_restart ({ frames := 0, cells := 0, slots := 0, locals := 0 }) (va_Pc [.ref (h 6)] (cpre dC dI cI cJ (w_Port h cI cJ σ) sz)) (va_Qv Φ (fun u => cpost dC dI cI cJ (va_A (w_Port h cI cJ σ) sz) (w_Port h cI cJ u)) (va_A (w_Port h cI cJ σ) sz)) 0 0 (va_A (w_Port h cI cJ σ) sz) := by
  refine Met.ofW (cc := cX4_restart) (maxL := 1) (ret := none) (by decide) rfl ?_
  intro p e s m args below meth c s₁ B hml hv
  obtain ⟨rfl, hsz, hP, hK, hD0⟩ := hv
  have hx := B.exec
  have hb := B.bytes
  have hr := B.returns
  have hts := atoms_spec (ws := wsX4_restart) B.pre
  have hown : s.vm.findClass RX4 = some m.cls := findClass_of_methodNamed B.named
  have hlocks := B.notSynchronized
  subst hsz
  have hD := hD0.self (sz := s.heap.size)
  generalize hAe : va_A (w_Port h cI cJ σ) s.heap.size = A at hD ⊢
  have hA : ∀ q : Nat, s.heap.size ≤ q → A q := fun q h => by rw [← hAe]; exact Or.inr h
  clear hD0 hAe
  have hS : va_S A s.heap s.heap [] := va_S.rf
  have hl := lv_entry ([.ref (h 6)]) (n := 1) (Nat.le_of_ble_eq_true rfl)
  rw [lg_entry_eq]
  generalize (lg_sl ([.ref (h 6)]) ++ List.replicate (1 - (lg_sl ([.ref (h 6)])).length) Slot.unset).toArray = ls at hl ⊢
  have hl : lv_has ls 1 [(0, .ref (h 6))] := hl
  unfold wp_X4_restart at hok
  refine lv_aload_n hx hb dX4_restart_0 rfl (lv_at hl 0 rfl) ?_
  refine lv_iconst (v := 0) hx hb dX4_restart_1 (by decide) ?_
  refine va_put (D := (dC, dI)) (ci := 3) (v := .int 0) (ty := .int) (C := RX4) (T := TX4) (N := 6) hx hb hts (fun w h => List.mem_cons_of_mem _ (in_X4 w h)) tyX4 tyX4_ok nmX4 hown hK hP hD hS 0 rfl rfl 0 (by decide) (hts _ (List.mem_cons_of_mem _ tw_1_76)) (fun _ h9 => h9) rfl (by decide +kernel) rfl rfl (Nat.le_of_ble_eq_true rfl) dX4_restart_2 (fun H locs hP hD hS => ?_)
  have hP : va_P (dC, dI) vwCl (w_Port h cI cJ (upd σ.1 0 0, σ.2.1, σ.2.2)) _ := hP
  have hD : va_D A (w_Port h cI cJ (upd σ.1 0 0, σ.2.1, σ.2.2)) := hD
  refine lv_aload_n hx hb dX4_restart_5 rfl (lv_at hl 0 rfl) ?_
  refine lv_iconst (v := 0) hx hb dX4_restart_6 (by decide) ?_
  refine va_put (D := (dC, dI)) (ci := 3) (v := .int 0) (ty := .int) (C := RX4) (T := TX4) (N := 6) hx hb hts (fun w h => List.mem_cons_of_mem _ (in_X4 w h)) tyX4 tyX4_ok nmX4 hown hK hP hD hS 0 rfl rfl 4 (by decide) (hts _ (List.mem_cons_of_mem _ tw_1_82)) (fun _ h9 => h9) rfl (by decide +kernel) rfl rfl (Nat.le_of_ble_eq_true rfl) dX4_restart_7 (fun H locs hP hD hS => ?_)
  have hP : va_P (dC, dI) vwCl (w_Port h cI cJ (upd (upd σ.1 0 0) 4 0, σ.2.1, σ.2.2)) _ := hP
  have hD : va_D A (w_Port h cI cJ (upd (upd σ.1 0 0) 4 0, σ.2.1, σ.2.2)) := hD
  refine lv_aload_n hx hb dX4_restart_10 rfl (lv_at hl 0 rfl) ?_
  refine lv_iconst (v := 0) hx hb dX4_restart_11 (by decide) ?_
  refine va_put (D := (dC, dI)) (ci := 3) (v := .int 0) (ty := .int) (C := RX4) (T := TX4) (N := 6) hx hb hts (fun w h => List.mem_cons_of_mem _ (in_X4 w h)) tyX4 tyX4_ok nmX4 hown hK hP hD hS 0 rfl rfl 5 (by decide) (hts _ (List.mem_cons_of_mem _ tw_1_83)) (fun _ h9 => h9) rfl (by decide +kernel) rfl rfl (Nat.le_of_ble_eq_true rfl) dX4_restart_12 (fun H locs hP hD hS => ?_)
  have hP : va_P (dC, dI) vwCl (w_Port h cI cJ (upd (upd (upd σ.1 0 0) 4 0) 5 0, σ.2.1, σ.2.2)) _ := hP
  have hD : va_D A (w_Port h cI cJ (upd (upd (upd σ.1 0 0) 4 0) 5 0, σ.2.1, σ.2.2)) := hD
  exact W.vret hx hb hr (fun t ht hW => ⟨⟨(upd (upd (upd σ.1 0 0) 4 0) 5 0, σ.2.1, σ.2.2), rfl, hok, by rw [ht]; exact hP, va_K.moved hW.alike hK, hD⟩, hS.F ht⟩) hS.2.2 dX4_restart_15
def wp_X6_peek (σ : S_Timers) (a1 : Int32) (Φ : Int32 → Prop) : Prop := ((a1 = 4 → (Φ ((σ 0) &&& (255 : Int32)))) ∧ (a1 = 5 → (Φ ((σ 0) >>> ((8 : Int32) &&& 31)))) ∧ (a1 = 6 → (Φ ((σ 2) &&& (255 : Int32)))) ∧ (a1 = 7 → (Φ ((σ 2) >>> ((8 : Int32) &&& 31)))) ∧ (a1 = 8 → (Φ ((σ 1) &&& (255 : Int32)))) ∧ (a1 = 9 → (Φ ((σ 1) >>> ((8 : Int32) &&& 31)))) ∧ (a1 = 11 → (Φ (σ 6))) ∧ (a1 = 13 → (((((σ 3) &&& (σ 4)) = 0 → (Φ (σ 3))) ∧ (¬ ((σ 3) &&& (σ 4)) = 0 → (Φ ((σ 3) ||| (128 : Int32))))))) ∧ (a1 = 14 → (Φ ((σ 4) ||| (128 : Int32)))) ∧ ((¬ a1 = 4 ∧ ¬ a1 = 5 ∧ ¬ a1 = 6 ∧ ¬ a1 = 7 ∧ ¬ a1 = 8 ∧ ¬ a1 = 9 ∧ ¬ a1 = 11 ∧ ¬ a1 = 13 ∧ ¬ a1 = 14) → (Φ 0)))
set_option maxHeartbeats 4000000 in
set_option maxRecDepth 100000 in
theorem c_X6_peek (l : Launch) (dC : Nat → ClassId) (dI : Nat → Nat → Nat) (cI cJ : ClassId) (h : Nat → Nat) (sz : Nat) {σ : S_Timers} {a1 : Int32} {Φ : Int32 → Prop} (hok : wp_X6_peek σ a1 Φ) : Met l yX6_peek wsX6_peek ({ frames := 0, cells := 0, slots := 0, locals := 0 }) (va_Pc [.ref (h 5), .int a1] (cpre dC dI cI cJ (w_Timers h cI cJ σ) sz)) (va_Qi (fun (r : Int32) (_ : Unit) => Φ r) (fun _ => cpost dC dI cI cJ (va_A (w_Timers h cI cJ σ) sz) (w_Timers h cI cJ σ)) (va_A (w_Timers h cI cJ σ) sz)) 0 0 (va_A (w_Timers h cI cJ σ) sz) := by
  refine Met.ofW (cc := cX6_peek) (maxL := 2) (ret := (some .int)) (by decide) rfl ?_
  intro p e s m args below meth c s₁ B hml hv
  obtain ⟨rfl, hsz, hP, hK, hD0⟩ := hv
  have hx := B.exec
  have hb := B.bytes
  have hr := B.returns
  have hts := atoms_spec (ws := wsX6_peek) B.pre
  have hown : s.vm.findClass RX6 = some m.cls := findClass_of_methodNamed B.named
  have hlocks := B.notSynchronized
  subst hsz
  have hD := hD0.self (sz := s.heap.size)
  generalize hAe : va_A (w_Timers h cI cJ σ) s.heap.size = A at hD ⊢
  have hA : ∀ q : Nat, s.heap.size ≤ q → A q := fun q h => by rw [← hAe]; exact Or.inr h
  clear hD0 hAe
  have hS : va_S A s.heap s.heap [] := va_S.rf
  have hl := lv_entry ([.ref (h 5), .int a1]) (n := 2) (Nat.le_of_ble_eq_true rfl)
  rw [lg_entry_eq]
  generalize (lg_sl ([.ref (h 5), .int a1]) ++ List.replicate (2 - (lg_sl ([.ref (h 5), .int a1])).length) Slot.unset).toArray = ls at hl ⊢
  have hl : lv_has ls 2 [(0, .ref (h 5)), (1, .int a1)] := hl
  unfold wp_X6_peek at hok
  refine lv_iload_n hx hb dX6_peek_0 rfl (lv_at hl 1 rfl) ?_
  by_cases c1 : a1 = 4
  · have hok := hok.1 c1
    refine lv_tableIn (tgt := 60) (off := 59) hx hb dX6_peek_1 (by rw [c1]; decide) (by rw [c1]; decide) (by rw [c1]; decide) (by decide) ?_
    refine lv_aload_n hx hb dX6_peek_60 rfl (lv_at hl 0 rfl) ?_
    refine va_get (D := (dC, dI)) (ci := 5) (v := .int (σ 0)) (C := RX6) (T := TX6) (N := 9) hx hb hts (fun w h => List.mem_cons_of_mem _ (in_X6 w h)) hown hK hP 0 rfl rfl 0 (by decide) (hts _ (List.mem_cons_of_mem _ tw_1_37)) (fun _ h9 => h9) rfl dX6_peek_61 ?_
    refine lv_sipush (v := 255) hx hb dX6_peek_64 (by decide) ?_
    refine lv_iand hx hb dX6_peek_67 ?_
    refine lv_goto (tgt := 172) hx hb dX6_peek_68 (by decide) ?_
    exact W.iret (v := (σ 0) &&& (255 : Int32)) hx hb hr (fun t ht hW => ⟨⟨(σ 0) &&& (255 : Int32), (), rfl, hok, by rw [ht]; exact hP, va_K.moved hW.alike hK, hD⟩, hS.F ht⟩) hS.2.2 dX6_peek_172
  have hok := hok.2
  by_cases c2 : a1 = 5
  · have hok := hok.1 c2
    refine lv_tableIn (tgt := 71) (off := 70) hx hb dX6_peek_1 (by rw [c2]; decide) (by rw [c2]; decide) (by rw [c2]; decide) (by decide) ?_
    refine lv_aload_n hx hb dX6_peek_71 rfl (lv_at hl 0 rfl) ?_
    refine va_get (D := (dC, dI)) (ci := 5) (v := .int (σ 0)) (C := RX6) (T := TX6) (N := 9) hx hb hts (fun w h => List.mem_cons_of_mem _ (in_X6 w h)) hown hK hP 0 rfl rfl 0 (by decide) (hts _ (List.mem_cons_of_mem _ tw_1_37)) (fun _ h9 => h9) rfl dX6_peek_72 ?_
    refine lv_bipush (v := 8) hx hb dX6_peek_75 (by decide) ?_
    refine lv_ishr hx hb dX6_peek_77 ?_
    refine lv_goto (tgt := 172) hx hb dX6_peek_78 (by decide) ?_
    exact W.iret (v := (σ 0) >>> ((8 : Int32) &&& 31)) hx hb hr (fun t ht hW => ⟨⟨(σ 0) >>> ((8 : Int32) &&& 31), (), rfl, hok, by rw [ht]; exact hP, va_K.moved hW.alike hK, hD⟩, hS.F ht⟩) hS.2.2 dX6_peek_172
  have hok := hok.2
  by_cases c3 : a1 = 6
  · have hok := hok.1 c3
    refine lv_tableIn (tgt := 81) (off := 80) hx hb dX6_peek_1 (by rw [c3]; decide) (by rw [c3]; decide) (by rw [c3]; decide) (by decide) ?_
    refine lv_aload_n hx hb dX6_peek_81 rfl (lv_at hl 0 rfl) ?_
    refine va_get (D := (dC, dI)) (ci := 5) (v := .int (σ 2)) (C := RX6) (T := TX6) (N := 9) hx hb hts (fun w h => List.mem_cons_of_mem _ (in_X6 w h)) hown hK hP 0 rfl rfl 2 (by decide) (hts _ (List.mem_cons_of_mem _ tw_1_41)) (fun _ h9 => h9) rfl dX6_peek_82 ?_
    refine lv_sipush (v := 255) hx hb dX6_peek_85 (by decide) ?_
    refine lv_iand hx hb dX6_peek_88 ?_
    refine lv_goto (tgt := 172) hx hb dX6_peek_89 (by decide) ?_
    exact W.iret (v := (σ 2) &&& (255 : Int32)) hx hb hr (fun t ht hW => ⟨⟨(σ 2) &&& (255 : Int32), (), rfl, hok, by rw [ht]; exact hP, va_K.moved hW.alike hK, hD⟩, hS.F ht⟩) hS.2.2 dX6_peek_172
  have hok := hok.2
  by_cases c4 : a1 = 7
  · have hok := hok.1 c4
    refine lv_tableIn (tgt := 92) (off := 91) hx hb dX6_peek_1 (by rw [c4]; decide) (by rw [c4]; decide) (by rw [c4]; decide) (by decide) ?_
    refine lv_aload_n hx hb dX6_peek_92 rfl (lv_at hl 0 rfl) ?_
    refine va_get (D := (dC, dI)) (ci := 5) (v := .int (σ 2)) (C := RX6) (T := TX6) (N := 9) hx hb hts (fun w h => List.mem_cons_of_mem _ (in_X6 w h)) hown hK hP 0 rfl rfl 2 (by decide) (hts _ (List.mem_cons_of_mem _ tw_1_41)) (fun _ h9 => h9) rfl dX6_peek_93 ?_
    refine lv_bipush (v := 8) hx hb dX6_peek_96 (by decide) ?_
    refine lv_ishr hx hb dX6_peek_98 ?_
    refine lv_goto (tgt := 172) hx hb dX6_peek_99 (by decide) ?_
    exact W.iret (v := (σ 2) >>> ((8 : Int32) &&& 31)) hx hb hr (fun t ht hW => ⟨⟨(σ 2) >>> ((8 : Int32) &&& 31), (), rfl, hok, by rw [ht]; exact hP, va_K.moved hW.alike hK, hD⟩, hS.F ht⟩) hS.2.2 dX6_peek_172
  have hok := hok.2
  by_cases c5 : a1 = 8
  · have hok := hok.1 c5
    refine lv_tableIn (tgt := 102) (off := 101) hx hb dX6_peek_1 (by rw [c5]; decide) (by rw [c5]; decide) (by rw [c5]; decide) (by decide) ?_
    refine lv_aload_n hx hb dX6_peek_102 rfl (lv_at hl 0 rfl) ?_
    refine va_get (D := (dC, dI)) (ci := 5) (v := .int (σ 1)) (C := RX6) (T := TX6) (N := 9) hx hb hts (fun w h => List.mem_cons_of_mem _ (in_X6 w h)) hown hK hP 0 rfl rfl 1 (by decide) (hts _ (List.mem_cons_of_mem _ tw_1_39)) (fun _ h9 => h9) rfl dX6_peek_103 ?_
    refine lv_sipush (v := 255) hx hb dX6_peek_106 (by decide) ?_
    refine lv_iand hx hb dX6_peek_109 ?_
    refine lv_goto (tgt := 172) hx hb dX6_peek_110 (by decide) ?_
    exact W.iret (v := (σ 1) &&& (255 : Int32)) hx hb hr (fun t ht hW => ⟨⟨(σ 1) &&& (255 : Int32), (), rfl, hok, by rw [ht]; exact hP, va_K.moved hW.alike hK, hD⟩, hS.F ht⟩) hS.2.2 dX6_peek_172
  have hok := hok.2
  by_cases c6 : a1 = 9
  · have hok := hok.1 c6
    refine lv_tableIn (tgt := 113) (off := 112) hx hb dX6_peek_1 (by rw [c6]; decide) (by rw [c6]; decide) (by rw [c6]; decide) (by decide) ?_
    refine lv_aload_n hx hb dX6_peek_113 rfl (lv_at hl 0 rfl) ?_
    refine va_get (D := (dC, dI)) (ci := 5) (v := .int (σ 1)) (C := RX6) (T := TX6) (N := 9) hx hb hts (fun w h => List.mem_cons_of_mem _ (in_X6 w h)) hown hK hP 0 rfl rfl 1 (by decide) (hts _ (List.mem_cons_of_mem _ tw_1_39)) (fun _ h9 => h9) rfl dX6_peek_114 ?_
    refine lv_bipush (v := 8) hx hb dX6_peek_117 (by decide) ?_
    refine lv_ishr hx hb dX6_peek_119 ?_
    refine lv_goto (tgt := 172) hx hb dX6_peek_120 (by decide) ?_
    exact W.iret (v := (σ 1) >>> ((8 : Int32) &&& 31)) hx hb hr (fun t ht hW => ⟨⟨(σ 1) >>> ((8 : Int32) &&& 31), (), rfl, hok, by rw [ht]; exact hP, va_K.moved hW.alike hK, hD⟩, hS.F ht⟩) hS.2.2 dX6_peek_172
  have hok := hok.2
  by_cases c7 : a1 = 11
  · have hok := hok.1 c7
    refine lv_tableIn (tgt := 123) (off := 122) hx hb dX6_peek_1 (by rw [c7]; decide) (by rw [c7]; decide) (by rw [c7]; decide) (by decide) ?_
    refine lv_aload_n hx hb dX6_peek_123 rfl (lv_at hl 0 rfl) ?_
    refine va_get (D := (dC, dI)) (ci := 5) (v := .int (σ 6)) (C := RX6) (T := TX6) (N := 9) hx hb hts (fun w h => List.mem_cons_of_mem _ (in_X6 w h)) hown hK hP 0 rfl rfl 6 (by decide) (hts _ (List.mem_cons_of_mem _ tw_1_48)) (fun _ h9 => h9) rfl dX6_peek_124 ?_
    refine lv_goto (tgt := 172) hx hb dX6_peek_127 (by decide) ?_
    exact W.iret (v := σ 6) hx hb hr (fun t ht hW => ⟨⟨σ 6, (), rfl, hok, by rw [ht]; exact hP, va_K.moved hW.alike hK, hD⟩, hS.F ht⟩) hS.2.2 dX6_peek_172
  have hok := hok.2
  by_cases c8 : a1 = 13
  · have hok := hok.1 c8
    refine lv_tableIn (tgt := 130) (off := 129) hx hb dX6_peek_1 (by rw [c8]; decide) (by rw [c8]; decide) (by rw [c8]; decide) (by decide) ?_
    refine lv_aload_n hx hb dX6_peek_130 rfl (lv_at hl 0 rfl) ?_
    refine va_get (D := (dC, dI)) (ci := 5) (v := .int (σ 3)) (C := RX6) (T := TX6) (N := 9) hx hb hts (fun w h => List.mem_cons_of_mem _ (in_X6 w h)) hown hK hP 0 rfl rfl 3 (by decide) (hts _ (List.mem_cons_of_mem _ tw_1_43)) (fun _ h9 => h9) rfl dX6_peek_131 ?_
    refine lv_aload_n hx hb dX6_peek_134 rfl (lv_at hl 0 rfl) ?_
    refine va_get (D := (dC, dI)) (ci := 5) (v := .int (σ 4)) (C := RX6) (T := TX6) (N := 9) hx hb hts (fun w h => List.mem_cons_of_mem _ (in_X6 w h)) hown hK hP 0 rfl rfl 4 (by decide) (hts _ (List.mem_cons_of_mem _ tw_1_45)) (fun _ h9 => h9) rfl dX6_peek_135 ?_
    refine lv_iand hx hb dX6_peek_138 ?_
    refine lv_if_eq (tgt := 153) hx hb dX6_peek_139 (by decide) (fun c9 => ?_) (fun c9 => ?_)
    · have hok := hok.1 c9
      refine lv_aload_n hx hb dX6_peek_153 rfl (lv_at hl 0 rfl) ?_
      refine va_get (D := (dC, dI)) (ci := 5) (v := .int (σ 3)) (C := RX6) (T := TX6) (N := 9) hx hb hts (fun w h => List.mem_cons_of_mem _ (in_X6 w h)) hown hK hP 0 rfl rfl 3 (by decide) (hts _ (List.mem_cons_of_mem _ tw_1_43)) (fun _ h9 => h9) rfl dX6_peek_154 ?_
      refine lv_goto (tgt := 172) hx hb dX6_peek_157 (by decide) ?_
      exact W.iret (v := σ 3) hx hb hr (fun t ht hW => ⟨⟨σ 3, (), rfl, hok, by rw [ht]; exact hP, va_K.moved hW.alike hK, hD⟩, hS.F ht⟩) hS.2.2 dX6_peek_172
    · have hok := hok.2 c9
      refine lv_aload_n hx hb dX6_peek_142 rfl (lv_at hl 0 rfl) ?_
      refine va_get (D := (dC, dI)) (ci := 5) (v := .int (σ 3)) (C := RX6) (T := TX6) (N := 9) hx hb hts (fun w h => List.mem_cons_of_mem _ (in_X6 w h)) hown hK hP 0 rfl rfl 3 (by decide) (hts _ (List.mem_cons_of_mem _ tw_1_43)) (fun _ h9 => h9) rfl dX6_peek_143 ?_
      refine lv_sipush (v := 128) hx hb dX6_peek_146 (by decide) ?_
      refine lv_ior hx hb dX6_peek_149 ?_
      refine lv_goto (tgt := 172) hx hb dX6_peek_150 (by decide) ?_
      exact W.iret (v := (σ 3) ||| (128 : Int32)) hx hb hr (fun t ht hW => ⟨⟨(σ 3) ||| (128 : Int32), (), rfl, hok, by rw [ht]; exact hP, va_K.moved hW.alike hK, hD⟩, hS.F ht⟩) hS.2.2 dX6_peek_172
  have hok := hok.2
  by_cases c10 : a1 = 14
  · have hok := hok.1 c10
    refine lv_tableIn (tgt := 160) (off := 159) hx hb dX6_peek_1 (by rw [c10]; decide) (by rw [c10]; decide) (by rw [c10]; decide) (by decide) ?_
    refine lv_aload_n hx hb dX6_peek_160 rfl (lv_at hl 0 rfl) ?_
    refine va_get (D := (dC, dI)) (ci := 5) (v := .int (σ 4)) (C := RX6) (T := TX6) (N := 9) hx hb hts (fun w h => List.mem_cons_of_mem _ (in_X6 w h)) hown hK hP 0 rfl rfl 4 (by decide) (hts _ (List.mem_cons_of_mem _ tw_1_45)) (fun _ h9 => h9) rfl dX6_peek_161 ?_
    refine lv_sipush (v := 128) hx hb dX6_peek_164 (by decide) ?_
    refine lv_ior hx hb dX6_peek_167 ?_
    refine lv_goto (tgt := 172) hx hb dX6_peek_168 (by decide) ?_
    exact W.iret (v := (σ 4) ||| (128 : Int32)) hx hb hr (fun t ht hW => ⟨⟨(σ 4) ||| (128 : Int32), (), rfl, hok, by rw [ht]; exact hP, va_K.moved hW.alike hK, hD⟩, hS.F ht⟩) hS.2.2 dX6_peek_172
  have hok := hok.2
  have hok := hok ⟨c1, c2, c3, c4, c5, c6, c7, c8, c10⟩
  have kz10 : ∀ k ∈ ([4, 5, 6, 7, 8, 9, 11, 13, 14] : List Int), (a1).toInt ≠ k := List.forall_mem_cons.mpr ⟨tb_ne c1 rfl, List.forall_mem_cons.mpr ⟨tb_ne c2 rfl, List.forall_mem_cons.mpr ⟨tb_ne c3 rfl, List.forall_mem_cons.mpr ⟨tb_ne c4 rfl, List.forall_mem_cons.mpr ⟨tb_ne c5 rfl, List.forall_mem_cons.mpr ⟨tb_ne c6 rfl, List.forall_mem_cons.mpr ⟨tb_ne c7 rfl, List.forall_mem_cons.mpr ⟨tb_ne c8 rfl, List.forall_mem_cons.mpr ⟨tb_ne c10 rfl, fun k h => absurd h List.not_mem_nil⟩⟩⟩⟩⟩⟩⟩⟩⟩
  refine tb_def (tgt := 171) (keys := [4, 5, 6, 7, 8, 9, 11, 13, 14]) hx hb dX6_peek_1 kz10 (by decide) (by decide) ?_
  refine lv_iconst (v := 0) hx hb dX6_peek_171 (by decide) ?_
  exact W.iret (v := 0) hx hb hr (fun t ht hW => ⟨⟨0, (), rfl, hok, by rw [ht]; exact hP, va_K.moved hW.alike hK, hD⟩, hS.F ht⟩) hS.2.2 dX6_peek_172
def wp_X6_asks (σ : S_Timers) (Φ : Int32 → Prop) : Prop := wp_X6_peek σ 13 (fun r1 => (((r1 &&& (128 : Int32)) = 0 → (Φ 0)) ∧ (¬ (r1 &&& (128 : Int32)) = 0 → (Φ 1))))
set_option maxHeartbeats 4000000 in
set_option maxRecDepth 100000 in
theorem c_X6_asks (l : Launch) (dC : Nat → ClassId) (dI : Nat → Nat → Nat) (cI cJ : ClassId) (h : Nat → Nat) (sz : Nat) {σ : S_Timers} {Φ : Int32 → Prop} (hok : wp_X6_asks σ Φ) : Met l yX6_asks wsX6_asks ({ frames := 1, cells := 0, slots := 0, locals := 21 }) (va_Pc [.ref (h 5)] (cpre dC dI cI cJ (w_Timers h cI cJ σ) sz)) (va_Qi (fun (r : Int32) (_ : Unit) => Φ r) (fun _ => cpost dC dI cI cJ (va_A (w_Timers h cI cJ σ) sz) (w_Timers h cI cJ σ)) (va_A (w_Timers h cI cJ σ) sz)) 0 0 (va_A (w_Timers h cI cJ σ) sz) := by
  refine Met.ofW (cc := cX6_asks) (maxL := 1) (ret := (some .boolean)) (by decide) rfl ?_
  intro p e s m args below meth c s₁ B hml hv
  obtain ⟨rfl, hsz, hP, hK, hD0⟩ := hv
  have hx := B.exec
  have hb := B.bytes
  have hr := B.returns
  have hts := atoms_spec (ws := wsX6_asks) B.pre
  have hown : s.vm.findClass RX6 = some m.cls := findClass_of_methodNamed B.named
  have hlocks := B.notSynchronized
  subst hsz
  have hD := hD0.self (sz := s.heap.size)
  generalize hAe : va_A (w_Timers h cI cJ σ) s.heap.size = A at hD ⊢
  have hA : ∀ q : Nat, s.heap.size ≤ q → A q := fun q h => by rw [← hAe]; exact Or.inr h
  clear hD0 hAe
  have hS : va_S A s.heap s.heap [] := va_S.rf
  have hl := lv_entry ([.ref (h 5)]) (n := 1) (Nat.le_of_ble_eq_true rfl)
  rw [lg_entry_eq]
  generalize (lg_sl ([.ref (h 5)]) ++ List.replicate (1 - (lg_sl ([.ref (h 5)])).length) Slot.unset).toArray = ls at hl ⊢
  have hl : lv_has ls 1 [(0, .ref (h 5))] := hl
  unfold wp_X6_asks at hok
  refine lv_aload_n hx hb dX6_asks_0 rfl (lv_at hl 0 rfl) ?_
  refine lv_bipush (v := 13) hx hb dX6_asks_1 (by decide) ?_
  have hPc := hP
  have hDc := hD
  have hFc := va_free (wc := w_Timers h cI cJ σ) hD hS hA [0] rfl
  refine va_calli (va_runV (As := [.int 13]) (rest := []) ⟨hx, hb, hml, hown, hts⟩ (c_X6_peek l dC dI cI cJ h _ hok) (cwV 1 hts (tb_gV tw_2_77 tw_2_39 tw_2_40 tw_1_3 tw_2_41) rfl rfl rfl (by decide +kernel) ⟨Nat.le_of_ble_eq_true rfl, Nat.le_of_ble_eq_true rfl⟩) (cpre_V (ci := 5) (q0 := 0) hK hPc hDc rfl rfl) rfl rfl hl.1 rfl (lv_room (Nat.le_of_ble_eq_true rfl)) dX6_asks_3 ⟨Nat.le_of_ble_eq_true rfl, Nat.le_of_ble_eq_true rfl⟩) hS (fun q _ h => hFc q h) hFc (fun r1 _ t H1 locs ht hvm hok hB hz1 hk1 hS => ?_)
  obtain ⟨hP, hD⟩ := cjoin_w ht hB hFc
  refine lv_sipush (v := 128) hx hb dX6_asks_6 (by decide) ?_
  refine lv_iand hx hb dX6_asks_9 ?_
  refine lv_if_eq (tgt := 17) hx hb dX6_asks_10 (by decide) (fun c2 => ?_) (fun c2 => ?_)
  · have hok := hok.1 c2
    refine lv_iconst (v := 0) hx hb dX6_asks_17 (by decide) ?_
    exact W.zret (v := 0) hx hb hr rfl (fun t ht hW => ⟨⟨0, (), rfl, hok, by rw [ht]; exact hP, va_K.moved hW.alike hK, hD⟩, hS.F ht⟩) hS.2.2 dX6_asks_18
  · have hok := hok.2 c2
    refine lv_iconst (v := 1) hx hb dX6_asks_13 (by decide) ?_
    refine lv_goto (tgt := 18) hx hb dX6_asks_14 (by decide) ?_
    exact W.zret (v := 1) hx hb hr rfl (fun t ht hW => ⟨⟨1, (), rfl, hok, by rw [ht]; exact hP, va_K.moved hW.alike hK, hD⟩, hS.F ht⟩) hS.2.2 dX6_asks_18
def wp_X4_peek (σ : S_Port) (a1 : Int32) (Φ : Int32 → Prop) : Prop := ((a1 = 0 → ((((σ.1 0) ≤ 0 → (Φ 0)) ∧ (¬ (σ.1 0) ≤ 0 → ((vp_in (σ.1 4) 64 ∧ (Φ (σ.2.1 (σ.1 4).toNatClampNeg)))))))) ∧ (a1 = 1 → ((((σ.1 0) = 0 → (Φ 16)) ∧ (¬ (σ.1 0) = 0 → (((((σ.1 5) &&& (3 : Int32)) = (1 : Int32) → (Φ 152)) ∧ (¬ ((σ.1 5) &&& (3 : Int32)) = (1 : Int32) → (Φ 24)))))))) ∧ ((¬ a1 = 0 ∧ ¬ a1 = 1) → (Φ (σ.1 5))))
set_option maxHeartbeats 4000000 in
set_option maxRecDepth 100000 in
theorem c_X4_peek (l : Launch) (dC : Nat → ClassId) (dI : Nat → Nat → Nat) (cI cJ : ClassId) (h : Nat → Nat) (sz : Nat) {σ : S_Port} {a1 : Int32} {Φ : Int32 → Prop} (hok : wp_X4_peek σ a1 Φ) : Met l yX4_peek wsX4_peek ({ frames := 0, cells := 0, slots := 0, locals := 0 }) (va_Pc [.ref (h 6), .int a1] (cpre dC dI cI cJ (w_Port h cI cJ σ) sz)) (va_Qi (fun (r : Int32) (_ : Unit) => Φ r) (fun _ => cpost dC dI cI cJ (va_A (w_Port h cI cJ σ) sz) (w_Port h cI cJ σ)) (va_A (w_Port h cI cJ σ) sz)) 0 0 (va_A (w_Port h cI cJ σ) sz) := by
  refine Met.ofW (cc := cX4_peek) (maxL := 2) (ret := (some .int)) (by decide) rfl ?_
  intro p e s m args below meth c s₁ B hml hv
  obtain ⟨rfl, hsz, hP, hK, hD0⟩ := hv
  have hx := B.exec
  have hb := B.bytes
  have hr := B.returns
  have hts := atoms_spec (ws := wsX4_peek) B.pre
  have hown : s.vm.findClass RX4 = some m.cls := findClass_of_methodNamed B.named
  have hlocks := B.notSynchronized
  subst hsz
  have hD := hD0.self (sz := s.heap.size)
  generalize hAe : va_A (w_Port h cI cJ σ) s.heap.size = A at hD ⊢
  have hA : ∀ q : Nat, s.heap.size ≤ q → A q := fun q h => by rw [← hAe]; exact Or.inr h
  clear hD0 hAe
  have hS : va_S A s.heap s.heap [] := va_S.rf
  have hl := lv_entry ([.ref (h 6), .int a1]) (n := 2) (Nat.le_of_ble_eq_true rfl)
  rw [lg_entry_eq]
  generalize (lg_sl ([.ref (h 6), .int a1]) ++ List.replicate (2 - (lg_sl ([.ref (h 6), .int a1])).length) Slot.unset).toArray = ls at hl ⊢
  have hl : lv_has ls 2 [(0, .ref (h 6)), (1, .int a1)] := hl
  unfold wp_X4_peek at hok
  refine lv_iload_n hx hb dX4_peek_0 rfl (lv_at hl 1 rfl) ?_
  by_cases c1 : a1 = 0
  · have hok := hok.1 c1
    refine lv_lookup (tgt := 28) (off := 27) hx hb dX4_peek_1 (by decide) (by rw [c1]; decide) (by decide) ?_
    refine lv_aload_n hx hb dX4_peek_28 rfl (lv_at hl 0 rfl) ?_
    refine va_get (D := (dC, dI)) (ci := 3) (v := .int (σ.1 0)) (C := RX4) (T := TX4) (N := 6) hx hb hts (fun w h => List.mem_cons_of_mem _ (in_X4 w h)) hown hK hP 0 rfl rfl 0 (by decide) (hts _ (List.mem_cons_of_mem _ tw_1_76)) (fun _ h9 => h9) rfl dX4_peek_29 ?_
    refine lv_if_le (tgt := 47) hx hb dX4_peek_32 (by decide) (fun c2 => ?_) (fun c2 => ?_)
    · have hok := hok.1 c2
      refine lv_iconst (v := 0) hx hb dX4_peek_47 (by decide) ?_
      refine lv_goto (tgt := 88) hx hb dX4_peek_48 (by decide) ?_
      exact W.iret (v := 0) hx hb hr (fun t ht hW => ⟨⟨0, (), rfl, hok, by rw [ht]; exact hP, va_K.moved hW.alike hK, hD⟩, hS.F ht⟩) hS.2.2 dX4_peek_88
    · have hok := hok.2 c2
      refine lv_aload_n hx hb dX4_peek_35 rfl (lv_at hl 0 rfl) ?_
      refine va_get (D := (dC, dI)) (ci := 3) (v := .ref (h 7)) (C := RX4) (T := TX4) (N := 6) hx hb hts (fun w h => List.mem_cons_of_mem _ (in_X4 w h)) hown hK hP 0 rfl rfl 2 (by decide) (hts _ (List.mem_cons_of_mem _ tw_1_80)) (fun _ h9 => h9) rfl dX4_peek_36 ?_
      refine lv_aload_n hx hb dX4_peek_39 rfl (lv_at hl 0 rfl) ?_
      refine va_get (D := (dC, dI)) (ci := 3) (v := .int (σ.1 4)) (C := RX4) (T := TX4) (N := 6) hx hb hts (fun w h => List.mem_cons_of_mem _ (in_X4 w h)) hown hK hP 0 rfl rfl 4 (by decide) (hts _ (List.mem_cons_of_mem _ tw_1_82)) (fun _ h9 => h9) rfl dX4_peek_40 ?_
      refine va_iald hx hb hK hP 1 0 rfl rfl hok.1 dX4_peek_43 ?_
      have hok := hok.2
      refine lv_goto (tgt := 88) hx hb dX4_peek_44 (by decide) ?_
      exact W.iret (v := σ.2.1 (σ.1 4).toNatClampNeg) hx hb hr (fun t ht hW => ⟨⟨σ.2.1 (σ.1 4).toNatClampNeg, (), rfl, hok, by rw [ht]; exact hP, va_K.moved hW.alike hK, hD⟩, hS.F ht⟩) hS.2.2 dX4_peek_88
  have hok := hok.2
  by_cases c3 : a1 = 1
  · have hok := hok.1 c3
    refine lv_lookup (tgt := 51) (off := 50) hx hb dX4_peek_1 (by decide) (by rw [c3]; decide) (by decide) ?_
    refine lv_aload_n hx hb dX4_peek_51 rfl (lv_at hl 0 rfl) ?_
    refine va_get (D := (dC, dI)) (ci := 3) (v := .int (σ.1 0)) (C := RX4) (T := TX4) (N := 6) hx hb hts (fun w h => List.mem_cons_of_mem _ (in_X4 w h)) hown hK hP 0 rfl rfl 0 (by decide) (hts _ (List.mem_cons_of_mem _ tw_1_76)) (fun _ h9 => h9) rfl dX4_peek_52 ?_
    refine lv_if_ne (tgt := 63) hx hb dX4_peek_55 (by decide) (fun c4 => ?_) (fun c4 => ?_)
    · have hok := hok.2 c4
      refine lv_aload_n hx hb dX4_peek_63 rfl (lv_at hl 0 rfl) ?_
      refine va_get (D := (dC, dI)) (ci := 3) (v := .int (σ.1 5)) (C := RX4) (T := TX4) (N := 6) hx hb hts (fun w h => List.mem_cons_of_mem _ (in_X4 w h)) hown hK hP 0 rfl rfl 5 (by decide) (hts _ (List.mem_cons_of_mem _ tw_1_83)) (fun _ h9 => h9) rfl dX4_peek_64 ?_
      refine lv_iconst (v := 3) hx hb dX4_peek_67 (by decide) ?_
      refine lv_iand hx hb dX4_peek_68 ?_
      refine lv_iconst (v := 1) hx hb dX4_peek_69 (by decide) ?_
      refine lv_icmp_ne (tgt := 79) hx hb dX4_peek_70 (by decide) (fun c5 => ?_) (fun c5 => ?_)
      · have hok := hok.2 c5
        refine lv_bipush (v := 24) hx hb dX4_peek_79 (by decide) ?_
        refine lv_goto (tgt := 88) hx hb dX4_peek_81 (by decide) ?_
        exact W.iret (v := 24) hx hb hr (fun t ht hW => ⟨⟨24, (), rfl, hok, by rw [ht]; exact hP, va_K.moved hW.alike hK, hD⟩, hS.F ht⟩) hS.2.2 dX4_peek_88
      · have hok := hok.1 c5
        refine lv_sipush (v := 152) hx hb dX4_peek_73 (by decide) ?_
        refine lv_goto (tgt := 88) hx hb dX4_peek_76 (by decide) ?_
        exact W.iret (v := 152) hx hb hr (fun t ht hW => ⟨⟨152, (), rfl, hok, by rw [ht]; exact hP, va_K.moved hW.alike hK, hD⟩, hS.F ht⟩) hS.2.2 dX4_peek_88
    · have hok := hok.1 c4
      refine lv_bipush (v := 16) hx hb dX4_peek_58 (by decide) ?_
      refine lv_goto (tgt := 88) hx hb dX4_peek_60 (by decide) ?_
      exact W.iret (v := 16) hx hb hr (fun t ht hW => ⟨⟨16, (), rfl, hok, by rw [ht]; exact hP, va_K.moved hW.alike hK, hD⟩, hS.F ht⟩) hS.2.2 dX4_peek_88
  have hok := hok.2
  have hok := hok ⟨c1, c3⟩
  have kz5 : ∀ k ∈ ([0, 1] : List Int), (a1).toInt ≠ k := List.forall_mem_cons.mpr ⟨tb_ne c1 rfl, List.forall_mem_cons.mpr ⟨tb_ne c3 rfl, fun k h => absurd h List.not_mem_nil⟩⟩
  refine lv_lookup (tgt := 84) (off := 83) hx hb dX4_peek_1 (by decide) (lk_def kz5 (by decide)) (by decide) ?_
  refine lv_aload_n hx hb dX4_peek_84 rfl (lv_at hl 0 rfl) ?_
  refine va_get (D := (dC, dI)) (ci := 3) (v := .int (σ.1 5)) (C := RX4) (T := TX4) (N := 6) hx hb hts (fun w h => List.mem_cons_of_mem _ (in_X4 w h)) hown hK hP 0 rfl rfl 5 (by decide) (hts _ (List.mem_cons_of_mem _ tw_1_83)) (fun _ h9 => h9) rfl dX4_peek_85 ?_
  exact W.iret (v := σ.1 5) hx hb hr (fun t ht hW => ⟨⟨σ.1 5, (), rfl, hok, by rw [ht]; exact hP, va_K.moved hW.alike hK, hD⟩, hS.F ht⟩) hS.2.2 dX4_peek_88
def wp_X4_asks (σ : S_Port) (Φ : Int32 → Prop) : Prop := wp_X4_peek σ 1 (fun r1 => (((r1 &&& (128 : Int32)) = 0 → (Φ 0)) ∧ (¬ (r1 &&& (128 : Int32)) = 0 → (Φ 1))))
set_option maxHeartbeats 4000000 in
set_option maxRecDepth 100000 in
theorem c_X4_asks (l : Launch) (dC : Nat → ClassId) (dI : Nat → Nat → Nat) (cI cJ : ClassId) (h : Nat → Nat) (sz : Nat) {σ : S_Port} {Φ : Int32 → Prop} (hok : wp_X4_asks σ Φ) : Met l yX4_asks wsX4_asks ({ frames := 1, cells := 0, slots := 0, locals := 21 }) (va_Pc [.ref (h 6)] (cpre dC dI cI cJ (w_Port h cI cJ σ) sz)) (va_Qi (fun (r : Int32) (_ : Unit) => Φ r) (fun _ => cpost dC dI cI cJ (va_A (w_Port h cI cJ σ) sz) (w_Port h cI cJ σ)) (va_A (w_Port h cI cJ σ) sz)) 0 0 (va_A (w_Port h cI cJ σ) sz) := by
  refine Met.ofW (cc := cX4_asks) (maxL := 1) (ret := (some .boolean)) (by decide) rfl ?_
  intro p e s m args below meth c s₁ B hml hv
  obtain ⟨rfl, hsz, hP, hK, hD0⟩ := hv
  have hx := B.exec
  have hb := B.bytes
  have hr := B.returns
  have hts := atoms_spec (ws := wsX4_asks) B.pre
  have hown : s.vm.findClass RX4 = some m.cls := findClass_of_methodNamed B.named
  have hlocks := B.notSynchronized
  subst hsz
  have hD := hD0.self (sz := s.heap.size)
  generalize hAe : va_A (w_Port h cI cJ σ) s.heap.size = A at hD ⊢
  have hA : ∀ q : Nat, s.heap.size ≤ q → A q := fun q h => by rw [← hAe]; exact Or.inr h
  clear hD0 hAe
  have hS : va_S A s.heap s.heap [] := va_S.rf
  have hl := lv_entry ([.ref (h 6)]) (n := 1) (Nat.le_of_ble_eq_true rfl)
  rw [lg_entry_eq]
  generalize (lg_sl ([.ref (h 6)]) ++ List.replicate (1 - (lg_sl ([.ref (h 6)])).length) Slot.unset).toArray = ls at hl ⊢
  have hl : lv_has ls 1 [(0, .ref (h 6))] := hl
  unfold wp_X4_asks at hok
  refine lv_aload_n hx hb dX4_asks_0 rfl (lv_at hl 0 rfl) ?_
  refine lv_iconst (v := 1) hx hb dX4_asks_1 (by decide) ?_
  have hPc := hP
  have hDc := hD
  have hFc := va_free (wc := w_Port h cI cJ σ) hD hS hA [0, 1, 2] rfl
  refine va_calli (va_runV (As := [.int 1]) (rest := []) ⟨hx, hb, hml, hown, hts⟩ (c_X4_peek l dC dI cI cJ h _ hok) (cwV 1 hts (tb_gV tw_2_82 tw_2_44 tw_2_45 tw_1_4 tw_2_46) rfl rfl rfl (by decide +kernel) ⟨Nat.le_of_ble_eq_true rfl, Nat.le_of_ble_eq_true rfl⟩) (cpre_V (ci := 3) (q0 := 0) hK hPc hDc rfl rfl) rfl rfl hl.1 rfl (lv_room (Nat.le_of_ble_eq_true rfl)) dX4_asks_2 ⟨Nat.le_of_ble_eq_true rfl, Nat.le_of_ble_eq_true rfl⟩) hS (fun q _ h => hFc q h) hFc (fun r1 _ t H1 locs ht hvm hok hB hz1 hk1 hS => ?_)
  obtain ⟨hP, hD⟩ := cjoin_w ht hB hFc
  refine lv_sipush (v := 128) hx hb dX4_asks_5 (by decide) ?_
  refine lv_iand hx hb dX4_asks_8 ?_
  refine lv_if_eq (tgt := 16) hx hb dX4_asks_9 (by decide) (fun c2 => ?_) (fun c2 => ?_)
  · have hok := hok.1 c2
    refine lv_iconst (v := 0) hx hb dX4_asks_16 (by decide) ?_
    exact W.zret (v := 0) hx hb hr rfl (fun t ht hW => ⟨⟨0, (), rfl, hok, by rw [ht]; exact hP, va_K.moved hW.alike hK, hD⟩, hS.F ht⟩) hS.2.2 dX4_asks_17
  · have hok := hok.2 c2
    refine lv_iconst (v := 1) hx hb dX4_asks_12 (by decide) ?_
    refine lv_goto (tgt := 17) hx hb dX4_asks_13 (by decide) ?_
    exact W.zret (v := 1) hx hb hr rfl (fun t ht hW => ⟨⟨1, (), rfl, hok, by rw [ht]; exact hP, va_K.moved hW.alike hK, hD⟩, hS.F ht⟩) hS.2.2 dX4_asks_17
def wp_X3_byteAt (σ : S_Memory) (a1 : Int32) (Φ : Int32 → Prop) : Prop := (vp_in (a1 >>> ((3 : Int32) &&& 31)) 10240 ∧ (∀ v1 : Int64, v1 = σ (a1 >>> ((3 : Int32) &&& 31)).toNatClampNeg → ∀ v2 : Int64, v2 = (v1.toUInt64 >>> (((8 : Int32) * (a1 &&& (7 : Int32))).toInt64.toUInt64 &&& Int64.toUInt64 63)).toInt64 → Φ (v2.toInt32 &&& (255 : Int32))))
set_option maxHeartbeats 4000000 in
set_option maxRecDepth 100000 in
theorem c_X3_byteAt (l : Launch) (dC : Nat → ClassId) (dI : Nat → Nat → Nat) (cI cJ : ClassId) (h : Nat → Nat) (sz : Nat) {σ : S_Memory} {a1 : Int32} {Φ : Int32 → Prop} (hok : wp_X3_byteAt σ a1 Φ) : Met l yX3_byteAt wsX3_byteAt ({ frames := 0, cells := 0, slots := 0, locals := 0 }) (va_Pc [.ref (h 9), .int a1] (cpre dC dI cI cJ (w_Memory h cI cJ σ) sz)) (va_Qi (fun (r : Int32) (_ : Unit) => Φ r) (fun _ => cpost dC dI cI cJ (va_A (w_Memory h cI cJ σ) sz) (w_Memory h cI cJ σ)) (va_A (w_Memory h cI cJ σ) sz)) 0 0 (va_A (w_Memory h cI cJ σ) sz) := by
  refine Met.ofW (cc := cX3_byteAt) (maxL := 2) (ret := (some .int)) (by decide) rfl ?_
  intro p e s m args below meth c s₁ B hml hv
  obtain ⟨rfl, hsz, hP, hK, hD0⟩ := hv
  have hx := B.exec
  have hb := B.bytes
  have hr := B.returns
  have hts := atoms_spec (ws := wsX3_byteAt) B.pre
  have hown : s.vm.findClass RX3 = some m.cls := findClass_of_methodNamed B.named
  have hlocks := B.notSynchronized
  subst hsz
  have hD := hD0.self (sz := s.heap.size)
  generalize hAe : va_A (w_Memory h cI cJ σ) s.heap.size = A at hD ⊢
  have hA : ∀ q : Nat, s.heap.size ≤ q → A q := fun q h => by rw [← hAe]; exact Or.inr h
  clear hD0 hAe
  have hS : va_S A s.heap s.heap [] := va_S.rf
  have hl := lv_entry ([.ref (h 9), .int a1]) (n := 2) (Nat.le_of_ble_eq_true rfl)
  rw [lg_entry_eq]
  generalize (lg_sl ([.ref (h 9), .int a1]) ++ List.replicate (2 - (lg_sl ([.ref (h 9), .int a1])).length) Slot.unset).toArray = ls at hl ⊢
  have hl : lv_has ls 2 [(0, .ref (h 9)), (1, .int a1)] := hl
  unfold wp_X3_byteAt at hok
  refine lv_aload_n hx hb dX3_byteAt_0 rfl (lv_at hl 0 rfl) ?_
  refine va_get (D := (dC, dI)) (ci := 2) (v := .ref (h 10)) (C := RX3) (T := TX3) (N := 1) hx hb hts (fun w h => List.mem_cons_of_mem _ (in_X3 w h)) hown hK hP 0 rfl rfl 0 (by decide) (hts _ (List.mem_cons_of_mem _ tw_1_105)) (fun _ h9 => h9) rfl dX3_byteAt_1 ?_
  refine lv_iload_n hx hb dX3_byteAt_4 rfl (lv_at hl 1 rfl) ?_
  refine lv_iconst (v := 3) hx hb dX3_byteAt_5 (by decide) ?_
  refine lv_ishr hx hb dX3_byteAt_6 ?_
  refine va_lald hx hb hK hP 1 1 rfl rfl hok.1 dX3_byteAt_7 ?_
  have hok := hok.2
  refine lv_topl (fun v1 ev1 => ?_)
  have hok := hok v1 ev1
  refine lv_bipush (v := 8) hx hb dX3_byteAt_8 (by decide) ?_
  refine lv_iload_n hx hb dX3_byteAt_10 rfl (lv_at hl 1 rfl) ?_
  refine lv_bipush (v := 7) hx hb dX3_byteAt_11 (by decide) ?_
  refine lv_iand hx hb dX3_byteAt_13 ?_
  refine lv_imul hx hb dX3_byteAt_14 ?_
  refine lv_lushr hx hb dX3_byteAt_15 rfl ?_
  refine lv_topl (fun v2 ev2 => ?_)
  have hok := hok v2 ev2
  refine lv_l2i hx hb dX3_byteAt_16 rfl ?_
  refine lv_sipush (v := 255) hx hb dX3_byteAt_17 (by decide) ?_
  refine lv_iand hx hb dX3_byteAt_20 ?_
  exact W.iret (v := v2.toInt32 &&& (255 : Int32)) hx hb hr (fun t ht hW => ⟨⟨v2.toInt32 &&& (255 : Int32), (), rfl, hok, by rw [ht]; exact hP, va_K.moved hW.alike hK, hD⟩, hS.F ht⟩) hS.2.2 dX3_byteAt_21
def wp_X6_afterReading (σ : S_Timers) (a1 : Int32) (Φ : S_Timers → Prop) : Prop := ((a1 = (4 : Int32) → (Φ (upd σ 3 ((σ 3) &&& (-65 : Int32))))) ∧ (¬ a1 = (4 : Int32) → (((a1 = (8 : Int32) → (Φ (upd σ 3 ((σ 3) &&& (-33 : Int32))))) ∧ (¬ a1 = (8 : Int32) → (Φ σ))))))
set_option maxHeartbeats 4000000 in
set_option maxRecDepth 100000 in
theorem c_X6_afterReading (l : Launch) (dC : Nat → ClassId) (dI : Nat → Nat → Nat) (cI cJ : ClassId) (h : Nat → Nat) (sz : Nat) {σ : S_Timers} {a1 : Int32} {Φ : S_Timers → Prop} (hok : wp_X6_afterReading σ a1 Φ) : Met l yX6_afterReading wsX6_afterReading ({ frames := 0, cells := 0, slots := 0, locals := 0 }) (va_Pc [.ref (h 5), .int a1] (cpre dC dI cI cJ (w_Timers h cI cJ σ) sz)) (va_Qv Φ (fun u => cpost dC dI cI cJ (va_A (w_Timers h cI cJ σ) sz) (w_Timers h cI cJ u)) (va_A (w_Timers h cI cJ σ) sz)) 0 0 (va_A (w_Timers h cI cJ σ) sz) := by
  refine Met.ofW (cc := cX6_afterReading) (maxL := 2) (ret := none) (by decide) rfl ?_
  intro p e s m args below meth c s₁ B hml hv
  obtain ⟨rfl, hsz, hP, hK, hD0⟩ := hv
  have hx := B.exec
  have hb := B.bytes
  have hr := B.returns
  have hts := atoms_spec (ws := wsX6_afterReading) B.pre
  have hown : s.vm.findClass RX6 = some m.cls := findClass_of_methodNamed B.named
  have hlocks := B.notSynchronized
  subst hsz
  have hD := hD0.self (sz := s.heap.size)
  generalize hAe : va_A (w_Timers h cI cJ σ) s.heap.size = A at hD ⊢
  have hA : ∀ q : Nat, s.heap.size ≤ q → A q := fun q h => by rw [← hAe]; exact Or.inr h
  clear hD0 hAe
  have hS : va_S A s.heap s.heap [] := va_S.rf
  have hl := lv_entry ([.ref (h 5), .int a1]) (n := 2) (Nat.le_of_ble_eq_true rfl)
  rw [lg_entry_eq]
  generalize (lg_sl ([.ref (h 5), .int a1]) ++ List.replicate (2 - (lg_sl ([.ref (h 5), .int a1])).length) Slot.unset).toArray = ls at hl ⊢
  have hl : lv_has ls 2 [(0, .ref (h 5)), (1, .int a1)] := hl
  unfold wp_X6_afterReading at hok
  refine lv_iload_n hx hb dX6_afterReading_0 rfl (lv_at hl 1 rfl) ?_
  refine lv_iconst (v := 4) hx hb dX6_afterReading_1 (by decide) ?_
  refine lv_icmp_ne (tgt := 19) hx hb dX6_afterReading_2 (by decide) (fun c1 => ?_) (fun c1 => ?_)
  · have hok := hok.2 c1
    refine lv_iload_n hx hb dX6_afterReading_19 rfl (lv_at hl 1 rfl) ?_
    refine lv_bipush (v := 8) hx hb dX6_afterReading_20 (by decide) ?_
    refine lv_icmp_ne (tgt := 36) hx hb dX6_afterReading_22 (by decide) (fun c2 => ?_) (fun c2 => ?_)
    · have hok := hok.2 c2
      exact W.vret hx hb hr (fun t ht hW => ⟨⟨σ, rfl, hok, by rw [ht]; exact hP, va_K.moved hW.alike hK, hD⟩, hS.F ht⟩) hS.2.2 dX6_afterReading_36
    · have hok := hok.1 c2
      refine lv_aload_n hx hb dX6_afterReading_25 rfl (lv_at hl 0 rfl) ?_
      refine lv_dup hx hb dX6_afterReading_26 rfl ?_
      refine va_get (D := (dC, dI)) (ci := 5) (v := .int (σ 3)) (C := RX6) (T := TX6) (N := 9) hx hb hts (fun w h => List.mem_cons_of_mem _ (in_X6 w h)) hown hK hP 0 rfl rfl 3 (by decide) (hts _ (List.mem_cons_of_mem _ tw_1_43)) (fun _ h9 => h9) rfl dX6_afterReading_27 ?_
      refine lv_bipush (v := (-33)) hx hb dX6_afterReading_30 (by decide) ?_
      refine lv_iand hx hb dX6_afterReading_32 ?_
      refine va_put (D := (dC, dI)) (ci := 5) (v := .int ((σ 3) &&& (-33 : Int32))) (ty := .int) (C := RX6) (T := TX6) (N := 9) hx hb hts (fun w h => List.mem_cons_of_mem _ (in_X6 w h)) tyX6 tyX6_ok nmX6 hown hK hP hD hS 0 rfl rfl 3 (by decide) (hts _ (List.mem_cons_of_mem _ tw_1_43)) (fun _ h9 => h9) rfl (by decide +kernel) rfl rfl (Nat.le_of_ble_eq_true rfl) dX6_afterReading_33 (fun H locs hP hD hS => ?_)
      have hP : va_P (dC, dI) vwCl (w_Timers h cI cJ (upd σ 3 ((σ 3) &&& (-33 : Int32)))) _ := hP
      have hD : va_D A (w_Timers h cI cJ (upd σ 3 ((σ 3) &&& (-33 : Int32)))) := hD
      exact W.vret hx hb hr (fun t ht hW => ⟨⟨upd σ 3 ((σ 3) &&& (-33 : Int32)), rfl, hok, by rw [ht]; exact hP, va_K.moved hW.alike hK, hD⟩, hS.F ht⟩) hS.2.2 dX6_afterReading_36
  · have hok := hok.1 c1
    refine lv_aload_n hx hb dX6_afterReading_5 rfl (lv_at hl 0 rfl) ?_
    refine lv_dup hx hb dX6_afterReading_6 rfl ?_
    refine va_get (D := (dC, dI)) (ci := 5) (v := .int (σ 3)) (C := RX6) (T := TX6) (N := 9) hx hb hts (fun w h => List.mem_cons_of_mem _ (in_X6 w h)) hown hK hP 0 rfl rfl 3 (by decide) (hts _ (List.mem_cons_of_mem _ tw_1_43)) (fun _ h9 => h9) rfl dX6_afterReading_7 ?_
    refine lv_bipush (v := (-65)) hx hb dX6_afterReading_10 (by decide) ?_
    refine lv_iand hx hb dX6_afterReading_12 ?_
    refine va_put (D := (dC, dI)) (ci := 5) (v := .int ((σ 3) &&& (-65 : Int32))) (ty := .int) (C := RX6) (T := TX6) (N := 9) hx hb hts (fun w h => List.mem_cons_of_mem _ (in_X6 w h)) tyX6 tyX6_ok nmX6 hown hK hP hD hS 0 rfl rfl 3 (by decide) (hts _ (List.mem_cons_of_mem _ tw_1_43)) (fun _ h9 => h9) rfl (by decide +kernel) rfl rfl (Nat.le_of_ble_eq_true rfl) dX6_afterReading_13 (fun H locs hP hD hS => ?_)
    have hP : va_P (dC, dI) vwCl (w_Timers h cI cJ (upd σ 3 ((σ 3) &&& (-65 : Int32)))) _ := hP
    have hD : va_D A (w_Timers h cI cJ (upd σ 3 ((σ 3) &&& (-65 : Int32)))) := hD
    refine lv_goto (tgt := 36) hx hb dX6_afterReading_16 (by decide) ?_
    exact W.vret hx hb hr (fun t ht hW => ⟨⟨upd σ 3 ((σ 3) &&& (-65 : Int32)), rfl, hok, by rw [ht]; exact hP, va_K.moved hW.alike hK, hD⟩, hS.F ht⟩) hS.2.2 dX6_afterReading_36
def wp_X4_afterReading (σ : S_Port) (a1 : Int32) (Φ : S_Port → Prop) : Prop := ((a1 = 0 → ((((σ.1 0) ≤ 0 → (Φ σ)) ∧ (¬ (σ.1 0) ≤ 0 → (Φ (upd (upd σ.1 4 (((σ.1 4) + (1 : Int32)) &&& (63 : Int32))) 0 ((σ.1 0) - (1 : Int32)), σ.2.1, σ.2.2)))))) ∧ (¬ a1 = 0 → (Φ σ)))
set_option maxHeartbeats 4000000 in
set_option maxRecDepth 100000 in
theorem c_X4_afterReading (l : Launch) (dC : Nat → ClassId) (dI : Nat → Nat → Nat) (cI cJ : ClassId) (h : Nat → Nat) (sz : Nat) {σ : S_Port} {a1 : Int32} {Φ : S_Port → Prop} (hok : wp_X4_afterReading σ a1 Φ) : Met l yX4_afterReading wsX4_afterReading ({ frames := 0, cells := 0, slots := 0, locals := 0 }) (va_Pc [.ref (h 6), .int a1] (cpre dC dI cI cJ (w_Port h cI cJ σ) sz)) (va_Qv Φ (fun u => cpost dC dI cI cJ (va_A (w_Port h cI cJ σ) sz) (w_Port h cI cJ u)) (va_A (w_Port h cI cJ σ) sz)) 0 0 (va_A (w_Port h cI cJ σ) sz) := by
  refine Met.ofW (cc := cX4_afterReading) (maxL := 2) (ret := none) (by decide) rfl ?_
  intro p e s m args below meth c s₁ B hml hv
  obtain ⟨rfl, hsz, hP, hK, hD0⟩ := hv
  have hx := B.exec
  have hb := B.bytes
  have hr := B.returns
  have hts := atoms_spec (ws := wsX4_afterReading) B.pre
  have hown : s.vm.findClass RX4 = some m.cls := findClass_of_methodNamed B.named
  have hlocks := B.notSynchronized
  subst hsz
  have hD := hD0.self (sz := s.heap.size)
  generalize hAe : va_A (w_Port h cI cJ σ) s.heap.size = A at hD ⊢
  have hA : ∀ q : Nat, s.heap.size ≤ q → A q := fun q h => by rw [← hAe]; exact Or.inr h
  clear hD0 hAe
  have hS : va_S A s.heap s.heap [] := va_S.rf
  have hl := lv_entry ([.ref (h 6), .int a1]) (n := 2) (Nat.le_of_ble_eq_true rfl)
  rw [lg_entry_eq]
  generalize (lg_sl ([.ref (h 6), .int a1]) ++ List.replicate (2 - (lg_sl ([.ref (h 6), .int a1])).length) Slot.unset).toArray = ls at hl ⊢
  have hl : lv_has ls 2 [(0, .ref (h 6)), (1, .int a1)] := hl
  unfold wp_X4_afterReading at hok
  refine lv_iload_n hx hb dX4_afterReading_0 rfl (lv_at hl 1 rfl) ?_
  refine lv_if_ne (tgt := 34) hx hb dX4_afterReading_1 (by decide) (fun c1 => ?_) (fun c1 => ?_)
  · have hok := hok.2 c1
    exact W.vret hx hb hr (fun t ht hW => ⟨⟨σ, rfl, hok, by rw [ht]; exact hP, va_K.moved hW.alike hK, hD⟩, hS.F ht⟩) hS.2.2 dX4_afterReading_34
  · have hok := hok.1 c1
    refine lv_aload_n hx hb dX4_afterReading_4 rfl (lv_at hl 0 rfl) ?_
    refine va_get (D := (dC, dI)) (ci := 3) (v := .int (σ.1 0)) (C := RX4) (T := TX4) (N := 6) hx hb hts (fun w h => List.mem_cons_of_mem _ (in_X4 w h)) hown hK hP 0 rfl rfl 0 (by decide) (hts _ (List.mem_cons_of_mem _ tw_1_76)) (fun _ h9 => h9) rfl dX4_afterReading_5 ?_
    refine lv_if_le (tgt := 34) hx hb dX4_afterReading_8 (by decide) (fun c2 => ?_) (fun c2 => ?_)
    · have hok := hok.1 c2
      exact W.vret hx hb hr (fun t ht hW => ⟨⟨σ, rfl, hok, by rw [ht]; exact hP, va_K.moved hW.alike hK, hD⟩, hS.F ht⟩) hS.2.2 dX4_afterReading_34
    · have hok := hok.2 c2
      refine lv_aload_n hx hb dX4_afterReading_11 rfl (lv_at hl 0 rfl) ?_
      refine lv_aload_n hx hb dX4_afterReading_12 rfl (lv_at hl 0 rfl) ?_
      refine va_get (D := (dC, dI)) (ci := 3) (v := .int (σ.1 4)) (C := RX4) (T := TX4) (N := 6) hx hb hts (fun w h => List.mem_cons_of_mem _ (in_X4 w h)) hown hK hP 0 rfl rfl 4 (by decide) (hts _ (List.mem_cons_of_mem _ tw_1_82)) (fun _ h9 => h9) rfl dX4_afterReading_13 ?_
      refine lv_iconst (v := 1) hx hb dX4_afterReading_16 (by decide) ?_
      refine lv_iadd hx hb dX4_afterReading_17 ?_
      refine lv_bipush (v := 63) hx hb dX4_afterReading_18 (by decide) ?_
      refine lv_iand hx hb dX4_afterReading_20 ?_
      refine va_put (D := (dC, dI)) (ci := 3) (v := .int (((σ.1 4) + (1 : Int32)) &&& (63 : Int32))) (ty := .int) (C := RX4) (T := TX4) (N := 6) hx hb hts (fun w h => List.mem_cons_of_mem _ (in_X4 w h)) tyX4 tyX4_ok nmX4 hown hK hP hD hS 0 rfl rfl 4 (by decide) (hts _ (List.mem_cons_of_mem _ tw_1_82)) (fun _ h9 => h9) rfl (by decide +kernel) rfl rfl (Nat.le_of_ble_eq_true rfl) dX4_afterReading_21 (fun H locs hP hD hS => ?_)
      have hP : va_P (dC, dI) vwCl (w_Port h cI cJ (upd σ.1 4 (((σ.1 4) + (1 : Int32)) &&& (63 : Int32)), σ.2.1, σ.2.2)) _ := hP
      have hD : va_D A (w_Port h cI cJ (upd σ.1 4 (((σ.1 4) + (1 : Int32)) &&& (63 : Int32)), σ.2.1, σ.2.2)) := hD
      refine lv_aload_n hx hb dX4_afterReading_24 rfl (lv_at hl 0 rfl) ?_
      refine lv_dup hx hb dX4_afterReading_25 rfl ?_
      refine va_get (D := (dC, dI)) (ci := 3) (v := .int (σ.1 0)) (C := RX4) (T := TX4) (N := 6) hx hb hts (fun w h => List.mem_cons_of_mem _ (in_X4 w h)) hown hK hP 0 rfl rfl 0 (by decide) (hts _ (List.mem_cons_of_mem _ tw_1_76)) (fun _ h9 => h9) rfl dX4_afterReading_26 ?_
      refine lv_iconst (v := 1) hx hb dX4_afterReading_29 (by decide) ?_
      refine lv_isub hx hb dX4_afterReading_30 ?_
      refine va_put (D := (dC, dI)) (ci := 3) (v := .int ((σ.1 0) - (1 : Int32))) (ty := .int) (C := RX4) (T := TX4) (N := 6) hx hb hts (fun w h => List.mem_cons_of_mem _ (in_X4 w h)) tyX4 tyX4_ok nmX4 hown hK hP hD hS 0 rfl rfl 0 (by decide) (hts _ (List.mem_cons_of_mem _ tw_1_76)) (fun _ h9 => h9) rfl (by decide +kernel) rfl rfl (Nat.le_of_ble_eq_true rfl) dX4_afterReading_31 (fun H locs hP hD hS => ?_)
      have hP : va_P (dC, dI) vwCl (w_Port h cI cJ (upd (upd σ.1 4 (((σ.1 4) + (1 : Int32)) &&& (63 : Int32))) 0 ((σ.1 0) - (1 : Int32)), σ.2.1, σ.2.2)) _ := hP
      have hD : va_D A (w_Port h cI cJ (upd (upd σ.1 4 (((σ.1 4) + (1 : Int32)) &&& (63 : Int32))) 0 ((σ.1 0) - (1 : Int32)), σ.2.1, σ.2.2)) := hD
      exact W.vret hx hb hr (fun t ht hW => ⟨⟨(upd (upd σ.1 4 (((σ.1 4) + (1 : Int32)) &&& (63 : Int32))) 0 ((σ.1 0) - (1 : Int32)), σ.2.1, σ.2.2), rfl, hok, by rw [ht]; exact hP, va_K.moved hW.alike hK, hD⟩, hS.F ht⟩) hS.2.2 dX4_afterReading_34
def wp_X3_store (σ : S_Memory) (a1 : Int32) (a2 : Int32) (Φ : S_Memory → Prop) : Prop := (vp_in (a1 >>> ((3 : Int32) &&& 31)) 10240 ∧ (∀ v1 : Int64, v1 = σ (a1 >>> ((3 : Int32) &&& 31)).toNatClampNeg → ∀ v2 : Int64, v2 = (255 : Int64) <<< (((8 : Int32) * (a1 &&& (7 : Int32))).toInt64 &&& 63) → ∀ v3 : Int64, v3 = a2.toInt64 <<< (((8 : Int32) * (a1 &&& (7 : Int32))).toInt64 &&& 63) → (vp_in (a1 >>> ((3 : Int32) &&& 31)) 10240 ∧ (Φ (vp_updL σ (a1 >>> ((3 : Int32) &&& 31)).toNatClampNeg ((v1 &&& (v2 ^^^ (-1 : Int64))) ||| v3))))))
set_option maxHeartbeats 4000000 in
set_option maxRecDepth 100000 in
theorem c_X3_store (l : Launch) (dC : Nat → ClassId) (dI : Nat → Nat → Nat) (cI cJ : ClassId) (h : Nat → Nat) (sz : Nat) {σ : S_Memory} {a1 : Int32} {a2 : Int32} {Φ : S_Memory → Prop} (hok : wp_X3_store σ a1 a2 Φ) : Met l yX3_store wsX3_store ({ frames := 0, cells := 0, slots := 0, locals := 0 }) (va_Pc [.ref (h 9), .int a1, .int a2] (cpre dC dI cI cJ (w_Memory h cI cJ σ) sz)) (va_Qv Φ (fun u => cpost dC dI cI cJ (va_A (w_Memory h cI cJ σ) sz) (w_Memory h cI cJ u)) (va_A (w_Memory h cI cJ σ) sz)) 0 0 (va_A (w_Memory h cI cJ σ) sz) := by
  refine Met.ofW (cc := cX3_store) (maxL := 6) (ret := none) (by decide) rfl ?_
  intro p e s m args below meth c s₁ B hml hv
  obtain ⟨rfl, hsz, hP, hK, hD0⟩ := hv
  have hx := B.exec
  have hb := B.bytes
  have hr := B.returns
  have hts := atoms_spec (ws := wsX3_store) B.pre
  have hown : s.vm.findClass RX3 = some m.cls := findClass_of_methodNamed B.named
  have hlocks := B.notSynchronized
  subst hsz
  have hD := hD0.self (sz := s.heap.size)
  generalize hAe : va_A (w_Memory h cI cJ σ) s.heap.size = A at hD ⊢
  have hA : ∀ q : Nat, s.heap.size ≤ q → A q := fun q h => by rw [← hAe]; exact Or.inr h
  clear hD0 hAe
  have hS : va_S A s.heap s.heap [] := va_S.rf
  have hl := lv_entry ([.ref (h 9), .int a1, .int a2]) (n := 6) (Nat.le_of_ble_eq_true rfl)
  rw [lg_entry_eq]
  generalize (lg_sl ([.ref (h 9), .int a1, .int a2]) ++ List.replicate (6 - (lg_sl ([.ref (h 9), .int a1, .int a2])).length) Slot.unset).toArray = ls at hl ⊢
  have hl : lv_has ls 6 [(0, .ref (h 9)), (1, .int a1), (2, .int a2)] := hl
  unfold wp_X3_store at hok
  refine lv_bipush (v := 8) hx hb dX3_store_0 (by decide) ?_
  refine lv_iload_n hx hb dX3_store_2 rfl (lv_at hl 1 rfl) ?_
  refine lv_bipush (v := 7) hx hb dX3_store_3 (by decide) ?_
  refine lv_iand hx hb dX3_store_5 ?_
  refine lv_imul hx hb dX3_store_6 ?_
  refine lv_istore_n (lv' := [(3, .int ((8 : Int32) * (a1 &&& (7 : Int32)))), (0, .ref (h 9)), (1, .int a1), (2, .int a2)]) hx hb dX3_store_7 rfl hl (by decide) rfl (fun ls hl => ?_)
  refine lv_aload_n hx hb dX3_store_8 rfl (lv_at hl 1 rfl) ?_
  refine va_get (D := (dC, dI)) (ci := 2) (v := .ref (h 10)) (C := RX3) (T := TX3) (N := 1) hx hb hts (fun w h => List.mem_cons_of_mem _ (in_X3 w h)) hown hK hP 0 rfl rfl 0 (by decide) (hts _ (List.mem_cons_of_mem _ tw_1_105)) (fun _ h9 => h9) rfl dX3_store_9 ?_
  refine lv_iload_n hx hb dX3_store_12 rfl (lv_at hl 2 rfl) ?_
  refine lv_iconst (v := 3) hx hb dX3_store_13 (by decide) ?_
  refine lv_ishr hx hb dX3_store_14 ?_
  refine va_lald hx hb hK hP 1 1 rfl rfl hok.1 dX3_store_15 ?_
  have hok := hok.2
  refine lv_topl (fun v1 ev1 => ?_)
  have hok := hok v1 ev1
  refine lv_ldc2 (v := 255) hx hb hown (hts _ (List.mem_cons_of_mem _ tw_2_104)) dX3_store_16 ?_
  refine lv_iload_n hx hb dX3_store_19 rfl (lv_at hl 0 rfl) ?_
  refine lv_lshl hx hb dX3_store_20 rfl ?_
  refine lv_topl (fun v2 ev2 => ?_)
  have hok := hok v2 ev2
  refine lv_ldc2 (v := (-1)) hx hb hown (hts _ (List.mem_cons_of_mem _ tw_2_105)) dX3_store_21 ?_
  refine lv_lxor hx hb dX3_store_24 ?_
  refine lv_land hx hb dX3_store_25 ?_
  refine lv_lstore (lv' := [(4, .long (v1 &&& (v2 ^^^ (-1 : Int64)))), (3, .int ((8 : Int32) * (a1 &&& (7 : Int32)))), (0, .ref (h 9)), (1, .int a1), (2, .int a2)]) hx hb dX3_store_26 hl (by decide) rfl (fun ls hl => ?_)
  refine lv_aload_n hx hb dX3_store_28 rfl (lv_at hl 2 rfl) ?_
  refine va_get (D := (dC, dI)) (ci := 2) (v := .ref (h 10)) (C := RX3) (T := TX3) (N := 1) hx hb hts (fun w h => List.mem_cons_of_mem _ (in_X3 w h)) hown hK hP 0 rfl rfl 0 (by decide) (hts _ (List.mem_cons_of_mem _ tw_1_105)) (fun _ h9 => h9) rfl dX3_store_29 ?_
  refine lv_iload_n hx hb dX3_store_32 rfl (lv_at hl 3 rfl) ?_
  refine lv_iconst (v := 3) hx hb dX3_store_33 (by decide) ?_
  refine lv_ishr hx hb dX3_store_34 ?_
  refine lv_lload hx hb dX3_store_35 (lv_at hl 0 rfl) ?_
  refine lv_iload_n hx hb dX3_store_37 rfl (lv_at hl 4 rfl) ?_
  refine lv_i2l hx hb dX3_store_38 rfl ?_
  refine lv_iload_n hx hb dX3_store_39 rfl (lv_at hl 1 rfl) ?_
  refine lv_lshl hx hb dX3_store_40 rfl ?_
  refine lv_topl (fun v3 ev3 => ?_)
  have hok := hok v3 ev3
  refine lv_lor hx hb dX3_store_41 ?_
  refine va_last hx hb hK hP hD hS 1 1 rfl rfl hok.1 dX3_store_42 (fun H locs hP hD hS => ?_)
  have hok := hok.2
  have hP : va_P (dC, dI) vwCl (w_Memory h cI cJ (vp_updL σ (a1 >>> ((3 : Int32) &&& 31)).toNatClampNeg ((v1 &&& (v2 ^^^ (-1 : Int64))) ||| v3))) _ := hP
  have hD : va_D A (w_Memory h cI cJ (vp_updL σ (a1 >>> ((3 : Int32) &&& 31)).toNatClampNeg ((v1 &&& (v2 ^^^ (-1 : Int64))) ||| v3))) := hD
  exact W.vret hx hb hr (fun t ht hW => ⟨⟨vp_updL σ (a1 >>> ((3 : Int32) &&& 31)).toNatClampNeg ((v1 &&& (v2 ^^^ (-1 : Int64))) ||| v3), rfl, hok, by rw [ht]; exact hP, va_K.moved hW.alike hK, hD⟩, hS.F ht⟩) hS.2.2 dX3_store_43
def wp_X6_write (σ : S_Timers) (a1 : Int32) (a2 : Int32) (Φ : S_Timers → Prop) : Prop := ((a1 = 4 → (Φ (upd σ 2 (((σ 2) &&& (65280 : Int32)) ||| a2)))) ∧ (a1 = 5 → (∀ v3 : Int32, v3 = ((σ 2) &&& (255 : Int32)) ||| (a2 <<< ((8 : Int32) &&& 31)) → Φ (upd (upd (upd (upd σ 2 v3) 0 v3) 7 1) 3 ((σ 3) &&& (-65 : Int32))))) ∧ (a1 = 6 → (Φ (upd σ 2 (((σ 2) &&& (65280 : Int32)) ||| a2)))) ∧ (a1 = 7 → (∀ v6 : Int32, v6 = ((σ 2) &&& (255 : Int32)) ||| (a2 <<< ((8 : Int32) &&& 31)) → Φ (upd (upd σ 2 v6) 3 ((σ 3) &&& (-65 : Int32))))) ∧ (a1 = 8 → (Φ (upd σ 5 a2))) ∧ (a1 = 9 → (Φ (upd (upd (upd σ 1 ((a2 <<< ((8 : Int32) &&& 31)) ||| (σ 5))) 8 1) 3 ((σ 3) &&& (-33 : Int32))))) ∧ (a1 = 11 → (Φ (upd σ 6 a2))) ∧ (a1 = 13 → (Φ (upd σ 3 ((σ 3) &&& (a2 ^^^ (-1 : Int32)))))) ∧ (a1 = 14 → ((((a2 &&& (128 : Int32)) = 0 → (Φ (upd σ 4 ((σ 4) &&& (a2 ^^^ (-1 : Int32)))))) ∧ (¬ (a2 &&& (128 : Int32)) = 0 → (Φ (upd σ 4 ((σ 4) ||| (a2 &&& (127 : Int32))))))))) ∧ ((¬ a1 = 4 ∧ ¬ a1 = 5 ∧ ¬ a1 = 6 ∧ ¬ a1 = 7 ∧ ¬ a1 = 8 ∧ ¬ a1 = 9 ∧ ¬ a1 = 11 ∧ ¬ a1 = 13 ∧ ¬ a1 = 14) → (Φ σ)))
set_option maxHeartbeats 4000000 in
set_option maxRecDepth 100000 in
theorem c_X6_write (l : Launch) (dC : Nat → ClassId) (dI : Nat → Nat → Nat) (cI cJ : ClassId) (h : Nat → Nat) (sz : Nat) {σ : S_Timers} {a1 : Int32} {a2 : Int32} {Φ : S_Timers → Prop} (hok : wp_X6_write σ a1 a2 Φ) : Met l yX6_write wsX6_write ({ frames := 0, cells := 0, slots := 0, locals := 0 }) (va_Pc [.ref (h 5), .int a1, .int a2] (cpre dC dI cI cJ (w_Timers h cI cJ σ) sz)) (va_Qv Φ (fun u => cpost dC dI cI cJ (va_A (w_Timers h cI cJ σ) sz) (w_Timers h cI cJ u)) (va_A (w_Timers h cI cJ σ) sz)) 0 0 (va_A (w_Timers h cI cJ σ) sz) := by
  refine Met.ofW (cc := cX6_write) (maxL := 3) (ret := none) (by decide) rfl ?_
  intro p e s m args below meth c s₁ B hml hv
  obtain ⟨rfl, hsz, hP, hK, hD0⟩ := hv
  have hx := B.exec
  have hb := B.bytes
  have hr := B.returns
  have hts := atoms_spec (ws := wsX6_write) B.pre
  have hown : s.vm.findClass RX6 = some m.cls := findClass_of_methodNamed B.named
  have hlocks := B.notSynchronized
  subst hsz
  have hD := hD0.self (sz := s.heap.size)
  generalize hAe : va_A (w_Timers h cI cJ σ) s.heap.size = A at hD ⊢
  have hA : ∀ q : Nat, s.heap.size ≤ q → A q := fun q h => by rw [← hAe]; exact Or.inr h
  clear hD0 hAe
  have hS : va_S A s.heap s.heap [] := va_S.rf
  have hl := lv_entry ([.ref (h 5), .int a1, .int a2]) (n := 3) (Nat.le_of_ble_eq_true rfl)
  rw [lg_entry_eq]
  generalize (lg_sl ([.ref (h 5), .int a1, .int a2]) ++ List.replicate (3 - (lg_sl ([.ref (h 5), .int a1, .int a2])).length) Slot.unset).toArray = ls at hl ⊢
  have hl : lv_has ls 3 [(0, .ref (h 5)), (1, .int a1), (2, .int a2)] := hl
  unfold wp_X6_write at hok
  refine lv_iload_n hx hb dX6_write_0 rfl (lv_at hl 1 rfl) ?_
  by_cases c1 : a1 = 4
  · have hok := hok.1 c1
    refine lv_tableIn (tgt := 60) (off := 59) hx hb dX6_write_1 (by rw [c1]; decide) (by rw [c1]; decide) (by rw [c1]; decide) (by decide) ?_
    refine lv_aload_n hx hb dX6_write_60 rfl (lv_at hl 0 rfl) ?_
    refine lv_aload_n hx hb dX6_write_61 rfl (lv_at hl 0 rfl) ?_
    refine va_get (D := (dC, dI)) (ci := 5) (v := .int (σ 2)) (C := RX6) (T := TX6) (N := 9) hx hb hts (fun w h => List.mem_cons_of_mem _ (in_X6 w h)) hown hK hP 0 rfl rfl 2 (by decide) (hts _ (List.mem_cons_of_mem _ tw_1_41)) (fun _ h9 => h9) rfl dX6_write_62 ?_
    refine lv_ldc (v := 65280) hx hb hown (hts _ (List.mem_cons_of_mem _ tw_2_110)) dX6_write_65 ?_
    refine lv_iand hx hb dX6_write_67 ?_
    refine lv_iload_n hx hb dX6_write_68 rfl (lv_at hl 2 rfl) ?_
    refine lv_ior hx hb dX6_write_69 ?_
    refine va_put (D := (dC, dI)) (ci := 5) (v := .int (((σ 2) &&& (65280 : Int32)) ||| a2)) (ty := .int) (C := RX6) (T := TX6) (N := 9) hx hb hts (fun w h => List.mem_cons_of_mem _ (in_X6 w h)) tyX6 tyX6_ok nmX6 hown hK hP hD hS 0 rfl rfl 2 (by decide) (hts _ (List.mem_cons_of_mem _ tw_1_41)) (fun _ h9 => h9) rfl (by decide +kernel) rfl rfl (Nat.le_of_ble_eq_true rfl) dX6_write_70 (fun H locs hP hD hS => ?_)
    have hP : va_P (dC, dI) vwCl (w_Timers h cI cJ (upd σ 2 (((σ 2) &&& (65280 : Int32)) ||| a2))) _ := hP
    have hD : va_D A (w_Timers h cI cJ (upd σ 2 (((σ 2) &&& (65280 : Int32)) ||| a2))) := hD
    refine lv_goto (tgt := 249) hx hb dX6_write_73 (by decide) ?_
    exact W.vret hx hb hr (fun t ht hW => ⟨⟨upd σ 2 (((σ 2) &&& (65280 : Int32)) ||| a2), rfl, hok, by rw [ht]; exact hP, va_K.moved hW.alike hK, hD⟩, hS.F ht⟩) hS.2.2 dX6_write_249
  have hok := hok.2
  by_cases c2 : a1 = 5
  · have hok := hok.1 c2
    refine lv_tableIn (tgt := 76) (off := 75) hx hb dX6_write_1 (by rw [c2]; decide) (by rw [c2]; decide) (by rw [c2]; decide) (by decide) ?_
    refine lv_aload_n hx hb dX6_write_76 rfl (lv_at hl 0 rfl) ?_
    refine lv_aload_n hx hb dX6_write_77 rfl (lv_at hl 0 rfl) ?_
    refine va_get (D := (dC, dI)) (ci := 5) (v := .int (σ 2)) (C := RX6) (T := TX6) (N := 9) hx hb hts (fun w h => List.mem_cons_of_mem _ (in_X6 w h)) hown hK hP 0 rfl rfl 2 (by decide) (hts _ (List.mem_cons_of_mem _ tw_1_41)) (fun _ h9 => h9) rfl dX6_write_78 ?_
    refine lv_sipush (v := 255) hx hb dX6_write_81 (by decide) ?_
    refine lv_iand hx hb dX6_write_84 ?_
    refine lv_iload_n hx hb dX6_write_85 rfl (lv_at hl 2 rfl) ?_
    refine lv_bipush (v := 8) hx hb dX6_write_86 (by decide) ?_
    refine lv_ishl hx hb dX6_write_88 ?_
    refine lv_ior hx hb dX6_write_89 ?_
    refine lv_topi (fun v3 ev3 => ?_)
    have hok := hok v3 ev3
    refine va_put (D := (dC, dI)) (ci := 5) (v := .int v3) (ty := .int) (C := RX6) (T := TX6) (N := 9) hx hb hts (fun w h => List.mem_cons_of_mem _ (in_X6 w h)) tyX6 tyX6_ok nmX6 hown hK hP hD hS 0 rfl rfl 2 (by decide) (hts _ (List.mem_cons_of_mem _ tw_1_41)) (fun _ h9 => h9) rfl (by decide +kernel) rfl rfl (Nat.le_of_ble_eq_true rfl) dX6_write_90 (fun H locs hP hD hS => ?_)
    have hP : va_P (dC, dI) vwCl (w_Timers h cI cJ (upd σ 2 v3)) _ := hP
    have hD : va_D A (w_Timers h cI cJ (upd σ 2 v3)) := hD
    refine lv_aload_n hx hb dX6_write_93 rfl (lv_at hl 0 rfl) ?_
    refine lv_aload_n hx hb dX6_write_94 rfl (lv_at hl 0 rfl) ?_
    refine va_get (D := (dC, dI)) (ci := 5) (v := .int v3) (C := RX6) (T := TX6) (N := 9) hx hb hts (fun w h => List.mem_cons_of_mem _ (in_X6 w h)) hown hK hP 0 rfl rfl 2 (by decide) (hts _ (List.mem_cons_of_mem _ tw_1_41)) (fun _ h9 => h9) rfl dX6_write_95 ?_
    refine va_put (D := (dC, dI)) (ci := 5) (v := .int v3) (ty := .int) (C := RX6) (T := TX6) (N := 9) hx hb hts (fun w h => List.mem_cons_of_mem _ (in_X6 w h)) tyX6 tyX6_ok nmX6 hown hK hP hD hS 0 rfl rfl 0 (by decide) (hts _ (List.mem_cons_of_mem _ tw_1_37)) (fun _ h9 => h9) rfl (by decide +kernel) rfl rfl (Nat.le_of_ble_eq_true rfl) dX6_write_98 (fun H locs hP hD hS => ?_)
    have hP : va_P (dC, dI) vwCl (w_Timers h cI cJ (upd (upd σ 2 v3) 0 v3)) _ := hP
    have hD : va_D A (w_Timers h cI cJ (upd (upd σ 2 v3) 0 v3)) := hD
    refine lv_aload_n hx hb dX6_write_101 rfl (lv_at hl 0 rfl) ?_
    refine lv_iconst (v := 1) hx hb dX6_write_102 (by decide) ?_
    refine va_put (D := (dC, dI)) (ci := 5) (v := .int 1) (ty := .boolean) (C := RX6) (T := TX6) (N := 9) hx hb hts (fun w h => List.mem_cons_of_mem _ (in_X6 w h)) tyX6 tyX6_ok nmX6 hown hK hP hD hS 0 rfl rfl 7 (by decide) (hts _ (List.mem_cons_of_mem _ tw_1_49)) (fun _ h9 => h9) rfl (by decide +kernel) rfl rfl (Nat.le_of_ble_eq_true rfl) dX6_write_103 (fun H locs hP hD hS => ?_)
    have hP : va_P (dC, dI) vwCl (w_Timers h cI cJ (upd (upd (upd σ 2 v3) 0 v3) 7 1)) _ := hP
    have hD : va_D A (w_Timers h cI cJ (upd (upd (upd σ 2 v3) 0 v3) 7 1)) := hD
    refine lv_aload_n hx hb dX6_write_106 rfl (lv_at hl 0 rfl) ?_
    refine lv_dup hx hb dX6_write_107 rfl ?_
    refine va_get (D := (dC, dI)) (ci := 5) (v := .int (σ 3)) (C := RX6) (T := TX6) (N := 9) hx hb hts (fun w h => List.mem_cons_of_mem _ (in_X6 w h)) hown hK hP 0 rfl rfl 3 (by decide) (hts _ (List.mem_cons_of_mem _ tw_1_43)) (fun _ h9 => h9) rfl dX6_write_108 ?_
    refine lv_bipush (v := (-65)) hx hb dX6_write_111 (by decide) ?_
    refine lv_iand hx hb dX6_write_113 ?_
    refine va_put (D := (dC, dI)) (ci := 5) (v := .int ((σ 3) &&& (-65 : Int32))) (ty := .int) (C := RX6) (T := TX6) (N := 9) hx hb hts (fun w h => List.mem_cons_of_mem _ (in_X6 w h)) tyX6 tyX6_ok nmX6 hown hK hP hD hS 0 rfl rfl 3 (by decide) (hts _ (List.mem_cons_of_mem _ tw_1_43)) (fun _ h9 => h9) rfl (by decide +kernel) rfl rfl (Nat.le_of_ble_eq_true rfl) dX6_write_114 (fun H locs hP hD hS => ?_)
    have hP : va_P (dC, dI) vwCl (w_Timers h cI cJ (upd (upd (upd (upd σ 2 v3) 0 v3) 7 1) 3 ((σ 3) &&& (-65 : Int32)))) _ := hP
    have hD : va_D A (w_Timers h cI cJ (upd (upd (upd (upd σ 2 v3) 0 v3) 7 1) 3 ((σ 3) &&& (-65 : Int32)))) := hD
    refine lv_goto (tgt := 249) hx hb dX6_write_117 (by decide) ?_
    exact W.vret hx hb hr (fun t ht hW => ⟨⟨upd (upd (upd (upd σ 2 v3) 0 v3) 7 1) 3 ((σ 3) &&& (-65 : Int32)), rfl, hok, by rw [ht]; exact hP, va_K.moved hW.alike hK, hD⟩, hS.F ht⟩) hS.2.2 dX6_write_249
  have hok := hok.2
  by_cases c4 : a1 = 6
  · have hok := hok.1 c4
    refine lv_tableIn (tgt := 60) (off := 59) hx hb dX6_write_1 (by rw [c4]; decide) (by rw [c4]; decide) (by rw [c4]; decide) (by decide) ?_
    refine lv_aload_n hx hb dX6_write_60 rfl (lv_at hl 0 rfl) ?_
    refine lv_aload_n hx hb dX6_write_61 rfl (lv_at hl 0 rfl) ?_
    refine va_get (D := (dC, dI)) (ci := 5) (v := .int (σ 2)) (C := RX6) (T := TX6) (N := 9) hx hb hts (fun w h => List.mem_cons_of_mem _ (in_X6 w h)) hown hK hP 0 rfl rfl 2 (by decide) (hts _ (List.mem_cons_of_mem _ tw_1_41)) (fun _ h9 => h9) rfl dX6_write_62 ?_
    refine lv_ldc (v := 65280) hx hb hown (hts _ (List.mem_cons_of_mem _ tw_2_110)) dX6_write_65 ?_
    refine lv_iand hx hb dX6_write_67 ?_
    refine lv_iload_n hx hb dX6_write_68 rfl (lv_at hl 2 rfl) ?_
    refine lv_ior hx hb dX6_write_69 ?_
    refine va_put (D := (dC, dI)) (ci := 5) (v := .int (((σ 2) &&& (65280 : Int32)) ||| a2)) (ty := .int) (C := RX6) (T := TX6) (N := 9) hx hb hts (fun w h => List.mem_cons_of_mem _ (in_X6 w h)) tyX6 tyX6_ok nmX6 hown hK hP hD hS 0 rfl rfl 2 (by decide) (hts _ (List.mem_cons_of_mem _ tw_1_41)) (fun _ h9 => h9) rfl (by decide +kernel) rfl rfl (Nat.le_of_ble_eq_true rfl) dX6_write_70 (fun H locs hP hD hS => ?_)
    have hP : va_P (dC, dI) vwCl (w_Timers h cI cJ (upd σ 2 (((σ 2) &&& (65280 : Int32)) ||| a2))) _ := hP
    have hD : va_D A (w_Timers h cI cJ (upd σ 2 (((σ 2) &&& (65280 : Int32)) ||| a2))) := hD
    refine lv_goto (tgt := 249) hx hb dX6_write_73 (by decide) ?_
    exact W.vret hx hb hr (fun t ht hW => ⟨⟨upd σ 2 (((σ 2) &&& (65280 : Int32)) ||| a2), rfl, hok, by rw [ht]; exact hP, va_K.moved hW.alike hK, hD⟩, hS.F ht⟩) hS.2.2 dX6_write_249
  have hok := hok.2
  by_cases c5 : a1 = 7
  · have hok := hok.1 c5
    refine lv_tableIn (tgt := 120) (off := 119) hx hb dX6_write_1 (by rw [c5]; decide) (by rw [c5]; decide) (by rw [c5]; decide) (by decide) ?_
    refine lv_aload_n hx hb dX6_write_120 rfl (lv_at hl 0 rfl) ?_
    refine lv_aload_n hx hb dX6_write_121 rfl (lv_at hl 0 rfl) ?_
    refine va_get (D := (dC, dI)) (ci := 5) (v := .int (σ 2)) (C := RX6) (T := TX6) (N := 9) hx hb hts (fun w h => List.mem_cons_of_mem _ (in_X6 w h)) hown hK hP 0 rfl rfl 2 (by decide) (hts _ (List.mem_cons_of_mem _ tw_1_41)) (fun _ h9 => h9) rfl dX6_write_122 ?_
    refine lv_sipush (v := 255) hx hb dX6_write_125 (by decide) ?_
    refine lv_iand hx hb dX6_write_128 ?_
    refine lv_iload_n hx hb dX6_write_129 rfl (lv_at hl 2 rfl) ?_
    refine lv_bipush (v := 8) hx hb dX6_write_130 (by decide) ?_
    refine lv_ishl hx hb dX6_write_132 ?_
    refine lv_ior hx hb dX6_write_133 ?_
    refine lv_topi (fun v6 ev6 => ?_)
    have hok := hok v6 ev6
    refine va_put (D := (dC, dI)) (ci := 5) (v := .int v6) (ty := .int) (C := RX6) (T := TX6) (N := 9) hx hb hts (fun w h => List.mem_cons_of_mem _ (in_X6 w h)) tyX6 tyX6_ok nmX6 hown hK hP hD hS 0 rfl rfl 2 (by decide) (hts _ (List.mem_cons_of_mem _ tw_1_41)) (fun _ h9 => h9) rfl (by decide +kernel) rfl rfl (Nat.le_of_ble_eq_true rfl) dX6_write_134 (fun H locs hP hD hS => ?_)
    have hP : va_P (dC, dI) vwCl (w_Timers h cI cJ (upd σ 2 v6)) _ := hP
    have hD : va_D A (w_Timers h cI cJ (upd σ 2 v6)) := hD
    refine lv_aload_n hx hb dX6_write_137 rfl (lv_at hl 0 rfl) ?_
    refine lv_dup hx hb dX6_write_138 rfl ?_
    refine va_get (D := (dC, dI)) (ci := 5) (v := .int (σ 3)) (C := RX6) (T := TX6) (N := 9) hx hb hts (fun w h => List.mem_cons_of_mem _ (in_X6 w h)) hown hK hP 0 rfl rfl 3 (by decide) (hts _ (List.mem_cons_of_mem _ tw_1_43)) (fun _ h9 => h9) rfl dX6_write_139 ?_
    refine lv_bipush (v := (-65)) hx hb dX6_write_142 (by decide) ?_
    refine lv_iand hx hb dX6_write_144 ?_
    refine va_put (D := (dC, dI)) (ci := 5) (v := .int ((σ 3) &&& (-65 : Int32))) (ty := .int) (C := RX6) (T := TX6) (N := 9) hx hb hts (fun w h => List.mem_cons_of_mem _ (in_X6 w h)) tyX6 tyX6_ok nmX6 hown hK hP hD hS 0 rfl rfl 3 (by decide) (hts _ (List.mem_cons_of_mem _ tw_1_43)) (fun _ h9 => h9) rfl (by decide +kernel) rfl rfl (Nat.le_of_ble_eq_true rfl) dX6_write_145 (fun H locs hP hD hS => ?_)
    have hP : va_P (dC, dI) vwCl (w_Timers h cI cJ (upd (upd σ 2 v6) 3 ((σ 3) &&& (-65 : Int32)))) _ := hP
    have hD : va_D A (w_Timers h cI cJ (upd (upd σ 2 v6) 3 ((σ 3) &&& (-65 : Int32)))) := hD
    refine lv_goto (tgt := 249) hx hb dX6_write_148 (by decide) ?_
    exact W.vret hx hb hr (fun t ht hW => ⟨⟨upd (upd σ 2 v6) 3 ((σ 3) &&& (-65 : Int32)), rfl, hok, by rw [ht]; exact hP, va_K.moved hW.alike hK, hD⟩, hS.F ht⟩) hS.2.2 dX6_write_249
  have hok := hok.2
  by_cases c7 : a1 = 8
  · have hok := hok.1 c7
    refine lv_tableIn (tgt := 151) (off := 150) hx hb dX6_write_1 (by rw [c7]; decide) (by rw [c7]; decide) (by rw [c7]; decide) (by decide) ?_
    refine lv_aload_n hx hb dX6_write_151 rfl (lv_at hl 0 rfl) ?_
    refine lv_iload_n hx hb dX6_write_152 rfl (lv_at hl 2 rfl) ?_
    refine va_put (D := (dC, dI)) (ci := 5) (v := .int a2) (ty := .int) (C := RX6) (T := TX6) (N := 9) hx hb hts (fun w h => List.mem_cons_of_mem _ (in_X6 w h)) tyX6 tyX6_ok nmX6 hown hK hP hD hS 0 rfl rfl 5 (by decide) (hts _ (List.mem_cons_of_mem _ tw_1_47)) (fun _ h9 => h9) rfl (by decide +kernel) rfl rfl (Nat.le_of_ble_eq_true rfl) dX6_write_153 (fun H locs hP hD hS => ?_)
    have hP : va_P (dC, dI) vwCl (w_Timers h cI cJ (upd σ 5 a2)) _ := hP
    have hD : va_D A (w_Timers h cI cJ (upd σ 5 a2)) := hD
    refine lv_goto (tgt := 249) hx hb dX6_write_156 (by decide) ?_
    exact W.vret hx hb hr (fun t ht hW => ⟨⟨upd σ 5 a2, rfl, hok, by rw [ht]; exact hP, va_K.moved hW.alike hK, hD⟩, hS.F ht⟩) hS.2.2 dX6_write_249
  have hok := hok.2
  by_cases c8 : a1 = 9
  · have hok := hok.1 c8
    refine lv_tableIn (tgt := 159) (off := 158) hx hb dX6_write_1 (by rw [c8]; decide) (by rw [c8]; decide) (by rw [c8]; decide) (by decide) ?_
    refine lv_aload_n hx hb dX6_write_159 rfl (lv_at hl 0 rfl) ?_
    refine lv_iload_n hx hb dX6_write_160 rfl (lv_at hl 2 rfl) ?_
    refine lv_bipush (v := 8) hx hb dX6_write_161 (by decide) ?_
    refine lv_ishl hx hb dX6_write_163 ?_
    refine lv_aload_n hx hb dX6_write_164 rfl (lv_at hl 0 rfl) ?_
    refine va_get (D := (dC, dI)) (ci := 5) (v := .int (σ 5)) (C := RX6) (T := TX6) (N := 9) hx hb hts (fun w h => List.mem_cons_of_mem _ (in_X6 w h)) hown hK hP 0 rfl rfl 5 (by decide) (hts _ (List.mem_cons_of_mem _ tw_1_47)) (fun _ h9 => h9) rfl dX6_write_165 ?_
    refine lv_ior hx hb dX6_write_168 ?_
    refine va_put (D := (dC, dI)) (ci := 5) (v := .int ((a2 <<< ((8 : Int32) &&& 31)) ||| (σ 5))) (ty := .int) (C := RX6) (T := TX6) (N := 9) hx hb hts (fun w h => List.mem_cons_of_mem _ (in_X6 w h)) tyX6 tyX6_ok nmX6 hown hK hP hD hS 0 rfl rfl 1 (by decide) (hts _ (List.mem_cons_of_mem _ tw_1_39)) (fun _ h9 => h9) rfl (by decide +kernel) rfl rfl (Nat.le_of_ble_eq_true rfl) dX6_write_169 (fun H locs hP hD hS => ?_)
    have hP : va_P (dC, dI) vwCl (w_Timers h cI cJ (upd σ 1 ((a2 <<< ((8 : Int32) &&& 31)) ||| (σ 5)))) _ := hP
    have hD : va_D A (w_Timers h cI cJ (upd σ 1 ((a2 <<< ((8 : Int32) &&& 31)) ||| (σ 5)))) := hD
    refine lv_aload_n hx hb dX6_write_172 rfl (lv_at hl 0 rfl) ?_
    refine lv_iconst (v := 1) hx hb dX6_write_173 (by decide) ?_
    refine va_put (D := (dC, dI)) (ci := 5) (v := .int 1) (ty := .boolean) (C := RX6) (T := TX6) (N := 9) hx hb hts (fun w h => List.mem_cons_of_mem _ (in_X6 w h)) tyX6 tyX6_ok nmX6 hown hK hP hD hS 0 rfl rfl 8 (by decide) (hts _ (List.mem_cons_of_mem _ tw_1_50)) (fun _ h9 => h9) rfl (by decide +kernel) rfl rfl (Nat.le_of_ble_eq_true rfl) dX6_write_174 (fun H locs hP hD hS => ?_)
    have hP : va_P (dC, dI) vwCl (w_Timers h cI cJ (upd (upd σ 1 ((a2 <<< ((8 : Int32) &&& 31)) ||| (σ 5))) 8 1)) _ := hP
    have hD : va_D A (w_Timers h cI cJ (upd (upd σ 1 ((a2 <<< ((8 : Int32) &&& 31)) ||| (σ 5))) 8 1)) := hD
    refine lv_aload_n hx hb dX6_write_177 rfl (lv_at hl 0 rfl) ?_
    refine lv_dup hx hb dX6_write_178 rfl ?_
    refine va_get (D := (dC, dI)) (ci := 5) (v := .int (σ 3)) (C := RX6) (T := TX6) (N := 9) hx hb hts (fun w h => List.mem_cons_of_mem _ (in_X6 w h)) hown hK hP 0 rfl rfl 3 (by decide) (hts _ (List.mem_cons_of_mem _ tw_1_43)) (fun _ h9 => h9) rfl dX6_write_179 ?_
    refine lv_bipush (v := (-33)) hx hb dX6_write_182 (by decide) ?_
    refine lv_iand hx hb dX6_write_184 ?_
    refine va_put (D := (dC, dI)) (ci := 5) (v := .int ((σ 3) &&& (-33 : Int32))) (ty := .int) (C := RX6) (T := TX6) (N := 9) hx hb hts (fun w h => List.mem_cons_of_mem _ (in_X6 w h)) tyX6 tyX6_ok nmX6 hown hK hP hD hS 0 rfl rfl 3 (by decide) (hts _ (List.mem_cons_of_mem _ tw_1_43)) (fun _ h9 => h9) rfl (by decide +kernel) rfl rfl (Nat.le_of_ble_eq_true rfl) dX6_write_185 (fun H locs hP hD hS => ?_)
    have hP : va_P (dC, dI) vwCl (w_Timers h cI cJ (upd (upd (upd σ 1 ((a2 <<< ((8 : Int32) &&& 31)) ||| (σ 5))) 8 1) 3 ((σ 3) &&& (-33 : Int32)))) _ := hP
    have hD : va_D A (w_Timers h cI cJ (upd (upd (upd σ 1 ((a2 <<< ((8 : Int32) &&& 31)) ||| (σ 5))) 8 1) 3 ((σ 3) &&& (-33 : Int32)))) := hD
    refine lv_goto (tgt := 249) hx hb dX6_write_188 (by decide) ?_
    exact W.vret hx hb hr (fun t ht hW => ⟨⟨upd (upd (upd σ 1 ((a2 <<< ((8 : Int32) &&& 31)) ||| (σ 5))) 8 1) 3 ((σ 3) &&& (-33 : Int32)), rfl, hok, by rw [ht]; exact hP, va_K.moved hW.alike hK, hD⟩, hS.F ht⟩) hS.2.2 dX6_write_249
  have hok := hok.2
  by_cases c9 : a1 = 11
  · have hok := hok.1 c9
    refine lv_tableIn (tgt := 191) (off := 190) hx hb dX6_write_1 (by rw [c9]; decide) (by rw [c9]; decide) (by rw [c9]; decide) (by decide) ?_
    refine lv_aload_n hx hb dX6_write_191 rfl (lv_at hl 0 rfl) ?_
    refine lv_iload_n hx hb dX6_write_192 rfl (lv_at hl 2 rfl) ?_
    refine va_put (D := (dC, dI)) (ci := 5) (v := .int a2) (ty := .int) (C := RX6) (T := TX6) (N := 9) hx hb hts (fun w h => List.mem_cons_of_mem _ (in_X6 w h)) tyX6 tyX6_ok nmX6 hown hK hP hD hS 0 rfl rfl 6 (by decide) (hts _ (List.mem_cons_of_mem _ tw_1_48)) (fun _ h9 => h9) rfl (by decide +kernel) rfl rfl (Nat.le_of_ble_eq_true rfl) dX6_write_193 (fun H locs hP hD hS => ?_)
    have hP : va_P (dC, dI) vwCl (w_Timers h cI cJ (upd σ 6 a2)) _ := hP
    have hD : va_D A (w_Timers h cI cJ (upd σ 6 a2)) := hD
    refine lv_goto (tgt := 249) hx hb dX6_write_196 (by decide) ?_
    exact W.vret hx hb hr (fun t ht hW => ⟨⟨upd σ 6 a2, rfl, hok, by rw [ht]; exact hP, va_K.moved hW.alike hK, hD⟩, hS.F ht⟩) hS.2.2 dX6_write_249
  have hok := hok.2
  by_cases c10 : a1 = 13
  · have hok := hok.1 c10
    refine lv_tableIn (tgt := 199) (off := 198) hx hb dX6_write_1 (by rw [c10]; decide) (by rw [c10]; decide) (by rw [c10]; decide) (by decide) ?_
    refine lv_aload_n hx hb dX6_write_199 rfl (lv_at hl 0 rfl) ?_
    refine lv_dup hx hb dX6_write_200 rfl ?_
    refine va_get (D := (dC, dI)) (ci := 5) (v := .int (σ 3)) (C := RX6) (T := TX6) (N := 9) hx hb hts (fun w h => List.mem_cons_of_mem _ (in_X6 w h)) hown hK hP 0 rfl rfl 3 (by decide) (hts _ (List.mem_cons_of_mem _ tw_1_43)) (fun _ h9 => h9) rfl dX6_write_201 ?_
    refine lv_iload_n hx hb dX6_write_204 rfl (lv_at hl 2 rfl) ?_
    refine lv_iconst (v := (-1)) hx hb dX6_write_205 (by decide) ?_
    refine lv_ixor hx hb dX6_write_206 ?_
    refine lv_iand hx hb dX6_write_207 ?_
    refine va_put (D := (dC, dI)) (ci := 5) (v := .int ((σ 3) &&& (a2 ^^^ (-1 : Int32)))) (ty := .int) (C := RX6) (T := TX6) (N := 9) hx hb hts (fun w h => List.mem_cons_of_mem _ (in_X6 w h)) tyX6 tyX6_ok nmX6 hown hK hP hD hS 0 rfl rfl 3 (by decide) (hts _ (List.mem_cons_of_mem _ tw_1_43)) (fun _ h9 => h9) rfl (by decide +kernel) rfl rfl (Nat.le_of_ble_eq_true rfl) dX6_write_208 (fun H locs hP hD hS => ?_)
    have hP : va_P (dC, dI) vwCl (w_Timers h cI cJ (upd σ 3 ((σ 3) &&& (a2 ^^^ (-1 : Int32))))) _ := hP
    have hD : va_D A (w_Timers h cI cJ (upd σ 3 ((σ 3) &&& (a2 ^^^ (-1 : Int32))))) := hD
    refine lv_goto (tgt := 249) hx hb dX6_write_211 (by decide) ?_
    exact W.vret hx hb hr (fun t ht hW => ⟨⟨upd σ 3 ((σ 3) &&& (a2 ^^^ (-1 : Int32))), rfl, hok, by rw [ht]; exact hP, va_K.moved hW.alike hK, hD⟩, hS.F ht⟩) hS.2.2 dX6_write_249
  have hok := hok.2
  by_cases c11 : a1 = 14
  · have hok := hok.1 c11
    refine lv_tableIn (tgt := 214) (off := 213) hx hb dX6_write_1 (by rw [c11]; decide) (by rw [c11]; decide) (by rw [c11]; decide) (by decide) ?_
    refine lv_aload_n hx hb dX6_write_214 rfl (lv_at hl 0 rfl) ?_
    refine lv_iload_n hx hb dX6_write_215 rfl (lv_at hl 2 rfl) ?_
    refine lv_sipush (v := 128) hx hb dX6_write_216 (by decide) ?_
    refine lv_iand hx hb dX6_write_219 ?_
    refine lv_if_eq (tgt := 235) hx hb dX6_write_220 (by decide) (fun c12 => ?_) (fun c12 => ?_)
    · have hok := hok.1 c12
      refine lv_aload_n hx hb dX6_write_235 rfl (lv_at hl 0 rfl) ?_
      refine va_get (D := (dC, dI)) (ci := 5) (v := .int (σ 4)) (C := RX6) (T := TX6) (N := 9) hx hb hts (fun w h => List.mem_cons_of_mem _ (in_X6 w h)) hown hK hP 0 rfl rfl 4 (by decide) (hts _ (List.mem_cons_of_mem _ tw_1_45)) (fun _ h9 => h9) rfl dX6_write_236 ?_
      refine lv_iload_n hx hb dX6_write_239 rfl (lv_at hl 2 rfl) ?_
      refine lv_iconst (v := (-1)) hx hb dX6_write_240 (by decide) ?_
      refine lv_ixor hx hb dX6_write_241 ?_
      refine lv_iand hx hb dX6_write_242 ?_
      refine va_put (D := (dC, dI)) (ci := 5) (v := .int ((σ 4) &&& (a2 ^^^ (-1 : Int32)))) (ty := .int) (C := RX6) (T := TX6) (N := 9) hx hb hts (fun w h => List.mem_cons_of_mem _ (in_X6 w h)) tyX6 tyX6_ok nmX6 hown hK hP hD hS 0 rfl rfl 4 (by decide) (hts _ (List.mem_cons_of_mem _ tw_1_45)) (fun _ h9 => h9) rfl (by decide +kernel) rfl rfl (Nat.le_of_ble_eq_true rfl) dX6_write_243 (fun H locs hP hD hS => ?_)
      have hP : va_P (dC, dI) vwCl (w_Timers h cI cJ (upd σ 4 ((σ 4) &&& (a2 ^^^ (-1 : Int32))))) _ := hP
      have hD : va_D A (w_Timers h cI cJ (upd σ 4 ((σ 4) &&& (a2 ^^^ (-1 : Int32))))) := hD
      refine lv_goto (tgt := 249) hx hb dX6_write_246 (by decide) ?_
      exact W.vret hx hb hr (fun t ht hW => ⟨⟨upd σ 4 ((σ 4) &&& (a2 ^^^ (-1 : Int32))), rfl, hok, by rw [ht]; exact hP, va_K.moved hW.alike hK, hD⟩, hS.F ht⟩) hS.2.2 dX6_write_249
    · have hok := hok.2 c12
      refine lv_aload_n hx hb dX6_write_223 rfl (lv_at hl 0 rfl) ?_
      refine va_get (D := (dC, dI)) (ci := 5) (v := .int (σ 4)) (C := RX6) (T := TX6) (N := 9) hx hb hts (fun w h => List.mem_cons_of_mem _ (in_X6 w h)) hown hK hP 0 rfl rfl 4 (by decide) (hts _ (List.mem_cons_of_mem _ tw_1_45)) (fun _ h9 => h9) rfl dX6_write_224 ?_
      refine lv_iload_n hx hb dX6_write_227 rfl (lv_at hl 2 rfl) ?_
      refine lv_bipush (v := 127) hx hb dX6_write_228 (by decide) ?_
      refine lv_iand hx hb dX6_write_230 ?_
      refine lv_ior hx hb dX6_write_231 ?_
      refine lv_goto (tgt := 243) hx hb dX6_write_232 (by decide) ?_
      refine va_put (D := (dC, dI)) (ci := 5) (v := .int ((σ 4) ||| (a2 &&& (127 : Int32)))) (ty := .int) (C := RX6) (T := TX6) (N := 9) hx hb hts (fun w h => List.mem_cons_of_mem _ (in_X6 w h)) tyX6 tyX6_ok nmX6 hown hK hP hD hS 0 rfl rfl 4 (by decide) (hts _ (List.mem_cons_of_mem _ tw_1_45)) (fun _ h9 => h9) rfl (by decide +kernel) rfl rfl (Nat.le_of_ble_eq_true rfl) dX6_write_243 (fun H locs hP hD hS => ?_)
      have hP : va_P (dC, dI) vwCl (w_Timers h cI cJ (upd σ 4 ((σ 4) ||| (a2 &&& (127 : Int32))))) _ := hP
      have hD : va_D A (w_Timers h cI cJ (upd σ 4 ((σ 4) ||| (a2 &&& (127 : Int32))))) := hD
      refine lv_goto (tgt := 249) hx hb dX6_write_246 (by decide) ?_
      exact W.vret hx hb hr (fun t ht hW => ⟨⟨upd σ 4 ((σ 4) ||| (a2 &&& (127 : Int32))), rfl, hok, by rw [ht]; exact hP, va_K.moved hW.alike hK, hD⟩, hS.F ht⟩) hS.2.2 dX6_write_249
  have hok := hok.2
  have hok := hok ⟨c1, c2, c4, c5, c7, c8, c9, c10, c11⟩
  have kz12 : ∀ k ∈ ([4, 5, 6, 7, 8, 9, 11, 13, 14] : List Int), (a1).toInt ≠ k := List.forall_mem_cons.mpr ⟨tb_ne c1 rfl, List.forall_mem_cons.mpr ⟨tb_ne c2 rfl, List.forall_mem_cons.mpr ⟨tb_ne c4 rfl, List.forall_mem_cons.mpr ⟨tb_ne c5 rfl, List.forall_mem_cons.mpr ⟨tb_ne c7 rfl, List.forall_mem_cons.mpr ⟨tb_ne c8 rfl, List.forall_mem_cons.mpr ⟨tb_ne c9 rfl, List.forall_mem_cons.mpr ⟨tb_ne c10 rfl, List.forall_mem_cons.mpr ⟨tb_ne c11 rfl, fun k h => absurd h List.not_mem_nil⟩⟩⟩⟩⟩⟩⟩⟩⟩
  refine tb_def (tgt := 249) (keys := [4, 5, 6, 7, 8, 9, 11, 13, 14]) hx hb dX6_write_1 kz12 (by decide) (by decide) ?_
  exact W.vret hx hb hr (fun t ht hW => ⟨⟨σ, rfl, hok, by rw [ht]; exact hP, va_K.moved hW.alike hK, hD⟩, hS.F ht⟩) hS.2.2 dX6_write_249
def wp_X4_write (σ : S_Port) (a1 : Int32) (a2 : Int32) (Φ : S_Port → Prop) : Prop := ((a1 = 0 → ((vp_in ((σ.1 1) &&& (255 : Int32)) 256 ∧ (Φ (upd σ.1 1 ((σ.1 1) + (1 : Int32)), σ.2.1, upd σ.2.2 ((σ.1 1) &&& (255 : Int32)).toNatClampNeg a2))))) ∧ (a1 = 1 → (Φ (upd σ.1 5 0, σ.2.1, σ.2.2))) ∧ ((¬ a1 = 0 ∧ ¬ a1 = 1) → (Φ (upd σ.1 5 a2, σ.2.1, σ.2.2))))
set_option maxHeartbeats 4000000 in
set_option maxRecDepth 100000 in
theorem c_X4_write (l : Launch) (dC : Nat → ClassId) (dI : Nat → Nat → Nat) (cI cJ : ClassId) (h : Nat → Nat) (sz : Nat) {σ : S_Port} {a1 : Int32} {a2 : Int32} {Φ : S_Port → Prop} (hok : wp_X4_write σ a1 a2 Φ) : Met l yX4_write wsX4_write ({ frames := 0, cells := 0, slots := 0, locals := 0 }) (va_Pc [.ref (h 6), .int a1, .int a2] (cpre dC dI cI cJ (w_Port h cI cJ σ) sz)) (va_Qv Φ (fun u => cpost dC dI cI cJ (va_A (w_Port h cI cJ σ) sz) (w_Port h cI cJ u)) (va_A (w_Port h cI cJ σ) sz)) 0 0 (va_A (w_Port h cI cJ σ) sz) := by
  refine Met.ofW (cc := cX4_write) (maxL := 3) (ret := none) (by decide) rfl ?_
  intro p e s m args below meth c s₁ B hml hv
  obtain ⟨rfl, hsz, hP, hK, hD0⟩ := hv
  have hx := B.exec
  have hb := B.bytes
  have hr := B.returns
  have hts := atoms_spec (ws := wsX4_write) B.pre
  have hown : s.vm.findClass RX4 = some m.cls := findClass_of_methodNamed B.named
  have hlocks := B.notSynchronized
  subst hsz
  have hD := hD0.self (sz := s.heap.size)
  generalize hAe : va_A (w_Port h cI cJ σ) s.heap.size = A at hD ⊢
  have hA : ∀ q : Nat, s.heap.size ≤ q → A q := fun q h => by rw [← hAe]; exact Or.inr h
  clear hD0 hAe
  have hS : va_S A s.heap s.heap [] := va_S.rf
  have hl := lv_entry ([.ref (h 6), .int a1, .int a2]) (n := 3) (Nat.le_of_ble_eq_true rfl)
  rw [lg_entry_eq]
  generalize (lg_sl ([.ref (h 6), .int a1, .int a2]) ++ List.replicate (3 - (lg_sl ([.ref (h 6), .int a1, .int a2])).length) Slot.unset).toArray = ls at hl ⊢
  have hl : lv_has ls 3 [(0, .ref (h 6)), (1, .int a1), (2, .int a2)] := hl
  unfold wp_X4_write at hok
  refine lv_iload_n hx hb dX4_write_0 rfl (lv_at hl 1 rfl) ?_
  by_cases c1 : a1 = 0
  · have hok := hok.1 c1
    refine lv_lookup (tgt := 28) (off := 27) hx hb dX4_write_1 (by decide) (by rw [c1]; decide) (by decide) ?_
    refine lv_aload_n hx hb dX4_write_28 rfl (lv_at hl 0 rfl) ?_
    refine va_get (D := (dC, dI)) (ci := 3) (v := .ref (h 8)) (C := RX4) (T := TX4) (N := 6) hx hb hts (fun w h => List.mem_cons_of_mem _ (in_X4 w h)) hown hK hP 0 rfl rfl 3 (by decide) (hts _ (List.mem_cons_of_mem _ tw_1_81)) (fun _ h9 => h9) rfl dX4_write_29 ?_
    refine lv_aload_n hx hb dX4_write_32 rfl (lv_at hl 0 rfl) ?_
    refine va_get (D := (dC, dI)) (ci := 3) (v := .int (σ.1 1)) (C := RX4) (T := TX4) (N := 6) hx hb hts (fun w h => List.mem_cons_of_mem _ (in_X4 w h)) hown hK hP 0 rfl rfl 1 (by decide) (hts _ (List.mem_cons_of_mem _ tw_1_78)) (fun _ h9 => h9) rfl dX4_write_33 ?_
    refine lv_sipush (v := 255) hx hb dX4_write_36 (by decide) ?_
    refine lv_iand hx hb dX4_write_39 ?_
    refine lv_iload_n hx hb dX4_write_40 rfl (lv_at hl 2 rfl) ?_
    refine va_iast hx hb hK hP hD hS 2 0 rfl rfl hok.1 dX4_write_41 (fun H locs hP hD hS => ?_)
    have hok := hok.2
    have hP : va_P (dC, dI) vwCl (w_Port h cI cJ (σ.1, σ.2.1, upd σ.2.2 ((σ.1 1) &&& (255 : Int32)).toNatClampNeg a2)) _ := hP
    have hD : va_D A (w_Port h cI cJ (σ.1, σ.2.1, upd σ.2.2 ((σ.1 1) &&& (255 : Int32)).toNatClampNeg a2)) := hD
    refine lv_aload_n hx hb dX4_write_42 rfl (lv_at hl 0 rfl) ?_
    refine lv_dup hx hb dX4_write_43 rfl ?_
    refine va_get (D := (dC, dI)) (ci := 3) (v := .int (σ.1 1)) (C := RX4) (T := TX4) (N := 6) hx hb hts (fun w h => List.mem_cons_of_mem _ (in_X4 w h)) hown hK hP 0 rfl rfl 1 (by decide) (hts _ (List.mem_cons_of_mem _ tw_1_78)) (fun _ h9 => h9) rfl dX4_write_44 ?_
    refine lv_iconst (v := 1) hx hb dX4_write_47 (by decide) ?_
    refine lv_iadd hx hb dX4_write_48 ?_
    refine va_put (D := (dC, dI)) (ci := 3) (v := .int ((σ.1 1) + (1 : Int32))) (ty := .int) (C := RX4) (T := TX4) (N := 6) hx hb hts (fun w h => List.mem_cons_of_mem _ (in_X4 w h)) tyX4 tyX4_ok nmX4 hown hK hP hD hS 0 rfl rfl 1 (by decide) (hts _ (List.mem_cons_of_mem _ tw_1_78)) (fun _ h9 => h9) rfl (by decide +kernel) rfl rfl (Nat.le_of_ble_eq_true rfl) dX4_write_49 (fun H locs hP hD hS => ?_)
    have hP : va_P (dC, dI) vwCl (w_Port h cI cJ (upd σ.1 1 ((σ.1 1) + (1 : Int32)), σ.2.1, upd σ.2.2 ((σ.1 1) &&& (255 : Int32)).toNatClampNeg a2)) _ := hP
    have hD : va_D A (w_Port h cI cJ (upd σ.1 1 ((σ.1 1) + (1 : Int32)), σ.2.1, upd σ.2.2 ((σ.1 1) &&& (255 : Int32)).toNatClampNeg a2)) := hD
    refine lv_goto (tgt := 68) hx hb dX4_write_52 (by decide) ?_
    exact W.vret hx hb hr (fun t ht hW => ⟨⟨(upd σ.1 1 ((σ.1 1) + (1 : Int32)), σ.2.1, upd σ.2.2 ((σ.1 1) &&& (255 : Int32)).toNatClampNeg a2), rfl, hok, by rw [ht]; exact hP, va_K.moved hW.alike hK, hD⟩, hS.F ht⟩) hS.2.2 dX4_write_68
  have hok := hok.2
  by_cases c2 : a1 = 1
  · have hok := hok.1 c2
    refine lv_lookup (tgt := 55) (off := 54) hx hb dX4_write_1 (by decide) (by rw [c2]; decide) (by decide) ?_
    refine lv_aload_n hx hb dX4_write_55 rfl (lv_at hl 0 rfl) ?_
    refine lv_iconst (v := 0) hx hb dX4_write_56 (by decide) ?_
    refine va_put (D := (dC, dI)) (ci := 3) (v := .int 0) (ty := .int) (C := RX4) (T := TX4) (N := 6) hx hb hts (fun w h => List.mem_cons_of_mem _ (in_X4 w h)) tyX4 tyX4_ok nmX4 hown hK hP hD hS 0 rfl rfl 5 (by decide) (hts _ (List.mem_cons_of_mem _ tw_1_83)) (fun _ h9 => h9) rfl (by decide +kernel) rfl rfl (Nat.le_of_ble_eq_true rfl) dX4_write_57 (fun H locs hP hD hS => ?_)
    have hP : va_P (dC, dI) vwCl (w_Port h cI cJ (upd σ.1 5 0, σ.2.1, σ.2.2)) _ := hP
    have hD : va_D A (w_Port h cI cJ (upd σ.1 5 0, σ.2.1, σ.2.2)) := hD
    refine lv_goto (tgt := 68) hx hb dX4_write_60 (by decide) ?_
    exact W.vret hx hb hr (fun t ht hW => ⟨⟨(upd σ.1 5 0, σ.2.1, σ.2.2), rfl, hok, by rw [ht]; exact hP, va_K.moved hW.alike hK, hD⟩, hS.F ht⟩) hS.2.2 dX4_write_68
  have hok := hok.2
  have hok := hok ⟨c1, c2⟩
  have kz2 : ∀ k ∈ ([0, 1] : List Int), (a1).toInt ≠ k := List.forall_mem_cons.mpr ⟨tb_ne c1 rfl, List.forall_mem_cons.mpr ⟨tb_ne c2 rfl, fun k h => absurd h List.not_mem_nil⟩⟩
  refine lv_lookup (tgt := 63) (off := 62) hx hb dX4_write_1 (by decide) (lk_def kz2 (by decide)) (by decide) ?_
  refine lv_aload_n hx hb dX4_write_63 rfl (lv_at hl 0 rfl) ?_
  refine lv_iload_n hx hb dX4_write_64 rfl (lv_at hl 2 rfl) ?_
  refine va_put (D := (dC, dI)) (ci := 3) (v := .int a2) (ty := .int) (C := RX4) (T := TX4) (N := 6) hx hb hts (fun w h => List.mem_cons_of_mem _ (in_X4 w h)) tyX4 tyX4_ok nmX4 hown hK hP hD hS 0 rfl rfl 5 (by decide) (hts _ (List.mem_cons_of_mem _ tw_1_83)) (fun _ h9 => h9) rfl (by decide +kernel) rfl rfl (Nat.le_of_ble_eq_true rfl) dX4_write_65 (fun H locs hP hD hS => ?_)
  have hP : va_P (dC, dI) vwCl (w_Port h cI cJ (upd σ.1 5 a2, σ.2.1, σ.2.2)) _ := hP
  have hD : va_D A (w_Port h cI cJ (upd σ.1 5 a2, σ.2.1, σ.2.2)) := hD
  exact W.vret hx hb hr (fun t ht hW => ⟨⟨(upd σ.1 5 a2, σ.2.1, σ.2.2), rfl, hok, by rw [ht]; exact hP, va_K.moved hW.alike hK, hD⟩, hS.F ht⟩) hS.2.2 dX4_write_68
def wp_X1_find_2 : Nat → S_Breaks → Int32 → Int32 → (Int32 → Prop) → Prop
  | 0, _, _, _, _ => False
  | n + 1, σ, x1, x2, Φ => (((σ.1 0) ≤ x2 → (Φ (-1))) ∧ (¬ (σ.1 0) ≤ x2 → ((vp_in x2 16 ∧ ((((σ.2 x2.toNatClampNeg) = x1 → (Φ x2)) ∧ (¬ (σ.2 x2.toNatClampNeg) = x1 → (∀ v3 : Int32, v3 = x2 + 1 → wp_X1_find_2 n σ x1 v3 Φ))))))))
def wp_X1_find (σ : S_Breaks) (a1 : Int32) (Φ : Int32 → Prop) : Prop := (∃ n, wp_X1_find_2 n σ a1 0 Φ)
set_option maxHeartbeats 4000000 in
set_option maxRecDepth 100000 in
theorem c_X1_find (l : Launch) (dC : Nat → ClassId) (dI : Nat → Nat → Nat) (cI cJ : ClassId) (h : Nat → Nat) (sz : Nat) {σ : S_Breaks} {a1 : Int32} {Φ : Int32 → Prop} (hok : wp_X1_find σ a1 Φ) : Met l yX1_find wsX1_find ({ frames := 0, cells := 0, slots := 0, locals := 0 }) (va_Pc [.ref (h 11), .int a1] (cpre dC dI cI cJ (w_Breaks h cI cJ σ) sz)) (va_Qi (fun (r : Int32) (_ : Unit) => Φ r) (fun _ => cpost dC dI cI cJ (va_A (w_Breaks h cI cJ σ) sz) (w_Breaks h cI cJ σ)) (va_A (w_Breaks h cI cJ σ) sz)) 0 0 (va_A (w_Breaks h cI cJ σ) sz) := by
  refine Met.ofW (cc := cX1_find) (maxL := 3) (ret := (some .int)) (by decide) rfl ?_
  intro p e s m args below meth c s₁ B hml hv
  obtain ⟨rfl, hsz, hP, hK, hD0⟩ := hv
  have hx := B.exec
  have hb := B.bytes
  have hr := B.returns
  have hts := atoms_spec (ws := wsX1_find) B.pre
  have hown : s.vm.findClass RX1 = some m.cls := findClass_of_methodNamed B.named
  have hlocks := B.notSynchronized
  subst hsz
  have hD := hD0.self (sz := s.heap.size)
  generalize hAe : va_A (w_Breaks h cI cJ σ) s.heap.size = A at hD ⊢
  have hA : ∀ q : Nat, s.heap.size ≤ q → A q := fun q h => by rw [← hAe]; exact Or.inr h
  clear hD0 hAe
  have hS : va_S A s.heap s.heap [] := va_S.rf
  have b2 : ∀ (n : Nat) (σ : S_Breaks) (x1 : Int32) (x2 : Int32), wp_X1_find_2 n σ x1 x2 Φ → ∀ (H : Heap) (locs : List Loc), va_P (dC, dI) vwCl (w_Breaks h cI cJ σ) H → va_D A (w_Breaks h cI cJ σ) → va_S A s.heap H locs → ∀ ls : Array Slot, lv_has ls 3 [(0, .ref (h 11)), (1, .int x1), (2, .int x2)] → W p l e (headSpec wsX1_find { frames := 0, cells := 0, slots := 0, locals := 0 }).room s m ([.ref (h 11), .int a1] : List Value).toArray below meth c H locs 0 0 (MQ below (va_Qi (fun (r : Int32) (_ : Unit) => Φ r) (fun _ => cpost dC dI cI cJ A (w_Breaks h cI cJ σ)) A) ([.ref (h 11), .int a1] : List Value).toArray s 0 0 A) (F0 m 2 ls []) := by
    intro n
    induction n with
    | zero =>
      intro σ x1 x2 hok
      exact hok.elim
    | succ n ih =>
      intro σ x1 x2 hok H locs hP hD hS ls hl
      rw [wp_X1_find_2] at hok
      refine lv_iload_n hx hb dX1_find_2 rfl (lv_at hl 2 rfl) ?_
      refine lv_aload_n hx hb dX1_find_3 rfl (lv_at hl 0 rfl) ?_
      refine va_get (D := (dC, dI)) (ci := 1) (v := .int (σ.1 0)) (C := RX1) (T := TX1) (N := 2) hx hb hts (fun w h => List.mem_cons_of_mem _ (in_X1 w h)) hown hK hP 0 rfl rfl 0 (by decide) (hts _ (List.mem_cons_of_mem _ tw_1_211)) (fun _ h9 => h9) rfl dX1_find_4 ?_
      refine lv_icmp_ge (tgt := 28) hx hb dX1_find_7 (by decide) (fun c1 => ?_) (fun c1 => ?_)
      · have hok := hok.1 c1
        refine lv_iconst (v := (-1)) hx hb dX1_find_28 (by decide) ?_
        exact W.iret (v := (-1)) hx hb hr (fun t ht hW => ⟨⟨(-1), (), rfl, hok, by rw [ht]; exact hP, va_K.moved hW.alike hK, hD⟩, hS.F ht⟩) hS.2.2 dX1_find_29
      · have hok := hok.2 c1
        refine lv_aload_n hx hb dX1_find_10 rfl (lv_at hl 0 rfl) ?_
        refine va_get (D := (dC, dI)) (ci := 1) (v := .ref (h 12)) (C := RX1) (T := TX1) (N := 2) hx hb hts (fun w h => List.mem_cons_of_mem _ (in_X1 w h)) hown hK hP 0 rfl rfl 1 (by decide) (hts _ (List.mem_cons_of_mem _ tw_1_213)) (fun _ h9 => h9) rfl dX1_find_11 ?_
        refine lv_iload_n hx hb dX1_find_14 rfl (lv_at hl 2 rfl) ?_
        refine va_iald hx hb hK hP 1 0 rfl rfl hok.1 dX1_find_15 ?_
        have hok := hok.2
        refine lv_iload_n hx hb dX1_find_16 rfl (lv_at hl 1 rfl) ?_
        refine lv_icmp_ne (tgt := 22) hx hb dX1_find_17 (by decide) (fun c2 => ?_) (fun c2 => ?_)
        · have hok := hok.2 c2
          obtain ⟨v3, ev3⟩ : ∃ y : Int32, y = x2 + 1 := ⟨_, rfl⟩
          have hok := hok v3 ev3
          refine lv_iinc (v := v3) (lv' := [(2, .int v3), (0, .ref (h 11)), (1, .int x1)]) hx hb dX1_find_22 hl (k := 2) rfl (by rw [ev3]; rfl) (by decide) rfl (fun ls hl => ?_)
          refine lv_goto (tgt := 2) hx hb dX1_find_25 (by decide) ?_
          exact ih σ x1 v3 hok _ _ hP hD hS _ (lv_sub hl [1, 2, 0] rfl)
        · have hok := hok.1 c2
          refine lv_iload_n hx hb dX1_find_20 rfl (lv_at hl 2 rfl) ?_
          exact W.iret (v := x2) hx hb hr (fun t ht hW => ⟨⟨x2, (), rfl, hok, by rw [ht]; exact hP, va_K.moved hW.alike hK, hD⟩, hS.F ht⟩) hS.2.2 dX1_find_21
  have hl := lv_entry ([.ref (h 11), .int a1]) (n := 3) (Nat.le_of_ble_eq_true rfl)
  rw [lg_entry_eq]
  generalize (lg_sl ([.ref (h 11), .int a1]) ++ List.replicate (3 - (lg_sl ([.ref (h 11), .int a1])).length) Slot.unset).toArray = ls at hl ⊢
  have hl : lv_has ls 3 [(0, .ref (h 11)), (1, .int a1)] := hl
  unfold wp_X1_find at hok
  refine lv_iconst (v := 0) hx hb dX1_find_0 (by decide) ?_
  refine lv_istore_n (lv' := [(2, .int 0), (0, .ref (h 11)), (1, .int a1)]) hx hb dX1_find_1 rfl hl (by decide) rfl (fun ls hl => ?_)
  obtain ⟨n, hok⟩ := hok
  exact b2 n σ a1 0 hok _ _ hP hD hS _ (lv_sub hl [1, 2, 0] rfl)
def wp_X1_has (σ : S_Breaks) (a1 : Int32) (Φ : Int32 → Prop) : Prop := wp_X1_find σ a1 (fun r1 => ((r1 = (-1 : Int32) → (Φ 0)) ∧ (¬ r1 = (-1 : Int32) → (Φ 1))))
set_option maxHeartbeats 4000000 in
set_option maxRecDepth 100000 in
theorem c_X1_has (l : Launch) (dC : Nat → ClassId) (dI : Nat → Nat → Nat) (cI cJ : ClassId) (h : Nat → Nat) (sz : Nat) {σ : S_Breaks} {a1 : Int32} {Φ : Int32 → Prop} (hok : wp_X1_has σ a1 Φ) : Met l yX1_has wsX1_has ({ frames := 1, cells := 0, slots := 0, locals := 22 }) (va_Pc [.ref (h 11), .int a1] (cpre dC dI cI cJ (w_Breaks h cI cJ σ) sz)) (va_Qi (fun (r : Int32) (_ : Unit) => Φ r) (fun _ => cpost dC dI cI cJ (va_A (w_Breaks h cI cJ σ) sz) (w_Breaks h cI cJ σ)) (va_A (w_Breaks h cI cJ σ) sz)) 0 0 (va_A (w_Breaks h cI cJ σ) sz) := by
  refine Met.ofW (cc := cX1_has) (maxL := 2) (ret := (some .boolean)) (by decide) rfl ?_
  intro p e s m args below meth c s₁ B hml hv
  obtain ⟨rfl, hsz, hP, hK, hD0⟩ := hv
  have hx := B.exec
  have hb := B.bytes
  have hr := B.returns
  have hts := atoms_spec (ws := wsX1_has) B.pre
  have hown : s.vm.findClass RX1 = some m.cls := findClass_of_methodNamed B.named
  have hlocks := B.notSynchronized
  subst hsz
  have hD := hD0.self (sz := s.heap.size)
  generalize hAe : va_A (w_Breaks h cI cJ σ) s.heap.size = A at hD ⊢
  have hA : ∀ q : Nat, s.heap.size ≤ q → A q := fun q h => by rw [← hAe]; exact Or.inr h
  clear hD0 hAe
  have hS : va_S A s.heap s.heap [] := va_S.rf
  have hl := lv_entry ([.ref (h 11), .int a1]) (n := 2) (Nat.le_of_ble_eq_true rfl)
  rw [lg_entry_eq]
  generalize (lg_sl ([.ref (h 11), .int a1]) ++ List.replicate (2 - (lg_sl ([.ref (h 11), .int a1])).length) Slot.unset).toArray = ls at hl ⊢
  have hl : lv_has ls 2 [(0, .ref (h 11)), (1, .int a1)] := hl
  unfold wp_X1_has at hok
  refine lv_aload_n hx hb dX1_has_0 rfl (lv_at hl 0 rfl) ?_
  refine lv_iload_n hx hb dX1_has_1 rfl (lv_at hl 1 rfl) ?_
  have hPc := hP
  have hDc := hD
  have hFc := va_free (wc := w_Breaks h cI cJ σ) hD hS hA [0, 1] rfl
  refine va_calli (va_runV (As := [.int a1]) (rest := []) ⟨hx, hb, hml, hown, hts⟩ (c_X1_find l dC dI cI cJ h _ hok) (cwV 1 hts (tb_gV tw_3_37 tw_3_39 tw_p_33 tw_1_8 tw_3_40) rfl rfl rfl (by decide +kernel) ⟨Nat.le_of_ble_eq_true rfl, Nat.le_of_ble_eq_true rfl⟩) (cpre_V (ci := 1) (q0 := 0) hK hPc hDc rfl rfl) rfl rfl hl.1 rfl (lv_room (Nat.le_of_ble_eq_true rfl)) dX1_has_2 ⟨Nat.le_of_ble_eq_true rfl, Nat.le_of_ble_eq_true rfl⟩) hS (fun q _ h => hFc q h) hFc (fun r1 _ t H1 locs ht hvm hok hB hz1 hk1 hS => ?_)
  obtain ⟨hP, hD⟩ := cjoin_w ht hB hFc
  refine lv_iconst (v := (-1)) hx hb dX1_has_5 (by decide) ?_
  refine lv_icmp_eq (tgt := 13) hx hb dX1_has_6 (by decide) (fun c2 => ?_) (fun c2 => ?_)
  · have hok := hok.1 c2
    refine lv_iconst (v := 0) hx hb dX1_has_13 (by decide) ?_
    exact W.zret (v := 0) hx hb hr rfl (fun t ht hW => ⟨⟨0, (), rfl, hok, by rw [ht]; exact hP, va_K.moved hW.alike hK, hD⟩, hS.F ht⟩) hS.2.2 dX1_has_14
  · have hok := hok.2 c2
    refine lv_iconst (v := 1) hx hb dX1_has_9 (by decide) ?_
    refine lv_goto (tgt := 14) hx hb dX1_has_10 (by decide) ?_
    exact W.zret (v := 1) hx hb hr rfl (fun t ht hW => ⟨⟨1, (), rfl, hok, by rw [ht]; exact hP, va_K.moved hW.alike hK, hD⟩, hS.F ht⟩) hS.2.2 dX1_has_14
def wp_X1_add (σ : S_Breaks) (a1 : Int32) (Φ : Int32 → S_Breaks → Prop) : Prop := (((σ.1 0) = (16 : Int32) → (Φ 0 σ)) ∧ (¬ (σ.1 0) = (16 : Int32) → (wp_X1_has σ a1 (fun r2 => ((r2 = 0 → ((vp_in (σ.1 0) 16 ∧ (Φ 1 (upd σ.1 0 ((σ.1 0) + (1 : Int32)), upd σ.2 (σ.1 0).toNatClampNeg a1))))) ∧ (¬ r2 = 0 → (Φ 0 σ)))))))
set_option maxHeartbeats 4000000 in
set_option maxRecDepth 100000 in
theorem c_X1_add (l : Launch) (dC : Nat → ClassId) (dI : Nat → Nat → Nat) (cI cJ : ClassId) (h : Nat → Nat) (sz : Nat) {σ : S_Breaks} {a1 : Int32} {Φ : Int32 → S_Breaks → Prop} (hok : wp_X1_add σ a1 Φ) : Met l yX1_add wsX1_add ({ frames := 2, cells := 0, slots := 0, locals := 43 }) (va_Pc [.ref (h 11), .int a1] (cpre dC dI cI cJ (w_Breaks h cI cJ σ) sz)) (va_Qi Φ (fun u => cpost dC dI cI cJ (va_A (w_Breaks h cI cJ σ) sz) (w_Breaks h cI cJ u)) (va_A (w_Breaks h cI cJ σ) sz)) 0 0 (va_A (w_Breaks h cI cJ σ) sz) := by
  refine Met.ofW (cc := cX1_add) (maxL := 2) (ret := (some .boolean)) (by decide) rfl ?_
  intro p e s m args below meth c s₁ B hml hv
  obtain ⟨rfl, hsz, hP, hK, hD0⟩ := hv
  have hx := B.exec
  have hb := B.bytes
  have hr := B.returns
  have hts := atoms_spec (ws := wsX1_add) B.pre
  have hown : s.vm.findClass RX1 = some m.cls := findClass_of_methodNamed B.named
  have hlocks := B.notSynchronized
  subst hsz
  have hD := hD0.self (sz := s.heap.size)
  generalize hAe : va_A (w_Breaks h cI cJ σ) s.heap.size = A at hD ⊢
  have hA : ∀ q : Nat, s.heap.size ≤ q → A q := fun q h => by rw [← hAe]; exact Or.inr h
  clear hD0 hAe
  have hS : va_S A s.heap s.heap [] := va_S.rf
  have hl := lv_entry ([.ref (h 11), .int a1]) (n := 2) (Nat.le_of_ble_eq_true rfl)
  rw [lg_entry_eq]
  generalize (lg_sl ([.ref (h 11), .int a1]) ++ List.replicate (2 - (lg_sl ([.ref (h 11), .int a1])).length) Slot.unset).toArray = ls at hl ⊢
  have hl : lv_has ls 2 [(0, .ref (h 11)), (1, .int a1)] := hl
  unfold wp_X1_add at hok
  refine lv_aload_n hx hb dX1_add_0 rfl (lv_at hl 0 rfl) ?_
  refine va_get (D := (dC, dI)) (ci := 1) (v := .int (σ.1 0)) (C := RX1) (T := TX1) (N := 2) hx hb hts (fun w h => List.mem_cons_of_mem _ (in_X1 w h)) hown hK hP 0 rfl rfl 0 (by decide) (hts _ (List.mem_cons_of_mem _ tw_1_211)) (fun _ h9 => h9) rfl dX1_add_1 ?_
  refine lv_bipush (v := 16) hx hb dX1_add_4 (by decide) ?_
  refine lv_icmp_eq (tgt := 17) hx hb dX1_add_6 (by decide) (fun c1 => ?_) (fun c1 => ?_)
  · have hok := hok.1 c1
    refine lv_iconst (v := 0) hx hb dX1_add_17 (by decide) ?_
    exact W.zret (v := 0) hx hb hr rfl (fun t ht hW => ⟨⟨0, σ, rfl, hok, by rw [ht]; exact hP, va_K.moved hW.alike hK, hD⟩, hS.F ht⟩) hS.2.2 dX1_add_18
  · have hok := hok.2 c1
    refine lv_aload_n hx hb dX1_add_9 rfl (lv_at hl 0 rfl) ?_
    refine lv_iload_n hx hb dX1_add_10 rfl (lv_at hl 1 rfl) ?_
    have hPc := hP
    have hDc := hD
    have hFc := va_free (wc := w_Breaks h cI cJ σ) hD hS hA [0, 1] rfl
    refine va_calli (va_runV (As := [.int a1]) (rest := []) ⟨hx, hb, hml, hown, hts⟩ (c_X1_has l dC dI cI cJ h _ hok) (cwV 1 hts (tb_gV tw_3_33 tw_3_34 tw_3_35 tw_1_8 tw_3_36) rfl rfl rfl (by decide +kernel) ⟨Nat.le_of_ble_eq_true rfl, Nat.le_of_ble_eq_true rfl⟩) (cpre_V (ci := 1) (q0 := 0) hK hPc hDc rfl rfl) rfl rfl hl.1 rfl (lv_room (Nat.le_of_ble_eq_true rfl)) dX1_add_11 ⟨Nat.le_of_ble_eq_true rfl, Nat.le_of_ble_eq_true rfl⟩) hS (fun q _ h => hFc q h) hFc (fun r2 _ t H1 locs ht hvm hok hB hz1 hk1 hS => ?_)
    obtain ⟨hP, hD⟩ := cjoin_w ht hB hFc
    refine lv_if_eq (tgt := 19) hx hb dX1_add_14 (by decide) (fun c3 => ?_) (fun c3 => ?_)
    · have hok := hok.1 c3
      refine lv_aload_n hx hb dX1_add_19 rfl (lv_at hl 0 rfl) ?_
      refine va_get (D := (dC, dI)) (ci := 1) (v := .ref (h 12)) (C := RX1) (T := TX1) (N := 2) hx hb hts (fun w h => List.mem_cons_of_mem _ (in_X1 w h)) hown hK hP 0 rfl rfl 1 (by decide) (hts _ (List.mem_cons_of_mem _ tw_1_213)) (fun _ h9 => h9) rfl dX1_add_20 ?_
      refine lv_aload_n hx hb dX1_add_23 rfl (lv_at hl 0 rfl) ?_
      refine va_get (D := (dC, dI)) (ci := 1) (v := .int (σ.1 0)) (C := RX1) (T := TX1) (N := 2) hx hb hts (fun w h => List.mem_cons_of_mem _ (in_X1 w h)) hown hK hP 0 rfl rfl 0 (by decide) (hts _ (List.mem_cons_of_mem _ tw_1_211)) (fun _ h9 => h9) rfl dX1_add_24 ?_
      refine lv_iload_n hx hb dX1_add_27 rfl (lv_at hl 1 rfl) ?_
      refine va_iast hx hb hK hP hD hS 1 0 rfl rfl hok.1 dX1_add_28 (fun H locs hP hD hS => ?_)
      have hok := hok.2
      have hP : va_P (dC, dI) vwCl (w_Breaks h cI cJ (σ.1, upd σ.2 (σ.1 0).toNatClampNeg a1)) _ := hP
      have hD : va_D A (w_Breaks h cI cJ (σ.1, upd σ.2 (σ.1 0).toNatClampNeg a1)) := hD
      refine lv_aload_n hx hb dX1_add_29 rfl (lv_at hl 0 rfl) ?_
      refine lv_dup hx hb dX1_add_30 rfl ?_
      refine va_get (D := (dC, dI)) (ci := 1) (v := .int (σ.1 0)) (C := RX1) (T := TX1) (N := 2) hx hb hts (fun w h => List.mem_cons_of_mem _ (in_X1 w h)) hown hK hP 0 rfl rfl 0 (by decide) (hts _ (List.mem_cons_of_mem _ tw_1_211)) (fun _ h9 => h9) rfl dX1_add_31 ?_
      refine lv_iconst (v := 1) hx hb dX1_add_34 (by decide) ?_
      refine lv_iadd hx hb dX1_add_35 ?_
      refine va_put (D := (dC, dI)) (ci := 1) (v := .int ((σ.1 0) + (1 : Int32))) (ty := .int) (C := RX1) (T := TX1) (N := 2) hx hb hts (fun w h => List.mem_cons_of_mem _ (in_X1 w h)) tyX1 tyX1_ok nmX1 hown hK hP hD hS 0 rfl rfl 0 (by decide) (hts _ (List.mem_cons_of_mem _ tw_1_211)) (fun _ h9 => h9) rfl (by decide +kernel) rfl rfl (Nat.le_of_ble_eq_true rfl) dX1_add_36 (fun H locs hP hD hS => ?_)
      have hP : va_P (dC, dI) vwCl (w_Breaks h cI cJ (upd σ.1 0 ((σ.1 0) + (1 : Int32)), upd σ.2 (σ.1 0).toNatClampNeg a1)) _ := hP
      have hD : va_D A (w_Breaks h cI cJ (upd σ.1 0 ((σ.1 0) + (1 : Int32)), upd σ.2 (σ.1 0).toNatClampNeg a1)) := hD
      refine lv_iconst (v := 1) hx hb dX1_add_39 (by decide) ?_
      exact W.zret (v := 1) hx hb hr rfl (fun t ht hW => ⟨⟨1, (upd σ.1 0 ((σ.1 0) + (1 : Int32)), upd σ.2 (σ.1 0).toNatClampNeg a1), rfl, hok, by rw [ht]; exact hP, va_K.moved hW.alike hK, hD⟩, hS.F ht⟩) hS.2.2 dX1_add_40
    · have hok := hok.2 c3
      refine lv_iconst (v := 0) hx hb dX1_add_17 (by decide) ?_
      exact W.zret (v := 0) hx hb hr rfl (fun t ht hW => ⟨⟨0, σ, rfl, hok, by rw [ht]; exact hP, va_K.moved hW.alike hK, hD⟩, hS.F ht⟩) hS.2.2 dX1_add_18
def wp_X1_remove (σ : S_Breaks) (a1 : Int32) (Φ : Int32 → S_Breaks → Prop) : Prop := wp_X1_find σ a1 (fun r1 => ((r1 = (-1 : Int32) → (Φ 0 σ)) ∧ (¬ r1 = (-1 : Int32) → ((vp_in ((σ.1 0) - (1 : Int32)) 16 ∧ ((vp_in r1 16 ∧ (Φ 1 (upd σ.1 0 ((σ.1 0) - (1 : Int32)), upd σ.2 r1.toNatClampNeg (σ.2 ((σ.1 0) - (1 : Int32)).toNatClampNeg))))))))))
set_option maxHeartbeats 4000000 in
set_option maxRecDepth 100000 in
theorem c_X1_remove (l : Launch) (dC : Nat → ClassId) (dI : Nat → Nat → Nat) (cI cJ : ClassId) (h : Nat → Nat) (sz : Nat) {σ : S_Breaks} {a1 : Int32} {Φ : Int32 → S_Breaks → Prop} (hok : wp_X1_remove σ a1 Φ) : Met l yX1_remove wsX1_remove ({ frames := 1, cells := 0, slots := 0, locals := 22 }) (va_Pc [.ref (h 11), .int a1] (cpre dC dI cI cJ (w_Breaks h cI cJ σ) sz)) (va_Qi Φ (fun u => cpost dC dI cI cJ (va_A (w_Breaks h cI cJ σ) sz) (w_Breaks h cI cJ u)) (va_A (w_Breaks h cI cJ σ) sz)) 0 0 (va_A (w_Breaks h cI cJ σ) sz) := by
  refine Met.ofW (cc := cX1_remove) (maxL := 3) (ret := (some .boolean)) (by decide) rfl ?_
  intro p e s m args below meth c s₁ B hml hv
  obtain ⟨rfl, hsz, hP, hK, hD0⟩ := hv
  have hx := B.exec
  have hb := B.bytes
  have hr := B.returns
  have hts := atoms_spec (ws := wsX1_remove) B.pre
  have hown : s.vm.findClass RX1 = some m.cls := findClass_of_methodNamed B.named
  have hlocks := B.notSynchronized
  subst hsz
  have hD := hD0.self (sz := s.heap.size)
  generalize hAe : va_A (w_Breaks h cI cJ σ) s.heap.size = A at hD ⊢
  have hA : ∀ q : Nat, s.heap.size ≤ q → A q := fun q h => by rw [← hAe]; exact Or.inr h
  clear hD0 hAe
  have hS : va_S A s.heap s.heap [] := va_S.rf
  have hl := lv_entry ([.ref (h 11), .int a1]) (n := 3) (Nat.le_of_ble_eq_true rfl)
  rw [lg_entry_eq]
  generalize (lg_sl ([.ref (h 11), .int a1]) ++ List.replicate (3 - (lg_sl ([.ref (h 11), .int a1])).length) Slot.unset).toArray = ls at hl ⊢
  have hl : lv_has ls 3 [(0, .ref (h 11)), (1, .int a1)] := hl
  unfold wp_X1_remove at hok
  refine lv_aload_n hx hb dX1_remove_0 rfl (lv_at hl 0 rfl) ?_
  refine lv_iload_n hx hb dX1_remove_1 rfl (lv_at hl 1 rfl) ?_
  have hPc := hP
  have hDc := hD
  have hFc := va_free (wc := w_Breaks h cI cJ σ) hD hS hA [0, 1] rfl
  refine va_calli (va_runV (As := [.int a1]) (rest := []) ⟨hx, hb, hml, hown, hts⟩ (c_X1_find l dC dI cI cJ h _ hok) (cwV 1 hts (tb_gV tw_3_37 tw_3_39 tw_p_33 tw_1_8 tw_3_40) rfl rfl rfl (by decide +kernel) ⟨Nat.le_of_ble_eq_true rfl, Nat.le_of_ble_eq_true rfl⟩) (cpre_V (ci := 1) (q0 := 0) hK hPc hDc rfl rfl) rfl rfl hl.1 rfl (lv_room (Nat.le_of_ble_eq_true rfl)) dX1_remove_2 ⟨Nat.le_of_ble_eq_true rfl, Nat.le_of_ble_eq_true rfl⟩) hS (fun q _ h => hFc q h) hFc (fun r1 _ t H1 locs ht hvm hok hB hz1 hk1 hS => ?_)
  obtain ⟨hP, hD⟩ := cjoin_w ht hB hFc
  refine lv_istore_n (lv' := [(2, .int r1), (0, .ref (h 11)), (1, .int a1)]) hx hb dX1_remove_5 rfl hl (by decide) rfl (fun ls hl => ?_)
  refine lv_iload_n hx hb dX1_remove_6 rfl (lv_at hl 0 rfl) ?_
  refine lv_iconst (v := (-1)) hx hb dX1_remove_7 (by decide) ?_
  refine lv_icmp_ne (tgt := 13) hx hb dX1_remove_8 (by decide) (fun c2 => ?_) (fun c2 => ?_)
  · have hok := hok.2 c2
    refine lv_aload_n hx hb dX1_remove_13 rfl (lv_at hl 1 rfl) ?_
    refine lv_dup hx hb dX1_remove_14 rfl ?_
    refine va_get (D := (dC, dI)) (ci := 1) (v := .int (σ.1 0)) (C := RX1) (T := TX1) (N := 2) hx hb hts (fun w h => List.mem_cons_of_mem _ (in_X1 w h)) hown hK hP 0 rfl rfl 0 (by decide) (hts _ (List.mem_cons_of_mem _ tw_1_211)) (fun _ h9 => h9) rfl dX1_remove_15 ?_
    refine lv_iconst (v := 1) hx hb dX1_remove_18 (by decide) ?_
    refine lv_isub hx hb dX1_remove_19 ?_
    refine va_put (D := (dC, dI)) (ci := 1) (v := .int ((σ.1 0) - (1 : Int32))) (ty := .int) (C := RX1) (T := TX1) (N := 2) hx hb hts (fun w h => List.mem_cons_of_mem _ (in_X1 w h)) tyX1 tyX1_ok nmX1 hown hK hP hD hS 0 rfl rfl 0 (by decide) (hts _ (List.mem_cons_of_mem _ tw_1_211)) (fun _ h9 => h9) rfl (by decide +kernel) rfl rfl (Nat.le_of_ble_eq_true rfl) dX1_remove_20 (fun H locs hP hD hS => ?_)
    have hP : va_P (dC, dI) vwCl (w_Breaks h cI cJ (upd σ.1 0 ((σ.1 0) - (1 : Int32)), σ.2)) _ := hP
    have hD : va_D A (w_Breaks h cI cJ (upd σ.1 0 ((σ.1 0) - (1 : Int32)), σ.2)) := hD
    refine lv_aload_n hx hb dX1_remove_23 rfl (lv_at hl 1 rfl) ?_
    refine va_get (D := (dC, dI)) (ci := 1) (v := .ref (h 12)) (C := RX1) (T := TX1) (N := 2) hx hb hts (fun w h => List.mem_cons_of_mem _ (in_X1 w h)) hown hK hP 0 rfl rfl 1 (by decide) (hts _ (List.mem_cons_of_mem _ tw_1_213)) (fun _ h9 => h9) rfl dX1_remove_24 ?_
    refine lv_iload_n hx hb dX1_remove_27 rfl (lv_at hl 0 rfl) ?_
    refine lv_aload_n hx hb dX1_remove_28 rfl (lv_at hl 1 rfl) ?_
    refine va_get (D := (dC, dI)) (ci := 1) (v := .ref (h 12)) (C := RX1) (T := TX1) (N := 2) hx hb hts (fun w h => List.mem_cons_of_mem _ (in_X1 w h)) hown hK hP 0 rfl rfl 1 (by decide) (hts _ (List.mem_cons_of_mem _ tw_1_213)) (fun _ h9 => h9) rfl dX1_remove_29 ?_
    refine lv_aload_n hx hb dX1_remove_32 rfl (lv_at hl 1 rfl) ?_
    refine va_get (D := (dC, dI)) (ci := 1) (v := .int ((σ.1 0) - (1 : Int32))) (C := RX1) (T := TX1) (N := 2) hx hb hts (fun w h => List.mem_cons_of_mem _ (in_X1 w h)) hown hK hP 0 rfl rfl 0 (by decide) (hts _ (List.mem_cons_of_mem _ tw_1_211)) (fun _ h9 => h9) rfl dX1_remove_33 ?_
    refine va_iald hx hb hK hP 1 0 rfl rfl hok.1 dX1_remove_36 ?_
    have hok := hok.2
    refine va_iast hx hb hK hP hD hS 1 0 rfl rfl hok.1 dX1_remove_37 (fun H locs hP hD hS => ?_)
    have hok := hok.2
    have hP : va_P (dC, dI) vwCl (w_Breaks h cI cJ (upd σ.1 0 ((σ.1 0) - (1 : Int32)), upd σ.2 r1.toNatClampNeg (σ.2 ((σ.1 0) - (1 : Int32)).toNatClampNeg))) _ := hP
    have hD : va_D A (w_Breaks h cI cJ (upd σ.1 0 ((σ.1 0) - (1 : Int32)), upd σ.2 r1.toNatClampNeg (σ.2 ((σ.1 0) - (1 : Int32)).toNatClampNeg))) := hD
    refine lv_iconst (v := 1) hx hb dX1_remove_38 (by decide) ?_
    exact W.zret (v := 1) hx hb hr rfl (fun t ht hW => ⟨⟨1, (upd σ.1 0 ((σ.1 0) - (1 : Int32)), upd σ.2 r1.toNatClampNeg (σ.2 ((σ.1 0) - (1 : Int32)).toNatClampNeg)), rfl, hok, by rw [ht]; exact hP, va_K.moved hW.alike hK, hD⟩, hS.F ht⟩) hS.2.2 dX1_remove_39
  · have hok := hok.1 c2
    refine lv_iconst (v := 0) hx hb dX1_remove_11 (by decide) ?_
    exact W.zret (v := 0) hx hb hr rfl (fun t ht hW => ⟨⟨0, σ, rfl, hok, by rw [ht]; exact hP, va_K.moved hW.alike hK, hD⟩, hS.F ht⟩) hS.2.2 dX1_remove_12
def wp_X2_paysForCrossing (a1 : Int32) (Φ : Int32 → Prop) : Prop := (((a1 >>> ((4 : Int32) &&& 31)) = 0 → (Φ 1)) ∧ (¬ (a1 >>> ((4 : Int32) &&& 31)) = 0 → (((a1 < (32 : Int32) → (Φ 0)) ∧ (¬ a1 < (32 : Int32) → ((((35 : Int32) < a1 → (Φ 0)) ∧ (¬ (35 : Int32) < a1 → (Φ 1)))))))))
set_option maxHeartbeats 4000000 in
set_option maxRecDepth 100000 in
theorem c_X2_paysForCrossing (l : Launch) (dC : Nat → ClassId) (dI : Nat → Nat → Nat) (cI cJ : ClassId) (h : Nat → Nat) (sz : Nat) {a1 : Int32} {Φ : Int32 → Prop} (hok : wp_X2_paysForCrossing a1 Φ) : Met l yX2_paysForCrossing wsX2_paysForCrossing ({ frames := 0, cells := 0, slots := 0, locals := 0 }) (va_Pc [.int a1] (cpre dC dI cI cJ ([] : va_W) sz)) (va_Qi (fun (r : Int32) (_ : Unit) => Φ r) (fun _ => cpost dC dI cI cJ (va_A ([] : va_W) sz) ([] : va_W)) (va_A ([] : va_W) sz)) 0 0 (va_A ([] : va_W) sz) := by
  refine Met.ofW (cc := cX2_paysForCrossing) (maxL := 1) (ret := (some .boolean)) (by decide) rfl ?_
  intro p e s m args below meth c s₁ B hml hv
  obtain ⟨rfl, hsz, hP, hK, hD0⟩ := hv
  have hx := B.exec
  have hb := B.bytes
  have hr := B.returns
  have hts := atoms_spec (ws := wsX2_paysForCrossing) B.pre
  have hown : s.vm.findClass RX2 = some m.cls := findClass_of_methodNamed B.named
  have hlocks := B.notSynchronized
  subst hsz
  have hD := hD0.self (sz := s.heap.size)
  generalize hAe : va_A ([] : va_W) s.heap.size = A at hD ⊢
  have hA : ∀ q : Nat, s.heap.size ≤ q → A q := fun q h => by rw [← hAe]; exact Or.inr h
  clear hD0 hAe
  have hS : va_S A s.heap s.heap [] := va_S.rf
  have hl := lv_entry ([.int a1]) (n := 1) (Nat.le_of_ble_eq_true rfl)
  rw [lg_entry_eq]
  generalize (lg_sl ([.int a1]) ++ List.replicate (1 - (lg_sl ([.int a1])).length) Slot.unset).toArray = ls at hl ⊢
  have hl : lv_has ls 1 [(0, .int a1)] := hl
  unfold wp_X2_paysForCrossing at hok
  refine lv_iload_n hx hb dX2_paysForCrossing_0 rfl (lv_at hl 0 rfl) ?_
  refine lv_iconst (v := 4) hx hb dX2_paysForCrossing_1 (by decide) ?_
  refine lv_ishr hx hb dX2_paysForCrossing_2 ?_
  refine lv_if_eq (tgt := 18) hx hb dX2_paysForCrossing_3 (by decide) (fun c1 => ?_) (fun c1 => ?_)
  · have hok := hok.1 c1
    refine lv_iconst (v := 1) hx hb dX2_paysForCrossing_18 (by decide) ?_
    refine lv_goto (tgt := 23) hx hb dX2_paysForCrossing_19 (by decide) ?_
    exact W.zret (v := 1) hx hb hr rfl (fun t ht hW => ⟨⟨1, (), rfl, hok, by rw [ht]; exact hP, va_K.moved hW.alike hK, hD⟩, hS.F ht⟩) hS.2.2 dX2_paysForCrossing_23
  · have hok := hok.2 c1
    refine lv_iload_n hx hb dX2_paysForCrossing_6 rfl (lv_at hl 0 rfl) ?_
    refine lv_bipush (v := 32) hx hb dX2_paysForCrossing_7 (by decide) ?_
    refine lv_icmp_lt (tgt := 22) hx hb dX2_paysForCrossing_9 (by decide) (fun c2 => ?_) (fun c2 => ?_)
    · have hok := hok.1 c2
      refine lv_iconst (v := 0) hx hb dX2_paysForCrossing_22 (by decide) ?_
      exact W.zret (v := 0) hx hb hr rfl (fun t ht hW => ⟨⟨0, (), rfl, hok, by rw [ht]; exact hP, va_K.moved hW.alike hK, hD⟩, hS.F ht⟩) hS.2.2 dX2_paysForCrossing_23
    · have hok := hok.2 c2
      refine lv_iload_n hx hb dX2_paysForCrossing_12 rfl (lv_at hl 0 rfl) ?_
      refine lv_bipush (v := 35) hx hb dX2_paysForCrossing_13 (by decide) ?_
      refine lv_icmp_gt (tgt := 22) hx hb dX2_paysForCrossing_15 (by decide) (fun c3 => ?_) (fun c3 => ?_)
      · have hok := hok.1 c3
        refine lv_iconst (v := 0) hx hb dX2_paysForCrossing_22 (by decide) ?_
        exact W.zret (v := 0) hx hb hr rfl (fun t ht hW => ⟨⟨0, (), rfl, hok, by rw [ht]; exact hP, va_K.moved hW.alike hK, hD⟩, hS.F ht⟩) hS.2.2 dX2_paysForCrossing_23
      · have hok := hok.2 c3
        refine lv_iconst (v := 1) hx hb dX2_paysForCrossing_18 (by decide) ?_
        refine lv_goto (tgt := 23) hx hb dX2_paysForCrossing_19 (by decide) ?_
        exact W.zret (v := 1) hx hb hr rfl (fun t ht hW => ⟨⟨1, (), rfl, hok, by rw [ht]; exact hP, va_K.moved hW.alike hK, hD⟩, hS.F ht⟩) hS.2.2 dX2_paysForCrossing_23
def wp_X4_accept (σ : S_Port) (a1 : Int32) (Φ : Int32 → S_Port → Prop) : Prop := (((σ.1 0) = (64 : Int32) → (Φ (-1) σ)) ∧ (¬ (σ.1 0) = (64 : Int32) → (((a1 < 0 → (Φ (-1) σ)) ∧ (¬ a1 < 0 → (((a1 ≤ (255 : Int32) → ((vp_in (((σ.1 4) + (σ.1 0)) &&& (63 : Int32)) 64 ∧ (Φ ((σ.1 0) + (1 : Int32)) (upd σ.1 0 ((σ.1 0) + (1 : Int32)), upd σ.2.1 (((σ.1 4) + (σ.1 0)) &&& (63 : Int32)).toNatClampNeg a1, σ.2.2))))) ∧ (¬ a1 ≤ (255 : Int32) → (Φ (-1) σ)))))))))
set_option maxHeartbeats 4000000 in
set_option maxRecDepth 100000 in
theorem c_X4_accept (l : Launch) (dC : Nat → ClassId) (dI : Nat → Nat → Nat) (cI cJ : ClassId) (h : Nat → Nat) (sz : Nat) {σ : S_Port} {a1 : Int32} {Φ : Int32 → S_Port → Prop} (hok : wp_X4_accept σ a1 Φ) : Met l yX4_accept wsX4_accept ({ frames := 0, cells := 0, slots := 0, locals := 0 }) (va_Pc [.ref (h 6), .int a1] (cpre dC dI cI cJ (w_Port h cI cJ σ) sz)) (va_Qi Φ (fun u => cpost dC dI cI cJ (va_A (w_Port h cI cJ σ) sz) (w_Port h cI cJ u)) (va_A (w_Port h cI cJ σ) sz)) 0 0 (va_A (w_Port h cI cJ σ) sz) := by
  refine Met.ofW (cc := cX4_accept) (maxL := 2) (ret := (some .int)) (by decide) rfl ?_
  intro p e s m args below meth c s₁ B hml hv
  obtain ⟨rfl, hsz, hP, hK, hD0⟩ := hv
  have hx := B.exec
  have hb := B.bytes
  have hr := B.returns
  have hts := atoms_spec (ws := wsX4_accept) B.pre
  have hown : s.vm.findClass RX4 = some m.cls := findClass_of_methodNamed B.named
  have hlocks := B.notSynchronized
  subst hsz
  have hD := hD0.self (sz := s.heap.size)
  generalize hAe : va_A (w_Port h cI cJ σ) s.heap.size = A at hD ⊢
  have hA : ∀ q : Nat, s.heap.size ≤ q → A q := fun q h => by rw [← hAe]; exact Or.inr h
  clear hD0 hAe
  have hS : va_S A s.heap s.heap [] := va_S.rf
  have hl := lv_entry ([.ref (h 6), .int a1]) (n := 2) (Nat.le_of_ble_eq_true rfl)
  rw [lg_entry_eq]
  generalize (lg_sl ([.ref (h 6), .int a1]) ++ List.replicate (2 - (lg_sl ([.ref (h 6), .int a1])).length) Slot.unset).toArray = ls at hl ⊢
  have hl : lv_has ls 2 [(0, .ref (h 6)), (1, .int a1)] := hl
  unfold wp_X4_accept at hok
  refine lv_aload_n hx hb dX4_accept_0 rfl (lv_at hl 0 rfl) ?_
  refine va_get (D := (dC, dI)) (ci := 3) (v := .int (σ.1 0)) (C := RX4) (T := TX4) (N := 6) hx hb hts (fun w h => List.mem_cons_of_mem _ (in_X4 w h)) hown hK hP 0 rfl rfl 0 (by decide) (hts _ (List.mem_cons_of_mem _ tw_1_76)) (fun _ h9 => h9) rfl dX4_accept_1 ?_
  refine lv_bipush (v := 64) hx hb dX4_accept_4 (by decide) ?_
  refine lv_icmp_eq (tgt := 20) hx hb dX4_accept_6 (by decide) (fun c1 => ?_) (fun c1 => ?_)
  · have hok := hok.1 c1
    refine lv_iconst (v := (-1)) hx hb dX4_accept_20 (by decide) ?_
    exact W.iret (v := (-1)) hx hb hr (fun t ht hW => ⟨⟨(-1), σ, rfl, hok, by rw [ht]; exact hP, va_K.moved hW.alike hK, hD⟩, hS.F ht⟩) hS.2.2 dX4_accept_21
  · have hok := hok.2 c1
    refine lv_iload_n hx hb dX4_accept_9 rfl (lv_at hl 1 rfl) ?_
    refine lv_if_lt (tgt := 20) hx hb dX4_accept_10 (by decide) (fun c2 => ?_) (fun c2 => ?_)
    · have hok := hok.1 c2
      refine lv_iconst (v := (-1)) hx hb dX4_accept_20 (by decide) ?_
      exact W.iret (v := (-1)) hx hb hr (fun t ht hW => ⟨⟨(-1), σ, rfl, hok, by rw [ht]; exact hP, va_K.moved hW.alike hK, hD⟩, hS.F ht⟩) hS.2.2 dX4_accept_21
    · have hok := hok.2 c2
      refine lv_iload_n hx hb dX4_accept_13 rfl (lv_at hl 1 rfl) ?_
      refine lv_sipush (v := 255) hx hb dX4_accept_14 (by decide) ?_
      refine lv_icmp_le (tgt := 22) hx hb dX4_accept_17 (by decide) (fun c3 => ?_) (fun c3 => ?_)
      · have hok := hok.1 c3
        refine lv_aload_n hx hb dX4_accept_22 rfl (lv_at hl 0 rfl) ?_
        refine va_get (D := (dC, dI)) (ci := 3) (v := .ref (h 7)) (C := RX4) (T := TX4) (N := 6) hx hb hts (fun w h => List.mem_cons_of_mem _ (in_X4 w h)) hown hK hP 0 rfl rfl 2 (by decide) (hts _ (List.mem_cons_of_mem _ tw_1_80)) (fun _ h9 => h9) rfl dX4_accept_23 ?_
        refine lv_aload_n hx hb dX4_accept_26 rfl (lv_at hl 0 rfl) ?_
        refine va_get (D := (dC, dI)) (ci := 3) (v := .int (σ.1 4)) (C := RX4) (T := TX4) (N := 6) hx hb hts (fun w h => List.mem_cons_of_mem _ (in_X4 w h)) hown hK hP 0 rfl rfl 4 (by decide) (hts _ (List.mem_cons_of_mem _ tw_1_82)) (fun _ h9 => h9) rfl dX4_accept_27 ?_
        refine lv_aload_n hx hb dX4_accept_30 rfl (lv_at hl 0 rfl) ?_
        refine va_get (D := (dC, dI)) (ci := 3) (v := .int (σ.1 0)) (C := RX4) (T := TX4) (N := 6) hx hb hts (fun w h => List.mem_cons_of_mem _ (in_X4 w h)) hown hK hP 0 rfl rfl 0 (by decide) (hts _ (List.mem_cons_of_mem _ tw_1_76)) (fun _ h9 => h9) rfl dX4_accept_31 ?_
        refine lv_iadd hx hb dX4_accept_34 ?_
        refine lv_bipush (v := 63) hx hb dX4_accept_35 (by decide) ?_
        refine lv_iand hx hb dX4_accept_37 ?_
        refine lv_iload_n hx hb dX4_accept_38 rfl (lv_at hl 1 rfl) ?_
        refine va_iast hx hb hK hP hD hS 1 0 rfl rfl hok.1 dX4_accept_39 (fun H locs hP hD hS => ?_)
        have hok := hok.2
        have hP : va_P (dC, dI) vwCl (w_Port h cI cJ (σ.1, upd σ.2.1 (((σ.1 4) + (σ.1 0)) &&& (63 : Int32)).toNatClampNeg a1, σ.2.2)) _ := hP
        have hD : va_D A (w_Port h cI cJ (σ.1, upd σ.2.1 (((σ.1 4) + (σ.1 0)) &&& (63 : Int32)).toNatClampNeg a1, σ.2.2)) := hD
        refine lv_aload_n hx hb dX4_accept_40 rfl (lv_at hl 0 rfl) ?_
        refine lv_dup hx hb dX4_accept_41 rfl ?_
        refine va_get (D := (dC, dI)) (ci := 3) (v := .int (σ.1 0)) (C := RX4) (T := TX4) (N := 6) hx hb hts (fun w h => List.mem_cons_of_mem _ (in_X4 w h)) hown hK hP 0 rfl rfl 0 (by decide) (hts _ (List.mem_cons_of_mem _ tw_1_76)) (fun _ h9 => h9) rfl dX4_accept_42 ?_
        refine lv_iconst (v := 1) hx hb dX4_accept_45 (by decide) ?_
        refine lv_iadd hx hb dX4_accept_46 ?_
        refine va_put (D := (dC, dI)) (ci := 3) (v := .int ((σ.1 0) + (1 : Int32))) (ty := .int) (C := RX4) (T := TX4) (N := 6) hx hb hts (fun w h => List.mem_cons_of_mem _ (in_X4 w h)) tyX4 tyX4_ok nmX4 hown hK hP hD hS 0 rfl rfl 0 (by decide) (hts _ (List.mem_cons_of_mem _ tw_1_76)) (fun _ h9 => h9) rfl (by decide +kernel) rfl rfl (Nat.le_of_ble_eq_true rfl) dX4_accept_47 (fun H locs hP hD hS => ?_)
        have hP : va_P (dC, dI) vwCl (w_Port h cI cJ (upd σ.1 0 ((σ.1 0) + (1 : Int32)), upd σ.2.1 (((σ.1 4) + (σ.1 0)) &&& (63 : Int32)).toNatClampNeg a1, σ.2.2)) _ := hP
        have hD : va_D A (w_Port h cI cJ (upd σ.1 0 ((σ.1 0) + (1 : Int32)), upd σ.2.1 (((σ.1 4) + (σ.1 0)) &&& (63 : Int32)).toNatClampNeg a1, σ.2.2)) := hD
        refine lv_aload_n hx hb dX4_accept_50 rfl (lv_at hl 0 rfl) ?_
        refine va_get (D := (dC, dI)) (ci := 3) (v := .int ((σ.1 0) + (1 : Int32))) (C := RX4) (T := TX4) (N := 6) hx hb hts (fun w h => List.mem_cons_of_mem _ (in_X4 w h)) hown hK hP 0 rfl rfl 0 (by decide) (hts _ (List.mem_cons_of_mem _ tw_1_76)) (fun _ h9 => h9) rfl dX4_accept_51 ?_
        exact W.iret (v := (σ.1 0) + (1 : Int32)) hx hb hr (fun t ht hW => ⟨⟨(σ.1 0) + (1 : Int32), (upd σ.1 0 ((σ.1 0) + (1 : Int32)), upd σ.2.1 (((σ.1 4) + (σ.1 0)) &&& (63 : Int32)).toNatClampNeg a1, σ.2.2), rfl, hok, by rw [ht]; exact hP, va_K.moved hW.alike hK, hD⟩, hS.F ht⟩) hS.2.2 dX4_accept_54
      · have hok := hok.2 c3
        refine lv_iconst (v := (-1)) hx hb dX4_accept_20 (by decide) ?_
        exact W.iret (v := (-1)) hx hb hr (fun t ht hW => ⟨⟨(-1), σ, rfl, hok, by rw [ht]; exact hP, va_K.moved hW.alike hK, hD⟩, hS.F ht⟩) hS.2.2 dX4_accept_21
def wp_X4_sentByte (σ : S_Port) (a1 : Int32) (Φ : Int32 → Prop) : Prop := ((a1 < 0 → (Φ (-1))) ∧ (¬ a1 < 0 → ((((σ.1 1) ≤ a1 → (Φ (-1))) ∧ (¬ (σ.1 1) ≤ a1 → (((((σ.1 1) - (256 : Int32)) ≤ a1 → ((vp_in (a1 &&& (255 : Int32)) 256 ∧ (Φ (σ.2.2 (a1 &&& (255 : Int32)).toNatClampNeg))))) ∧ (¬ ((σ.1 1) - (256 : Int32)) ≤ a1 → (Φ (-1))))))))))
set_option maxHeartbeats 4000000 in
set_option maxRecDepth 100000 in
theorem c_X4_sentByte (l : Launch) (dC : Nat → ClassId) (dI : Nat → Nat → Nat) (cI cJ : ClassId) (h : Nat → Nat) (sz : Nat) {σ : S_Port} {a1 : Int32} {Φ : Int32 → Prop} (hok : wp_X4_sentByte σ a1 Φ) : Met l yX4_sentByte wsX4_sentByte ({ frames := 0, cells := 0, slots := 0, locals := 0 }) (va_Pc [.ref (h 6), .int a1] (cpre dC dI cI cJ (w_Port h cI cJ σ) sz)) (va_Qi (fun (r : Int32) (_ : Unit) => Φ r) (fun _ => cpost dC dI cI cJ (va_A (w_Port h cI cJ σ) sz) (w_Port h cI cJ σ)) (va_A (w_Port h cI cJ σ) sz)) 0 0 (va_A (w_Port h cI cJ σ) sz) := by
  refine Met.ofW (cc := cX4_sentByte) (maxL := 2) (ret := (some .int)) (by decide) rfl ?_
  intro p e s m args below meth c s₁ B hml hv
  obtain ⟨rfl, hsz, hP, hK, hD0⟩ := hv
  have hx := B.exec
  have hb := B.bytes
  have hr := B.returns
  have hts := atoms_spec (ws := wsX4_sentByte) B.pre
  have hown : s.vm.findClass RX4 = some m.cls := findClass_of_methodNamed B.named
  have hlocks := B.notSynchronized
  subst hsz
  have hD := hD0.self (sz := s.heap.size)
  generalize hAe : va_A (w_Port h cI cJ σ) s.heap.size = A at hD ⊢
  have hA : ∀ q : Nat, s.heap.size ≤ q → A q := fun q h => by rw [← hAe]; exact Or.inr h
  clear hD0 hAe
  have hS : va_S A s.heap s.heap [] := va_S.rf
  have hl := lv_entry ([.ref (h 6), .int a1]) (n := 2) (Nat.le_of_ble_eq_true rfl)
  rw [lg_entry_eq]
  generalize (lg_sl ([.ref (h 6), .int a1]) ++ List.replicate (2 - (lg_sl ([.ref (h 6), .int a1])).length) Slot.unset).toArray = ls at hl ⊢
  have hl : lv_has ls 2 [(0, .ref (h 6)), (1, .int a1)] := hl
  unfold wp_X4_sentByte at hok
  refine lv_iload_n hx hb dX4_sentByte_0 rfl (lv_at hl 1 rfl) ?_
  refine lv_if_lt (tgt := 24) hx hb dX4_sentByte_1 (by decide) (fun c1 => ?_) (fun c1 => ?_)
  · have hok := hok.1 c1
    refine lv_iconst (v := (-1)) hx hb dX4_sentByte_24 (by decide) ?_
    exact W.iret (v := (-1)) hx hb hr (fun t ht hW => ⟨⟨(-1), (), rfl, hok, by rw [ht]; exact hP, va_K.moved hW.alike hK, hD⟩, hS.F ht⟩) hS.2.2 dX4_sentByte_25
  · have hok := hok.2 c1
    refine lv_iload_n hx hb dX4_sentByte_4 rfl (lv_at hl 1 rfl) ?_
    refine lv_aload_n hx hb dX4_sentByte_5 rfl (lv_at hl 0 rfl) ?_
    refine va_get (D := (dC, dI)) (ci := 3) (v := .int (σ.1 1)) (C := RX4) (T := TX4) (N := 6) hx hb hts (fun w h => List.mem_cons_of_mem _ (in_X4 w h)) hown hK hP 0 rfl rfl 1 (by decide) (hts _ (List.mem_cons_of_mem _ tw_1_78)) (fun _ h9 => h9) rfl dX4_sentByte_6 ?_
    refine lv_icmp_ge (tgt := 24) hx hb dX4_sentByte_9 (by decide) (fun c2 => ?_) (fun c2 => ?_)
    · have hok := hok.1 c2
      refine lv_iconst (v := (-1)) hx hb dX4_sentByte_24 (by decide) ?_
      exact W.iret (v := (-1)) hx hb hr (fun t ht hW => ⟨⟨(-1), (), rfl, hok, by rw [ht]; exact hP, va_K.moved hW.alike hK, hD⟩, hS.F ht⟩) hS.2.2 dX4_sentByte_25
    · have hok := hok.2 c2
      refine lv_iload_n hx hb dX4_sentByte_12 rfl (lv_at hl 1 rfl) ?_
      refine lv_aload_n hx hb dX4_sentByte_13 rfl (lv_at hl 0 rfl) ?_
      refine va_get (D := (dC, dI)) (ci := 3) (v := .int (σ.1 1)) (C := RX4) (T := TX4) (N := 6) hx hb hts (fun w h => List.mem_cons_of_mem _ (in_X4 w h)) hown hK hP 0 rfl rfl 1 (by decide) (hts _ (List.mem_cons_of_mem _ tw_1_78)) (fun _ h9 => h9) rfl dX4_sentByte_14 ?_
      refine lv_sipush (v := 256) hx hb dX4_sentByte_17 (by decide) ?_
      refine lv_isub hx hb dX4_sentByte_20 ?_
      refine lv_icmp_ge (tgt := 26) hx hb dX4_sentByte_21 (by decide) (fun c3 => ?_) (fun c3 => ?_)
      · have hok := hok.1 c3
        refine lv_aload_n hx hb dX4_sentByte_26 rfl (lv_at hl 0 rfl) ?_
        refine va_get (D := (dC, dI)) (ci := 3) (v := .ref (h 8)) (C := RX4) (T := TX4) (N := 6) hx hb hts (fun w h => List.mem_cons_of_mem _ (in_X4 w h)) hown hK hP 0 rfl rfl 3 (by decide) (hts _ (List.mem_cons_of_mem _ tw_1_81)) (fun _ h9 => h9) rfl dX4_sentByte_27 ?_
        refine lv_iload_n hx hb dX4_sentByte_30 rfl (lv_at hl 1 rfl) ?_
        refine lv_sipush (v := 255) hx hb dX4_sentByte_31 (by decide) ?_
        refine lv_iand hx hb dX4_sentByte_34 ?_
        refine va_iald hx hb hK hP 2 0 rfl rfl hok.1 dX4_sentByte_35 ?_
        have hok := hok.2
        exact W.iret (v := σ.2.2 (a1 &&& (255 : Int32)).toNatClampNeg) hx hb hr (fun t ht hW => ⟨⟨σ.2.2 (a1 &&& (255 : Int32)).toNatClampNeg, (), rfl, hok, by rw [ht]; exact hP, va_K.moved hW.alike hK, hD⟩, hS.F ht⟩) hS.2.2 dX4_sentByte_36
      · have hok := hok.2 c3
        refine lv_iconst (v := (-1)) hx hb dX4_sentByte_24 (by decide) ?_
        exact W.iret (v := (-1)) hx hb hr (fun t ht hW => ⟨⟨(-1), (), rfl, hok, by rw [ht]; exact hP, va_K.moved hW.alike hK, hD⟩, hS.F ht⟩) hS.2.2 dX4_sentByte_25
def wp_X7_note (σ : S_Trace) (a1 : Int32) (Φ : S_Trace → Prop) : Prop := (vp_in ((σ.1 0) &&& (31 : Int32)) 32 ∧ (Φ (upd σ.1 0 ((σ.1 0) + (1 : Int32)), upd σ.2 ((σ.1 0) &&& (31 : Int32)).toNatClampNeg a1)))
set_option maxHeartbeats 4000000 in
set_option maxRecDepth 100000 in
theorem c_X7_note (l : Launch) (dC : Nat → ClassId) (dI : Nat → Nat → Nat) (cI cJ : ClassId) (h : Nat → Nat) (sz : Nat) {σ : S_Trace} {a1 : Int32} {Φ : S_Trace → Prop} (hok : wp_X7_note σ a1 Φ) : Met l yX7_note wsX7_note ({ frames := 0, cells := 0, slots := 0, locals := 0 }) (va_Pc [.ref (h 2), .int a1] (cpre dC dI cI cJ (w_Trace h cI cJ σ) sz)) (va_Qv Φ (fun u => cpost dC dI cI cJ (va_A (w_Trace h cI cJ σ) sz) (w_Trace h cI cJ u)) (va_A (w_Trace h cI cJ σ) sz)) 0 0 (va_A (w_Trace h cI cJ σ) sz) := by
  refine Met.ofW (cc := cX7_note) (maxL := 2) (ret := none) (by decide) rfl ?_
  intro p e s m args below meth c s₁ B hml hv
  obtain ⟨rfl, hsz, hP, hK, hD0⟩ := hv
  have hx := B.exec
  have hb := B.bytes
  have hr := B.returns
  have hts := atoms_spec (ws := wsX7_note) B.pre
  have hown : s.vm.findClass RX7 = some m.cls := findClass_of_methodNamed B.named
  have hlocks := B.notSynchronized
  subst hsz
  have hD := hD0.self (sz := s.heap.size)
  generalize hAe : va_A (w_Trace h cI cJ σ) s.heap.size = A at hD ⊢
  have hA : ∀ q : Nat, s.heap.size ≤ q → A q := fun q h => by rw [← hAe]; exact Or.inr h
  clear hD0 hAe
  have hS : va_S A s.heap s.heap [] := va_S.rf
  have hl := lv_entry ([.ref (h 2), .int a1]) (n := 2) (Nat.le_of_ble_eq_true rfl)
  rw [lg_entry_eq]
  generalize (lg_sl ([.ref (h 2), .int a1]) ++ List.replicate (2 - (lg_sl ([.ref (h 2), .int a1])).length) Slot.unset).toArray = ls at hl ⊢
  have hl : lv_has ls 2 [(0, .ref (h 2)), (1, .int a1)] := hl
  unfold wp_X7_note at hok
  refine lv_aload_n hx hb dX7_note_0 rfl (lv_at hl 0 rfl) ?_
  refine va_get (D := (dC, dI)) (ci := 6) (v := .ref (h 3)) (C := RX7) (T := TX7) (N := 2) hx hb hts (fun w h => List.mem_cons_of_mem _ (in_X7 w h)) hown hK hP 0 rfl rfl 1 (by decide) (hts _ (List.mem_cons_of_mem _ tw_1_141)) (fun _ h9 => h9) rfl dX7_note_1 ?_
  refine lv_aload_n hx hb dX7_note_4 rfl (lv_at hl 0 rfl) ?_
  refine va_get (D := (dC, dI)) (ci := 6) (v := .int (σ.1 0)) (C := RX7) (T := TX7) (N := 2) hx hb hts (fun w h => List.mem_cons_of_mem _ (in_X7 w h)) hown hK hP 0 rfl rfl 0 (by decide) (hts _ (List.mem_cons_of_mem _ tw_1_139)) (fun _ h9 => h9) rfl dX7_note_5 ?_
  refine lv_bipush (v := 31) hx hb dX7_note_8 (by decide) ?_
  refine lv_iand hx hb dX7_note_10 ?_
  refine lv_iload_n hx hb dX7_note_11 rfl (lv_at hl 1 rfl) ?_
  refine va_iast hx hb hK hP hD hS 1 0 rfl rfl hok.1 dX7_note_12 (fun H locs hP hD hS => ?_)
  have hok := hok.2
  have hP : va_P (dC, dI) vwCl (w_Trace h cI cJ (σ.1, upd σ.2 ((σ.1 0) &&& (31 : Int32)).toNatClampNeg a1)) _ := hP
  have hD : va_D A (w_Trace h cI cJ (σ.1, upd σ.2 ((σ.1 0) &&& (31 : Int32)).toNatClampNeg a1)) := hD
  refine lv_aload_n hx hb dX7_note_13 rfl (lv_at hl 0 rfl) ?_
  refine lv_dup hx hb dX7_note_14 rfl ?_
  refine va_get (D := (dC, dI)) (ci := 6) (v := .int (σ.1 0)) (C := RX7) (T := TX7) (N := 2) hx hb hts (fun w h => List.mem_cons_of_mem _ (in_X7 w h)) hown hK hP 0 rfl rfl 0 (by decide) (hts _ (List.mem_cons_of_mem _ tw_1_139)) (fun _ h9 => h9) rfl dX7_note_15 ?_
  refine lv_iconst (v := 1) hx hb dX7_note_18 (by decide) ?_
  refine lv_iadd hx hb dX7_note_19 ?_
  refine va_put (D := (dC, dI)) (ci := 6) (v := .int ((σ.1 0) + (1 : Int32))) (ty := .int) (C := RX7) (T := TX7) (N := 2) hx hb hts (fun w h => List.mem_cons_of_mem _ (in_X7 w h)) tyX7 tyX7_ok nmX7 hown hK hP hD hS 0 rfl rfl 0 (by decide) (hts _ (List.mem_cons_of_mem _ tw_1_139)) (fun _ h9 => h9) rfl (by decide +kernel) rfl rfl (Nat.le_of_ble_eq_true rfl) dX7_note_20 (fun H locs hP hD hS => ?_)
  have hP : va_P (dC, dI) vwCl (w_Trace h cI cJ (upd σ.1 0 ((σ.1 0) + (1 : Int32)), upd σ.2 ((σ.1 0) &&& (31 : Int32)).toNatClampNeg a1)) _ := hP
  have hD : va_D A (w_Trace h cI cJ (upd σ.1 0 ((σ.1 0) + (1 : Int32)), upd σ.2 ((σ.1 0) &&& (31 : Int32)).toNatClampNeg a1)) := hD
  exact W.vret hx hb hr (fun t ht hW => ⟨⟨(upd σ.1 0 ((σ.1 0) + (1 : Int32)), upd σ.2 ((σ.1 0) &&& (31 : Int32)).toNatClampNeg a1), rfl, hok, by rw [ht]; exact hP, va_K.moved hW.alike hK, hD⟩, hS.F ht⟩) hS.2.2 dX7_note_23
def wp_X6_passOneOf1_48 (σ : S_Timers) (x1 : Int32) (s1 : Int32) (Φ : S_Timers → Prop) : Prop := (((σ 7) = 0 → (Φ (upd σ 0 s1))) ∧ (¬ (σ 7) = 0 → (((narrow .boolean (.int x1) = .int x1 ∧ fits .boolean (.int x1) = true) ∧ (Φ (upd (upd (upd σ 0 s1) 3 ((σ 3) ||| (64 : Int32))) 7 x1))))))
def wp_X6_passOneOf1_33 (σ : S_Timers) (s0 : Int32) (Φ : S_Timers → Prop) : Prop := ((s0 = 0 → (wp_X6_passOneOf1_48 σ s0 65535 Φ)) ∧ (¬ s0 = 0 → (wp_X6_passOneOf1_48 σ s0 (σ 2) Φ)))
def wp_X6_passOneOf1 (σ : S_Timers) (Φ : S_Timers → Prop) : Prop := (((σ 0) = 0 → (((((σ 6) &&& (64 : Int32)) = 0 → (wp_X6_passOneOf1_33 σ 0 Φ)) ∧ (¬ ((σ 6) &&& (64 : Int32)) = 0 → (wp_X6_passOneOf1_33 σ 1 Φ))))) ∧ (¬ (σ 0) = 0 → (Φ (upd σ 0 ((σ 0) - (1 : Int32))))))
set_option maxHeartbeats 4000000 in
set_option maxRecDepth 100000 in
theorem c_X6_passOneOf1 (l : Launch) (dC : Nat → ClassId) (dI : Nat → Nat → Nat) (cI cJ : ClassId) (h : Nat → Nat) (sz : Nat) {σ : S_Timers} {Φ : S_Timers → Prop} (hok : wp_X6_passOneOf1 σ Φ) : Met l yX6_passOneOf1 wsX6_passOneOf1 ({ frames := 0, cells := 0, slots := 0, locals := 0 }) (va_Pc [.ref (h 5)] (cpre dC dI cI cJ (w_Timers h cI cJ σ) sz)) (va_Qv Φ (fun u => cpost dC dI cI cJ (va_A (w_Timers h cI cJ σ) sz) (w_Timers h cI cJ u)) (va_A (w_Timers h cI cJ σ) sz)) 0 0 (va_A (w_Timers h cI cJ σ) sz) := by
  refine Met.ofW (cc := cX6_passOneOf1) (maxL := 2) (ret := none) (by decide) rfl ?_
  intro p e s m args below meth c s₁ B hml hv
  obtain ⟨rfl, hsz, hP, hK, hD0⟩ := hv
  have hx := B.exec
  have hb := B.bytes
  have hr := B.returns
  have hts := atoms_spec (ws := wsX6_passOneOf1) B.pre
  have hown : s.vm.findClass RX6 = some m.cls := findClass_of_methodNamed B.named
  have hlocks := B.notSynchronized
  subst hsz
  have hD := hD0.self (sz := s.heap.size)
  generalize hAe : va_A (w_Timers h cI cJ σ) s.heap.size = A at hD ⊢
  have hA : ∀ q : Nat, s.heap.size ≤ q → A q := fun q h => by rw [← hAe]; exact Or.inr h
  clear hD0 hAe
  have hS : va_S A s.heap s.heap [] := va_S.rf
  have b48 : ∀ (σ : S_Timers) (x1 : Int32) (s1 : Int32), wp_X6_passOneOf1_48 σ x1 s1 Φ → ∀ (H : Heap) (locs : List Loc), va_P (dC, dI) vwCl (w_Timers h cI cJ σ) H → va_D A (w_Timers h cI cJ σ) → va_S A s.heap H locs → ∀ ls : Array Slot, lv_has ls 2 [(0, .ref (h 5)), (1, .int x1)] → W p l e (headSpec wsX6_passOneOf1 { frames := 0, cells := 0, slots := 0, locals := 0 }).room s m ([.ref (h 5)] : List Value).toArray below meth c H locs 0 0 (MQ below (va_Qv Φ (fun u => cpost dC dI cI cJ A (w_Timers h cI cJ u)) A) ([.ref (h 5)] : List Value).toArray s 0 0 A) (F0 m 48 ls [.int s1, .ref (h 5)]) := by
    intro σ x1 s1 hok H locs hP hD hS ls hl
    unfold wp_X6_passOneOf1_48 at hok
    refine va_put (D := (dC, dI)) (ci := 5) (v := .int s1) (ty := .int) (C := RX6) (T := TX6) (N := 9) hx hb hts (fun w h => List.mem_cons_of_mem _ (in_X6 w h)) tyX6 tyX6_ok nmX6 hown hK hP hD hS 0 rfl rfl 0 (by decide) (hts _ (List.mem_cons_of_mem _ tw_1_37)) (fun _ h9 => h9) rfl (by decide +kernel) rfl rfl (Nat.le_of_ble_eq_true rfl) dX6_passOneOf1_48 (fun H locs hP hD hS => ?_)
    have hP : va_P (dC, dI) vwCl (w_Timers h cI cJ (upd σ 0 s1)) _ := hP
    have hD : va_D A (w_Timers h cI cJ (upd σ 0 s1)) := hD
    refine lv_aload_n hx hb dX6_passOneOf1_51 rfl (lv_at hl 0 rfl) ?_
    refine va_get (D := (dC, dI)) (ci := 5) (v := .int (σ 7)) (C := RX6) (T := TX6) (N := 9) hx hb hts (fun w h => List.mem_cons_of_mem _ (in_X6 w h)) hown hK hP 0 rfl rfl 7 (by decide) (hts _ (List.mem_cons_of_mem _ tw_1_49)) (fun _ h9 => h9) rfl dX6_passOneOf1_52 ?_
    refine lv_if_eq (tgt := 74) hx hb dX6_passOneOf1_55 (by decide) (fun c1 => ?_) (fun c1 => ?_)
    · have hok := hok.1 c1
      exact W.vret hx hb hr (fun t ht hW => ⟨⟨upd σ 0 s1, rfl, hok, by rw [ht]; exact hP, va_K.moved hW.alike hK, hD⟩, hS.F ht⟩) hS.2.2 dX6_passOneOf1_74
    · have hok := hok.2 c1
      refine lv_aload_n hx hb dX6_passOneOf1_58 rfl (lv_at hl 0 rfl) ?_
      refine lv_dup hx hb dX6_passOneOf1_59 rfl ?_
      refine va_get (D := (dC, dI)) (ci := 5) (v := .int (σ 3)) (C := RX6) (T := TX6) (N := 9) hx hb hts (fun w h => List.mem_cons_of_mem _ (in_X6 w h)) hown hK hP 0 rfl rfl 3 (by decide) (hts _ (List.mem_cons_of_mem _ tw_1_43)) (fun _ h9 => h9) rfl dX6_passOneOf1_60 ?_
      refine lv_bipush (v := 64) hx hb dX6_passOneOf1_63 (by decide) ?_
      refine lv_ior hx hb dX6_passOneOf1_65 ?_
      refine va_put (D := (dC, dI)) (ci := 5) (v := .int ((σ 3) ||| (64 : Int32))) (ty := .int) (C := RX6) (T := TX6) (N := 9) hx hb hts (fun w h => List.mem_cons_of_mem _ (in_X6 w h)) tyX6 tyX6_ok nmX6 hown hK hP hD hS 0 rfl rfl 3 (by decide) (hts _ (List.mem_cons_of_mem _ tw_1_43)) (fun _ h9 => h9) rfl (by decide +kernel) rfl rfl (Nat.le_of_ble_eq_true rfl) dX6_passOneOf1_66 (fun H locs hP hD hS => ?_)
      have hP : va_P (dC, dI) vwCl (w_Timers h cI cJ (upd (upd σ 0 s1) 3 ((σ 3) ||| (64 : Int32)))) _ := hP
      have hD : va_D A (w_Timers h cI cJ (upd (upd σ 0 s1) 3 ((σ 3) ||| (64 : Int32)))) := hD
      refine lv_aload_n hx hb dX6_passOneOf1_69 rfl (lv_at hl 0 rfl) ?_
      refine lv_iload_n hx hb dX6_passOneOf1_70 rfl (lv_at hl 1 rfl) ?_
      refine va_put (D := (dC, dI)) (ci := 5) (v := .int x1) (ty := .boolean) (C := RX6) (T := TX6) (N := 9) hx hb hts (fun w h => List.mem_cons_of_mem _ (in_X6 w h)) tyX6 tyX6_ok nmX6 hown hK hP hD hS 0 rfl rfl 7 (by decide) (hts _ (List.mem_cons_of_mem _ tw_1_49)) (fun _ h9 => h9) rfl (by decide +kernel) hok.1.1 hok.1.2 (Nat.le_of_ble_eq_true rfl) dX6_passOneOf1_71 (fun H locs hP hD hS => ?_)
      have hP : va_P (dC, dI) vwCl (w_Timers h cI cJ (upd (upd (upd σ 0 s1) 3 ((σ 3) ||| (64 : Int32))) 7 x1)) _ := hP
      have hD : va_D A (w_Timers h cI cJ (upd (upd (upd σ 0 s1) 3 ((σ 3) ||| (64 : Int32))) 7 x1)) := hD
      have hok := hok.2
      exact W.vret hx hb hr (fun t ht hW => ⟨⟨upd (upd (upd σ 0 s1) 3 ((σ 3) ||| (64 : Int32))) 7 x1, rfl, hok, by rw [ht]; exact hP, va_K.moved hW.alike hK, hD⟩, hS.F ht⟩) hS.2.2 dX6_passOneOf1_74
  have b33 : ∀ (σ : S_Timers) (s0 : Int32), wp_X6_passOneOf1_33 σ s0 Φ → ∀ (H : Heap) (locs : List Loc), va_P (dC, dI) vwCl (w_Timers h cI cJ σ) H → va_D A (w_Timers h cI cJ σ) → va_S A s.heap H locs → ∀ ls : Array Slot, lv_has ls 2 [(0, .ref (h 5))] → W p l e (headSpec wsX6_passOneOf1 { frames := 0, cells := 0, slots := 0, locals := 0 }).room s m ([.ref (h 5)] : List Value).toArray below meth c H locs 0 0 (MQ below (va_Qv Φ (fun u => cpost dC dI cI cJ A (w_Timers h cI cJ u)) A) ([.ref (h 5)] : List Value).toArray s 0 0 A) (F0 m 33 ls [.int s0]) := by
    intro σ s0 hok H locs hP hD hS ls hl
    unfold wp_X6_passOneOf1_33 at hok
    refine lv_istore_n (lv' := [(1, .int s0), (0, .ref (h 5))]) hx hb dX6_passOneOf1_33 rfl hl (by decide) rfl (fun ls hl => ?_)
    refine lv_aload_n hx hb dX6_passOneOf1_34 rfl (lv_at hl 1 rfl) ?_
    refine lv_iload_n hx hb dX6_passOneOf1_35 rfl (lv_at hl 0 rfl) ?_
    refine lv_if_eq (tgt := 46) hx hb dX6_passOneOf1_36 (by decide) (fun c2 => ?_) (fun c2 => ?_)
    · have hok := hok.1 c2
      refine lv_ldc (v := 65535) hx hb hown (hts _ (List.mem_cons_of_mem _ tw_1_36)) dX6_passOneOf1_46 ?_
      exact b48 σ s0 65535 hok _ _ hP hD hS _ (lv_sub hl [1, 0] rfl)
    · have hok := hok.2 c2
      refine lv_aload_n hx hb dX6_passOneOf1_39 rfl (lv_at hl 1 rfl) ?_
      refine va_get (D := (dC, dI)) (ci := 5) (v := .int (σ 2)) (C := RX6) (T := TX6) (N := 9) hx hb hts (fun w h => List.mem_cons_of_mem _ (in_X6 w h)) hown hK hP 0 rfl rfl 2 (by decide) (hts _ (List.mem_cons_of_mem _ tw_1_41)) (fun _ h9 => h9) rfl dX6_passOneOf1_40 ?_
      refine lv_goto (tgt := 48) hx hb dX6_passOneOf1_43 (by decide) ?_
      exact b48 σ s0 (σ 2) hok _ _ hP hD hS _ (lv_sub hl [1, 0] rfl)
  have hl := lv_entry ([.ref (h 5)]) (n := 2) (Nat.le_of_ble_eq_true rfl)
  rw [lg_entry_eq]
  generalize (lg_sl ([.ref (h 5)]) ++ List.replicate (2 - (lg_sl ([.ref (h 5)])).length) Slot.unset).toArray = ls at hl ⊢
  have hl : lv_has ls 2 [(0, .ref (h 5))] := hl
  unfold wp_X6_passOneOf1 at hok
  refine lv_aload_n hx hb dX6_passOneOf1_0 rfl (lv_at hl 0 rfl) ?_
  refine va_get (D := (dC, dI)) (ci := 5) (v := .int (σ 0)) (C := RX6) (T := TX6) (N := 9) hx hb hts (fun w h => List.mem_cons_of_mem _ (in_X6 w h)) hown hK hP 0 rfl rfl 0 (by decide) (hts _ (List.mem_cons_of_mem _ tw_1_37)) (fun _ h9 => h9) rfl dX6_passOneOf1_1 ?_
  refine lv_if_eq (tgt := 18) hx hb dX6_passOneOf1_4 (by decide) (fun c3 => ?_) (fun c3 => ?_)
  · have hok := hok.1 c3
    refine lv_aload_n hx hb dX6_passOneOf1_18 rfl (lv_at hl 0 rfl) ?_
    refine va_get (D := (dC, dI)) (ci := 5) (v := .int (σ 6)) (C := RX6) (T := TX6) (N := 9) hx hb hts (fun w h => List.mem_cons_of_mem _ (in_X6 w h)) hown hK hP 0 rfl rfl 6 (by decide) (hts _ (List.mem_cons_of_mem _ tw_1_48)) (fun _ h9 => h9) rfl dX6_passOneOf1_19 ?_
    refine lv_bipush (v := 64) hx hb dX6_passOneOf1_22 (by decide) ?_
    refine lv_iand hx hb dX6_passOneOf1_24 ?_
    refine lv_if_eq (tgt := 32) hx hb dX6_passOneOf1_25 (by decide) (fun c4 => ?_) (fun c4 => ?_)
    · have hok := hok.1 c4
      refine lv_iconst (v := 0) hx hb dX6_passOneOf1_32 (by decide) ?_
      exact b33 σ 0 hok _ _ hP hD hS _ (lv_sub hl [0] rfl)
    · have hok := hok.2 c4
      refine lv_iconst (v := 1) hx hb dX6_passOneOf1_28 (by decide) ?_
      refine lv_goto (tgt := 33) hx hb dX6_passOneOf1_29 (by decide) ?_
      exact b33 σ 1 hok _ _ hP hD hS _ (lv_sub hl [0] rfl)
  · have hok := hok.2 c3
    refine lv_aload_n hx hb dX6_passOneOf1_7 rfl (lv_at hl 0 rfl) ?_
    refine lv_dup hx hb dX6_passOneOf1_8 rfl ?_
    refine va_get (D := (dC, dI)) (ci := 5) (v := .int (σ 0)) (C := RX6) (T := TX6) (N := 9) hx hb hts (fun w h => List.mem_cons_of_mem _ (in_X6 w h)) hown hK hP 0 rfl rfl 0 (by decide) (hts _ (List.mem_cons_of_mem _ tw_1_37)) (fun _ h9 => h9) rfl dX6_passOneOf1_9 ?_
    refine lv_iconst (v := 1) hx hb dX6_passOneOf1_12 (by decide) ?_
    refine lv_isub hx hb dX6_passOneOf1_13 ?_
    refine va_put (D := (dC, dI)) (ci := 5) (v := .int ((σ 0) - (1 : Int32))) (ty := .int) (C := RX6) (T := TX6) (N := 9) hx hb hts (fun w h => List.mem_cons_of_mem _ (in_X6 w h)) tyX6 tyX6_ok nmX6 hown hK hP hD hS 0 rfl rfl 0 (by decide) (hts _ (List.mem_cons_of_mem _ tw_1_37)) (fun _ h9 => h9) rfl (by decide +kernel) rfl rfl (Nat.le_of_ble_eq_true rfl) dX6_passOneOf1_14 (fun H locs hP hD hS => ?_)
    have hP : va_P (dC, dI) vwCl (w_Timers h cI cJ (upd σ 0 ((σ 0) - (1 : Int32)))) _ := hP
    have hD : va_D A (w_Timers h cI cJ (upd σ 0 ((σ 0) - (1 : Int32)))) := hD
    exact W.vret hx hb hr (fun t ht hW => ⟨⟨upd σ 0 ((σ 0) - (1 : Int32)), rfl, hok, by rw [ht]; exact hP, va_K.moved hW.alike hK, hD⟩, hS.F ht⟩) hS.2.2 dX6_passOneOf1_17
def wp_X6_passOneOf2 (σ : S_Timers) (Φ : S_Timers → Prop) : Prop := (((σ 1) = 0 → ((((σ 8) = 0 → (Φ (upd σ 1 65535))) ∧ (¬ (σ 8) = 0 → (Φ (upd (upd (upd σ 1 65535) 3 ((σ 3) ||| (32 : Int32))) 8 0)))))) ∧ (¬ (σ 1) = 0 → (Φ (upd σ 1 ((σ 1) - (1 : Int32))))))
set_option maxHeartbeats 4000000 in
set_option maxRecDepth 100000 in
theorem c_X6_passOneOf2 (l : Launch) (dC : Nat → ClassId) (dI : Nat → Nat → Nat) (cI cJ : ClassId) (h : Nat → Nat) (sz : Nat) {σ : S_Timers} {Φ : S_Timers → Prop} (hok : wp_X6_passOneOf2 σ Φ) : Met l yX6_passOneOf2 wsX6_passOneOf2 ({ frames := 0, cells := 0, slots := 0, locals := 0 }) (va_Pc [.ref (h 5)] (cpre dC dI cI cJ (w_Timers h cI cJ σ) sz)) (va_Qv Φ (fun u => cpost dC dI cI cJ (va_A (w_Timers h cI cJ σ) sz) (w_Timers h cI cJ u)) (va_A (w_Timers h cI cJ σ) sz)) 0 0 (va_A (w_Timers h cI cJ σ) sz) := by
  refine Met.ofW (cc := cX6_passOneOf2) (maxL := 1) (ret := none) (by decide) rfl ?_
  intro p e s m args below meth c s₁ B hml hv
  obtain ⟨rfl, hsz, hP, hK, hD0⟩ := hv
  have hx := B.exec
  have hb := B.bytes
  have hr := B.returns
  have hts := atoms_spec (ws := wsX6_passOneOf2) B.pre
  have hown : s.vm.findClass RX6 = some m.cls := findClass_of_methodNamed B.named
  have hlocks := B.notSynchronized
  subst hsz
  have hD := hD0.self (sz := s.heap.size)
  generalize hAe : va_A (w_Timers h cI cJ σ) s.heap.size = A at hD ⊢
  have hA : ∀ q : Nat, s.heap.size ≤ q → A q := fun q h => by rw [← hAe]; exact Or.inr h
  clear hD0 hAe
  have hS : va_S A s.heap s.heap [] := va_S.rf
  have hl := lv_entry ([.ref (h 5)]) (n := 1) (Nat.le_of_ble_eq_true rfl)
  rw [lg_entry_eq]
  generalize (lg_sl ([.ref (h 5)]) ++ List.replicate (1 - (lg_sl ([.ref (h 5)])).length) Slot.unset).toArray = ls at hl ⊢
  have hl : lv_has ls 1 [(0, .ref (h 5))] := hl
  unfold wp_X6_passOneOf2 at hok
  refine lv_aload_n hx hb dX6_passOneOf2_0 rfl (lv_at hl 0 rfl) ?_
  refine va_get (D := (dC, dI)) (ci := 5) (v := .int (σ 1)) (C := RX6) (T := TX6) (N := 9) hx hb hts (fun w h => List.mem_cons_of_mem _ (in_X6 w h)) hown hK hP 0 rfl rfl 1 (by decide) (hts _ (List.mem_cons_of_mem _ tw_1_39)) (fun _ h9 => h9) rfl dX6_passOneOf2_1 ?_
  refine lv_if_eq (tgt := 18) hx hb dX6_passOneOf2_4 (by decide) (fun c1 => ?_) (fun c1 => ?_)
  · have hok := hok.1 c1
    refine lv_aload_n hx hb dX6_passOneOf2_18 rfl (lv_at hl 0 rfl) ?_
    refine lv_ldc (v := 65535) hx hb hown (hts _ (List.mem_cons_of_mem _ tw_1_36)) dX6_passOneOf2_19 ?_
    refine va_put (D := (dC, dI)) (ci := 5) (v := .int 65535) (ty := .int) (C := RX6) (T := TX6) (N := 9) hx hb hts (fun w h => List.mem_cons_of_mem _ (in_X6 w h)) tyX6 tyX6_ok nmX6 hown hK hP hD hS 0 rfl rfl 1 (by decide) (hts _ (List.mem_cons_of_mem _ tw_1_39)) (fun _ h9 => h9) rfl (by decide +kernel) rfl rfl (Nat.le_of_ble_eq_true rfl) dX6_passOneOf2_21 (fun H locs hP hD hS => ?_)
    have hP : va_P (dC, dI) vwCl (w_Timers h cI cJ (upd σ 1 65535)) _ := hP
    have hD : va_D A (w_Timers h cI cJ (upd σ 1 65535)) := hD
    refine lv_aload_n hx hb dX6_passOneOf2_24 rfl (lv_at hl 0 rfl) ?_
    refine va_get (D := (dC, dI)) (ci := 5) (v := .int (σ 8)) (C := RX6) (T := TX6) (N := 9) hx hb hts (fun w h => List.mem_cons_of_mem _ (in_X6 w h)) hown hK hP 0 rfl rfl 8 (by decide) (hts _ (List.mem_cons_of_mem _ tw_1_50)) (fun _ h9 => h9) rfl dX6_passOneOf2_25 ?_
    refine lv_if_eq (tgt := 47) hx hb dX6_passOneOf2_28 (by decide) (fun c2 => ?_) (fun c2 => ?_)
    · have hok := hok.1 c2
      exact W.vret hx hb hr (fun t ht hW => ⟨⟨upd σ 1 65535, rfl, hok, by rw [ht]; exact hP, va_K.moved hW.alike hK, hD⟩, hS.F ht⟩) hS.2.2 dX6_passOneOf2_47
    · have hok := hok.2 c2
      refine lv_aload_n hx hb dX6_passOneOf2_31 rfl (lv_at hl 0 rfl) ?_
      refine lv_dup hx hb dX6_passOneOf2_32 rfl ?_
      refine va_get (D := (dC, dI)) (ci := 5) (v := .int (σ 3)) (C := RX6) (T := TX6) (N := 9) hx hb hts (fun w h => List.mem_cons_of_mem _ (in_X6 w h)) hown hK hP 0 rfl rfl 3 (by decide) (hts _ (List.mem_cons_of_mem _ tw_1_43)) (fun _ h9 => h9) rfl dX6_passOneOf2_33 ?_
      refine lv_bipush (v := 32) hx hb dX6_passOneOf2_36 (by decide) ?_
      refine lv_ior hx hb dX6_passOneOf2_38 ?_
      refine va_put (D := (dC, dI)) (ci := 5) (v := .int ((σ 3) ||| (32 : Int32))) (ty := .int) (C := RX6) (T := TX6) (N := 9) hx hb hts (fun w h => List.mem_cons_of_mem _ (in_X6 w h)) tyX6 tyX6_ok nmX6 hown hK hP hD hS 0 rfl rfl 3 (by decide) (hts _ (List.mem_cons_of_mem _ tw_1_43)) (fun _ h9 => h9) rfl (by decide +kernel) rfl rfl (Nat.le_of_ble_eq_true rfl) dX6_passOneOf2_39 (fun H locs hP hD hS => ?_)
      have hP : va_P (dC, dI) vwCl (w_Timers h cI cJ (upd (upd σ 1 65535) 3 ((σ 3) ||| (32 : Int32)))) _ := hP
      have hD : va_D A (w_Timers h cI cJ (upd (upd σ 1 65535) 3 ((σ 3) ||| (32 : Int32)))) := hD
      refine lv_aload_n hx hb dX6_passOneOf2_42 rfl (lv_at hl 0 rfl) ?_
      refine lv_iconst (v := 0) hx hb dX6_passOneOf2_43 (by decide) ?_
      refine va_put (D := (dC, dI)) (ci := 5) (v := .int 0) (ty := .boolean) (C := RX6) (T := TX6) (N := 9) hx hb hts (fun w h => List.mem_cons_of_mem _ (in_X6 w h)) tyX6 tyX6_ok nmX6 hown hK hP hD hS 0 rfl rfl 8 (by decide) (hts _ (List.mem_cons_of_mem _ tw_1_50)) (fun _ h9 => h9) rfl (by decide +kernel) rfl rfl (Nat.le_of_ble_eq_true rfl) dX6_passOneOf2_44 (fun H locs hP hD hS => ?_)
      have hP : va_P (dC, dI) vwCl (w_Timers h cI cJ (upd (upd (upd σ 1 65535) 3 ((σ 3) ||| (32 : Int32))) 8 0)) _ := hP
      have hD : va_D A (w_Timers h cI cJ (upd (upd (upd σ 1 65535) 3 ((σ 3) ||| (32 : Int32))) 8 0)) := hD
      exact W.vret hx hb hr (fun t ht hW => ⟨⟨upd (upd (upd σ 1 65535) 3 ((σ 3) ||| (32 : Int32))) 8 0, rfl, hok, by rw [ht]; exact hP, va_K.moved hW.alike hK, hD⟩, hS.F ht⟩) hS.2.2 dX6_passOneOf2_47
  · have hok := hok.2 c1
    refine lv_aload_n hx hb dX6_passOneOf2_7 rfl (lv_at hl 0 rfl) ?_
    refine lv_dup hx hb dX6_passOneOf2_8 rfl ?_
    refine va_get (D := (dC, dI)) (ci := 5) (v := .int (σ 1)) (C := RX6) (T := TX6) (N := 9) hx hb hts (fun w h => List.mem_cons_of_mem _ (in_X6 w h)) hown hK hP 0 rfl rfl 1 (by decide) (hts _ (List.mem_cons_of_mem _ tw_1_39)) (fun _ h9 => h9) rfl dX6_passOneOf2_9 ?_
    refine lv_iconst (v := 1) hx hb dX6_passOneOf2_12 (by decide) ?_
    refine lv_isub hx hb dX6_passOneOf2_13 ?_
    refine va_put (D := (dC, dI)) (ci := 5) (v := .int ((σ 1) - (1 : Int32))) (ty := .int) (C := RX6) (T := TX6) (N := 9) hx hb hts (fun w h => List.mem_cons_of_mem _ (in_X6 w h)) tyX6 tyX6_ok nmX6 hown hK hP hD hS 0 rfl rfl 1 (by decide) (hts _ (List.mem_cons_of_mem _ tw_1_39)) (fun _ h9 => h9) rfl (by decide +kernel) rfl rfl (Nat.le_of_ble_eq_true rfl) dX6_passOneOf2_14 (fun H locs hP hD hS => ?_)
    have hP : va_P (dC, dI) vwCl (w_Timers h cI cJ (upd σ 1 ((σ 1) - (1 : Int32)))) _ := hP
    have hD : va_D A (w_Timers h cI cJ (upd σ 1 ((σ 1) - (1 : Int32)))) := hD
    exact W.vret hx hb hr (fun t ht hW => ⟨⟨upd σ 1 ((σ 1) - (1 : Int32)), rfl, hok, by rw [ht]; exact hP, va_K.moved hW.alike hK, hD⟩, hS.F ht⟩) hS.2.2 dX6_passOneOf2_17
def wp_X6_pass_61 : Nat → S_Timers → Int32 → Int32 → (S_Timers → Prop) → Prop
  | 0, _, _, _, _ => False
  | n + 1, σ, x1, x2, Φ => ((x1 ≤ x2 → (Φ σ)) ∧ (¬ x1 ≤ x2 → (wp_X6_passOneOf2 σ (fun u2 => ∀ v3 : Int32, v3 = x2 + 1 → wp_X6_pass_61 n u2 x1 v3 Φ))))
def wp_X6_pass_38 (σ : S_Timers) (x1 : Int32) (Φ : S_Timers → Prop) : Prop := (((σ 1) < x1 → ((∃ n, wp_X6_pass_61 n σ x1 0 Φ))) ∧ (¬ (σ 1) < x1 → (Φ (upd σ 1 ((σ 1) - x1)))))
def wp_X6_pass_23 : Nat → S_Timers → Int32 → Int32 → (S_Timers → Prop) → Prop
  | 0, _, _, _, _ => False
  | n + 1, σ, x1, x2, Φ => ((x1 ≤ x2 → (wp_X6_pass_38 σ x1 Φ)) ∧ (¬ x1 ≤ x2 → (wp_X6_passOneOf1 σ (fun u6 => ∀ v7 : Int32, v7 = x2 + 1 → wp_X6_pass_23 n u6 x1 v7 Φ))))
def wp_X6_pass (σ : S_Timers) (a1 : Int32) (Φ : S_Timers → Prop) : Prop := (((σ 0) < a1 → ((∃ n, wp_X6_pass_23 n σ a1 0 Φ))) ∧ (¬ (σ 0) < a1 → (wp_X6_pass_38 (upd σ 0 ((σ 0) - a1)) a1 Φ)))
set_option maxHeartbeats 4000000 in
set_option maxRecDepth 100000 in
theorem c_X6_pass (l : Launch) (dC : Nat → ClassId) (dI : Nat → Nat → Nat) (cI cJ : ClassId) (h : Nat → Nat) (sz : Nat) {σ : S_Timers} {a1 : Int32} {Φ : S_Timers → Prop} (hok : wp_X6_pass σ a1 Φ) : Met l yX6_pass wsX6_pass ({ frames := 1, cells := 0, slots := 0, locals := 21 }) (va_Pc [.ref (h 5), .int a1] (cpre dC dI cI cJ (w_Timers h cI cJ σ) sz)) (va_Qv Φ (fun u => cpost dC dI cI cJ (va_A (w_Timers h cI cJ σ) sz) (w_Timers h cI cJ u)) (va_A (w_Timers h cI cJ σ) sz)) 0 0 (va_A (w_Timers h cI cJ σ) sz) := by
  refine Met.ofW (cc := cX6_pass) (maxL := 3) (ret := none) (by decide) rfl ?_
  intro p e s m args below meth c s₁ B hml hv
  obtain ⟨rfl, hsz, hP, hK, hD0⟩ := hv
  have hx := B.exec
  have hb := B.bytes
  have hr := B.returns
  have hts := atoms_spec (ws := wsX6_pass) B.pre
  have hown : s.vm.findClass RX6 = some m.cls := findClass_of_methodNamed B.named
  have hlocks := B.notSynchronized
  subst hsz
  have hD := hD0.self (sz := s.heap.size)
  generalize hAe : va_A (w_Timers h cI cJ σ) s.heap.size = A at hD ⊢
  have hA : ∀ q : Nat, s.heap.size ≤ q → A q := fun q h => by rw [← hAe]; exact Or.inr h
  clear hD0 hAe
  have hS : va_S A s.heap s.heap [] := va_S.rf
  have b61 : ∀ (n : Nat) (σ : S_Timers) (x1 : Int32) (x2 : Int32), wp_X6_pass_61 n σ x1 x2 Φ → ∀ (H : Heap) (locs : List Loc), va_P (dC, dI) vwCl (w_Timers h cI cJ σ) H → va_D A (w_Timers h cI cJ σ) → va_S A s.heap H locs → ∀ ls : Array Slot, lv_has ls 3 [(0, .ref (h 5)), (1, .int x1), (2, .int x2)] → W p l e (headSpec wsX6_pass { frames := 1, cells := 0, slots := 0, locals := 21 }).room s m ([.ref (h 5), .int a1] : List Value).toArray below meth c H locs 0 0 (MQ below (va_Qv Φ (fun u => cpost dC dI cI cJ A (w_Timers h cI cJ u)) A) ([.ref (h 5), .int a1] : List Value).toArray s 0 0 A) (F0 m 61 ls []) := by
    intro n
    induction n with
    | zero =>
      intro σ x1 x2 hok
      exact hok.elim
    | succ n ih =>
      intro σ x1 x2 hok H locs hP hD hS ls hl
      rw [wp_X6_pass_61] at hok
      refine lv_iload_n hx hb dX6_pass_61 rfl (lv_at hl 2 rfl) ?_
      refine lv_iload_n hx hb dX6_pass_62 rfl (lv_at hl 1 rfl) ?_
      refine lv_icmp_ge (tgt := 76) hx hb dX6_pass_63 (by decide) (fun c1 => ?_) (fun c1 => ?_)
      · have hok := hok.1 c1
        exact W.vret hx hb hr (fun t ht hW => ⟨⟨σ, rfl, hok, by rw [ht]; exact hP, va_K.moved hW.alike hK, hD⟩, hS.F ht⟩) hS.2.2 dX6_pass_76
      · have hok := hok.2 c1
        refine lv_aload_n hx hb dX6_pass_66 rfl (lv_at hl 0 rfl) ?_
        have hPc := hP
        have hDc := hD
        have hFc := va_free (wc := w_Timers h cI cJ σ) hD hS hA [0] rfl
        refine va_callv (va_runV (As := []) (rest := []) ⟨hx, hb, hml, hown, hts⟩ (c_X6_passOneOf2 l dC dI cI cJ h _ hok) (cwV 0 hts (tb_gV tw_2_233 tw_2_235 tw_p_32 tw_1_3 tw_2_236) rfl rfl rfl (by decide +kernel) ⟨Nat.le_of_ble_eq_true rfl, Nat.le_of_ble_eq_true rfl⟩) (cpre_V (ci := 5) (q0 := 0) hK hPc hDc rfl rfl) rfl rfl hl.1 rfl (lv_room (Nat.le_of_ble_eq_true rfl)) dX6_pass_67 ⟨Nat.le_of_ble_eq_true rfl, Nat.le_of_ble_eq_true rfl⟩) hS (fun q _ h => hFc q h) hFc (fun u2 t H1 locs ht hvm hok hB hz1 hk1 hS => ?_)
        obtain ⟨hP, hD⟩ := cjoin_w ht hB hFc
        obtain ⟨v3, ev3⟩ : ∃ y : Int32, y = x2 + 1 := ⟨_, rfl⟩
        have hok := hok v3 ev3
        refine lv_iinc (v := v3) (lv' := [(2, .int v3), (0, .ref (h 5)), (1, .int x1)]) hx hb dX6_pass_70 hl (k := 2) rfl (by rw [ev3]; rfl) (by decide) rfl (fun ls hl => ?_)
        refine lv_goto (tgt := 61) hx hb dX6_pass_73 (by decide) ?_
        exact ih u2 x1 v3 hok _ _ hP hD hS _ (lv_sub hl [1, 2, 0] rfl)
  have b38 : ∀ (σ : S_Timers) (x1 : Int32), wp_X6_pass_38 σ x1 Φ → ∀ (H : Heap) (locs : List Loc), va_P (dC, dI) vwCl (w_Timers h cI cJ σ) H → va_D A (w_Timers h cI cJ σ) → va_S A s.heap H locs → ∀ ls : Array Slot, lv_has ls 3 [(0, .ref (h 5)), (1, .int x1)] → W p l e (headSpec wsX6_pass { frames := 1, cells := 0, slots := 0, locals := 21 }).room s m ([.ref (h 5), .int a1] : List Value).toArray below meth c H locs 0 0 (MQ below (va_Qv Φ (fun u => cpost dC dI cI cJ A (w_Timers h cI cJ u)) A) ([.ref (h 5), .int a1] : List Value).toArray s 0 0 A) (F0 m 38 ls []) := by
    intro σ x1 hok H locs hP hD hS ls hl
    unfold wp_X6_pass_38 at hok
    refine lv_aload_n hx hb dX6_pass_38 rfl (lv_at hl 0 rfl) ?_
    refine va_get (D := (dC, dI)) (ci := 5) (v := .int (σ 1)) (C := RX6) (T := TX6) (N := 9) hx hb hts (fun w h => List.mem_cons_of_mem _ (in_X6 w h)) hown hK hP 0 rfl rfl 1 (by decide) (hts _ (List.mem_cons_of_mem _ tw_1_39)) (fun _ h9 => h9) rfl dX6_pass_39 ?_
    refine lv_iload_n hx hb dX6_pass_42 rfl (lv_at hl 1 rfl) ?_
    refine lv_icmp_lt (tgt := 59) hx hb dX6_pass_43 (by decide) (fun c4 => ?_) (fun c4 => ?_)
    · have hok := hok.1 c4
      refine lv_iconst (v := 0) hx hb dX6_pass_59 (by decide) ?_
      refine lv_istore_n (lv' := [(2, .int 0), (0, .ref (h 5)), (1, .int x1)]) hx hb dX6_pass_60 rfl hl (by decide) rfl (fun ls hl => ?_)
      obtain ⟨n, hok⟩ := hok
      exact b61 n σ x1 0 hok _ _ hP hD hS _ (lv_sub hl [1, 2, 0] rfl)
    · have hok := hok.2 c4
      refine lv_aload_n hx hb dX6_pass_46 rfl (lv_at hl 0 rfl) ?_
      refine lv_dup hx hb dX6_pass_47 rfl ?_
      refine va_get (D := (dC, dI)) (ci := 5) (v := .int (σ 1)) (C := RX6) (T := TX6) (N := 9) hx hb hts (fun w h => List.mem_cons_of_mem _ (in_X6 w h)) hown hK hP 0 rfl rfl 1 (by decide) (hts _ (List.mem_cons_of_mem _ tw_1_39)) (fun _ h9 => h9) rfl dX6_pass_48 ?_
      refine lv_iload_n hx hb dX6_pass_51 rfl (lv_at hl 1 rfl) ?_
      refine lv_isub hx hb dX6_pass_52 ?_
      refine va_put (D := (dC, dI)) (ci := 5) (v := .int ((σ 1) - x1)) (ty := .int) (C := RX6) (T := TX6) (N := 9) hx hb hts (fun w h => List.mem_cons_of_mem _ (in_X6 w h)) tyX6 tyX6_ok nmX6 hown hK hP hD hS 0 rfl rfl 1 (by decide) (hts _ (List.mem_cons_of_mem _ tw_1_39)) (fun _ h9 => h9) rfl (by decide +kernel) rfl rfl (Nat.le_of_ble_eq_true rfl) dX6_pass_53 (fun H locs hP hD hS => ?_)
      have hP : va_P (dC, dI) vwCl (w_Timers h cI cJ (upd σ 1 ((σ 1) - x1))) _ := hP
      have hD : va_D A (w_Timers h cI cJ (upd σ 1 ((σ 1) - x1))) := hD
      refine lv_goto (tgt := 76) hx hb dX6_pass_56 (by decide) ?_
      exact W.vret hx hb hr (fun t ht hW => ⟨⟨upd σ 1 ((σ 1) - x1), rfl, hok, by rw [ht]; exact hP, va_K.moved hW.alike hK, hD⟩, hS.F ht⟩) hS.2.2 dX6_pass_76
  have b23 : ∀ (n : Nat) (σ : S_Timers) (x1 : Int32) (x2 : Int32), wp_X6_pass_23 n σ x1 x2 Φ → ∀ (H : Heap) (locs : List Loc), va_P (dC, dI) vwCl (w_Timers h cI cJ σ) H → va_D A (w_Timers h cI cJ σ) → va_S A s.heap H locs → ∀ ls : Array Slot, lv_has ls 3 [(0, .ref (h 5)), (1, .int x1), (2, .int x2)] → W p l e (headSpec wsX6_pass { frames := 1, cells := 0, slots := 0, locals := 21 }).room s m ([.ref (h 5), .int a1] : List Value).toArray below meth c H locs 0 0 (MQ below (va_Qv Φ (fun u => cpost dC dI cI cJ A (w_Timers h cI cJ u)) A) ([.ref (h 5), .int a1] : List Value).toArray s 0 0 A) (F0 m 23 ls []) := by
    intro n
    induction n with
    | zero =>
      intro σ x1 x2 hok
      exact hok.elim
    | succ n ih =>
      intro σ x1 x2 hok H locs hP hD hS ls hl
      rw [wp_X6_pass_23] at hok
      refine lv_iload_n hx hb dX6_pass_23 rfl (lv_at hl 2 rfl) ?_
      refine lv_iload_n hx hb dX6_pass_24 rfl (lv_at hl 1 rfl) ?_
      refine lv_icmp_ge (tgt := 38) hx hb dX6_pass_25 (by decide) (fun c5 => ?_) (fun c5 => ?_)
      · have hok := hok.1 c5
        exact b38 σ x1 hok _ _ hP hD hS _ (lv_sub hl [0, 1] rfl)
      · have hok := hok.2 c5
        refine lv_aload_n hx hb dX6_pass_28 rfl (lv_at hl 0 rfl) ?_
        have hPc := hP
        have hDc := hD
        have hFc := va_free (wc := w_Timers h cI cJ σ) hD hS hA [0] rfl
        refine va_callv (va_runV (As := []) (rest := []) ⟨hx, hb, hml, hown, hts⟩ (c_X6_passOneOf1 l dC dI cI cJ h _ hok) (cwV 0 hts (tb_gV tw_2_229 tw_2_231 tw_p_31 tw_1_3 tw_2_232) rfl rfl rfl (by decide +kernel) ⟨Nat.le_of_ble_eq_true rfl, Nat.le_of_ble_eq_true rfl⟩) (cpre_V (ci := 5) (q0 := 0) hK hPc hDc rfl rfl) rfl rfl hl.1 rfl (lv_room (Nat.le_of_ble_eq_true rfl)) dX6_pass_29 ⟨Nat.le_of_ble_eq_true rfl, Nat.le_of_ble_eq_true rfl⟩) hS (fun q _ h => hFc q h) hFc (fun u6 t H1 locs ht hvm hok hB hz1 hk1 hS => ?_)
        obtain ⟨hP, hD⟩ := cjoin_w ht hB hFc
        obtain ⟨v7, ev7⟩ : ∃ y : Int32, y = x2 + 1 := ⟨_, rfl⟩
        have hok := hok v7 ev7
        refine lv_iinc (v := v7) (lv' := [(2, .int v7), (0, .ref (h 5)), (1, .int x1)]) hx hb dX6_pass_32 hl (k := 2) rfl (by rw [ev7]; rfl) (by decide) rfl (fun ls hl => ?_)
        refine lv_goto (tgt := 23) hx hb dX6_pass_35 (by decide) ?_
        exact ih u6 x1 v7 hok _ _ hP hD hS _ (lv_sub hl [1, 2, 0] rfl)
  have hl := lv_entry ([.ref (h 5), .int a1]) (n := 3) (Nat.le_of_ble_eq_true rfl)
  rw [lg_entry_eq]
  generalize (lg_sl ([.ref (h 5), .int a1]) ++ List.replicate (3 - (lg_sl ([.ref (h 5), .int a1])).length) Slot.unset).toArray = ls at hl ⊢
  have hl : lv_has ls 3 [(0, .ref (h 5)), (1, .int a1)] := hl
  unfold wp_X6_pass at hok
  refine lv_aload_n hx hb dX6_pass_0 rfl (lv_at hl 0 rfl) ?_
  refine va_get (D := (dC, dI)) (ci := 5) (v := .int (σ 0)) (C := RX6) (T := TX6) (N := 9) hx hb hts (fun w h => List.mem_cons_of_mem _ (in_X6 w h)) hown hK hP 0 rfl rfl 0 (by decide) (hts _ (List.mem_cons_of_mem _ tw_1_37)) (fun _ h9 => h9) rfl dX6_pass_1 ?_
  refine lv_iload_n hx hb dX6_pass_4 rfl (lv_at hl 1 rfl) ?_
  refine lv_icmp_lt (tgt := 21) hx hb dX6_pass_5 (by decide) (fun c8 => ?_) (fun c8 => ?_)
  · have hok := hok.1 c8
    refine lv_iconst (v := 0) hx hb dX6_pass_21 (by decide) ?_
    refine lv_istore_n (lv' := [(2, .int 0), (0, .ref (h 5)), (1, .int a1)]) hx hb dX6_pass_22 rfl hl (by decide) rfl (fun ls hl => ?_)
    obtain ⟨n, hok⟩ := hok
    exact b23 n σ a1 0 hok _ _ hP hD hS _ (lv_sub hl [1, 2, 0] rfl)
  · have hok := hok.2 c8
    refine lv_aload_n hx hb dX6_pass_8 rfl (lv_at hl 0 rfl) ?_
    refine lv_dup hx hb dX6_pass_9 rfl ?_
    refine va_get (D := (dC, dI)) (ci := 5) (v := .int (σ 0)) (C := RX6) (T := TX6) (N := 9) hx hb hts (fun w h => List.mem_cons_of_mem _ (in_X6 w h)) hown hK hP 0 rfl rfl 0 (by decide) (hts _ (List.mem_cons_of_mem _ tw_1_37)) (fun _ h9 => h9) rfl dX6_pass_10 ?_
    refine lv_iload_n hx hb dX6_pass_13 rfl (lv_at hl 1 rfl) ?_
    refine lv_isub hx hb dX6_pass_14 ?_
    refine va_put (D := (dC, dI)) (ci := 5) (v := .int ((σ 0) - a1)) (ty := .int) (C := RX6) (T := TX6) (N := 9) hx hb hts (fun w h => List.mem_cons_of_mem _ (in_X6 w h)) tyX6 tyX6_ok nmX6 hown hK hP hD hS 0 rfl rfl 0 (by decide) (hts _ (List.mem_cons_of_mem _ tw_1_37)) (fun _ h9 => h9) rfl (by decide +kernel) rfl rfl (Nat.le_of_ble_eq_true rfl) dX6_pass_15 (fun H locs hP hD hS => ?_)
    have hP : va_P (dC, dI) vwCl (w_Timers h cI cJ (upd σ 0 ((σ 0) - a1))) _ := hP
    have hD : va_D A (w_Timers h cI cJ (upd σ 0 ((σ 0) - a1))) := hD
    refine lv_goto (tgt := 38) hx hb dX6_pass_18 (by decide) ?_
    exact b38 (upd σ 0 ((σ 0) - a1)) a1 hok _ _ hP hD hS _ (lv_sub hl [0, 1] rfl)
def wp_X7_kept (σ : S_Trace) (a1 : Int32) (Φ : Int32 → Prop) : Prop := ((a1 < 0 → (Φ (-1))) ∧ (¬ a1 < 0 → (((a1 < (if 32 < σ.1 0 then 32 else σ.1 0) → (∀ v3 : Int32, v3 = ((σ.1 0) - (if 32 < σ.1 0 then 32 else σ.1 0)) + a1 → (vp_in (v3 &&& (31 : Int32)) 32 ∧ (Φ (σ.2 (v3 &&& (31 : Int32)).toNatClampNeg))))) ∧ (¬ a1 < (if 32 < σ.1 0 then 32 else σ.1 0) → (Φ (-1)))))))
set_option maxHeartbeats 4000000 in
set_option maxRecDepth 100000 in
theorem c_X7_kept (l : Launch) (dC : Nat → ClassId) (dI : Nat → Nat → Nat) (cI cJ : ClassId) (h : Nat → Nat) (sz : Nat) {σ : S_Trace} {a1 : Int32} {Φ : Int32 → Prop} (hok : wp_X7_kept σ a1 Φ) : Met l yX7_kept wsX7_kept ({ frames := 1, cells := 0, slots := 0, locals := 21 }) (va_Pc [.ref (h 2), .int a1] (cpre dC dI cI cJ (w_Trace h cI cJ σ) sz)) (va_Qi (fun (r : Int32) (_ : Unit) => Φ r) (fun _ => cpost dC dI cI cJ (va_A (w_Trace h cI cJ σ) sz) (w_Trace h cI cJ σ)) (va_A (w_Trace h cI cJ σ) sz)) 0 0 (va_A (w_Trace h cI cJ σ) sz) := by
  refine Met.ofW (cc := cX7_kept) (maxL := 3) (ret := (some .int)) (by decide) rfl ?_
  intro p e s m args below meth c s₁ B hml hv
  obtain ⟨rfl, hsz, hP, hK, hD0⟩ := hv
  have hx := B.exec
  have hb := B.bytes
  have hr := B.returns
  have hts := atoms_spec (ws := wsX7_kept) B.pre
  have hown : s.vm.findClass RX7 = some m.cls := findClass_of_methodNamed B.named
  have hlocks := B.notSynchronized
  subst hsz
  have hD := hD0.self (sz := s.heap.size)
  generalize hAe : va_A (w_Trace h cI cJ σ) s.heap.size = A at hD ⊢
  have hA : ∀ q : Nat, s.heap.size ≤ q → A q := fun q h => by rw [← hAe]; exact Or.inr h
  clear hD0 hAe
  have hS : va_S A s.heap s.heap [] := va_S.rf
  have hl := lv_entry ([.ref (h 2), .int a1]) (n := 3) (Nat.le_of_ble_eq_true rfl)
  rw [lg_entry_eq]
  generalize (lg_sl ([.ref (h 2), .int a1]) ++ List.replicate (3 - (lg_sl ([.ref (h 2), .int a1])).length) Slot.unset).toArray = ls at hl ⊢
  have hl : lv_has ls 3 [(0, .ref (h 2)), (1, .int a1)] := hl
  unfold wp_X7_kept at hok
  refine lv_aload_n hx hb dX7_kept_0 rfl (lv_at hl 0 rfl) ?_
  refine va_get (D := (dC, dI)) (ci := 6) (v := .int (σ.1 0)) (C := RX7) (T := TX7) (N := 2) hx hb hts (fun w h => List.mem_cons_of_mem _ (in_X7 w h)) hown hK hP 0 rfl rfl 0 (by decide) (hts _ (List.mem_cons_of_mem _ tw_1_139)) (fun _ h9 => h9) rfl dX7_kept_1 ?_
  refine lv_bipush (v := 32) hx hb dX7_kept_4 (by decide) ?_
  refine va_mmin hx hb (hml.trans hl.1.symm) hown (hts _ (List.mem_cons_of_mem _ tw_3_57)) (hts _ (List.mem_cons_of_mem _ tw_3_58)) (hts _ (List.mem_cons_of_mem _ tw_1_15)) (hts _ (List.mem_cons_of_mem _ tw_3_59)) (Nat.le_of_ble_eq_true rfl) (Nat.le_of_ble_eq_true rfl) (Nat.le_of_ble_eq_true rfl) (Nat.le_of_ble_eq_true rfl) dX7_kept_6 ?_
  refine lv_istore_n (lv' := [(2, .int (if 32 < σ.1 0 then 32 else σ.1 0)), (0, .ref (h 2)), (1, .int a1)]) hx hb dX7_kept_9 rfl hl (by decide) rfl (fun ls hl => ?_)
  refine lv_iload_n hx hb dX7_kept_10 rfl (lv_at hl 2 rfl) ?_
  refine lv_if_lt (tgt := 19) hx hb dX7_kept_11 (by decide) (fun c1 => ?_) (fun c1 => ?_)
  · have hok := hok.1 c1
    refine lv_iconst (v := (-1)) hx hb dX7_kept_19 (by decide) ?_
    refine lv_goto (tgt := 39) hx hb dX7_kept_20 (by decide) ?_
    exact W.iret (v := (-1)) hx hb hr (fun t ht hW => ⟨⟨(-1), (), rfl, hok, by rw [ht]; exact hP, va_K.moved hW.alike hK, hD⟩, hS.F ht⟩) hS.2.2 dX7_kept_39
  · have hok := hok.2 c1
    refine lv_iload_n hx hb dX7_kept_14 rfl (lv_at hl 2 rfl) ?_
    refine lv_iload_n hx hb dX7_kept_15 rfl (lv_at hl 0 rfl) ?_
    refine lv_icmp_lt (tgt := 23) hx hb dX7_kept_16 (by decide) (fun c2 => ?_) (fun c2 => ?_)
    · have hok := hok.1 c2
      refine lv_aload_n hx hb dX7_kept_23 rfl (lv_at hl 1 rfl) ?_
      refine va_get (D := (dC, dI)) (ci := 6) (v := .ref (h 3)) (C := RX7) (T := TX7) (N := 2) hx hb hts (fun w h => List.mem_cons_of_mem _ (in_X7 w h)) hown hK hP 0 rfl rfl 1 (by decide) (hts _ (List.mem_cons_of_mem _ tw_1_141)) (fun _ h9 => h9) rfl dX7_kept_24 ?_
      refine lv_aload_n hx hb dX7_kept_27 rfl (lv_at hl 1 rfl) ?_
      refine va_get (D := (dC, dI)) (ci := 6) (v := .int (σ.1 0)) (C := RX7) (T := TX7) (N := 2) hx hb hts (fun w h => List.mem_cons_of_mem _ (in_X7 w h)) hown hK hP 0 rfl rfl 0 (by decide) (hts _ (List.mem_cons_of_mem _ tw_1_139)) (fun _ h9 => h9) rfl dX7_kept_28 ?_
      refine lv_iload_n hx hb dX7_kept_31 rfl (lv_at hl 0 rfl) ?_
      refine lv_isub hx hb dX7_kept_32 ?_
      refine lv_iload_n hx hb dX7_kept_33 rfl (lv_at hl 2 rfl) ?_
      refine lv_iadd hx hb dX7_kept_34 ?_
      refine lv_topi (fun v3 ev3 => ?_)
      have hok := hok v3 ev3
      refine lv_bipush (v := 31) hx hb dX7_kept_35 (by decide) ?_
      refine lv_iand hx hb dX7_kept_37 ?_
      refine va_iald hx hb hK hP 1 0 rfl rfl hok.1 dX7_kept_38 ?_
      have hok := hok.2
      exact W.iret (v := σ.2 (v3 &&& (31 : Int32)).toNatClampNeg) hx hb hr (fun t ht hW => ⟨⟨σ.2 (v3 &&& (31 : Int32)).toNatClampNeg, (), rfl, hok, by rw [ht]; exact hP, va_K.moved hW.alike hK, hD⟩, hS.F ht⟩) hS.2.2 dX7_kept_39
    · have hok := hok.2 c2
      refine lv_iconst (v := (-1)) hx hb dX7_kept_19 (by decide) ?_
      refine lv_goto (tgt := 39) hx hb dX7_kept_20 (by decide) ?_
      exact W.iret (v := (-1)) hx hb hr (fun t ht hW => ⟨⟨(-1), (), rfl, hok, by rw [ht]; exact hP, va_K.moved hW.alike hK, hD⟩, hS.F ht⟩) hS.2.2 dX7_kept_39
