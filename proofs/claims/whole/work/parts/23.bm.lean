def wp_X8_reset (σ : S_BM) (Φ : S_BM → Prop) : Prop := wp_X0_restart σ.1.2.2.2 (fun u1 => wp_X5_restart (σ.1.1, σ.1.2.1, σ.1.2.2.1, u1) (fun u2 => Φ (u2, σ.2)))
set_option maxHeartbeats 4000000 in
set_option maxRecDepth 100000 in
theorem c_X8_reset (l : Launch) (dC : Nat → ClassId) (dI : Nat → Nat → Nat) (cI cJ : ClassId) (h : Nat → Nat) (sz : Nat) {σ : S_BM} {Φ : S_BM → Prop} (hok : wp_X8_reset σ Φ) : Met l yX8_reset wsX8_reset ({ frames := 5, cells := 0, slots := 0, locals := 106 }) (va_Pc [.ref (h 0)] (cpre dC dI cI cJ (w_BM h cI cJ σ) sz)) (va_Qv Φ (fun u => cpost dC dI cI cJ (va_A (w_BM h cI cJ σ) sz) (w_BM h cI cJ u)) (va_A (w_BM h cI cJ σ) sz)) 0 0 (va_A (w_BM h cI cJ σ) sz) := by
  refine Met.ofW (cc := cX8_reset) (maxL := 1) (ret := none) (by decide) rfl ?_
  intro p e s m args below meth c s₁ B hml hv
  obtain ⟨rfl, hsz, hP, hK, hD0⟩ := hv
  have hx := B.exec
  have hb := B.bytes
  have hr := B.returns
  have hts := atoms_spec (ws := wsX8_reset) B.pre
  have hown : s.vm.findClass RX8 = some m.cls := findClass_of_methodNamed B.named
  have hlocks := B.notSynchronized
  subst hsz
  have hD := hD0.self (sz := s.heap.size)
  generalize hAe : va_A (w_BM h cI cJ σ) s.heap.size = A at hD ⊢
  have hA : ∀ q : Nat, s.heap.size ≤ q → A q := fun q h => by rw [← hAe]; exact Or.inr h
  clear hD0 hAe
  have hS : va_S A s.heap s.heap [] := va_S.rf
  have hl := lv_entry ([.ref (h 0)]) (n := 1) (Nat.le_of_ble_eq_true rfl)
  rw [lg_entry_eq]
  generalize (lg_sl ([.ref (h 0)]) ++ List.replicate (1 - (lg_sl ([.ref (h 0)])).length) Slot.unset).toArray = ls at hl ⊢
  have hl : lv_has ls 1 [(0, .ref (h 0))] := hl
  unfold wp_X8_reset at hok
  refine lv_aload_n hx hb dX8_reset_0 rfl (lv_at hl 0 rfl) ?_
  refine va_get (D := (dC, dI)) (ci := 7) (v := .ref (h 4)) (C := RX8) (T := TX8) (N := 3) hx hb hts (fun w h => List.mem_cons_of_mem _ (in_X8 w h)) hown hK hP 0 rfl rfl 0 (by decide) (hts _ (List.mem_cons_of_mem _ tw_1_219)) (fun _ h9 => h9) rfl dX8_reset_1 ?_
  have hPc := hP.sub (ws' := w_Board h cI cJ σ.1.2.2.2) [4, 5, 6, 7, 8, 9, 10] rfl
  have hDc := hD.sub (ws' := w_Board h cI cJ σ.1.2.2.2) [4, 5, 6, 7, 8, 9, 10] (by decide) rfl
  have hFc := va_free (wc := w_Board h cI cJ σ.1.2.2.2) hD hS hA [4, 5, 6, 7, 8, 9, 10] rfl
  refine va_callv (va_runV (As := []) (rest := []) ⟨hx, hb, hml, hown, hts⟩ (c_X0_restart l dC dI cI cJ h _ hok) (cwV 0 hts (tb_gV tw_1_233 tw_1_234 tw_1_235 tw_1_2 tw_1_236) rfl rfl rfl (by decide +kernel) ⟨Nat.le_of_ble_eq_true rfl, Nat.le_of_ble_eq_true rfl⟩) (cpre_V (ci := 0) (q0 := 0) hK hPc hDc rfl rfl) rfl rfl hl.1 rfl (lv_room (Nat.le_of_ble_eq_true rfl)) dX8_reset_4 ⟨Nat.le_of_ble_eq_true rfl, Nat.le_of_ble_eq_true rfl⟩) hS (fun q _ h => hFc q h) hFc (fun u1 t H1 locs ht hvm hok hB hz1 hk1 hS => ?_)
  obtain ⟨hP, hD⟩ := cjoin ht hP hD [4, 5, 6, 7, 8, 9, 10] [0, 1, 2, 3, 11, 12] rfl rfl (by decide) (by decide) hk1 hFc hB
  have hP := hP.sub (ws' := w_BM h cI cJ ((σ.1.1, σ.1.2.1, σ.1.2.2.1, u1), σ.2)) [0, 1, 2, 3, 6, 7, 8, 9, 10, 11, 12, 4, 5] rfl
  have hD := hD.sub (ws' := w_BM h cI cJ ((σ.1.1, σ.1.2.1, σ.1.2.2.1, u1), σ.2)) [0, 1, 2, 3, 6, 7, 8, 9, 10, 11, 12, 4, 5] (by decide) rfl
  refine lv_aload_n hx hb dX8_reset_7 rfl (lv_at hl 0 rfl) ?_
  refine va_get (D := (dC, dI)) (ci := 7) (v := .ref (h 1)) (C := RX8) (T := TX8) (N := 3) hx hb hts (fun w h => List.mem_cons_of_mem _ (in_X8 w h)) hown hK hP 0 rfl rfl 1 (by decide) (hts _ (List.mem_cons_of_mem _ tw_1_220)) (fun _ h9 => h9) rfl dX8_reset_8 ?_
  have hPc := hP.sub (ws' := w_Proc h cI cJ (σ.1.1, σ.1.2.1, σ.1.2.2.1, u1)) [1, 2, 3, 4, 5, 6, 7, 8, 9, 10] rfl
  have hDc := hD.sub (ws' := w_Proc h cI cJ (σ.1.1, σ.1.2.1, σ.1.2.2.1, u1)) [1, 2, 3, 4, 5, 6, 7, 8, 9, 10] (by decide) rfl
  have hFc := va_free (wc := w_Proc h cI cJ (σ.1.1, σ.1.2.1, σ.1.2.2.1, u1)) hD hS hA [1, 2, 3, 4, 5, 6, 7, 8, 9, 10] rfl
  refine va_callv (va_runV (As := []) (rest := []) ⟨hx, hb, hml, hown, hts⟩ (c_X5_restart l dC dI cI cJ h _ hok) (cwV 0 hts (tb_gV tw_2_5 tw_2_6 tw_2_7 tw_1_6 tw_2_8) rfl rfl rfl (by decide +kernel) ⟨Nat.le_of_ble_eq_true rfl, Nat.le_of_ble_eq_true rfl⟩) (cpre_V (ci := 4) (q0 := 0) hK hPc hDc rfl rfl) rfl rfl hl.1 rfl (lv_room (Nat.le_of_ble_eq_true rfl)) dX8_reset_11 ⟨Nat.le_of_ble_eq_true rfl, Nat.le_of_ble_eq_true rfl⟩) hS (fun q _ h => hFc q h) hFc (fun u2 t H1 locs ht hvm hok hB hz1 hk1 hS => ?_)
  obtain ⟨hP, hD⟩ := cjoin ht hP hD [1, 2, 3, 4, 5, 6, 7, 8, 9, 10] [0, 11, 12] rfl rfl (by decide) (by decide) hk1 hFc hB
  have hP := hP.sub (ws' := w_BM h cI cJ (u2, σ.2)) [0, 3, 4, 5, 6, 7, 8, 9, 10, 11, 12, 1, 2] rfl
  have hD := hD.sub (ws' := w_BM h cI cJ (u2, σ.2)) [0, 3, 4, 5, 6, 7, 8, 9, 10, 11, 12, 1, 2] (by decide) rfl
  exact W.vret hx hb hr (fun t ht hW => ⟨⟨(u2, σ.2), rfl, hok, by rw [ht]; exact hP, va_K.moved hW.alike hK, hD⟩, hS.F ht⟩) hS.2.2 dX8_reset_14
def wp_X8_step (σ : S_BM) (Φ : Int32 → S_BM → Prop) : Prop := wp_X5_advance σ.1 (fun r1 u2 => Φ r1 (u2, σ.2))
set_option maxHeartbeats 4000000 in
set_option maxRecDepth 100000 in
theorem c_X8_step (l : Launch) (dC : Nat → ClassId) (dI : Nat → Nat → Nat) (cI cJ : ClassId) (h : Nat → Nat) (tt : Nat → Nat) (sz : Nat) {σ : S_BM} {Φ : Int32 → S_BM → Prop} (hok : wp_X8_step σ Φ) : Met l yX8_step wsX8_step ({ frames := 7, cells := 0, slots := 0, locals := 159 }) (va_Pc [.ref (h 0)] (cpreT dC dI cI cJ tt (w_BM h cI cJ σ) sz)) (va_Qi Φ (fun u => cpost dC dI cI cJ (va_A (w_BM h cI cJ σ) sz) (w_BM h cI cJ u)) (va_A (w_BM h cI cJ σ) sz)) 0 0 (va_A (w_BM h cI cJ σ) sz) := by
  refine Met.ofW (cc := cX8_step) (maxL := 1) (ret := (some .int)) (by decide) rfl ?_
  intro p e s m args below meth c s₁ B hml hv
  obtain ⟨rfl, ⟨hsz, hP, hK, hD0⟩, hT⟩ := hv
  have hx := B.exec
  have hb := B.bytes
  have hr := B.returns
  have hts := atoms_spec (ws := wsX8_step) B.pre
  have hown : s.vm.findClass RX8 = some m.cls := findClass_of_methodNamed B.named
  have hlocks := B.notSynchronized
  subst hsz
  have hD := hD0.self (sz := s.heap.size)
  generalize hAe : va_A (w_BM h cI cJ σ) s.heap.size = A at hD hT ⊢
  have hA : ∀ q : Nat, s.heap.size ≤ q → A q := fun q h => by rw [← hAe]; exact Or.inr h
  clear hD0 hAe
  have hS : va_S A s.heap s.heap [] := va_S.rf
  have hl := lv_entry ([.ref (h 0)]) (n := 1) (Nat.le_of_ble_eq_true rfl)
  rw [lg_entry_eq]
  generalize (lg_sl ([.ref (h 0)]) ++ List.replicate (1 - (lg_sl ([.ref (h 0)])).length) Slot.unset).toArray = ls at hl ⊢
  have hl : lv_has ls 1 [(0, .ref (h 0))] := hl
  unfold wp_X8_step at hok
  refine lv_aload_n hx hb dX8_step_0 rfl (lv_at hl 0 rfl) ?_
  refine va_get (D := (dC, dI)) (ci := 7) (v := .ref (h 1)) (C := RX8) (T := TX8) (N := 3) hx hb hts (fun w h => List.mem_cons_of_mem _ (in_X8 w h)) hown hK hP 0 rfl rfl 1 (by decide) (hts _ (List.mem_cons_of_mem _ tw_1_220)) (fun _ h9 => h9) rfl dX8_step_1 ?_
  have hPc := hP.sub (ws' := w_Proc h cI cJ σ.1) [1, 2, 3, 4, 5, 6, 7, 8, 9, 10] rfl
  have hDc := hD.sub (ws' := w_Proc h cI cJ σ.1) [1, 2, 3, 4, 5, 6, 7, 8, 9, 10] (by decide) rfl
  have hFc := va_free (wc := w_Proc h cI cJ σ.1) hD hS hA [1, 2, 3, 4, 5, 6, 7, 8, 9, 10] rfl
  refine va_calli (va_runV (As := []) (rest := []) ⟨hx, hb, hml, hown, hts⟩ (c_X5_advance l dC dI cI cJ h tt _ hok) (cwV 0 hts (tb_gV tw_2_65 tw_2_66 tw_2_67 tw_1_6 tw_2_68) rfl rfl rfl (by decide +kernel) ⟨Nat.le_of_ble_eq_true rfl, Nat.le_of_ble_eq_true rfl⟩) (cpre_VT (ci := 4) (q0 := 0) hK hPc hDc hT hS hFc rfl rfl) rfl rfl hl.1 rfl (lv_room (Nat.le_of_ble_eq_true rfl)) dX8_step_4 ⟨Nat.le_of_ble_eq_true rfl, Nat.le_of_ble_eq_true rfl⟩) hS (fun q _ h => hFc q h) hFc (fun r1 u2 t H1 locs ht hvm hok hB hz1 hk1 hS => ?_)
  obtain ⟨hP, hD⟩ := cjoin ht hP hD [1, 2, 3, 4, 5, 6, 7, 8, 9, 10] [0, 11, 12] rfl rfl (by decide) (by decide) hk1 hFc hB
  have hP := hP.sub (ws' := w_BM h cI cJ (u2, σ.2)) [0, 3, 4, 5, 6, 7, 8, 9, 10, 11, 12, 1, 2] rfl
  have hD := hD.sub (ws' := w_BM h cI cJ (u2, σ.2)) [0, 3, 4, 5, 6, 7, 8, 9, 10, 11, 12, 1, 2] (by decide) rfl
  exact W.iret (v := r1) hx hb hr (fun t ht hW => ⟨⟨r1, (u2, σ.2), rfl, hok, by rw [ht]; exact hP, va_K.moved hW.alike hK, hD⟩, hS.F ht⟩) hS.2.2 dX8_step_7
def wp_X8_nmi (σ : S_BM) (Φ : S_BM → Prop) : Prop := Φ ((upd σ.1.1 8 1, σ.1.2.1, σ.1.2.2.1, σ.1.2.2.2), σ.2)
set_option maxHeartbeats 4000000 in
set_option maxRecDepth 100000 in
theorem c_X8_nmi (l : Launch) (dC : Nat → ClassId) (dI : Nat → Nat → Nat) (cI cJ : ClassId) (h : Nat → Nat) (sz : Nat) {σ : S_BM} {Φ : S_BM → Prop} (hok : wp_X8_nmi σ Φ) : Met l yX8_nmi wsX8_nmi ({ frames := 0, cells := 0, slots := 0, locals := 0 }) (va_Pc [.ref (h 0)] (cpre dC dI cI cJ (w_BM h cI cJ σ) sz)) (va_Qv Φ (fun u => cpost dC dI cI cJ (va_A (w_BM h cI cJ σ) sz) (w_BM h cI cJ u)) (va_A (w_BM h cI cJ σ) sz)) 0 0 (va_A (w_BM h cI cJ σ) sz) := by
  refine Met.ofW (cc := cX8_nmi) (maxL := 1) (ret := none) (by decide) rfl ?_
  intro p e s m args below meth c s₁ B hml hv
  obtain ⟨rfl, hsz, hP, hK, hD0⟩ := hv
  have hx := B.exec
  have hb := B.bytes
  have hr := B.returns
  have hts := atoms_spec (ws := wsX8_nmi) B.pre
  have hown : s.vm.findClass RX8 = some m.cls := findClass_of_methodNamed B.named
  have hlocks := B.notSynchronized
  subst hsz
  have hD := hD0.self (sz := s.heap.size)
  generalize hAe : va_A (w_BM h cI cJ σ) s.heap.size = A at hD ⊢
  have hA : ∀ q : Nat, s.heap.size ≤ q → A q := fun q h => by rw [← hAe]; exact Or.inr h
  clear hD0 hAe
  have hS : va_S A s.heap s.heap [] := va_S.rf
  have hl := lv_entry ([.ref (h 0)]) (n := 1) (Nat.le_of_ble_eq_true rfl)
  rw [lg_entry_eq]
  generalize (lg_sl ([.ref (h 0)]) ++ List.replicate (1 - (lg_sl ([.ref (h 0)])).length) Slot.unset).toArray = ls at hl ⊢
  have hl : lv_has ls 1 [(0, .ref (h 0))] := hl
  unfold wp_X8_nmi at hok
  refine lv_aload_n hx hb dX8_nmi_0 rfl (lv_at hl 0 rfl) ?_
  refine va_get (D := (dC, dI)) (ci := 7) (v := .ref (h 1)) (C := RX8) (T := TX8) (N := 3) hx hb hts (fun w h => List.mem_cons_of_mem _ (in_X8 w h)) hown hK hP 0 rfl rfl 1 (by decide) (hts _ (List.mem_cons_of_mem _ tw_1_220)) (fun _ h9 => h9) rfl dX8_nmi_1 ?_
  refine lv_iconst (v := 1) hx hb dX8_nmi_4 (by decide) ?_
  refine va_put (D := (dC, dI)) (ci := 4) (v := .int 1) (ty := .boolean) (C := RX5) (T := TX5) (N := 15) hx hb hts (fun w h => List.mem_cons_of_mem _ (in_X5 w h)) tyX5 tyX5_ok nmX5 hown hK hP hD hS 1 rfl rfl 8 (by decide) (hts _ (List.mem_cons_of_mem _ tw_1_164)) (fun _ h9 => h9) rfl (by decide +kernel) rfl rfl (Nat.le_of_ble_eq_true rfl) dX8_nmi_5 (fun H locs hP hD hS => ?_)
  have hP : va_P (dC, dI) vwCl (w_BM h cI cJ ((upd σ.1.1 8 1, σ.1.2.1, σ.1.2.2.1, σ.1.2.2.2), σ.2)) _ := hP
  have hD : va_D A (w_BM h cI cJ ((upd σ.1.1 8 1, σ.1.2.1, σ.1.2.2.1, σ.1.2.2.2), σ.2)) := hD
  exact W.vret hx hb hr (fun t ht hW => ⟨⟨((upd σ.1.1 8 1, σ.1.2.1, σ.1.2.2.1, σ.1.2.2.2), σ.2), rfl, hok, by rw [ht]; exact hP, va_K.moved hW.alike hK, hD⟩, hS.F ht⟩) hS.2.2 dX8_nmi_8
def wp_X8_receive (σ : S_BM) (a1 : Int32) (Φ : Int32 → S_BM → Prop) : Prop := wp_X4_accept σ.1.2.2.2.2.2.1 a1 (fun r1 u2 => Φ r1 ((σ.1.1, σ.1.2.1, σ.1.2.2.1, (σ.1.2.2.2.1, σ.1.2.2.2.2.1, u2, σ.1.2.2.2.2.2.2)), σ.2))
set_option maxHeartbeats 4000000 in
set_option maxRecDepth 100000 in
theorem c_X8_receive (l : Launch) (dC : Nat → ClassId) (dI : Nat → Nat → Nat) (cI cJ : ClassId) (h : Nat → Nat) (sz : Nat) {σ : S_BM} {a1 : Int32} {Φ : Int32 → S_BM → Prop} (hok : wp_X8_receive σ a1 Φ) : Met l yX8_receive wsX8_receive ({ frames := 1, cells := 0, slots := 0, locals := 21 }) (va_Pc [.ref (h 0), .int a1] (cpre dC dI cI cJ (w_BM h cI cJ σ) sz)) (va_Qi Φ (fun u => cpost dC dI cI cJ (va_A (w_BM h cI cJ σ) sz) (w_BM h cI cJ u)) (va_A (w_BM h cI cJ σ) sz)) 0 0 (va_A (w_BM h cI cJ σ) sz) := by
  refine Met.ofW (cc := cX8_receive) (maxL := 2) (ret := (some .int)) (by decide) rfl ?_
  intro p e s m args below meth c s₁ B hml hv
  obtain ⟨rfl, hsz, hP, hK, hD0⟩ := hv
  have hx := B.exec
  have hb := B.bytes
  have hr := B.returns
  have hts := atoms_spec (ws := wsX8_receive) B.pre
  have hown : s.vm.findClass RX8 = some m.cls := findClass_of_methodNamed B.named
  have hlocks := B.notSynchronized
  subst hsz
  have hD := hD0.self (sz := s.heap.size)
  generalize hAe : va_A (w_BM h cI cJ σ) s.heap.size = A at hD ⊢
  have hA : ∀ q : Nat, s.heap.size ≤ q → A q := fun q h => by rw [← hAe]; exact Or.inr h
  clear hD0 hAe
  have hS : va_S A s.heap s.heap [] := va_S.rf
  have hl := lv_entry ([.ref (h 0), .int a1]) (n := 2) (Nat.le_of_ble_eq_true rfl)
  rw [lg_entry_eq]
  generalize (lg_sl ([.ref (h 0), .int a1]) ++ List.replicate (2 - (lg_sl ([.ref (h 0), .int a1])).length) Slot.unset).toArray = ls at hl ⊢
  have hl : lv_has ls 2 [(0, .ref (h 0)), (1, .int a1)] := hl
  unfold wp_X8_receive at hok
  refine lv_aload_n hx hb dX8_receive_0 rfl (lv_at hl 0 rfl) ?_
  refine va_get (D := (dC, dI)) (ci := 7) (v := .ref (h 4)) (C := RX8) (T := TX8) (N := 3) hx hb hts (fun w h => List.mem_cons_of_mem _ (in_X8 w h)) hown hK hP 0 rfl rfl 0 (by decide) (hts _ (List.mem_cons_of_mem _ tw_1_219)) (fun _ h9 => h9) rfl dX8_receive_1 ?_
  refine va_get (D := (dC, dI)) (ci := 0) (v := .ref (h 6)) (C := RX0) (T := TX0) (N := 4) hx hb hts (fun w h => List.mem_cons_of_mem _ (in_X0 w h)) hown hK hP 4 rfl rfl 1 (by decide) (hts _ (List.mem_cons_of_mem _ tw_1_114)) (fun _ h9 => h9) rfl dX8_receive_4 ?_
  refine lv_iload_n hx hb dX8_receive_7 rfl (lv_at hl 1 rfl) ?_
  have hPc := hP.sub (ws' := w_Port h cI cJ σ.1.2.2.2.2.2.1) [6, 7, 8] rfl
  have hDc := hD.sub (ws' := w_Port h cI cJ σ.1.2.2.2.2.2.1) [6, 7, 8] (by decide) rfl
  have hFc := va_free (wc := w_Port h cI cJ σ.1.2.2.2.2.2.1) hD hS hA [6, 7, 8] rfl
  refine va_calli (va_runV (As := [.int a1]) (rest := []) ⟨hx, hb, hml, hown, hts⟩ (c_X4_accept l dC dI cI cJ h _ hok) (cwV 1 hts (tb_gV tw_3_5 tw_3_6 tw_3_7 tw_1_4 tw_3_8) rfl rfl rfl (by decide +kernel) ⟨Nat.le_of_ble_eq_true rfl, Nat.le_of_ble_eq_true rfl⟩) (cpre_V (ci := 3) (q0 := 0) hK hPc hDc rfl rfl) rfl rfl hl.1 rfl (lv_room (Nat.le_of_ble_eq_true rfl)) dX8_receive_8 ⟨Nat.le_of_ble_eq_true rfl, Nat.le_of_ble_eq_true rfl⟩) hS (fun q _ h => hFc q h) hFc (fun r1 u2 t H1 locs ht hvm hok hB hz1 hk1 hS => ?_)
  obtain ⟨hP, hD⟩ := cjoin ht hP hD [6, 7, 8] [0, 1, 2, 3, 4, 5, 9, 10, 11, 12] rfl rfl (by decide) (by decide) hk1 hFc hB
  have hP := hP.sub (ws' := w_BM h cI cJ ((σ.1.1, σ.1.2.1, σ.1.2.2.1, (σ.1.2.2.2.1, σ.1.2.2.2.2.1, u2, σ.1.2.2.2.2.2.2)), σ.2)) [0, 1, 2, 3, 4, 5, 10, 11, 12, 6, 7, 8, 9] rfl
  have hD := hD.sub (ws' := w_BM h cI cJ ((σ.1.1, σ.1.2.1, σ.1.2.2.1, (σ.1.2.2.2.1, σ.1.2.2.2.2.1, u2, σ.1.2.2.2.2.2.2)), σ.2)) [0, 1, 2, 3, 4, 5, 10, 11, 12, 6, 7, 8, 9] (by decide) rfl
  exact W.iret (v := r1) hx hb hr (fun t ht hW => ⟨⟨r1, ((σ.1.1, σ.1.2.1, σ.1.2.2.1, (σ.1.2.2.2.1, σ.1.2.2.2.2.1, u2, σ.1.2.2.2.2.2.2)), σ.2), rfl, hok, by rw [ht]; exact hP, va_K.moved hW.alike hK, hD⟩, hS.F ht⟩) hS.2.2 dX8_receive_11
def wp_X8_sent (σ : S_BM) (a1 : Int32) (Φ : Int32 → Prop) : Prop := wp_X4_sentByte σ.1.2.2.2.2.2.1 a1 (fun r1 => Φ r1)
set_option maxHeartbeats 4000000 in
set_option maxRecDepth 100000 in
theorem c_X8_sent (l : Launch) (dC : Nat → ClassId) (dI : Nat → Nat → Nat) (cI cJ : ClassId) (h : Nat → Nat) (sz : Nat) {σ : S_BM} {a1 : Int32} {Φ : Int32 → Prop} (hok : wp_X8_sent σ a1 Φ) : Met l yX8_sent wsX8_sent ({ frames := 1, cells := 0, slots := 0, locals := 21 }) (va_Pc [.ref (h 0), .int a1] (cpre dC dI cI cJ (w_BM h cI cJ σ) sz)) (va_Qi (fun (r : Int32) (_ : Unit) => Φ r) (fun _ => cpost dC dI cI cJ (va_A (w_BM h cI cJ σ) sz) (w_BM h cI cJ σ)) (va_A (w_BM h cI cJ σ) sz)) 0 0 (va_A (w_BM h cI cJ σ) sz) := by
  refine Met.ofW (cc := cX8_sent) (maxL := 2) (ret := (some .int)) (by decide) rfl ?_
  intro p e s m args below meth c s₁ B hml hv
  obtain ⟨rfl, hsz, hP, hK, hD0⟩ := hv
  have hx := B.exec
  have hb := B.bytes
  have hr := B.returns
  have hts := atoms_spec (ws := wsX8_sent) B.pre
  have hown : s.vm.findClass RX8 = some m.cls := findClass_of_methodNamed B.named
  have hlocks := B.notSynchronized
  subst hsz
  have hD := hD0.self (sz := s.heap.size)
  generalize hAe : va_A (w_BM h cI cJ σ) s.heap.size = A at hD ⊢
  have hA : ∀ q : Nat, s.heap.size ≤ q → A q := fun q h => by rw [← hAe]; exact Or.inr h
  clear hD0 hAe
  have hS : va_S A s.heap s.heap [] := va_S.rf
  have hl := lv_entry ([.ref (h 0), .int a1]) (n := 2) (Nat.le_of_ble_eq_true rfl)
  rw [lg_entry_eq]
  generalize (lg_sl ([.ref (h 0), .int a1]) ++ List.replicate (2 - (lg_sl ([.ref (h 0), .int a1])).length) Slot.unset).toArray = ls at hl ⊢
  have hl : lv_has ls 2 [(0, .ref (h 0)), (1, .int a1)] := hl
  unfold wp_X8_sent at hok
  refine lv_aload_n hx hb dX8_sent_0 rfl (lv_at hl 0 rfl) ?_
  refine va_get (D := (dC, dI)) (ci := 7) (v := .ref (h 4)) (C := RX8) (T := TX8) (N := 3) hx hb hts (fun w h => List.mem_cons_of_mem _ (in_X8 w h)) hown hK hP 0 rfl rfl 0 (by decide) (hts _ (List.mem_cons_of_mem _ tw_1_219)) (fun _ h9 => h9) rfl dX8_sent_1 ?_
  refine va_get (D := (dC, dI)) (ci := 0) (v := .ref (h 6)) (C := RX0) (T := TX0) (N := 4) hx hb hts (fun w h => List.mem_cons_of_mem _ (in_X0 w h)) hown hK hP 4 rfl rfl 1 (by decide) (hts _ (List.mem_cons_of_mem _ tw_1_114)) (fun _ h9 => h9) rfl dX8_sent_4 ?_
  refine lv_iload_n hx hb dX8_sent_7 rfl (lv_at hl 1 rfl) ?_
  have hPc := hP.sub (ws' := w_Port h cI cJ σ.1.2.2.2.2.2.1) [6, 7, 8] rfl
  have hDc := hD.sub (ws' := w_Port h cI cJ σ.1.2.2.2.2.2.1) [6, 7, 8] (by decide) rfl
  have hFc := va_free (wc := w_Port h cI cJ σ.1.2.2.2.2.2.1) hD hS hA [6, 7, 8] rfl
  refine va_calli (va_runV (As := [.int a1]) (rest := []) ⟨hx, hb, hml, hown, hts⟩ (c_X4_sentByte l dC dI cI cJ h _ hok) (cwV 1 hts (tb_gV tw_3_13 tw_3_14 tw_3_15 tw_1_4 tw_3_16) rfl rfl rfl (by decide +kernel) ⟨Nat.le_of_ble_eq_true rfl, Nat.le_of_ble_eq_true rfl⟩) (cpre_V (ci := 3) (q0 := 0) hK hPc hDc rfl rfl) rfl rfl hl.1 rfl (lv_room (Nat.le_of_ble_eq_true rfl)) dX8_sent_8 ⟨Nat.le_of_ble_eq_true rfl, Nat.le_of_ble_eq_true rfl⟩) hS (fun q _ h => hFc q h) hFc (fun r1 _ t H1 locs ht hvm hok hB hz1 hk1 hS => ?_)
  obtain ⟨hP, hD⟩ := cjoin ht hP hD [6, 7, 8] [0, 1, 2, 3, 4, 5, 9, 10, 11, 12] rfl rfl (by decide) (by decide) hk1 hFc hB
  have hP := hP.sub (ws' := w_BM h cI cJ σ) [0, 1, 2, 3, 4, 5, 10, 11, 12, 6, 7, 8, 9] rfl
  have hD := hD.sub (ws' := w_BM h cI cJ σ) [0, 1, 2, 3, 4, 5, 10, 11, 12, 6, 7, 8, 9] (by decide) rfl
  exact W.iret (v := r1) hx hb hr (fun t ht hW => ⟨⟨r1, (), rfl, hok, by rw [ht]; exact hP, va_K.moved hW.alike hK, hD⟩, hS.F ht⟩) hS.2.2 dX8_sent_11
def wp_X8_isAddress (a1 : Int32) (Φ : Int32 → Prop) : Prop := ((a1 < 0 → (Φ 0)) ∧ (¬ a1 < 0 → ((((65536 : Int32) ≤ a1 → (Φ 0)) ∧ (¬ (65536 : Int32) ≤ a1 → (Φ 1))))))
set_option maxHeartbeats 4000000 in
set_option maxRecDepth 100000 in
theorem c_X8_isAddress (l : Launch) (dC : Nat → ClassId) (dI : Nat → Nat → Nat) (cI cJ : ClassId) (h : Nat → Nat) (sz : Nat) {a1 : Int32} {Φ : Int32 → Prop} (hok : wp_X8_isAddress a1 Φ) : Met l yX8_isAddress wsX8_isAddress ({ frames := 0, cells := 0, slots := 0, locals := 0 }) (va_Pc [.int a1] (cpre dC dI cI cJ ([] : va_W) sz)) (va_Qi (fun (r : Int32) (_ : Unit) => Φ r) (fun _ => cpost dC dI cI cJ (va_A ([] : va_W) sz) ([] : va_W)) (va_A ([] : va_W) sz)) 0 0 (va_A ([] : va_W) sz) := by
  refine Met.ofW (cc := cX8_isAddress) (maxL := 1) (ret := (some .boolean)) (by decide) rfl ?_
  intro p e s m args below meth c s₁ B hml hv
  obtain ⟨rfl, hsz, hP, hK, hD0⟩ := hv
  have hx := B.exec
  have hb := B.bytes
  have hr := B.returns
  have hts := atoms_spec (ws := wsX8_isAddress) B.pre
  have hown : s.vm.findClass RX8 = some m.cls := findClass_of_methodNamed B.named
  have hlocks := B.notSynchronized
  subst hsz
  have hD := hD0.self (sz := s.heap.size)
  generalize hAe : va_A ([] : va_W) s.heap.size = A at hD ⊢
  have hA : ∀ q : Nat, s.heap.size ≤ q → A q := fun q h => by rw [← hAe]; exact Or.inr h
  clear hD0 hAe
  have hS : va_S A s.heap s.heap [] := va_S.rf
  have hl := lv_entry ([.int a1]) (n := 1) (Nat.le_of_ble_eq_true rfl)
  rw [lg_entry_eq]
  generalize (lg_sl ([.int a1]) ++ List.replicate (1 - (lg_sl ([.int a1])).length) Slot.unset).toArray = ls at hl ⊢
  have hl : lv_has ls 1 [(0, .int a1)] := hl
  unfold wp_X8_isAddress at hok
  refine lv_iload_n hx hb dX8_isAddress_0 rfl (lv_at hl 0 rfl) ?_
  refine lv_if_lt (tgt := 14) hx hb dX8_isAddress_1 (by decide) (fun c1 => ?_) (fun c1 => ?_)
  · have hok := hok.1 c1
    refine lv_iconst (v := 0) hx hb dX8_isAddress_14 (by decide) ?_
    exact W.zret (v := 0) hx hb hr rfl (fun t ht hW => ⟨⟨0, (), rfl, hok, by rw [ht]; exact hP, va_K.moved hW.alike hK, hD⟩, hS.F ht⟩) hS.2.2 dX8_isAddress_15
  · have hok := hok.2 c1
    refine lv_iload_n hx hb dX8_isAddress_4 rfl (lv_at hl 0 rfl) ?_
    refine lv_ldc (v := 65536) hx hb hown (hts _ (List.mem_cons_of_mem _ tw_3_28)) dX8_isAddress_5 ?_
    refine lv_icmp_ge (tgt := 14) hx hb dX8_isAddress_7 (by decide) (fun c2 => ?_) (fun c2 => ?_)
    · have hok := hok.1 c2
      refine lv_iconst (v := 0) hx hb dX8_isAddress_14 (by decide) ?_
      exact W.zret (v := 0) hx hb hr rfl (fun t ht hW => ⟨⟨0, (), rfl, hok, by rw [ht]; exact hP, va_K.moved hW.alike hK, hD⟩, hS.F ht⟩) hS.2.2 dX8_isAddress_15
    · have hok := hok.2 c2
      refine lv_iconst (v := 1) hx hb dX8_isAddress_10 (by decide) ?_
      refine lv_goto (tgt := 15) hx hb dX8_isAddress_11 (by decide) ?_
      exact W.zret (v := 1) hx hb hr rfl (fun t ht hW => ⟨⟨1, (), rfl, hok, by rw [ht]; exact hP, va_K.moved hW.alike hK, hD⟩, hS.F ht⟩) hS.2.2 dX8_isAddress_15
def wp_X8_register (σ : S_BM) (a1 : Int32) (Φ : Int32 → Prop) : Prop := ((a1 = 0 → (Φ (σ.1.1 0))) ∧ (a1 = 1 → (Φ (σ.1.1 1))) ∧ (a1 = 2 → (Φ (σ.1.1 2))) ∧ (a1 = 3 → (Φ (σ.1.1 3))) ∧ (a1 = 4 → (Φ (σ.1.1 4))) ∧ (a1 = 5 → (Φ (σ.1.1 5))) ∧ ((¬ a1 = 0 ∧ ¬ a1 = 1 ∧ ¬ a1 = 2 ∧ ¬ a1 = 3 ∧ ¬ a1 = 4 ∧ ¬ a1 = 5) → (Φ (-1))))
set_option maxHeartbeats 4000000 in
set_option maxRecDepth 100000 in
theorem c_X8_register (l : Launch) (dC : Nat → ClassId) (dI : Nat → Nat → Nat) (cI cJ : ClassId) (h : Nat → Nat) (sz : Nat) {σ : S_BM} {a1 : Int32} {Φ : Int32 → Prop} (hok : wp_X8_register σ a1 Φ) : Met l yX8_register wsX8_register ({ frames := 0, cells := 0, slots := 0, locals := 0 }) (va_Pc [.ref (h 0), .int a1] (cpre dC dI cI cJ (w_BM h cI cJ σ) sz)) (va_Qi (fun (r : Int32) (_ : Unit) => Φ r) (fun _ => cpost dC dI cI cJ (va_A (w_BM h cI cJ σ) sz) (w_BM h cI cJ σ)) (va_A (w_BM h cI cJ σ) sz)) 0 0 (va_A (w_BM h cI cJ σ) sz) := by
  refine Met.ofW (cc := cX8_register) (maxL := 2) (ret := (some .int)) (by decide) rfl ?_
  intro p e s m args below meth c s₁ B hml hv
  obtain ⟨rfl, hsz, hP, hK, hD0⟩ := hv
  have hx := B.exec
  have hb := B.bytes
  have hr := B.returns
  have hts := atoms_spec (ws := wsX8_register) B.pre
  have hown : s.vm.findClass RX8 = some m.cls := findClass_of_methodNamed B.named
  have hlocks := B.notSynchronized
  subst hsz
  have hD := hD0.self (sz := s.heap.size)
  generalize hAe : va_A (w_BM h cI cJ σ) s.heap.size = A at hD ⊢
  have hA : ∀ q : Nat, s.heap.size ≤ q → A q := fun q h => by rw [← hAe]; exact Or.inr h
  clear hD0 hAe
  have hS : va_S A s.heap s.heap [] := va_S.rf
  have hl := lv_entry ([.ref (h 0), .int a1]) (n := 2) (Nat.le_of_ble_eq_true rfl)
  rw [lg_entry_eq]
  generalize (lg_sl ([.ref (h 0), .int a1]) ++ List.replicate (2 - (lg_sl ([.ref (h 0), .int a1])).length) Slot.unset).toArray = ls at hl ⊢
  have hl : lv_has ls 2 [(0, .ref (h 0)), (1, .int a1)] := hl
  unfold wp_X8_register at hok
  refine lv_iload_n hx hb dX8_register_0 rfl (lv_at hl 1 rfl) ?_
  by_cases c1 : a1 = 0
  · have hok := hok.1 c1
    refine lv_tableIn (tgt := 40) (off := 39) hx hb dX8_register_1 (by rw [c1]; decide) (by rw [c1]; decide) (by rw [c1]; decide) (by decide) ?_
    refine lv_aload_n hx hb dX8_register_40 rfl (lv_at hl 0 rfl) ?_
    refine va_get (D := (dC, dI)) (ci := 7) (v := .ref (h 1)) (C := RX8) (T := TX8) (N := 3) hx hb hts (fun w h => List.mem_cons_of_mem _ (in_X8 w h)) hown hK hP 0 rfl rfl 1 (by decide) (hts _ (List.mem_cons_of_mem _ tw_1_220)) (fun _ h9 => h9) rfl dX8_register_41 ?_
    refine va_get (D := (dC, dI)) (ci := 4) (v := .int (σ.1.1 0)) (C := RX5) (T := TX5) (N := 15) hx hb hts (fun w h => List.mem_cons_of_mem _ (in_X5 w h)) hown hK hP 1 rfl rfl 0 (by decide) (hts _ (List.mem_cons_of_mem _ tw_1_147)) (fun _ h9 => h9) rfl dX8_register_44 ?_
    refine lv_goto (tgt := 101) hx hb dX8_register_47 (by decide) ?_
    exact W.iret (v := σ.1.1 0) hx hb hr (fun t ht hW => ⟨⟨σ.1.1 0, (), rfl, hok, by rw [ht]; exact hP, va_K.moved hW.alike hK, hD⟩, hS.F ht⟩) hS.2.2 dX8_register_101
  have hok := hok.2
  by_cases c2 : a1 = 1
  · have hok := hok.1 c2
    refine lv_tableIn (tgt := 50) (off := 49) hx hb dX8_register_1 (by rw [c2]; decide) (by rw [c2]; decide) (by rw [c2]; decide) (by decide) ?_
    refine lv_aload_n hx hb dX8_register_50 rfl (lv_at hl 0 rfl) ?_
    refine va_get (D := (dC, dI)) (ci := 7) (v := .ref (h 1)) (C := RX8) (T := TX8) (N := 3) hx hb hts (fun w h => List.mem_cons_of_mem _ (in_X8 w h)) hown hK hP 0 rfl rfl 1 (by decide) (hts _ (List.mem_cons_of_mem _ tw_1_220)) (fun _ h9 => h9) rfl dX8_register_51 ?_
    refine va_get (D := (dC, dI)) (ci := 4) (v := .int (σ.1.1 1)) (C := RX5) (T := TX5) (N := 15) hx hb hts (fun w h => List.mem_cons_of_mem _ (in_X5 w h)) hown hK hP 1 rfl rfl 1 (by decide) (hts _ (List.mem_cons_of_mem _ tw_1_150)) (fun _ h9 => h9) rfl dX8_register_54 ?_
    refine lv_goto (tgt := 101) hx hb dX8_register_57 (by decide) ?_
    exact W.iret (v := σ.1.1 1) hx hb hr (fun t ht hW => ⟨⟨σ.1.1 1, (), rfl, hok, by rw [ht]; exact hP, va_K.moved hW.alike hK, hD⟩, hS.F ht⟩) hS.2.2 dX8_register_101
  have hok := hok.2
  by_cases c3 : a1 = 2
  · have hok := hok.1 c3
    refine lv_tableIn (tgt := 60) (off := 59) hx hb dX8_register_1 (by rw [c3]; decide) (by rw [c3]; decide) (by rw [c3]; decide) (by decide) ?_
    refine lv_aload_n hx hb dX8_register_60 rfl (lv_at hl 0 rfl) ?_
    refine va_get (D := (dC, dI)) (ci := 7) (v := .ref (h 1)) (C := RX8) (T := TX8) (N := 3) hx hb hts (fun w h => List.mem_cons_of_mem _ (in_X8 w h)) hown hK hP 0 rfl rfl 1 (by decide) (hts _ (List.mem_cons_of_mem _ tw_1_220)) (fun _ h9 => h9) rfl dX8_register_61 ?_
    refine va_get (D := (dC, dI)) (ci := 4) (v := .int (σ.1.1 2)) (C := RX5) (T := TX5) (N := 15) hx hb hts (fun w h => List.mem_cons_of_mem _ (in_X5 w h)) hown hK hP 1 rfl rfl 2 (by decide) (hts _ (List.mem_cons_of_mem _ tw_1_152)) (fun _ h9 => h9) rfl dX8_register_64 ?_
    refine lv_goto (tgt := 101) hx hb dX8_register_67 (by decide) ?_
    exact W.iret (v := σ.1.1 2) hx hb hr (fun t ht hW => ⟨⟨σ.1.1 2, (), rfl, hok, by rw [ht]; exact hP, va_K.moved hW.alike hK, hD⟩, hS.F ht⟩) hS.2.2 dX8_register_101
  have hok := hok.2
  by_cases c4 : a1 = 3
  · have hok := hok.1 c4
    refine lv_tableIn (tgt := 70) (off := 69) hx hb dX8_register_1 (by rw [c4]; decide) (by rw [c4]; decide) (by rw [c4]; decide) (by decide) ?_
    refine lv_aload_n hx hb dX8_register_70 rfl (lv_at hl 0 rfl) ?_
    refine va_get (D := (dC, dI)) (ci := 7) (v := .ref (h 1)) (C := RX8) (T := TX8) (N := 3) hx hb hts (fun w h => List.mem_cons_of_mem _ (in_X8 w h)) hown hK hP 0 rfl rfl 1 (by decide) (hts _ (List.mem_cons_of_mem _ tw_1_220)) (fun _ h9 => h9) rfl dX8_register_71 ?_
    refine va_get (D := (dC, dI)) (ci := 4) (v := .int (σ.1.1 3)) (C := RX5) (T := TX5) (N := 15) hx hb hts (fun w h => List.mem_cons_of_mem _ (in_X5 w h)) hown hK hP 1 rfl rfl 3 (by decide) (hts _ (List.mem_cons_of_mem _ tw_1_154)) (fun _ h9 => h9) rfl dX8_register_74 ?_
    refine lv_goto (tgt := 101) hx hb dX8_register_77 (by decide) ?_
    exact W.iret (v := σ.1.1 3) hx hb hr (fun t ht hW => ⟨⟨σ.1.1 3, (), rfl, hok, by rw [ht]; exact hP, va_K.moved hW.alike hK, hD⟩, hS.F ht⟩) hS.2.2 dX8_register_101
  have hok := hok.2
  by_cases c5 : a1 = 4
  · have hok := hok.1 c5
    refine lv_tableIn (tgt := 80) (off := 79) hx hb dX8_register_1 (by rw [c5]; decide) (by rw [c5]; decide) (by rw [c5]; decide) (by decide) ?_
    refine lv_aload_n hx hb dX8_register_80 rfl (lv_at hl 0 rfl) ?_
    refine va_get (D := (dC, dI)) (ci := 7) (v := .ref (h 1)) (C := RX8) (T := TX8) (N := 3) hx hb hts (fun w h => List.mem_cons_of_mem _ (in_X8 w h)) hown hK hP 0 rfl rfl 1 (by decide) (hts _ (List.mem_cons_of_mem _ tw_1_220)) (fun _ h9 => h9) rfl dX8_register_81 ?_
    refine va_get (D := (dC, dI)) (ci := 4) (v := .int (σ.1.1 4)) (C := RX5) (T := TX5) (N := 15) hx hb hts (fun w h => List.mem_cons_of_mem _ (in_X5 w h)) hown hK hP 1 rfl rfl 4 (by decide) (hts _ (List.mem_cons_of_mem _ tw_1_156)) (fun _ h9 => h9) rfl dX8_register_84 ?_
    refine lv_goto (tgt := 101) hx hb dX8_register_87 (by decide) ?_
    exact W.iret (v := σ.1.1 4) hx hb hr (fun t ht hW => ⟨⟨σ.1.1 4, (), rfl, hok, by rw [ht]; exact hP, va_K.moved hW.alike hK, hD⟩, hS.F ht⟩) hS.2.2 dX8_register_101
  have hok := hok.2
  by_cases c6 : a1 = 5
  · have hok := hok.1 c6
    refine lv_tableIn (tgt := 90) (off := 89) hx hb dX8_register_1 (by rw [c6]; decide) (by rw [c6]; decide) (by rw [c6]; decide) (by decide) ?_
    refine lv_aload_n hx hb dX8_register_90 rfl (lv_at hl 0 rfl) ?_
    refine va_get (D := (dC, dI)) (ci := 7) (v := .ref (h 1)) (C := RX8) (T := TX8) (N := 3) hx hb hts (fun w h => List.mem_cons_of_mem _ (in_X8 w h)) hown hK hP 0 rfl rfl 1 (by decide) (hts _ (List.mem_cons_of_mem _ tw_1_220)) (fun _ h9 => h9) rfl dX8_register_91 ?_
    refine va_get (D := (dC, dI)) (ci := 4) (v := .int (σ.1.1 5)) (C := RX5) (T := TX5) (N := 15) hx hb hts (fun w h => List.mem_cons_of_mem _ (in_X5 w h)) hown hK hP 1 rfl rfl 5 (by decide) (hts _ (List.mem_cons_of_mem _ tw_1_158)) (fun _ h9 => h9) rfl dX8_register_94 ?_
    refine lv_goto (tgt := 101) hx hb dX8_register_97 (by decide) ?_
    exact W.iret (v := σ.1.1 5) hx hb hr (fun t ht hW => ⟨⟨σ.1.1 5, (), rfl, hok, by rw [ht]; exact hP, va_K.moved hW.alike hK, hD⟩, hS.F ht⟩) hS.2.2 dX8_register_101
  have hok := hok.2
  have hok := hok ⟨c1, c2, c3, c4, c5, c6⟩
  have kz6 : ∀ k ∈ ([0, 1, 2, 3, 4, 5] : List Int), (a1).toInt ≠ k := List.forall_mem_cons.mpr ⟨tb_ne c1 rfl, List.forall_mem_cons.mpr ⟨tb_ne c2 rfl, List.forall_mem_cons.mpr ⟨tb_ne c3 rfl, List.forall_mem_cons.mpr ⟨tb_ne c4 rfl, List.forall_mem_cons.mpr ⟨tb_ne c5 rfl, List.forall_mem_cons.mpr ⟨tb_ne c6 rfl, fun k h => absurd h List.not_mem_nil⟩⟩⟩⟩⟩⟩
  refine tb_def (tgt := 100) (keys := [0, 1, 2, 3, 4, 5]) hx hb dX8_register_1 kz6 (by decide) (by decide) ?_
  refine lv_iconst (v := (-1)) hx hb dX8_register_100 (by decide) ?_
  exact W.iret (v := (-1)) hx hb hr (fun t ht hW => ⟨⟨(-1), (), rfl, hok, by rw [ht]; exact hP, va_K.moved hW.alike hK, hD⟩, hS.F ht⟩) hS.2.2 dX8_register_101
def wp_X8_setBreak (σ : S_BM) (a1 : Int32) (Φ : Int32 → S_BM → Prop) : Prop := wp_X8_isAddress a1 (fun r1 => ((r1 = 0 → (Φ 0 σ)) ∧ (¬ r1 = 0 → (wp_X1_add σ.2 a1 (fun r3 u4 => ((r3 = 0 → (Φ 0 (σ.1, u4))) ∧ (¬ r3 = 0 → (Φ 1 (σ.1, u4)))))))))
set_option maxHeartbeats 4000000 in
set_option maxRecDepth 100000 in
theorem c_X8_setBreak (l : Launch) (dC : Nat → ClassId) (dI : Nat → Nat → Nat) (cI cJ : ClassId) (h : Nat → Nat) (sz : Nat) {σ : S_BM} {a1 : Int32} {Φ : Int32 → S_BM → Prop} (hok : wp_X8_setBreak σ a1 Φ) : Met l yX8_setBreak wsX8_setBreak ({ frames := 3, cells := 0, slots := 0, locals := 64 }) (va_Pc [.ref (h 0), .int a1] (cpre dC dI cI cJ (w_BM h cI cJ σ) sz)) (va_Qi Φ (fun u => cpost dC dI cI cJ (va_A (w_BM h cI cJ σ) sz) (w_BM h cI cJ u)) (va_A (w_BM h cI cJ σ) sz)) 0 0 (va_A (w_BM h cI cJ σ) sz) := by
  refine Met.ofW (cc := cX8_setBreak) (maxL := 2) (ret := (some .boolean)) (by decide) rfl ?_
  intro p e s m args below meth c s₁ B hml hv
  obtain ⟨rfl, hsz, hP, hK, hD0⟩ := hv
  have hx := B.exec
  have hb := B.bytes
  have hr := B.returns
  have hts := atoms_spec (ws := wsX8_setBreak) B.pre
  have hown : s.vm.findClass RX8 = some m.cls := findClass_of_methodNamed B.named
  have hlocks := B.notSynchronized
  subst hsz
  have hD := hD0.self (sz := s.heap.size)
  generalize hAe : va_A (w_BM h cI cJ σ) s.heap.size = A at hD ⊢
  have hA : ∀ q : Nat, s.heap.size ≤ q → A q := fun q h => by rw [← hAe]; exact Or.inr h
  clear hD0 hAe
  have hS : va_S A s.heap s.heap [] := va_S.rf
  have hl := lv_entry ([.ref (h 0), .int a1]) (n := 2) (Nat.le_of_ble_eq_true rfl)
  rw [lg_entry_eq]
  generalize (lg_sl ([.ref (h 0), .int a1]) ++ List.replicate (2 - (lg_sl ([.ref (h 0), .int a1])).length) Slot.unset).toArray = ls at hl ⊢
  have hl : lv_has ls 2 [(0, .ref (h 0)), (1, .int a1)] := hl
  unfold wp_X8_setBreak at hok
  refine lv_iload_n hx hb dX8_setBreak_0 rfl (lv_at hl 1 rfl) ?_
  have hPc := hP.sub (ws' := []) [] rfl
  have hDc := hD.sub (ws' := []) [] (by decide) rfl
  have hFc := va_free (wc := []) hD hS hA [] rfl
  refine va_calli (va_runS (As := [.int a1]) (rest := []) ⟨hx, hb, hml, hown, hts⟩ (c_X8_isAddress l dC dI cI cJ h _ hok) (va_cwS 1 hts (tb_gS tw_3_25 tw_3_26 tw_1_1 tw_3_27) rfl rfl rfl (by decide +kernel) ⟨Nat.le_of_ble_eq_true rfl, Nat.le_of_ble_eq_true rfl⟩) (cpre_S hK hPc hDc) rfl rfl hl.1 rfl (lv_room (Nat.le_of_ble_eq_true rfl)) dX8_setBreak_1 ⟨Nat.le_of_ble_eq_true rfl, Nat.le_of_ble_eq_true rfl⟩) hS (fun q _ h => hFc q h) hFc (fun r1 _ t H1 locs ht hvm hok hB hz1 hk1 hS => ?_)
  obtain ⟨hP, hD⟩ := cjoin ht hP hD [] [0, 1, 2, 3, 4, 5, 6, 7, 8, 9, 10, 11, 12] rfl rfl (by decide) (by decide) hk1 hFc hB
  have hP := hP.sub (ws' := w_BM h cI cJ σ) [0, 1, 2, 3, 4, 5, 6, 7, 8, 9, 10, 11, 12] rfl
  have hD := hD.sub (ws' := w_BM h cI cJ σ) [0, 1, 2, 3, 4, 5, 6, 7, 8, 9, 10, 11, 12] (by decide) rfl
  refine lv_if_eq (tgt := 22) hx hb dX8_setBreak_4 (by decide) (fun c2 => ?_) (fun c2 => ?_)
  · have hok := hok.1 c2
    refine lv_iconst (v := 0) hx hb dX8_setBreak_22 (by decide) ?_
    exact W.zret (v := 0) hx hb hr rfl (fun t ht hW => ⟨⟨0, σ, rfl, hok, by rw [ht]; exact hP, va_K.moved hW.alike hK, hD⟩, hS.F ht⟩) hS.2.2 dX8_setBreak_23
  · have hok := hok.2 c2
    refine lv_aload_n hx hb dX8_setBreak_7 rfl (lv_at hl 0 rfl) ?_
    refine va_get (D := (dC, dI)) (ci := 7) (v := .ref (h 11)) (C := RX8) (T := TX8) (N := 3) hx hb hts (fun w h => List.mem_cons_of_mem _ (in_X8 w h)) hown hK hP 0 rfl rfl 2 (by decide) (hts _ (List.mem_cons_of_mem _ tw_1_221)) (fun _ h9 => h9) rfl dX8_setBreak_8 ?_
    refine lv_iload_n hx hb dX8_setBreak_11 rfl (lv_at hl 1 rfl) ?_
    have hPc := hP.sub (ws' := w_Breaks h cI cJ σ.2) [11, 12] rfl
    have hDc := hD.sub (ws' := w_Breaks h cI cJ σ.2) [11, 12] (by decide) rfl
    have hFc := va_free (wc := w_Breaks h cI cJ σ.2) hD hS hA [11, 12] rfl
    refine va_calli (va_runV (As := [.int a1]) (rest := []) ⟨hx, hb, hml, hown, hts⟩ (c_X1_add l dC dI cI cJ h _ hok) (cwV 1 hts (tb_gV tw_3_29 tw_3_30 tw_3_31 tw_1_8 tw_3_32) rfl rfl rfl (by decide +kernel) ⟨Nat.le_of_ble_eq_true rfl, Nat.le_of_ble_eq_true rfl⟩) (cpre_V (ci := 1) (q0 := 0) hK hPc hDc rfl rfl) rfl rfl hl.1 rfl (lv_room (Nat.le_of_ble_eq_true rfl)) dX8_setBreak_12 ⟨Nat.le_of_ble_eq_true rfl, Nat.le_of_ble_eq_true rfl⟩) hS (fun q _ h => hFc q h) hFc (fun r3 u4 t H1 locs ht hvm hok hB hz1 hk1 hS => ?_)
    obtain ⟨hP, hD⟩ := cjoin ht hP hD [11, 12] [0, 1, 2, 3, 4, 5, 6, 7, 8, 9, 10] rfl rfl (by decide) (by decide) hk1 hFc hB
    have hP := hP.sub (ws' := w_BM h cI cJ (σ.1, u4)) [0, 1, 2, 3, 4, 5, 6, 7, 8, 9, 10, 11, 12] rfl
    have hD := hD.sub (ws' := w_BM h cI cJ (σ.1, u4)) [0, 1, 2, 3, 4, 5, 6, 7, 8, 9, 10, 11, 12] (by decide) rfl
    refine lv_if_eq (tgt := 22) hx hb dX8_setBreak_15 (by decide) (fun c5 => ?_) (fun c5 => ?_)
    · have hok := hok.1 c5
      refine lv_iconst (v := 0) hx hb dX8_setBreak_22 (by decide) ?_
      exact W.zret (v := 0) hx hb hr rfl (fun t ht hW => ⟨⟨0, (σ.1, u4), rfl, hok, by rw [ht]; exact hP, va_K.moved hW.alike hK, hD⟩, hS.F ht⟩) hS.2.2 dX8_setBreak_23
    · have hok := hok.2 c5
      refine lv_iconst (v := 1) hx hb dX8_setBreak_18 (by decide) ?_
      refine lv_goto (tgt := 23) hx hb dX8_setBreak_19 (by decide) ?_
      exact W.zret (v := 1) hx hb hr rfl (fun t ht hW => ⟨⟨1, (σ.1, u4), rfl, hok, by rw [ht]; exact hP, va_K.moved hW.alike hK, hD⟩, hS.F ht⟩) hS.2.2 dX8_setBreak_23
def wp_X8_clearBreak (σ : S_BM) (a1 : Int32) (Φ : Int32 → S_BM → Prop) : Prop := wp_X1_remove σ.2 a1 (fun r1 u2 => (narrow .boolean (.int r1) = .int r1 ∧ Φ r1 (σ.1, u2)))
set_option maxHeartbeats 4000000 in
set_option maxRecDepth 100000 in
theorem c_X8_clearBreak (l : Launch) (dC : Nat → ClassId) (dI : Nat → Nat → Nat) (cI cJ : ClassId) (h : Nat → Nat) (sz : Nat) {σ : S_BM} {a1 : Int32} {Φ : Int32 → S_BM → Prop} (hok : wp_X8_clearBreak σ a1 Φ) : Met l yX8_clearBreak wsX8_clearBreak ({ frames := 2, cells := 0, slots := 0, locals := 44 }) (va_Pc [.ref (h 0), .int a1] (cpre dC dI cI cJ (w_BM h cI cJ σ) sz)) (va_Qi Φ (fun u => cpost dC dI cI cJ (va_A (w_BM h cI cJ σ) sz) (w_BM h cI cJ u)) (va_A (w_BM h cI cJ σ) sz)) 0 0 (va_A (w_BM h cI cJ σ) sz) := by
  refine Met.ofW (cc := cX8_clearBreak) (maxL := 2) (ret := (some .boolean)) (by decide) rfl ?_
  intro p e s m args below meth c s₁ B hml hv
  obtain ⟨rfl, hsz, hP, hK, hD0⟩ := hv
  have hx := B.exec
  have hb := B.bytes
  have hr := B.returns
  have hts := atoms_spec (ws := wsX8_clearBreak) B.pre
  have hown : s.vm.findClass RX8 = some m.cls := findClass_of_methodNamed B.named
  have hlocks := B.notSynchronized
  subst hsz
  have hD := hD0.self (sz := s.heap.size)
  generalize hAe : va_A (w_BM h cI cJ σ) s.heap.size = A at hD ⊢
  have hA : ∀ q : Nat, s.heap.size ≤ q → A q := fun q h => by rw [← hAe]; exact Or.inr h
  clear hD0 hAe
  have hS : va_S A s.heap s.heap [] := va_S.rf
  have hl := lv_entry ([.ref (h 0), .int a1]) (n := 2) (Nat.le_of_ble_eq_true rfl)
  rw [lg_entry_eq]
  generalize (lg_sl ([.ref (h 0), .int a1]) ++ List.replicate (2 - (lg_sl ([.ref (h 0), .int a1])).length) Slot.unset).toArray = ls at hl ⊢
  have hl : lv_has ls 2 [(0, .ref (h 0)), (1, .int a1)] := hl
  unfold wp_X8_clearBreak at hok
  refine lv_aload_n hx hb dX8_clearBreak_0 rfl (lv_at hl 0 rfl) ?_
  refine va_get (D := (dC, dI)) (ci := 7) (v := .ref (h 11)) (C := RX8) (T := TX8) (N := 3) hx hb hts (fun w h => List.mem_cons_of_mem _ (in_X8 w h)) hown hK hP 0 rfl rfl 2 (by decide) (hts _ (List.mem_cons_of_mem _ tw_1_221)) (fun _ h9 => h9) rfl dX8_clearBreak_1 ?_
  refine lv_iload_n hx hb dX8_clearBreak_4 rfl (lv_at hl 1 rfl) ?_
  have hPc := hP.sub (ws' := w_Breaks h cI cJ σ.2) [11, 12] rfl
  have hDc := hD.sub (ws' := w_Breaks h cI cJ σ.2) [11, 12] (by decide) rfl
  have hFc := va_free (wc := w_Breaks h cI cJ σ.2) hD hS hA [11, 12] rfl
  refine va_calli (va_runV (As := [.int a1]) (rest := []) ⟨hx, hb, hml, hown, hts⟩ (c_X1_remove l dC dI cI cJ h _ hok) (cwV 1 hts (tb_gV tw_3_45 tw_3_46 tw_3_47 tw_1_8 tw_3_48) rfl rfl rfl (by decide +kernel) ⟨Nat.le_of_ble_eq_true rfl, Nat.le_of_ble_eq_true rfl⟩) (cpre_V (ci := 1) (q0 := 0) hK hPc hDc rfl rfl) rfl rfl hl.1 rfl (lv_room (Nat.le_of_ble_eq_true rfl)) dX8_clearBreak_5 ⟨Nat.le_of_ble_eq_true rfl, Nat.le_of_ble_eq_true rfl⟩) hS (fun q _ h => hFc q h) hFc (fun r1 u2 t H1 locs ht hvm hok hB hz1 hk1 hS => ?_)
  obtain ⟨hP, hD⟩ := cjoin ht hP hD [11, 12] [0, 1, 2, 3, 4, 5, 6, 7, 8, 9, 10] rfl rfl (by decide) (by decide) hk1 hFc hB
  have hP := hP.sub (ws' := w_BM h cI cJ (σ.1, u2)) [0, 1, 2, 3, 4, 5, 6, 7, 8, 9, 10, 11, 12] rfl
  have hD := hD.sub (ws' := w_BM h cI cJ (σ.1, u2)) [0, 1, 2, 3, 4, 5, 6, 7, 8, 9, 10, 11, 12] (by decide) rfl
  exact W.zret (v := r1) hx hb hr hok.1 (fun t ht hW => ⟨⟨r1, (σ.1, u2), rfl, hok.2, by rw [ht]; exact hP, va_K.moved hW.alike hK, hD⟩, hS.F ht⟩) hS.2.2 dX8_clearBreak_8
def wp_X8_trace (σ : S_BM) (a1 : Int32) (Φ : Int32 → Prop) : Prop := wp_X7_kept σ.1.2.2.1 a1 (fun r1 => Φ r1)
set_option maxHeartbeats 4000000 in
set_option maxRecDepth 100000 in
theorem c_X8_trace (l : Launch) (dC : Nat → ClassId) (dI : Nat → Nat → Nat) (cI cJ : ClassId) (h : Nat → Nat) (sz : Nat) {σ : S_BM} {a1 : Int32} {Φ : Int32 → Prop} (hok : wp_X8_trace σ a1 Φ) : Met l yX8_trace wsX8_trace ({ frames := 2, cells := 0, slots := 0, locals := 43 }) (va_Pc [.ref (h 0), .int a1] (cpre dC dI cI cJ (w_BM h cI cJ σ) sz)) (va_Qi (fun (r : Int32) (_ : Unit) => Φ r) (fun _ => cpost dC dI cI cJ (va_A (w_BM h cI cJ σ) sz) (w_BM h cI cJ σ)) (va_A (w_BM h cI cJ σ) sz)) 0 0 (va_A (w_BM h cI cJ σ) sz) := by
  refine Met.ofW (cc := cX8_trace) (maxL := 2) (ret := (some .int)) (by decide) rfl ?_
  intro p e s m args below meth c s₁ B hml hv
  obtain ⟨rfl, hsz, hP, hK, hD0⟩ := hv
  have hx := B.exec
  have hb := B.bytes
  have hr := B.returns
  have hts := atoms_spec (ws := wsX8_trace) B.pre
  have hown : s.vm.findClass RX8 = some m.cls := findClass_of_methodNamed B.named
  have hlocks := B.notSynchronized
  subst hsz
  have hD := hD0.self (sz := s.heap.size)
  generalize hAe : va_A (w_BM h cI cJ σ) s.heap.size = A at hD ⊢
  have hA : ∀ q : Nat, s.heap.size ≤ q → A q := fun q h => by rw [← hAe]; exact Or.inr h
  clear hD0 hAe
  have hS : va_S A s.heap s.heap [] := va_S.rf
  have hl := lv_entry ([.ref (h 0), .int a1]) (n := 2) (Nat.le_of_ble_eq_true rfl)
  rw [lg_entry_eq]
  generalize (lg_sl ([.ref (h 0), .int a1]) ++ List.replicate (2 - (lg_sl ([.ref (h 0), .int a1])).length) Slot.unset).toArray = ls at hl ⊢
  have hl : lv_has ls 2 [(0, .ref (h 0)), (1, .int a1)] := hl
  unfold wp_X8_trace at hok
  refine lv_aload_n hx hb dX8_trace_0 rfl (lv_at hl 0 rfl) ?_
  refine va_get (D := (dC, dI)) (ci := 7) (v := .ref (h 1)) (C := RX8) (T := TX8) (N := 3) hx hb hts (fun w h => List.mem_cons_of_mem _ (in_X8 w h)) hown hK hP 0 rfl rfl 1 (by decide) (hts _ (List.mem_cons_of_mem _ tw_1_220)) (fun _ h9 => h9) rfl dX8_trace_1 ?_
  refine va_get (D := (dC, dI)) (ci := 4) (v := .ref (h 2)) (C := RX5) (T := TX5) (N := 15) hx hb hts (fun w h => List.mem_cons_of_mem _ (in_X5 w h)) hown hK hP 1 rfl rfl 11 (by decide) (hts _ (List.mem_cons_of_mem _ tw_1_170)) (fun _ h9 => h9) rfl dX8_trace_4 ?_
  refine lv_iload_n hx hb dX8_trace_7 rfl (lv_at hl 1 rfl) ?_
  have hPc := hP.sub (ws' := w_Trace h cI cJ σ.1.2.2.1) [2, 3] rfl
  have hDc := hD.sub (ws' := w_Trace h cI cJ σ.1.2.2.1) [2, 3] (by decide) rfl
  have hFc := va_free (wc := w_Trace h cI cJ σ.1.2.2.1) hD hS hA [2, 3] rfl
  refine va_calli (va_runV (As := [.int a1]) (rest := []) ⟨hx, hb, hml, hown, hts⟩ (c_X7_kept l dC dI cI cJ h _ hok) (cwV 1 hts (tb_gV tw_3_53 tw_3_54 tw_3_55 tw_1_7 tw_3_56) rfl rfl rfl (by decide +kernel) ⟨Nat.le_of_ble_eq_true rfl, Nat.le_of_ble_eq_true rfl⟩) (cpre_V (ci := 6) (q0 := 0) hK hPc hDc rfl rfl) rfl rfl hl.1 rfl (lv_room (Nat.le_of_ble_eq_true rfl)) dX8_trace_8 ⟨Nat.le_of_ble_eq_true rfl, Nat.le_of_ble_eq_true rfl⟩) hS (fun q _ h => hFc q h) hFc (fun r1 _ t H1 locs ht hvm hok hB hz1 hk1 hS => ?_)
  obtain ⟨hP, hD⟩ := cjoin ht hP hD [2, 3] [0, 1, 4, 5, 6, 7, 8, 9, 10, 11, 12] rfl rfl (by decide) (by decide) hk1 hFc hB
  have hP := hP.sub (ws' := w_BM h cI cJ σ) [0, 1, 11, 12, 2, 3, 4, 5, 6, 7, 8, 9, 10] rfl
  have hD := hD.sub (ws' := w_BM h cI cJ σ) [0, 1, 11, 12, 2, 3, 4, 5, 6, 7, 8, 9, 10] (by decide) rfl
  exact W.iret (v := r1) hx hb hr (fun t ht hW => ⟨⟨r1, (), rfl, hok, by rw [ht]; exact hP, va_K.moved hW.alike hK, hD⟩, hS.F ht⟩) hS.2.2 dX8_trace_11
def wp_X8_count (σ : S_BM) (a1 : Int32) (Φ : Int64 → Prop) : Prop := ((a1 = 0 → (Φ σ.1.2.1)) ∧ (a1 = 1 → (Φ ((σ.1.2.2.1.1 0).toInt64))) ∧ (a1 = 2 → (Φ ((σ.1.2.2.2.2.2.1.1 1).toInt64))) ∧ (a1 = 3 → (Φ ((σ.1.2.2.2.2.2.1.1 0).toInt64))) ∧ (a1 = 4 → (Φ ((σ.1.2.2.2.1 2).toInt64))) ∧ (a1 = 5 → (Φ ((σ.1.2.2.2.2.1 0).toInt64))) ∧ (a1 = 6 → (Φ ((σ.1.2.2.2.2.1 1).toInt64))) ∧ (a1 = 7 → (Φ ((σ.1.2.2.2.2.1 2).toInt64))) ∧ (a1 = 8 → (Φ ((σ.1.2.2.2.2.1 3).toInt64))) ∧ (a1 = 9 → (Φ ((σ.1.2.2.2.2.1 4).toInt64))) ∧ (a1 = 10 → ((((σ.1.1 6) = 0 → (Φ 0)) ∧ (¬ (σ.1.1 6) = 0 → (Φ 1))))) ∧ (a1 = 11 → ((((σ.1.1 7) = 0 → (Φ 0)) ∧ (¬ (σ.1.1 7) = 0 → (Φ 1))))) ∧ (a1 = 12 → ((((σ.1.1 8) = 0 → (Φ 0)) ∧ (¬ (σ.1.1 8) = 0 → (Φ 1))))) ∧ (a1 = 13 → (Φ ((σ.2.1 0).toInt64))) ∧ (a1 = 14 → (Φ ((σ.1.1 10).toInt64))) ∧ ((¬ a1 = 0 ∧ ¬ a1 = 1 ∧ ¬ a1 = 2 ∧ ¬ a1 = 3 ∧ ¬ a1 = 4 ∧ ¬ a1 = 5 ∧ ¬ a1 = 6 ∧ ¬ a1 = 7 ∧ ¬ a1 = 8 ∧ ¬ a1 = 9 ∧ ¬ a1 = 10 ∧ ¬ a1 = 11 ∧ ¬ a1 = 12 ∧ ¬ a1 = 13 ∧ ¬ a1 = 14) → (Φ (-1))))
set_option maxHeartbeats 4000000 in
set_option maxRecDepth 100000 in
theorem c_X8_count (l : Launch) (dC : Nat → ClassId) (dI : Nat → Nat → Nat) (cI cJ : ClassId) (h : Nat → Nat) (sz : Nat) {σ : S_BM} {a1 : Int32} {Φ : Int64 → Prop} (hok : wp_X8_count σ a1 Φ) : Met l yX8_count wsX8_count ({ frames := 0, cells := 0, slots := 0, locals := 0 }) (va_Pc [.ref (h 0), .int a1] (cpre dC dI cI cJ (w_BM h cI cJ σ) sz)) (va_Ql (fun (r : Int64) (_ : Unit) => Φ r) (fun _ => cpost dC dI cI cJ (va_A (w_BM h cI cJ σ) sz) (w_BM h cI cJ σ)) (va_A (w_BM h cI cJ σ) sz)) 0 0 (va_A (w_BM h cI cJ σ) sz) := by
  refine Met.ofW (cc := cX8_count) (maxL := 2) (ret := (some .long)) (by decide) rfl ?_
  intro p e s m args below meth c s₁ B hml hv
  obtain ⟨rfl, hsz, hP, hK, hD0⟩ := hv
  have hx := B.exec
  have hb := B.bytes
  have hr := B.returns
  have hts := atoms_spec (ws := wsX8_count) B.pre
  have hown : s.vm.findClass RX8 = some m.cls := findClass_of_methodNamed B.named
  have hlocks := B.notSynchronized
  subst hsz
  have hD := hD0.self (sz := s.heap.size)
  generalize hAe : va_A (w_BM h cI cJ σ) s.heap.size = A at hD ⊢
  have hA : ∀ q : Nat, s.heap.size ≤ q → A q := fun q h => by rw [← hAe]; exact Or.inr h
  clear hD0 hAe
  have hS : va_S A s.heap s.heap [] := va_S.rf
  have hl := lv_entry ([.ref (h 0), .int a1]) (n := 2) (Nat.le_of_ble_eq_true rfl)
  rw [lg_entry_eq]
  generalize (lg_sl ([.ref (h 0), .int a1]) ++ List.replicate (2 - (lg_sl ([.ref (h 0), .int a1])).length) Slot.unset).toArray = ls at hl ⊢
  have hl : lv_has ls 2 [(0, .ref (h 0)), (1, .int a1)] := hl
  unfold wp_X8_count at hok
  refine lv_iload_n hx hb dX8_count_0 rfl (lv_at hl 1 rfl) ?_
  by_cases c1 : a1 = 0
  · have hok := hok.1 c1
    refine lv_tableIn (tgt := 76) (off := 75) hx hb dX8_count_1 (by rw [c1]; decide) (by rw [c1]; decide) (by rw [c1]; decide) (by decide) ?_
    refine lv_aload_n hx hb dX8_count_76 rfl (lv_at hl 0 rfl) ?_
    refine va_get (D := (dC, dI)) (ci := 7) (v := .ref (h 1)) (C := RX8) (T := TX8) (N := 3) hx hb hts (fun w h => List.mem_cons_of_mem _ (in_X8 w h)) hown hK hP 0 rfl rfl 1 (by decide) (hts _ (List.mem_cons_of_mem _ tw_1_220)) (fun _ h9 => h9) rfl dX8_count_77 ?_
    refine va_get (D := (dC, dI)) (ci := 4) (v := .long σ.1.2.1) (C := RX5) (T := TX5) (N := 15) hx hb hts (fun w h => List.mem_cons_of_mem _ (in_X5 w h)) hown hK hP 1 rfl rfl 9 (by decide) (hts _ (List.mem_cons_of_mem _ tw_1_166)) (fun _ h9 => h9) rfl dX8_count_80 ?_
    refine lv_goto (tgt := 288) hx hb dX8_count_83 (by decide) ?_
    exact W.lret (v := σ.1.2.1) hx hb hr (fun t ht hW => ⟨⟨σ.1.2.1, (), rfl, hok, by rw [ht]; exact hP, va_K.moved hW.alike hK, hD⟩, hS.F ht⟩) hS.2.2 dX8_count_288
  have hok := hok.2
  by_cases c2 : a1 = 1
  · have hok := hok.1 c2
    refine lv_tableIn (tgt := 86) (off := 85) hx hb dX8_count_1 (by rw [c2]; decide) (by rw [c2]; decide) (by rw [c2]; decide) (by decide) ?_
    refine lv_aload_n hx hb dX8_count_86 rfl (lv_at hl 0 rfl) ?_
    refine va_get (D := (dC, dI)) (ci := 7) (v := .ref (h 1)) (C := RX8) (T := TX8) (N := 3) hx hb hts (fun w h => List.mem_cons_of_mem _ (in_X8 w h)) hown hK hP 0 rfl rfl 1 (by decide) (hts _ (List.mem_cons_of_mem _ tw_1_220)) (fun _ h9 => h9) rfl dX8_count_87 ?_
    refine va_get (D := (dC, dI)) (ci := 4) (v := .ref (h 2)) (C := RX5) (T := TX5) (N := 15) hx hb hts (fun w h => List.mem_cons_of_mem _ (in_X5 w h)) hown hK hP 1 rfl rfl 11 (by decide) (hts _ (List.mem_cons_of_mem _ tw_1_170)) (fun _ h9 => h9) rfl dX8_count_90 ?_
    refine va_get (D := (dC, dI)) (ci := 6) (v := .int (σ.1.2.2.1.1 0)) (C := RX7) (T := TX7) (N := 2) hx hb hts (fun w h => List.mem_cons_of_mem _ (in_X7 w h)) hown hK hP 2 rfl rfl 0 (by decide) (hts _ (List.mem_cons_of_mem _ tw_1_140)) (fun _ h9 => h9) rfl dX8_count_93 ?_
    refine lv_i2l hx hb dX8_count_96 rfl ?_
    refine lv_goto (tgt := 288) hx hb dX8_count_97 (by decide) ?_
    exact W.lret (v := (σ.1.2.2.1.1 0).toInt64) hx hb hr (fun t ht hW => ⟨⟨(σ.1.2.2.1.1 0).toInt64, (), rfl, hok, by rw [ht]; exact hP, va_K.moved hW.alike hK, hD⟩, hS.F ht⟩) hS.2.2 dX8_count_288
  have hok := hok.2
  by_cases c3 : a1 = 2
  · have hok := hok.1 c3
    refine lv_tableIn (tgt := 100) (off := 99) hx hb dX8_count_1 (by rw [c3]; decide) (by rw [c3]; decide) (by rw [c3]; decide) (by decide) ?_
    refine lv_aload_n hx hb dX8_count_100 rfl (lv_at hl 0 rfl) ?_
    refine va_get (D := (dC, dI)) (ci := 7) (v := .ref (h 4)) (C := RX8) (T := TX8) (N := 3) hx hb hts (fun w h => List.mem_cons_of_mem _ (in_X8 w h)) hown hK hP 0 rfl rfl 0 (by decide) (hts _ (List.mem_cons_of_mem _ tw_1_219)) (fun _ h9 => h9) rfl dX8_count_101 ?_
    refine va_get (D := (dC, dI)) (ci := 0) (v := .ref (h 6)) (C := RX0) (T := TX0) (N := 4) hx hb hts (fun w h => List.mem_cons_of_mem _ (in_X0 w h)) hown hK hP 4 rfl rfl 1 (by decide) (hts _ (List.mem_cons_of_mem _ tw_1_114)) (fun _ h9 => h9) rfl dX8_count_104 ?_
    refine va_get (D := (dC, dI)) (ci := 3) (v := .int (σ.1.2.2.2.2.2.1.1 1)) (C := RX4) (T := TX4) (N := 6) hx hb hts (fun w h => List.mem_cons_of_mem _ (in_X4 w h)) hown hK hP 6 rfl rfl 1 (by decide) (hts _ (List.mem_cons_of_mem _ tw_1_79)) (fun _ h9 => h9) rfl dX8_count_107 ?_
    refine lv_i2l hx hb dX8_count_110 rfl ?_
    refine lv_goto (tgt := 288) hx hb dX8_count_111 (by decide) ?_
    exact W.lret (v := (σ.1.2.2.2.2.2.1.1 1).toInt64) hx hb hr (fun t ht hW => ⟨⟨(σ.1.2.2.2.2.2.1.1 1).toInt64, (), rfl, hok, by rw [ht]; exact hP, va_K.moved hW.alike hK, hD⟩, hS.F ht⟩) hS.2.2 dX8_count_288
  have hok := hok.2
  by_cases c4 : a1 = 3
  · have hok := hok.1 c4
    refine lv_tableIn (tgt := 114) (off := 113) hx hb dX8_count_1 (by rw [c4]; decide) (by rw [c4]; decide) (by rw [c4]; decide) (by decide) ?_
    refine lv_aload_n hx hb dX8_count_114 rfl (lv_at hl 0 rfl) ?_
    refine va_get (D := (dC, dI)) (ci := 7) (v := .ref (h 4)) (C := RX8) (T := TX8) (N := 3) hx hb hts (fun w h => List.mem_cons_of_mem _ (in_X8 w h)) hown hK hP 0 rfl rfl 0 (by decide) (hts _ (List.mem_cons_of_mem _ tw_1_219)) (fun _ h9 => h9) rfl dX8_count_115 ?_
    refine va_get (D := (dC, dI)) (ci := 0) (v := .ref (h 6)) (C := RX0) (T := TX0) (N := 4) hx hb hts (fun w h => List.mem_cons_of_mem _ (in_X0 w h)) hown hK hP 4 rfl rfl 1 (by decide) (hts _ (List.mem_cons_of_mem _ tw_1_114)) (fun _ h9 => h9) rfl dX8_count_118 ?_
    refine va_get (D := (dC, dI)) (ci := 3) (v := .int (σ.1.2.2.2.2.2.1.1 0)) (C := RX4) (T := TX4) (N := 6) hx hb hts (fun w h => List.mem_cons_of_mem _ (in_X4 w h)) hown hK hP 6 rfl rfl 0 (by decide) (hts _ (List.mem_cons_of_mem _ tw_1_77)) (fun _ h9 => h9) rfl dX8_count_121 ?_
    refine lv_i2l hx hb dX8_count_124 rfl ?_
    refine lv_goto (tgt := 288) hx hb dX8_count_125 (by decide) ?_
    exact W.lret (v := (σ.1.2.2.2.2.2.1.1 0).toInt64) hx hb hr (fun t ht hW => ⟨⟨(σ.1.2.2.2.2.2.1.1 0).toInt64, (), rfl, hok, by rw [ht]; exact hP, va_K.moved hW.alike hK, hD⟩, hS.F ht⟩) hS.2.2 dX8_count_288
  have hok := hok.2
  by_cases c5 : a1 = 4
  · have hok := hok.1 c5
    refine lv_tableIn (tgt := 128) (off := 127) hx hb dX8_count_1 (by rw [c5]; decide) (by rw [c5]; decide) (by rw [c5]; decide) (by decide) ?_
    refine lv_aload_n hx hb dX8_count_128 rfl (lv_at hl 0 rfl) ?_
    refine va_get (D := (dC, dI)) (ci := 7) (v := .ref (h 4)) (C := RX8) (T := TX8) (N := 3) hx hb hts (fun w h => List.mem_cons_of_mem _ (in_X8 w h)) hown hK hP 0 rfl rfl 0 (by decide) (hts _ (List.mem_cons_of_mem _ tw_1_219)) (fun _ h9 => h9) rfl dX8_count_129 ?_
    refine va_get (D := (dC, dI)) (ci := 0) (v := .int (σ.1.2.2.2.1 2)) (C := RX0) (T := TX0) (N := 4) hx hb hts (fun w h => List.mem_cons_of_mem _ (in_X0 w h)) hown hK hP 4 rfl rfl 2 (by decide) (hts _ (List.mem_cons_of_mem _ tw_1_116)) (fun _ h9 => h9) rfl dX8_count_132 ?_
    refine lv_i2l hx hb dX8_count_135 rfl ?_
    refine lv_goto (tgt := 288) hx hb dX8_count_136 (by decide) ?_
    exact W.lret (v := (σ.1.2.2.2.1 2).toInt64) hx hb hr (fun t ht hW => ⟨⟨(σ.1.2.2.2.1 2).toInt64, (), rfl, hok, by rw [ht]; exact hP, va_K.moved hW.alike hK, hD⟩, hS.F ht⟩) hS.2.2 dX8_count_288
  have hok := hok.2
  by_cases c6 : a1 = 5
  · have hok := hok.1 c6
    refine lv_tableIn (tgt := 139) (off := 138) hx hb dX8_count_1 (by rw [c6]; decide) (by rw [c6]; decide) (by rw [c6]; decide) (by decide) ?_
    refine lv_aload_n hx hb dX8_count_139 rfl (lv_at hl 0 rfl) ?_
    refine va_get (D := (dC, dI)) (ci := 7) (v := .ref (h 4)) (C := RX8) (T := TX8) (N := 3) hx hb hts (fun w h => List.mem_cons_of_mem _ (in_X8 w h)) hown hK hP 0 rfl rfl 0 (by decide) (hts _ (List.mem_cons_of_mem _ tw_1_219)) (fun _ h9 => h9) rfl dX8_count_140 ?_
    refine va_get (D := (dC, dI)) (ci := 0) (v := .ref (h 5)) (C := RX0) (T := TX0) (N := 4) hx hb hts (fun w h => List.mem_cons_of_mem _ (in_X0 w h)) hown hK hP 4 rfl rfl 0 (by decide) (hts _ (List.mem_cons_of_mem _ tw_1_112)) (fun _ h9 => h9) rfl dX8_count_143 ?_
    refine va_get (D := (dC, dI)) (ci := 5) (v := .int (σ.1.2.2.2.2.1 0)) (C := RX6) (T := TX6) (N := 9) hx hb hts (fun w h => List.mem_cons_of_mem _ (in_X6 w h)) hown hK hP 5 rfl rfl 0 (by decide) (hts _ (List.mem_cons_of_mem _ tw_1_38)) (fun _ h9 => h9) rfl dX8_count_146 ?_
    refine lv_i2l hx hb dX8_count_149 rfl ?_
    refine lv_goto (tgt := 288) hx hb dX8_count_150 (by decide) ?_
    exact W.lret (v := (σ.1.2.2.2.2.1 0).toInt64) hx hb hr (fun t ht hW => ⟨⟨(σ.1.2.2.2.2.1 0).toInt64, (), rfl, hok, by rw [ht]; exact hP, va_K.moved hW.alike hK, hD⟩, hS.F ht⟩) hS.2.2 dX8_count_288
  have hok := hok.2
  by_cases c7 : a1 = 6
  · have hok := hok.1 c7
    refine lv_tableIn (tgt := 153) (off := 152) hx hb dX8_count_1 (by rw [c7]; decide) (by rw [c7]; decide) (by rw [c7]; decide) (by decide) ?_
    refine lv_aload_n hx hb dX8_count_153 rfl (lv_at hl 0 rfl) ?_
    refine va_get (D := (dC, dI)) (ci := 7) (v := .ref (h 4)) (C := RX8) (T := TX8) (N := 3) hx hb hts (fun w h => List.mem_cons_of_mem _ (in_X8 w h)) hown hK hP 0 rfl rfl 0 (by decide) (hts _ (List.mem_cons_of_mem _ tw_1_219)) (fun _ h9 => h9) rfl dX8_count_154 ?_
    refine va_get (D := (dC, dI)) (ci := 0) (v := .ref (h 5)) (C := RX0) (T := TX0) (N := 4) hx hb hts (fun w h => List.mem_cons_of_mem _ (in_X0 w h)) hown hK hP 4 rfl rfl 0 (by decide) (hts _ (List.mem_cons_of_mem _ tw_1_112)) (fun _ h9 => h9) rfl dX8_count_157 ?_
    refine va_get (D := (dC, dI)) (ci := 5) (v := .int (σ.1.2.2.2.2.1 1)) (C := RX6) (T := TX6) (N := 9) hx hb hts (fun w h => List.mem_cons_of_mem _ (in_X6 w h)) hown hK hP 5 rfl rfl 1 (by decide) (hts _ (List.mem_cons_of_mem _ tw_1_40)) (fun _ h9 => h9) rfl dX8_count_160 ?_
    refine lv_i2l hx hb dX8_count_163 rfl ?_
    refine lv_goto (tgt := 288) hx hb dX8_count_164 (by decide) ?_
    exact W.lret (v := (σ.1.2.2.2.2.1 1).toInt64) hx hb hr (fun t ht hW => ⟨⟨(σ.1.2.2.2.2.1 1).toInt64, (), rfl, hok, by rw [ht]; exact hP, va_K.moved hW.alike hK, hD⟩, hS.F ht⟩) hS.2.2 dX8_count_288
  have hok := hok.2
  by_cases c8 : a1 = 7
  · have hok := hok.1 c8
    refine lv_tableIn (tgt := 167) (off := 166) hx hb dX8_count_1 (by rw [c8]; decide) (by rw [c8]; decide) (by rw [c8]; decide) (by decide) ?_
    refine lv_aload_n hx hb dX8_count_167 rfl (lv_at hl 0 rfl) ?_
    refine va_get (D := (dC, dI)) (ci := 7) (v := .ref (h 4)) (C := RX8) (T := TX8) (N := 3) hx hb hts (fun w h => List.mem_cons_of_mem _ (in_X8 w h)) hown hK hP 0 rfl rfl 0 (by decide) (hts _ (List.mem_cons_of_mem _ tw_1_219)) (fun _ h9 => h9) rfl dX8_count_168 ?_
    refine va_get (D := (dC, dI)) (ci := 0) (v := .ref (h 5)) (C := RX0) (T := TX0) (N := 4) hx hb hts (fun w h => List.mem_cons_of_mem _ (in_X0 w h)) hown hK hP 4 rfl rfl 0 (by decide) (hts _ (List.mem_cons_of_mem _ tw_1_112)) (fun _ h9 => h9) rfl dX8_count_171 ?_
    refine va_get (D := (dC, dI)) (ci := 5) (v := .int (σ.1.2.2.2.2.1 2)) (C := RX6) (T := TX6) (N := 9) hx hb hts (fun w h => List.mem_cons_of_mem _ (in_X6 w h)) hown hK hP 5 rfl rfl 2 (by decide) (hts _ (List.mem_cons_of_mem _ tw_1_42)) (fun _ h9 => h9) rfl dX8_count_174 ?_
    refine lv_i2l hx hb dX8_count_177 rfl ?_
    refine lv_goto (tgt := 288) hx hb dX8_count_178 (by decide) ?_
    exact W.lret (v := (σ.1.2.2.2.2.1 2).toInt64) hx hb hr (fun t ht hW => ⟨⟨(σ.1.2.2.2.2.1 2).toInt64, (), rfl, hok, by rw [ht]; exact hP, va_K.moved hW.alike hK, hD⟩, hS.F ht⟩) hS.2.2 dX8_count_288
  have hok := hok.2
  by_cases c9 : a1 = 8
  · have hok := hok.1 c9
    refine lv_tableIn (tgt := 181) (off := 180) hx hb dX8_count_1 (by rw [c9]; decide) (by rw [c9]; decide) (by rw [c9]; decide) (by decide) ?_
    refine lv_aload_n hx hb dX8_count_181 rfl (lv_at hl 0 rfl) ?_
    refine va_get (D := (dC, dI)) (ci := 7) (v := .ref (h 4)) (C := RX8) (T := TX8) (N := 3) hx hb hts (fun w h => List.mem_cons_of_mem _ (in_X8 w h)) hown hK hP 0 rfl rfl 0 (by decide) (hts _ (List.mem_cons_of_mem _ tw_1_219)) (fun _ h9 => h9) rfl dX8_count_182 ?_
    refine va_get (D := (dC, dI)) (ci := 0) (v := .ref (h 5)) (C := RX0) (T := TX0) (N := 4) hx hb hts (fun w h => List.mem_cons_of_mem _ (in_X0 w h)) hown hK hP 4 rfl rfl 0 (by decide) (hts _ (List.mem_cons_of_mem _ tw_1_112)) (fun _ h9 => h9) rfl dX8_count_185 ?_
    refine va_get (D := (dC, dI)) (ci := 5) (v := .int (σ.1.2.2.2.2.1 3)) (C := RX6) (T := TX6) (N := 9) hx hb hts (fun w h => List.mem_cons_of_mem _ (in_X6 w h)) hown hK hP 5 rfl rfl 3 (by decide) (hts _ (List.mem_cons_of_mem _ tw_1_44)) (fun _ h9 => h9) rfl dX8_count_188 ?_
    refine lv_i2l hx hb dX8_count_191 rfl ?_
    refine lv_goto (tgt := 288) hx hb dX8_count_192 (by decide) ?_
    exact W.lret (v := (σ.1.2.2.2.2.1 3).toInt64) hx hb hr (fun t ht hW => ⟨⟨(σ.1.2.2.2.2.1 3).toInt64, (), rfl, hok, by rw [ht]; exact hP, va_K.moved hW.alike hK, hD⟩, hS.F ht⟩) hS.2.2 dX8_count_288
  have hok := hok.2
  by_cases c10 : a1 = 9
  · have hok := hok.1 c10
    refine lv_tableIn (tgt := 195) (off := 194) hx hb dX8_count_1 (by rw [c10]; decide) (by rw [c10]; decide) (by rw [c10]; decide) (by decide) ?_
    refine lv_aload_n hx hb dX8_count_195 rfl (lv_at hl 0 rfl) ?_
    refine va_get (D := (dC, dI)) (ci := 7) (v := .ref (h 4)) (C := RX8) (T := TX8) (N := 3) hx hb hts (fun w h => List.mem_cons_of_mem _ (in_X8 w h)) hown hK hP 0 rfl rfl 0 (by decide) (hts _ (List.mem_cons_of_mem _ tw_1_219)) (fun _ h9 => h9) rfl dX8_count_196 ?_
    refine va_get (D := (dC, dI)) (ci := 0) (v := .ref (h 5)) (C := RX0) (T := TX0) (N := 4) hx hb hts (fun w h => List.mem_cons_of_mem _ (in_X0 w h)) hown hK hP 4 rfl rfl 0 (by decide) (hts _ (List.mem_cons_of_mem _ tw_1_112)) (fun _ h9 => h9) rfl dX8_count_199 ?_
    refine va_get (D := (dC, dI)) (ci := 5) (v := .int (σ.1.2.2.2.2.1 4)) (C := RX6) (T := TX6) (N := 9) hx hb hts (fun w h => List.mem_cons_of_mem _ (in_X6 w h)) hown hK hP 5 rfl rfl 4 (by decide) (hts _ (List.mem_cons_of_mem _ tw_1_46)) (fun _ h9 => h9) rfl dX8_count_202 ?_
    refine lv_i2l hx hb dX8_count_205 rfl ?_
    refine lv_goto (tgt := 288) hx hb dX8_count_206 (by decide) ?_
    exact W.lret (v := (σ.1.2.2.2.2.1 4).toInt64) hx hb hr (fun t ht hW => ⟨⟨(σ.1.2.2.2.2.1 4).toInt64, (), rfl, hok, by rw [ht]; exact hP, va_K.moved hW.alike hK, hD⟩, hS.F ht⟩) hS.2.2 dX8_count_288
  have hok := hok.2
  by_cases c11 : a1 = 10
  · have hok := hok.1 c11
    refine lv_tableIn (tgt := 209) (off := 208) hx hb dX8_count_1 (by rw [c11]; decide) (by rw [c11]; decide) (by rw [c11]; decide) (by decide) ?_
    refine lv_aload_n hx hb dX8_count_209 rfl (lv_at hl 0 rfl) ?_
    refine va_get (D := (dC, dI)) (ci := 7) (v := .ref (h 1)) (C := RX8) (T := TX8) (N := 3) hx hb hts (fun w h => List.mem_cons_of_mem _ (in_X8 w h)) hown hK hP 0 rfl rfl 1 (by decide) (hts _ (List.mem_cons_of_mem _ tw_1_220)) (fun _ h9 => h9) rfl dX8_count_210 ?_
    refine va_get (D := (dC, dI)) (ci := 4) (v := .int (σ.1.1 6)) (C := RX5) (T := TX5) (N := 15) hx hb hts (fun w h => List.mem_cons_of_mem _ (in_X5 w h)) hown hK hP 1 rfl rfl 6 (by decide) (hts _ (List.mem_cons_of_mem _ tw_1_160)) (fun _ h9 => h9) rfl dX8_count_213 ?_
    refine lv_if_eq (tgt := 223) hx hb dX8_count_216 (by decide) (fun c12 => ?_) (fun c12 => ?_)
    · have hok := hok.1 c12
      refine lv_lconst (v := 0) hx hb dX8_count_223 (by decide) ?_
      refine lv_goto (tgt := 288) hx hb dX8_count_224 (by decide) ?_
      exact W.lret (v := 0) hx hb hr (fun t ht hW => ⟨⟨0, (), rfl, hok, by rw [ht]; exact hP, va_K.moved hW.alike hK, hD⟩, hS.F ht⟩) hS.2.2 dX8_count_288
    · have hok := hok.2 c12
      refine lv_lconst (v := 1) hx hb dX8_count_219 (by decide) ?_
      refine lv_goto (tgt := 288) hx hb dX8_count_220 (by decide) ?_
      exact W.lret (v := 1) hx hb hr (fun t ht hW => ⟨⟨1, (), rfl, hok, by rw [ht]; exact hP, va_K.moved hW.alike hK, hD⟩, hS.F ht⟩) hS.2.2 dX8_count_288
  have hok := hok.2
  by_cases c13 : a1 = 11
  · have hok := hok.1 c13
    refine lv_tableIn (tgt := 227) (off := 226) hx hb dX8_count_1 (by rw [c13]; decide) (by rw [c13]; decide) (by rw [c13]; decide) (by decide) ?_
    refine lv_aload_n hx hb dX8_count_227 rfl (lv_at hl 0 rfl) ?_
    refine va_get (D := (dC, dI)) (ci := 7) (v := .ref (h 1)) (C := RX8) (T := TX8) (N := 3) hx hb hts (fun w h => List.mem_cons_of_mem _ (in_X8 w h)) hown hK hP 0 rfl rfl 1 (by decide) (hts _ (List.mem_cons_of_mem _ tw_1_220)) (fun _ h9 => h9) rfl dX8_count_228 ?_
    refine va_get (D := (dC, dI)) (ci := 4) (v := .int (σ.1.1 7)) (C := RX5) (T := TX5) (N := 15) hx hb hts (fun w h => List.mem_cons_of_mem _ (in_X5 w h)) hown hK hP 1 rfl rfl 7 (by decide) (hts _ (List.mem_cons_of_mem _ tw_1_162)) (fun _ h9 => h9) rfl dX8_count_231 ?_
    refine lv_if_eq (tgt := 241) hx hb dX8_count_234 (by decide) (fun c14 => ?_) (fun c14 => ?_)
    · have hok := hok.1 c14
      refine lv_lconst (v := 0) hx hb dX8_count_241 (by decide) ?_
      refine lv_goto (tgt := 288) hx hb dX8_count_242 (by decide) ?_
      exact W.lret (v := 0) hx hb hr (fun t ht hW => ⟨⟨0, (), rfl, hok, by rw [ht]; exact hP, va_K.moved hW.alike hK, hD⟩, hS.F ht⟩) hS.2.2 dX8_count_288
    · have hok := hok.2 c14
      refine lv_lconst (v := 1) hx hb dX8_count_237 (by decide) ?_
      refine lv_goto (tgt := 288) hx hb dX8_count_238 (by decide) ?_
      exact W.lret (v := 1) hx hb hr (fun t ht hW => ⟨⟨1, (), rfl, hok, by rw [ht]; exact hP, va_K.moved hW.alike hK, hD⟩, hS.F ht⟩) hS.2.2 dX8_count_288
  have hok := hok.2
  by_cases c15 : a1 = 12
  · have hok := hok.1 c15
    refine lv_tableIn (tgt := 245) (off := 244) hx hb dX8_count_1 (by rw [c15]; decide) (by rw [c15]; decide) (by rw [c15]; decide) (by decide) ?_
    refine lv_aload_n hx hb dX8_count_245 rfl (lv_at hl 0 rfl) ?_
    refine va_get (D := (dC, dI)) (ci := 7) (v := .ref (h 1)) (C := RX8) (T := TX8) (N := 3) hx hb hts (fun w h => List.mem_cons_of_mem _ (in_X8 w h)) hown hK hP 0 rfl rfl 1 (by decide) (hts _ (List.mem_cons_of_mem _ tw_1_220)) (fun _ h9 => h9) rfl dX8_count_246 ?_
    refine va_get (D := (dC, dI)) (ci := 4) (v := .int (σ.1.1 8)) (C := RX5) (T := TX5) (N := 15) hx hb hts (fun w h => List.mem_cons_of_mem _ (in_X5 w h)) hown hK hP 1 rfl rfl 8 (by decide) (hts _ (List.mem_cons_of_mem _ tw_1_164)) (fun _ h9 => h9) rfl dX8_count_249 ?_
    refine lv_if_eq (tgt := 259) hx hb dX8_count_252 (by decide) (fun c16 => ?_) (fun c16 => ?_)
    · have hok := hok.1 c16
      refine lv_lconst (v := 0) hx hb dX8_count_259 (by decide) ?_
      refine lv_goto (tgt := 288) hx hb dX8_count_260 (by decide) ?_
      exact W.lret (v := 0) hx hb hr (fun t ht hW => ⟨⟨0, (), rfl, hok, by rw [ht]; exact hP, va_K.moved hW.alike hK, hD⟩, hS.F ht⟩) hS.2.2 dX8_count_288
    · have hok := hok.2 c16
      refine lv_lconst (v := 1) hx hb dX8_count_255 (by decide) ?_
      refine lv_goto (tgt := 288) hx hb dX8_count_256 (by decide) ?_
      exact W.lret (v := 1) hx hb hr (fun t ht hW => ⟨⟨1, (), rfl, hok, by rw [ht]; exact hP, va_K.moved hW.alike hK, hD⟩, hS.F ht⟩) hS.2.2 dX8_count_288
  have hok := hok.2
  by_cases c17 : a1 = 13
  · have hok := hok.1 c17
    refine lv_tableIn (tgt := 263) (off := 262) hx hb dX8_count_1 (by rw [c17]; decide) (by rw [c17]; decide) (by rw [c17]; decide) (by decide) ?_
    refine lv_aload_n hx hb dX8_count_263 rfl (lv_at hl 0 rfl) ?_
    refine va_get (D := (dC, dI)) (ci := 7) (v := .ref (h 11)) (C := RX8) (T := TX8) (N := 3) hx hb hts (fun w h => List.mem_cons_of_mem _ (in_X8 w h)) hown hK hP 0 rfl rfl 2 (by decide) (hts _ (List.mem_cons_of_mem _ tw_1_221)) (fun _ h9 => h9) rfl dX8_count_264 ?_
    refine va_get (D := (dC, dI)) (ci := 1) (v := .int (σ.2.1 0)) (C := RX1) (T := TX1) (N := 2) hx hb hts (fun w h => List.mem_cons_of_mem _ (in_X1 w h)) hown hK hP 11 rfl rfl 0 (by decide) (hts _ (List.mem_cons_of_mem _ tw_1_212)) (fun _ h9 => h9) rfl dX8_count_267 ?_
    refine lv_i2l hx hb dX8_count_270 rfl ?_
    refine lv_goto (tgt := 288) hx hb dX8_count_271 (by decide) ?_
    exact W.lret (v := (σ.2.1 0).toInt64) hx hb hr (fun t ht hW => ⟨⟨(σ.2.1 0).toInt64, (), rfl, hok, by rw [ht]; exact hP, va_K.moved hW.alike hK, hD⟩, hS.F ht⟩) hS.2.2 dX8_count_288
  have hok := hok.2
  by_cases c18 : a1 = 14
  · have hok := hok.1 c18
    refine lv_tableIn (tgt := 274) (off := 273) hx hb dX8_count_1 (by rw [c18]; decide) (by rw [c18]; decide) (by rw [c18]; decide) (by decide) ?_
    refine lv_aload_n hx hb dX8_count_274 rfl (lv_at hl 0 rfl) ?_
    refine va_get (D := (dC, dI)) (ci := 7) (v := .ref (h 1)) (C := RX8) (T := TX8) (N := 3) hx hb hts (fun w h => List.mem_cons_of_mem _ (in_X8 w h)) hown hK hP 0 rfl rfl 1 (by decide) (hts _ (List.mem_cons_of_mem _ tw_1_220)) (fun _ h9 => h9) rfl dX8_count_275 ?_
    refine va_get (D := (dC, dI)) (ci := 4) (v := .int (σ.1.1 10)) (C := RX5) (T := TX5) (N := 15) hx hb hts (fun w h => List.mem_cons_of_mem _ (in_X5 w h)) hown hK hP 1 rfl rfl 10 (by decide) (hts _ (List.mem_cons_of_mem _ tw_1_168)) (fun _ h9 => h9) rfl dX8_count_278 ?_
    refine lv_i2l hx hb dX8_count_281 rfl ?_
    refine lv_goto (tgt := 288) hx hb dX8_count_282 (by decide) ?_
    exact W.lret (v := (σ.1.1 10).toInt64) hx hb hr (fun t ht hW => ⟨⟨(σ.1.1 10).toInt64, (), rfl, hok, by rw [ht]; exact hP, va_K.moved hW.alike hK, hD⟩, hS.F ht⟩) hS.2.2 dX8_count_288
  have hok := hok.2
  have hok := hok ⟨c1, c2, c3, c4, c5, c6, c7, c8, c9, c10, c11, c13, c15, c17, c18⟩
  have kz18 : ∀ k ∈ ([0, 1, 2, 3, 4, 5, 6, 7, 8, 9, 10, 11, 12, 13, 14] : List Int), (a1).toInt ≠ k := List.forall_mem_cons.mpr ⟨tb_ne c1 rfl, List.forall_mem_cons.mpr ⟨tb_ne c2 rfl, List.forall_mem_cons.mpr ⟨tb_ne c3 rfl, List.forall_mem_cons.mpr ⟨tb_ne c4 rfl, List.forall_mem_cons.mpr ⟨tb_ne c5 rfl, List.forall_mem_cons.mpr ⟨tb_ne c6 rfl, List.forall_mem_cons.mpr ⟨tb_ne c7 rfl, List.forall_mem_cons.mpr ⟨tb_ne c8 rfl, List.forall_mem_cons.mpr ⟨tb_ne c9 rfl, List.forall_mem_cons.mpr ⟨tb_ne c10 rfl, List.forall_mem_cons.mpr ⟨tb_ne c11 rfl, List.forall_mem_cons.mpr ⟨tb_ne c13 rfl, List.forall_mem_cons.mpr ⟨tb_ne c15 rfl, List.forall_mem_cons.mpr ⟨tb_ne c17 rfl, List.forall_mem_cons.mpr ⟨tb_ne c18 rfl, fun k h => absurd h List.not_mem_nil⟩⟩⟩⟩⟩⟩⟩⟩⟩⟩⟩⟩⟩⟩⟩
  refine tb_def (tgt := 285) (keys := [0, 1, 2, 3, 4, 5, 6, 7, 8, 9, 10, 11, 12, 13, 14]) hx hb dX8_count_1 kz18 (by decide) (by decide) ?_
  refine lv_ldc2 (v := (-1)) hx hb hown (hts _ (List.mem_cons_of_mem _ tw_3_64)) dX8_count_285 ?_
  exact W.lret (v := (-1)) hx hb hr (fun t ht hW => ⟨⟨(-1), (), rfl, hok, by rw [ht]; exact hP, va_K.moved hW.alike hK, hD⟩, hS.F ht⟩) hS.2.2 dX8_count_288
