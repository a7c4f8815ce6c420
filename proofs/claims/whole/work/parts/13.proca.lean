def wp_X5_wordAt (σ : S_Proc) (a1 : Int32) (Φ : Int32 → S_Proc → Prop) : Prop := wp_X0_read σ.2.2.2 a1 (fun r1 u2 => wp_X0_read u2 ((a1 + (1 : Int32)) &&& (65535 : Int32)) (fun r3 u4 => Φ (r1 ||| (r3 <<< ((8 : Int32) &&& 31))) (σ.1, σ.2.1, σ.2.2.1, u4)))
set_option maxHeartbeats 4000000 in
set_option maxRecDepth 100000 in
theorem c_X5_wordAt (l : Launch) (dC : Nat → ClassId) (dI : Nat → Nat → Nat) (cI cJ : ClassId) (h : Nat → Nat) (sz : Nat) {σ : S_Proc} {a1 : Int32} {Φ : Int32 → S_Proc → Prop} (hok : wp_X5_wordAt σ a1 Φ) : Met l yX5_wordAt wsX5_wordAt ({ frames := 3, cells := 0, slots := 0, locals := 64 }) (va_Pc [.ref (h 1), .int a1] (cpre dC dI cI cJ (w_Proc h cI cJ σ) sz)) (va_Qi Φ (fun u => cpost dC dI cI cJ (va_A (w_Proc h cI cJ σ) sz) (w_Proc h cI cJ u)) (va_A (w_Proc h cI cJ σ) sz)) 0 0 (va_A (w_Proc h cI cJ σ) sz) := by
  refine Met.ofW (cc := cX5_wordAt) (maxL := 3) (ret := (some .int)) (by decide) rfl ?_
  intro p e s m args below meth c s₁ B hml hv
  obtain ⟨rfl, hsz, hP, hK, hD0⟩ := hv
  have hx := B.exec
  have hb := B.bytes
  have hr := B.returns
  have hts := atoms_spec (ws := wsX5_wordAt) B.pre
  have hown : s.vm.findClass RX5 = some m.cls := findClass_of_methodNamed B.named
  have hlocks := B.notSynchronized
  subst hsz
  have hD := hD0.self (sz := s.heap.size)
  generalize hAe : va_A (w_Proc h cI cJ σ) s.heap.size = A at hD ⊢
  have hA : ∀ q : Nat, s.heap.size ≤ q → A q := fun q h => by rw [← hAe]; exact Or.inr h
  clear hD0 hAe
  have hS : va_S A s.heap s.heap [] := va_S.rf
  have hl := lv_entry ([.ref (h 1), .int a1]) (n := 3) (Nat.le_of_ble_eq_true rfl)
  rw [lg_entry_eq]
  generalize (lg_sl ([.ref (h 1), .int a1]) ++ List.replicate (3 - (lg_sl ([.ref (h 1), .int a1])).length) Slot.unset).toArray = ls at hl ⊢
  have hl : lv_has ls 3 [(0, .ref (h 1)), (1, .int a1)] := hl
  unfold wp_X5_wordAt at hok
  refine lv_aload_n hx hb dX5_wordAt_0 rfl (lv_at hl 0 rfl) ?_
  refine va_get (D := (dC, dI)) (ci := 4) (v := .ref (h 4)) (C := RX5) (T := TX5) (N := 15) hx hb hts (fun w h => List.mem_cons_of_mem _ (in_X5 w h)) hown hK hP 0 rfl rfl 12 (by decide) (hts _ (List.mem_cons_of_mem _ tw_1_171)) (fun _ h9 => h9) rfl dX5_wordAt_1 ?_
  refine lv_iload_n hx hb dX5_wordAt_4 rfl (lv_at hl 1 rfl) ?_
  have hPc := hP.sub (ws' := w_Board h cI cJ σ.2.2.2) [3, 4, 5, 6, 7, 8, 9] rfl
  have hDc := hD.sub (ws' := w_Board h cI cJ σ.2.2.2) [3, 4, 5, 6, 7, 8, 9] (by decide) rfl
  have hFc := va_free (wc := w_Board h cI cJ σ.2.2.2) hD hS hA [3, 4, 5, 6, 7, 8, 9] rfl
  refine va_calli (va_runV (As := [.int a1]) (rest := []) ⟨hx, hb, hml, hown, hts⟩ (c_X0_read l dC dI cI cJ h _ hok) (cwV 1 hts (tb_gV tw_2_14 tw_2_15 tw_2_16 tw_1_2 tw_2_17) rfl rfl rfl (by decide +kernel) ⟨Nat.le_of_ble_eq_true rfl, Nat.le_of_ble_eq_true rfl⟩) (cpre_V (ci := 0) (q0 := 0) hK hPc hDc rfl rfl) rfl rfl hl.1 rfl (lv_room (Nat.le_of_ble_eq_true rfl)) dX5_wordAt_5 ⟨Nat.le_of_ble_eq_true rfl, Nat.le_of_ble_eq_true rfl⟩) hS (fun q _ h => hFc q h) hFc (fun r1 u2 t H1 locs ht hvm hok hB hz1 hk1 hS => ?_)
  obtain ⟨hP, hD⟩ := cjoin ht hP hD [3, 4, 5, 6, 7, 8, 9] [0, 1, 2] rfl rfl (by decide) (by decide) hk1 hFc hB
  have hP := hP.sub (ws' := w_Proc h cI cJ (σ.1, σ.2.1, σ.2.2.1, u2)) [0, 1, 2, 3, 4, 5, 6, 7, 8, 9] rfl
  have hD := hD.sub (ws' := w_Proc h cI cJ (σ.1, σ.2.1, σ.2.2.1, u2)) [0, 1, 2, 3, 4, 5, 6, 7, 8, 9] (by decide) rfl
  refine lv_istore_n (lv' := [(2, .int r1), (0, .ref (h 1)), (1, .int a1)]) hx hb dX5_wordAt_8 rfl hl (by decide) rfl (fun ls hl => ?_)
  refine lv_iload_n hx hb dX5_wordAt_9 rfl (lv_at hl 0 rfl) ?_
  refine lv_aload_n hx hb dX5_wordAt_10 rfl (lv_at hl 1 rfl) ?_
  refine va_get (D := (dC, dI)) (ci := 4) (v := .ref (h 4)) (C := RX5) (T := TX5) (N := 15) hx hb hts (fun w h => List.mem_cons_of_mem _ (in_X5 w h)) hown hK hP 0 rfl rfl 12 (by decide) (hts _ (List.mem_cons_of_mem _ tw_1_171)) (fun _ h9 => h9) rfl dX5_wordAt_11 ?_
  refine lv_iload_n hx hb dX5_wordAt_14 rfl (lv_at hl 2 rfl) ?_
  refine lv_iconst (v := 1) hx hb dX5_wordAt_15 (by decide) ?_
  refine lv_iadd hx hb dX5_wordAt_16 ?_
  refine lv_ldc (v := 65535) hx hb hown (hts _ (List.mem_cons_of_mem _ tw_2_60)) dX5_wordAt_17 ?_
  refine lv_iand hx hb dX5_wordAt_19 ?_
  have hPc := hP.sub (ws' := w_Board h cI cJ u2) [3, 4, 5, 6, 7, 8, 9] rfl
  have hDc := hD.sub (ws' := w_Board h cI cJ u2) [3, 4, 5, 6, 7, 8, 9] (by decide) rfl
  have hFc := va_free (wc := w_Board h cI cJ u2) hD hS hA [3, 4, 5, 6, 7, 8, 9] rfl
  refine va_calli (va_runV (As := [.int ((a1 + (1 : Int32)) &&& (65535 : Int32))]) (rest := [.int r1]) ⟨hx, hb, hml, hown, hts⟩ (c_X0_read l dC dI cI cJ h _ hok) (cwV 1 hts (tb_gV tw_2_14 tw_2_15 tw_2_16 tw_1_2 tw_2_17) rfl rfl rfl (by decide +kernel) ⟨Nat.le_of_ble_eq_true rfl, Nat.le_of_ble_eq_true rfl⟩) (cpre_V (ci := 0) (q0 := 0) hK hPc hDc rfl rfl) rfl rfl hl.1 rfl (lv_room (Nat.le_of_ble_eq_true rfl)) dX5_wordAt_20 ⟨Nat.le_of_ble_eq_true rfl, Nat.le_of_ble_eq_true rfl⟩) hS (fun q _ h => hFc q h) hFc (fun r3 u4 t H1 locs ht hvm hok hB hz1 hk1 hS => ?_)
  obtain ⟨hP, hD⟩ := cjoin ht hP hD [3, 4, 5, 6, 7, 8, 9] [0, 1, 2] rfl rfl (by decide) (by decide) hk1 hFc hB
  have hP := hP.sub (ws' := w_Proc h cI cJ (σ.1, σ.2.1, σ.2.2.1, u4)) [0, 1, 2, 3, 4, 5, 6, 7, 8, 9] rfl
  have hD := hD.sub (ws' := w_Proc h cI cJ (σ.1, σ.2.1, σ.2.2.1, u4)) [0, 1, 2, 3, 4, 5, 6, 7, 8, 9] (by decide) rfl
  refine lv_bipush (v := 8) hx hb dX5_wordAt_23 (by decide) ?_
  refine lv_ishl hx hb dX5_wordAt_25 ?_
  refine lv_ior hx hb dX5_wordAt_26 ?_
  exact W.iret (v := r1 ||| (r3 <<< ((8 : Int32) &&& 31))) hx hb hr (fun t ht hW => ⟨⟨r1 ||| (r3 <<< ((8 : Int32) &&& 31)), (σ.1, σ.2.1, σ.2.2.1, u4), rfl, hok, by rw [ht]; exact hP, va_K.moved hW.alike hK, hD⟩, hS.F ht⟩) hS.2.2 dX5_wordAt_27
def wp_X5_restart (σ : S_Proc) (Φ : S_Proc → Prop) : Prop := wp_X5_wordAt (upd (upd σ.1 3 253) 4 (((σ.1 4) &&& (-9 : Int32)) ||| (4 : Int32)), σ.2.1, σ.2.2.1, σ.2.2.2) 65532 (fun r1 u2 => Φ (upd (upd (upd (upd u2.1 5 r1) 6 0) 7 0) 8 0, u2.2.1, u2.2.2.1, u2.2.2.2))
set_option maxHeartbeats 4000000 in
set_option maxRecDepth 100000 in
theorem c_X5_restart (l : Launch) (dC : Nat → ClassId) (dI : Nat → Nat → Nat) (cI cJ : ClassId) (h : Nat → Nat) (sz : Nat) {σ : S_Proc} {Φ : S_Proc → Prop} (hok : wp_X5_restart σ Φ) : Met l yX5_restart wsX5_restart ({ frames := 4, cells := 0, slots := 0, locals := 86 }) (va_Pc [.ref (h 1)] (cpre dC dI cI cJ (w_Proc h cI cJ σ) sz)) (va_Qv Φ (fun u => cpost dC dI cI cJ (va_A (w_Proc h cI cJ σ) sz) (w_Proc h cI cJ u)) (va_A (w_Proc h cI cJ σ) sz)) 0 0 (va_A (w_Proc h cI cJ σ) sz) := by
  refine Met.ofW (cc := cX5_restart) (maxL := 1) (ret := none) (by decide) rfl ?_
  intro p e s m args below meth c s₁ B hml hv
  obtain ⟨rfl, hsz, hP, hK, hD0⟩ := hv
  have hx := B.exec
  have hb := B.bytes
  have hr := B.returns
  have hts := atoms_spec (ws := wsX5_restart) B.pre
  have hown : s.vm.findClass RX5 = some m.cls := findClass_of_methodNamed B.named
  have hlocks := B.notSynchronized
  subst hsz
  have hD := hD0.self (sz := s.heap.size)
  generalize hAe : va_A (w_Proc h cI cJ σ) s.heap.size = A at hD ⊢
  have hA : ∀ q : Nat, s.heap.size ≤ q → A q := fun q h => by rw [← hAe]; exact Or.inr h
  clear hD0 hAe
  have hS : va_S A s.heap s.heap [] := va_S.rf
  have hl := lv_entry ([.ref (h 1)]) (n := 1) (Nat.le_of_ble_eq_true rfl)
  rw [lg_entry_eq]
  generalize (lg_sl ([.ref (h 1)]) ++ List.replicate (1 - (lg_sl ([.ref (h 1)])).length) Slot.unset).toArray = ls at hl ⊢
  have hl : lv_has ls 1 [(0, .ref (h 1))] := hl
  unfold wp_X5_restart at hok
  refine lv_aload_n hx hb dX5_restart_0 rfl (lv_at hl 0 rfl) ?_
  refine lv_sipush (v := 253) hx hb dX5_restart_1 (by decide) ?_
  refine va_put (D := (dC, dI)) (ci := 4) (v := .int 253) (ty := .int) (C := RX5) (T := TX5) (N := 15) hx hb hts (fun w h => List.mem_cons_of_mem _ (in_X5 w h)) tyX5 tyX5_ok nmX5 hown hK hP hD hS 0 rfl rfl 3 (by decide) (hts _ (List.mem_cons_of_mem _ tw_1_153)) (fun _ h9 => h9) rfl (by decide +kernel) rfl rfl (Nat.le_of_ble_eq_true rfl) dX5_restart_4 (fun H locs hP hD hS => ?_)
  have hP : va_P (dC, dI) vwCl (w_Proc h cI cJ (upd σ.1 3 253, σ.2.1, σ.2.2.1, σ.2.2.2)) _ := hP
  have hD : va_D A (w_Proc h cI cJ (upd σ.1 3 253, σ.2.1, σ.2.2.1, σ.2.2.2)) := hD
  refine lv_aload_n hx hb dX5_restart_7 rfl (lv_at hl 0 rfl) ?_
  refine lv_aload_n hx hb dX5_restart_8 rfl (lv_at hl 0 rfl) ?_
  refine va_get (D := (dC, dI)) (ci := 4) (v := .int (σ.1 4)) (C := RX5) (T := TX5) (N := 15) hx hb hts (fun w h => List.mem_cons_of_mem _ (in_X5 w h)) hown hK hP 0 rfl rfl 4 (by decide) (hts _ (List.mem_cons_of_mem _ tw_1_155)) (fun _ h9 => h9) rfl dX5_restart_9 ?_
  refine lv_bipush (v := (-9)) hx hb dX5_restart_12 (by decide) ?_
  refine lv_iand hx hb dX5_restart_14 ?_
  refine lv_iconst (v := 4) hx hb dX5_restart_15 (by decide) ?_
  refine lv_ior hx hb dX5_restart_16 ?_
  refine va_put (D := (dC, dI)) (ci := 4) (v := .int (((σ.1 4) &&& (-9 : Int32)) ||| (4 : Int32))) (ty := .int) (C := RX5) (T := TX5) (N := 15) hx hb hts (fun w h => List.mem_cons_of_mem _ (in_X5 w h)) tyX5 tyX5_ok nmX5 hown hK hP hD hS 0 rfl rfl 4 (by decide) (hts _ (List.mem_cons_of_mem _ tw_1_155)) (fun _ h9 => h9) rfl (by decide +kernel) rfl rfl (Nat.le_of_ble_eq_true rfl) dX5_restart_17 (fun H locs hP hD hS => ?_)
  have hP : va_P (dC, dI) vwCl (w_Proc h cI cJ (upd (upd σ.1 3 253) 4 (((σ.1 4) &&& (-9 : Int32)) ||| (4 : Int32)), σ.2.1, σ.2.2.1, σ.2.2.2)) _ := hP
  have hD : va_D A (w_Proc h cI cJ (upd (upd σ.1 3 253) 4 (((σ.1 4) &&& (-9 : Int32)) ||| (4 : Int32)), σ.2.1, σ.2.2.1, σ.2.2.2)) := hD
  refine lv_aload_n hx hb dX5_restart_20 rfl (lv_at hl 0 rfl) ?_
  refine lv_aload_n hx hb dX5_restart_21 rfl (lv_at hl 0 rfl) ?_
  refine lv_ldc (v := 65532) hx hb hown (hts _ (List.mem_cons_of_mem _ tw_2_9)) dX5_restart_22 ?_
  have hPc := hP
  have hDc := hD
  have hFc := va_free (wc := w_Proc h cI cJ (upd (upd σ.1 3 253) 4 (((σ.1 4) &&& (-9 : Int32)) ||| (4 : Int32)), σ.2.1, σ.2.2.1, σ.2.2.2)) hD hS hA [0, 1, 2, 3, 4, 5, 6, 7, 8, 9] rfl
  refine va_calli (va_runV (As := [.int 65532]) (rest := [.ref (h 1)]) ⟨hx, hb, hml, hown, hts⟩ (c_X5_wordAt l dC dI cI cJ h _ hok) (cwV 1 hts (tb_gV tw_2_10 tw_2_12 tw_p_0 tw_1_6 tw_2_13) rfl rfl rfl (by decide +kernel) ⟨Nat.le_of_ble_eq_true rfl, Nat.le_of_ble_eq_true rfl⟩) (cpre_V (ci := 4) (q0 := 0) hK hPc hDc rfl rfl) rfl rfl hl.1 rfl (lv_room (Nat.le_of_ble_eq_true rfl)) dX5_restart_24 ⟨Nat.le_of_ble_eq_true rfl, Nat.le_of_ble_eq_true rfl⟩) hS (fun q _ h => hFc q h) hFc (fun r1 u2 t H1 locs ht hvm hok hB hz1 hk1 hS => ?_)
  obtain ⟨hP, hD⟩ := cjoin_w ht hB hFc
  refine va_put (D := (dC, dI)) (ci := 4) (v := .int r1) (ty := .int) (C := RX5) (T := TX5) (N := 15) hx hb hts (fun w h => List.mem_cons_of_mem _ (in_X5 w h)) tyX5 tyX5_ok nmX5 hown hK hP hD hS 0 rfl rfl 5 (by decide) (hts _ (List.mem_cons_of_mem _ tw_1_157)) (fun _ h9 => h9) rfl (by decide +kernel) rfl rfl (Nat.le_of_ble_eq_true rfl) dX5_restart_27 (fun H locs hP hD hS => ?_)
  have hP : va_P (dC, dI) vwCl (w_Proc h cI cJ (upd u2.1 5 r1, u2.2.1, u2.2.2.1, u2.2.2.2)) _ := hP
  have hD : va_D A (w_Proc h cI cJ (upd u2.1 5 r1, u2.2.1, u2.2.2.1, u2.2.2.2)) := hD
  refine lv_aload_n hx hb dX5_restart_30 rfl (lv_at hl 0 rfl) ?_
  refine lv_iconst (v := 0) hx hb dX5_restart_31 (by decide) ?_
  refine va_put (D := (dC, dI)) (ci := 4) (v := .int 0) (ty := .boolean) (C := RX5) (T := TX5) (N := 15) hx hb hts (fun w h => List.mem_cons_of_mem _ (in_X5 w h)) tyX5 tyX5_ok nmX5 hown hK hP hD hS 0 rfl rfl 6 (by decide) (hts _ (List.mem_cons_of_mem _ tw_1_159)) (fun _ h9 => h9) rfl (by decide +kernel) rfl rfl (Nat.le_of_ble_eq_true rfl) dX5_restart_32 (fun H locs hP hD hS => ?_)
  have hP : va_P (dC, dI) vwCl (w_Proc h cI cJ (upd (upd u2.1 5 r1) 6 0, u2.2.1, u2.2.2.1, u2.2.2.2)) _ := hP
  have hD : va_D A (w_Proc h cI cJ (upd (upd u2.1 5 r1) 6 0, u2.2.1, u2.2.2.1, u2.2.2.2)) := hD
  refine lv_aload_n hx hb dX5_restart_35 rfl (lv_at hl 0 rfl) ?_
  refine lv_iconst (v := 0) hx hb dX5_restart_36 (by decide) ?_
  refine va_put (D := (dC, dI)) (ci := 4) (v := .int 0) (ty := .boolean) (C := RX5) (T := TX5) (N := 15) hx hb hts (fun w h => List.mem_cons_of_mem _ (in_X5 w h)) tyX5 tyX5_ok nmX5 hown hK hP hD hS 0 rfl rfl 7 (by decide) (hts _ (List.mem_cons_of_mem _ tw_1_161)) (fun _ h9 => h9) rfl (by decide +kernel) rfl rfl (Nat.le_of_ble_eq_true rfl) dX5_restart_37 (fun H locs hP hD hS => ?_)
  have hP : va_P (dC, dI) vwCl (w_Proc h cI cJ (upd (upd (upd u2.1 5 r1) 6 0) 7 0, u2.2.1, u2.2.2.1, u2.2.2.2)) _ := hP
  have hD : va_D A (w_Proc h cI cJ (upd (upd (upd u2.1 5 r1) 6 0) 7 0, u2.2.1, u2.2.2.1, u2.2.2.2)) := hD
  refine lv_aload_n hx hb dX5_restart_40 rfl (lv_at hl 0 rfl) ?_
  refine lv_iconst (v := 0) hx hb dX5_restart_41 (by decide) ?_
  refine va_put (D := (dC, dI)) (ci := 4) (v := .int 0) (ty := .boolean) (C := RX5) (T := TX5) (N := 15) hx hb hts (fun w h => List.mem_cons_of_mem _ (in_X5 w h)) tyX5 tyX5_ok nmX5 hown hK hP hD hS 0 rfl rfl 8 (by decide) (hts _ (List.mem_cons_of_mem _ tw_1_163)) (fun _ h9 => h9) rfl (by decide +kernel) rfl rfl (Nat.le_of_ble_eq_true rfl) dX5_restart_42 (fun H locs hP hD hS => ?_)
  have hP : va_P (dC, dI) vwCl (w_Proc h cI cJ (upd (upd (upd (upd u2.1 5 r1) 6 0) 7 0) 8 0, u2.2.1, u2.2.2.1, u2.2.2.2)) _ := hP
  have hD : va_D A (w_Proc h cI cJ (upd (upd (upd (upd u2.1 5 r1) 6 0) 7 0) 8 0, u2.2.1, u2.2.2.1, u2.2.2.2)) := hD
  exact W.vret hx hb hr (fun t ht hW => ⟨⟨(upd (upd (upd (upd u2.1 5 r1) 6 0) 7 0) 8 0, u2.2.1, u2.2.2.1, u2.2.2.2), rfl, hok, by rw [ht]; exact hP, va_K.moved hW.alike hK, hD⟩, hS.F ht⟩) hS.2.2 dX5_restart_45
def wp_X5_push (σ : S_Proc) (a1 : Int32) (Φ : S_Proc → Prop) : Prop := wp_X0_write σ.2.2.2 ((256 : Int32) + (σ.1 3)) a1 (fun u1 => Φ (upd σ.1 3 (((σ.1 3) - (1 : Int32)) &&& (255 : Int32)), σ.2.1, σ.2.2.1, u1))
set_option maxHeartbeats 4000000 in
set_option maxRecDepth 100000 in
theorem c_X5_push (l : Launch) (dC : Nat → ClassId) (dI : Nat → Nat → Nat) (cI cJ : ClassId) (h : Nat → Nat) (sz : Nat) {σ : S_Proc} {a1 : Int32} {Φ : S_Proc → Prop} (hok : wp_X5_push σ a1 Φ) : Met l yX5_push wsX5_push ({ frames := 2, cells := 0, slots := 0, locals := 47 }) (va_Pc [.ref (h 1), .int a1] (cpre dC dI cI cJ (w_Proc h cI cJ σ) sz)) (va_Qv Φ (fun u => cpost dC dI cI cJ (va_A (w_Proc h cI cJ σ) sz) (w_Proc h cI cJ u)) (va_A (w_Proc h cI cJ σ) sz)) 0 0 (va_A (w_Proc h cI cJ σ) sz) := by
  refine Met.ofW (cc := cX5_push) (maxL := 2) (ret := none) (by decide) rfl ?_
  intro p e s m args below meth c s₁ B hml hv
  obtain ⟨rfl, hsz, hP, hK, hD0⟩ := hv
  have hx := B.exec
  have hb := B.bytes
  have hr := B.returns
  have hts := atoms_spec (ws := wsX5_push) B.pre
  have hown : s.vm.findClass RX5 = some m.cls := findClass_of_methodNamed B.named
  have hlocks := B.notSynchronized
  subst hsz
  have hD := hD0.self (sz := s.heap.size)
  generalize hAe : va_A (w_Proc h cI cJ σ) s.heap.size = A at hD ⊢
  have hA : ∀ q : Nat, s.heap.size ≤ q → A q := fun q h => by rw [← hAe]; exact Or.inr h
  clear hD0 hAe
  have hS : va_S A s.heap s.heap [] := va_S.rf
  have hl := lv_entry ([.ref (h 1), .int a1]) (n := 2) (Nat.le_of_ble_eq_true rfl)
  rw [lg_entry_eq]
  generalize (lg_sl ([.ref (h 1), .int a1]) ++ List.replicate (2 - (lg_sl ([.ref (h 1), .int a1])).length) Slot.unset).toArray = ls at hl ⊢
  have hl : lv_has ls 2 [(0, .ref (h 1)), (1, .int a1)] := hl
  unfold wp_X5_push at hok
  refine lv_aload_n hx hb dX5_push_0 rfl (lv_at hl 0 rfl) ?_
  refine va_get (D := (dC, dI)) (ci := 4) (v := .ref (h 4)) (C := RX5) (T := TX5) (N := 15) hx hb hts (fun w h => List.mem_cons_of_mem _ (in_X5 w h)) hown hK hP 0 rfl rfl 12 (by decide) (hts _ (List.mem_cons_of_mem _ tw_1_171)) (fun _ h9 => h9) rfl dX5_push_1 ?_
  refine lv_sipush (v := 256) hx hb dX5_push_4 (by decide) ?_
  refine lv_aload_n hx hb dX5_push_7 rfl (lv_at hl 0 rfl) ?_
  refine va_get (D := (dC, dI)) (ci := 4) (v := .int (σ.1 3)) (C := RX5) (T := TX5) (N := 15) hx hb hts (fun w h => List.mem_cons_of_mem _ (in_X5 w h)) hown hK hP 0 rfl rfl 3 (by decide) (hts _ (List.mem_cons_of_mem _ tw_1_153)) (fun _ h9 => h9) rfl dX5_push_8 ?_
  refine lv_iadd hx hb dX5_push_11 ?_
  refine lv_iload_n hx hb dX5_push_12 rfl (lv_at hl 1 rfl) ?_
  have hPc := hP.sub (ws' := w_Board h cI cJ σ.2.2.2) [3, 4, 5, 6, 7, 8, 9] rfl
  have hDc := hD.sub (ws' := w_Board h cI cJ σ.2.2.2) [3, 4, 5, 6, 7, 8, 9] (by decide) rfl
  have hFc := va_free (wc := w_Board h cI cJ σ.2.2.2) hD hS hA [3, 4, 5, 6, 7, 8, 9] rfl
  refine va_callv (va_runV (As := [.int ((256 : Int32) + (σ.1 3)), .int a1]) (rest := []) ⟨hx, hb, hml, hown, hts⟩ (c_X0_write l dC dI cI cJ h _ hok) (cwV 2 hts (tb_gV tw_2_96 tw_2_97 tw_2_98 tw_1_2 tw_2_99) rfl rfl rfl (by decide +kernel) ⟨Nat.le_of_ble_eq_true rfl, Nat.le_of_ble_eq_true rfl⟩) (cpre_V (ci := 0) (q0 := 0) hK hPc hDc rfl rfl) rfl rfl hl.1 rfl (lv_room (Nat.le_of_ble_eq_true rfl)) dX5_push_13 ⟨Nat.le_of_ble_eq_true rfl, Nat.le_of_ble_eq_true rfl⟩) hS (fun q _ h => hFc q h) hFc (fun u1 t H1 locs ht hvm hok hB hz1 hk1 hS => ?_)
  obtain ⟨hP, hD⟩ := cjoin ht hP hD [3, 4, 5, 6, 7, 8, 9] [0, 1, 2] rfl rfl (by decide) (by decide) hk1 hFc hB
  have hP := hP.sub (ws' := w_Proc h cI cJ (σ.1, σ.2.1, σ.2.2.1, u1)) [0, 1, 2, 3, 4, 5, 6, 7, 8, 9] rfl
  have hD := hD.sub (ws' := w_Proc h cI cJ (σ.1, σ.2.1, σ.2.2.1, u1)) [0, 1, 2, 3, 4, 5, 6, 7, 8, 9] (by decide) rfl
  refine lv_aload_n hx hb dX5_push_16 rfl (lv_at hl 0 rfl) ?_
  refine lv_aload_n hx hb dX5_push_17 rfl (lv_at hl 0 rfl) ?_
  refine va_get (D := (dC, dI)) (ci := 4) (v := .int (σ.1 3)) (C := RX5) (T := TX5) (N := 15) hx hb hts (fun w h => List.mem_cons_of_mem _ (in_X5 w h)) hown hK hP 0 rfl rfl 3 (by decide) (hts _ (List.mem_cons_of_mem _ tw_1_153)) (fun _ h9 => h9) rfl dX5_push_18 ?_
  refine lv_iconst (v := 1) hx hb dX5_push_21 (by decide) ?_
  refine lv_isub hx hb dX5_push_22 ?_
  refine lv_sipush (v := 255) hx hb dX5_push_23 (by decide) ?_
  refine lv_iand hx hb dX5_push_26 ?_
  refine va_put (D := (dC, dI)) (ci := 4) (v := .int (((σ.1 3) - (1 : Int32)) &&& (255 : Int32))) (ty := .int) (C := RX5) (T := TX5) (N := 15) hx hb hts (fun w h => List.mem_cons_of_mem _ (in_X5 w h)) tyX5 tyX5_ok nmX5 hown hK hP hD hS 0 rfl rfl 3 (by decide) (hts _ (List.mem_cons_of_mem _ tw_1_153)) (fun _ h9 => h9) rfl (by decide +kernel) rfl rfl (Nat.le_of_ble_eq_true rfl) dX5_push_27 (fun H locs hP hD hS => ?_)
  have hP : va_P (dC, dI) vwCl (w_Proc h cI cJ (upd σ.1 3 (((σ.1 3) - (1 : Int32)) &&& (255 : Int32)), σ.2.1, σ.2.2.1, u1)) _ := hP
  have hD : va_D A (w_Proc h cI cJ (upd σ.1 3 (((σ.1 3) - (1 : Int32)) &&& (255 : Int32)), σ.2.1, σ.2.2.1, u1)) := hD
  exact W.vret hx hb hr (fun t ht hW => ⟨⟨(upd σ.1 3 (((σ.1 3) - (1 : Int32)) &&& (255 : Int32)), σ.2.1, σ.2.2.1, u1), rfl, hok, by rw [ht]; exact hP, va_K.moved hW.alike hK, hD⟩, hS.F ht⟩) hS.2.2 dX5_push_30
def wp_X5_interrupt (σ : S_Proc) (a1 : Int32) (a2 : Int32) (Φ : S_Proc → Prop) : Prop := wp_X5_push σ ((σ.1 5) >>> ((8 : Int32) &&& 31)) (fun u1 => wp_X5_push u1 ((u1.1 5) &&& (255 : Int32)) (fun u2 => wp_X5_push u2 a2 (fun u3 => wp_X0_read u3.2.2.2 a1 (fun r4 u5 => wp_X0_read u5 (a1 + (1 : Int32)) (fun r6 u7 => Φ (upd (upd u3.1 4 (((u3.1 4) &&& (-9 : Int32)) ||| (4 : Int32))) 5 (r4 ||| (r6 <<< ((8 : Int32) &&& 31))), u3.2.1, u3.2.2.1, u7))))))
set_option maxHeartbeats 4000000 in
set_option maxRecDepth 100000 in
theorem c_X5_interrupt (l : Launch) (dC : Nat → ClassId) (dI : Nat → Nat → Nat) (cI cJ : ClassId) (h : Nat → Nat) (sz : Nat) {σ : S_Proc} {a1 : Int32} {a2 : Int32} {Φ : S_Proc → Prop} (hok : wp_X5_interrupt σ a1 a2 Φ) : Met l yX5_interrupt wsX5_interrupt ({ frames := 3, cells := 0, slots := 0, locals := 68 }) (va_Pc [.ref (h 1), .int a1, .int a2] (cpre dC dI cI cJ (w_Proc h cI cJ σ) sz)) (va_Qv Φ (fun u => cpost dC dI cI cJ (va_A (w_Proc h cI cJ σ) sz) (w_Proc h cI cJ u)) (va_A (w_Proc h cI cJ σ) sz)) 0 0 (va_A (w_Proc h cI cJ σ) sz) := by
  refine Met.ofW (cc := cX5_interrupt) (maxL := 3) (ret := none) (by decide) rfl ?_
  intro p e s m args below meth c s₁ B hml hv
  obtain ⟨rfl, hsz, hP, hK, hD0⟩ := hv
  have hx := B.exec
  have hb := B.bytes
  have hr := B.returns
  have hts := atoms_spec (ws := wsX5_interrupt) B.pre
  have hown : s.vm.findClass RX5 = some m.cls := findClass_of_methodNamed B.named
  have hlocks := B.notSynchronized
  subst hsz
  have hD := hD0.self (sz := s.heap.size)
  generalize hAe : va_A (w_Proc h cI cJ σ) s.heap.size = A at hD ⊢
  have hA : ∀ q : Nat, s.heap.size ≤ q → A q := fun q h => by rw [← hAe]; exact Or.inr h
  clear hD0 hAe
  have hS : va_S A s.heap s.heap [] := va_S.rf
  have hl := lv_entry ([.ref (h 1), .int a1, .int a2]) (n := 3) (Nat.le_of_ble_eq_true rfl)
  rw [lg_entry_eq]
  generalize (lg_sl ([.ref (h 1), .int a1, .int a2]) ++ List.replicate (3 - (lg_sl ([.ref (h 1), .int a1, .int a2])).length) Slot.unset).toArray = ls at hl ⊢
  have hl : lv_has ls 3 [(0, .ref (h 1)), (1, .int a1), (2, .int a2)] := hl
  unfold wp_X5_interrupt at hok
  refine lv_aload_n hx hb dX5_interrupt_0 rfl (lv_at hl 0 rfl) ?_
  refine lv_aload_n hx hb dX5_interrupt_1 rfl (lv_at hl 0 rfl) ?_
  refine va_get (D := (dC, dI)) (ci := 4) (v := .int (σ.1 5)) (C := RX5) (T := TX5) (N := 15) hx hb hts (fun w h => List.mem_cons_of_mem _ (in_X5 w h)) hown hK hP 0 rfl rfl 5 (by decide) (hts _ (List.mem_cons_of_mem _ tw_1_157)) (fun _ h9 => h9) rfl dX5_interrupt_2 ?_
  refine lv_bipush (v := 8) hx hb dX5_interrupt_5 (by decide) ?_
  refine lv_ishr hx hb dX5_interrupt_7 ?_
  have hPc := hP
  have hDc := hD
  have hFc := va_free (wc := w_Proc h cI cJ σ) hD hS hA [0, 1, 2, 3, 4, 5, 6, 7, 8, 9] rfl
  refine va_callv (va_runV (As := [.int ((σ.1 5) >>> ((8 : Int32) &&& 31))]) (rest := []) ⟨hx, hb, hml, hown, hts⟩ (c_X5_push l dC dI cI cJ h _ hok) (cwV 1 hts (tb_gV tw_2_92 tw_2_94 tw_p_6 tw_1_6 tw_2_95) rfl rfl rfl (by decide +kernel) ⟨Nat.le_of_ble_eq_true rfl, Nat.le_of_ble_eq_true rfl⟩) (cpre_V (ci := 4) (q0 := 0) hK hPc hDc rfl rfl) rfl rfl hl.1 rfl (lv_room (Nat.le_of_ble_eq_true rfl)) dX5_interrupt_8 ⟨Nat.le_of_ble_eq_true rfl, Nat.le_of_ble_eq_true rfl⟩) hS (fun q _ h => hFc q h) hFc (fun u1 t H1 locs ht hvm hok hB hz1 hk1 hS => ?_)
  obtain ⟨hP, hD⟩ := cjoin_w ht hB hFc
  refine lv_aload_n hx hb dX5_interrupt_11 rfl (lv_at hl 0 rfl) ?_
  refine lv_aload_n hx hb dX5_interrupt_12 rfl (lv_at hl 0 rfl) ?_
  refine va_get (D := (dC, dI)) (ci := 4) (v := .int (u1.1 5)) (C := RX5) (T := TX5) (N := 15) hx hb hts (fun w h => List.mem_cons_of_mem _ (in_X5 w h)) hown hK hP 0 rfl rfl 5 (by decide) (hts _ (List.mem_cons_of_mem _ tw_1_157)) (fun _ h9 => h9) rfl dX5_interrupt_13 ?_
  refine lv_sipush (v := 255) hx hb dX5_interrupt_16 (by decide) ?_
  refine lv_iand hx hb dX5_interrupt_19 ?_
  have hPc := hP
  have hDc := hD
  have hFc := va_free (wc := w_Proc h cI cJ u1) hD hS hA [0, 1, 2, 3, 4, 5, 6, 7, 8, 9] rfl
  refine va_callv (va_runV (As := [.int ((u1.1 5) &&& (255 : Int32))]) (rest := []) ⟨hx, hb, hml, hown, hts⟩ (c_X5_push l dC dI cI cJ h _ hok) (cwV 1 hts (tb_gV tw_2_92 tw_2_94 tw_p_6 tw_1_6 tw_2_95) rfl rfl rfl (by decide +kernel) ⟨Nat.le_of_ble_eq_true rfl, Nat.le_of_ble_eq_true rfl⟩) (cpre_V (ci := 4) (q0 := 0) hK hPc hDc rfl rfl) rfl rfl hl.1 rfl (lv_room (Nat.le_of_ble_eq_true rfl)) dX5_interrupt_20 ⟨Nat.le_of_ble_eq_true rfl, Nat.le_of_ble_eq_true rfl⟩) hS (fun q _ h => hFc q h) hFc (fun u2 t H1 locs ht hvm hok hB hz1 hk1 hS => ?_)
  obtain ⟨hP, hD⟩ := cjoin_w ht hB hFc
  refine lv_aload_n hx hb dX5_interrupt_23 rfl (lv_at hl 0 rfl) ?_
  refine lv_iload_n hx hb dX5_interrupt_24 rfl (lv_at hl 2 rfl) ?_
  have hPc := hP
  have hDc := hD
  have hFc := va_free (wc := w_Proc h cI cJ u2) hD hS hA [0, 1, 2, 3, 4, 5, 6, 7, 8, 9] rfl
  refine va_callv (va_runV (As := [.int a2]) (rest := []) ⟨hx, hb, hml, hown, hts⟩ (c_X5_push l dC dI cI cJ h _ hok) (cwV 1 hts (tb_gV tw_2_92 tw_2_94 tw_p_6 tw_1_6 tw_2_95) rfl rfl rfl (by decide +kernel) ⟨Nat.le_of_ble_eq_true rfl, Nat.le_of_ble_eq_true rfl⟩) (cpre_V (ci := 4) (q0 := 0) hK hPc hDc rfl rfl) rfl rfl hl.1 rfl (lv_room (Nat.le_of_ble_eq_true rfl)) dX5_interrupt_25 ⟨Nat.le_of_ble_eq_true rfl, Nat.le_of_ble_eq_true rfl⟩) hS (fun q _ h => hFc q h) hFc (fun u3 t H1 locs ht hvm hok hB hz1 hk1 hS => ?_)
  obtain ⟨hP, hD⟩ := cjoin_w ht hB hFc
  refine lv_aload_n hx hb dX5_interrupt_28 rfl (lv_at hl 0 rfl) ?_
  refine lv_aload_n hx hb dX5_interrupt_29 rfl (lv_at hl 0 rfl) ?_
  refine va_get (D := (dC, dI)) (ci := 4) (v := .int (u3.1 4)) (C := RX5) (T := TX5) (N := 15) hx hb hts (fun w h => List.mem_cons_of_mem _ (in_X5 w h)) hown hK hP 0 rfl rfl 4 (by decide) (hts _ (List.mem_cons_of_mem _ tw_1_155)) (fun _ h9 => h9) rfl dX5_interrupt_30 ?_
  refine lv_bipush (v := (-9)) hx hb dX5_interrupt_33 (by decide) ?_
  refine lv_iand hx hb dX5_interrupt_35 ?_
  refine lv_iconst (v := 4) hx hb dX5_interrupt_36 (by decide) ?_
  refine lv_ior hx hb dX5_interrupt_37 ?_
  refine va_put (D := (dC, dI)) (ci := 4) (v := .int (((u3.1 4) &&& (-9 : Int32)) ||| (4 : Int32))) (ty := .int) (C := RX5) (T := TX5) (N := 15) hx hb hts (fun w h => List.mem_cons_of_mem _ (in_X5 w h)) tyX5 tyX5_ok nmX5 hown hK hP hD hS 0 rfl rfl 4 (by decide) (hts _ (List.mem_cons_of_mem _ tw_1_155)) (fun _ h9 => h9) rfl (by decide +kernel) rfl rfl (Nat.le_of_ble_eq_true rfl) dX5_interrupt_38 (fun H locs hP hD hS => ?_)
  have hP : va_P (dC, dI) vwCl (w_Proc h cI cJ (upd u3.1 4 (((u3.1 4) &&& (-9 : Int32)) ||| (4 : Int32)), u3.2.1, u3.2.2.1, u3.2.2.2)) _ := hP
  have hD : va_D A (w_Proc h cI cJ (upd u3.1 4 (((u3.1 4) &&& (-9 : Int32)) ||| (4 : Int32)), u3.2.1, u3.2.2.1, u3.2.2.2)) := hD
  refine lv_aload_n hx hb dX5_interrupt_41 rfl (lv_at hl 0 rfl) ?_
  refine lv_aload_n hx hb dX5_interrupt_42 rfl (lv_at hl 0 rfl) ?_
  refine va_get (D := (dC, dI)) (ci := 4) (v := .ref (h 4)) (C := RX5) (T := TX5) (N := 15) hx hb hts (fun w h => List.mem_cons_of_mem _ (in_X5 w h)) hown hK hP 0 rfl rfl 12 (by decide) (hts _ (List.mem_cons_of_mem _ tw_1_171)) (fun _ h9 => h9) rfl dX5_interrupt_43 ?_
  refine lv_iload_n hx hb dX5_interrupt_46 rfl (lv_at hl 1 rfl) ?_
  have hPc := hP.sub (ws' := w_Board h cI cJ u3.2.2.2) [3, 4, 5, 6, 7, 8, 9] rfl
  have hDc := hD.sub (ws' := w_Board h cI cJ u3.2.2.2) [3, 4, 5, 6, 7, 8, 9] (by decide) rfl
  have hFc := va_free (wc := w_Board h cI cJ u3.2.2.2) hD hS hA [3, 4, 5, 6, 7, 8, 9] rfl
  refine va_calli (va_runV (As := [.int a1]) (rest := [.ref (h 1)]) ⟨hx, hb, hml, hown, hts⟩ (c_X0_read l dC dI cI cJ h _ hok) (cwV 1 hts (tb_gV tw_2_14 tw_2_15 tw_2_16 tw_1_2 tw_2_17) rfl rfl rfl (by decide +kernel) ⟨Nat.le_of_ble_eq_true rfl, Nat.le_of_ble_eq_true rfl⟩) (cpre_V (ci := 0) (q0 := 0) hK hPc hDc rfl rfl) rfl rfl hl.1 rfl (lv_room (Nat.le_of_ble_eq_true rfl)) dX5_interrupt_47 ⟨Nat.le_of_ble_eq_true rfl, Nat.le_of_ble_eq_true rfl⟩) hS (fun q _ h => hFc q h) hFc (fun r4 u5 t H1 locs ht hvm hok hB hz1 hk1 hS => ?_)
  obtain ⟨hP, hD⟩ := cjoin ht hP hD [3, 4, 5, 6, 7, 8, 9] [0, 1, 2] rfl rfl (by decide) (by decide) hk1 hFc hB
  have hP := hP.sub (ws' := w_Proc h cI cJ (upd u3.1 4 (((u3.1 4) &&& (-9 : Int32)) ||| (4 : Int32)), u3.2.1, u3.2.2.1, u5)) [0, 1, 2, 3, 4, 5, 6, 7, 8, 9] rfl
  have hD := hD.sub (ws' := w_Proc h cI cJ (upd u3.1 4 (((u3.1 4) &&& (-9 : Int32)) ||| (4 : Int32)), u3.2.1, u3.2.2.1, u5)) [0, 1, 2, 3, 4, 5, 6, 7, 8, 9] (by decide) rfl
  refine lv_aload_n hx hb dX5_interrupt_50 rfl (lv_at hl 0 rfl) ?_
  refine va_get (D := (dC, dI)) (ci := 4) (v := .ref (h 4)) (C := RX5) (T := TX5) (N := 15) hx hb hts (fun w h => List.mem_cons_of_mem _ (in_X5 w h)) hown hK hP 0 rfl rfl 12 (by decide) (hts _ (List.mem_cons_of_mem _ tw_1_171)) (fun _ h9 => h9) rfl dX5_interrupt_51 ?_
  refine lv_iload_n hx hb dX5_interrupt_54 rfl (lv_at hl 1 rfl) ?_
  refine lv_iconst (v := 1) hx hb dX5_interrupt_55 (by decide) ?_
  refine lv_iadd hx hb dX5_interrupt_56 ?_
  have hPc := hP.sub (ws' := w_Board h cI cJ u5) [3, 4, 5, 6, 7, 8, 9] rfl
  have hDc := hD.sub (ws' := w_Board h cI cJ u5) [3, 4, 5, 6, 7, 8, 9] (by decide) rfl
  have hFc := va_free (wc := w_Board h cI cJ u5) hD hS hA [3, 4, 5, 6, 7, 8, 9] rfl
  refine va_calli (va_runV (As := [.int (a1 + (1 : Int32))]) (rest := [.int r4, .ref (h 1)]) ⟨hx, hb, hml, hown, hts⟩ (c_X0_read l dC dI cI cJ h _ hok) (cwV 1 hts (tb_gV tw_2_14 tw_2_15 tw_2_16 tw_1_2 tw_2_17) rfl rfl rfl (by decide +kernel) ⟨Nat.le_of_ble_eq_true rfl, Nat.le_of_ble_eq_true rfl⟩) (cpre_V (ci := 0) (q0 := 0) hK hPc hDc rfl rfl) rfl rfl hl.1 rfl (lv_room (Nat.le_of_ble_eq_true rfl)) dX5_interrupt_57 ⟨Nat.le_of_ble_eq_true rfl, Nat.le_of_ble_eq_true rfl⟩) hS (fun q _ h => hFc q h) hFc (fun r6 u7 t H1 locs ht hvm hok hB hz1 hk1 hS => ?_)
  obtain ⟨hP, hD⟩ := cjoin ht hP hD [3, 4, 5, 6, 7, 8, 9] [0, 1, 2] rfl rfl (by decide) (by decide) hk1 hFc hB
  have hP := hP.sub (ws' := w_Proc h cI cJ (upd u3.1 4 (((u3.1 4) &&& (-9 : Int32)) ||| (4 : Int32)), u3.2.1, u3.2.2.1, u7)) [0, 1, 2, 3, 4, 5, 6, 7, 8, 9] rfl
  have hD := hD.sub (ws' := w_Proc h cI cJ (upd u3.1 4 (((u3.1 4) &&& (-9 : Int32)) ||| (4 : Int32)), u3.2.1, u3.2.2.1, u7)) [0, 1, 2, 3, 4, 5, 6, 7, 8, 9] (by decide) rfl
  refine lv_bipush (v := 8) hx hb dX5_interrupt_60 (by decide) ?_
  refine lv_ishl hx hb dX5_interrupt_62 ?_
  refine lv_ior hx hb dX5_interrupt_63 ?_
  refine va_put (D := (dC, dI)) (ci := 4) (v := .int (r4 ||| (r6 <<< ((8 : Int32) &&& 31)))) (ty := .int) (C := RX5) (T := TX5) (N := 15) hx hb hts (fun w h => List.mem_cons_of_mem _ (in_X5 w h)) tyX5 tyX5_ok nmX5 hown hK hP hD hS 0 rfl rfl 5 (by decide) (hts _ (List.mem_cons_of_mem _ tw_1_157)) (fun _ h9 => h9) rfl (by decide +kernel) rfl rfl (Nat.le_of_ble_eq_true rfl) dX5_interrupt_64 (fun H locs hP hD hS => ?_)
  have hP : va_P (dC, dI) vwCl (w_Proc h cI cJ (upd (upd u3.1 4 (((u3.1 4) &&& (-9 : Int32)) ||| (4 : Int32))) 5 (r4 ||| (r6 <<< ((8 : Int32) &&& 31))), u3.2.1, u3.2.2.1, u7)) _ := hP
  have hD : va_D A (w_Proc h cI cJ (upd (upd u3.1 4 (((u3.1 4) &&& (-9 : Int32)) ||| (4 : Int32))) 5 (r4 ||| (r6 <<< ((8 : Int32) &&& 31))), u3.2.1, u3.2.2.1, u7)) := hD
  exact W.vret hx hb hr (fun t ht hW => ⟨⟨(upd (upd u3.1 4 (((u3.1 4) &&& (-9 : Int32)) ||| (4 : Int32))) 5 (r4 ||| (r6 <<< ((8 : Int32) &&& 31))), u3.2.1, u3.2.2.1, u7), rfl, hok, by rw [ht]; exact hP, va_K.moved hW.alike hK, hD⟩, hS.F ht⟩) hS.2.2 dX5_interrupt_67
def wp_X5_takeInterrupt (σ : S_Proc) (a1 : Int32) (Φ : S_Proc → Prop) : Prop := wp_X5_interrupt (upd (upd σ.1 10 ((σ.1 10) + (1 : Int32))) 13 7, σ.2.1, σ.2.2.1, σ.2.2.2) a1 ((σ.1 4) &&& (-17 : Int32)) (fun u1 => Φ u1)
set_option maxHeartbeats 4000000 in
set_option maxRecDepth 100000 in
theorem c_X5_takeInterrupt (l : Launch) (dC : Nat → ClassId) (dI : Nat → Nat → Nat) (cI cJ : ClassId) (h : Nat → Nat) (sz : Nat) {σ : S_Proc} {a1 : Int32} {Φ : S_Proc → Prop} (hok : wp_X5_takeInterrupt σ a1 Φ) : Met l yX5_takeInterrupt wsX5_takeInterrupt ({ frames := 4, cells := 0, slots := 0, locals := 90 }) (va_Pc [.ref (h 1), .int a1] (cpre dC dI cI cJ (w_Proc h cI cJ σ) sz)) (va_Qv Φ (fun u => cpost dC dI cI cJ (va_A (w_Proc h cI cJ σ) sz) (w_Proc h cI cJ u)) (va_A (w_Proc h cI cJ σ) sz)) 0 0 (va_A (w_Proc h cI cJ σ) sz) := by
  refine Met.ofW (cc := cX5_takeInterrupt) (maxL := 2) (ret := none) (by decide) rfl ?_
  intro p e s m args below meth c s₁ B hml hv
  obtain ⟨rfl, hsz, hP, hK, hD0⟩ := hv
  have hx := B.exec
  have hb := B.bytes
  have hr := B.returns
  have hts := atoms_spec (ws := wsX5_takeInterrupt) B.pre
  have hown : s.vm.findClass RX5 = some m.cls := findClass_of_methodNamed B.named
  have hlocks := B.notSynchronized
  subst hsz
  have hD := hD0.self (sz := s.heap.size)
  generalize hAe : va_A (w_Proc h cI cJ σ) s.heap.size = A at hD ⊢
  have hA : ∀ q : Nat, s.heap.size ≤ q → A q := fun q h => by rw [← hAe]; exact Or.inr h
  clear hD0 hAe
  have hS : va_S A s.heap s.heap [] := va_S.rf
  have hl := lv_entry ([.ref (h 1), .int a1]) (n := 2) (Nat.le_of_ble_eq_true rfl)
  rw [lg_entry_eq]
  generalize (lg_sl ([.ref (h 1), .int a1]) ++ List.replicate (2 - (lg_sl ([.ref (h 1), .int a1])).length) Slot.unset).toArray = ls at hl ⊢
  have hl : lv_has ls 2 [(0, .ref (h 1)), (1, .int a1)] := hl
  unfold wp_X5_takeInterrupt at hok
  refine lv_aload_n hx hb dX5_takeInterrupt_0 rfl (lv_at hl 0 rfl) ?_
  refine lv_dup hx hb dX5_takeInterrupt_1 rfl ?_
  refine va_get (D := (dC, dI)) (ci := 4) (v := .int (σ.1 10)) (C := RX5) (T := TX5) (N := 15) hx hb hts (fun w h => List.mem_cons_of_mem _ (in_X5 w h)) hown hK hP 0 rfl rfl 10 (by decide) (hts _ (List.mem_cons_of_mem _ tw_1_167)) (fun _ h9 => h9) rfl dX5_takeInterrupt_2 ?_
  refine lv_iconst (v := 1) hx hb dX5_takeInterrupt_5 (by decide) ?_
  refine lv_iadd hx hb dX5_takeInterrupt_6 ?_
  refine va_put (D := (dC, dI)) (ci := 4) (v := .int ((σ.1 10) + (1 : Int32))) (ty := .int) (C := RX5) (T := TX5) (N := 15) hx hb hts (fun w h => List.mem_cons_of_mem _ (in_X5 w h)) tyX5 tyX5_ok nmX5 hown hK hP hD hS 0 rfl rfl 10 (by decide) (hts _ (List.mem_cons_of_mem _ tw_1_167)) (fun _ h9 => h9) rfl (by decide +kernel) rfl rfl (Nat.le_of_ble_eq_true rfl) dX5_takeInterrupt_7 (fun H locs hP hD hS => ?_)
  have hP : va_P (dC, dI) vwCl (w_Proc h cI cJ (upd σ.1 10 ((σ.1 10) + (1 : Int32)), σ.2.1, σ.2.2.1, σ.2.2.2)) _ := hP
  have hD : va_D A (w_Proc h cI cJ (upd σ.1 10 ((σ.1 10) + (1 : Int32)), σ.2.1, σ.2.2.1, σ.2.2.2)) := hD
  refine lv_aload_n hx hb dX5_takeInterrupt_10 rfl (lv_at hl 0 rfl) ?_
  refine lv_bipush (v := 7) hx hb dX5_takeInterrupt_11 (by decide) ?_
  refine va_put (D := (dC, dI)) (ci := 4) (v := .int 7) (ty := .int) (C := RX5) (T := TX5) (N := 15) hx hb hts (fun w h => List.mem_cons_of_mem _ (in_X5 w h)) tyX5 tyX5_ok nmX5 hown hK hP hD hS 0 rfl rfl 13 (by decide) (hts _ (List.mem_cons_of_mem _ tw_1_172)) (fun _ h9 => h9) rfl (by decide +kernel) rfl rfl (Nat.le_of_ble_eq_true rfl) dX5_takeInterrupt_13 (fun H locs hP hD hS => ?_)
  have hP : va_P (dC, dI) vwCl (w_Proc h cI cJ (upd (upd σ.1 10 ((σ.1 10) + (1 : Int32))) 13 7, σ.2.1, σ.2.2.1, σ.2.2.2)) _ := hP
  have hD : va_D A (w_Proc h cI cJ (upd (upd σ.1 10 ((σ.1 10) + (1 : Int32))) 13 7, σ.2.1, σ.2.2.1, σ.2.2.2)) := hD
  refine lv_aload_n hx hb dX5_takeInterrupt_16 rfl (lv_at hl 0 rfl) ?_
  refine lv_iload_n hx hb dX5_takeInterrupt_17 rfl (lv_at hl 1 rfl) ?_
  refine lv_aload_n hx hb dX5_takeInterrupt_18 rfl (lv_at hl 0 rfl) ?_
  refine va_get (D := (dC, dI)) (ci := 4) (v := .int (σ.1 4)) (C := RX5) (T := TX5) (N := 15) hx hb hts (fun w h => List.mem_cons_of_mem _ (in_X5 w h)) hown hK hP 0 rfl rfl 4 (by decide) (hts _ (List.mem_cons_of_mem _ tw_1_155)) (fun _ h9 => h9) rfl dX5_takeInterrupt_19 ?_
  refine lv_bipush (v := (-17)) hx hb dX5_takeInterrupt_22 (by decide) ?_
  refine lv_iand hx hb dX5_takeInterrupt_24 ?_
  have hPc := hP
  have hDc := hD
  have hFc := va_free (wc := w_Proc h cI cJ (upd (upd σ.1 10 ((σ.1 10) + (1 : Int32))) 13 7, σ.2.1, σ.2.2.1, σ.2.2.2)) hD hS hA [0, 1, 2, 3, 4, 5, 6, 7, 8, 9] rfl
  refine va_callv (va_runV (As := [.int a1, .int ((σ.1 4) &&& (-17 : Int32))]) (rest := []) ⟨hx, hb, hml, hown, hts⟩ (c_X5_interrupt l dC dI cI cJ h _ hok) (cwV 2 hts (tb_gV tw_2_88 tw_2_90 tw_p_5 tw_1_6 tw_2_91) rfl rfl rfl (by decide +kernel) ⟨Nat.le_of_ble_eq_true rfl, Nat.le_of_ble_eq_true rfl⟩) (cpre_V (ci := 4) (q0 := 0) hK hPc hDc rfl rfl) rfl rfl hl.1 rfl (lv_room (Nat.le_of_ble_eq_true rfl)) dX5_takeInterrupt_25 ⟨Nat.le_of_ble_eq_true rfl, Nat.le_of_ble_eq_true rfl⟩) hS (fun q _ h => hFc q h) hFc (fun u1 t H1 locs ht hvm hok hB hz1 hk1 hS => ?_)
  obtain ⟨hP, hD⟩ := cjoin_w ht hB hFc
  exact W.vret hx hb hr (fun t ht hW => ⟨⟨u1, rfl, hok, by rw [ht]; exact hP, va_K.moved hW.alike hK, hD⟩, hS.F ht⟩) hS.2.2 dX5_takeInterrupt_28
def wp_X5_fetch (σ : S_Proc) (Φ : Int32 → S_Proc → Prop) : Prop := wp_X0_read σ.2.2.2 (σ.1 5) (fun r1 u2 => Φ r1 (upd σ.1 5 (((σ.1 5) + (1 : Int32)) &&& (65535 : Int32)), σ.2.1, σ.2.2.1, u2))
set_option maxHeartbeats 4000000 in
set_option maxRecDepth 100000 in
theorem c_X5_fetch (l : Launch) (dC : Nat → ClassId) (dI : Nat → Nat → Nat) (cI cJ : ClassId) (h : Nat → Nat) (sz : Nat) {σ : S_Proc} {Φ : Int32 → S_Proc → Prop} (hok : wp_X5_fetch σ Φ) : Met l yX5_fetch wsX5_fetch ({ frames := 3, cells := 0, slots := 0, locals := 64 }) (va_Pc [.ref (h 1)] (cpre dC dI cI cJ (w_Proc h cI cJ σ) sz)) (va_Qi Φ (fun u => cpost dC dI cI cJ (va_A (w_Proc h cI cJ σ) sz) (w_Proc h cI cJ u)) (va_A (w_Proc h cI cJ σ) sz)) 0 0 (va_A (w_Proc h cI cJ σ) sz) := by
  refine Met.ofW (cc := cX5_fetch) (maxL := 2) (ret := (some .int)) (by decide) rfl ?_
  intro p e s m args below meth c s₁ B hml hv
  obtain ⟨rfl, hsz, hP, hK, hD0⟩ := hv
  have hx := B.exec
  have hb := B.bytes
  have hr := B.returns
  have hts := atoms_spec (ws := wsX5_fetch) B.pre
  have hown : s.vm.findClass RX5 = some m.cls := findClass_of_methodNamed B.named
  have hlocks := B.notSynchronized
  subst hsz
  have hD := hD0.self (sz := s.heap.size)
  generalize hAe : va_A (w_Proc h cI cJ σ) s.heap.size = A at hD ⊢
  have hA : ∀ q : Nat, s.heap.size ≤ q → A q := fun q h => by rw [← hAe]; exact Or.inr h
  clear hD0 hAe
  have hS : va_S A s.heap s.heap [] := va_S.rf
  have hl := lv_entry ([.ref (h 1)]) (n := 2) (Nat.le_of_ble_eq_true rfl)
  rw [lg_entry_eq]
  generalize (lg_sl ([.ref (h 1)]) ++ List.replicate (2 - (lg_sl ([.ref (h 1)])).length) Slot.unset).toArray = ls at hl ⊢
  have hl : lv_has ls 2 [(0, .ref (h 1))] := hl
  unfold wp_X5_fetch at hok
  refine lv_aload_n hx hb dX5_fetch_0 rfl (lv_at hl 0 rfl) ?_
  refine va_get (D := (dC, dI)) (ci := 4) (v := .ref (h 4)) (C := RX5) (T := TX5) (N := 15) hx hb hts (fun w h => List.mem_cons_of_mem _ (in_X5 w h)) hown hK hP 0 rfl rfl 12 (by decide) (hts _ (List.mem_cons_of_mem _ tw_1_171)) (fun _ h9 => h9) rfl dX5_fetch_1 ?_
  refine lv_aload_n hx hb dX5_fetch_4 rfl (lv_at hl 0 rfl) ?_
  refine va_get (D := (dC, dI)) (ci := 4) (v := .int (σ.1 5)) (C := RX5) (T := TX5) (N := 15) hx hb hts (fun w h => List.mem_cons_of_mem _ (in_X5 w h)) hown hK hP 0 rfl rfl 5 (by decide) (hts _ (List.mem_cons_of_mem _ tw_1_157)) (fun _ h9 => h9) rfl dX5_fetch_5 ?_
  have hPc := hP.sub (ws' := w_Board h cI cJ σ.2.2.2) [3, 4, 5, 6, 7, 8, 9] rfl
  have hDc := hD.sub (ws' := w_Board h cI cJ σ.2.2.2) [3, 4, 5, 6, 7, 8, 9] (by decide) rfl
  have hFc := va_free (wc := w_Board h cI cJ σ.2.2.2) hD hS hA [3, 4, 5, 6, 7, 8, 9] rfl
  refine va_calli (va_runV (As := [.int (σ.1 5)]) (rest := []) ⟨hx, hb, hml, hown, hts⟩ (c_X0_read l dC dI cI cJ h _ hok) (cwV 1 hts (tb_gV tw_2_14 tw_2_15 tw_2_16 tw_1_2 tw_2_17) rfl rfl rfl (by decide +kernel) ⟨Nat.le_of_ble_eq_true rfl, Nat.le_of_ble_eq_true rfl⟩) (cpre_V (ci := 0) (q0 := 0) hK hPc hDc rfl rfl) rfl rfl hl.1 rfl (lv_room (Nat.le_of_ble_eq_true rfl)) dX5_fetch_8 ⟨Nat.le_of_ble_eq_true rfl, Nat.le_of_ble_eq_true rfl⟩) hS (fun q _ h => hFc q h) hFc (fun r1 u2 t H1 locs ht hvm hok hB hz1 hk1 hS => ?_)
  obtain ⟨hP, hD⟩ := cjoin ht hP hD [3, 4, 5, 6, 7, 8, 9] [0, 1, 2] rfl rfl (by decide) (by decide) hk1 hFc hB
  have hP := hP.sub (ws' := w_Proc h cI cJ (σ.1, σ.2.1, σ.2.2.1, u2)) [0, 1, 2, 3, 4, 5, 6, 7, 8, 9] rfl
  have hD := hD.sub (ws' := w_Proc h cI cJ (σ.1, σ.2.1, σ.2.2.1, u2)) [0, 1, 2, 3, 4, 5, 6, 7, 8, 9] (by decide) rfl
  refine lv_istore_n (lv' := [(1, .int r1), (0, .ref (h 1))]) hx hb dX5_fetch_11 rfl hl (by decide) rfl (fun ls hl => ?_)
  refine lv_aload_n hx hb dX5_fetch_12 rfl (lv_at hl 1 rfl) ?_
  refine lv_aload_n hx hb dX5_fetch_13 rfl (lv_at hl 1 rfl) ?_
  refine va_get (D := (dC, dI)) (ci := 4) (v := .int (σ.1 5)) (C := RX5) (T := TX5) (N := 15) hx hb hts (fun w h => List.mem_cons_of_mem _ (in_X5 w h)) hown hK hP 0 rfl rfl 5 (by decide) (hts _ (List.mem_cons_of_mem _ tw_1_157)) (fun _ h9 => h9) rfl dX5_fetch_14 ?_
  refine lv_iconst (v := 1) hx hb dX5_fetch_17 (by decide) ?_
  refine lv_iadd hx hb dX5_fetch_18 ?_
  refine lv_ldc (v := 65535) hx hb hown (hts _ (List.mem_cons_of_mem _ tw_2_60)) dX5_fetch_19 ?_
  refine lv_iand hx hb dX5_fetch_21 ?_
  refine va_put (D := (dC, dI)) (ci := 4) (v := .int (((σ.1 5) + (1 : Int32)) &&& (65535 : Int32))) (ty := .int) (C := RX5) (T := TX5) (N := 15) hx hb hts (fun w h => List.mem_cons_of_mem _ (in_X5 w h)) tyX5 tyX5_ok nmX5 hown hK hP hD hS 0 rfl rfl 5 (by decide) (hts _ (List.mem_cons_of_mem _ tw_1_157)) (fun _ h9 => h9) rfl (by decide +kernel) rfl rfl (Nat.le_of_ble_eq_true rfl) dX5_fetch_22 (fun H locs hP hD hS => ?_)
  have hP : va_P (dC, dI) vwCl (w_Proc h cI cJ (upd σ.1 5 (((σ.1 5) + (1 : Int32)) &&& (65535 : Int32)), σ.2.1, σ.2.2.1, u2)) _ := hP
  have hD : va_D A (w_Proc h cI cJ (upd σ.1 5 (((σ.1 5) + (1 : Int32)) &&& (65535 : Int32)), σ.2.1, σ.2.2.1, u2)) := hD
  refine lv_iload_n hx hb dX5_fetch_25 rfl (lv_at hl 0 rfl) ?_
  exact W.iret (v := r1) hx hb hr (fun t ht hW => ⟨⟨r1, (upd σ.1 5 (((σ.1 5) + (1 : Int32)) &&& (65535 : Int32)), σ.2.1, σ.2.2.1, u2), rfl, hok, by rw [ht]; exact hP, va_K.moved hW.alike hK, hD⟩, hS.F ht⟩) hS.2.2 dX5_fetch_26
def wp_X5_indexed (σ : S_Proc) (a1 : Int32) (a2 : Int32) (Φ : Int32 → S_Proc → Prop) : Prop := ∀ v1 : Int32, v1 = ((a1 + a2) &&& (65535 : Int32)) >>> ((8 : Int32) &&& 31) → ((v1 = (a1 >>> ((8 : Int32) &&& 31)) → (Φ ((a1 + a2) &&& (65535 : Int32)) (upd σ.1 14 0, σ.2.1, σ.2.2.1, σ.2.2.2))) ∧ (¬ v1 = (a1 >>> ((8 : Int32) &&& 31)) → (Φ ((a1 + a2) &&& (65535 : Int32)) (upd σ.1 14 1, σ.2.1, σ.2.2.1, σ.2.2.2))))
set_option maxHeartbeats 4000000 in
set_option maxRecDepth 100000 in
theorem c_X5_indexed (l : Launch) (dC : Nat → ClassId) (dI : Nat → Nat → Nat) (cI cJ : ClassId) (h : Nat → Nat) (sz : Nat) {σ : S_Proc} {a1 : Int32} {a2 : Int32} {Φ : Int32 → S_Proc → Prop} (hok : wp_X5_indexed σ a1 a2 Φ) : Met l yX5_indexed wsX5_indexed ({ frames := 0, cells := 0, slots := 0, locals := 0 }) (va_Pc [.ref (h 1), .int a1, .int a2] (cpre dC dI cI cJ (w_Proc h cI cJ σ) sz)) (va_Qi Φ (fun u => cpost dC dI cI cJ (va_A (w_Proc h cI cJ σ) sz) (w_Proc h cI cJ u)) (va_A (w_Proc h cI cJ σ) sz)) 0 0 (va_A (w_Proc h cI cJ σ) sz) := by
  refine Met.ofW (cc := cX5_indexed) (maxL := 4) (ret := (some .int)) (by decide) rfl ?_
  intro p e s m args below meth c s₁ B hml hv
  obtain ⟨rfl, hsz, hP, hK, hD0⟩ := hv
  have hx := B.exec
  have hb := B.bytes
  have hr := B.returns
  have hts := atoms_spec (ws := wsX5_indexed) B.pre
  have hown : s.vm.findClass RX5 = some m.cls := findClass_of_methodNamed B.named
  have hlocks := B.notSynchronized
  subst hsz
  have hD := hD0.self (sz := s.heap.size)
  generalize hAe : va_A (w_Proc h cI cJ σ) s.heap.size = A at hD ⊢
  have hA : ∀ q : Nat, s.heap.size ≤ q → A q := fun q h => by rw [← hAe]; exact Or.inr h
  clear hD0 hAe
  have hS : va_S A s.heap s.heap [] := va_S.rf
  have hl := lv_entry ([.ref (h 1), .int a1, .int a2]) (n := 4) (Nat.le_of_ble_eq_true rfl)
  rw [lg_entry_eq]
  generalize (lg_sl ([.ref (h 1), .int a1, .int a2]) ++ List.replicate (4 - (lg_sl ([.ref (h 1), .int a1, .int a2])).length) Slot.unset).toArray = ls at hl ⊢
  have hl : lv_has ls 4 [(0, .ref (h 1)), (1, .int a1), (2, .int a2)] := hl
  unfold wp_X5_indexed at hok
  refine lv_iload_n hx hb dX5_indexed_0 rfl (lv_at hl 1 rfl) ?_
  refine lv_iload_n hx hb dX5_indexed_1 rfl (lv_at hl 2 rfl) ?_
  refine lv_iadd hx hb dX5_indexed_2 ?_
  refine lv_ldc (v := 65535) hx hb hown (hts _ (List.mem_cons_of_mem _ tw_2_60)) dX5_indexed_3 ?_
  refine lv_iand hx hb dX5_indexed_5 ?_
  refine lv_istore_n (lv' := [(3, .int ((a1 + a2) &&& (65535 : Int32))), (0, .ref (h 1)), (1, .int a1), (2, .int a2)]) hx hb dX5_indexed_6 rfl hl (by decide) rfl (fun ls hl => ?_)
  refine lv_aload_n hx hb dX5_indexed_7 rfl (lv_at hl 1 rfl) ?_
  refine lv_iload_n hx hb dX5_indexed_8 rfl (lv_at hl 0 rfl) ?_
  refine lv_bipush (v := 8) hx hb dX5_indexed_9 (by decide) ?_
  refine lv_ishr hx hb dX5_indexed_11 ?_
  refine lv_topi (fun v1 ev1 => ?_)
  have hok := hok v1 ev1
  refine lv_iload_n hx hb dX5_indexed_12 rfl (lv_at hl 2 rfl) ?_
  refine lv_bipush (v := 8) hx hb dX5_indexed_13 (by decide) ?_
  refine lv_ishr hx hb dX5_indexed_15 ?_
  refine lv_icmp_eq (tgt := 23) hx hb dX5_indexed_16 (by decide) (fun c2 => ?_) (fun c2 => ?_)
  · have hok := hok.1 c2
    refine lv_iconst (v := 0) hx hb dX5_indexed_23 (by decide) ?_
    refine va_put (D := (dC, dI)) (ci := 4) (v := .int 0) (ty := .boolean) (C := RX5) (T := TX5) (N := 15) hx hb hts (fun w h => List.mem_cons_of_mem _ (in_X5 w h)) tyX5 tyX5_ok nmX5 hown hK hP hD hS 0 rfl rfl 14 (by decide) (hts _ (List.mem_cons_of_mem _ tw_1_173)) (fun _ h9 => h9) rfl (by decide +kernel) rfl rfl (Nat.le_of_ble_eq_true rfl) dX5_indexed_24 (fun H locs hP hD hS => ?_)
    have hP : va_P (dC, dI) vwCl (w_Proc h cI cJ (upd σ.1 14 0, σ.2.1, σ.2.2.1, σ.2.2.2)) _ := hP
    have hD : va_D A (w_Proc h cI cJ (upd σ.1 14 0, σ.2.1, σ.2.2.1, σ.2.2.2)) := hD
    refine lv_iload_n hx hb dX5_indexed_27 rfl (lv_at hl 0 rfl) ?_
    exact W.iret (v := (a1 + a2) &&& (65535 : Int32)) hx hb hr (fun t ht hW => ⟨⟨(a1 + a2) &&& (65535 : Int32), (upd σ.1 14 0, σ.2.1, σ.2.2.1, σ.2.2.2), rfl, hok, by rw [ht]; exact hP, va_K.moved hW.alike hK, hD⟩, hS.F ht⟩) hS.2.2 dX5_indexed_28
  · have hok := hok.2 c2
    refine lv_iconst (v := 1) hx hb dX5_indexed_19 (by decide) ?_
    refine lv_goto (tgt := 24) hx hb dX5_indexed_20 (by decide) ?_
    refine va_put (D := (dC, dI)) (ci := 4) (v := .int 1) (ty := .boolean) (C := RX5) (T := TX5) (N := 15) hx hb hts (fun w h => List.mem_cons_of_mem _ (in_X5 w h)) tyX5 tyX5_ok nmX5 hown hK hP hD hS 0 rfl rfl 14 (by decide) (hts _ (List.mem_cons_of_mem _ tw_1_173)) (fun _ h9 => h9) rfl (by decide +kernel) rfl rfl (Nat.le_of_ble_eq_true rfl) dX5_indexed_24 (fun H locs hP hD hS => ?_)
    have hP : va_P (dC, dI) vwCl (w_Proc h cI cJ (upd σ.1 14 1, σ.2.1, σ.2.2.1, σ.2.2.2)) _ := hP
    have hD : va_D A (w_Proc h cI cJ (upd σ.1 14 1, σ.2.1, σ.2.2.1, σ.2.2.2)) := hD
    refine lv_iload_n hx hb dX5_indexed_27 rfl (lv_at hl 0 rfl) ?_
    exact W.iret (v := (a1 + a2) &&& (65535 : Int32)) hx hb hr (fun t ht hW => ⟨⟨(a1 + a2) &&& (65535 : Int32), (upd σ.1 14 1, σ.2.1, σ.2.2.1, σ.2.2.2), rfl, hok, by rw [ht]; exact hP, va_K.moved hW.alike hK, hD⟩, hS.F ht⟩) hS.2.2 dX5_indexed_28
def wp_X5_pointerAt (σ : S_Proc) (a1 : Int32) (Φ : Int32 → S_Proc → Prop) : Prop := wp_X0_read σ.2.2.2 a1 (fun r1 u2 => wp_X0_read u2 ((a1 + (1 : Int32)) &&& (255 : Int32)) (fun r3 u4 => Φ (r1 ||| (r3 <<< ((8 : Int32) &&& 31))) (σ.1, σ.2.1, σ.2.2.1, u4)))
set_option maxHeartbeats 4000000 in
set_option maxRecDepth 100000 in
theorem c_X5_pointerAt (l : Launch) (dC : Nat → ClassId) (dI : Nat → Nat → Nat) (cI cJ : ClassId) (h : Nat → Nat) (sz : Nat) {σ : S_Proc} {a1 : Int32} {Φ : Int32 → S_Proc → Prop} (hok : wp_X5_pointerAt σ a1 Φ) : Met l yX5_pointerAt wsX5_pointerAt ({ frames := 3, cells := 0, slots := 0, locals := 64 }) (va_Pc [.ref (h 1), .int a1] (cpre dC dI cI cJ (w_Proc h cI cJ σ) sz)) (va_Qi Φ (fun u => cpost dC dI cI cJ (va_A (w_Proc h cI cJ σ) sz) (w_Proc h cI cJ u)) (va_A (w_Proc h cI cJ σ) sz)) 0 0 (va_A (w_Proc h cI cJ σ) sz) := by
  refine Met.ofW (cc := cX5_pointerAt) (maxL := 3) (ret := (some .int)) (by decide) rfl ?_
  intro p e s m args below meth c s₁ B hml hv
  obtain ⟨rfl, hsz, hP, hK, hD0⟩ := hv
  have hx := B.exec
  have hb := B.bytes
  have hr := B.returns
  have hts := atoms_spec (ws := wsX5_pointerAt) B.pre
  have hown : s.vm.findClass RX5 = some m.cls := findClass_of_methodNamed B.named
  have hlocks := B.notSynchronized
  subst hsz
  have hD := hD0.self (sz := s.heap.size)
  generalize hAe : va_A (w_Proc h cI cJ σ) s.heap.size = A at hD ⊢
  have hA : ∀ q : Nat, s.heap.size ≤ q → A q := fun q h => by rw [← hAe]; exact Or.inr h
  clear hD0 hAe
  have hS : va_S A s.heap s.heap [] := va_S.rf
  have hl := lv_entry ([.ref (h 1), .int a1]) (n := 3) (Nat.le_of_ble_eq_true rfl)
  rw [lg_entry_eq]
  generalize (lg_sl ([.ref (h 1), .int a1]) ++ List.replicate (3 - (lg_sl ([.ref (h 1), .int a1])).length) Slot.unset).toArray = ls at hl ⊢
  have hl : lv_has ls 3 [(0, .ref (h 1)), (1, .int a1)] := hl
  unfold wp_X5_pointerAt at hok
  refine lv_aload_n hx hb dX5_pointerAt_0 rfl (lv_at hl 0 rfl) ?_
  refine va_get (D := (dC, dI)) (ci := 4) (v := .ref (h 4)) (C := RX5) (T := TX5) (N := 15) hx hb hts (fun w h => List.mem_cons_of_mem _ (in_X5 w h)) hown hK hP 0 rfl rfl 12 (by decide) (hts _ (List.mem_cons_of_mem _ tw_1_171)) (fun _ h9 => h9) rfl dX5_pointerAt_1 ?_
  refine lv_iload_n hx hb dX5_pointerAt_4 rfl (lv_at hl 1 rfl) ?_
  have hPc := hP.sub (ws' := w_Board h cI cJ σ.2.2.2) [3, 4, 5, 6, 7, 8, 9] rfl
  have hDc := hD.sub (ws' := w_Board h cI cJ σ.2.2.2) [3, 4, 5, 6, 7, 8, 9] (by decide) rfl
  have hFc := va_free (wc := w_Board h cI cJ σ.2.2.2) hD hS hA [3, 4, 5, 6, 7, 8, 9] rfl
  refine va_calli (va_runV (As := [.int a1]) (rest := []) ⟨hx, hb, hml, hown, hts⟩ (c_X0_read l dC dI cI cJ h _ hok) (cwV 1 hts (tb_gV tw_2_14 tw_2_15 tw_2_16 tw_1_2 tw_2_17) rfl rfl rfl (by decide +kernel) ⟨Nat.le_of_ble_eq_true rfl, Nat.le_of_ble_eq_true rfl⟩) (cpre_V (ci := 0) (q0 := 0) hK hPc hDc rfl rfl) rfl rfl hl.1 rfl (lv_room (Nat.le_of_ble_eq_true rfl)) dX5_pointerAt_5 ⟨Nat.le_of_ble_eq_true rfl, Nat.le_of_ble_eq_true rfl⟩) hS (fun q _ h => hFc q h) hFc (fun r1 u2 t H1 locs ht hvm hok hB hz1 hk1 hS => ?_)
  obtain ⟨hP, hD⟩ := cjoin ht hP hD [3, 4, 5, 6, 7, 8, 9] [0, 1, 2] rfl rfl (by decide) (by decide) hk1 hFc hB
  have hP := hP.sub (ws' := w_Proc h cI cJ (σ.1, σ.2.1, σ.2.2.1, u2)) [0, 1, 2, 3, 4, 5, 6, 7, 8, 9] rfl
  have hD := hD.sub (ws' := w_Proc h cI cJ (σ.1, σ.2.1, σ.2.2.1, u2)) [0, 1, 2, 3, 4, 5, 6, 7, 8, 9] (by decide) rfl
  refine lv_istore_n (lv' := [(2, .int r1), (0, .ref (h 1)), (1, .int a1)]) hx hb dX5_pointerAt_8 rfl hl (by decide) rfl (fun ls hl => ?_)
  refine lv_iload_n hx hb dX5_pointerAt_9 rfl (lv_at hl 0 rfl) ?_
  refine lv_aload_n hx hb dX5_pointerAt_10 rfl (lv_at hl 1 rfl) ?_
  refine va_get (D := (dC, dI)) (ci := 4) (v := .ref (h 4)) (C := RX5) (T := TX5) (N := 15) hx hb hts (fun w h => List.mem_cons_of_mem _ (in_X5 w h)) hown hK hP 0 rfl rfl 12 (by decide) (hts _ (List.mem_cons_of_mem _ tw_1_171)) (fun _ h9 => h9) rfl dX5_pointerAt_11 ?_
  refine lv_iload_n hx hb dX5_pointerAt_14 rfl (lv_at hl 2 rfl) ?_
  refine lv_iconst (v := 1) hx hb dX5_pointerAt_15 (by decide) ?_
  refine lv_iadd hx hb dX5_pointerAt_16 ?_
  refine lv_sipush (v := 255) hx hb dX5_pointerAt_17 (by decide) ?_
  refine lv_iand hx hb dX5_pointerAt_20 ?_
  have hPc := hP.sub (ws' := w_Board h cI cJ u2) [3, 4, 5, 6, 7, 8, 9] rfl
  have hDc := hD.sub (ws' := w_Board h cI cJ u2) [3, 4, 5, 6, 7, 8, 9] (by decide) rfl
  have hFc := va_free (wc := w_Board h cI cJ u2) hD hS hA [3, 4, 5, 6, 7, 8, 9] rfl
  refine va_calli (va_runV (As := [.int ((a1 + (1 : Int32)) &&& (255 : Int32))]) (rest := [.int r1]) ⟨hx, hb, hml, hown, hts⟩ (c_X0_read l dC dI cI cJ h _ hok) (cwV 1 hts (tb_gV tw_2_14 tw_2_15 tw_2_16 tw_1_2 tw_2_17) rfl rfl rfl (by decide +kernel) ⟨Nat.le_of_ble_eq_true rfl, Nat.le_of_ble_eq_true rfl⟩) (cpre_V (ci := 0) (q0 := 0) hK hPc hDc rfl rfl) rfl rfl hl.1 rfl (lv_room (Nat.le_of_ble_eq_true rfl)) dX5_pointerAt_21 ⟨Nat.le_of_ble_eq_true rfl, Nat.le_of_ble_eq_true rfl⟩) hS (fun q _ h => hFc q h) hFc (fun r3 u4 t H1 locs ht hvm hok hB hz1 hk1 hS => ?_)
  obtain ⟨hP, hD⟩ := cjoin ht hP hD [3, 4, 5, 6, 7, 8, 9] [0, 1, 2] rfl rfl (by decide) (by decide) hk1 hFc hB
  have hP := hP.sub (ws' := w_Proc h cI cJ (σ.1, σ.2.1, σ.2.2.1, u4)) [0, 1, 2, 3, 4, 5, 6, 7, 8, 9] rfl
  have hD := hD.sub (ws' := w_Proc h cI cJ (σ.1, σ.2.1, σ.2.2.1, u4)) [0, 1, 2, 3, 4, 5, 6, 7, 8, 9] (by decide) rfl
  refine lv_bipush (v := 8) hx hb dX5_pointerAt_24 (by decide) ?_
  refine lv_ishl hx hb dX5_pointerAt_26 ?_
  refine lv_ior hx hb dX5_pointerAt_27 ?_
  exact W.iret (v := r1 ||| (r3 <<< ((8 : Int32) &&& 31))) hx hb hr (fun t ht hW => ⟨⟨r1 ||| (r3 <<< ((8 : Int32) &&& 31)), (σ.1, σ.2.1, σ.2.2.1, u4), rfl, hok, by rw [ht]; exact hP, va_K.moved hW.alike hK, hD⟩, hS.F ht⟩) hS.2.2 dX5_pointerAt_28
def wp_X5_addressOf (σ : S_Proc) (a1 : Int32) (a2 : Int32) (Φ : Int32 → S_Proc → Prop) : Prop := ((a1 = 5 → (Φ ((a2 + (σ.1 1)) &&& (255 : Int32)) σ)) ∧ (a1 = 6 → (Φ ((a2 + (σ.1 2)) &&& (255 : Int32)) σ)) ∧ (a1 = 7 → (wp_X5_pointerAt σ ((a2 + (σ.1 1)) &&& (255 : Int32)) (fun r4 u5 => Φ r4 u5))) ∧ (a1 = 8 → (wp_X5_pointerAt σ a2 (fun r7 u8 => wp_X5_indexed u8 r7 (u8.1 2) (fun r9 u10 => Φ r9 u10)))) ∧ (a1 = 9 → (wp_X5_pointerAt σ a2 (fun r12 u13 => Φ r12 u13))) ∧ (a1 = 11 → (wp_X5_indexed σ a2 (σ.1 1) (fun r15 u16 => Φ r15 u16))) ∧ (a1 = 12 → (wp_X5_indexed σ a2 (σ.1 2) (fun r18 u19 => Φ r18 u19))) ∧ ((¬ a1 = 5 ∧ ¬ a1 = 6 ∧ ¬ a1 = 7 ∧ ¬ a1 = 8 ∧ ¬ a1 = 9 ∧ ¬ a1 = 11 ∧ ¬ a1 = 12) → (Φ a2 σ)))
set_option maxHeartbeats 4000000 in
set_option maxRecDepth 100000 in
theorem c_X5_addressOf (l : Launch) (dC : Nat → ClassId) (dI : Nat → Nat → Nat) (cI cJ : ClassId) (h : Nat → Nat) (sz : Nat) {σ : S_Proc} {a1 : Int32} {a2 : Int32} {Φ : Int32 → S_Proc → Prop} (hok : wp_X5_addressOf σ a1 a2 Φ) : Met l yX5_addressOf wsX5_addressOf ({ frames := 4, cells := 0, slots := 0, locals := 86 }) (va_Pc [.ref (h 1), .int a1, .int a2] (cpre dC dI cI cJ (w_Proc h cI cJ σ) sz)) (va_Qi Φ (fun u => cpost dC dI cI cJ (va_A (w_Proc h cI cJ σ) sz) (w_Proc h cI cJ u)) (va_A (w_Proc h cI cJ σ) sz)) 0 0 (va_A (w_Proc h cI cJ σ) sz) := by
  refine Met.ofW (cc := cX5_addressOf) (maxL := 3) (ret := (some .int)) (by decide) rfl ?_
  intro p e s m args below meth c s₁ B hml hv
  obtain ⟨rfl, hsz, hP, hK, hD0⟩ := hv
  have hx := B.exec
  have hb := B.bytes
  have hr := B.returns
  have hts := atoms_spec (ws := wsX5_addressOf) B.pre
  have hown : s.vm.findClass RX5 = some m.cls := findClass_of_methodNamed B.named
  have hlocks := B.notSynchronized
  subst hsz
  have hD := hD0.self (sz := s.heap.size)
  generalize hAe : va_A (w_Proc h cI cJ σ) s.heap.size = A at hD ⊢
  have hA : ∀ q : Nat, s.heap.size ≤ q → A q := fun q h => by rw [← hAe]; exact Or.inr h
  clear hD0 hAe
  have hS : va_S A s.heap s.heap [] := va_S.rf
  have hl := lv_entry ([.ref (h 1), .int a1, .int a2]) (n := 3) (Nat.le_of_ble_eq_true rfl)
  rw [lg_entry_eq]
  generalize (lg_sl ([.ref (h 1), .int a1, .int a2]) ++ List.replicate (3 - (lg_sl ([.ref (h 1), .int a1, .int a2])).length) Slot.unset).toArray = ls at hl ⊢
  have hl : lv_has ls 3 [(0, .ref (h 1)), (1, .int a1), (2, .int a2)] := hl
  unfold wp_X5_addressOf at hok
  refine lv_iload_n hx hb dX5_addressOf_0 rfl (lv_at hl 1 rfl) ?_
  by_cases c1 : a1 = 5
  · have hok := hok.1 c1
    refine lv_tableIn (tgt := 48) (off := 47) hx hb dX5_addressOf_1 (by rw [c1]; decide) (by rw [c1]; decide) (by rw [c1]; decide) (by decide) ?_
    refine lv_iload_n hx hb dX5_addressOf_48 rfl (lv_at hl 2 rfl) ?_
    refine lv_aload_n hx hb dX5_addressOf_49 rfl (lv_at hl 0 rfl) ?_
    refine va_get (D := (dC, dI)) (ci := 4) (v := .int (σ.1 1)) (C := RX5) (T := TX5) (N := 15) hx hb hts (fun w h => List.mem_cons_of_mem _ (in_X5 w h)) hown hK hP 0 rfl rfl 1 (by decide) (hts _ (List.mem_cons_of_mem _ tw_1_149)) (fun _ h9 => h9) rfl dX5_addressOf_50 ?_
    refine lv_iadd hx hb dX5_addressOf_53 ?_
    refine lv_sipush (v := 255) hx hb dX5_addressOf_54 (by decide) ?_
    refine lv_iand hx hb dX5_addressOf_57 ?_
    refine lv_goto (tgt := 140) hx hb dX5_addressOf_58 (by decide) ?_
    exact W.iret (v := (a2 + (σ.1 1)) &&& (255 : Int32)) hx hb hr (fun t ht hW => ⟨⟨(a2 + (σ.1 1)) &&& (255 : Int32), σ, rfl, hok, by rw [ht]; exact hP, va_K.moved hW.alike hK, hD⟩, hS.F ht⟩) hS.2.2 dX5_addressOf_140
  have hok := hok.2
  by_cases c2 : a1 = 6
  · have hok := hok.1 c2
    refine lv_tableIn (tgt := 61) (off := 60) hx hb dX5_addressOf_1 (by rw [c2]; decide) (by rw [c2]; decide) (by rw [c2]; decide) (by decide) ?_
    refine lv_iload_n hx hb dX5_addressOf_61 rfl (lv_at hl 2 rfl) ?_
    refine lv_aload_n hx hb dX5_addressOf_62 rfl (lv_at hl 0 rfl) ?_
    refine va_get (D := (dC, dI)) (ci := 4) (v := .int (σ.1 2)) (C := RX5) (T := TX5) (N := 15) hx hb hts (fun w h => List.mem_cons_of_mem _ (in_X5 w h)) hown hK hP 0 rfl rfl 2 (by decide) (hts _ (List.mem_cons_of_mem _ tw_1_151)) (fun _ h9 => h9) rfl dX5_addressOf_63 ?_
    refine lv_iadd hx hb dX5_addressOf_66 ?_
    refine lv_sipush (v := 255) hx hb dX5_addressOf_67 (by decide) ?_
    refine lv_iand hx hb dX5_addressOf_70 ?_
    refine lv_goto (tgt := 140) hx hb dX5_addressOf_71 (by decide) ?_
    exact W.iret (v := (a2 + (σ.1 2)) &&& (255 : Int32)) hx hb hr (fun t ht hW => ⟨⟨(a2 + (σ.1 2)) &&& (255 : Int32), σ, rfl, hok, by rw [ht]; exact hP, va_K.moved hW.alike hK, hD⟩, hS.F ht⟩) hS.2.2 dX5_addressOf_140
  have hok := hok.2
  by_cases c3 : a1 = 7
  · have hok := hok.1 c3
    refine lv_tableIn (tgt := 98) (off := 97) hx hb dX5_addressOf_1 (by rw [c3]; decide) (by rw [c3]; decide) (by rw [c3]; decide) (by decide) ?_
    refine lv_aload_n hx hb dX5_addressOf_98 rfl (lv_at hl 0 rfl) ?_
    refine lv_iload_n hx hb dX5_addressOf_99 rfl (lv_at hl 2 rfl) ?_
    refine lv_aload_n hx hb dX5_addressOf_100 rfl (lv_at hl 0 rfl) ?_
    refine va_get (D := (dC, dI)) (ci := 4) (v := .int (σ.1 1)) (C := RX5) (T := TX5) (N := 15) hx hb hts (fun w h => List.mem_cons_of_mem _ (in_X5 w h)) hown hK hP 0 rfl rfl 1 (by decide) (hts _ (List.mem_cons_of_mem _ tw_1_149)) (fun _ h9 => h9) rfl dX5_addressOf_101 ?_
    refine lv_iadd hx hb dX5_addressOf_104 ?_
    refine lv_sipush (v := 255) hx hb dX5_addressOf_105 (by decide) ?_
    refine lv_iand hx hb dX5_addressOf_108 ?_
    have hPc := hP
    have hDc := hD
    have hFc := va_free (wc := w_Proc h cI cJ σ) hD hS hA [0, 1, 2, 3, 4, 5, 6, 7, 8, 9] rfl
    refine va_calli (va_runV (As := [.int ((a2 + (σ.1 1)) &&& (255 : Int32))]) (rest := []) ⟨hx, hb, hml, hown, hts⟩ (c_X5_pointerAt l dC dI cI cJ h _ hok) (cwV 1 hts (tb_gV tw_2_140 tw_2_142 tw_p_11 tw_1_6 tw_2_143) rfl rfl rfl (by decide +kernel) ⟨Nat.le_of_ble_eq_true rfl, Nat.le_of_ble_eq_true rfl⟩) (cpre_V (ci := 4) (q0 := 0) hK hPc hDc rfl rfl) rfl rfl hl.1 rfl (lv_room (Nat.le_of_ble_eq_true rfl)) dX5_addressOf_109 ⟨Nat.le_of_ble_eq_true rfl, Nat.le_of_ble_eq_true rfl⟩) hS (fun q _ h => hFc q h) hFc (fun r4 u5 t H1 locs ht hvm hok hB hz1 hk1 hS => ?_)
    obtain ⟨hP, hD⟩ := cjoin_w ht hB hFc
    refine lv_goto (tgt := 140) hx hb dX5_addressOf_112 (by decide) ?_
    exact W.iret (v := r4) hx hb hr (fun t ht hW => ⟨⟨r4, u5, rfl, hok, by rw [ht]; exact hP, va_K.moved hW.alike hK, hD⟩, hS.F ht⟩) hS.2.2 dX5_addressOf_140
  have hok := hok.2
  by_cases c6 : a1 = 8
  · have hok := hok.1 c6
    refine lv_tableIn (tgt := 115) (off := 114) hx hb dX5_addressOf_1 (by rw [c6]; decide) (by rw [c6]; decide) (by rw [c6]; decide) (by decide) ?_
    refine lv_aload_n hx hb dX5_addressOf_115 rfl (lv_at hl 0 rfl) ?_
    refine lv_aload_n hx hb dX5_addressOf_116 rfl (lv_at hl 0 rfl) ?_
    refine lv_iload_n hx hb dX5_addressOf_117 rfl (lv_at hl 2 rfl) ?_
    have hPc := hP
    have hDc := hD
    have hFc := va_free (wc := w_Proc h cI cJ σ) hD hS hA [0, 1, 2, 3, 4, 5, 6, 7, 8, 9] rfl
    refine va_calli (va_runV (As := [.int a2]) (rest := [.ref (h 1)]) ⟨hx, hb, hml, hown, hts⟩ (c_X5_pointerAt l dC dI cI cJ h _ hok) (cwV 1 hts (tb_gV tw_2_140 tw_2_142 tw_p_11 tw_1_6 tw_2_143) rfl rfl rfl (by decide +kernel) ⟨Nat.le_of_ble_eq_true rfl, Nat.le_of_ble_eq_true rfl⟩) (cpre_V (ci := 4) (q0 := 0) hK hPc hDc rfl rfl) rfl rfl hl.1 rfl (lv_room (Nat.le_of_ble_eq_true rfl)) dX5_addressOf_118 ⟨Nat.le_of_ble_eq_true rfl, Nat.le_of_ble_eq_true rfl⟩) hS (fun q _ h => hFc q h) hFc (fun r7 u8 t H1 locs ht hvm hok hB hz1 hk1 hS => ?_)
    obtain ⟨hP, hD⟩ := cjoin_w ht hB hFc
    refine lv_aload_n hx hb dX5_addressOf_121 rfl (lv_at hl 0 rfl) ?_
    refine va_get (D := (dC, dI)) (ci := 4) (v := .int (u8.1 2)) (C := RX5) (T := TX5) (N := 15) hx hb hts (fun w h => List.mem_cons_of_mem _ (in_X5 w h)) hown hK hP 0 rfl rfl 2 (by decide) (hts _ (List.mem_cons_of_mem _ tw_1_151)) (fun _ h9 => h9) rfl dX5_addressOf_122 ?_
    have hPc := hP
    have hDc := hD
    have hFc := va_free (wc := w_Proc h cI cJ u8) hD hS hA [0, 1, 2, 3, 4, 5, 6, 7, 8, 9] rfl
    refine va_calli (va_runV (As := [.int r7, .int (u8.1 2)]) (rest := []) ⟨hx, hb, hml, hown, hts⟩ (c_X5_indexed l dC dI cI cJ h _ hok) (cwV 2 hts (tb_gV tw_2_136 tw_2_138 tw_p_10 tw_1_6 tw_2_139) rfl rfl rfl (by decide +kernel) ⟨Nat.le_of_ble_eq_true rfl, Nat.le_of_ble_eq_true rfl⟩) (cpre_V (ci := 4) (q0 := 0) hK hPc hDc rfl rfl) rfl rfl hl.1 rfl (lv_room (Nat.le_of_ble_eq_true rfl)) dX5_addressOf_125 ⟨Nat.le_of_ble_eq_true rfl, Nat.le_of_ble_eq_true rfl⟩) hS (fun q _ h => hFc q h) hFc (fun r9 u10 t H1 locs ht hvm hok hB hz1 hk1 hS => ?_)
    obtain ⟨hP, hD⟩ := cjoin_w ht hB hFc
    refine lv_goto (tgt := 140) hx hb dX5_addressOf_128 (by decide) ?_
    exact W.iret (v := r9) hx hb hr (fun t ht hW => ⟨⟨r9, u10, rfl, hok, by rw [ht]; exact hP, va_K.moved hW.alike hK, hD⟩, hS.F ht⟩) hS.2.2 dX5_addressOf_140
  have hok := hok.2
  by_cases c11 : a1 = 9
  · have hok := hok.1 c11
    refine lv_tableIn (tgt := 131) (off := 130) hx hb dX5_addressOf_1 (by rw [c11]; decide) (by rw [c11]; decide) (by rw [c11]; decide) (by decide) ?_
    refine lv_aload_n hx hb dX5_addressOf_131 rfl (lv_at hl 0 rfl) ?_
    refine lv_iload_n hx hb dX5_addressOf_132 rfl (lv_at hl 2 rfl) ?_
    have hPc := hP
    have hDc := hD
    have hFc := va_free (wc := w_Proc h cI cJ σ) hD hS hA [0, 1, 2, 3, 4, 5, 6, 7, 8, 9] rfl
    refine va_calli (va_runV (As := [.int a2]) (rest := []) ⟨hx, hb, hml, hown, hts⟩ (c_X5_pointerAt l dC dI cI cJ h _ hok) (cwV 1 hts (tb_gV tw_2_140 tw_2_142 tw_p_11 tw_1_6 tw_2_143) rfl rfl rfl (by decide +kernel) ⟨Nat.le_of_ble_eq_true rfl, Nat.le_of_ble_eq_true rfl⟩) (cpre_V (ci := 4) (q0 := 0) hK hPc hDc rfl rfl) rfl rfl hl.1 rfl (lv_room (Nat.le_of_ble_eq_true rfl)) dX5_addressOf_133 ⟨Nat.le_of_ble_eq_true rfl, Nat.le_of_ble_eq_true rfl⟩) hS (fun q _ h => hFc q h) hFc (fun r12 u13 t H1 locs ht hvm hok hB hz1 hk1 hS => ?_)
    obtain ⟨hP, hD⟩ := cjoin_w ht hB hFc
    refine lv_goto (tgt := 140) hx hb dX5_addressOf_136 (by decide) ?_
    exact W.iret (v := r12) hx hb hr (fun t ht hW => ⟨⟨r12, u13, rfl, hok, by rw [ht]; exact hP, va_K.moved hW.alike hK, hD⟩, hS.F ht⟩) hS.2.2 dX5_addressOf_140
  have hok := hok.2
  by_cases c14 : a1 = 11
  · have hok := hok.1 c14
    refine lv_tableIn (tgt := 74) (off := 73) hx hb dX5_addressOf_1 (by rw [c14]; decide) (by rw [c14]; decide) (by rw [c14]; decide) (by decide) ?_
    refine lv_aload_n hx hb dX5_addressOf_74 rfl (lv_at hl 0 rfl) ?_
    refine lv_iload_n hx hb dX5_addressOf_75 rfl (lv_at hl 2 rfl) ?_
    refine lv_aload_n hx hb dX5_addressOf_76 rfl (lv_at hl 0 rfl) ?_
    refine va_get (D := (dC, dI)) (ci := 4) (v := .int (σ.1 1)) (C := RX5) (T := TX5) (N := 15) hx hb hts (fun w h => List.mem_cons_of_mem _ (in_X5 w h)) hown hK hP 0 rfl rfl 1 (by decide) (hts _ (List.mem_cons_of_mem _ tw_1_149)) (fun _ h9 => h9) rfl dX5_addressOf_77 ?_
    have hPc := hP
    have hDc := hD
    have hFc := va_free (wc := w_Proc h cI cJ σ) hD hS hA [0, 1, 2, 3, 4, 5, 6, 7, 8, 9] rfl
    refine va_calli (va_runV (As := [.int a2, .int (σ.1 1)]) (rest := []) ⟨hx, hb, hml, hown, hts⟩ (c_X5_indexed l dC dI cI cJ h _ hok) (cwV 2 hts (tb_gV tw_2_136 tw_2_138 tw_p_10 tw_1_6 tw_2_139) rfl rfl rfl (by decide +kernel) ⟨Nat.le_of_ble_eq_true rfl, Nat.le_of_ble_eq_true rfl⟩) (cpre_V (ci := 4) (q0 := 0) hK hPc hDc rfl rfl) rfl rfl hl.1 rfl (lv_room (Nat.le_of_ble_eq_true rfl)) dX5_addressOf_80 ⟨Nat.le_of_ble_eq_true rfl, Nat.le_of_ble_eq_true rfl⟩) hS (fun q _ h => hFc q h) hFc (fun r15 u16 t H1 locs ht hvm hok hB hz1 hk1 hS => ?_)
    obtain ⟨hP, hD⟩ := cjoin_w ht hB hFc
    refine lv_goto (tgt := 140) hx hb dX5_addressOf_83 (by decide) ?_
    exact W.iret (v := r15) hx hb hr (fun t ht hW => ⟨⟨r15, u16, rfl, hok, by rw [ht]; exact hP, va_K.moved hW.alike hK, hD⟩, hS.F ht⟩) hS.2.2 dX5_addressOf_140
  have hok := hok.2
  by_cases c17 : a1 = 12
  · have hok := hok.1 c17
    refine lv_tableIn (tgt := 86) (off := 85) hx hb dX5_addressOf_1 (by rw [c17]; decide) (by rw [c17]; decide) (by rw [c17]; decide) (by decide) ?_
    refine lv_aload_n hx hb dX5_addressOf_86 rfl (lv_at hl 0 rfl) ?_
    refine lv_iload_n hx hb dX5_addressOf_87 rfl (lv_at hl 2 rfl) ?_
    refine lv_aload_n hx hb dX5_addressOf_88 rfl (lv_at hl 0 rfl) ?_
    refine va_get (D := (dC, dI)) (ci := 4) (v := .int (σ.1 2)) (C := RX5) (T := TX5) (N := 15) hx hb hts (fun w h => List.mem_cons_of_mem _ (in_X5 w h)) hown hK hP 0 rfl rfl 2 (by decide) (hts _ (List.mem_cons_of_mem _ tw_1_151)) (fun _ h9 => h9) rfl dX5_addressOf_89 ?_
    have hPc := hP
    have hDc := hD
    have hFc := va_free (wc := w_Proc h cI cJ σ) hD hS hA [0, 1, 2, 3, 4, 5, 6, 7, 8, 9] rfl
    refine va_calli (va_runV (As := [.int a2, .int (σ.1 2)]) (rest := []) ⟨hx, hb, hml, hown, hts⟩ (c_X5_indexed l dC dI cI cJ h _ hok) (cwV 2 hts (tb_gV tw_2_136 tw_2_138 tw_p_10 tw_1_6 tw_2_139) rfl rfl rfl (by decide +kernel) ⟨Nat.le_of_ble_eq_true rfl, Nat.le_of_ble_eq_true rfl⟩) (cpre_V (ci := 4) (q0 := 0) hK hPc hDc rfl rfl) rfl rfl hl.1 rfl (lv_room (Nat.le_of_ble_eq_true rfl)) dX5_addressOf_92 ⟨Nat.le_of_ble_eq_true rfl, Nat.le_of_ble_eq_true rfl⟩) hS (fun q _ h => hFc q h) hFc (fun r18 u19 t H1 locs ht hvm hok hB hz1 hk1 hS => ?_)
    obtain ⟨hP, hD⟩ := cjoin_w ht hB hFc
    refine lv_goto (tgt := 140) hx hb dX5_addressOf_95 (by decide) ?_
    exact W.iret (v := r18) hx hb hr (fun t ht hW => ⟨⟨r18, u19, rfl, hok, by rw [ht]; exact hP, va_K.moved hW.alike hK, hD⟩, hS.F ht⟩) hS.2.2 dX5_addressOf_140
  have hok := hok.2
  have hok := hok ⟨c1, c2, c3, c6, c11, c14, c17⟩
  have kz19 : ∀ k ∈ ([5, 6, 7, 8, 9, 11, 12] : List Int), (a1).toInt ≠ k := List.forall_mem_cons.mpr ⟨tb_ne c1 rfl, List.forall_mem_cons.mpr ⟨tb_ne c2 rfl, List.forall_mem_cons.mpr ⟨tb_ne c3 rfl, List.forall_mem_cons.mpr ⟨tb_ne c6 rfl, List.forall_mem_cons.mpr ⟨tb_ne c11 rfl, List.forall_mem_cons.mpr ⟨tb_ne c14 rfl, List.forall_mem_cons.mpr ⟨tb_ne c17 rfl, fun k h => absurd h List.not_mem_nil⟩⟩⟩⟩⟩⟩⟩
  refine tb_def (tgt := 139) (keys := [5, 6, 7, 8, 9, 11, 12]) hx hb dX5_addressOf_1 kz19 (by decide) (by decide) ?_
  refine lv_iload_n hx hb dX5_addressOf_139 rfl (lv_at hl 2 rfl) ?_
  exact W.iret (v := a2) hx hb hr (fun t ht hW => ⟨⟨a2, σ, rfl, hok, by rw [ht]; exact hP, va_K.moved hW.alike hK, hD⟩, hS.F ht⟩) hS.2.2 dX5_addressOf_140
def wp_X5_shown (σ : S_Proc) (a1 : Int32) (Φ : Int32 → S_Proc → Prop) : Prop := ∀ v1 : Int32, v1 = ((σ.1 4) &&& (-131 : Int32)) ||| ((a1 &&& (255 : Int32)) &&& (128 : Int32)) → (((a1 &&& (255 : Int32)) = 0 → (Φ (a1 &&& (255 : Int32)) (upd σ.1 4 (v1 ||| (2 : Int32)), σ.2.1, σ.2.2.1, σ.2.2.2))) ∧ (¬ (a1 &&& (255 : Int32)) = 0 → (Φ (a1 &&& (255 : Int32)) (upd σ.1 4 (v1 ||| (0 : Int32)), σ.2.1, σ.2.2.1, σ.2.2.2))))
set_option maxHeartbeats 4000000 in
set_option maxRecDepth 100000 in
theorem c_X5_shown (l : Launch) (dC : Nat → ClassId) (dI : Nat → Nat → Nat) (cI cJ : ClassId) (h : Nat → Nat) (sz : Nat) {σ : S_Proc} {a1 : Int32} {Φ : Int32 → S_Proc → Prop} (hok : wp_X5_shown σ a1 Φ) : Met l yX5_shown wsX5_shown ({ frames := 0, cells := 0, slots := 0, locals := 0 }) (va_Pc [.ref (h 1), .int a1] (cpre dC dI cI cJ (w_Proc h cI cJ σ) sz)) (va_Qi Φ (fun u => cpost dC dI cI cJ (va_A (w_Proc h cI cJ σ) sz) (w_Proc h cI cJ u)) (va_A (w_Proc h cI cJ σ) sz)) 0 0 (va_A (w_Proc h cI cJ σ) sz) := by
  refine Met.ofW (cc := cX5_shown) (maxL := 3) (ret := (some .int)) (by decide) rfl ?_
  intro p e s m args below meth c s₁ B hml hv
  obtain ⟨rfl, hsz, hP, hK, hD0⟩ := hv
  have hx := B.exec
  have hb := B.bytes
  have hr := B.returns
  have hts := atoms_spec (ws := wsX5_shown) B.pre
  have hown : s.vm.findClass RX5 = some m.cls := findClass_of_methodNamed B.named
  have hlocks := B.notSynchronized
  subst hsz
  have hD := hD0.self (sz := s.heap.size)
  generalize hAe : va_A (w_Proc h cI cJ σ) s.heap.size = A at hD ⊢
  have hA : ∀ q : Nat, s.heap.size ≤ q → A q := fun q h => by rw [← hAe]; exact Or.inr h
  clear hD0 hAe
  have hS : va_S A s.heap s.heap [] := va_S.rf
  have hl := lv_entry ([.ref (h 1), .int a1]) (n := 3) (Nat.le_of_ble_eq_true rfl)
  rw [lg_entry_eq]
  generalize (lg_sl ([.ref (h 1), .int a1]) ++ List.replicate (3 - (lg_sl ([.ref (h 1), .int a1])).length) Slot.unset).toArray = ls at hl ⊢
  have hl : lv_has ls 3 [(0, .ref (h 1)), (1, .int a1)] := hl
  unfold wp_X5_shown at hok
  refine lv_iload_n hx hb dX5_shown_0 rfl (lv_at hl 1 rfl) ?_
  refine lv_sipush (v := 255) hx hb dX5_shown_1 (by decide) ?_
  refine lv_iand hx hb dX5_shown_4 ?_
  refine lv_istore_n (lv' := [(2, .int (a1 &&& (255 : Int32))), (0, .ref (h 1)), (1, .int a1)]) hx hb dX5_shown_5 rfl hl (by decide) rfl (fun ls hl => ?_)
  refine lv_aload_n hx hb dX5_shown_6 rfl (lv_at hl 1 rfl) ?_
  refine lv_aload_n hx hb dX5_shown_7 rfl (lv_at hl 1 rfl) ?_
  refine va_get (D := (dC, dI)) (ci := 4) (v := .int (σ.1 4)) (C := RX5) (T := TX5) (N := 15) hx hb hts (fun w h => List.mem_cons_of_mem _ (in_X5 w h)) hown hK hP 0 rfl rfl 4 (by decide) (hts _ (List.mem_cons_of_mem _ tw_1_155)) (fun _ h9 => h9) rfl dX5_shown_8 ?_
  refine lv_sipush (v := (-131)) hx hb dX5_shown_11 (by decide) ?_
  refine lv_iand hx hb dX5_shown_14 ?_
  refine lv_iload_n hx hb dX5_shown_15 rfl (lv_at hl 0 rfl) ?_
  refine lv_sipush (v := 128) hx hb dX5_shown_16 (by decide) ?_
  refine lv_iand hx hb dX5_shown_19 ?_
  refine lv_ior hx hb dX5_shown_20 ?_
  refine lv_topi (fun v1 ev1 => ?_)
  have hok := hok v1 ev1
  refine lv_iload_n hx hb dX5_shown_21 rfl (lv_at hl 0 rfl) ?_
  refine lv_if_ne (tgt := 29) hx hb dX5_shown_22 (by decide) (fun c2 => ?_) (fun c2 => ?_)
  · have hok := hok.2 c2
    refine lv_iconst (v := 0) hx hb dX5_shown_29 (by decide) ?_
    refine lv_ior hx hb dX5_shown_30 ?_
    refine va_put (D := (dC, dI)) (ci := 4) (v := .int (v1 ||| (0 : Int32))) (ty := .int) (C := RX5) (T := TX5) (N := 15) hx hb hts (fun w h => List.mem_cons_of_mem _ (in_X5 w h)) tyX5 tyX5_ok nmX5 hown hK hP hD hS 0 rfl rfl 4 (by decide) (hts _ (List.mem_cons_of_mem _ tw_1_155)) (fun _ h9 => h9) rfl (by decide +kernel) rfl rfl (Nat.le_of_ble_eq_true rfl) dX5_shown_31 (fun H locs hP hD hS => ?_)
    have hP : va_P (dC, dI) vwCl (w_Proc h cI cJ (upd σ.1 4 (v1 ||| (0 : Int32)), σ.2.1, σ.2.2.1, σ.2.2.2)) _ := hP
    have hD : va_D A (w_Proc h cI cJ (upd σ.1 4 (v1 ||| (0 : Int32)), σ.2.1, σ.2.2.1, σ.2.2.2)) := hD
    refine lv_iload_n hx hb dX5_shown_34 rfl (lv_at hl 0 rfl) ?_
    exact W.iret (v := a1 &&& (255 : Int32)) hx hb hr (fun t ht hW => ⟨⟨a1 &&& (255 : Int32), (upd σ.1 4 (v1 ||| (0 : Int32)), σ.2.1, σ.2.2.1, σ.2.2.2), rfl, hok, by rw [ht]; exact hP, va_K.moved hW.alike hK, hD⟩, hS.F ht⟩) hS.2.2 dX5_shown_35
  · have hok := hok.1 c2
    refine lv_iconst (v := 2) hx hb dX5_shown_25 (by decide) ?_
    refine lv_goto (tgt := 30) hx hb dX5_shown_26 (by decide) ?_
    refine lv_ior hx hb dX5_shown_30 ?_
    refine va_put (D := (dC, dI)) (ci := 4) (v := .int (v1 ||| (2 : Int32))) (ty := .int) (C := RX5) (T := TX5) (N := 15) hx hb hts (fun w h => List.mem_cons_of_mem _ (in_X5 w h)) tyX5 tyX5_ok nmX5 hown hK hP hD hS 0 rfl rfl 4 (by decide) (hts _ (List.mem_cons_of_mem _ tw_1_155)) (fun _ h9 => h9) rfl (by decide +kernel) rfl rfl (Nat.le_of_ble_eq_true rfl) dX5_shown_31 (fun H locs hP hD hS => ?_)
    have hP : va_P (dC, dI) vwCl (w_Proc h cI cJ (upd σ.1 4 (v1 ||| (2 : Int32)), σ.2.1, σ.2.2.1, σ.2.2.2)) _ := hP
    have hD : va_D A (w_Proc h cI cJ (upd σ.1 4 (v1 ||| (2 : Int32)), σ.2.1, σ.2.2.1, σ.2.2.2)) := hD
    refine lv_iload_n hx hb dX5_shown_34 rfl (lv_at hl 0 rfl) ?_
    exact W.iret (v := a1 &&& (255 : Int32)) hx hb hr (fun t ht hW => ⟨⟨a1 &&& (255 : Int32), (upd σ.1 4 (v1 ||| (2 : Int32)), σ.2.1, σ.2.2.1, σ.2.2.2), rfl, hok, by rw [ht]; exact hP, va_K.moved hW.alike hK, hD⟩, hS.F ht⟩) hS.2.2 dX5_shown_35
def wp_X5_mark (σ : S_Proc) (a1 : Int32) (a2 : Int32) (Φ : S_Proc → Prop) : Prop := ((a2 = 0 → (Φ (upd σ.1 4 ((σ.1 4) &&& (a1 ^^^ (-1 : Int32))), σ.2.1, σ.2.2.1, σ.2.2.2))) ∧ (¬ a2 = 0 → (Φ (upd σ.1 4 ((σ.1 4) ||| a1), σ.2.1, σ.2.2.1, σ.2.2.2))))
set_option maxHeartbeats 4000000 in
set_option maxRecDepth 100000 in
theorem c_X5_mark (l : Launch) (dC : Nat → ClassId) (dI : Nat → Nat → Nat) (cI cJ : ClassId) (h : Nat → Nat) (sz : Nat) {σ : S_Proc} {a1 : Int32} {a2 : Int32} {Φ : S_Proc → Prop} (hok : wp_X5_mark σ a1 a2 Φ) : Met l yX5_mark wsX5_mark ({ frames := 0, cells := 0, slots := 0, locals := 0 }) (va_Pc [.ref (h 1), .int a1, .int a2] (cpre dC dI cI cJ (w_Proc h cI cJ σ) sz)) (va_Qv Φ (fun u => cpost dC dI cI cJ (va_A (w_Proc h cI cJ σ) sz) (w_Proc h cI cJ u)) (va_A (w_Proc h cI cJ σ) sz)) 0 0 (va_A (w_Proc h cI cJ σ) sz) := by
  refine Met.ofW (cc := cX5_mark) (maxL := 3) (ret := none) (by decide) rfl ?_
  intro p e s m args below meth c s₁ B hml hv
  obtain ⟨rfl, hsz, hP, hK, hD0⟩ := hv
  have hx := B.exec
  have hb := B.bytes
  have hr := B.returns
  have hts := atoms_spec (ws := wsX5_mark) B.pre
  have hown : s.vm.findClass RX5 = some m.cls := findClass_of_methodNamed B.named
  have hlocks := B.notSynchronized
  subst hsz
  have hD := hD0.self (sz := s.heap.size)
  generalize hAe : va_A (w_Proc h cI cJ σ) s.heap.size = A at hD ⊢
  have hA : ∀ q : Nat, s.heap.size ≤ q → A q := fun q h => by rw [← hAe]; exact Or.inr h
  clear hD0 hAe
  have hS : va_S A s.heap s.heap [] := va_S.rf
  have hl := lv_entry ([.ref (h 1), .int a1, .int a2]) (n := 3) (Nat.le_of_ble_eq_true rfl)
  rw [lg_entry_eq]
  generalize (lg_sl ([.ref (h 1), .int a1, .int a2]) ++ List.replicate (3 - (lg_sl ([.ref (h 1), .int a1, .int a2])).length) Slot.unset).toArray = ls at hl ⊢
  have hl : lv_has ls 3 [(0, .ref (h 1)), (1, .int a1), (2, .int a2)] := hl
  unfold wp_X5_mark at hok
  refine lv_aload_n hx hb dX5_mark_0 rfl (lv_at hl 0 rfl) ?_
  refine lv_iload_n hx hb dX5_mark_1 rfl (lv_at hl 2 rfl) ?_
  refine lv_if_eq (tgt := 14) hx hb dX5_mark_2 (by decide) (fun c1 => ?_) (fun c1 => ?_)
  · have hok := hok.1 c1
    refine lv_aload_n hx hb dX5_mark_14 rfl (lv_at hl 0 rfl) ?_
    refine va_get (D := (dC, dI)) (ci := 4) (v := .int (σ.1 4)) (C := RX5) (T := TX5) (N := 15) hx hb hts (fun w h => List.mem_cons_of_mem _ (in_X5 w h)) hown hK hP 0 rfl rfl 4 (by decide) (hts _ (List.mem_cons_of_mem _ tw_1_155)) (fun _ h9 => h9) rfl dX5_mark_15 ?_
    refine lv_iload_n hx hb dX5_mark_18 rfl (lv_at hl 1 rfl) ?_
    refine lv_iconst (v := (-1)) hx hb dX5_mark_19 (by decide) ?_
    refine lv_ixor hx hb dX5_mark_20 ?_
    refine lv_iand hx hb dX5_mark_21 ?_
    refine va_put (D := (dC, dI)) (ci := 4) (v := .int ((σ.1 4) &&& (a1 ^^^ (-1 : Int32)))) (ty := .int) (C := RX5) (T := TX5) (N := 15) hx hb hts (fun w h => List.mem_cons_of_mem _ (in_X5 w h)) tyX5 tyX5_ok nmX5 hown hK hP hD hS 0 rfl rfl 4 (by decide) (hts _ (List.mem_cons_of_mem _ tw_1_155)) (fun _ h9 => h9) rfl (by decide +kernel) rfl rfl (Nat.le_of_ble_eq_true rfl) dX5_mark_22 (fun H locs hP hD hS => ?_)
    have hP : va_P (dC, dI) vwCl (w_Proc h cI cJ (upd σ.1 4 ((σ.1 4) &&& (a1 ^^^ (-1 : Int32))), σ.2.1, σ.2.2.1, σ.2.2.2)) _ := hP
    have hD : va_D A (w_Proc h cI cJ (upd σ.1 4 ((σ.1 4) &&& (a1 ^^^ (-1 : Int32))), σ.2.1, σ.2.2.1, σ.2.2.2)) := hD
    exact W.vret hx hb hr (fun t ht hW => ⟨⟨(upd σ.1 4 ((σ.1 4) &&& (a1 ^^^ (-1 : Int32))), σ.2.1, σ.2.2.1, σ.2.2.2), rfl, hok, by rw [ht]; exact hP, va_K.moved hW.alike hK, hD⟩, hS.F ht⟩) hS.2.2 dX5_mark_25
  · have hok := hok.2 c1
    refine lv_aload_n hx hb dX5_mark_5 rfl (lv_at hl 0 rfl) ?_
    refine va_get (D := (dC, dI)) (ci := 4) (v := .int (σ.1 4)) (C := RX5) (T := TX5) (N := 15) hx hb hts (fun w h => List.mem_cons_of_mem _ (in_X5 w h)) hown hK hP 0 rfl rfl 4 (by decide) (hts _ (List.mem_cons_of_mem _ tw_1_155)) (fun _ h9 => h9) rfl dX5_mark_6 ?_
    refine lv_iload_n hx hb dX5_mark_9 rfl (lv_at hl 1 rfl) ?_
    refine lv_ior hx hb dX5_mark_10 ?_
    refine lv_goto (tgt := 22) hx hb dX5_mark_11 (by decide) ?_
    refine va_put (D := (dC, dI)) (ci := 4) (v := .int ((σ.1 4) ||| a1)) (ty := .int) (C := RX5) (T := TX5) (N := 15) hx hb hts (fun w h => List.mem_cons_of_mem _ (in_X5 w h)) tyX5 tyX5_ok nmX5 hown hK hP hD hS 0 rfl rfl 4 (by decide) (hts _ (List.mem_cons_of_mem _ tw_1_155)) (fun _ h9 => h9) rfl (by decide +kernel) rfl rfl (Nat.le_of_ble_eq_true rfl) dX5_mark_22 (fun H locs hP hD hS => ?_)
    have hP : va_P (dC, dI) vwCl (w_Proc h cI cJ (upd σ.1 4 ((σ.1 4) ||| a1), σ.2.1, σ.2.2.1, σ.2.2.2)) _ := hP
    have hD : va_D A (w_Proc h cI cJ (upd σ.1 4 ((σ.1 4) ||| a1), σ.2.1, σ.2.2.1, σ.2.2.2)) := hD
    exact W.vret hx hb hr (fun t ht hW => ⟨⟨(upd σ.1 4 ((σ.1 4) ||| a1), σ.2.1, σ.2.2.1, σ.2.2.2), rfl, hok, by rw [ht]; exact hP, va_K.moved hW.alike hK, hD⟩, hS.F ht⟩) hS.2.2 dX5_mark_25
def wp_X5_compare_12 (σ : S_Proc) (x1 : Int32) (x2 : Int32) (s1 : Int32) (s2 : Int32) (Φ : S_Proc → Prop) : Prop := wp_X5_mark σ s1 s2 (fun u1 => wp_X5_shown u1 (x1 - x2) (fun r2 u3 => Φ u3))
def wp_X5_compare (σ : S_Proc) (a1 : Int32) (a2 : Int32) (Φ : S_Proc → Prop) : Prop := ((a1 < a2 → (wp_X5_compare_12 σ a1 a2 1 0 Φ)) ∧ (¬ a1 < a2 → (wp_X5_compare_12 σ a1 a2 1 1 Φ)))
set_option maxHeartbeats 4000000 in
set_option maxRecDepth 100000 in
theorem c_X5_compare (l : Launch) (dC : Nat → ClassId) (dI : Nat → Nat → Nat) (cI cJ : ClassId) (h : Nat → Nat) (sz : Nat) {σ : S_Proc} {a1 : Int32} {a2 : Int32} {Φ : S_Proc → Prop} (hok : wp_X5_compare σ a1 a2 Φ) : Met l yX5_compare wsX5_compare ({ frames := 1, cells := 0, slots := 0, locals := 22 }) (va_Pc [.ref (h 1), .int a1, .int a2] (cpre dC dI cI cJ (w_Proc h cI cJ σ) sz)) (va_Qv Φ (fun u => cpost dC dI cI cJ (va_A (w_Proc h cI cJ σ) sz) (w_Proc h cI cJ u)) (va_A (w_Proc h cI cJ σ) sz)) 0 0 (va_A (w_Proc h cI cJ σ) sz) := by
  refine Met.ofW (cc := cX5_compare) (maxL := 3) (ret := none) (by decide) rfl ?_
  intro p e s m args below meth c s₁ B hml hv
  obtain ⟨rfl, hsz, hP, hK, hD0⟩ := hv
  have hx := B.exec
  have hb := B.bytes
  have hr := B.returns
  have hts := atoms_spec (ws := wsX5_compare) B.pre
  have hown : s.vm.findClass RX5 = some m.cls := findClass_of_methodNamed B.named
  have hlocks := B.notSynchronized
  subst hsz
  have hD := hD0.self (sz := s.heap.size)
  generalize hAe : va_A (w_Proc h cI cJ σ) s.heap.size = A at hD ⊢
  have hA : ∀ q : Nat, s.heap.size ≤ q → A q := fun q h => by rw [← hAe]; exact Or.inr h
  clear hD0 hAe
  have hS : va_S A s.heap s.heap [] := va_S.rf
  have b12 : ∀ (σ : S_Proc) (x1 : Int32) (x2 : Int32) (s1 : Int32) (s2 : Int32), wp_X5_compare_12 σ x1 x2 s1 s2 Φ → ∀ (H : Heap) (locs : List Loc), va_P (dC, dI) vwCl (w_Proc h cI cJ σ) H → va_D A (w_Proc h cI cJ σ) → va_S A s.heap H locs → ∀ ls : Array Slot, lv_has ls 3 [(0, .ref (h 1)), (1, .int x1), (2, .int x2)] → W p l e (headSpec wsX5_compare { frames := 1, cells := 0, slots := 0, locals := 22 }).room s m ([.ref (h 1), .int a1, .int a2] : List Value).toArray below meth c H locs 0 0 (MQ below (va_Qv Φ (fun u => cpost dC dI cI cJ A (w_Proc h cI cJ u)) A) ([.ref (h 1), .int a1, .int a2] : List Value).toArray s 0 0 A) (F0 m 12 ls [.int s2, .int s1, .ref (h 1)]) := by
    intro σ x1 x2 s1 s2 hok H locs hP hD hS ls hl
    unfold wp_X5_compare_12 at hok
    have hPc := hP
    have hDc := hD
    have hFc := va_free (wc := w_Proc h cI cJ σ) hD hS hA [0, 1, 2, 3, 4, 5, 6, 7, 8, 9] rfl
    refine va_callv (va_runV (As := [.int s1, .int s2]) (rest := []) ⟨hx, hb, hml, hown, hts⟩ (c_X5_mark l dC dI cI cJ h _ hok) (cwV 2 hts (tb_gV tw_2_161 tw_2_163 tw_p_15 tw_1_6 tw_2_164) rfl rfl rfl (by decide +kernel) ⟨Nat.le_of_ble_eq_true rfl, Nat.le_of_ble_eq_true rfl⟩) (cpre_V (ci := 4) (q0 := 0) hK hPc hDc rfl rfl) rfl rfl hl.1 rfl (lv_room (Nat.le_of_ble_eq_true rfl)) dX5_compare_12 ⟨Nat.le_of_ble_eq_true rfl, Nat.le_of_ble_eq_true rfl⟩) hS (fun q _ h => hFc q h) hFc (fun u1 t H1 locs ht hvm hok hB hz1 hk1 hS => ?_)
    obtain ⟨hP, hD⟩ := cjoin_w ht hB hFc
    refine lv_aload_n hx hb dX5_compare_15 rfl (lv_at hl 0 rfl) ?_
    refine lv_iload_n hx hb dX5_compare_16 rfl (lv_at hl 1 rfl) ?_
    refine lv_iload_n hx hb dX5_compare_17 rfl (lv_at hl 2 rfl) ?_
    refine lv_isub hx hb dX5_compare_18 ?_
    have hPc := hP
    have hDc := hD
    have hFc := va_free (wc := w_Proc h cI cJ u1) hD hS hA [0, 1, 2, 3, 4, 5, 6, 7, 8, 9] rfl
    refine va_calli (va_runV (As := [.int (x1 - x2)]) (rest := []) ⟨hx, hb, hml, hown, hts⟩ (c_X5_shown l dC dI cI cJ h _ hok) (cwV 1 hts (tb_gV tw_2_153 tw_2_155 tw_p_13 tw_1_6 tw_2_156) rfl rfl rfl (by decide +kernel) ⟨Nat.le_of_ble_eq_true rfl, Nat.le_of_ble_eq_true rfl⟩) (cpre_V (ci := 4) (q0 := 0) hK hPc hDc rfl rfl) rfl rfl hl.1 rfl (lv_room (Nat.le_of_ble_eq_true rfl)) dX5_compare_19 ⟨Nat.le_of_ble_eq_true rfl, Nat.le_of_ble_eq_true rfl⟩) hS (fun q _ h => hFc q h) hFc (fun r2 u3 t H1 locs ht hvm hok hB hz1 hk1 hS => ?_)
    obtain ⟨hP, hD⟩ := cjoin_w ht hB hFc
    refine lv_pop hx hb dX5_compare_22 rfl ?_
    exact W.vret hx hb hr (fun t ht hW => ⟨⟨u3, rfl, hok, by rw [ht]; exact hP, va_K.moved hW.alike hK, hD⟩, hS.F ht⟩) hS.2.2 dX5_compare_23
  have hl := lv_entry ([.ref (h 1), .int a1, .int a2]) (n := 3) (Nat.le_of_ble_eq_true rfl)
  rw [lg_entry_eq]
  generalize (lg_sl ([.ref (h 1), .int a1, .int a2]) ++ List.replicate (3 - (lg_sl ([.ref (h 1), .int a1, .int a2])).length) Slot.unset).toArray = ls at hl ⊢
  have hl : lv_has ls 3 [(0, .ref (h 1)), (1, .int a1), (2, .int a2)] := hl
  unfold wp_X5_compare at hok
  refine lv_aload_n hx hb dX5_compare_0 rfl (lv_at hl 0 rfl) ?_
  refine lv_iconst (v := 1) hx hb dX5_compare_1 (by decide) ?_
  refine lv_iload_n hx hb dX5_compare_2 rfl (lv_at hl 1 rfl) ?_
  refine lv_iload_n hx hb dX5_compare_3 rfl (lv_at hl 2 rfl) ?_
  refine lv_icmp_lt (tgt := 11) hx hb dX5_compare_4 (by decide) (fun c4 => ?_) (fun c4 => ?_)
  · have hok := hok.1 c4
    refine lv_iconst (v := 0) hx hb dX5_compare_11 (by decide) ?_
    exact b12 σ a1 a2 1 0 hok _ _ hP hD hS _ (lv_sub hl [0, 1, 2] rfl)
  · have hok := hok.2 c4
    refine lv_iconst (v := 1) hx hb dX5_compare_7 (by decide) ?_
    refine lv_goto (tgt := 12) hx hb dX5_compare_8 (by decide) ?_
    exact b12 σ a1 a2 1 1 hok _ _ hP hD hS _ (lv_sub hl [0, 1, 2] rfl)
def wp_X5_changesSign (σ : S_Proc) (a1 : Int32) (a2 : Int32) (Φ : Int32 → Prop) : Prop := ∀ v1 : Int32, v1 = (((σ.1 0) ^^^ a2) &&& (a1 ^^^ a2)) &&& (128 : Int32) → ((v1 = 0 → (Φ 0)) ∧ (¬ v1 = 0 → (Φ 1)))
set_option maxHeartbeats 4000000 in
set_option maxRecDepth 100000 in
theorem c_X5_changesSign (l : Launch) (dC : Nat → ClassId) (dI : Nat → Nat → Nat) (cI cJ : ClassId) (h : Nat → Nat) (sz : Nat) {σ : S_Proc} {a1 : Int32} {a2 : Int32} {Φ : Int32 → Prop} (hok : wp_X5_changesSign σ a1 a2 Φ) : Met l yX5_changesSign wsX5_changesSign ({ frames := 0, cells := 0, slots := 0, locals := 0 }) (va_Pc [.ref (h 1), .int a1, .int a2] (cpre dC dI cI cJ (w_Proc h cI cJ σ) sz)) (va_Qi (fun (r : Int32) (_ : Unit) => Φ r) (fun _ => cpost dC dI cI cJ (va_A (w_Proc h cI cJ σ) sz) (w_Proc h cI cJ σ)) (va_A (w_Proc h cI cJ σ) sz)) 0 0 (va_A (w_Proc h cI cJ σ) sz) := by
  refine Met.ofW (cc := cX5_changesSign) (maxL := 3) (ret := (some .boolean)) (by decide) rfl ?_
  intro p e s m args below meth c s₁ B hml hv
  obtain ⟨rfl, hsz, hP, hK, hD0⟩ := hv
  have hx := B.exec
  have hb := B.bytes
  have hr := B.returns
  have hts := atoms_spec (ws := wsX5_changesSign) B.pre
  have hown : s.vm.findClass RX5 = some m.cls := findClass_of_methodNamed B.named
  have hlocks := B.notSynchronized
  subst hsz
  have hD := hD0.self (sz := s.heap.size)
  generalize hAe : va_A (w_Proc h cI cJ σ) s.heap.size = A at hD ⊢
  have hA : ∀ q : Nat, s.heap.size ≤ q → A q := fun q h => by rw [← hAe]; exact Or.inr h
  clear hD0 hAe
  have hS : va_S A s.heap s.heap [] := va_S.rf
  have hl := lv_entry ([.ref (h 1), .int a1, .int a2]) (n := 3) (Nat.le_of_ble_eq_true rfl)
  rw [lg_entry_eq]
  generalize (lg_sl ([.ref (h 1), .int a1, .int a2]) ++ List.replicate (3 - (lg_sl ([.ref (h 1), .int a1, .int a2])).length) Slot.unset).toArray = ls at hl ⊢
  have hl : lv_has ls 3 [(0, .ref (h 1)), (1, .int a1), (2, .int a2)] := hl
  unfold wp_X5_changesSign at hok
  refine lv_aload_n hx hb dX5_changesSign_0 rfl (lv_at hl 0 rfl) ?_
  refine va_get (D := (dC, dI)) (ci := 4) (v := .int (σ.1 0)) (C := RX5) (T := TX5) (N := 15) hx hb hts (fun w h => List.mem_cons_of_mem _ (in_X5 w h)) hown hK hP 0 rfl rfl 0 (by decide) (hts _ (List.mem_cons_of_mem _ tw_1_148)) (fun _ h9 => h9) rfl dX5_changesSign_1 ?_
  refine lv_iload_n hx hb dX5_changesSign_4 rfl (lv_at hl 2 rfl) ?_
  refine lv_ixor hx hb dX5_changesSign_5 ?_
  refine lv_iload_n hx hb dX5_changesSign_6 rfl (lv_at hl 1 rfl) ?_
  refine lv_iload_n hx hb dX5_changesSign_7 rfl (lv_at hl 2 rfl) ?_
  refine lv_ixor hx hb dX5_changesSign_8 ?_
  refine lv_iand hx hb dX5_changesSign_9 ?_
  refine lv_sipush (v := 128) hx hb dX5_changesSign_10 (by decide) ?_
  refine lv_iand hx hb dX5_changesSign_13 ?_
  refine lv_topi (fun v1 ev1 => ?_)
  have hok := hok v1 ev1
  refine lv_if_eq (tgt := 21) hx hb dX5_changesSign_14 (by decide) (fun c2 => ?_) (fun c2 => ?_)
  · have hok := hok.1 c2
    refine lv_iconst (v := 0) hx hb dX5_changesSign_21 (by decide) ?_
    exact W.zret (v := 0) hx hb hr rfl (fun t ht hW => ⟨⟨0, (), rfl, hok, by rw [ht]; exact hP, va_K.moved hW.alike hK, hD⟩, hS.F ht⟩) hS.2.2 dX5_changesSign_22
  · have hok := hok.2 c2
    refine lv_iconst (v := 1) hx hb dX5_changesSign_17 (by decide) ?_
    refine lv_goto (tgt := 22) hx hb dX5_changesSign_18 (by decide) ?_
    exact W.zret (v := 1) hx hb hr rfl (fun t ht hW => ⟨⟨1, (), rfl, hok, by rw [ht]; exact hP, va_K.moved hW.alike hK, hD⟩, hS.F ht⟩) hS.2.2 dX5_changesSign_22
def wp_X5_addDecimal_90 (σ : S_Proc) (x3 : Int32) (s1 : Int32) (s2 : Int32) (Φ : S_Proc → Prop) : Prop := wp_X5_mark σ s1 s2 (fun u1 => wp_X5_shown u1 x3 (fun r2 u3 => Φ (upd (upd u3.1 0 r2) 13 ((u3.1 13) + (1 : Int32)), u3.2.1, u3.2.2.1, u3.2.2.2)))
def wp_X5_addDecimal_76 (σ : S_Proc) (x3 : Int32) (Φ : S_Proc → Prop) : Prop := ((x3 ≤ (255 : Int32) → (wp_X5_addDecimal_90 σ x3 1 0 Φ)) ∧ (¬ x3 ≤ (255 : Int32) → (wp_X5_addDecimal_90 σ x3 1 1 Φ)))
def wp_X5_addDecimal_37 (σ : S_Proc) (x1 : Int32) (x2 : Int32) (Φ : S_Proc → Prop) : Prop := ∀ v5 : Int32, v5 = ((σ.1 0) &&& (240 : Int32)) + (x1 &&& (240 : Int32)) → wp_X5_changesSign σ x1 (v5 + x2) (fun r6 => wp_X5_mark σ 64 r6 (fun u7 => (((v5 + x2) ≤ (159 : Int32) → (wp_X5_addDecimal_76 u7 (v5 + x2) Φ)) ∧ (¬ (v5 + x2) ≤ (159 : Int32) → (∀ v9 : Int32, v9 = (v5 + x2) + 96 → wp_X5_addDecimal_76 u7 v9 Φ)))))
def wp_X5_addDecimal (σ : S_Proc) (a1 : Int32) (Φ : S_Proc → Prop) : Prop := ∀ v10 : Int32, v10 = ((σ.1 0) &&& (15 : Int32)) + (a1 &&& (15 : Int32)) → (((v10 + ((σ.1 4) &&& (1 : Int32))) ≤ (9 : Int32) → (wp_X5_addDecimal_37 σ a1 (v10 + ((σ.1 4) &&& (1 : Int32))) Φ)) ∧ (¬ (v10 + ((σ.1 4) &&& (1 : Int32))) ≤ (9 : Int32) → (∀ v12 : Int32, v12 = (v10 + ((σ.1 4) &&& (1 : Int32))) + (6 : Int32) → wp_X5_addDecimal_37 σ a1 ((v12 &&& (15 : Int32)) + (16 : Int32)) Φ)))
set_option maxHeartbeats 4000000 in
set_option maxRecDepth 100000 in
theorem c_X5_addDecimal (l : Launch) (dC : Nat → ClassId) (dI : Nat → Nat → Nat) (cI cJ : ClassId) (h : Nat → Nat) (sz : Nat) {σ : S_Proc} {a1 : Int32} {Φ : S_Proc → Prop} (hok : wp_X5_addDecimal σ a1 Φ) : Met l yX5_addDecimal wsX5_addDecimal ({ frames := 1, cells := 0, slots := 0, locals := 22 }) (va_Pc [.ref (h 1), .int a1] (cpre dC dI cI cJ (w_Proc h cI cJ σ) sz)) (va_Qv Φ (fun u => cpost dC dI cI cJ (va_A (w_Proc h cI cJ σ) sz) (w_Proc h cI cJ u)) (va_A (w_Proc h cI cJ σ) sz)) 0 0 (va_A (w_Proc h cI cJ σ) sz) := by
  refine Met.ofW (cc := cX5_addDecimal) (maxL := 4) (ret := none) (by decide) rfl ?_
  intro p e s m args below meth c s₁ B hml hv
  obtain ⟨rfl, hsz, hP, hK, hD0⟩ := hv
  have hx := B.exec
  have hb := B.bytes
  have hr := B.returns
  have hts := atoms_spec (ws := wsX5_addDecimal) B.pre
  have hown : s.vm.findClass RX5 = some m.cls := findClass_of_methodNamed B.named
  have hlocks := B.notSynchronized
  subst hsz
  have hD := hD0.self (sz := s.heap.size)
  generalize hAe : va_A (w_Proc h cI cJ σ) s.heap.size = A at hD ⊢
  have hA : ∀ q : Nat, s.heap.size ≤ q → A q := fun q h => by rw [← hAe]; exact Or.inr h
  clear hD0 hAe
  have hS : va_S A s.heap s.heap [] := va_S.rf
  have b90 : ∀ (σ : S_Proc) (x3 : Int32) (s1 : Int32) (s2 : Int32), wp_X5_addDecimal_90 σ x3 s1 s2 Φ → ∀ (H : Heap) (locs : List Loc), va_P (dC, dI) vwCl (w_Proc h cI cJ σ) H → va_D A (w_Proc h cI cJ σ) → va_S A s.heap H locs → ∀ ls : Array Slot, lv_has ls 4 [(0, .ref (h 1)), (3, .int x3)] → W p l e (headSpec wsX5_addDecimal { frames := 1, cells := 0, slots := 0, locals := 22 }).room s m ([.ref (h 1), .int a1] : List Value).toArray below meth c H locs 0 0 (MQ below (va_Qv Φ (fun u => cpost dC dI cI cJ A (w_Proc h cI cJ u)) A) ([.ref (h 1), .int a1] : List Value).toArray s 0 0 A) (F0 m 90 ls [.int s2, .int s1, .ref (h 1)]) := by
    intro σ x3 s1 s2 hok H locs hP hD hS ls hl
    unfold wp_X5_addDecimal_90 at hok
    have hPc := hP
    have hDc := hD
    have hFc := va_free (wc := w_Proc h cI cJ σ) hD hS hA [0, 1, 2, 3, 4, 5, 6, 7, 8, 9] rfl
    refine va_callv (va_runV (As := [.int s1, .int s2]) (rest := []) ⟨hx, hb, hml, hown, hts⟩ (c_X5_mark l dC dI cI cJ h _ hok) (cwV 2 hts (tb_gV tw_2_161 tw_2_163 tw_p_15 tw_1_6 tw_2_164) rfl rfl rfl (by decide +kernel) ⟨Nat.le_of_ble_eq_true rfl, Nat.le_of_ble_eq_true rfl⟩) (cpre_V (ci := 4) (q0 := 0) hK hPc hDc rfl rfl) rfl rfl hl.1 rfl (lv_room (Nat.le_of_ble_eq_true rfl)) dX5_addDecimal_90 ⟨Nat.le_of_ble_eq_true rfl, Nat.le_of_ble_eq_true rfl⟩) hS (fun q _ h => hFc q h) hFc (fun u1 t H1 locs ht hvm hok hB hz1 hk1 hS => ?_)
    obtain ⟨hP, hD⟩ := cjoin_w ht hB hFc
    refine lv_aload_n hx hb dX5_addDecimal_93 rfl (lv_at hl 0 rfl) ?_
    refine lv_aload_n hx hb dX5_addDecimal_94 rfl (lv_at hl 0 rfl) ?_
    refine lv_iload_n hx hb dX5_addDecimal_95 rfl (lv_at hl 1 rfl) ?_
    have hPc := hP
    have hDc := hD
    have hFc := va_free (wc := w_Proc h cI cJ u1) hD hS hA [0, 1, 2, 3, 4, 5, 6, 7, 8, 9] rfl
    refine va_calli (va_runV (As := [.int x3]) (rest := [.ref (h 1)]) ⟨hx, hb, hml, hown, hts⟩ (c_X5_shown l dC dI cI cJ h _ hok) (cwV 1 hts (tb_gV tw_2_153 tw_2_155 tw_p_13 tw_1_6 tw_2_156) rfl rfl rfl (by decide +kernel) ⟨Nat.le_of_ble_eq_true rfl, Nat.le_of_ble_eq_true rfl⟩) (cpre_V (ci := 4) (q0 := 0) hK hPc hDc rfl rfl) rfl rfl hl.1 rfl (lv_room (Nat.le_of_ble_eq_true rfl)) dX5_addDecimal_96 ⟨Nat.le_of_ble_eq_true rfl, Nat.le_of_ble_eq_true rfl⟩) hS (fun q _ h => hFc q h) hFc (fun r2 u3 t H1 locs ht hvm hok hB hz1 hk1 hS => ?_)
    obtain ⟨hP, hD⟩ := cjoin_w ht hB hFc
    refine va_put (D := (dC, dI)) (ci := 4) (v := .int r2) (ty := .int) (C := RX5) (T := TX5) (N := 15) hx hb hts (fun w h => List.mem_cons_of_mem _ (in_X5 w h)) tyX5 tyX5_ok nmX5 hown hK hP hD hS 0 rfl rfl 0 (by decide) (hts _ (List.mem_cons_of_mem _ tw_1_148)) (fun _ h9 => h9) rfl (by decide +kernel) rfl rfl (Nat.le_of_ble_eq_true rfl) dX5_addDecimal_99 (fun H locs hP hD hS => ?_)
    have hP : va_P (dC, dI) vwCl (w_Proc h cI cJ (upd u3.1 0 r2, u3.2.1, u3.2.2.1, u3.2.2.2)) _ := hP
    have hD : va_D A (w_Proc h cI cJ (upd u3.1 0 r2, u3.2.1, u3.2.2.1, u3.2.2.2)) := hD
    refine lv_aload_n hx hb dX5_addDecimal_102 rfl (lv_at hl 0 rfl) ?_
    refine lv_dup hx hb dX5_addDecimal_103 rfl ?_
    refine va_get (D := (dC, dI)) (ci := 4) (v := .int (u3.1 13)) (C := RX5) (T := TX5) (N := 15) hx hb hts (fun w h => List.mem_cons_of_mem _ (in_X5 w h)) hown hK hP 0 rfl rfl 13 (by decide) (hts _ (List.mem_cons_of_mem _ tw_1_172)) (fun _ h9 => h9) rfl dX5_addDecimal_104 ?_
    refine lv_iconst (v := 1) hx hb dX5_addDecimal_107 (by decide) ?_
    refine lv_iadd hx hb dX5_addDecimal_108 ?_
    refine va_put (D := (dC, dI)) (ci := 4) (v := .int ((u3.1 13) + (1 : Int32))) (ty := .int) (C := RX5) (T := TX5) (N := 15) hx hb hts (fun w h => List.mem_cons_of_mem _ (in_X5 w h)) tyX5 tyX5_ok nmX5 hown hK hP hD hS 0 rfl rfl 13 (by decide) (hts _ (List.mem_cons_of_mem _ tw_1_172)) (fun _ h9 => h9) rfl (by decide +kernel) rfl rfl (Nat.le_of_ble_eq_true rfl) dX5_addDecimal_109 (fun H locs hP hD hS => ?_)
    have hP : va_P (dC, dI) vwCl (w_Proc h cI cJ (upd (upd u3.1 0 r2) 13 ((u3.1 13) + (1 : Int32)), u3.2.1, u3.2.2.1, u3.2.2.2)) _ := hP
    have hD : va_D A (w_Proc h cI cJ (upd (upd u3.1 0 r2) 13 ((u3.1 13) + (1 : Int32)), u3.2.1, u3.2.2.1, u3.2.2.2)) := hD
    exact W.vret hx hb hr (fun t ht hW => ⟨⟨(upd (upd u3.1 0 r2) 13 ((u3.1 13) + (1 : Int32)), u3.2.1, u3.2.2.1, u3.2.2.2), rfl, hok, by rw [ht]; exact hP, va_K.moved hW.alike hK, hD⟩, hS.F ht⟩) hS.2.2 dX5_addDecimal_112
  have b76 : ∀ (σ : S_Proc) (x3 : Int32), wp_X5_addDecimal_76 σ x3 Φ → ∀ (H : Heap) (locs : List Loc), va_P (dC, dI) vwCl (w_Proc h cI cJ σ) H → va_D A (w_Proc h cI cJ σ) → va_S A s.heap H locs → ∀ ls : Array Slot, lv_has ls 4 [(0, .ref (h 1)), (3, .int x3)] → W p l e (headSpec wsX5_addDecimal { frames := 1, cells := 0, slots := 0, locals := 22 }).room s m ([.ref (h 1), .int a1] : List Value).toArray below meth c H locs 0 0 (MQ below (va_Qv Φ (fun u => cpost dC dI cI cJ A (w_Proc h cI cJ u)) A) ([.ref (h 1), .int a1] : List Value).toArray s 0 0 A) (F0 m 76 ls []) := by
    intro σ x3 hok H locs hP hD hS ls hl
    unfold wp_X5_addDecimal_76 at hok
    refine lv_aload_n hx hb dX5_addDecimal_76 rfl (lv_at hl 0 rfl) ?_
    refine lv_iconst (v := 1) hx hb dX5_addDecimal_77 (by decide) ?_
    refine lv_iload_n hx hb dX5_addDecimal_78 rfl (lv_at hl 1 rfl) ?_
    refine lv_sipush (v := 255) hx hb dX5_addDecimal_79 (by decide) ?_
    refine lv_icmp_le (tgt := 89) hx hb dX5_addDecimal_82 (by decide) (fun c4 => ?_) (fun c4 => ?_)
    · have hok := hok.1 c4
      refine lv_iconst (v := 0) hx hb dX5_addDecimal_89 (by decide) ?_
      exact b90 σ x3 1 0 hok _ _ hP hD hS _ (lv_sub hl [0, 1] rfl)
    · have hok := hok.2 c4
      refine lv_iconst (v := 1) hx hb dX5_addDecimal_85 (by decide) ?_
      refine lv_goto (tgt := 90) hx hb dX5_addDecimal_86 (by decide) ?_
      exact b90 σ x3 1 1 hok _ _ hP hD hS _ (lv_sub hl [0, 1] rfl)
  have b37 : ∀ (σ : S_Proc) (x1 : Int32) (x2 : Int32), wp_X5_addDecimal_37 σ x1 x2 Φ → ∀ (H : Heap) (locs : List Loc), va_P (dC, dI) vwCl (w_Proc h cI cJ σ) H → va_D A (w_Proc h cI cJ σ) → va_S A s.heap H locs → ∀ ls : Array Slot, lv_has ls 4 [(0, .ref (h 1)), (1, .int x1), (2, .int x2)] → W p l e (headSpec wsX5_addDecimal { frames := 1, cells := 0, slots := 0, locals := 22 }).room s m ([.ref (h 1), .int a1] : List Value).toArray below meth c H locs 0 0 (MQ below (va_Qv Φ (fun u => cpost dC dI cI cJ A (w_Proc h cI cJ u)) A) ([.ref (h 1), .int a1] : List Value).toArray s 0 0 A) (F0 m 37 ls []) := by
    intro σ x1 x2 hok H locs hP hD hS ls hl
    unfold wp_X5_addDecimal_37 at hok
    refine lv_aload_n hx hb dX5_addDecimal_37 rfl (lv_at hl 0 rfl) ?_
    refine va_get (D := (dC, dI)) (ci := 4) (v := .int (σ.1 0)) (C := RX5) (T := TX5) (N := 15) hx hb hts (fun w h => List.mem_cons_of_mem _ (in_X5 w h)) hown hK hP 0 rfl rfl 0 (by decide) (hts _ (List.mem_cons_of_mem _ tw_1_148)) (fun _ h9 => h9) rfl dX5_addDecimal_38 ?_
    refine lv_sipush (v := 240) hx hb dX5_addDecimal_41 (by decide) ?_
    refine lv_iand hx hb dX5_addDecimal_44 ?_
    refine lv_iload_n hx hb dX5_addDecimal_45 rfl (lv_at hl 1 rfl) ?_
    refine lv_sipush (v := 240) hx hb dX5_addDecimal_46 (by decide) ?_
    refine lv_iand hx hb dX5_addDecimal_49 ?_
    refine lv_iadd hx hb dX5_addDecimal_50 ?_
    refine lv_topi (fun v5 ev5 => ?_)
    have hok := hok v5 ev5
    refine lv_iload_n hx hb dX5_addDecimal_51 rfl (lv_at hl 2 rfl) ?_
    refine lv_iadd hx hb dX5_addDecimal_52 ?_
    refine lv_istore_n (lv' := [(3, .int (v5 + x2)), (0, .ref (h 1)), (1, .int x1), (2, .int x2)]) hx hb dX5_addDecimal_53 rfl hl (by decide) rfl (fun ls hl => ?_)
    refine lv_aload_n hx hb dX5_addDecimal_54 rfl (lv_at hl 1 rfl) ?_
    refine lv_bipush (v := 64) hx hb dX5_addDecimal_55 (by decide) ?_
    refine lv_aload_n hx hb dX5_addDecimal_57 rfl (lv_at hl 1 rfl) ?_
    refine lv_iload_n hx hb dX5_addDecimal_58 rfl (lv_at hl 2 rfl) ?_
    refine lv_iload_n hx hb dX5_addDecimal_59 rfl (lv_at hl 0 rfl) ?_
    have hPc := hP
    have hDc := hD
    have hFc := va_free (wc := w_Proc h cI cJ σ) hD hS hA [0, 1, 2, 3, 4, 5, 6, 7, 8, 9] rfl
    refine va_calli (va_runV (As := [.int x1, .int (v5 + x2)]) (rest := [.int 64, .ref (h 1)]) ⟨hx, hb, hml, hown, hts⟩ (c_X5_changesSign l dC dI cI cJ h _ hok) (cwV 2 hts (tb_gV tw_2_169 tw_2_171 tw_p_17 tw_1_6 tw_2_172) rfl rfl rfl (by decide +kernel) ⟨Nat.le_of_ble_eq_true rfl, Nat.le_of_ble_eq_true rfl⟩) (cpre_V (ci := 4) (q0 := 0) hK hPc hDc rfl rfl) rfl rfl hl.1 rfl (lv_room (Nat.le_of_ble_eq_true rfl)) dX5_addDecimal_60 ⟨Nat.le_of_ble_eq_true rfl, Nat.le_of_ble_eq_true rfl⟩) hS (fun q _ h => hFc q h) hFc (fun r6 _ t H1 locs ht hvm hok hB hz1 hk1 hS => ?_)
    obtain ⟨hP, hD⟩ := cjoin_w ht hB hFc
    have hPc := hP
    have hDc := hD
    have hFc := va_free (wc := w_Proc h cI cJ σ) hD hS hA [0, 1, 2, 3, 4, 5, 6, 7, 8, 9] rfl
    refine va_callv (va_runV (As := [.int 64, .int r6]) (rest := []) ⟨hx, hb, hml, hown, hts⟩ (c_X5_mark l dC dI cI cJ h _ hok) (cwV 2 hts (tb_gV tw_2_161 tw_2_163 tw_p_15 tw_1_6 tw_2_164) rfl rfl rfl (by decide +kernel) ⟨Nat.le_of_ble_eq_true rfl, Nat.le_of_ble_eq_true rfl⟩) (cpre_V (ci := 4) (q0 := 0) hK hPc hDc rfl rfl) rfl rfl hl.1 rfl (lv_room (Nat.le_of_ble_eq_true rfl)) dX5_addDecimal_63 ⟨Nat.le_of_ble_eq_true rfl, Nat.le_of_ble_eq_true rfl⟩) hS (fun q _ h => hFc q h) hFc (fun u7 t H1 locs ht hvm hok hB hz1 hk1 hS => ?_)
    obtain ⟨hP, hD⟩ := cjoin_w ht hB hFc
    refine lv_iload_n hx hb dX5_addDecimal_66 rfl (lv_at hl 0 rfl) ?_
    refine lv_sipush (v := 159) hx hb dX5_addDecimal_67 (by decide) ?_
    refine lv_icmp_le (tgt := 76) hx hb dX5_addDecimal_70 (by decide) (fun c8 => ?_) (fun c8 => ?_)
    · have hok := hok.1 c8
      exact b76 u7 (v5 + x2) hok _ _ hP hD hS _ (lv_sub hl [1, 0] rfl)
    · have hok := hok.2 c8
      obtain ⟨v9, ev9⟩ : ∃ y : Int32, y = (v5 + x2) + 96 := ⟨_, rfl⟩
      have hok := hok v9 ev9
      refine lv_iinc (v := v9) (lv' := [(3, .int v9), (0, .ref (h 1)), (1, .int x1), (2, .int x2)]) hx hb dX5_addDecimal_73 hl (k := 0) rfl (by rw [ev9]; rfl) (by decide) rfl (fun ls hl => ?_)
      exact b76 u7 v9 hok _ _ hP hD hS _ (lv_sub hl [1, 0] rfl)
  have hl := lv_entry ([.ref (h 1), .int a1]) (n := 4) (Nat.le_of_ble_eq_true rfl)
  rw [lg_entry_eq]
  generalize (lg_sl ([.ref (h 1), .int a1]) ++ List.replicate (4 - (lg_sl ([.ref (h 1), .int a1])).length) Slot.unset).toArray = ls at hl ⊢
  have hl : lv_has ls 4 [(0, .ref (h 1)), (1, .int a1)] := hl
  unfold wp_X5_addDecimal at hok
  refine lv_aload_n hx hb dX5_addDecimal_0 rfl (lv_at hl 0 rfl) ?_
  refine va_get (D := (dC, dI)) (ci := 4) (v := .int (σ.1 0)) (C := RX5) (T := TX5) (N := 15) hx hb hts (fun w h => List.mem_cons_of_mem _ (in_X5 w h)) hown hK hP 0 rfl rfl 0 (by decide) (hts _ (List.mem_cons_of_mem _ tw_1_148)) (fun _ h9 => h9) rfl dX5_addDecimal_1 ?_
  refine lv_bipush (v := 15) hx hb dX5_addDecimal_4 (by decide) ?_
  refine lv_iand hx hb dX5_addDecimal_6 ?_
  refine lv_iload_n hx hb dX5_addDecimal_7 rfl (lv_at hl 1 rfl) ?_
  refine lv_bipush (v := 15) hx hb dX5_addDecimal_8 (by decide) ?_
  refine lv_iand hx hb dX5_addDecimal_10 ?_
  refine lv_iadd hx hb dX5_addDecimal_11 ?_
  refine lv_topi (fun v10 ev10 => ?_)
  have hok := hok v10 ev10
  refine lv_aload_n hx hb dX5_addDecimal_12 rfl (lv_at hl 0 rfl) ?_
  refine va_get (D := (dC, dI)) (ci := 4) (v := .int (σ.1 4)) (C := RX5) (T := TX5) (N := 15) hx hb hts (fun w h => List.mem_cons_of_mem _ (in_X5 w h)) hown hK hP 0 rfl rfl 4 (by decide) (hts _ (List.mem_cons_of_mem _ tw_1_155)) (fun _ h9 => h9) rfl dX5_addDecimal_13 ?_
  refine lv_iconst (v := 1) hx hb dX5_addDecimal_16 (by decide) ?_
  refine lv_iand hx hb dX5_addDecimal_17 ?_
  refine lv_iadd hx hb dX5_addDecimal_18 ?_
  refine lv_istore_n (lv' := [(2, .int (v10 + ((σ.1 4) &&& (1 : Int32)))), (0, .ref (h 1)), (1, .int a1)]) hx hb dX5_addDecimal_19 rfl hl (by decide) rfl (fun ls hl => ?_)
  refine lv_iload_n hx hb dX5_addDecimal_20 rfl (lv_at hl 0 rfl) ?_
  refine lv_bipush (v := 9) hx hb dX5_addDecimal_21 (by decide) ?_
  refine lv_icmp_le (tgt := 37) hx hb dX5_addDecimal_23 (by decide) (fun c11 => ?_) (fun c11 => ?_)
  · have hok := hok.1 c11
    exact b37 σ a1 (v10 + ((σ.1 4) &&& (1 : Int32))) hok _ _ hP hD hS _ (lv_sub hl [1, 2, 0] rfl)
  · have hok := hok.2 c11
    refine lv_iload_n hx hb dX5_addDecimal_26 rfl (lv_at hl 0 rfl) ?_
    refine lv_bipush (v := 6) hx hb dX5_addDecimal_27 (by decide) ?_
    refine lv_iadd hx hb dX5_addDecimal_29 ?_
    refine lv_topi (fun v12 ev12 => ?_)
    have hok := hok v12 ev12
    refine lv_bipush (v := 15) hx hb dX5_addDecimal_30 (by decide) ?_
    refine lv_iand hx hb dX5_addDecimal_32 ?_
    refine lv_bipush (v := 16) hx hb dX5_addDecimal_33 (by decide) ?_
    refine lv_iadd hx hb dX5_addDecimal_35 ?_
    refine lv_istore_n (lv' := [(2, .int ((v12 &&& (15 : Int32)) + (16 : Int32))), (0, .ref (h 1)), (1, .int a1)]) hx hb dX5_addDecimal_36 rfl hl (by decide) rfl (fun ls hl => ?_)
    exact b37 σ a1 ((v12 &&& (15 : Int32)) + (16 : Int32)) hok _ _ hP hD hS _ (lv_sub hl [1, 2, 0] rfl)
def wp_X5_add (σ : S_Proc) (a1 : Int32) (Φ : S_Proc → Prop) : Prop := wp_X5_changesSign σ a1 (((σ.1 0) + a1) + ((σ.1 4) &&& (1 : Int32))) (fun r1 => wp_X5_mark σ 64 r1 (fun u2 => (((((σ.1 0) + a1) + ((σ.1 4) &&& (1 : Int32))) ≤ (255 : Int32) → (wp_X5_mark u2 1 0 (fun u4 => wp_X5_shown u4 (((σ.1 0) + a1) + ((σ.1 4) &&& (1 : Int32))) (fun r5 u6 => Φ (upd u6.1 0 r5, u6.2.1, u6.2.2.1, u6.2.2.2))))) ∧ (¬ (((σ.1 0) + a1) + ((σ.1 4) &&& (1 : Int32))) ≤ (255 : Int32) → (wp_X5_mark u2 1 1 (fun u7 => wp_X5_shown u7 (((σ.1 0) + a1) + ((σ.1 4) &&& (1 : Int32))) (fun r8 u9 => Φ (upd u9.1 0 r8, u9.2.1, u9.2.2.1, u9.2.2.2))))))))
set_option maxHeartbeats 4000000 in
set_option maxRecDepth 100000 in
theorem c_X5_add (l : Launch) (dC : Nat → ClassId) (dI : Nat → Nat → Nat) (cI cJ : ClassId) (h : Nat → Nat) (sz : Nat) {σ : S_Proc} {a1 : Int32} {Φ : S_Proc → Prop} (hok : wp_X5_add σ a1 Φ) : Met l yX5_add wsX5_add ({ frames := 1, cells := 0, slots := 0, locals := 22 }) (va_Pc [.ref (h 1), .int a1] (cpre dC dI cI cJ (w_Proc h cI cJ σ) sz)) (va_Qv Φ (fun u => cpost dC dI cI cJ (va_A (w_Proc h cI cJ σ) sz) (w_Proc h cI cJ u)) (va_A (w_Proc h cI cJ σ) sz)) 0 0 (va_A (w_Proc h cI cJ σ) sz) := by
  refine Met.ofW (cc := cX5_add) (maxL := 3) (ret := none) (by decide) rfl ?_
  intro p e s m args below meth c s₁ B hml hv
  obtain ⟨rfl, hsz, hP, hK, hD0⟩ := hv
  have hx := B.exec
  have hb := B.bytes
  have hr := B.returns
  have hts := atoms_spec (ws := wsX5_add) B.pre
  have hown : s.vm.findClass RX5 = some m.cls := findClass_of_methodNamed B.named
  have hlocks := B.notSynchronized
  subst hsz
  have hD := hD0.self (sz := s.heap.size)
  generalize hAe : va_A (w_Proc h cI cJ σ) s.heap.size = A at hD ⊢
  have hA : ∀ q : Nat, s.heap.size ≤ q → A q := fun q h => by rw [← hAe]; exact Or.inr h
  clear hD0 hAe
  have hS : va_S A s.heap s.heap [] := va_S.rf
  have hl := lv_entry ([.ref (h 1), .int a1]) (n := 3) (Nat.le_of_ble_eq_true rfl)
  rw [lg_entry_eq]
  generalize (lg_sl ([.ref (h 1), .int a1]) ++ List.replicate (3 - (lg_sl ([.ref (h 1), .int a1])).length) Slot.unset).toArray = ls at hl ⊢
  have hl : lv_has ls 3 [(0, .ref (h 1)), (1, .int a1)] := hl
  unfold wp_X5_add at hok
  refine lv_aload_n hx hb dX5_add_0 rfl (lv_at hl 0 rfl) ?_
  refine va_get (D := (dC, dI)) (ci := 4) (v := .int (σ.1 0)) (C := RX5) (T := TX5) (N := 15) hx hb hts (fun w h => List.mem_cons_of_mem _ (in_X5 w h)) hown hK hP 0 rfl rfl 0 (by decide) (hts _ (List.mem_cons_of_mem _ tw_1_148)) (fun _ h9 => h9) rfl dX5_add_1 ?_
  refine lv_iload_n hx hb dX5_add_4 rfl (lv_at hl 1 rfl) ?_
  refine lv_iadd hx hb dX5_add_5 ?_
  refine lv_aload_n hx hb dX5_add_6 rfl (lv_at hl 0 rfl) ?_
  refine va_get (D := (dC, dI)) (ci := 4) (v := .int (σ.1 4)) (C := RX5) (T := TX5) (N := 15) hx hb hts (fun w h => List.mem_cons_of_mem _ (in_X5 w h)) hown hK hP 0 rfl rfl 4 (by decide) (hts _ (List.mem_cons_of_mem _ tw_1_155)) (fun _ h9 => h9) rfl dX5_add_7 ?_
  refine lv_iconst (v := 1) hx hb dX5_add_10 (by decide) ?_
  refine lv_iand hx hb dX5_add_11 ?_
  refine lv_iadd hx hb dX5_add_12 ?_
  refine lv_istore_n (lv' := [(2, .int (((σ.1 0) + a1) + ((σ.1 4) &&& (1 : Int32)))), (0, .ref (h 1)), (1, .int a1)]) hx hb dX5_add_13 rfl hl (by decide) rfl (fun ls hl => ?_)
  refine lv_aload_n hx hb dX5_add_14 rfl (lv_at hl 1 rfl) ?_
  refine lv_bipush (v := 64) hx hb dX5_add_15 (by decide) ?_
  refine lv_aload_n hx hb dX5_add_17 rfl (lv_at hl 1 rfl) ?_
  refine lv_iload_n hx hb dX5_add_18 rfl (lv_at hl 2 rfl) ?_
  refine lv_iload_n hx hb dX5_add_19 rfl (lv_at hl 0 rfl) ?_
  have hPc := hP
  have hDc := hD
  have hFc := va_free (wc := w_Proc h cI cJ σ) hD hS hA [0, 1, 2, 3, 4, 5, 6, 7, 8, 9] rfl
  refine va_calli (va_runV (As := [.int a1, .int (((σ.1 0) + a1) + ((σ.1 4) &&& (1 : Int32)))]) (rest := [.int 64, .ref (h 1)]) ⟨hx, hb, hml, hown, hts⟩ (c_X5_changesSign l dC dI cI cJ h _ hok) (cwV 2 hts (tb_gV tw_2_169 tw_2_171 tw_p_17 tw_1_6 tw_2_172) rfl rfl rfl (by decide +kernel) ⟨Nat.le_of_ble_eq_true rfl, Nat.le_of_ble_eq_true rfl⟩) (cpre_V (ci := 4) (q0 := 0) hK hPc hDc rfl rfl) rfl rfl hl.1 rfl (lv_room (Nat.le_of_ble_eq_true rfl)) dX5_add_20 ⟨Nat.le_of_ble_eq_true rfl, Nat.le_of_ble_eq_true rfl⟩) hS (fun q _ h => hFc q h) hFc (fun r1 _ t H1 locs ht hvm hok hB hz1 hk1 hS => ?_)
  obtain ⟨hP, hD⟩ := cjoin_w ht hB hFc
  have hPc := hP
  have hDc := hD
  have hFc := va_free (wc := w_Proc h cI cJ σ) hD hS hA [0, 1, 2, 3, 4, 5, 6, 7, 8, 9] rfl
  refine va_callv (va_runV (As := [.int 64, .int r1]) (rest := []) ⟨hx, hb, hml, hown, hts⟩ (c_X5_mark l dC dI cI cJ h _ hok) (cwV 2 hts (tb_gV tw_2_161 tw_2_163 tw_p_15 tw_1_6 tw_2_164) rfl rfl rfl (by decide +kernel) ⟨Nat.le_of_ble_eq_true rfl, Nat.le_of_ble_eq_true rfl⟩) (cpre_V (ci := 4) (q0 := 0) hK hPc hDc rfl rfl) rfl rfl hl.1 rfl (lv_room (Nat.le_of_ble_eq_true rfl)) dX5_add_23 ⟨Nat.le_of_ble_eq_true rfl, Nat.le_of_ble_eq_true rfl⟩) hS (fun q _ h => hFc q h) hFc (fun u2 t H1 locs ht hvm hok hB hz1 hk1 hS => ?_)
  obtain ⟨hP, hD⟩ := cjoin_w ht hB hFc
  refine lv_aload_n hx hb dX5_add_26 rfl (lv_at hl 1 rfl) ?_
  refine lv_iconst (v := 1) hx hb dX5_add_27 (by decide) ?_
  refine lv_iload_n hx hb dX5_add_28 rfl (lv_at hl 0 rfl) ?_
  refine lv_sipush (v := 255) hx hb dX5_add_29 (by decide) ?_
  refine lv_icmp_le (tgt := 39) hx hb dX5_add_32 (by decide) (fun c3 => ?_) (fun c3 => ?_)
  · have hok := hok.1 c3
    refine lv_iconst (v := 0) hx hb dX5_add_39 (by decide) ?_
    have hPc := hP
    have hDc := hD
    have hFc := va_free (wc := w_Proc h cI cJ u2) hD hS hA [0, 1, 2, 3, 4, 5, 6, 7, 8, 9] rfl
    refine va_callv (va_runV (As := [.int 1, .int 0]) (rest := []) ⟨hx, hb, hml, hown, hts⟩ (c_X5_mark l dC dI cI cJ h _ hok) (cwV 2 hts (tb_gV tw_2_161 tw_2_163 tw_p_15 tw_1_6 tw_2_164) rfl rfl rfl (by decide +kernel) ⟨Nat.le_of_ble_eq_true rfl, Nat.le_of_ble_eq_true rfl⟩) (cpre_V (ci := 4) (q0 := 0) hK hPc hDc rfl rfl) rfl rfl hl.1 rfl (lv_room (Nat.le_of_ble_eq_true rfl)) dX5_add_40 ⟨Nat.le_of_ble_eq_true rfl, Nat.le_of_ble_eq_true rfl⟩) hS (fun q _ h => hFc q h) hFc (fun u4 t H1 locs ht hvm hok hB hz1 hk1 hS => ?_)
    obtain ⟨hP, hD⟩ := cjoin_w ht hB hFc
    refine lv_aload_n hx hb dX5_add_43 rfl (lv_at hl 1 rfl) ?_
    refine lv_aload_n hx hb dX5_add_44 rfl (lv_at hl 1 rfl) ?_
    refine lv_iload_n hx hb dX5_add_45 rfl (lv_at hl 0 rfl) ?_
    have hPc := hP
    have hDc := hD
    have hFc := va_free (wc := w_Proc h cI cJ u4) hD hS hA [0, 1, 2, 3, 4, 5, 6, 7, 8, 9] rfl
    refine va_calli (va_runV (As := [.int (((σ.1 0) + a1) + ((σ.1 4) &&& (1 : Int32)))]) (rest := [.ref (h 1)]) ⟨hx, hb, hml, hown, hts⟩ (c_X5_shown l dC dI cI cJ h _ hok) (cwV 1 hts (tb_gV tw_2_153 tw_2_155 tw_p_13 tw_1_6 tw_2_156) rfl rfl rfl (by decide +kernel) ⟨Nat.le_of_ble_eq_true rfl, Nat.le_of_ble_eq_true rfl⟩) (cpre_V (ci := 4) (q0 := 0) hK hPc hDc rfl rfl) rfl rfl hl.1 rfl (lv_room (Nat.le_of_ble_eq_true rfl)) dX5_add_46 ⟨Nat.le_of_ble_eq_true rfl, Nat.le_of_ble_eq_true rfl⟩) hS (fun q _ h => hFc q h) hFc (fun r5 u6 t H1 locs ht hvm hok hB hz1 hk1 hS => ?_)
    obtain ⟨hP, hD⟩ := cjoin_w ht hB hFc
    refine va_put (D := (dC, dI)) (ci := 4) (v := .int r5) (ty := .int) (C := RX5) (T := TX5) (N := 15) hx hb hts (fun w h => List.mem_cons_of_mem _ (in_X5 w h)) tyX5 tyX5_ok nmX5 hown hK hP hD hS 0 rfl rfl 0 (by decide) (hts _ (List.mem_cons_of_mem _ tw_1_148)) (fun _ h9 => h9) rfl (by decide +kernel) rfl rfl (Nat.le_of_ble_eq_true rfl) dX5_add_49 (fun H locs hP hD hS => ?_)
    have hP : va_P (dC, dI) vwCl (w_Proc h cI cJ (upd u6.1 0 r5, u6.2.1, u6.2.2.1, u6.2.2.2)) _ := hP
    have hD : va_D A (w_Proc h cI cJ (upd u6.1 0 r5, u6.2.1, u6.2.2.1, u6.2.2.2)) := hD
    exact W.vret hx hb hr (fun t ht hW => ⟨⟨(upd u6.1 0 r5, u6.2.1, u6.2.2.1, u6.2.2.2), rfl, hok, by rw [ht]; exact hP, va_K.moved hW.alike hK, hD⟩, hS.F ht⟩) hS.2.2 dX5_add_52
  · have hok := hok.2 c3
    refine lv_iconst (v := 1) hx hb dX5_add_35 (by decide) ?_
    refine lv_goto (tgt := 40) hx hb dX5_add_36 (by decide) ?_
    have hPc := hP
    have hDc := hD
    have hFc := va_free (wc := w_Proc h cI cJ u2) hD hS hA [0, 1, 2, 3, 4, 5, 6, 7, 8, 9] rfl
    refine va_callv (va_runV (As := [.int 1, .int 1]) (rest := []) ⟨hx, hb, hml, hown, hts⟩ (c_X5_mark l dC dI cI cJ h _ hok) (cwV 2 hts (tb_gV tw_2_161 tw_2_163 tw_p_15 tw_1_6 tw_2_164) rfl rfl rfl (by decide +kernel) ⟨Nat.le_of_ble_eq_true rfl, Nat.le_of_ble_eq_true rfl⟩) (cpre_V (ci := 4) (q0 := 0) hK hPc hDc rfl rfl) rfl rfl hl.1 rfl (lv_room (Nat.le_of_ble_eq_true rfl)) dX5_add_40 ⟨Nat.le_of_ble_eq_true rfl, Nat.le_of_ble_eq_true rfl⟩) hS (fun q _ h => hFc q h) hFc (fun u7 t H1 locs ht hvm hok hB hz1 hk1 hS => ?_)
    obtain ⟨hP, hD⟩ := cjoin_w ht hB hFc
    refine lv_aload_n hx hb dX5_add_43 rfl (lv_at hl 1 rfl) ?_
    refine lv_aload_n hx hb dX5_add_44 rfl (lv_at hl 1 rfl) ?_
    refine lv_iload_n hx hb dX5_add_45 rfl (lv_at hl 0 rfl) ?_
    have hPc := hP
    have hDc := hD
    have hFc := va_free (wc := w_Proc h cI cJ u7) hD hS hA [0, 1, 2, 3, 4, 5, 6, 7, 8, 9] rfl
    refine va_calli (va_runV (As := [.int (((σ.1 0) + a1) + ((σ.1 4) &&& (1 : Int32)))]) (rest := [.ref (h 1)]) ⟨hx, hb, hml, hown, hts⟩ (c_X5_shown l dC dI cI cJ h _ hok) (cwV 1 hts (tb_gV tw_2_153 tw_2_155 tw_p_13 tw_1_6 tw_2_156) rfl rfl rfl (by decide +kernel) ⟨Nat.le_of_ble_eq_true rfl, Nat.le_of_ble_eq_true rfl⟩) (cpre_V (ci := 4) (q0 := 0) hK hPc hDc rfl rfl) rfl rfl hl.1 rfl (lv_room (Nat.le_of_ble_eq_true rfl)) dX5_add_46 ⟨Nat.le_of_ble_eq_true rfl, Nat.le_of_ble_eq_true rfl⟩) hS (fun q _ h => hFc q h) hFc (fun r8 u9 t H1 locs ht hvm hok hB hz1 hk1 hS => ?_)
    obtain ⟨hP, hD⟩ := cjoin_w ht hB hFc
    refine va_put (D := (dC, dI)) (ci := 4) (v := .int r8) (ty := .int) (C := RX5) (T := TX5) (N := 15) hx hb hts (fun w h => List.mem_cons_of_mem _ (in_X5 w h)) tyX5 tyX5_ok nmX5 hown hK hP hD hS 0 rfl rfl 0 (by decide) (hts _ (List.mem_cons_of_mem _ tw_1_148)) (fun _ h9 => h9) rfl (by decide +kernel) rfl rfl (Nat.le_of_ble_eq_true rfl) dX5_add_49 (fun H locs hP hD hS => ?_)
    have hP : va_P (dC, dI) vwCl (w_Proc h cI cJ (upd u9.1 0 r8, u9.2.1, u9.2.2.1, u9.2.2.2)) _ := hP
    have hD : va_D A (w_Proc h cI cJ (upd u9.1 0 r8, u9.2.1, u9.2.2.1, u9.2.2.2)) := hD
    exact W.vret hx hb hr (fun t ht hW => ⟨⟨(upd u9.1 0 r8, u9.2.1, u9.2.2.1, u9.2.2.2), rfl, hok, by rw [ht]; exact hP, va_K.moved hW.alike hK, hD⟩, hS.F ht⟩) hS.2.2 dX5_add_52
def wp_X5_subtractDecimal_49 (σ : S_Proc) (x1 : Int32) (x4 : Int32) (Φ : S_Proc → Prop) : Prop := wp_X5_add σ ((255 : Int32) - x1) (fun u1 => wp_X5_shown u1 x4 (fun r2 u3 => Φ (upd (upd u3.1 0 r2) 13 ((u3.1 13) + (1 : Int32)), u3.2.1, u3.2.2.1, u3.2.2.2)))
def wp_X5_subtractDecimal_42 (σ : S_Proc) (x1 : Int32) (x3 : Int32) (x4 : Int32) (Φ : S_Proc → Prop) : Prop := ((0 ≤ x3 → (wp_X5_subtractDecimal_49 σ x1 x4 Φ)) ∧ (¬ 0 ≤ x3 → (∀ v5 : Int32, v5 = x4 + (-6) → wp_X5_subtractDecimal_49 σ x1 v5 Φ)))
def wp_X5_subtractDecimal (σ : S_Proc) (a1 : Int32) (Φ : S_Proc → Prop) : Prop := ∀ v6 : Int32, v6 = ((σ.1 0) &&& (15 : Int32)) - (a1 &&& (15 : Int32)) → ∀ v7 : Int32, v7 = v6 - ((1 : Int32) - ((σ.1 4) &&& (1 : Int32))) → ∀ v8 : Int32, v8 = ((σ.1 0) - a1) - ((1 : Int32) - ((σ.1 4) &&& (1 : Int32))) → ((0 ≤ v8 → (wp_X5_subtractDecimal_42 σ a1 v7 v8 Φ)) ∧ (¬ 0 ≤ v8 → (∀ v10 : Int32, v10 = v8 + (-96) → wp_X5_subtractDecimal_42 σ a1 v7 v10 Φ)))
set_option maxHeartbeats 4000000 in
set_option maxRecDepth 100000 in
theorem c_X5_subtractDecimal (l : Launch) (dC : Nat → ClassId) (dI : Nat → Nat → Nat) (cI cJ : ClassId) (h : Nat → Nat) (sz : Nat) {σ : S_Proc} {a1 : Int32} {Φ : S_Proc → Prop} (hok : wp_X5_subtractDecimal σ a1 Φ) : Met l yX5_subtractDecimal wsX5_subtractDecimal ({ frames := 2, cells := 0, slots := 0, locals := 44 }) (va_Pc [.ref (h 1), .int a1] (cpre dC dI cI cJ (w_Proc h cI cJ σ) sz)) (va_Qv Φ (fun u => cpost dC dI cI cJ (va_A (w_Proc h cI cJ σ) sz) (w_Proc h cI cJ u)) (va_A (w_Proc h cI cJ σ) sz)) 0 0 (va_A (w_Proc h cI cJ σ) sz) := by
  refine Met.ofW (cc := cX5_subtractDecimal) (maxL := 5) (ret := none) (by decide) rfl ?_
  intro p e s m args below meth c s₁ B hml hv
  obtain ⟨rfl, hsz, hP, hK, hD0⟩ := hv
  have hx := B.exec
  have hb := B.bytes
  have hr := B.returns
  have hts := atoms_spec (ws := wsX5_subtractDecimal) B.pre
  have hown : s.vm.findClass RX5 = some m.cls := findClass_of_methodNamed B.named
  have hlocks := B.notSynchronized
  subst hsz
  have hD := hD0.self (sz := s.heap.size)
  generalize hAe : va_A (w_Proc h cI cJ σ) s.heap.size = A at hD ⊢
  have hA : ∀ q : Nat, s.heap.size ≤ q → A q := fun q h => by rw [← hAe]; exact Or.inr h
  clear hD0 hAe
  have hS : va_S A s.heap s.heap [] := va_S.rf
  have b49 : ∀ (σ : S_Proc) (x1 : Int32) (x4 : Int32), wp_X5_subtractDecimal_49 σ x1 x4 Φ → ∀ (H : Heap) (locs : List Loc), va_P (dC, dI) vwCl (w_Proc h cI cJ σ) H → va_D A (w_Proc h cI cJ σ) → va_S A s.heap H locs → ∀ ls : Array Slot, lv_has ls 5 [(0, .ref (h 1)), (1, .int x1), (4, .int x4)] → W p l e (headSpec wsX5_subtractDecimal { frames := 2, cells := 0, slots := 0, locals := 44 }).room s m ([.ref (h 1), .int a1] : List Value).toArray below meth c H locs 0 0 (MQ below (va_Qv Φ (fun u => cpost dC dI cI cJ A (w_Proc h cI cJ u)) A) ([.ref (h 1), .int a1] : List Value).toArray s 0 0 A) (F0 m 49 ls []) := by
    intro σ x1 x4 hok H locs hP hD hS ls hl
    unfold wp_X5_subtractDecimal_49 at hok
    refine lv_aload_n hx hb dX5_subtractDecimal_49 rfl (lv_at hl 0 rfl) ?_
    refine lv_sipush (v := 255) hx hb dX5_subtractDecimal_50 (by decide) ?_
    refine lv_iload_n hx hb dX5_subtractDecimal_53 rfl (lv_at hl 1 rfl) ?_
    refine lv_isub hx hb dX5_subtractDecimal_54 ?_
    have hPc := hP
    have hDc := hD
    have hFc := va_free (wc := w_Proc h cI cJ σ) hD hS hA [0, 1, 2, 3, 4, 5, 6, 7, 8, 9] rfl
    refine va_callv (va_runV (As := [.int ((255 : Int32) - x1)]) (rest := []) ⟨hx, hb, hml, hown, hts⟩ (c_X5_add l dC dI cI cJ h _ hok) (cwV 1 hts (tb_gV tw_2_173 tw_2_175 tw_p_18 tw_1_6 tw_2_176) rfl rfl rfl (by decide +kernel) ⟨Nat.le_of_ble_eq_true rfl, Nat.le_of_ble_eq_true rfl⟩) (cpre_V (ci := 4) (q0 := 0) hK hPc hDc rfl rfl) rfl rfl hl.1 rfl (lv_room (Nat.le_of_ble_eq_true rfl)) dX5_subtractDecimal_55 ⟨Nat.le_of_ble_eq_true rfl, Nat.le_of_ble_eq_true rfl⟩) hS (fun q _ h => hFc q h) hFc (fun u1 t H1 locs ht hvm hok hB hz1 hk1 hS => ?_)
    obtain ⟨hP, hD⟩ := cjoin_w ht hB hFc
    refine lv_aload_n hx hb dX5_subtractDecimal_58 rfl (lv_at hl 0 rfl) ?_
    refine lv_aload_n hx hb dX5_subtractDecimal_59 rfl (lv_at hl 0 rfl) ?_
    refine lv_iload hx hb dX5_subtractDecimal_60 (lv_at hl 2 rfl) ?_
    have hPc := hP
    have hDc := hD
    have hFc := va_free (wc := w_Proc h cI cJ u1) hD hS hA [0, 1, 2, 3, 4, 5, 6, 7, 8, 9] rfl
    refine va_calli (va_runV (As := [.int x4]) (rest := [.ref (h 1)]) ⟨hx, hb, hml, hown, hts⟩ (c_X5_shown l dC dI cI cJ h _ hok) (cwV 1 hts (tb_gV tw_2_153 tw_2_155 tw_p_13 tw_1_6 tw_2_156) rfl rfl rfl (by decide +kernel) ⟨Nat.le_of_ble_eq_true rfl, Nat.le_of_ble_eq_true rfl⟩) (cpre_V (ci := 4) (q0 := 0) hK hPc hDc rfl rfl) rfl rfl hl.1 rfl (lv_room (Nat.le_of_ble_eq_true rfl)) dX5_subtractDecimal_62 ⟨Nat.le_of_ble_eq_true rfl, Nat.le_of_ble_eq_true rfl⟩) hS (fun q _ h => hFc q h) hFc (fun r2 u3 t H1 locs ht hvm hok hB hz1 hk1 hS => ?_)
    obtain ⟨hP, hD⟩ := cjoin_w ht hB hFc
    refine va_put (D := (dC, dI)) (ci := 4) (v := .int r2) (ty := .int) (C := RX5) (T := TX5) (N := 15) hx hb hts (fun w h => List.mem_cons_of_mem _ (in_X5 w h)) tyX5 tyX5_ok nmX5 hown hK hP hD hS 0 rfl rfl 0 (by decide) (hts _ (List.mem_cons_of_mem _ tw_1_148)) (fun _ h9 => h9) rfl (by decide +kernel) rfl rfl (Nat.le_of_ble_eq_true rfl) dX5_subtractDecimal_65 (fun H locs hP hD hS => ?_)
    have hP : va_P (dC, dI) vwCl (w_Proc h cI cJ (upd u3.1 0 r2, u3.2.1, u3.2.2.1, u3.2.2.2)) _ := hP
    have hD : va_D A (w_Proc h cI cJ (upd u3.1 0 r2, u3.2.1, u3.2.2.1, u3.2.2.2)) := hD
    refine lv_aload_n hx hb dX5_subtractDecimal_68 rfl (lv_at hl 0 rfl) ?_
    refine lv_dup hx hb dX5_subtractDecimal_69 rfl ?_
    refine va_get (D := (dC, dI)) (ci := 4) (v := .int (u3.1 13)) (C := RX5) (T := TX5) (N := 15) hx hb hts (fun w h => List.mem_cons_of_mem _ (in_X5 w h)) hown hK hP 0 rfl rfl 13 (by decide) (hts _ (List.mem_cons_of_mem _ tw_1_172)) (fun _ h9 => h9) rfl dX5_subtractDecimal_70 ?_
    refine lv_iconst (v := 1) hx hb dX5_subtractDecimal_73 (by decide) ?_
    refine lv_iadd hx hb dX5_subtractDecimal_74 ?_
    refine va_put (D := (dC, dI)) (ci := 4) (v := .int ((u3.1 13) + (1 : Int32))) (ty := .int) (C := RX5) (T := TX5) (N := 15) hx hb hts (fun w h => List.mem_cons_of_mem _ (in_X5 w h)) tyX5 tyX5_ok nmX5 hown hK hP hD hS 0 rfl rfl 13 (by decide) (hts _ (List.mem_cons_of_mem _ tw_1_172)) (fun _ h9 => h9) rfl (by decide +kernel) rfl rfl (Nat.le_of_ble_eq_true rfl) dX5_subtractDecimal_75 (fun H locs hP hD hS => ?_)
    have hP : va_P (dC, dI) vwCl (w_Proc h cI cJ (upd (upd u3.1 0 r2) 13 ((u3.1 13) + (1 : Int32)), u3.2.1, u3.2.2.1, u3.2.2.2)) _ := hP
    have hD : va_D A (w_Proc h cI cJ (upd (upd u3.1 0 r2) 13 ((u3.1 13) + (1 : Int32)), u3.2.1, u3.2.2.1, u3.2.2.2)) := hD
    exact W.vret hx hb hr (fun t ht hW => ⟨⟨(upd (upd u3.1 0 r2) 13 ((u3.1 13) + (1 : Int32)), u3.2.1, u3.2.2.1, u3.2.2.2), rfl, hok, by rw [ht]; exact hP, va_K.moved hW.alike hK, hD⟩, hS.F ht⟩) hS.2.2 dX5_subtractDecimal_78
  have b42 : ∀ (σ : S_Proc) (x1 : Int32) (x3 : Int32) (x4 : Int32), wp_X5_subtractDecimal_42 σ x1 x3 x4 Φ → ∀ (H : Heap) (locs : List Loc), va_P (dC, dI) vwCl (w_Proc h cI cJ σ) H → va_D A (w_Proc h cI cJ σ) → va_S A s.heap H locs → ∀ ls : Array Slot, lv_has ls 5 [(0, .ref (h 1)), (1, .int x1), (3, .int x3), (4, .int x4)] → W p l e (headSpec wsX5_subtractDecimal { frames := 2, cells := 0, slots := 0, locals := 44 }).room s m ([.ref (h 1), .int a1] : List Value).toArray below meth c H locs 0 0 (MQ below (va_Qv Φ (fun u => cpost dC dI cI cJ A (w_Proc h cI cJ u)) A) ([.ref (h 1), .int a1] : List Value).toArray s 0 0 A) (F0 m 42 ls []) := by
    intro σ x1 x3 x4 hok H locs hP hD hS ls hl
    unfold wp_X5_subtractDecimal_42 at hok
    refine lv_iload_n hx hb dX5_subtractDecimal_42 rfl (lv_at hl 2 rfl) ?_
    refine lv_if_ge (tgt := 49) hx hb dX5_subtractDecimal_43 (by decide) (fun c4 => ?_) (fun c4 => ?_)
    · have hok := hok.1 c4
      exact b49 σ x1 x4 hok _ _ hP hD hS _ (lv_sub hl [0, 1, 3] rfl)
    · have hok := hok.2 c4
      obtain ⟨v5, ev5⟩ : ∃ y : Int32, y = x4 + (-6) := ⟨_, rfl⟩
      have hok := hok v5 ev5
      refine lv_iinc (v := v5) (lv' := [(4, .int v5), (0, .ref (h 1)), (1, .int x1), (3, .int x3)]) hx hb dX5_subtractDecimal_46 hl (k := 3) rfl (by rw [ev5]; rfl) (by decide) rfl (fun ls hl => ?_)
      exact b49 σ x1 v5 hok _ _ hP hD hS _ (lv_sub hl [1, 2, 0] rfl)
  have hl := lv_entry ([.ref (h 1), .int a1]) (n := 5) (Nat.le_of_ble_eq_true rfl)
  rw [lg_entry_eq]
  generalize (lg_sl ([.ref (h 1), .int a1]) ++ List.replicate (5 - (lg_sl ([.ref (h 1), .int a1])).length) Slot.unset).toArray = ls at hl ⊢
  have hl : lv_has ls 5 [(0, .ref (h 1)), (1, .int a1)] := hl
  unfold wp_X5_subtractDecimal at hok
  refine lv_iconst (v := 1) hx hb dX5_subtractDecimal_0 (by decide) ?_
  refine lv_aload_n hx hb dX5_subtractDecimal_1 rfl (lv_at hl 0 rfl) ?_
  refine va_get (D := (dC, dI)) (ci := 4) (v := .int (σ.1 4)) (C := RX5) (T := TX5) (N := 15) hx hb hts (fun w h => List.mem_cons_of_mem _ (in_X5 w h)) hown hK hP 0 rfl rfl 4 (by decide) (hts _ (List.mem_cons_of_mem _ tw_1_155)) (fun _ h9 => h9) rfl dX5_subtractDecimal_2 ?_
  refine lv_iconst (v := 1) hx hb dX5_subtractDecimal_5 (by decide) ?_
  refine lv_iand hx hb dX5_subtractDecimal_6 ?_
  refine lv_isub hx hb dX5_subtractDecimal_7 ?_
  refine lv_istore_n (lv' := [(2, .int ((1 : Int32) - ((σ.1 4) &&& (1 : Int32)))), (0, .ref (h 1)), (1, .int a1)]) hx hb dX5_subtractDecimal_8 rfl hl (by decide) rfl (fun ls hl => ?_)
  refine lv_aload_n hx hb dX5_subtractDecimal_9 rfl (lv_at hl 1 rfl) ?_
  refine va_get (D := (dC, dI)) (ci := 4) (v := .int (σ.1 0)) (C := RX5) (T := TX5) (N := 15) hx hb hts (fun w h => List.mem_cons_of_mem _ (in_X5 w h)) hown hK hP 0 rfl rfl 0 (by decide) (hts _ (List.mem_cons_of_mem _ tw_1_148)) (fun _ h9 => h9) rfl dX5_subtractDecimal_10 ?_
  refine lv_bipush (v := 15) hx hb dX5_subtractDecimal_13 (by decide) ?_
  refine lv_iand hx hb dX5_subtractDecimal_15 ?_
  refine lv_iload_n hx hb dX5_subtractDecimal_16 rfl (lv_at hl 2 rfl) ?_
  refine lv_bipush (v := 15) hx hb dX5_subtractDecimal_17 (by decide) ?_
  refine lv_iand hx hb dX5_subtractDecimal_19 ?_
  refine lv_isub hx hb dX5_subtractDecimal_20 ?_
  refine lv_topi (fun v6 ev6 => ?_)
  have hok := hok v6 ev6
  refine lv_iload_n hx hb dX5_subtractDecimal_21 rfl (lv_at hl 0 rfl) ?_
  refine lv_isub hx hb dX5_subtractDecimal_22 ?_
  refine lv_topi (fun v7 ev7 => ?_)
  have hok := hok v7 ev7
  refine lv_istore_n (lv' := [(3, .int v7), (2, .int ((1 : Int32) - ((σ.1 4) &&& (1 : Int32)))), (0, .ref (h 1)), (1, .int a1)]) hx hb dX5_subtractDecimal_23 rfl hl (by decide) rfl (fun ls hl => ?_)
  refine lv_aload_n hx hb dX5_subtractDecimal_24 rfl (lv_at hl 2 rfl) ?_
  refine va_get (D := (dC, dI)) (ci := 4) (v := .int (σ.1 0)) (C := RX5) (T := TX5) (N := 15) hx hb hts (fun w h => List.mem_cons_of_mem _ (in_X5 w h)) hown hK hP 0 rfl rfl 0 (by decide) (hts _ (List.mem_cons_of_mem _ tw_1_148)) (fun _ h9 => h9) rfl dX5_subtractDecimal_25 ?_
  refine lv_iload_n hx hb dX5_subtractDecimal_28 rfl (lv_at hl 3 rfl) ?_
  refine lv_isub hx hb dX5_subtractDecimal_29 ?_
  refine lv_iload_n hx hb dX5_subtractDecimal_30 rfl (lv_at hl 1 rfl) ?_
  refine lv_isub hx hb dX5_subtractDecimal_31 ?_
  refine lv_topi (fun v8 ev8 => ?_)
  have hok := hok v8 ev8
  refine lv_istore (lv' := [(4, .int v8), (3, .int v7), (2, .int ((1 : Int32) - ((σ.1 4) &&& (1 : Int32)))), (0, .ref (h 1)), (1, .int a1)]) hx hb dX5_subtractDecimal_32 hl (by decide) rfl (fun ls hl => ?_)
  refine lv_iload hx hb dX5_subtractDecimal_34 (lv_at hl 0 rfl) ?_
  refine lv_if_ge (tgt := 42) hx hb dX5_subtractDecimal_36 (by decide) (fun c9 => ?_) (fun c9 => ?_)
  · have hok := hok.1 c9
    exact b42 σ a1 v7 v8 hok _ _ hP hD hS _ (lv_sub hl [3, 4, 1, 0] rfl)
  · have hok := hok.2 c9
    obtain ⟨v10, ev10⟩ : ∃ y : Int32, y = v8 + (-96) := ⟨_, rfl⟩
    have hok := hok v10 ev10
    refine lv_iinc (v := v10) (lv' := [(4, .int v10), (3, .int v7), (2, .int ((1 : Int32) - ((σ.1 4) &&& (1 : Int32)))), (0, .ref (h 1)), (1, .int a1)]) hx hb dX5_subtractDecimal_39 hl (k := 0) rfl (by rw [ev10]; rfl) (by decide) rfl (fun ls hl => ?_)
    exact b42 σ a1 v7 v10 hok _ _ hP hD hS _ (lv_sub hl [3, 4, 1, 0] rfl)
def wp_X5_use_259 (σ : S_Proc) (x2 : Int32) (s1 : Int32) (s2 : Int32) (Φ : S_Proc → Prop) : Prop := wp_X5_mark σ s1 s2 (fun u1 => ∀ v2 : Int32, v2 = ((u1.1 4) &&& (-193 : Int32)) ||| (x2 &&& (192 : Int32)) → Φ (upd u1.1 4 v2, u1.2.1, u1.2.2.1, u1.2.2.2))
def wp_X5_use (σ : S_Proc) (a1 : Int32) (a2 : Int32) (Φ : S_Proc → Prop) : Prop := ((a1 = 0 → (wp_X5_shown σ ((σ.1 0) ||| a2) (fun r4 u5 => Φ (upd u5.1 0 r4, u5.2.1, u5.2.2.1, u5.2.2.2)))) ∧ (a1 = 1 → (wp_X5_shown σ ((σ.1 0) &&& a2) (fun r7 u8 => Φ (upd u8.1 0 r7, u8.2.1, u8.2.2.1, u8.2.2.2)))) ∧ (a1 = 2 → (wp_X5_shown σ ((σ.1 0) ^^^ a2) (fun r10 u11 => Φ (upd u11.1 0 r10, u11.2.1, u11.2.2.1, u11.2.2.2)))) ∧ (a1 = 3 → (((((σ.1 4) &&& (8 : Int32)) = 0 → (wp_X5_add σ a2 (fun u14 => Φ u14))) ∧ (¬ ((σ.1 4) &&& (8 : Int32)) = 0 → (wp_X5_addDecimal σ a2 (fun u15 => Φ u15)))))) ∧ (a1 = 4 → (wp_X5_shown σ a2 (fun r17 u18 => Φ (upd u18.1 0 r17, u18.2.1, u18.2.2.1, u18.2.2.2)))) ∧ (a1 = 5 → (wp_X5_compare σ (σ.1 0) a2 (fun u20 => Φ u20))) ∧ (a1 = 6 → (((((σ.1 4) &&& (8 : Int32)) = 0 → (wp_X5_add σ ((255 : Int32) - a2) (fun u23 => Φ u23))) ∧ (¬ ((σ.1 4) &&& (8 : Int32)) = 0 → (wp_X5_subtractDecimal σ a2 (fun u24 => Φ u24)))))) ∧ (a1 = 7 → (wp_X5_shown σ a2 (fun r26 u27 => Φ (upd u27.1 1 r26, u27.2.1, u27.2.2.1, u27.2.2.2)))) ∧ (a1 = 8 → (wp_X5_shown σ a2 (fun r29 u30 => Φ (upd u30.1 2 r29, u30.2.1, u30.2.2.1, u30.2.2.2)))) ∧ (a1 = 9 → (wp_X5_compare σ (σ.1 1) a2 (fun u32 => Φ u32))) ∧ (a1 = 10 → (wp_X5_compare σ (σ.1 2) a2 (fun u34 => Φ u34))) ∧ (a1 = 11 → (((((σ.1 0) &&& a2) = 0 → (wp_X5_use_259 σ a2 2 1 Φ)) ∧ (¬ ((σ.1 0) &&& a2) = 0 → (wp_X5_use_259 σ a2 2 0 Φ))))) ∧ ((¬ a1 = 0 ∧ ¬ a1 = 1 ∧ ¬ a1 = 2 ∧ ¬ a1 = 3 ∧ ¬ a1 = 4 ∧ ¬ a1 = 5 ∧ ¬ a1 = 6 ∧ ¬ a1 = 7 ∧ ¬ a1 = 8 ∧ ¬ a1 = 9 ∧ ¬ a1 = 10 ∧ ¬ a1 = 11) → (((((σ.1 0) &&& a2) = 0 → (wp_X5_mark σ 2 1 (fun u39 => Φ u39))) ∧ (¬ ((σ.1 0) &&& a2) = 0 → (wp_X5_mark σ 2 0 (fun u38 => Φ u38)))))))
set_option maxHeartbeats 4000000 in
set_option maxRecDepth 100000 in
theorem c_X5_use (l : Launch) (dC : Nat → ClassId) (dI : Nat → Nat → Nat) (cI cJ : ClassId) (h : Nat → Nat) (sz : Nat) {σ : S_Proc} {a1 : Int32} {a2 : Int32} {Φ : S_Proc → Prop} (hok : wp_X5_use σ a1 a2 Φ) : Met l yX5_use wsX5_use ({ frames := 3, cells := 0, slots := 0, locals := 68 }) (va_Pc [.ref (h 1), .int a1, .int a2] (cpre dC dI cI cJ (w_Proc h cI cJ σ) sz)) (va_Qv Φ (fun u => cpost dC dI cI cJ (va_A (w_Proc h cI cJ σ) sz) (w_Proc h cI cJ u)) (va_A (w_Proc h cI cJ σ) sz)) 0 0 (va_A (w_Proc h cI cJ σ) sz) := by
  refine Met.ofW (cc := cX5_use) (maxL := 3) (ret := none) (by decide) rfl ?_
  intro p e s m args below meth c s₁ B hml hv
  obtain ⟨rfl, hsz, hP, hK, hD0⟩ := hv
  have hx := B.exec
  have hb := B.bytes
  have hr := B.returns
  have hts := atoms_spec (ws := wsX5_use) B.pre
  have hown : s.vm.findClass RX5 = some m.cls := findClass_of_methodNamed B.named
  have hlocks := B.notSynchronized
  subst hsz
  have hD := hD0.self (sz := s.heap.size)
  generalize hAe : va_A (w_Proc h cI cJ σ) s.heap.size = A at hD ⊢
  have hA : ∀ q : Nat, s.heap.size ≤ q → A q := fun q h => by rw [← hAe]; exact Or.inr h
  clear hD0 hAe
  have hS : va_S A s.heap s.heap [] := va_S.rf
  have b259 : ∀ (σ : S_Proc) (x2 : Int32) (s1 : Int32) (s2 : Int32), wp_X5_use_259 σ x2 s1 s2 Φ → ∀ (H : Heap) (locs : List Loc), va_P (dC, dI) vwCl (w_Proc h cI cJ σ) H → va_D A (w_Proc h cI cJ σ) → va_S A s.heap H locs → ∀ ls : Array Slot, lv_has ls 3 [(0, .ref (h 1)), (2, .int x2)] → W p l e (headSpec wsX5_use { frames := 3, cells := 0, slots := 0, locals := 68 }).room s m ([.ref (h 1), .int a1, .int a2] : List Value).toArray below meth c H locs 0 0 (MQ below (va_Qv Φ (fun u => cpost dC dI cI cJ A (w_Proc h cI cJ u)) A) ([.ref (h 1), .int a1, .int a2] : List Value).toArray s 0 0 A) (F0 m 259 ls [.int s2, .int s1, .ref (h 1)]) := by
    intro σ x2 s1 s2 hok H locs hP hD hS ls hl
    unfold wp_X5_use_259 at hok
    have hPc := hP
    have hDc := hD
    have hFc := va_free (wc := w_Proc h cI cJ σ) hD hS hA [0, 1, 2, 3, 4, 5, 6, 7, 8, 9] rfl
    refine va_callv (va_runV (As := [.int s1, .int s2]) (rest := []) ⟨hx, hb, hml, hown, hts⟩ (c_X5_mark l dC dI cI cJ h _ hok) (cwV 2 hts (tb_gV tw_2_161 tw_2_163 tw_p_15 tw_1_6 tw_2_164) rfl rfl rfl (by decide +kernel) ⟨Nat.le_of_ble_eq_true rfl, Nat.le_of_ble_eq_true rfl⟩) (cpre_V (ci := 4) (q0 := 0) hK hPc hDc rfl rfl) rfl rfl hl.1 rfl (lv_room (Nat.le_of_ble_eq_true rfl)) dX5_use_259 ⟨Nat.le_of_ble_eq_true rfl, Nat.le_of_ble_eq_true rfl⟩) hS (fun q _ h => hFc q h) hFc (fun u1 t H1 locs ht hvm hok hB hz1 hk1 hS => ?_)
    obtain ⟨hP, hD⟩ := cjoin_w ht hB hFc
    refine lv_aload_n hx hb dX5_use_262 rfl (lv_at hl 0 rfl) ?_
    refine lv_aload_n hx hb dX5_use_263 rfl (lv_at hl 0 rfl) ?_
    refine va_get (D := (dC, dI)) (ci := 4) (v := .int (u1.1 4)) (C := RX5) (T := TX5) (N := 15) hx hb hts (fun w h => List.mem_cons_of_mem _ (in_X5 w h)) hown hK hP 0 rfl rfl 4 (by decide) (hts _ (List.mem_cons_of_mem _ tw_1_155)) (fun _ h9 => h9) rfl dX5_use_264 ?_
    refine lv_sipush (v := (-193)) hx hb dX5_use_267 (by decide) ?_
    refine lv_iand hx hb dX5_use_270 ?_
    refine lv_iload_n hx hb dX5_use_271 rfl (lv_at hl 1 rfl) ?_
    refine lv_sipush (v := 192) hx hb dX5_use_272 (by decide) ?_
    refine lv_iand hx hb dX5_use_275 ?_
    refine lv_ior hx hb dX5_use_276 ?_
    refine lv_topi (fun v2 ev2 => ?_)
    have hok := hok v2 ev2
    refine va_put (D := (dC, dI)) (ci := 4) (v := .int v2) (ty := .int) (C := RX5) (T := TX5) (N := 15) hx hb hts (fun w h => List.mem_cons_of_mem _ (in_X5 w h)) tyX5 tyX5_ok nmX5 hown hK hP hD hS 0 rfl rfl 4 (by decide) (hts _ (List.mem_cons_of_mem _ tw_1_155)) (fun _ h9 => h9) rfl (by decide +kernel) rfl rfl (Nat.le_of_ble_eq_true rfl) dX5_use_277 (fun H locs hP hD hS => ?_)
    have hP : va_P (dC, dI) vwCl (w_Proc h cI cJ (upd u1.1 4 v2, u1.2.1, u1.2.2.1, u1.2.2.2)) _ := hP
    have hD : va_D A (w_Proc h cI cJ (upd u1.1 4 v2, u1.2.1, u1.2.2.1, u1.2.2.2)) := hD
    refine lv_goto (tgt := 302) hx hb dX5_use_280 (by decide) ?_
    exact W.vret hx hb hr (fun t ht hW => ⟨⟨(upd u1.1 4 v2, u1.2.1, u1.2.2.1, u1.2.2.2), rfl, hok, by rw [ht]; exact hP, va_K.moved hW.alike hK, hD⟩, hS.F ht⟩) hS.2.2 dX5_use_302
  have hl := lv_entry ([.ref (h 1), .int a1, .int a2]) (n := 3) (Nat.le_of_ble_eq_true rfl)
  rw [lg_entry_eq]
  generalize (lg_sl ([.ref (h 1), .int a1, .int a2]) ++ List.replicate (3 - (lg_sl ([.ref (h 1), .int a1, .int a2])).length) Slot.unset).toArray = ls at hl ⊢
  have hl : lv_has ls 3 [(0, .ref (h 1)), (1, .int a1), (2, .int a2)] := hl
  unfold wp_X5_use at hok
  refine lv_iload_n hx hb dX5_use_0 rfl (lv_at hl 1 rfl) ?_
  by_cases c3 : a1 = 0
  · have hok := hok.1 c3
    refine lv_tableIn (tgt := 64) (off := 63) hx hb dX5_use_1 (by rw [c3]; decide) (by rw [c3]; decide) (by rw [c3]; decide) (by decide) ?_
    refine lv_aload_n hx hb dX5_use_64 rfl (lv_at hl 0 rfl) ?_
    refine lv_aload_n hx hb dX5_use_65 rfl (lv_at hl 0 rfl) ?_
    refine lv_aload_n hx hb dX5_use_66 rfl (lv_at hl 0 rfl) ?_
    refine va_get (D := (dC, dI)) (ci := 4) (v := .int (σ.1 0)) (C := RX5) (T := TX5) (N := 15) hx hb hts (fun w h => List.mem_cons_of_mem _ (in_X5 w h)) hown hK hP 0 rfl rfl 0 (by decide) (hts _ (List.mem_cons_of_mem _ tw_1_148)) (fun _ h9 => h9) rfl dX5_use_67 ?_
    refine lv_iload_n hx hb dX5_use_70 rfl (lv_at hl 2 rfl) ?_
    refine lv_ior hx hb dX5_use_71 ?_
    have hPc := hP
    have hDc := hD
    have hFc := va_free (wc := w_Proc h cI cJ σ) hD hS hA [0, 1, 2, 3, 4, 5, 6, 7, 8, 9] rfl
    refine va_calli (va_runV (As := [.int ((σ.1 0) ||| a2)]) (rest := [.ref (h 1)]) ⟨hx, hb, hml, hown, hts⟩ (c_X5_shown l dC dI cI cJ h _ hok) (cwV 1 hts (tb_gV tw_2_153 tw_2_155 tw_p_13 tw_1_6 tw_2_156) rfl rfl rfl (by decide +kernel) ⟨Nat.le_of_ble_eq_true rfl, Nat.le_of_ble_eq_true rfl⟩) (cpre_V (ci := 4) (q0 := 0) hK hPc hDc rfl rfl) rfl rfl hl.1 rfl (lv_room (Nat.le_of_ble_eq_true rfl)) dX5_use_72 ⟨Nat.le_of_ble_eq_true rfl, Nat.le_of_ble_eq_true rfl⟩) hS (fun q _ h => hFc q h) hFc (fun r4 u5 t H1 locs ht hvm hok hB hz1 hk1 hS => ?_)
    obtain ⟨hP, hD⟩ := cjoin_w ht hB hFc
    refine va_put (D := (dC, dI)) (ci := 4) (v := .int r4) (ty := .int) (C := RX5) (T := TX5) (N := 15) hx hb hts (fun w h => List.mem_cons_of_mem _ (in_X5 w h)) tyX5 tyX5_ok nmX5 hown hK hP hD hS 0 rfl rfl 0 (by decide) (hts _ (List.mem_cons_of_mem _ tw_1_148)) (fun _ h9 => h9) rfl (by decide +kernel) rfl rfl (Nat.le_of_ble_eq_true rfl) dX5_use_75 (fun H locs hP hD hS => ?_)
    have hP : va_P (dC, dI) vwCl (w_Proc h cI cJ (upd u5.1 0 r4, u5.2.1, u5.2.2.1, u5.2.2.2)) _ := hP
    have hD : va_D A (w_Proc h cI cJ (upd u5.1 0 r4, u5.2.1, u5.2.2.1, u5.2.2.2)) := hD
    refine lv_goto (tgt := 302) hx hb dX5_use_78 (by decide) ?_
    exact W.vret hx hb hr (fun t ht hW => ⟨⟨(upd u5.1 0 r4, u5.2.1, u5.2.2.1, u5.2.2.2), rfl, hok, by rw [ht]; exact hP, va_K.moved hW.alike hK, hD⟩, hS.F ht⟩) hS.2.2 dX5_use_302
  have hok := hok.2
  by_cases c6 : a1 = 1
  · have hok := hok.1 c6
    refine lv_tableIn (tgt := 81) (off := 80) hx hb dX5_use_1 (by rw [c6]; decide) (by rw [c6]; decide) (by rw [c6]; decide) (by decide) ?_
    refine lv_aload_n hx hb dX5_use_81 rfl (lv_at hl 0 rfl) ?_
    refine lv_aload_n hx hb dX5_use_82 rfl (lv_at hl 0 rfl) ?_
    refine lv_aload_n hx hb dX5_use_83 rfl (lv_at hl 0 rfl) ?_
    refine va_get (D := (dC, dI)) (ci := 4) (v := .int (σ.1 0)) (C := RX5) (T := TX5) (N := 15) hx hb hts (fun w h => List.mem_cons_of_mem _ (in_X5 w h)) hown hK hP 0 rfl rfl 0 (by decide) (hts _ (List.mem_cons_of_mem _ tw_1_148)) (fun _ h9 => h9) rfl dX5_use_84 ?_
    refine lv_iload_n hx hb dX5_use_87 rfl (lv_at hl 2 rfl) ?_
    refine lv_iand hx hb dX5_use_88 ?_
    have hPc := hP
    have hDc := hD
    have hFc := va_free (wc := w_Proc h cI cJ σ) hD hS hA [0, 1, 2, 3, 4, 5, 6, 7, 8, 9] rfl
    refine va_calli (va_runV (As := [.int ((σ.1 0) &&& a2)]) (rest := [.ref (h 1)]) ⟨hx, hb, hml, hown, hts⟩ (c_X5_shown l dC dI cI cJ h _ hok) (cwV 1 hts (tb_gV tw_2_153 tw_2_155 tw_p_13 tw_1_6 tw_2_156) rfl rfl rfl (by decide +kernel) ⟨Nat.le_of_ble_eq_true rfl, Nat.le_of_ble_eq_true rfl⟩) (cpre_V (ci := 4) (q0 := 0) hK hPc hDc rfl rfl) rfl rfl hl.1 rfl (lv_room (Nat.le_of_ble_eq_true rfl)) dX5_use_89 ⟨Nat.le_of_ble_eq_true rfl, Nat.le_of_ble_eq_true rfl⟩) hS (fun q _ h => hFc q h) hFc (fun r7 u8 t H1 locs ht hvm hok hB hz1 hk1 hS => ?_)
    obtain ⟨hP, hD⟩ := cjoin_w ht hB hFc
    refine va_put (D := (dC, dI)) (ci := 4) (v := .int r7) (ty := .int) (C := RX5) (T := TX5) (N := 15) hx hb hts (fun w h => List.mem_cons_of_mem _ (in_X5 w h)) tyX5 tyX5_ok nmX5 hown hK hP hD hS 0 rfl rfl 0 (by decide) (hts _ (List.mem_cons_of_mem _ tw_1_148)) (fun _ h9 => h9) rfl (by decide +kernel) rfl rfl (Nat.le_of_ble_eq_true rfl) dX5_use_92 (fun H locs hP hD hS => ?_)
    have hP : va_P (dC, dI) vwCl (w_Proc h cI cJ (upd u8.1 0 r7, u8.2.1, u8.2.2.1, u8.2.2.2)) _ := hP
    have hD : va_D A (w_Proc h cI cJ (upd u8.1 0 r7, u8.2.1, u8.2.2.1, u8.2.2.2)) := hD
    refine lv_goto (tgt := 302) hx hb dX5_use_95 (by decide) ?_
    exact W.vret hx hb hr (fun t ht hW => ⟨⟨(upd u8.1 0 r7, u8.2.1, u8.2.2.1, u8.2.2.2), rfl, hok, by rw [ht]; exact hP, va_K.moved hW.alike hK, hD⟩, hS.F ht⟩) hS.2.2 dX5_use_302
  have hok := hok.2
  by_cases c9 : a1 = 2
  · have hok := hok.1 c9
    refine lv_tableIn (tgt := 98) (off := 97) hx hb dX5_use_1 (by rw [c9]; decide) (by rw [c9]; decide) (by rw [c9]; decide) (by decide) ?_
    refine lv_aload_n hx hb dX5_use_98 rfl (lv_at hl 0 rfl) ?_
    refine lv_aload_n hx hb dX5_use_99 rfl (lv_at hl 0 rfl) ?_
    refine lv_aload_n hx hb dX5_use_100 rfl (lv_at hl 0 rfl) ?_
    refine va_get (D := (dC, dI)) (ci := 4) (v := .int (σ.1 0)) (C := RX5) (T := TX5) (N := 15) hx hb hts (fun w h => List.mem_cons_of_mem _ (in_X5 w h)) hown hK hP 0 rfl rfl 0 (by decide) (hts _ (List.mem_cons_of_mem _ tw_1_148)) (fun _ h9 => h9) rfl dX5_use_101 ?_
    refine lv_iload_n hx hb dX5_use_104 rfl (lv_at hl 2 rfl) ?_
    refine lv_ixor hx hb dX5_use_105 ?_
    have hPc := hP
    have hDc := hD
    have hFc := va_free (wc := w_Proc h cI cJ σ) hD hS hA [0, 1, 2, 3, 4, 5, 6, 7, 8, 9] rfl
    refine va_calli (va_runV (As := [.int ((σ.1 0) ^^^ a2)]) (rest := [.ref (h 1)]) ⟨hx, hb, hml, hown, hts⟩ (c_X5_shown l dC dI cI cJ h _ hok) (cwV 1 hts (tb_gV tw_2_153 tw_2_155 tw_p_13 tw_1_6 tw_2_156) rfl rfl rfl (by decide +kernel) ⟨Nat.le_of_ble_eq_true rfl, Nat.le_of_ble_eq_true rfl⟩) (cpre_V (ci := 4) (q0 := 0) hK hPc hDc rfl rfl) rfl rfl hl.1 rfl (lv_room (Nat.le_of_ble_eq_true rfl)) dX5_use_106 ⟨Nat.le_of_ble_eq_true rfl, Nat.le_of_ble_eq_true rfl⟩) hS (fun q _ h => hFc q h) hFc (fun r10 u11 t H1 locs ht hvm hok hB hz1 hk1 hS => ?_)
    obtain ⟨hP, hD⟩ := cjoin_w ht hB hFc
    refine va_put (D := (dC, dI)) (ci := 4) (v := .int r10) (ty := .int) (C := RX5) (T := TX5) (N := 15) hx hb hts (fun w h => List.mem_cons_of_mem _ (in_X5 w h)) tyX5 tyX5_ok nmX5 hown hK hP hD hS 0 rfl rfl 0 (by decide) (hts _ (List.mem_cons_of_mem _ tw_1_148)) (fun _ h9 => h9) rfl (by decide +kernel) rfl rfl (Nat.le_of_ble_eq_true rfl) dX5_use_109 (fun H locs hP hD hS => ?_)
    have hP : va_P (dC, dI) vwCl (w_Proc h cI cJ (upd u11.1 0 r10, u11.2.1, u11.2.2.1, u11.2.2.2)) _ := hP
    have hD : va_D A (w_Proc h cI cJ (upd u11.1 0 r10, u11.2.1, u11.2.2.1, u11.2.2.2)) := hD
    refine lv_goto (tgt := 302) hx hb dX5_use_112 (by decide) ?_
    exact W.vret hx hb hr (fun t ht hW => ⟨⟨(upd u11.1 0 r10, u11.2.1, u11.2.2.1, u11.2.2.2), rfl, hok, by rw [ht]; exact hP, va_K.moved hW.alike hK, hD⟩, hS.F ht⟩) hS.2.2 dX5_use_302
  have hok := hok.2
  by_cases c12 : a1 = 3
  · have hok := hok.1 c12
    refine lv_tableIn (tgt := 187) (off := 186) hx hb dX5_use_1 (by rw [c12]; decide) (by rw [c12]; decide) (by rw [c12]; decide) (by decide) ?_
    refine lv_aload_n hx hb dX5_use_187 rfl (lv_at hl 0 rfl) ?_
    refine va_get (D := (dC, dI)) (ci := 4) (v := .int (σ.1 4)) (C := RX5) (T := TX5) (N := 15) hx hb hts (fun w h => List.mem_cons_of_mem _ (in_X5 w h)) hown hK hP 0 rfl rfl 4 (by decide) (hts _ (List.mem_cons_of_mem _ tw_1_155)) (fun _ h9 => h9) rfl dX5_use_188 ?_
    refine lv_bipush (v := 8) hx hb dX5_use_191 (by decide) ?_
    refine lv_iand hx hb dX5_use_193 ?_
    refine lv_if_eq (tgt := 205) hx hb dX5_use_194 (by decide) (fun c13 => ?_) (fun c13 => ?_)
    · have hok := hok.1 c13
      refine lv_aload_n hx hb dX5_use_205 rfl (lv_at hl 0 rfl) ?_
      refine lv_iload_n hx hb dX5_use_206 rfl (lv_at hl 2 rfl) ?_
      have hPc := hP
      have hDc := hD
      have hFc := va_free (wc := w_Proc h cI cJ σ) hD hS hA [0, 1, 2, 3, 4, 5, 6, 7, 8, 9] rfl
      refine va_callv (va_runV (As := [.int a2]) (rest := []) ⟨hx, hb, hml, hown, hts⟩ (c_X5_add l dC dI cI cJ h _ hok) (cwV 1 hts (tb_gV tw_2_173 tw_2_175 tw_p_18 tw_1_6 tw_2_176) rfl rfl rfl (by decide +kernel) ⟨Nat.le_of_ble_eq_true rfl, Nat.le_of_ble_eq_true rfl⟩) (cpre_V (ci := 4) (q0 := 0) hK hPc hDc rfl rfl) rfl rfl hl.1 rfl (lv_room (Nat.le_of_ble_eq_true rfl)) dX5_use_207 ⟨Nat.le_of_ble_eq_true rfl, Nat.le_of_ble_eq_true rfl⟩) hS (fun q _ h => hFc q h) hFc (fun u14 t H1 locs ht hvm hok hB hz1 hk1 hS => ?_)
      obtain ⟨hP, hD⟩ := cjoin_w ht hB hFc
      refine lv_goto (tgt := 302) hx hb dX5_use_210 (by decide) ?_
      exact W.vret hx hb hr (fun t ht hW => ⟨⟨u14, rfl, hok, by rw [ht]; exact hP, va_K.moved hW.alike hK, hD⟩, hS.F ht⟩) hS.2.2 dX5_use_302
    · have hok := hok.2 c13
      refine lv_aload_n hx hb dX5_use_197 rfl (lv_at hl 0 rfl) ?_
      refine lv_iload_n hx hb dX5_use_198 rfl (lv_at hl 2 rfl) ?_
      have hPc := hP
      have hDc := hD
      have hFc := va_free (wc := w_Proc h cI cJ σ) hD hS hA [0, 1, 2, 3, 4, 5, 6, 7, 8, 9] rfl
      refine va_callv (va_runV (As := [.int a2]) (rest := []) ⟨hx, hb, hml, hown, hts⟩ (c_X5_addDecimal l dC dI cI cJ h _ hok) (cwV 1 hts (tb_gV tw_2_165 tw_2_167 tw_p_16 tw_1_6 tw_2_168) rfl rfl rfl (by decide +kernel) ⟨Nat.le_of_ble_eq_true rfl, Nat.le_of_ble_eq_true rfl⟩) (cpre_V (ci := 4) (q0 := 0) hK hPc hDc rfl rfl) rfl rfl hl.1 rfl (lv_room (Nat.le_of_ble_eq_true rfl)) dX5_use_199 ⟨Nat.le_of_ble_eq_true rfl, Nat.le_of_ble_eq_true rfl⟩) hS (fun q _ h => hFc q h) hFc (fun u15 t H1 locs ht hvm hok hB hz1 hk1 hS => ?_)
      obtain ⟨hP, hD⟩ := cjoin_w ht hB hFc
      refine lv_goto (tgt := 302) hx hb dX5_use_202 (by decide) ?_
      exact W.vret hx hb hr (fun t ht hW => ⟨⟨u15, rfl, hok, by rw [ht]; exact hP, va_K.moved hW.alike hK, hD⟩, hS.F ht⟩) hS.2.2 dX5_use_302
  have hok := hok.2
  by_cases c16 : a1 = 4
  · have hok := hok.1 c16
    refine lv_tableIn (tgt := 115) (off := 114) hx hb dX5_use_1 (by rw [c16]; decide) (by rw [c16]; decide) (by rw [c16]; decide) (by decide) ?_
    refine lv_aload_n hx hb dX5_use_115 rfl (lv_at hl 0 rfl) ?_
    refine lv_aload_n hx hb dX5_use_116 rfl (lv_at hl 0 rfl) ?_
    refine lv_iload_n hx hb dX5_use_117 rfl (lv_at hl 2 rfl) ?_
    have hPc := hP
    have hDc := hD
    have hFc := va_free (wc := w_Proc h cI cJ σ) hD hS hA [0, 1, 2, 3, 4, 5, 6, 7, 8, 9] rfl
    refine va_calli (va_runV (As := [.int a2]) (rest := [.ref (h 1)]) ⟨hx, hb, hml, hown, hts⟩ (c_X5_shown l dC dI cI cJ h _ hok) (cwV 1 hts (tb_gV tw_2_153 tw_2_155 tw_p_13 tw_1_6 tw_2_156) rfl rfl rfl (by decide +kernel) ⟨Nat.le_of_ble_eq_true rfl, Nat.le_of_ble_eq_true rfl⟩) (cpre_V (ci := 4) (q0 := 0) hK hPc hDc rfl rfl) rfl rfl hl.1 rfl (lv_room (Nat.le_of_ble_eq_true rfl)) dX5_use_118 ⟨Nat.le_of_ble_eq_true rfl, Nat.le_of_ble_eq_true rfl⟩) hS (fun q _ h => hFc q h) hFc (fun r17 u18 t H1 locs ht hvm hok hB hz1 hk1 hS => ?_)
    obtain ⟨hP, hD⟩ := cjoin_w ht hB hFc
    refine va_put (D := (dC, dI)) (ci := 4) (v := .int r17) (ty := .int) (C := RX5) (T := TX5) (N := 15) hx hb hts (fun w h => List.mem_cons_of_mem _ (in_X5 w h)) tyX5 tyX5_ok nmX5 hown hK hP hD hS 0 rfl rfl 0 (by decide) (hts _ (List.mem_cons_of_mem _ tw_1_148)) (fun _ h9 => h9) rfl (by decide +kernel) rfl rfl (Nat.le_of_ble_eq_true rfl) dX5_use_121 (fun H locs hP hD hS => ?_)
    have hP : va_P (dC, dI) vwCl (w_Proc h cI cJ (upd u18.1 0 r17, u18.2.1, u18.2.2.1, u18.2.2.2)) _ := hP
    have hD : va_D A (w_Proc h cI cJ (upd u18.1 0 r17, u18.2.1, u18.2.2.1, u18.2.2.2)) := hD
    refine lv_goto (tgt := 302) hx hb dX5_use_124 (by decide) ?_
    exact W.vret hx hb hr (fun t ht hW => ⟨⟨(upd u18.1 0 r17, u18.2.1, u18.2.2.1, u18.2.2.2), rfl, hok, by rw [ht]; exact hP, va_K.moved hW.alike hK, hD⟩, hS.F ht⟩) hS.2.2 dX5_use_302
  have hok := hok.2
  by_cases c19 : a1 = 5
  · have hok := hok.1 c19
    refine lv_tableIn (tgt := 151) (off := 150) hx hb dX5_use_1 (by rw [c19]; decide) (by rw [c19]; decide) (by rw [c19]; decide) (by decide) ?_
    refine lv_aload_n hx hb dX5_use_151 rfl (lv_at hl 0 rfl) ?_
    refine lv_aload_n hx hb dX5_use_152 rfl (lv_at hl 0 rfl) ?_
    refine va_get (D := (dC, dI)) (ci := 4) (v := .int (σ.1 0)) (C := RX5) (T := TX5) (N := 15) hx hb hts (fun w h => List.mem_cons_of_mem _ (in_X5 w h)) hown hK hP 0 rfl rfl 0 (by decide) (hts _ (List.mem_cons_of_mem _ tw_1_148)) (fun _ h9 => h9) rfl dX5_use_153 ?_
    refine lv_iload_n hx hb dX5_use_156 rfl (lv_at hl 2 rfl) ?_
    have hPc := hP
    have hDc := hD
    have hFc := va_free (wc := w_Proc h cI cJ σ) hD hS hA [0, 1, 2, 3, 4, 5, 6, 7, 8, 9] rfl
    refine va_callv (va_runV (As := [.int (σ.1 0), .int a2]) (rest := []) ⟨hx, hb, hml, hown, hts⟩ (c_X5_compare l dC dI cI cJ h _ hok) (cwV 2 hts (tb_gV tw_2_157 tw_2_159 tw_p_14 tw_1_6 tw_2_160) rfl rfl rfl (by decide +kernel) ⟨Nat.le_of_ble_eq_true rfl, Nat.le_of_ble_eq_true rfl⟩) (cpre_V (ci := 4) (q0 := 0) hK hPc hDc rfl rfl) rfl rfl hl.1 rfl (lv_room (Nat.le_of_ble_eq_true rfl)) dX5_use_157 ⟨Nat.le_of_ble_eq_true rfl, Nat.le_of_ble_eq_true rfl⟩) hS (fun q _ h => hFc q h) hFc (fun u20 t H1 locs ht hvm hok hB hz1 hk1 hS => ?_)
    obtain ⟨hP, hD⟩ := cjoin_w ht hB hFc
    refine lv_goto (tgt := 302) hx hb dX5_use_160 (by decide) ?_
    exact W.vret hx hb hr (fun t ht hW => ⟨⟨u20, rfl, hok, by rw [ht]; exact hP, va_K.moved hW.alike hK, hD⟩, hS.F ht⟩) hS.2.2 dX5_use_302
  have hok := hok.2
  by_cases c21 : a1 = 6
  · have hok := hok.1 c21
    refine lv_tableIn (tgt := 213) (off := 212) hx hb dX5_use_1 (by rw [c21]; decide) (by rw [c21]; decide) (by rw [c21]; decide) (by decide) ?_
    refine lv_aload_n hx hb dX5_use_213 rfl (lv_at hl 0 rfl) ?_
    refine va_get (D := (dC, dI)) (ci := 4) (v := .int (σ.1 4)) (C := RX5) (T := TX5) (N := 15) hx hb hts (fun w h => List.mem_cons_of_mem _ (in_X5 w h)) hown hK hP 0 rfl rfl 4 (by decide) (hts _ (List.mem_cons_of_mem _ tw_1_155)) (fun _ h9 => h9) rfl dX5_use_214 ?_
    refine lv_bipush (v := 8) hx hb dX5_use_217 (by decide) ?_
    refine lv_iand hx hb dX5_use_219 ?_
    refine lv_if_eq (tgt := 231) hx hb dX5_use_220 (by decide) (fun c22 => ?_) (fun c22 => ?_)
    · have hok := hok.1 c22
      refine lv_aload_n hx hb dX5_use_231 rfl (lv_at hl 0 rfl) ?_
      refine lv_sipush (v := 255) hx hb dX5_use_232 (by decide) ?_
      refine lv_iload_n hx hb dX5_use_235 rfl (lv_at hl 2 rfl) ?_
      refine lv_isub hx hb dX5_use_236 ?_
      have hPc := hP
      have hDc := hD
      have hFc := va_free (wc := w_Proc h cI cJ σ) hD hS hA [0, 1, 2, 3, 4, 5, 6, 7, 8, 9] rfl
      refine va_callv (va_runV (As := [.int ((255 : Int32) - a2)]) (rest := []) ⟨hx, hb, hml, hown, hts⟩ (c_X5_add l dC dI cI cJ h _ hok) (cwV 1 hts (tb_gV tw_2_173 tw_2_175 tw_p_18 tw_1_6 tw_2_176) rfl rfl rfl (by decide +kernel) ⟨Nat.le_of_ble_eq_true rfl, Nat.le_of_ble_eq_true rfl⟩) (cpre_V (ci := 4) (q0 := 0) hK hPc hDc rfl rfl) rfl rfl hl.1 rfl (lv_room (Nat.le_of_ble_eq_true rfl)) dX5_use_237 ⟨Nat.le_of_ble_eq_true rfl, Nat.le_of_ble_eq_true rfl⟩) hS (fun q _ h => hFc q h) hFc (fun u23 t H1 locs ht hvm hok hB hz1 hk1 hS => ?_)
      obtain ⟨hP, hD⟩ := cjoin_w ht hB hFc
      refine lv_goto (tgt := 302) hx hb dX5_use_240 (by decide) ?_
      exact W.vret hx hb hr (fun t ht hW => ⟨⟨u23, rfl, hok, by rw [ht]; exact hP, va_K.moved hW.alike hK, hD⟩, hS.F ht⟩) hS.2.2 dX5_use_302
    · have hok := hok.2 c22
      refine lv_aload_n hx hb dX5_use_223 rfl (lv_at hl 0 rfl) ?_
      refine lv_iload_n hx hb dX5_use_224 rfl (lv_at hl 2 rfl) ?_
      have hPc := hP
      have hDc := hD
      have hFc := va_free (wc := w_Proc h cI cJ σ) hD hS hA [0, 1, 2, 3, 4, 5, 6, 7, 8, 9] rfl
      refine va_callv (va_runV (As := [.int a2]) (rest := []) ⟨hx, hb, hml, hown, hts⟩ (c_X5_subtractDecimal l dC dI cI cJ h _ hok) (cwV 1 hts (tb_gV tw_2_177 tw_2_179 tw_p_19 tw_1_6 tw_2_180) rfl rfl rfl (by decide +kernel) ⟨Nat.le_of_ble_eq_true rfl, Nat.le_of_ble_eq_true rfl⟩) (cpre_V (ci := 4) (q0 := 0) hK hPc hDc rfl rfl) rfl rfl hl.1 rfl (lv_room (Nat.le_of_ble_eq_true rfl)) dX5_use_225 ⟨Nat.le_of_ble_eq_true rfl, Nat.le_of_ble_eq_true rfl⟩) hS (fun q _ h => hFc q h) hFc (fun u24 t H1 locs ht hvm hok hB hz1 hk1 hS => ?_)
      obtain ⟨hP, hD⟩ := cjoin_w ht hB hFc
      refine lv_goto (tgt := 302) hx hb dX5_use_228 (by decide) ?_
      exact W.vret hx hb hr (fun t ht hW => ⟨⟨u24, rfl, hok, by rw [ht]; exact hP, va_K.moved hW.alike hK, hD⟩, hS.F ht⟩) hS.2.2 dX5_use_302
  have hok := hok.2
  by_cases c25 : a1 = 7
  · have hok := hok.1 c25
    refine lv_tableIn (tgt := 127) (off := 126) hx hb dX5_use_1 (by rw [c25]; decide) (by rw [c25]; decide) (by rw [c25]; decide) (by decide) ?_
    refine lv_aload_n hx hb dX5_use_127 rfl (lv_at hl 0 rfl) ?_
    refine lv_aload_n hx hb dX5_use_128 rfl (lv_at hl 0 rfl) ?_
    refine lv_iload_n hx hb dX5_use_129 rfl (lv_at hl 2 rfl) ?_
    have hPc := hP
    have hDc := hD
    have hFc := va_free (wc := w_Proc h cI cJ σ) hD hS hA [0, 1, 2, 3, 4, 5, 6, 7, 8, 9] rfl
    refine va_calli (va_runV (As := [.int a2]) (rest := [.ref (h 1)]) ⟨hx, hb, hml, hown, hts⟩ (c_X5_shown l dC dI cI cJ h _ hok) (cwV 1 hts (tb_gV tw_2_153 tw_2_155 tw_p_13 tw_1_6 tw_2_156) rfl rfl rfl (by decide +kernel) ⟨Nat.le_of_ble_eq_true rfl, Nat.le_of_ble_eq_true rfl⟩) (cpre_V (ci := 4) (q0 := 0) hK hPc hDc rfl rfl) rfl rfl hl.1 rfl (lv_room (Nat.le_of_ble_eq_true rfl)) dX5_use_130 ⟨Nat.le_of_ble_eq_true rfl, Nat.le_of_ble_eq_true rfl⟩) hS (fun q _ h => hFc q h) hFc (fun r26 u27 t H1 locs ht hvm hok hB hz1 hk1 hS => ?_)
    obtain ⟨hP, hD⟩ := cjoin_w ht hB hFc
    refine va_put (D := (dC, dI)) (ci := 4) (v := .int r26) (ty := .int) (C := RX5) (T := TX5) (N := 15) hx hb hts (fun w h => List.mem_cons_of_mem _ (in_X5 w h)) tyX5 tyX5_ok nmX5 hown hK hP hD hS 0 rfl rfl 1 (by decide) (hts _ (List.mem_cons_of_mem _ tw_1_149)) (fun _ h9 => h9) rfl (by decide +kernel) rfl rfl (Nat.le_of_ble_eq_true rfl) dX5_use_133 (fun H locs hP hD hS => ?_)
    have hP : va_P (dC, dI) vwCl (w_Proc h cI cJ (upd u27.1 1 r26, u27.2.1, u27.2.2.1, u27.2.2.2)) _ := hP
    have hD : va_D A (w_Proc h cI cJ (upd u27.1 1 r26, u27.2.1, u27.2.2.1, u27.2.2.2)) := hD
    refine lv_goto (tgt := 302) hx hb dX5_use_136 (by decide) ?_
    exact W.vret hx hb hr (fun t ht hW => ⟨⟨(upd u27.1 1 r26, u27.2.1, u27.2.2.1, u27.2.2.2), rfl, hok, by rw [ht]; exact hP, va_K.moved hW.alike hK, hD⟩, hS.F ht⟩) hS.2.2 dX5_use_302
  have hok := hok.2
  by_cases c28 : a1 = 8
  · have hok := hok.1 c28
    refine lv_tableIn (tgt := 139) (off := 138) hx hb dX5_use_1 (by rw [c28]; decide) (by rw [c28]; decide) (by rw [c28]; decide) (by decide) ?_
    refine lv_aload_n hx hb dX5_use_139 rfl (lv_at hl 0 rfl) ?_
    refine lv_aload_n hx hb dX5_use_140 rfl (lv_at hl 0 rfl) ?_
    refine lv_iload_n hx hb dX5_use_141 rfl (lv_at hl 2 rfl) ?_
    have hPc := hP
    have hDc := hD
    have hFc := va_free (wc := w_Proc h cI cJ σ) hD hS hA [0, 1, 2, 3, 4, 5, 6, 7, 8, 9] rfl
    refine va_calli (va_runV (As := [.int a2]) (rest := [.ref (h 1)]) ⟨hx, hb, hml, hown, hts⟩ (c_X5_shown l dC dI cI cJ h _ hok) (cwV 1 hts (tb_gV tw_2_153 tw_2_155 tw_p_13 tw_1_6 tw_2_156) rfl rfl rfl (by decide +kernel) ⟨Nat.le_of_ble_eq_true rfl, Nat.le_of_ble_eq_true rfl⟩) (cpre_V (ci := 4) (q0 := 0) hK hPc hDc rfl rfl) rfl rfl hl.1 rfl (lv_room (Nat.le_of_ble_eq_true rfl)) dX5_use_142 ⟨Nat.le_of_ble_eq_true rfl, Nat.le_of_ble_eq_true rfl⟩) hS (fun q _ h => hFc q h) hFc (fun r29 u30 t H1 locs ht hvm hok hB hz1 hk1 hS => ?_)
    obtain ⟨hP, hD⟩ := cjoin_w ht hB hFc
    refine va_put (D := (dC, dI)) (ci := 4) (v := .int r29) (ty := .int) (C := RX5) (T := TX5) (N := 15) hx hb hts (fun w h => List.mem_cons_of_mem _ (in_X5 w h)) tyX5 tyX5_ok nmX5 hown hK hP hD hS 0 rfl rfl 2 (by decide) (hts _ (List.mem_cons_of_mem _ tw_1_151)) (fun _ h9 => h9) rfl (by decide +kernel) rfl rfl (Nat.le_of_ble_eq_true rfl) dX5_use_145 (fun H locs hP hD hS => ?_)
    have hP : va_P (dC, dI) vwCl (w_Proc h cI cJ (upd u30.1 2 r29, u30.2.1, u30.2.2.1, u30.2.2.2)) _ := hP
    have hD : va_D A (w_Proc h cI cJ (upd u30.1 2 r29, u30.2.1, u30.2.2.1, u30.2.2.2)) := hD
    refine lv_goto (tgt := 302) hx hb dX5_use_148 (by decide) ?_
    exact W.vret hx hb hr (fun t ht hW => ⟨⟨(upd u30.1 2 r29, u30.2.1, u30.2.2.1, u30.2.2.2), rfl, hok, by rw [ht]; exact hP, va_K.moved hW.alike hK, hD⟩, hS.F ht⟩) hS.2.2 dX5_use_302
  have hok := hok.2
  by_cases c31 : a1 = 9
  · have hok := hok.1 c31
    refine lv_tableIn (tgt := 163) (off := 162) hx hb dX5_use_1 (by rw [c31]; decide) (by rw [c31]; decide) (by rw [c31]; decide) (by decide) ?_
    refine lv_aload_n hx hb dX5_use_163 rfl (lv_at hl 0 rfl) ?_
    refine lv_aload_n hx hb dX5_use_164 rfl (lv_at hl 0 rfl) ?_
    refine va_get (D := (dC, dI)) (ci := 4) (v := .int (σ.1 1)) (C := RX5) (T := TX5) (N := 15) hx hb hts (fun w h => List.mem_cons_of_mem _ (in_X5 w h)) hown hK hP 0 rfl rfl 1 (by decide) (hts _ (List.mem_cons_of_mem _ tw_1_149)) (fun _ h9 => h9) rfl dX5_use_165 ?_
    refine lv_iload_n hx hb dX5_use_168 rfl (lv_at hl 2 rfl) ?_
    have hPc := hP
    have hDc := hD
    have hFc := va_free (wc := w_Proc h cI cJ σ) hD hS hA [0, 1, 2, 3, 4, 5, 6, 7, 8, 9] rfl
    refine va_callv (va_runV (As := [.int (σ.1 1), .int a2]) (rest := []) ⟨hx, hb, hml, hown, hts⟩ (c_X5_compare l dC dI cI cJ h _ hok) (cwV 2 hts (tb_gV tw_2_157 tw_2_159 tw_p_14 tw_1_6 tw_2_160) rfl rfl rfl (by decide +kernel) ⟨Nat.le_of_ble_eq_true rfl, Nat.le_of_ble_eq_true rfl⟩) (cpre_V (ci := 4) (q0 := 0) hK hPc hDc rfl rfl) rfl rfl hl.1 rfl (lv_room (Nat.le_of_ble_eq_true rfl)) dX5_use_169 ⟨Nat.le_of_ble_eq_true rfl, Nat.le_of_ble_eq_true rfl⟩) hS (fun q _ h => hFc q h) hFc (fun u32 t H1 locs ht hvm hok hB hz1 hk1 hS => ?_)
    obtain ⟨hP, hD⟩ := cjoin_w ht hB hFc
    refine lv_goto (tgt := 302) hx hb dX5_use_172 (by decide) ?_
    exact W.vret hx hb hr (fun t ht hW => ⟨⟨u32, rfl, hok, by rw [ht]; exact hP, va_K.moved hW.alike hK, hD⟩, hS.F ht⟩) hS.2.2 dX5_use_302
  have hok := hok.2
  by_cases c33 : a1 = 10
  · have hok := hok.1 c33
    refine lv_tableIn (tgt := 175) (off := 174) hx hb dX5_use_1 (by rw [c33]; decide) (by rw [c33]; decide) (by rw [c33]; decide) (by decide) ?_
    refine lv_aload_n hx hb dX5_use_175 rfl (lv_at hl 0 rfl) ?_
    refine lv_aload_n hx hb dX5_use_176 rfl (lv_at hl 0 rfl) ?_
    refine va_get (D := (dC, dI)) (ci := 4) (v := .int (σ.1 2)) (C := RX5) (T := TX5) (N := 15) hx hb hts (fun w h => List.mem_cons_of_mem _ (in_X5 w h)) hown hK hP 0 rfl rfl 2 (by decide) (hts _ (List.mem_cons_of_mem _ tw_1_151)) (fun _ h9 => h9) rfl dX5_use_177 ?_
    refine lv_iload_n hx hb dX5_use_180 rfl (lv_at hl 2 rfl) ?_
    have hPc := hP
    have hDc := hD
    have hFc := va_free (wc := w_Proc h cI cJ σ) hD hS hA [0, 1, 2, 3, 4, 5, 6, 7, 8, 9] rfl
    refine va_callv (va_runV (As := [.int (σ.1 2), .int a2]) (rest := []) ⟨hx, hb, hml, hown, hts⟩ (c_X5_compare l dC dI cI cJ h _ hok) (cwV 2 hts (tb_gV tw_2_157 tw_2_159 tw_p_14 tw_1_6 tw_2_160) rfl rfl rfl (by decide +kernel) ⟨Nat.le_of_ble_eq_true rfl, Nat.le_of_ble_eq_true rfl⟩) (cpre_V (ci := 4) (q0 := 0) hK hPc hDc rfl rfl) rfl rfl hl.1 rfl (lv_room (Nat.le_of_ble_eq_true rfl)) dX5_use_181 ⟨Nat.le_of_ble_eq_true rfl, Nat.le_of_ble_eq_true rfl⟩) hS (fun q _ h => hFc q h) hFc (fun u34 t H1 locs ht hvm hok hB hz1 hk1 hS => ?_)
    obtain ⟨hP, hD⟩ := cjoin_w ht hB hFc
    refine lv_goto (tgt := 302) hx hb dX5_use_184 (by decide) ?_
    exact W.vret hx hb hr (fun t ht hW => ⟨⟨u34, rfl, hok, by rw [ht]; exact hP, va_K.moved hW.alike hK, hD⟩, hS.F ht⟩) hS.2.2 dX5_use_302
  have hok := hok.2
  by_cases c35 : a1 = 11
  · have hok := hok.1 c35
    refine lv_tableIn (tgt := 243) (off := 242) hx hb dX5_use_1 (by rw [c35]; decide) (by rw [c35]; decide) (by rw [c35]; decide) (by decide) ?_
    refine lv_aload_n hx hb dX5_use_243 rfl (lv_at hl 0 rfl) ?_
    refine lv_iconst (v := 2) hx hb dX5_use_244 (by decide) ?_
    refine lv_aload_n hx hb dX5_use_245 rfl (lv_at hl 0 rfl) ?_
    refine va_get (D := (dC, dI)) (ci := 4) (v := .int (σ.1 0)) (C := RX5) (T := TX5) (N := 15) hx hb hts (fun w h => List.mem_cons_of_mem _ (in_X5 w h)) hown hK hP 0 rfl rfl 0 (by decide) (hts _ (List.mem_cons_of_mem _ tw_1_148)) (fun _ h9 => h9) rfl dX5_use_246 ?_
    refine lv_iload_n hx hb dX5_use_249 rfl (lv_at hl 2 rfl) ?_
    refine lv_iand hx hb dX5_use_250 ?_
    refine lv_if_ne (tgt := 258) hx hb dX5_use_251 (by decide) (fun c36 => ?_) (fun c36 => ?_)
    · have hok := hok.2 c36
      refine lv_iconst (v := 0) hx hb dX5_use_258 (by decide) ?_
      exact b259 σ a2 2 0 hok _ _ hP hD hS _ (lv_sub hl [0, 2] rfl)
    · have hok := hok.1 c36
      refine lv_iconst (v := 1) hx hb dX5_use_254 (by decide) ?_
      refine lv_goto (tgt := 259) hx hb dX5_use_255 (by decide) ?_
      exact b259 σ a2 2 1 hok _ _ hP hD hS _ (lv_sub hl [0, 2] rfl)
  have hok := hok.2
  have hok := hok ⟨c3, c6, c9, c12, c16, c19, c21, c25, c28, c31, c33, c35⟩
  have kz36 : ∀ k ∈ ([0, 1, 2, 3, 4, 5, 6, 7, 8, 9, 10, 11] : List Int), (a1).toInt ≠ k := List.forall_mem_cons.mpr ⟨tb_ne c3 rfl, List.forall_mem_cons.mpr ⟨tb_ne c6 rfl, List.forall_mem_cons.mpr ⟨tb_ne c9 rfl, List.forall_mem_cons.mpr ⟨tb_ne c12 rfl, List.forall_mem_cons.mpr ⟨tb_ne c16 rfl, List.forall_mem_cons.mpr ⟨tb_ne c19 rfl, List.forall_mem_cons.mpr ⟨tb_ne c21 rfl, List.forall_mem_cons.mpr ⟨tb_ne c25 rfl, List.forall_mem_cons.mpr ⟨tb_ne c28 rfl, List.forall_mem_cons.mpr ⟨tb_ne c31 rfl, List.forall_mem_cons.mpr ⟨tb_ne c33 rfl, List.forall_mem_cons.mpr ⟨tb_ne c35 rfl, fun k h => absurd h List.not_mem_nil⟩⟩⟩⟩⟩⟩⟩⟩⟩⟩⟩⟩
  refine tb_def (tgt := 283) (keys := [0, 1, 2, 3, 4, 5, 6, 7, 8, 9, 10, 11]) hx hb dX5_use_1 kz36 (by decide) (by decide) ?_
  refine lv_aload_n hx hb dX5_use_283 rfl (lv_at hl 0 rfl) ?_
  refine lv_iconst (v := 2) hx hb dX5_use_284 (by decide) ?_
  refine lv_aload_n hx hb dX5_use_285 rfl (lv_at hl 0 rfl) ?_
  refine va_get (D := (dC, dI)) (ci := 4) (v := .int (σ.1 0)) (C := RX5) (T := TX5) (N := 15) hx hb hts (fun w h => List.mem_cons_of_mem _ (in_X5 w h)) hown hK hP 0 rfl rfl 0 (by decide) (hts _ (List.mem_cons_of_mem _ tw_1_148)) (fun _ h9 => h9) rfl dX5_use_286 ?_
  refine lv_iload_n hx hb dX5_use_289 rfl (lv_at hl 2 rfl) ?_
  refine lv_iand hx hb dX5_use_290 ?_
  refine lv_if_ne (tgt := 298) hx hb dX5_use_291 (by decide) (fun c37 => ?_) (fun c37 => ?_)
  · have hok := hok.2 c37
    refine lv_iconst (v := 0) hx hb dX5_use_298 (by decide) ?_
    have hPc := hP
    have hDc := hD
    have hFc := va_free (wc := w_Proc h cI cJ σ) hD hS hA [0, 1, 2, 3, 4, 5, 6, 7, 8, 9] rfl
    refine va_callv (va_runV (As := [.int 2, .int 0]) (rest := []) ⟨hx, hb, hml, hown, hts⟩ (c_X5_mark l dC dI cI cJ h _ hok) (cwV 2 hts (tb_gV tw_2_161 tw_2_163 tw_p_15 tw_1_6 tw_2_164) rfl rfl rfl (by decide +kernel) ⟨Nat.le_of_ble_eq_true rfl, Nat.le_of_ble_eq_true rfl⟩) (cpre_V (ci := 4) (q0 := 0) hK hPc hDc rfl rfl) rfl rfl hl.1 rfl (lv_room (Nat.le_of_ble_eq_true rfl)) dX5_use_299 ⟨Nat.le_of_ble_eq_true rfl, Nat.le_of_ble_eq_true rfl⟩) hS (fun q _ h => hFc q h) hFc (fun u38 t H1 locs ht hvm hok hB hz1 hk1 hS => ?_)
    obtain ⟨hP, hD⟩ := cjoin_w ht hB hFc
    exact W.vret hx hb hr (fun t ht hW => ⟨⟨u38, rfl, hok, by rw [ht]; exact hP, va_K.moved hW.alike hK, hD⟩, hS.F ht⟩) hS.2.2 dX5_use_302
  · have hok := hok.1 c37
    refine lv_iconst (v := 1) hx hb dX5_use_294 (by decide) ?_
    refine lv_goto (tgt := 299) hx hb dX5_use_295 (by decide) ?_
    have hPc := hP
    have hDc := hD
    have hFc := va_free (wc := w_Proc h cI cJ σ) hD hS hA [0, 1, 2, 3, 4, 5, 6, 7, 8, 9] rfl
    refine va_callv (va_runV (As := [.int 2, .int 1]) (rest := []) ⟨hx, hb, hml, hown, hts⟩ (c_X5_mark l dC dI cI cJ h _ hok) (cwV 2 hts (tb_gV tw_2_161 tw_2_163 tw_p_15 tw_1_6 tw_2_164) rfl rfl rfl (by decide +kernel) ⟨Nat.le_of_ble_eq_true rfl, Nat.le_of_ble_eq_true rfl⟩) (cpre_V (ci := 4) (q0 := 0) hK hPc hDc rfl rfl) rfl rfl hl.1 rfl (lv_room (Nat.le_of_ble_eq_true rfl)) dX5_use_299 ⟨Nat.le_of_ble_eq_true rfl, Nat.le_of_ble_eq_true rfl⟩) hS (fun q _ h => hFc q h) hFc (fun u39 t H1 locs ht hvm hok hB hz1 hk1 hS => ?_)
    obtain ⟨hP, hD⟩ := cjoin_w ht hB hFc
    exact W.vret hx hb hr (fun t ht hW => ⟨⟨u39, rfl, hok, by rw [ht]; exact hP, va_K.moved hW.alike hK, hD⟩, hS.F ht⟩) hS.2.2 dX5_use_302
