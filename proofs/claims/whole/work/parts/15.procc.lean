def wp_X5_jump (σ : S_Proc) (a1 : Int32) (a2 : Int32) (Φ : S_Proc → Prop) : Prop := ((a1 = 112 → (Φ (upd σ.1 5 a2, σ.2.1, σ.2.2.1, σ.2.2.2))) ∧ (a1 = 113 → (wp_X5_wordAt σ a2 (fun r3 u4 => Φ (upd u4.1 5 r3, u4.2.1, u4.2.2.1, u4.2.2.2)))) ∧ (a1 = 114 → (∀ v6 : Int32, v6 = (((σ.1 5) - (1 : Int32)) &&& (65535 : Int32)) >>> ((8 : Int32) &&& 31) → wp_X5_push σ v6 (fun u7 => ∀ v8 : Int32, v8 = (((σ.1 5) - (1 : Int32)) &&& (65535 : Int32)) &&& (255 : Int32) → wp_X5_push u7 v8 (fun u9 => Φ (upd u9.1 5 a2, u9.2.1, u9.2.2.1, u9.2.2.2))))) ∧ (a1 = 115 → (wp_X5_pull σ (fun r11 u12 => wp_X5_pull u12 (fun r13 u14 => ∀ v15 : Int32, v15 = (r11 ||| (r13 <<< ((8 : Int32) &&& 31))) + (1 : Int32) → Φ (upd u14.1 5 (v15 &&& (65535 : Int32)), u14.2.1, u14.2.2.1, u14.2.2.2))))) ∧ (a1 = 116 → (wp_X5_pull σ (fun r17 u18 => wp_X5_pull (upd u18.1 4 (r17 ||| (48 : Int32)), u18.2.1, u18.2.2.1, u18.2.2.2) (fun r19 u20 => wp_X5_pull u20 (fun r21 u22 => Φ (upd u22.1 5 (r19 ||| (r21 <<< ((8 : Int32) &&& 31))), u22.2.1, u22.2.2.1, u22.2.2.2)))))) ∧ ((¬ a1 = 112 ∧ ¬ a1 = 113 ∧ ¬ a1 = 114 ∧ ¬ a1 = 115 ∧ ¬ a1 = 116) → (wp_X5_interrupt (upd σ.1 5 (((σ.1 5) + (1 : Int32)) &&& (65535 : Int32)), σ.2.1, σ.2.2.1, σ.2.2.2) 65534 (σ.1 4) (fun u23 => Φ u23))))
set_option maxHeartbeats 4000000 in
set_option maxRecDepth 100000 in
theorem c_X5_jump (l : Launch) (dC : Nat → ClassId) (dI : Nat → Nat → Nat) (cI cJ : ClassId) (h : Nat → Nat) (sz : Nat) {σ : S_Proc} {a1 : Int32} {a2 : Int32} {Φ : S_Proc → Prop} (hok : wp_X5_jump σ a1 a2 Φ) : Met l yX5_jump wsX5_jump ({ frames := 4, cells := 0, slots := 0, locals := 90 }) (va_Pc [.ref (h 1), .int a1, .int a2] (cpre dC dI cI cJ (w_Proc h cI cJ σ) sz)) (va_Qv Φ (fun u => cpost dC dI cI cJ (va_A (w_Proc h cI cJ σ) sz) (w_Proc h cI cJ u)) (va_A (w_Proc h cI cJ σ) sz)) 0 0 (va_A (w_Proc h cI cJ σ) sz) := by
  refine Met.ofW (cc := cX5_jump) (maxL := 4) (ret := none) (by decide) rfl ?_
  intro p e s m args below meth c s₁ B hml hv
  obtain ⟨rfl, hsz, hP, hK, hD0⟩ := hv
  have hx := B.exec
  have hb := B.bytes
  have hr := B.returns
  have hts := atoms_spec (ws := wsX5_jump) B.pre
  have hown : s.vm.findClass RX5 = some m.cls := findClass_of_methodNamed B.named
  have hlocks := B.notSynchronized
  subst hsz
  have hD := hD0.self (sz := s.heap.size)
  generalize hAe : va_A (w_Proc h cI cJ σ) s.heap.size = A at hD ⊢
  have hA : ∀ q : Nat, s.heap.size ≤ q → A q := fun q h => by rw [← hAe]; exact Or.inr h
  clear hD0 hAe
  have hS : va_S A s.heap s.heap [] := va_S.rf
  have hl := lv_entry ([.ref (h 1), .int a1, .int a2]) (n := 4) (Nat.le_of_ble_eq_true rfl)
  rw [lg_entry_eq]
  generalize (lg_sl ([.ref (h 1), .int a1, .int a2]) ++ List.replicate (4 - (lg_sl ([.ref (h 1), .int a1, .int a2])).length) Slot.unset).toArray = ls at hl ⊢
  have hl : lv_has ls 4 [(0, .ref (h 1)), (1, .int a1), (2, .int a2)] := hl
  unfold wp_X5_jump at hok
  refine lv_iload_n hx hb dX5_jump_0 rfl (lv_at hl 1 rfl) ?_
  by_cases c1 : a1 = 112
  · have hok := hok.1 c1
    refine lv_tableIn (tgt := 36) (off := 35) hx hb dX5_jump_1 (by rw [c1]; decide) (by rw [c1]; decide) (by rw [c1]; decide) (by decide) ?_
    refine lv_aload_n hx hb dX5_jump_36 rfl (lv_at hl 0 rfl) ?_
    refine lv_iload_n hx hb dX5_jump_37 rfl (lv_at hl 2 rfl) ?_
    refine va_put (D := (dC, dI)) (ci := 4) (v := .int a2) (ty := .int) (C := RX5) (T := TX5) (N := 15) hx hb hts (fun w h => List.mem_cons_of_mem _ (in_X5 w h)) tyX5 tyX5_ok nmX5 hown hK hP hD hS 0 rfl rfl 5 (by decide) (hts _ (List.mem_cons_of_mem _ tw_1_157)) (fun _ h9 => h9) rfl (by decide +kernel) rfl rfl (Nat.le_of_ble_eq_true rfl) dX5_jump_38 (fun H locs hP hD hS => ?_)
    have hP : va_P (dC, dI) vwCl (w_Proc h cI cJ (upd σ.1 5 a2, σ.2.1, σ.2.2.1, σ.2.2.2)) _ := hP
    have hD : va_D A (w_Proc h cI cJ (upd σ.1 5 a2, σ.2.1, σ.2.2.1, σ.2.2.2)) := hD
    refine lv_goto (tgt := 172) hx hb dX5_jump_41 (by decide) ?_
    exact W.vret hx hb hr (fun t ht hW => ⟨⟨(upd σ.1 5 a2, σ.2.1, σ.2.2.1, σ.2.2.2), rfl, hok, by rw [ht]; exact hP, va_K.moved hW.alike hK, hD⟩, hS.F ht⟩) hS.2.2 dX5_jump_172
  have hok := hok.2
  by_cases c2 : a1 = 113
  · have hok := hok.1 c2
    refine lv_tableIn (tgt := 44) (off := 43) hx hb dX5_jump_1 (by rw [c2]; decide) (by rw [c2]; decide) (by rw [c2]; decide) (by decide) ?_
    refine lv_aload_n hx hb dX5_jump_44 rfl (lv_at hl 0 rfl) ?_
    refine lv_aload_n hx hb dX5_jump_45 rfl (lv_at hl 0 rfl) ?_
    refine lv_iload_n hx hb dX5_jump_46 rfl (lv_at hl 2 rfl) ?_
    have hPc := hP
    have hDc := hD
    have hFc := va_free (wc := w_Proc h cI cJ σ) hD hS hA [0, 1, 2, 3, 4, 5, 6, 7, 8, 9] rfl
    refine va_calli (va_runV (As := [.int a2]) (rest := [.ref (h 1)]) ⟨hx, hb, hml, hown, hts⟩ (c_X5_wordAt l dC dI cI cJ h _ hok) (cwV 1 hts (tb_gV tw_2_10 tw_2_12 tw_p_0 tw_1_6 tw_2_13) rfl rfl rfl (by decide +kernel) ⟨Nat.le_of_ble_eq_true rfl, Nat.le_of_ble_eq_true rfl⟩) (cpre_V (ci := 4) (q0 := 0) hK hPc hDc rfl rfl) rfl rfl hl.1 rfl (lv_room (Nat.le_of_ble_eq_true rfl)) dX5_jump_47 ⟨Nat.le_of_ble_eq_true rfl, Nat.le_of_ble_eq_true rfl⟩) hS (fun q _ h => hFc q h) hFc (fun r3 u4 t H1 locs ht hvm hok hB hz1 hk1 hS => ?_)
    obtain ⟨hP, hD⟩ := cjoin_w ht hB hFc
    refine va_put (D := (dC, dI)) (ci := 4) (v := .int r3) (ty := .int) (C := RX5) (T := TX5) (N := 15) hx hb hts (fun w h => List.mem_cons_of_mem _ (in_X5 w h)) tyX5 tyX5_ok nmX5 hown hK hP hD hS 0 rfl rfl 5 (by decide) (hts _ (List.mem_cons_of_mem _ tw_1_157)) (fun _ h9 => h9) rfl (by decide +kernel) rfl rfl (Nat.le_of_ble_eq_true rfl) dX5_jump_50 (fun H locs hP hD hS => ?_)
    have hP : va_P (dC, dI) vwCl (w_Proc h cI cJ (upd u4.1 5 r3, u4.2.1, u4.2.2.1, u4.2.2.2)) _ := hP
    have hD : va_D A (w_Proc h cI cJ (upd u4.1 5 r3, u4.2.1, u4.2.2.1, u4.2.2.2)) := hD
    refine lv_goto (tgt := 172) hx hb dX5_jump_53 (by decide) ?_
    exact W.vret hx hb hr (fun t ht hW => ⟨⟨(upd u4.1 5 r3, u4.2.1, u4.2.2.1, u4.2.2.2), rfl, hok, by rw [ht]; exact hP, va_K.moved hW.alike hK, hD⟩, hS.F ht⟩) hS.2.2 dX5_jump_172
  have hok := hok.2
  by_cases c5 : a1 = 114
  · have hok := hok.1 c5
    refine lv_tableIn (tgt := 56) (off := 55) hx hb dX5_jump_1 (by rw [c5]; decide) (by rw [c5]; decide) (by rw [c5]; decide) (by decide) ?_
    refine lv_aload_n hx hb dX5_jump_56 rfl (lv_at hl 0 rfl) ?_
    refine va_get (D := (dC, dI)) (ci := 4) (v := .int (σ.1 5)) (C := RX5) (T := TX5) (N := 15) hx hb hts (fun w h => List.mem_cons_of_mem _ (in_X5 w h)) hown hK hP 0 rfl rfl 5 (by decide) (hts _ (List.mem_cons_of_mem _ tw_1_157)) (fun _ h9 => h9) rfl dX5_jump_57 ?_
    refine lv_iconst (v := 1) hx hb dX5_jump_60 (by decide) ?_
    refine lv_isub hx hb dX5_jump_61 ?_
    refine lv_ldc (v := 65535) hx hb hown (hts _ (List.mem_cons_of_mem _ tw_2_60)) dX5_jump_62 ?_
    refine lv_iand hx hb dX5_jump_64 ?_
    refine lv_istore_n (lv' := [(3, .int (((σ.1 5) - (1 : Int32)) &&& (65535 : Int32))), (0, .ref (h 1)), (1, .int a1), (2, .int a2)]) hx hb dX5_jump_65 rfl hl (by decide) rfl (fun ls hl => ?_)
    refine lv_aload_n hx hb dX5_jump_66 rfl (lv_at hl 1 rfl) ?_
    refine lv_iload_n hx hb dX5_jump_67 rfl (lv_at hl 0 rfl) ?_
    refine lv_bipush (v := 8) hx hb dX5_jump_68 (by decide) ?_
    refine lv_ishr hx hb dX5_jump_70 ?_
    refine lv_topi (fun v6 ev6 => ?_)
    have hok := hok v6 ev6
    have hPc := hP
    have hDc := hD
    have hFc := va_free (wc := w_Proc h cI cJ σ) hD hS hA [0, 1, 2, 3, 4, 5, 6, 7, 8, 9] rfl
    refine va_callv (va_runV (As := [.int v6]) (rest := []) ⟨hx, hb, hml, hown, hts⟩ (c_X5_push l dC dI cI cJ h _ hok) (cwV 1 hts (tb_gV tw_2_92 tw_2_94 tw_p_6 tw_1_6 tw_2_95) rfl rfl rfl (by decide +kernel) ⟨Nat.le_of_ble_eq_true rfl, Nat.le_of_ble_eq_true rfl⟩) (cpre_V (ci := 4) (q0 := 0) hK hPc hDc rfl rfl) rfl rfl hl.1 rfl (lv_room (Nat.le_of_ble_eq_true rfl)) dX5_jump_71 ⟨Nat.le_of_ble_eq_true rfl, Nat.le_of_ble_eq_true rfl⟩) hS (fun q _ h => hFc q h) hFc (fun u7 t H1 locs ht hvm hok hB hz1 hk1 hS => ?_)
    obtain ⟨hP, hD⟩ := cjoin_w ht hB hFc
    refine lv_aload_n hx hb dX5_jump_74 rfl (lv_at hl 1 rfl) ?_
    refine lv_iload_n hx hb dX5_jump_75 rfl (lv_at hl 0 rfl) ?_
    refine lv_sipush (v := 255) hx hb dX5_jump_76 (by decide) ?_
    refine lv_iand hx hb dX5_jump_79 ?_
    refine lv_topi (fun v8 ev8 => ?_)
    have hok := hok v8 ev8
    have hPc := hP
    have hDc := hD
    have hFc := va_free (wc := w_Proc h cI cJ u7) hD hS hA [0, 1, 2, 3, 4, 5, 6, 7, 8, 9] rfl
    refine va_callv (va_runV (As := [.int v8]) (rest := []) ⟨hx, hb, hml, hown, hts⟩ (c_X5_push l dC dI cI cJ h _ hok) (cwV 1 hts (tb_gV tw_2_92 tw_2_94 tw_p_6 tw_1_6 tw_2_95) rfl rfl rfl (by decide +kernel) ⟨Nat.le_of_ble_eq_true rfl, Nat.le_of_ble_eq_true rfl⟩) (cpre_V (ci := 4) (q0 := 0) hK hPc hDc rfl rfl) rfl rfl hl.1 rfl (lv_room (Nat.le_of_ble_eq_true rfl)) dX5_jump_80 ⟨Nat.le_of_ble_eq_true rfl, Nat.le_of_ble_eq_true rfl⟩) hS (fun q _ h => hFc q h) hFc (fun u9 t H1 locs ht hvm hok hB hz1 hk1 hS => ?_)
    obtain ⟨hP, hD⟩ := cjoin_w ht hB hFc
    refine lv_aload_n hx hb dX5_jump_83 rfl (lv_at hl 1 rfl) ?_
    refine lv_iload_n hx hb dX5_jump_84 rfl (lv_at hl 3 rfl) ?_
    refine va_put (D := (dC, dI)) (ci := 4) (v := .int a2) (ty := .int) (C := RX5) (T := TX5) (N := 15) hx hb hts (fun w h => List.mem_cons_of_mem _ (in_X5 w h)) tyX5 tyX5_ok nmX5 hown hK hP hD hS 0 rfl rfl 5 (by decide) (hts _ (List.mem_cons_of_mem _ tw_1_157)) (fun _ h9 => h9) rfl (by decide +kernel) rfl rfl (Nat.le_of_ble_eq_true rfl) dX5_jump_85 (fun H locs hP hD hS => ?_)
    have hP : va_P (dC, dI) vwCl (w_Proc h cI cJ (upd u9.1 5 a2, u9.2.1, u9.2.2.1, u9.2.2.2)) _ := hP
    have hD : va_D A (w_Proc h cI cJ (upd u9.1 5 a2, u9.2.1, u9.2.2.1, u9.2.2.2)) := hD
    refine lv_goto (tgt := 172) hx hb dX5_jump_88 (by decide) ?_
    exact W.vret hx hb hr (fun t ht hW => ⟨⟨(upd u9.1 5 a2, u9.2.1, u9.2.2.1, u9.2.2.2), rfl, hok, by rw [ht]; exact hP, va_K.moved hW.alike hK, hD⟩, hS.F ht⟩) hS.2.2 dX5_jump_172
  have hok := hok.2
  by_cases c10 : a1 = 115
  · have hok := hok.1 c10
    refine lv_tableIn (tgt := 91) (off := 90) hx hb dX5_jump_1 (by rw [c10]; decide) (by rw [c10]; decide) (by rw [c10]; decide) (by decide) ?_
    refine lv_aload_n hx hb dX5_jump_91 rfl (lv_at hl 0 rfl) ?_
    have hPc := hP
    have hDc := hD
    have hFc := va_free (wc := w_Proc h cI cJ σ) hD hS hA [0, 1, 2, 3, 4, 5, 6, 7, 8, 9] rfl
    refine va_calli (va_runV (As := []) (rest := []) ⟨hx, hb, hml, hown, hts⟩ (c_X5_pull l dC dI cI cJ h _ hok) (cwV 0 hts (tb_gV tw_2_209 tw_2_211 tw_p_27 tw_1_6 tw_2_212) rfl rfl rfl (by decide +kernel) ⟨Nat.le_of_ble_eq_true rfl, Nat.le_of_ble_eq_true rfl⟩) (cpre_V (ci := 4) (q0 := 0) hK hPc hDc rfl rfl) rfl rfl hl.1 rfl (lv_room (Nat.le_of_ble_eq_true rfl)) dX5_jump_92 ⟨Nat.le_of_ble_eq_true rfl, Nat.le_of_ble_eq_true rfl⟩) hS (fun q _ h => hFc q h) hFc (fun r11 u12 t H1 locs ht hvm hok hB hz1 hk1 hS => ?_)
    obtain ⟨hP, hD⟩ := cjoin_w ht hB hFc
    refine lv_istore_n (lv' := [(3, .int r11), (0, .ref (h 1)), (1, .int a1), (2, .int a2)]) hx hb dX5_jump_95 rfl hl (by decide) rfl (fun ls hl => ?_)
    refine lv_aload_n hx hb dX5_jump_96 rfl (lv_at hl 1 rfl) ?_
    refine lv_iload_n hx hb dX5_jump_97 rfl (lv_at hl 0 rfl) ?_
    refine lv_aload_n hx hb dX5_jump_98 rfl (lv_at hl 1 rfl) ?_
    have hPc := hP
    have hDc := hD
    have hFc := va_free (wc := w_Proc h cI cJ u12) hD hS hA [0, 1, 2, 3, 4, 5, 6, 7, 8, 9] rfl
    refine va_calli (va_runV (As := []) (rest := [.int r11, .ref (h 1)]) ⟨hx, hb, hml, hown, hts⟩ (c_X5_pull l dC dI cI cJ h _ hok) (cwV 0 hts (tb_gV tw_2_209 tw_2_211 tw_p_27 tw_1_6 tw_2_212) rfl rfl rfl (by decide +kernel) ⟨Nat.le_of_ble_eq_true rfl, Nat.le_of_ble_eq_true rfl⟩) (cpre_V (ci := 4) (q0 := 0) hK hPc hDc rfl rfl) rfl rfl hl.1 rfl (lv_room (Nat.le_of_ble_eq_true rfl)) dX5_jump_99 ⟨Nat.le_of_ble_eq_true rfl, Nat.le_of_ble_eq_true rfl⟩) hS (fun q _ h => hFc q h) hFc (fun r13 u14 t H1 locs ht hvm hok hB hz1 hk1 hS => ?_)
    obtain ⟨hP, hD⟩ := cjoin_w ht hB hFc
    refine lv_bipush (v := 8) hx hb dX5_jump_102 (by decide) ?_
    refine lv_ishl hx hb dX5_jump_104 ?_
    refine lv_ior hx hb dX5_jump_105 ?_
    refine lv_iconst (v := 1) hx hb dX5_jump_106 (by decide) ?_
    refine lv_iadd hx hb dX5_jump_107 ?_
    refine lv_topi (fun v15 ev15 => ?_)
    have hok := hok v15 ev15
    refine lv_ldc (v := 65535) hx hb hown (hts _ (List.mem_cons_of_mem _ tw_2_60)) dX5_jump_108 ?_
    refine lv_iand hx hb dX5_jump_110 ?_
    refine va_put (D := (dC, dI)) (ci := 4) (v := .int (v15 &&& (65535 : Int32))) (ty := .int) (C := RX5) (T := TX5) (N := 15) hx hb hts (fun w h => List.mem_cons_of_mem _ (in_X5 w h)) tyX5 tyX5_ok nmX5 hown hK hP hD hS 0 rfl rfl 5 (by decide) (hts _ (List.mem_cons_of_mem _ tw_1_157)) (fun _ h9 => h9) rfl (by decide +kernel) rfl rfl (Nat.le_of_ble_eq_true rfl) dX5_jump_111 (fun H locs hP hD hS => ?_)
    have hP : va_P (dC, dI) vwCl (w_Proc h cI cJ (upd u14.1 5 (v15 &&& (65535 : Int32)), u14.2.1, u14.2.2.1, u14.2.2.2)) _ := hP
    have hD : va_D A (w_Proc h cI cJ (upd u14.1 5 (v15 &&& (65535 : Int32)), u14.2.1, u14.2.2.1, u14.2.2.2)) := hD
    refine lv_goto (tgt := 172) hx hb dX5_jump_114 (by decide) ?_
    exact W.vret hx hb hr (fun t ht hW => ⟨⟨(upd u14.1 5 (v15 &&& (65535 : Int32)), u14.2.1, u14.2.2.1, u14.2.2.2), rfl, hok, by rw [ht]; exact hP, va_K.moved hW.alike hK, hD⟩, hS.F ht⟩) hS.2.2 dX5_jump_172
  have hok := hok.2
  by_cases c16 : a1 = 116
  · have hok := hok.1 c16
    refine lv_tableIn (tgt := 117) (off := 116) hx hb dX5_jump_1 (by rw [c16]; decide) (by rw [c16]; decide) (by rw [c16]; decide) (by decide) ?_
    refine lv_aload_n hx hb dX5_jump_117 rfl (lv_at hl 0 rfl) ?_
    refine lv_aload_n hx hb dX5_jump_118 rfl (lv_at hl 0 rfl) ?_
    have hPc := hP
    have hDc := hD
    have hFc := va_free (wc := w_Proc h cI cJ σ) hD hS hA [0, 1, 2, 3, 4, 5, 6, 7, 8, 9] rfl
    refine va_calli (va_runV (As := []) (rest := [.ref (h 1)]) ⟨hx, hb, hml, hown, hts⟩ (c_X5_pull l dC dI cI cJ h _ hok) (cwV 0 hts (tb_gV tw_2_209 tw_2_211 tw_p_27 tw_1_6 tw_2_212) rfl rfl rfl (by decide +kernel) ⟨Nat.le_of_ble_eq_true rfl, Nat.le_of_ble_eq_true rfl⟩) (cpre_V (ci := 4) (q0 := 0) hK hPc hDc rfl rfl) rfl rfl hl.1 rfl (lv_room (Nat.le_of_ble_eq_true rfl)) dX5_jump_119 ⟨Nat.le_of_ble_eq_true rfl, Nat.le_of_ble_eq_true rfl⟩) hS (fun q _ h => hFc q h) hFc (fun r17 u18 t H1 locs ht hvm hok hB hz1 hk1 hS => ?_)
    obtain ⟨hP, hD⟩ := cjoin_w ht hB hFc
    refine lv_bipush (v := 48) hx hb dX5_jump_122 (by decide) ?_
    refine lv_ior hx hb dX5_jump_124 ?_
    refine va_put (D := (dC, dI)) (ci := 4) (v := .int (r17 ||| (48 : Int32))) (ty := .int) (C := RX5) (T := TX5) (N := 15) hx hb hts (fun w h => List.mem_cons_of_mem _ (in_X5 w h)) tyX5 tyX5_ok nmX5 hown hK hP hD hS 0 rfl rfl 4 (by decide) (hts _ (List.mem_cons_of_mem _ tw_1_155)) (fun _ h9 => h9) rfl (by decide +kernel) rfl rfl (Nat.le_of_ble_eq_true rfl) dX5_jump_125 (fun H locs hP hD hS => ?_)
    have hP : va_P (dC, dI) vwCl (w_Proc h cI cJ (upd u18.1 4 (r17 ||| (48 : Int32)), u18.2.1, u18.2.2.1, u18.2.2.2)) _ := hP
    have hD : va_D A (w_Proc h cI cJ (upd u18.1 4 (r17 ||| (48 : Int32)), u18.2.1, u18.2.2.1, u18.2.2.2)) := hD
    refine lv_aload_n hx hb dX5_jump_128 rfl (lv_at hl 0 rfl) ?_
    have hPc := hP
    have hDc := hD
    have hFc := va_free (wc := w_Proc h cI cJ (upd u18.1 4 (r17 ||| (48 : Int32)), u18.2.1, u18.2.2.1, u18.2.2.2)) hD hS hA [0, 1, 2, 3, 4, 5, 6, 7, 8, 9] rfl
    refine va_calli (va_runV (As := []) (rest := []) ⟨hx, hb, hml, hown, hts⟩ (c_X5_pull l dC dI cI cJ h _ hok) (cwV 0 hts (tb_gV tw_2_209 tw_2_211 tw_p_27 tw_1_6 tw_2_212) rfl rfl rfl (by decide +kernel) ⟨Nat.le_of_ble_eq_true rfl, Nat.le_of_ble_eq_true rfl⟩) (cpre_V (ci := 4) (q0 := 0) hK hPc hDc rfl rfl) rfl rfl hl.1 rfl (lv_room (Nat.le_of_ble_eq_true rfl)) dX5_jump_129 ⟨Nat.le_of_ble_eq_true rfl, Nat.le_of_ble_eq_true rfl⟩) hS (fun q _ h => hFc q h) hFc (fun r19 u20 t H1 locs ht hvm hok hB hz1 hk1 hS => ?_)
    obtain ⟨hP, hD⟩ := cjoin_w ht hB hFc
    refine lv_istore_n (lv' := [(3, .int r19), (0, .ref (h 1)), (1, .int a1), (2, .int a2)]) hx hb dX5_jump_132 rfl hl (by decide) rfl (fun ls hl => ?_)
    refine lv_aload_n hx hb dX5_jump_133 rfl (lv_at hl 1 rfl) ?_
    refine lv_iload_n hx hb dX5_jump_134 rfl (lv_at hl 0 rfl) ?_
    refine lv_aload_n hx hb dX5_jump_135 rfl (lv_at hl 1 rfl) ?_
    have hPc := hP
    have hDc := hD
    have hFc := va_free (wc := w_Proc h cI cJ u20) hD hS hA [0, 1, 2, 3, 4, 5, 6, 7, 8, 9] rfl
    refine va_calli (va_runV (As := []) (rest := [.int r19, .ref (h 1)]) ⟨hx, hb, hml, hown, hts⟩ (c_X5_pull l dC dI cI cJ h _ hok) (cwV 0 hts (tb_gV tw_2_209 tw_2_211 tw_p_27 tw_1_6 tw_2_212) rfl rfl rfl (by decide +kernel) ⟨Nat.le_of_ble_eq_true rfl, Nat.le_of_ble_eq_true rfl⟩) (cpre_V (ci := 4) (q0 := 0) hK hPc hDc rfl rfl) rfl rfl hl.1 rfl (lv_room (Nat.le_of_ble_eq_true rfl)) dX5_jump_136 ⟨Nat.le_of_ble_eq_true rfl, Nat.le_of_ble_eq_true rfl⟩) hS (fun q _ h => hFc q h) hFc (fun r21 u22 t H1 locs ht hvm hok hB hz1 hk1 hS => ?_)
    obtain ⟨hP, hD⟩ := cjoin_w ht hB hFc
    refine lv_bipush (v := 8) hx hb dX5_jump_139 (by decide) ?_
    refine lv_ishl hx hb dX5_jump_141 ?_
    refine lv_ior hx hb dX5_jump_142 ?_
    refine va_put (D := (dC, dI)) (ci := 4) (v := .int (r19 ||| (r21 <<< ((8 : Int32) &&& 31)))) (ty := .int) (C := RX5) (T := TX5) (N := 15) hx hb hts (fun w h => List.mem_cons_of_mem _ (in_X5 w h)) tyX5 tyX5_ok nmX5 hown hK hP hD hS 0 rfl rfl 5 (by decide) (hts _ (List.mem_cons_of_mem _ tw_1_157)) (fun _ h9 => h9) rfl (by decide +kernel) rfl rfl (Nat.le_of_ble_eq_true rfl) dX5_jump_143 (fun H locs hP hD hS => ?_)
    have hP : va_P (dC, dI) vwCl (w_Proc h cI cJ (upd u22.1 5 (r19 ||| (r21 <<< ((8 : Int32) &&& 31))), u22.2.1, u22.2.2.1, u22.2.2.2)) _ := hP
    have hD : va_D A (w_Proc h cI cJ (upd u22.1 5 (r19 ||| (r21 <<< ((8 : Int32) &&& 31))), u22.2.1, u22.2.2.1, u22.2.2.2)) := hD
    refine lv_goto (tgt := 172) hx hb dX5_jump_146 (by decide) ?_
    exact W.vret hx hb hr (fun t ht hW => ⟨⟨(upd u22.1 5 (r19 ||| (r21 <<< ((8 : Int32) &&& 31))), u22.2.1, u22.2.2.1, u22.2.2.2), rfl, hok, by rw [ht]; exact hP, va_K.moved hW.alike hK, hD⟩, hS.F ht⟩) hS.2.2 dX5_jump_172
  have hok := hok.2
  have hok := hok ⟨c1, c2, c5, c10, c16⟩
  have kz22 : ∀ k ∈ ([112, 113, 114, 115, 116] : List Int), (a1).toInt ≠ k := List.forall_mem_cons.mpr ⟨tb_ne c1 rfl, List.forall_mem_cons.mpr ⟨tb_ne c2 rfl, List.forall_mem_cons.mpr ⟨tb_ne c5 rfl, List.forall_mem_cons.mpr ⟨tb_ne c10 rfl, List.forall_mem_cons.mpr ⟨tb_ne c16 rfl, fun k h => absurd h List.not_mem_nil⟩⟩⟩⟩⟩
  refine tb_def (tgt := 149) (keys := [112, 113, 114, 115, 116]) hx hb dX5_jump_1 kz22 (by decide) (by decide) ?_
  refine lv_aload_n hx hb dX5_jump_149 rfl (lv_at hl 0 rfl) ?_
  refine lv_aload_n hx hb dX5_jump_150 rfl (lv_at hl 0 rfl) ?_
  refine va_get (D := (dC, dI)) (ci := 4) (v := .int (σ.1 5)) (C := RX5) (T := TX5) (N := 15) hx hb hts (fun w h => List.mem_cons_of_mem _ (in_X5 w h)) hown hK hP 0 rfl rfl 5 (by decide) (hts _ (List.mem_cons_of_mem _ tw_1_157)) (fun _ h9 => h9) rfl dX5_jump_151 ?_
  refine lv_iconst (v := 1) hx hb dX5_jump_154 (by decide) ?_
  refine lv_iadd hx hb dX5_jump_155 ?_
  refine lv_ldc (v := 65535) hx hb hown (hts _ (List.mem_cons_of_mem _ tw_2_60)) dX5_jump_156 ?_
  refine lv_iand hx hb dX5_jump_158 ?_
  refine va_put (D := (dC, dI)) (ci := 4) (v := .int (((σ.1 5) + (1 : Int32)) &&& (65535 : Int32))) (ty := .int) (C := RX5) (T := TX5) (N := 15) hx hb hts (fun w h => List.mem_cons_of_mem _ (in_X5 w h)) tyX5 tyX5_ok nmX5 hown hK hP hD hS 0 rfl rfl 5 (by decide) (hts _ (List.mem_cons_of_mem _ tw_1_157)) (fun _ h9 => h9) rfl (by decide +kernel) rfl rfl (Nat.le_of_ble_eq_true rfl) dX5_jump_159 (fun H locs hP hD hS => ?_)
  have hP : va_P (dC, dI) vwCl (w_Proc h cI cJ (upd σ.1 5 (((σ.1 5) + (1 : Int32)) &&& (65535 : Int32)), σ.2.1, σ.2.2.1, σ.2.2.2)) _ := hP
  have hD : va_D A (w_Proc h cI cJ (upd σ.1 5 (((σ.1 5) + (1 : Int32)) &&& (65535 : Int32)), σ.2.1, σ.2.2.1, σ.2.2.2)) := hD
  refine lv_aload_n hx hb dX5_jump_162 rfl (lv_at hl 0 rfl) ?_
  refine lv_ldc (v := 65534) hx hb hown (hts _ (List.mem_cons_of_mem _ tw_2_115)) dX5_jump_163 ?_
  refine lv_aload_n hx hb dX5_jump_165 rfl (lv_at hl 0 rfl) ?_
  refine va_get (D := (dC, dI)) (ci := 4) (v := .int (σ.1 4)) (C := RX5) (T := TX5) (N := 15) hx hb hts (fun w h => List.mem_cons_of_mem _ (in_X5 w h)) hown hK hP 0 rfl rfl 4 (by decide) (hts _ (List.mem_cons_of_mem _ tw_1_155)) (fun _ h9 => h9) rfl dX5_jump_166 ?_
  have hPc := hP
  have hDc := hD
  have hFc := va_free (wc := w_Proc h cI cJ (upd σ.1 5 (((σ.1 5) + (1 : Int32)) &&& (65535 : Int32)), σ.2.1, σ.2.2.1, σ.2.2.2)) hD hS hA [0, 1, 2, 3, 4, 5, 6, 7, 8, 9] rfl
  refine va_callv (va_runV (As := [.int 65534, .int (σ.1 4)]) (rest := []) ⟨hx, hb, hml, hown, hts⟩ (c_X5_interrupt l dC dI cI cJ h _ hok) (cwV 2 hts (tb_gV tw_2_88 tw_2_90 tw_p_5 tw_1_6 tw_2_91) rfl rfl rfl (by decide +kernel) ⟨Nat.le_of_ble_eq_true rfl, Nat.le_of_ble_eq_true rfl⟩) (cpre_V (ci := 4) (q0 := 0) hK hPc hDc rfl rfl) rfl rfl hl.1 rfl (lv_room (Nat.le_of_ble_eq_true rfl)) dX5_jump_169 ⟨Nat.le_of_ble_eq_true rfl, Nat.le_of_ble_eq_true rfl⟩) hS (fun q _ h => hFc q h) hFc (fun u23 t H1 locs ht hvm hok hB hz1 hk1 hS => ?_)
  obtain ⟨hP, hD⟩ := cjoin_w ht hB hFc
  exact W.vret hx hb hr (fun t ht hW => ⟨⟨u23, rfl, hok, by rw [ht]; exact hP, va_K.moved hW.alike hK, hD⟩, hS.F ht⟩) hS.2.2 dX5_jump_172
def wp_X5_carryOut_108 (σ : S_Proc) (x1 : Int32) (x2 : Int32) (x3 : Int32) (x4 : Int32) (x5 : Int32) (Φ : S_Proc → Prop) : Prop := (((x2 >>> ((4 : Int32) &&& 31)) = 0 → (((x3 = (2 : Int32) → (wp_X5_use σ x2 x4 (fun u6 => Φ u6))) ∧ (¬ x3 = (2 : Int32) → (wp_X0_read σ.2.2.2 x5 (fun r3 u4 => wp_X5_use (σ.1, σ.2.1, σ.2.2.1, u4) x2 r3 (fun u5 => Φ u5))))))) ∧ ((x2 >>> ((4 : Int32) &&& 31)) = 1 → (wp_X5_stored σ x2 (fun r8 => wp_X0_write σ.2.2.2 x5 r8 (fun u9 => Φ (σ.1, σ.2.1, σ.2.2.1, u9))))) ∧ ((x2 >>> ((4 : Int32) &&& 31)) = 2 → (∀ v11 : Int32, v11 = (x1 >>> ((4 : Int32) &&& 31)) &&& (7 : Int32) → wp_X5_change σ x2 v11 x3 x5 (fun u12 => Φ u12))) ∧ ((x2 >>> ((4 : Int32) &&& 31)) = 3 → (wp_X5_move σ x2 (fun u14 => Φ u14))) ∧ ((x2 >>> ((4 : Int32) &&& 31)) = 4 → (wp_X5_changeState σ x2 (fun u16 => Φ u16))) ∧ ((x2 >>> ((4 : Int32) &&& 31)) = 5 → (wp_X5_pushOrPull σ x2 (fun u18 => Φ u18))) ∧ ((x2 >>> ((4 : Int32) &&& 31)) = 6 → (∀ v20 : Int32, v20 = (x1 >>> ((4 : Int32) &&& 31)) &&& (7 : Int32) → wp_X5_branch σ x2 v20 x4 (fun u21 => Φ u21))) ∧ ((x2 >>> ((4 : Int32) &&& 31)) = 7 → (wp_X5_jump σ x2 x5 (fun u23 => Φ u23))) ∧ ((¬ (x2 >>> ((4 : Int32) &&& 31)) = 0 ∧ ¬ (x2 >>> ((4 : Int32) &&& 31)) = 1 ∧ ¬ (x2 >>> ((4 : Int32) &&& 31)) = 2 ∧ ¬ (x2 >>> ((4 : Int32) &&& 31)) = 3 ∧ ¬ (x2 >>> ((4 : Int32) &&& 31)) = 4 ∧ ¬ (x2 >>> ((4 : Int32) &&& 31)) = 5 ∧ ¬ (x2 >>> ((4 : Int32) &&& 31)) = 6 ∧ ¬ (x2 >>> ((4 : Int32) &&& 31)) = 7) → (Φ σ)))
def wp_X5_carryOut_61 (σ : S_Proc) (x1 : Int32) (x2 : Int32) (x3 : Int32) (x4 : Int32) (Φ : S_Proc → Prop) : Prop := wp_X5_addressOf (upd σ.1 14 0, σ.2.1, σ.2.2.1, σ.2.2.2) x3 x4 (fun r24 u25 => (vp_in x1 256 ∧ ((((u25.1 14) = 0 → (wp_X5_carryOut_108 (upd u25.1 13 (tab 2 x1.toNatClampNeg), u25.2.1, u25.2.2.1, u25.2.2.2) x1 x2 x3 x4 r24 Φ)) ∧ (¬ (u25.1 14) = 0 → (wp_X2_paysForCrossing x2 (fun r27 => ((r27 = 0 → (wp_X5_carryOut_108 (upd u25.1 13 (tab 2 x1.toNatClampNeg), u25.2.1, u25.2.2.1, u25.2.2.2) x1 x2 x3 x4 r24 Φ)) ∧ (¬ r27 = 0 → (wp_X5_carryOut_108 (upd u25.1 13 ((tab 2 x1.toNatClampNeg) + (1 : Int32)), u25.2.1, u25.2.2.1, u25.2.2.2) x1 x2 x3 x4 r24 Φ))))))))))
def wp_X5_carryOut_41 (σ : S_Proc) (x1 : Int32) (x2 : Int32) (x3 : Int32) (s0 : Int32) (Φ : S_Proc → Prop) : Prop := ((x3 < (10 : Int32) → (wp_X5_carryOut_61 σ x1 x2 x3 s0 Φ)) ∧ (¬ x3 < (10 : Int32) → (wp_X5_fetch σ (fun r30 u31 => wp_X5_carryOut_61 u31 x1 x2 x3 (s0 ||| (r30 <<< ((8 : Int32) &&& 31))) Φ))))
def wp_X5_carryOut (σ : S_Proc) (Φ : S_Proc → Prop) : Prop := wp_X7_note σ.2.2.1 (σ.1 5) (fun u32 => wp_X5_fetch (σ.1, σ.2.1, u32, σ.2.2.2) (fun r33 u34 => (vp_in r33 256 ∧ ((vp_in r33 256 ∧ ((((tab 1 r33.toNatClampNeg) < (2 : Int32) → (wp_X5_carryOut_41 u34 r33 (tab 0 r33.toNatClampNeg) (tab 1 r33.toNatClampNeg) 0 Φ)) ∧ (¬ (tab 1 r33.toNatClampNeg) < (2 : Int32) → (wp_X5_fetch u34 (fun r36 u37 => wp_X5_carryOut_41 u37 r33 (tab 0 r33.toNatClampNeg) (tab 1 r33.toNatClampNeg) r36 Φ))))))))))
set_option maxHeartbeats 4000000 in
set_option maxRecDepth 100000 in
theorem c_X5_carryOut (l : Launch) (dC : Nat → ClassId) (dI : Nat → Nat → Nat) (cI cJ : ClassId) (h : Nat → Nat) (tt : Nat → Nat) (sz : Nat) {σ : S_Proc} {Φ : S_Proc → Prop} (hok : wp_X5_carryOut σ Φ) : Met l yX5_carryOut wsX5_carryOut ({ frames := 5, cells := 0, slots := 0, locals := 113 }) (va_Pc [.ref (h 1)] (cpreT dC dI cI cJ tt (w_Proc h cI cJ σ) sz)) (va_Qv Φ (fun u => cpost dC dI cI cJ (va_A (w_Proc h cI cJ σ) sz) (w_Proc h cI cJ u)) (va_A (w_Proc h cI cJ σ) sz)) 0 0 (va_A (w_Proc h cI cJ σ) sz) := by
  refine Met.ofW (cc := cX5_carryOut) (maxL := 6) (ret := none) (by decide) rfl ?_
  intro p e s m args below meth c s₁ B hml hv
  obtain ⟨rfl, ⟨hsz, hP, hK, hD0⟩, hT⟩ := hv
  have hx := B.exec
  have hb := B.bytes
  have hr := B.returns
  have hts := atoms_spec (ws := wsX5_carryOut) B.pre
  have hown : s.vm.findClass RX5 = some m.cls := findClass_of_methodNamed B.named
  have hlocks := B.notSynchronized
  subst hsz
  have hD := hD0.self (sz := s.heap.size)
  generalize hAe : va_A (w_Proc h cI cJ σ) s.heap.size = A at hD hT ⊢
  have hA : ∀ q : Nat, s.heap.size ≤ q → A q := fun q h => by rw [← hAe]; exact Or.inr h
  clear hD0 hAe
  have hS : va_S A s.heap s.heap [] := va_S.rf
  have b108 : ∀ (σ : S_Proc) (x1 : Int32) (x2 : Int32) (x3 : Int32) (x4 : Int32) (x5 : Int32), wp_X5_carryOut_108 σ x1 x2 x3 x4 x5 Φ → ∀ (H : Heap) (locs : List Loc), va_P (dC, dI) vwCl (w_Proc h cI cJ σ) H → va_D A (w_Proc h cI cJ σ) → va_S A s.heap H locs → ∀ ls : Array Slot, lv_has ls 6 [(0, .ref (h 1)), (1, .int x1), (2, .int x2), (3, .int x3), (4, .int x4), (5, .int x5)] → W p l e (headSpec wsX5_carryOut { frames := 5, cells := 0, slots := 0, locals := 113 }).room s m ([.ref (h 1)] : List Value).toArray below meth c H locs 0 0 (MQ below (va_Qv Φ (fun u => cpost dC dI cI cJ A (w_Proc h cI cJ u)) A) ([.ref (h 1)] : List Value).toArray s 0 0 A) (F0 m 108 ls []) := by
    intro σ x1 x2 x3 x4 x5 hok H locs hP hD hS ls hl
    unfold wp_X5_carryOut_108 at hok
    refine lv_iload_n hx hb dX5_carryOut_108 rfl (lv_at hl 2 rfl) ?_
    refine lv_iconst (v := 4) hx hb dX5_carryOut_109 (by decide) ?_
    refine lv_ishr hx hb dX5_carryOut_110 ?_
    by_cases c1 : (x2 >>> ((4 : Int32) &&& 31)) = 0
    · have hok := hok.1 c1
      refine lv_tableIn (tgt := 156) (off := 45) hx hb dX5_carryOut_111 (by rw [c1]; decide) (by rw [c1]; decide) (by rw [c1]; decide) (by decide) ?_
      refine lv_aload_n hx hb dX5_carryOut_156 rfl (lv_at hl 0 rfl) ?_
      refine lv_iload_n hx hb dX5_carryOut_157 rfl (lv_at hl 2 rfl) ?_
      refine lv_iload_n hx hb dX5_carryOut_158 rfl (lv_at hl 3 rfl) ?_
      refine lv_iconst (v := 2) hx hb dX5_carryOut_159 (by decide) ?_
      refine lv_icmp_ne (tgt := 168) hx hb dX5_carryOut_160 (by decide) (fun c2 => ?_) (fun c2 => ?_)
      · have hok := hok.2 c2
        refine lv_aload_n hx hb dX5_carryOut_168 rfl (lv_at hl 0 rfl) ?_
        refine va_get (D := (dC, dI)) (ci := 4) (v := .ref (h 4)) (C := RX5) (T := TX5) (N := 15) hx hb hts (fun w h => List.mem_cons_of_mem _ (in_X5 w h)) hown hK hP 0 rfl rfl 12 (by decide) (hts _ (List.mem_cons_of_mem _ tw_1_171)) (fun _ h9 => h9) rfl dX5_carryOut_169 ?_
        refine lv_iload hx hb dX5_carryOut_172 (lv_at hl 5 rfl) ?_
        have hPc := hP.sub (ws' := w_Board h cI cJ σ.2.2.2) [3, 4, 5, 6, 7, 8, 9] rfl
        have hDc := hD.sub (ws' := w_Board h cI cJ σ.2.2.2) [3, 4, 5, 6, 7, 8, 9] (by decide) rfl
        have hFc := va_free (wc := w_Board h cI cJ σ.2.2.2) hD hS hA [3, 4, 5, 6, 7, 8, 9] rfl
        refine va_calli (va_runV (As := [.int x5]) (rest := [.int x2, .ref (h 1)]) ⟨hx, hb, hml, hown, hts⟩ (c_X0_read l dC dI cI cJ h _ hok) (cwV 1 hts (tb_gV tw_2_14 tw_2_15 tw_2_16 tw_1_2 tw_2_17) rfl rfl rfl (by decide +kernel) ⟨Nat.le_of_ble_eq_true rfl, Nat.le_of_ble_eq_true rfl⟩) (cpre_V (ci := 0) (q0 := 0) hK hPc hDc rfl rfl) rfl rfl hl.1 rfl (lv_room (Nat.le_of_ble_eq_true rfl)) dX5_carryOut_174 ⟨Nat.le_of_ble_eq_true rfl, Nat.le_of_ble_eq_true rfl⟩) hS (fun q _ h => hFc q h) hFc (fun r3 u4 t H1 locs ht hvm hok hB hz1 hk1 hS => ?_)
        obtain ⟨hP, hD⟩ := cjoin ht hP hD [3, 4, 5, 6, 7, 8, 9] [0, 1, 2] rfl rfl (by decide) (by decide) hk1 hFc hB
        have hP := hP.sub (ws' := w_Proc h cI cJ (σ.1, σ.2.1, σ.2.2.1, u4)) [0, 1, 2, 3, 4, 5, 6, 7, 8, 9] rfl
        have hD := hD.sub (ws' := w_Proc h cI cJ (σ.1, σ.2.1, σ.2.2.1, u4)) [0, 1, 2, 3, 4, 5, 6, 7, 8, 9] (by decide) rfl
        have hPc := hP
        have hDc := hD
        have hFc := va_free (wc := w_Proc h cI cJ (σ.1, σ.2.1, σ.2.2.1, u4)) hD hS hA [0, 1, 2, 3, 4, 5, 6, 7, 8, 9] rfl
        refine va_callv (va_runV (As := [.int x2, .int r3]) (rest := []) ⟨hx, hb, hml, hown, hts⟩ (c_X5_use l dC dI cI cJ h _ hok) (cwV 2 hts (tb_gV tw_2_149 tw_2_151 tw_p_12 tw_1_6 tw_2_152) rfl rfl rfl (by decide +kernel) ⟨Nat.le_of_ble_eq_true rfl, Nat.le_of_ble_eq_true rfl⟩) (cpre_V (ci := 4) (q0 := 0) hK hPc hDc rfl rfl) rfl rfl hl.1 rfl (lv_room (Nat.le_of_ble_eq_true rfl)) dX5_carryOut_177 ⟨Nat.le_of_ble_eq_true rfl, Nat.le_of_ble_eq_true rfl⟩) hS (fun q _ h => hFc q h) hFc (fun u5 t H1 locs ht hvm hok hB hz1 hk1 hS => ?_)
        obtain ⟨hP, hD⟩ := cjoin_w ht hB hFc
        refine lv_goto (tgt := 267) hx hb dX5_carryOut_180 (by decide) ?_
        exact W.vret hx hb hr (fun t ht hW => ⟨⟨u5, rfl, hok, by rw [ht]; exact hP, va_K.moved hW.alike hK, hD⟩, hS.F ht⟩) hS.2.2 dX5_carryOut_267
      · have hok := hok.1 c2
        refine lv_iload hx hb dX5_carryOut_163 (lv_at hl 4 rfl) ?_
        refine lv_goto (tgt := 177) hx hb dX5_carryOut_165 (by decide) ?_
        have hPc := hP
        have hDc := hD
        have hFc := va_free (wc := w_Proc h cI cJ σ) hD hS hA [0, 1, 2, 3, 4, 5, 6, 7, 8, 9] rfl
        refine va_callv (va_runV (As := [.int x2, .int x4]) (rest := []) ⟨hx, hb, hml, hown, hts⟩ (c_X5_use l dC dI cI cJ h _ hok) (cwV 2 hts (tb_gV tw_2_149 tw_2_151 tw_p_12 tw_1_6 tw_2_152) rfl rfl rfl (by decide +kernel) ⟨Nat.le_of_ble_eq_true rfl, Nat.le_of_ble_eq_true rfl⟩) (cpre_V (ci := 4) (q0 := 0) hK hPc hDc rfl rfl) rfl rfl hl.1 rfl (lv_room (Nat.le_of_ble_eq_true rfl)) dX5_carryOut_177 ⟨Nat.le_of_ble_eq_true rfl, Nat.le_of_ble_eq_true rfl⟩) hS (fun q _ h => hFc q h) hFc (fun u6 t H1 locs ht hvm hok hB hz1 hk1 hS => ?_)
        obtain ⟨hP, hD⟩ := cjoin_w ht hB hFc
        refine lv_goto (tgt := 267) hx hb dX5_carryOut_180 (by decide) ?_
        exact W.vret hx hb hr (fun t ht hW => ⟨⟨u6, rfl, hok, by rw [ht]; exact hP, va_K.moved hW.alike hK, hD⟩, hS.F ht⟩) hS.2.2 dX5_carryOut_267
    have hok := hok.2
    by_cases c7 : (x2 >>> ((4 : Int32) &&& 31)) = 1
    · have hok := hok.1 c7
      refine lv_tableIn (tgt := 183) (off := 72) hx hb dX5_carryOut_111 (by rw [c7]; decide) (by rw [c7]; decide) (by rw [c7]; decide) (by decide) ?_
      refine lv_aload_n hx hb dX5_carryOut_183 rfl (lv_at hl 0 rfl) ?_
      refine va_get (D := (dC, dI)) (ci := 4) (v := .ref (h 4)) (C := RX5) (T := TX5) (N := 15) hx hb hts (fun w h => List.mem_cons_of_mem _ (in_X5 w h)) hown hK hP 0 rfl rfl 12 (by decide) (hts _ (List.mem_cons_of_mem _ tw_1_171)) (fun _ h9 => h9) rfl dX5_carryOut_184 ?_
      refine lv_iload hx hb dX5_carryOut_187 (lv_at hl 5 rfl) ?_
      refine lv_aload_n hx hb dX5_carryOut_189 rfl (lv_at hl 0 rfl) ?_
      refine lv_iload_n hx hb dX5_carryOut_190 rfl (lv_at hl 2 rfl) ?_
      have hPc := hP
      have hDc := hD
      have hFc := va_free (wc := w_Proc h cI cJ σ) hD hS hA [0, 1, 2, 3, 4, 5, 6, 7, 8, 9] rfl
      refine va_calli (va_runV (As := [.int x2]) (rest := [.int x5, .ref (h 4)]) ⟨hx, hb, hml, hown, hts⟩ (c_X5_stored l dC dI cI cJ h _ hok) (cwV 1 hts (tb_gV tw_2_181 tw_2_183 tw_p_20 tw_1_6 tw_2_184) rfl rfl rfl (by decide +kernel) ⟨Nat.le_of_ble_eq_true rfl, Nat.le_of_ble_eq_true rfl⟩) (cpre_V (ci := 4) (q0 := 0) hK hPc hDc rfl rfl) rfl rfl hl.1 rfl (lv_room (Nat.le_of_ble_eq_true rfl)) dX5_carryOut_191 ⟨Nat.le_of_ble_eq_true rfl, Nat.le_of_ble_eq_true rfl⟩) hS (fun q _ h => hFc q h) hFc (fun r8 _ t H1 locs ht hvm hok hB hz1 hk1 hS => ?_)
      obtain ⟨hP, hD⟩ := cjoin_w ht hB hFc
      have hPc := hP.sub (ws' := w_Board h cI cJ σ.2.2.2) [3, 4, 5, 6, 7, 8, 9] rfl
      have hDc := hD.sub (ws' := w_Board h cI cJ σ.2.2.2) [3, 4, 5, 6, 7, 8, 9] (by decide) rfl
      have hFc := va_free (wc := w_Board h cI cJ σ.2.2.2) hD hS hA [3, 4, 5, 6, 7, 8, 9] rfl
      refine va_callv (va_runV (As := [.int x5, .int r8]) (rest := []) ⟨hx, hb, hml, hown, hts⟩ (c_X0_write l dC dI cI cJ h _ hok) (cwV 2 hts (tb_gV tw_2_96 tw_2_97 tw_2_98 tw_1_2 tw_2_99) rfl rfl rfl (by decide +kernel) ⟨Nat.le_of_ble_eq_true rfl, Nat.le_of_ble_eq_true rfl⟩) (cpre_V (ci := 0) (q0 := 0) hK hPc hDc rfl rfl) rfl rfl hl.1 rfl (lv_room (Nat.le_of_ble_eq_true rfl)) dX5_carryOut_194 ⟨Nat.le_of_ble_eq_true rfl, Nat.le_of_ble_eq_true rfl⟩) hS (fun q _ h => hFc q h) hFc (fun u9 t H1 locs ht hvm hok hB hz1 hk1 hS => ?_)
      obtain ⟨hP, hD⟩ := cjoin ht hP hD [3, 4, 5, 6, 7, 8, 9] [0, 1, 2] rfl rfl (by decide) (by decide) hk1 hFc hB
      have hP := hP.sub (ws' := w_Proc h cI cJ (σ.1, σ.2.1, σ.2.2.1, u9)) [0, 1, 2, 3, 4, 5, 6, 7, 8, 9] rfl
      have hD := hD.sub (ws' := w_Proc h cI cJ (σ.1, σ.2.1, σ.2.2.1, u9)) [0, 1, 2, 3, 4, 5, 6, 7, 8, 9] (by decide) rfl
      refine lv_goto (tgt := 267) hx hb dX5_carryOut_197 (by decide) ?_
      exact W.vret hx hb hr (fun t ht hW => ⟨⟨(σ.1, σ.2.1, σ.2.2.1, u9), rfl, hok, by rw [ht]; exact hP, va_K.moved hW.alike hK, hD⟩, hS.F ht⟩) hS.2.2 dX5_carryOut_267
    have hok := hok.2
    by_cases c10 : (x2 >>> ((4 : Int32) &&& 31)) = 2
    · have hok := hok.1 c10
      refine lv_tableIn (tgt := 200) (off := 89) hx hb dX5_carryOut_111 (by rw [c10]; decide) (by rw [c10]; decide) (by rw [c10]; decide) (by decide) ?_
      refine lv_aload_n hx hb dX5_carryOut_200 rfl (lv_at hl 0 rfl) ?_
      refine lv_iload_n hx hb dX5_carryOut_201 rfl (lv_at hl 2 rfl) ?_
      refine lv_iload_n hx hb dX5_carryOut_202 rfl (lv_at hl 1 rfl) ?_
      refine lv_iconst (v := 4) hx hb dX5_carryOut_203 (by decide) ?_
      refine lv_ishr hx hb dX5_carryOut_204 ?_
      refine lv_bipush (v := 7) hx hb dX5_carryOut_205 (by decide) ?_
      refine lv_iand hx hb dX5_carryOut_207 ?_
      refine lv_topi (fun v11 ev11 => ?_)
      have hok := hok v11 ev11
      refine lv_iload_n hx hb dX5_carryOut_208 rfl (lv_at hl 3 rfl) ?_
      refine lv_iload hx hb dX5_carryOut_209 (lv_at hl 5 rfl) ?_
      have hPc := hP
      have hDc := hD
      have hFc := va_free (wc := w_Proc h cI cJ σ) hD hS hA [0, 1, 2, 3, 4, 5, 6, 7, 8, 9] rfl
      refine va_callv (va_runV (As := [.int x2, .int v11, .int x3, .int x5]) (rest := []) ⟨hx, hb, hml, hown, hts⟩ (c_X5_change l dC dI cI cJ h _ hok) (cwV 4 hts (tb_gV tw_2_185 tw_2_187 tw_p_21 tw_1_6 tw_2_188) rfl rfl rfl (by decide +kernel) ⟨Nat.le_of_ble_eq_true rfl, Nat.le_of_ble_eq_true rfl⟩) (cpre_V (ci := 4) (q0 := 0) hK hPc hDc rfl rfl) rfl rfl hl.1 rfl (lv_room (Nat.le_of_ble_eq_true rfl)) dX5_carryOut_211 ⟨Nat.le_of_ble_eq_true rfl, Nat.le_of_ble_eq_true rfl⟩) hS (fun q _ h => hFc q h) hFc (fun u12 t H1 locs ht hvm hok hB hz1 hk1 hS => ?_)
      obtain ⟨hP, hD⟩ := cjoin_w ht hB hFc
      refine lv_goto (tgt := 267) hx hb dX5_carryOut_214 (by decide) ?_
      exact W.vret hx hb hr (fun t ht hW => ⟨⟨u12, rfl, hok, by rw [ht]; exact hP, va_K.moved hW.alike hK, hD⟩, hS.F ht⟩) hS.2.2 dX5_carryOut_267
    have hok := hok.2
    by_cases c13 : (x2 >>> ((4 : Int32) &&& 31)) = 3
    · have hok := hok.1 c13
      refine lv_tableIn (tgt := 217) (off := 106) hx hb dX5_carryOut_111 (by rw [c13]; decide) (by rw [c13]; decide) (by rw [c13]; decide) (by decide) ?_
      refine lv_aload_n hx hb dX5_carryOut_217 rfl (lv_at hl 0 rfl) ?_
      refine lv_iload_n hx hb dX5_carryOut_218 rfl (lv_at hl 2 rfl) ?_
      have hPc := hP
      have hDc := hD
      have hFc := va_free (wc := w_Proc h cI cJ σ) hD hS hA [0, 1, 2, 3, 4, 5, 6, 7, 8, 9] rfl
      refine va_callv (va_runV (As := [.int x2]) (rest := []) ⟨hx, hb, hml, hown, hts⟩ (c_X5_move l dC dI cI cJ h _ hok) (cwV 1 hts (tb_gV tw_2_197 tw_2_199 tw_p_24 tw_1_6 tw_2_200) rfl rfl rfl (by decide +kernel) ⟨Nat.le_of_ble_eq_true rfl, Nat.le_of_ble_eq_true rfl⟩) (cpre_V (ci := 4) (q0 := 0) hK hPc hDc rfl rfl) rfl rfl hl.1 rfl (lv_room (Nat.le_of_ble_eq_true rfl)) dX5_carryOut_219 ⟨Nat.le_of_ble_eq_true rfl, Nat.le_of_ble_eq_true rfl⟩) hS (fun q _ h => hFc q h) hFc (fun u14 t H1 locs ht hvm hok hB hz1 hk1 hS => ?_)
      obtain ⟨hP, hD⟩ := cjoin_w ht hB hFc
      refine lv_goto (tgt := 267) hx hb dX5_carryOut_222 (by decide) ?_
      exact W.vret hx hb hr (fun t ht hW => ⟨⟨u14, rfl, hok, by rw [ht]; exact hP, va_K.moved hW.alike hK, hD⟩, hS.F ht⟩) hS.2.2 dX5_carryOut_267
    have hok := hok.2
    by_cases c15 : (x2 >>> ((4 : Int32) &&& 31)) = 4
    · have hok := hok.1 c15
      refine lv_tableIn (tgt := 225) (off := 114) hx hb dX5_carryOut_111 (by rw [c15]; decide) (by rw [c15]; decide) (by rw [c15]; decide) (by decide) ?_
      refine lv_aload_n hx hb dX5_carryOut_225 rfl (lv_at hl 0 rfl) ?_
      refine lv_iload_n hx hb dX5_carryOut_226 rfl (lv_at hl 2 rfl) ?_
      have hPc := hP
      have hDc := hD
      have hFc := va_free (wc := w_Proc h cI cJ σ) hD hS hA [0, 1, 2, 3, 4, 5, 6, 7, 8, 9] rfl
      refine va_callv (va_runV (As := [.int x2]) (rest := []) ⟨hx, hb, hml, hown, hts⟩ (c_X5_changeState l dC dI cI cJ h _ hok) (cwV 1 hts (tb_gV tw_2_201 tw_2_203 tw_p_25 tw_1_6 tw_2_204) rfl rfl rfl (by decide +kernel) ⟨Nat.le_of_ble_eq_true rfl, Nat.le_of_ble_eq_true rfl⟩) (cpre_V (ci := 4) (q0 := 0) hK hPc hDc rfl rfl) rfl rfl hl.1 rfl (lv_room (Nat.le_of_ble_eq_true rfl)) dX5_carryOut_227 ⟨Nat.le_of_ble_eq_true rfl, Nat.le_of_ble_eq_true rfl⟩) hS (fun q _ h => hFc q h) hFc (fun u16 t H1 locs ht hvm hok hB hz1 hk1 hS => ?_)
      obtain ⟨hP, hD⟩ := cjoin_w ht hB hFc
      refine lv_goto (tgt := 267) hx hb dX5_carryOut_230 (by decide) ?_
      exact W.vret hx hb hr (fun t ht hW => ⟨⟨u16, rfl, hok, by rw [ht]; exact hP, va_K.moved hW.alike hK, hD⟩, hS.F ht⟩) hS.2.2 dX5_carryOut_267
    have hok := hok.2
    by_cases c17 : (x2 >>> ((4 : Int32) &&& 31)) = 5
    · have hok := hok.1 c17
      refine lv_tableIn (tgt := 233) (off := 122) hx hb dX5_carryOut_111 (by rw [c17]; decide) (by rw [c17]; decide) (by rw [c17]; decide) (by decide) ?_
      refine lv_aload_n hx hb dX5_carryOut_233 rfl (lv_at hl 0 rfl) ?_
      refine lv_iload_n hx hb dX5_carryOut_234 rfl (lv_at hl 2 rfl) ?_
      have hPc := hP
      have hDc := hD
      have hFc := va_free (wc := w_Proc h cI cJ σ) hD hS hA [0, 1, 2, 3, 4, 5, 6, 7, 8, 9] rfl
      refine va_callv (va_runV (As := [.int x2]) (rest := []) ⟨hx, hb, hml, hown, hts⟩ (c_X5_pushOrPull l dC dI cI cJ h _ hok) (cwV 1 hts (tb_gV tw_2_205 tw_2_207 tw_p_26 tw_1_6 tw_2_208) rfl rfl rfl (by decide +kernel) ⟨Nat.le_of_ble_eq_true rfl, Nat.le_of_ble_eq_true rfl⟩) (cpre_V (ci := 4) (q0 := 0) hK hPc hDc rfl rfl) rfl rfl hl.1 rfl (lv_room (Nat.le_of_ble_eq_true rfl)) dX5_carryOut_235 ⟨Nat.le_of_ble_eq_true rfl, Nat.le_of_ble_eq_true rfl⟩) hS (fun q _ h => hFc q h) hFc (fun u18 t H1 locs ht hvm hok hB hz1 hk1 hS => ?_)
      obtain ⟨hP, hD⟩ := cjoin_w ht hB hFc
      refine lv_goto (tgt := 267) hx hb dX5_carryOut_238 (by decide) ?_
      exact W.vret hx hb hr (fun t ht hW => ⟨⟨u18, rfl, hok, by rw [ht]; exact hP, va_K.moved hW.alike hK, hD⟩, hS.F ht⟩) hS.2.2 dX5_carryOut_267
    have hok := hok.2
    by_cases c19 : (x2 >>> ((4 : Int32) &&& 31)) = 6
    · have hok := hok.1 c19
      refine lv_tableIn (tgt := 241) (off := 130) hx hb dX5_carryOut_111 (by rw [c19]; decide) (by rw [c19]; decide) (by rw [c19]; decide) (by decide) ?_
      refine lv_aload_n hx hb dX5_carryOut_241 rfl (lv_at hl 0 rfl) ?_
      refine lv_iload_n hx hb dX5_carryOut_242 rfl (lv_at hl 2 rfl) ?_
      refine lv_iload_n hx hb dX5_carryOut_243 rfl (lv_at hl 1 rfl) ?_
      refine lv_iconst (v := 4) hx hb dX5_carryOut_244 (by decide) ?_
      refine lv_ishr hx hb dX5_carryOut_245 ?_
      refine lv_bipush (v := 7) hx hb dX5_carryOut_246 (by decide) ?_
      refine lv_iand hx hb dX5_carryOut_248 ?_
      refine lv_topi (fun v20 ev20 => ?_)
      have hok := hok v20 ev20
      refine lv_iload hx hb dX5_carryOut_249 (lv_at hl 4 rfl) ?_
      have hPc := hP
      have hDc := hD
      have hFc := va_free (wc := w_Proc h cI cJ σ) hD hS hA [0, 1, 2, 3, 4, 5, 6, 7, 8, 9] rfl
      refine va_callv (va_runV (As := [.int x2, .int v20, .int x4]) (rest := []) ⟨hx, hb, hml, hown, hts⟩ (c_X5_branch l dC dI cI cJ h _ hok) (cwV 3 hts (tb_gV tw_2_213 tw_2_215 tw_p_28 tw_1_6 tw_2_216) rfl rfl rfl (by decide +kernel) ⟨Nat.le_of_ble_eq_true rfl, Nat.le_of_ble_eq_true rfl⟩) (cpre_V (ci := 4) (q0 := 0) hK hPc hDc rfl rfl) rfl rfl hl.1 rfl (lv_room (Nat.le_of_ble_eq_true rfl)) dX5_carryOut_251 ⟨Nat.le_of_ble_eq_true rfl, Nat.le_of_ble_eq_true rfl⟩) hS (fun q _ h => hFc q h) hFc (fun u21 t H1 locs ht hvm hok hB hz1 hk1 hS => ?_)
      obtain ⟨hP, hD⟩ := cjoin_w ht hB hFc
      refine lv_goto (tgt := 267) hx hb dX5_carryOut_254 (by decide) ?_
      exact W.vret hx hb hr (fun t ht hW => ⟨⟨u21, rfl, hok, by rw [ht]; exact hP, va_K.moved hW.alike hK, hD⟩, hS.F ht⟩) hS.2.2 dX5_carryOut_267
    have hok := hok.2
    by_cases c22 : (x2 >>> ((4 : Int32) &&& 31)) = 7
    · have hok := hok.1 c22
      refine lv_tableIn (tgt := 257) (off := 146) hx hb dX5_carryOut_111 (by rw [c22]; decide) (by rw [c22]; decide) (by rw [c22]; decide) (by decide) ?_
      refine lv_aload_n hx hb dX5_carryOut_257 rfl (lv_at hl 0 rfl) ?_
      refine lv_iload_n hx hb dX5_carryOut_258 rfl (lv_at hl 2 rfl) ?_
      refine lv_iload hx hb dX5_carryOut_259 (lv_at hl 5 rfl) ?_
      have hPc := hP
      have hDc := hD
      have hFc := va_free (wc := w_Proc h cI cJ σ) hD hS hA [0, 1, 2, 3, 4, 5, 6, 7, 8, 9] rfl
      refine va_callv (va_runV (As := [.int x2, .int x5]) (rest := []) ⟨hx, hb, hml, hown, hts⟩ (c_X5_jump l dC dI cI cJ h _ hok) (cwV 2 hts (tb_gV tw_2_221 tw_2_223 tw_p_30 tw_1_6 tw_2_224) rfl rfl rfl (by decide +kernel) ⟨Nat.le_of_ble_eq_true rfl, Nat.le_of_ble_eq_true rfl⟩) (cpre_V (ci := 4) (q0 := 0) hK hPc hDc rfl rfl) rfl rfl hl.1 rfl (lv_room (Nat.le_of_ble_eq_true rfl)) dX5_carryOut_261 ⟨Nat.le_of_ble_eq_true rfl, Nat.le_of_ble_eq_true rfl⟩) hS (fun q _ h => hFc q h) hFc (fun u23 t H1 locs ht hvm hok hB hz1 hk1 hS => ?_)
      obtain ⟨hP, hD⟩ := cjoin_w ht hB hFc
      refine lv_goto (tgt := 267) hx hb dX5_carryOut_264 (by decide) ?_
      exact W.vret hx hb hr (fun t ht hW => ⟨⟨u23, rfl, hok, by rw [ht]; exact hP, va_K.moved hW.alike hK, hD⟩, hS.F ht⟩) hS.2.2 dX5_carryOut_267
    have hok := hok.2
    have hok := hok ⟨c1, c7, c10, c13, c15, c17, c19, c22⟩
    have kz23 : ∀ k ∈ ([0, 1, 2, 3, 4, 5, 6, 7] : List Int), ((x2 >>> ((4 : Int32) &&& 31))).toInt ≠ k := List.forall_mem_cons.mpr ⟨tb_ne c1 rfl, List.forall_mem_cons.mpr ⟨tb_ne c7 rfl, List.forall_mem_cons.mpr ⟨tb_ne c10 rfl, List.forall_mem_cons.mpr ⟨tb_ne c13 rfl, List.forall_mem_cons.mpr ⟨tb_ne c15 rfl, List.forall_mem_cons.mpr ⟨tb_ne c17 rfl, List.forall_mem_cons.mpr ⟨tb_ne c19 rfl, List.forall_mem_cons.mpr ⟨tb_ne c22 rfl, fun k h => absurd h List.not_mem_nil⟩⟩⟩⟩⟩⟩⟩⟩
    refine tb_def (tgt := 267) (keys := [0, 1, 2, 3, 4, 5, 6, 7]) hx hb dX5_carryOut_111 kz23 (by decide) (by decide) ?_
    exact W.vret hx hb hr (fun t ht hW => ⟨⟨σ, rfl, hok, by rw [ht]; exact hP, va_K.moved hW.alike hK, hD⟩, hS.F ht⟩) hS.2.2 dX5_carryOut_267
  have b61 : ∀ (σ : S_Proc) (x1 : Int32) (x2 : Int32) (x3 : Int32) (x4 : Int32), wp_X5_carryOut_61 σ x1 x2 x3 x4 Φ → ∀ (H : Heap) (locs : List Loc), va_P (dC, dI) vwCl (w_Proc h cI cJ σ) H → va_D A (w_Proc h cI cJ σ) → va_S A s.heap H locs → ∀ ls : Array Slot, lv_has ls 6 [(0, .ref (h 1)), (1, .int x1), (2, .int x2), (3, .int x3), (4, .int x4)] → W p l e (headSpec wsX5_carryOut { frames := 5, cells := 0, slots := 0, locals := 113 }).room s m ([.ref (h 1)] : List Value).toArray below meth c H locs 0 0 (MQ below (va_Qv Φ (fun u => cpost dC dI cI cJ A (w_Proc h cI cJ u)) A) ([.ref (h 1)] : List Value).toArray s 0 0 A) (F0 m 61 ls []) := by
    intro σ x1 x2 x3 x4 hok H locs hP hD hS ls hl
    unfold wp_X5_carryOut_61 at hok
    refine lv_aload_n hx hb dX5_carryOut_61 rfl (lv_at hl 0 rfl) ?_
    refine lv_iconst (v := 0) hx hb dX5_carryOut_62 (by decide) ?_
    refine va_put (D := (dC, dI)) (ci := 4) (v := .int 0) (ty := .boolean) (C := RX5) (T := TX5) (N := 15) hx hb hts (fun w h => List.mem_cons_of_mem _ (in_X5 w h)) tyX5 tyX5_ok nmX5 hown hK hP hD hS 0 rfl rfl 14 (by decide) (hts _ (List.mem_cons_of_mem _ tw_1_173)) (fun _ h9 => h9) rfl (by decide +kernel) rfl rfl (Nat.le_of_ble_eq_true rfl) dX5_carryOut_63 (fun H locs hP hD hS => ?_)
    have hP : va_P (dC, dI) vwCl (w_Proc h cI cJ (upd σ.1 14 0, σ.2.1, σ.2.2.1, σ.2.2.2)) _ := hP
    have hD : va_D A (w_Proc h cI cJ (upd σ.1 14 0, σ.2.1, σ.2.2.1, σ.2.2.2)) := hD
    refine lv_aload_n hx hb dX5_carryOut_66 rfl (lv_at hl 0 rfl) ?_
    refine lv_iload_n hx hb dX5_carryOut_67 rfl (lv_at hl 3 rfl) ?_
    refine lv_iload hx hb dX5_carryOut_68 (lv_at hl 4 rfl) ?_
    have hPc := hP
    have hDc := hD
    have hFc := va_free (wc := w_Proc h cI cJ (upd σ.1 14 0, σ.2.1, σ.2.2.1, σ.2.2.2)) hD hS hA [0, 1, 2, 3, 4, 5, 6, 7, 8, 9] rfl
    refine va_calli (va_runV (As := [.int x3, .int x4]) (rest := []) ⟨hx, hb, hml, hown, hts⟩ (c_X5_addressOf l dC dI cI cJ h _ hok) (cwV 2 hts (tb_gV tw_2_132 tw_2_134 tw_p_9 tw_1_6 tw_2_135) rfl rfl rfl (by decide +kernel) ⟨Nat.le_of_ble_eq_true rfl, Nat.le_of_ble_eq_true rfl⟩) (cpre_V (ci := 4) (q0 := 0) hK hPc hDc rfl rfl) rfl rfl hl.1 rfl (lv_room (Nat.le_of_ble_eq_true rfl)) dX5_carryOut_70 ⟨Nat.le_of_ble_eq_true rfl, Nat.le_of_ble_eq_true rfl⟩) hS (fun q _ h => hFc q h) hFc (fun r24 u25 t H1 locs ht hvm hok hB hz1 hk1 hS => ?_)
    obtain ⟨hP, hD⟩ := cjoin_w ht hB hFc
    refine lv_istore (lv' := [(5, .int r24), (0, .ref (h 1)), (1, .int x1), (2, .int x2), (3, .int x3), (4, .int x4)]) hx hb dX5_carryOut_73 hl (by decide) rfl (fun ls hl => ?_)
    refine lv_aload_n hx hb dX5_carryOut_75 rfl (lv_at hl 1 rfl) ?_
    refine va_gets hx hb hT.2.2.1 hS hown (hts _ (List.mem_cons_of_mem _ tw_2_144)) (fun _ h9 => h9) dX5_carryOut_76 ?_
    refine lv_iload_n hx hb dX5_carryOut_79 rfl (lv_at hl 2 rfl) ?_
    refine va_ti hx hb hT.2.2.2 hS hok.1 rfl dX5_carryOut_80 ?_
    have hok := hok.2
    refine va_put (D := (dC, dI)) (ci := 4) (v := .int (tab 2 x1.toNatClampNeg)) (ty := .int) (C := RX5) (T := TX5) (N := 15) hx hb hts (fun w h => List.mem_cons_of_mem _ (in_X5 w h)) tyX5 tyX5_ok nmX5 hown hK hP hD hS 0 rfl rfl 13 (by decide) (hts _ (List.mem_cons_of_mem _ tw_1_172)) (fun _ h9 => h9) rfl (by decide +kernel) rfl rfl (Nat.le_of_ble_eq_true rfl) dX5_carryOut_81 (fun H locs hP hD hS => ?_)
    have hP : va_P (dC, dI) vwCl (w_Proc h cI cJ (upd u25.1 13 (tab 2 x1.toNatClampNeg), u25.2.1, u25.2.2.1, u25.2.2.2)) _ := hP
    have hD : va_D A (w_Proc h cI cJ (upd u25.1 13 (tab 2 x1.toNatClampNeg), u25.2.1, u25.2.2.1, u25.2.2.2)) := hD
    refine lv_aload_n hx hb dX5_carryOut_84 rfl (lv_at hl 1 rfl) ?_
    refine va_get (D := (dC, dI)) (ci := 4) (v := .int (u25.1 14)) (C := RX5) (T := TX5) (N := 15) hx hb hts (fun w h => List.mem_cons_of_mem _ (in_X5 w h)) hown hK hP 0 rfl rfl 14 (by decide) (hts _ (List.mem_cons_of_mem _ tw_1_173)) (fun _ h9 => h9) rfl dX5_carryOut_85 ?_
    refine lv_if_eq (tgt := 108) hx hb dX5_carryOut_88 (by decide) (fun c26 => ?_) (fun c26 => ?_)
    · have hok := hok.1 c26
      exact b108 (upd u25.1 13 (tab 2 x1.toNatClampNeg), u25.2.1, u25.2.2.1, u25.2.2.2) x1 x2 x3 x4 r24 hok _ _ hP hD hS _ (lv_sub hl [1, 2, 3, 4, 5, 0] rfl)
    · have hok := hok.2 c26
      refine lv_iload_n hx hb dX5_carryOut_91 rfl (lv_at hl 3 rfl) ?_
      have hPc := hP.sub (ws' := []) [] rfl
      have hDc := hD.sub (ws' := []) [] (by decide) rfl
      have hFc := va_free (wc := []) hD hS hA [] rfl
      refine va_calli (va_runS (As := [.int x2]) (rest := []) ⟨hx, hb, hml, hown, hts⟩ (c_X2_paysForCrossing l dC dI cI cJ h _ hok) (va_cwS 1 hts (tb_gS tw_2_146 tw_2_147 tw_1_14 tw_2_148) rfl rfl rfl (by decide +kernel) ⟨Nat.le_of_ble_eq_true rfl, Nat.le_of_ble_eq_true rfl⟩) (cpre_S hK hPc hDc) rfl rfl hl.1 rfl (lv_room (Nat.le_of_ble_eq_true rfl)) dX5_carryOut_92 ⟨Nat.le_of_ble_eq_true rfl, Nat.le_of_ble_eq_true rfl⟩) hS (fun q _ h => hFc q h) hFc (fun r27 _ t H1 locs ht hvm hok hB hz1 hk1 hS => ?_)
      obtain ⟨hP, hD⟩ := cjoin ht hP hD [] [0, 1, 2, 3, 4, 5, 6, 7, 8, 9] rfl rfl (by decide) (by decide) hk1 hFc hB
      have hP := hP.sub (ws' := w_Proc h cI cJ (upd u25.1 13 (tab 2 x1.toNatClampNeg), u25.2.1, u25.2.2.1, u25.2.2.2)) [0, 1, 2, 3, 4, 5, 6, 7, 8, 9] rfl
      have hD := hD.sub (ws' := w_Proc h cI cJ (upd u25.1 13 (tab 2 x1.toNatClampNeg), u25.2.1, u25.2.2.1, u25.2.2.2)) [0, 1, 2, 3, 4, 5, 6, 7, 8, 9] (by decide) rfl
      refine lv_if_eq (tgt := 108) hx hb dX5_carryOut_95 (by decide) (fun c28 => ?_) (fun c28 => ?_)
      · have hok := hok.1 c28
        exact b108 (upd u25.1 13 (tab 2 x1.toNatClampNeg), u25.2.1, u25.2.2.1, u25.2.2.2) x1 x2 x3 x4 r24 hok _ _ hP hD hS _ (lv_sub hl [1, 2, 3, 4, 5, 0] rfl)
      · have hok := hok.2 c28
        refine lv_aload_n hx hb dX5_carryOut_98 rfl (lv_at hl 1 rfl) ?_
        refine lv_dup hx hb dX5_carryOut_99 rfl ?_
        refine va_get (D := (dC, dI)) (ci := 4) (v := .int (tab 2 x1.toNatClampNeg)) (C := RX5) (T := TX5) (N := 15) hx hb hts (fun w h => List.mem_cons_of_mem _ (in_X5 w h)) hown hK hP 0 rfl rfl 13 (by decide) (hts _ (List.mem_cons_of_mem _ tw_1_172)) (fun _ h9 => h9) rfl dX5_carryOut_100 ?_
        refine lv_iconst (v := 1) hx hb dX5_carryOut_103 (by decide) ?_
        refine lv_iadd hx hb dX5_carryOut_104 ?_
        refine va_put (D := (dC, dI)) (ci := 4) (v := .int ((tab 2 x1.toNatClampNeg) + (1 : Int32))) (ty := .int) (C := RX5) (T := TX5) (N := 15) hx hb hts (fun w h => List.mem_cons_of_mem _ (in_X5 w h)) tyX5 tyX5_ok nmX5 hown hK hP hD hS 0 rfl rfl 13 (by decide) (hts _ (List.mem_cons_of_mem _ tw_1_172)) (fun _ h9 => h9) rfl (by decide +kernel) rfl rfl (Nat.le_of_ble_eq_true rfl) dX5_carryOut_105 (fun H locs hP hD hS => ?_)
        have hP : va_P (dC, dI) vwCl (w_Proc h cI cJ (upd u25.1 13 ((tab 2 x1.toNatClampNeg) + (1 : Int32)), u25.2.1, u25.2.2.1, u25.2.2.2)) _ := hP
        have hD : va_D A (w_Proc h cI cJ (upd u25.1 13 ((tab 2 x1.toNatClampNeg) + (1 : Int32)), u25.2.1, u25.2.2.1, u25.2.2.2)) := hD
        exact b108 (upd u25.1 13 ((tab 2 x1.toNatClampNeg) + (1 : Int32)), u25.2.1, u25.2.2.1, u25.2.2.2) x1 x2 x3 x4 r24 hok _ _ hP hD hS _ (lv_sub hl [1, 2, 3, 4, 5, 0] rfl)
  have b41 : ∀ (σ : S_Proc) (x1 : Int32) (x2 : Int32) (x3 : Int32) (s0 : Int32), wp_X5_carryOut_41 σ x1 x2 x3 s0 Φ → ∀ (H : Heap) (locs : List Loc), va_P (dC, dI) vwCl (w_Proc h cI cJ σ) H → va_D A (w_Proc h cI cJ σ) → va_S A s.heap H locs → ∀ ls : Array Slot, lv_has ls 6 [(0, .ref (h 1)), (1, .int x1), (2, .int x2), (3, .int x3)] → W p l e (headSpec wsX5_carryOut { frames := 5, cells := 0, slots := 0, locals := 113 }).room s m ([.ref (h 1)] : List Value).toArray below meth c H locs 0 0 (MQ below (va_Qv Φ (fun u => cpost dC dI cI cJ A (w_Proc h cI cJ u)) A) ([.ref (h 1)] : List Value).toArray s 0 0 A) (F0 m 41 ls [.int s0]) := by
    intro σ x1 x2 x3 s0 hok H locs hP hD hS ls hl
    unfold wp_X5_carryOut_41 at hok
    refine lv_istore (lv' := [(4, .int s0), (0, .ref (h 1)), (1, .int x1), (2, .int x2), (3, .int x3)]) hx hb dX5_carryOut_41 hl (by decide) rfl (fun ls hl => ?_)
    refine lv_iload_n hx hb dX5_carryOut_43 rfl (lv_at hl 4 rfl) ?_
    refine lv_bipush (v := 10) hx hb dX5_carryOut_44 (by decide) ?_
    refine lv_icmp_lt (tgt := 61) hx hb dX5_carryOut_46 (by decide) (fun c29 => ?_) (fun c29 => ?_)
    · have hok := hok.1 c29
      exact b61 σ x1 x2 x3 s0 hok _ _ hP hD hS _ (lv_sub hl [1, 2, 3, 4, 0] rfl)
    · have hok := hok.2 c29
      refine lv_iload hx hb dX5_carryOut_49 (lv_at hl 0 rfl) ?_
      refine lv_aload_n hx hb dX5_carryOut_51 rfl (lv_at hl 1 rfl) ?_
      have hPc := hP
      have hDc := hD
      have hFc := va_free (wc := w_Proc h cI cJ σ) hD hS hA [0, 1, 2, 3, 4, 5, 6, 7, 8, 9] rfl
      refine va_calli (va_runV (As := []) (rest := [.int s0]) ⟨hx, hb, hml, hown, hts⟩ (c_X5_fetch l dC dI cI cJ h _ hok) (cwV 0 hts (tb_gV tw_2_124 tw_2_126 tw_p_8 tw_1_6 tw_2_127) rfl rfl rfl (by decide +kernel) ⟨Nat.le_of_ble_eq_true rfl, Nat.le_of_ble_eq_true rfl⟩) (cpre_V (ci := 4) (q0 := 0) hK hPc hDc rfl rfl) rfl rfl hl.1 rfl (lv_room (Nat.le_of_ble_eq_true rfl)) dX5_carryOut_52 ⟨Nat.le_of_ble_eq_true rfl, Nat.le_of_ble_eq_true rfl⟩) hS (fun q _ h => hFc q h) hFc (fun r30 u31 t H1 locs ht hvm hok hB hz1 hk1 hS => ?_)
      obtain ⟨hP, hD⟩ := cjoin_w ht hB hFc
      refine lv_bipush (v := 8) hx hb dX5_carryOut_55 (by decide) ?_
      refine lv_ishl hx hb dX5_carryOut_57 ?_
      refine lv_ior hx hb dX5_carryOut_58 ?_
      refine lv_istore (lv' := [(4, .int (s0 ||| (r30 <<< ((8 : Int32) &&& 31)))), (0, .ref (h 1)), (1, .int x1), (2, .int x2), (3, .int x3)]) hx hb dX5_carryOut_59 hl (by decide) rfl (fun ls hl => ?_)
      exact b61 u31 x1 x2 x3 (s0 ||| (r30 <<< ((8 : Int32) &&& 31))) hok _ _ hP hD hS _ (lv_sub hl [1, 2, 3, 4, 0] rfl)
  have hl := lv_entry ([.ref (h 1)]) (n := 6) (Nat.le_of_ble_eq_true rfl)
  rw [lg_entry_eq]
  generalize (lg_sl ([.ref (h 1)]) ++ List.replicate (6 - (lg_sl ([.ref (h 1)])).length) Slot.unset).toArray = ls at hl ⊢
  have hl : lv_has ls 6 [(0, .ref (h 1))] := hl
  unfold wp_X5_carryOut at hok
  refine lv_aload_n hx hb dX5_carryOut_0 rfl (lv_at hl 0 rfl) ?_
  refine va_get (D := (dC, dI)) (ci := 4) (v := .ref (h 2)) (C := RX5) (T := TX5) (N := 15) hx hb hts (fun w h => List.mem_cons_of_mem _ (in_X5 w h)) hown hK hP 0 rfl rfl 11 (by decide) (hts _ (List.mem_cons_of_mem _ tw_1_169)) (fun _ h9 => h9) rfl dX5_carryOut_1 ?_
  refine lv_aload_n hx hb dX5_carryOut_4 rfl (lv_at hl 0 rfl) ?_
  refine va_get (D := (dC, dI)) (ci := 4) (v := .int (σ.1 5)) (C := RX5) (T := TX5) (N := 15) hx hb hts (fun w h => List.mem_cons_of_mem _ (in_X5 w h)) hown hK hP 0 rfl rfl 5 (by decide) (hts _ (List.mem_cons_of_mem _ tw_1_157)) (fun _ h9 => h9) rfl dX5_carryOut_5 ?_
  have hPc := hP.sub (ws' := w_Trace h cI cJ σ.2.2.1) [1, 2] rfl
  have hDc := hD.sub (ws' := w_Trace h cI cJ σ.2.2.1) [1, 2] (by decide) rfl
  have hFc := va_free (wc := w_Trace h cI cJ σ.2.2.1) hD hS hA [1, 2] rfl
  refine va_callv (va_runV (As := [.int (σ.1 5)]) (rest := []) ⟨hx, hb, hml, hown, hts⟩ (c_X7_note l dC dI cI cJ h _ hok) (cwV 1 hts (tb_gV tw_2_120 tw_2_121 tw_2_122 tw_1_7 tw_2_123) rfl rfl rfl (by decide +kernel) ⟨Nat.le_of_ble_eq_true rfl, Nat.le_of_ble_eq_true rfl⟩) (cpre_V (ci := 6) (q0 := 0) hK hPc hDc rfl rfl) rfl rfl hl.1 rfl (lv_room (Nat.le_of_ble_eq_true rfl)) dX5_carryOut_8 ⟨Nat.le_of_ble_eq_true rfl, Nat.le_of_ble_eq_true rfl⟩) hS (fun q _ h => hFc q h) hFc (fun u32 t H1 locs ht hvm hok hB hz1 hk1 hS => ?_)
  obtain ⟨hP, hD⟩ := cjoin ht hP hD [1, 2] [0, 3, 4, 5, 6, 7, 8, 9] rfl rfl (by decide) (by decide) hk1 hFc hB
  have hP := hP.sub (ws' := w_Proc h cI cJ (σ.1, σ.2.1, u32, σ.2.2.2)) [0, 8, 9, 1, 2, 3, 4, 5, 6, 7] rfl
  have hD := hD.sub (ws' := w_Proc h cI cJ (σ.1, σ.2.1, u32, σ.2.2.2)) [0, 8, 9, 1, 2, 3, 4, 5, 6, 7] (by decide) rfl
  refine lv_aload_n hx hb dX5_carryOut_11 rfl (lv_at hl 0 rfl) ?_
  have hPc := hP
  have hDc := hD
  have hFc := va_free (wc := w_Proc h cI cJ (σ.1, σ.2.1, u32, σ.2.2.2)) hD hS hA [0, 1, 2, 3, 4, 5, 6, 7, 8, 9] rfl
  refine va_calli (va_runV (As := []) (rest := []) ⟨hx, hb, hml, hown, hts⟩ (c_X5_fetch l dC dI cI cJ h _ hok) (cwV 0 hts (tb_gV tw_2_124 tw_2_126 tw_p_8 tw_1_6 tw_2_127) rfl rfl rfl (by decide +kernel) ⟨Nat.le_of_ble_eq_true rfl, Nat.le_of_ble_eq_true rfl⟩) (cpre_V (ci := 4) (q0 := 0) hK hPc hDc rfl rfl) rfl rfl hl.1 rfl (lv_room (Nat.le_of_ble_eq_true rfl)) dX5_carryOut_12 ⟨Nat.le_of_ble_eq_true rfl, Nat.le_of_ble_eq_true rfl⟩) hS (fun q _ h => hFc q h) hFc (fun r33 u34 t H1 locs ht hvm hok hB hz1 hk1 hS => ?_)
  obtain ⟨hP, hD⟩ := cjoin_w ht hB hFc
  refine lv_istore_n (lv' := [(1, .int r33), (0, .ref (h 1))]) hx hb dX5_carryOut_15 rfl hl (by decide) rfl (fun ls hl => ?_)
  refine va_gets hx hb hT.1.1 hS hown (hts _ (List.mem_cons_of_mem _ tw_2_128)) (fun _ h9 => h9) dX5_carryOut_16 ?_
  refine lv_iload_n hx hb dX5_carryOut_19 rfl (lv_at hl 0 rfl) ?_
  refine va_ti hx hb hT.1.2 hS hok.1 rfl dX5_carryOut_20 ?_
  have hok := hok.2
  refine lv_istore_n (lv' := [(2, .int (tab 0 r33.toNatClampNeg)), (1, .int r33), (0, .ref (h 1))]) hx hb dX5_carryOut_21 rfl hl (by decide) rfl (fun ls hl => ?_)
  refine va_gets hx hb hT.2.1.1 hS hown (hts _ (List.mem_cons_of_mem _ tw_2_130)) (fun _ h9 => h9) dX5_carryOut_22 ?_
  refine lv_iload_n hx hb dX5_carryOut_25 rfl (lv_at hl 1 rfl) ?_
  refine va_ti hx hb hT.2.1.2 hS hok.1 rfl dX5_carryOut_26 ?_
  have hok := hok.2
  refine lv_istore_n (lv' := [(3, .int (tab 1 r33.toNatClampNeg)), (2, .int (tab 0 r33.toNatClampNeg)), (1, .int r33), (0, .ref (h 1))]) hx hb dX5_carryOut_27 rfl hl (by decide) rfl (fun ls hl => ?_)
  refine lv_iload_n hx hb dX5_carryOut_28 rfl (lv_at hl 0 rfl) ?_
  refine lv_iconst (v := 2) hx hb dX5_carryOut_29 (by decide) ?_
  refine lv_icmp_lt (tgt := 40) hx hb dX5_carryOut_30 (by decide) (fun c35 => ?_) (fun c35 => ?_)
  · have hok := hok.1 c35
    refine lv_iconst (v := 0) hx hb dX5_carryOut_40 (by decide) ?_
    exact b41 u34 r33 (tab 0 r33.toNatClampNeg) (tab 1 r33.toNatClampNeg) 0 hok _ _ hP hD hS _ (lv_sub hl [3, 2, 1, 0] rfl)
  · have hok := hok.2 c35
    refine lv_aload_n hx hb dX5_carryOut_33 rfl (lv_at hl 3 rfl) ?_
    have hPc := hP
    have hDc := hD
    have hFc := va_free (wc := w_Proc h cI cJ u34) hD hS hA [0, 1, 2, 3, 4, 5, 6, 7, 8, 9] rfl
    refine va_calli (va_runV (As := []) (rest := []) ⟨hx, hb, hml, hown, hts⟩ (c_X5_fetch l dC dI cI cJ h _ hok) (cwV 0 hts (tb_gV tw_2_124 tw_2_126 tw_p_8 tw_1_6 tw_2_127) rfl rfl rfl (by decide +kernel) ⟨Nat.le_of_ble_eq_true rfl, Nat.le_of_ble_eq_true rfl⟩) (cpre_V (ci := 4) (q0 := 0) hK hPc hDc rfl rfl) rfl rfl hl.1 rfl (lv_room (Nat.le_of_ble_eq_true rfl)) dX5_carryOut_34 ⟨Nat.le_of_ble_eq_true rfl, Nat.le_of_ble_eq_true rfl⟩) hS (fun q _ h => hFc q h) hFc (fun r36 u37 t H1 locs ht hvm hok hB hz1 hk1 hS => ?_)
    obtain ⟨hP, hD⟩ := cjoin_w ht hB hFc
    refine lv_goto (tgt := 41) hx hb dX5_carryOut_37 (by decide) ?_
    exact b41 u37 r33 (tab 0 r33.toNatClampNeg) (tab 1 r33.toNatClampNeg) r36 hok _ _ hP hD hS _ (lv_sub hl [3, 2, 1, 0] rfl)
def wp_X5_advance_110 (σ : S_Proc) (Φ : Int32 → S_Proc → Prop) : Prop := wp_X6_pass σ.2.2.2.2.1 (σ.1 13) (fun u1 => Φ (σ.1 13) (σ.1, σ.2.1 + ((σ.1 13).toInt64), σ.2.2.1, (σ.2.2.2.1, u1, σ.2.2.2.2.2.1, σ.2.2.2.2.2.2)))
def wp_X5_advance_91 (σ : S_Proc) (Φ : Int32 → S_Proc → Prop) : Prop := (((σ.1 6) = 0 → (wp_X5_carryOut σ (fun u3 => wp_X5_advance_110 u3 Φ))) ∧ (¬ (σ.1 6) = 0 → (wp_X5_advance_110 (upd σ.1 13 1, σ.2.1, σ.2.2.1, σ.2.2.2) Φ)))
def wp_X5_advance_48 (σ : S_Proc) (x1 : Int32) (Φ : Int32 → S_Proc → Prop) : Prop := (((σ.1 8) = 0 → (((x1 = 0 → (wp_X5_advance_91 σ Φ)) ∧ (¬ x1 = 0 → (((((σ.1 4) &&& (4 : Int32)) = 0 → (wp_X5_takeInterrupt σ 65534 (fun u7 => wp_X5_advance_110 u7 Φ))) ∧ (¬ ((σ.1 4) &&& (4 : Int32)) = 0 → (wp_X5_advance_91 σ Φ)))))))) ∧ (¬ (σ.1 8) = 0 → (wp_X5_takeInterrupt (upd σ.1 8 0, σ.2.1, σ.2.2.1, σ.2.2.2) 65530 (fun u8 => wp_X5_advance_110 u8 Φ))))
def wp_X5_advance_43 (σ : S_Proc) (x1 : Int32) (Φ : Int32 → S_Proc → Prop) : Prop := wp_X5_advance_48 (upd σ.1 6 0, σ.2.1, σ.2.2.1, σ.2.2.2) x1 Φ
def wp_X5_advance_31 (σ : S_Proc) (s0 : Int32) (Φ : Int32 → S_Proc → Prop) : Prop := (((σ.1 8) = 0 → (((s0 = 0 → (wp_X5_advance_48 σ s0 Φ)) ∧ (¬ s0 = 0 → (wp_X5_advance_43 σ s0 Φ))))) ∧ (¬ (σ.1 8) = 0 → (wp_X5_advance_43 σ s0 Φ)))
def wp_X5_advance_30 (σ : S_Proc) (Φ : Int32 → S_Proc → Prop) : Prop := wp_X5_advance_31 σ 0 Φ
def wp_X5_advance (σ : S_Proc) (Φ : Int32 → S_Proc → Prop) : Prop := (((σ.1 7) = 0 → ((((σ.1 8) = 0 → (wp_X0_asks σ.2.2.2 (fun r13 => ((r13 = 0 → (wp_X5_advance_30 σ Φ)) ∧ (¬ r13 = 0 → (wp_X5_advance_31 σ 1 Φ)))))) ∧ (¬ (σ.1 8) = 0 → (wp_X5_advance_30 σ Φ))))) ∧ (¬ (σ.1 7) = 0 → (Φ 0 σ)))
set_option maxHeartbeats 4000000 in
set_option maxRecDepth 100000 in
theorem c_X5_advance (l : Launch) (dC : Nat → ClassId) (dI : Nat → Nat → Nat) (cI cJ : ClassId) (h : Nat → Nat) (tt : Nat → Nat) (sz : Nat) {σ : S_Proc} {Φ : Int32 → S_Proc → Prop} (hok : wp_X5_advance σ Φ) : Met l yX5_advance wsX5_advance ({ frames := 6, cells := 0, slots := 0, locals := 138 }) (va_Pc [.ref (h 1)] (cpreT dC dI cI cJ tt (w_Proc h cI cJ σ) sz)) (va_Qi Φ (fun u => cpost dC dI cI cJ (va_A (w_Proc h cI cJ σ) sz) (w_Proc h cI cJ u)) (va_A (w_Proc h cI cJ σ) sz)) 0 0 (va_A (w_Proc h cI cJ σ) sz) := by
  refine Met.ofW (cc := cX5_advance) (maxL := 2) (ret := (some .int)) (by decide) rfl ?_
  intro p e s m args below meth c s₁ B hml hv
  obtain ⟨rfl, ⟨hsz, hP, hK, hD0⟩, hT⟩ := hv
  have hx := B.exec
  have hb := B.bytes
  have hr := B.returns
  have hts := atoms_spec (ws := wsX5_advance) B.pre
  have hown : s.vm.findClass RX5 = some m.cls := findClass_of_methodNamed B.named
  have hlocks := B.notSynchronized
  subst hsz
  have hD := hD0.self (sz := s.heap.size)
  generalize hAe : va_A (w_Proc h cI cJ σ) s.heap.size = A at hD hT ⊢
  have hA : ∀ q : Nat, s.heap.size ≤ q → A q := fun q h => by rw [← hAe]; exact Or.inr h
  clear hD0 hAe
  have hS : va_S A s.heap s.heap [] := va_S.rf
  have b110 : ∀ (σ : S_Proc), wp_X5_advance_110 σ Φ → ∀ (H : Heap) (locs : List Loc), va_P (dC, dI) vwCl (w_Proc h cI cJ σ) H → va_D A (w_Proc h cI cJ σ) → va_S A s.heap H locs → ∀ ls : Array Slot, lv_has ls 2 [(0, .ref (h 1))] → W p l e (headSpec wsX5_advance { frames := 6, cells := 0, slots := 0, locals := 138 }).room s m ([.ref (h 1)] : List Value).toArray below meth c H locs 0 0 (MQ below (va_Qi Φ (fun u => cpost dC dI cI cJ A (w_Proc h cI cJ u)) A) ([.ref (h 1)] : List Value).toArray s 0 0 A) (F0 m 110 ls []) := by
    intro σ hok H locs hP hD hS ls hl
    unfold wp_X5_advance_110 at hok
    refine lv_aload_n hx hb dX5_advance_110 rfl (lv_at hl 0 rfl) ?_
    refine lv_dup hx hb dX5_advance_111 rfl ?_
    refine va_get (D := (dC, dI)) (ci := 4) (v := .long σ.2.1) (C := RX5) (T := TX5) (N := 15) hx hb hts (fun w h => List.mem_cons_of_mem _ (in_X5 w h)) hown hK hP 0 rfl rfl 9 (by decide) (hts _ (List.mem_cons_of_mem _ tw_1_165)) (fun _ h9 => h9) rfl dX5_advance_112 ?_
    refine lv_aload_n hx hb dX5_advance_115 rfl (lv_at hl 0 rfl) ?_
    refine va_get (D := (dC, dI)) (ci := 4) (v := .int (σ.1 13)) (C := RX5) (T := TX5) (N := 15) hx hb hts (fun w h => List.mem_cons_of_mem _ (in_X5 w h)) hown hK hP 0 rfl rfl 13 (by decide) (hts _ (List.mem_cons_of_mem _ tw_1_172)) (fun _ h9 => h9) rfl dX5_advance_116 ?_
    refine lv_i2l hx hb dX5_advance_119 rfl ?_
    refine lv_ladd hx hb dX5_advance_120 ?_
    refine va_put (D := (dC, dI)) (ci := 4) (v := .long (σ.2.1 + ((σ.1 13).toInt64))) (ty := .long) (C := RX5) (T := TX5) (N := 15) hx hb hts (fun w h => List.mem_cons_of_mem _ (in_X5 w h)) tyX5 tyX5_ok nmX5 hown hK hP hD hS 0 rfl rfl 9 (by decide) (hts _ (List.mem_cons_of_mem _ tw_1_165)) (fun _ h9 => h9) rfl (by decide +kernel) rfl rfl (Nat.le_of_ble_eq_true rfl) dX5_advance_121 (fun H locs hP hD hS => ?_)
    have hP : va_P (dC, dI) vwCl (w_Proc h cI cJ (σ.1, σ.2.1 + ((σ.1 13).toInt64), σ.2.2.1, σ.2.2.2)) _ := hP
    have hD : va_D A (w_Proc h cI cJ (σ.1, σ.2.1 + ((σ.1 13).toInt64), σ.2.2.1, σ.2.2.2)) := hD
    refine lv_aload_n hx hb dX5_advance_124 rfl (lv_at hl 0 rfl) ?_
    refine va_get (D := (dC, dI)) (ci := 4) (v := .ref (h 4)) (C := RX5) (T := TX5) (N := 15) hx hb hts (fun w h => List.mem_cons_of_mem _ (in_X5 w h)) hown hK hP 0 rfl rfl 12 (by decide) (hts _ (List.mem_cons_of_mem _ tw_1_171)) (fun _ h9 => h9) rfl dX5_advance_125 ?_
    refine va_get (D := (dC, dI)) (ci := 0) (v := .ref (h 5)) (C := RX0) (T := TX0) (N := 4) hx hb hts (fun w h => List.mem_cons_of_mem _ (in_X0 w h)) hown hK hP 3 rfl rfl 0 (by decide) (hts _ (List.mem_cons_of_mem _ tw_1_111)) (fun _ h9 => h9) rfl dX5_advance_128 ?_
    refine lv_aload_n hx hb dX5_advance_131 rfl (lv_at hl 0 rfl) ?_
    refine va_get (D := (dC, dI)) (ci := 4) (v := .int (σ.1 13)) (C := RX5) (T := TX5) (N := 15) hx hb hts (fun w h => List.mem_cons_of_mem _ (in_X5 w h)) hown hK hP 0 rfl rfl 13 (by decide) (hts _ (List.mem_cons_of_mem _ tw_1_172)) (fun _ h9 => h9) rfl dX5_advance_132 ?_
    have hPc := hP.sub (ws' := w_Timers h cI cJ σ.2.2.2.2.1) [4] rfl
    have hDc := hD.sub (ws' := w_Timers h cI cJ σ.2.2.2.2.1) [4] (by decide) rfl
    have hFc := va_free (wc := w_Timers h cI cJ σ.2.2.2.2.1) hD hS hA [4] rfl
    refine va_callv (va_runV (As := [.int (σ.1 13)]) (rest := []) ⟨hx, hb, hml, hown, hts⟩ (c_X6_pass l dC dI cI cJ h _ hok) (cwV 1 hts (tb_gV tw_2_225 tw_2_226 tw_2_227 tw_1_3 tw_2_228) rfl rfl rfl (by decide +kernel) ⟨Nat.le_of_ble_eq_true rfl, Nat.le_of_ble_eq_true rfl⟩) (cpre_V (ci := 5) (q0 := 0) hK hPc hDc rfl rfl) rfl rfl hl.1 rfl (lv_room (Nat.le_of_ble_eq_true rfl)) dX5_advance_135 ⟨Nat.le_of_ble_eq_true rfl, Nat.le_of_ble_eq_true rfl⟩) hS (fun q _ h => hFc q h) hFc (fun u1 t H1 locs ht hvm hok hB hz1 hk1 hS => ?_)
    obtain ⟨hP, hD⟩ := cjoin ht hP hD [4] [0, 1, 2, 3, 5, 6, 7, 8, 9] rfl rfl (by decide) (by decide) hk1 hFc hB
    have hP := hP.sub (ws' := w_Proc h cI cJ (σ.1, σ.2.1 + ((σ.1 13).toInt64), σ.2.2.1, (σ.2.2.2.1, u1, σ.2.2.2.2.2.1, σ.2.2.2.2.2.2))) [0, 1, 2, 3, 9, 4, 5, 6, 7, 8] rfl
    have hD := hD.sub (ws' := w_Proc h cI cJ (σ.1, σ.2.1 + ((σ.1 13).toInt64), σ.2.2.1, (σ.2.2.2.1, u1, σ.2.2.2.2.2.1, σ.2.2.2.2.2.2))) [0, 1, 2, 3, 9, 4, 5, 6, 7, 8] (by decide) rfl
    refine lv_aload_n hx hb dX5_advance_138 rfl (lv_at hl 0 rfl) ?_
    refine va_get (D := (dC, dI)) (ci := 4) (v := .int (σ.1 13)) (C := RX5) (T := TX5) (N := 15) hx hb hts (fun w h => List.mem_cons_of_mem _ (in_X5 w h)) hown hK hP 0 rfl rfl 13 (by decide) (hts _ (List.mem_cons_of_mem _ tw_1_172)) (fun _ h9 => h9) rfl dX5_advance_139 ?_
    exact W.iret (v := σ.1 13) hx hb hr (fun t ht hW => ⟨⟨σ.1 13, (σ.1, σ.2.1 + ((σ.1 13).toInt64), σ.2.2.1, (σ.2.2.2.1, u1, σ.2.2.2.2.2.1, σ.2.2.2.2.2.2)), rfl, hok, by rw [ht]; exact hP, va_K.moved hW.alike hK, hD⟩, hS.F ht⟩) hS.2.2 dX5_advance_142
  have b91 : ∀ (σ : S_Proc), wp_X5_advance_91 σ Φ → ∀ (H : Heap) (locs : List Loc), va_P (dC, dI) vwCl (w_Proc h cI cJ σ) H → va_D A (w_Proc h cI cJ σ) → va_S A s.heap H locs → ∀ ls : Array Slot, lv_has ls 2 [(0, .ref (h 1))] → W p l e (headSpec wsX5_advance { frames := 6, cells := 0, slots := 0, locals := 138 }).room s m ([.ref (h 1)] : List Value).toArray below meth c H locs 0 0 (MQ below (va_Qi Φ (fun u => cpost dC dI cI cJ A (w_Proc h cI cJ u)) A) ([.ref (h 1)] : List Value).toArray s 0 0 A) (F0 m 91 ls []) := by
    intro σ hok H locs hP hD hS ls hl
    unfold wp_X5_advance_91 at hok
    refine lv_aload_n hx hb dX5_advance_91 rfl (lv_at hl 0 rfl) ?_
    refine va_get (D := (dC, dI)) (ci := 4) (v := .int (σ.1 6)) (C := RX5) (T := TX5) (N := 15) hx hb hts (fun w h => List.mem_cons_of_mem _ (in_X5 w h)) hown hK hP 0 rfl rfl 6 (by decide) (hts _ (List.mem_cons_of_mem _ tw_1_159)) (fun _ h9 => h9) rfl dX5_advance_92 ?_
    refine lv_if_eq (tgt := 106) hx hb dX5_advance_95 (by decide) (fun c2 => ?_) (fun c2 => ?_)
    · have hok := hok.1 c2
      refine lv_aload_n hx hb dX5_advance_106 rfl (lv_at hl 0 rfl) ?_
      have hPc := hP
      have hDc := hD
      have hFc := va_free (wc := w_Proc h cI cJ σ) hD hS hA [0, 1, 2, 3, 4, 5, 6, 7, 8, 9] rfl
      refine va_callv (va_runV (As := []) (rest := []) ⟨hx, hb, hml, hown, hts⟩ (c_X5_carryOut l dC dI cI cJ h tt _ hok) (cwV 0 hts (tb_gV tw_2_116 tw_2_118 tw_p_7 tw_1_6 tw_2_119) rfl rfl rfl (by decide +kernel) ⟨Nat.le_of_ble_eq_true rfl, Nat.le_of_ble_eq_true rfl⟩) (cpre_VT (ci := 4) (q0 := 0) hK hPc hDc hT hS hFc rfl rfl) rfl rfl hl.1 rfl (lv_room (Nat.le_of_ble_eq_true rfl)) dX5_advance_107 ⟨Nat.le_of_ble_eq_true rfl, Nat.le_of_ble_eq_true rfl⟩) hS (fun q _ h => hFc q h) hFc (fun u3 t H1 locs ht hvm hok hB hz1 hk1 hS => ?_)
      obtain ⟨hP, hD⟩ := cjoin_w ht hB hFc
      exact b110 u3 hok _ _ hP hD hS _ (lv_sub hl [0] rfl)
    · have hok := hok.2 c2
      refine lv_aload_n hx hb dX5_advance_98 rfl (lv_at hl 0 rfl) ?_
      refine lv_iconst (v := 1) hx hb dX5_advance_99 (by decide) ?_
      refine va_put (D := (dC, dI)) (ci := 4) (v := .int 1) (ty := .int) (C := RX5) (T := TX5) (N := 15) hx hb hts (fun w h => List.mem_cons_of_mem _ (in_X5 w h)) tyX5 tyX5_ok nmX5 hown hK hP hD hS 0 rfl rfl 13 (by decide) (hts _ (List.mem_cons_of_mem _ tw_1_172)) (fun _ h9 => h9) rfl (by decide +kernel) rfl rfl (Nat.le_of_ble_eq_true rfl) dX5_advance_100 (fun H locs hP hD hS => ?_)
      have hP : va_P (dC, dI) vwCl (w_Proc h cI cJ (upd σ.1 13 1, σ.2.1, σ.2.2.1, σ.2.2.2)) _ := hP
      have hD : va_D A (w_Proc h cI cJ (upd σ.1 13 1, σ.2.1, σ.2.2.1, σ.2.2.2)) := hD
      refine lv_goto (tgt := 110) hx hb dX5_advance_103 (by decide) ?_
      exact b110 (upd σ.1 13 1, σ.2.1, σ.2.2.1, σ.2.2.2) hok _ _ hP hD hS _ (lv_sub hl [0] rfl)
  have b48 : ∀ (σ : S_Proc) (x1 : Int32), wp_X5_advance_48 σ x1 Φ → ∀ (H : Heap) (locs : List Loc), va_P (dC, dI) vwCl (w_Proc h cI cJ σ) H → va_D A (w_Proc h cI cJ σ) → va_S A s.heap H locs → ∀ ls : Array Slot, lv_has ls 2 [(0, .ref (h 1)), (1, .int x1)] → W p l e (headSpec wsX5_advance { frames := 6, cells := 0, slots := 0, locals := 138 }).room s m ([.ref (h 1)] : List Value).toArray below meth c H locs 0 0 (MQ below (va_Qi Φ (fun u => cpost dC dI cI cJ A (w_Proc h cI cJ u)) A) ([.ref (h 1)] : List Value).toArray s 0 0 A) (F0 m 48 ls []) := by
    intro σ x1 hok H locs hP hD hS ls hl
    unfold wp_X5_advance_48 at hok
    refine lv_aload_n hx hb dX5_advance_48 rfl (lv_at hl 0 rfl) ?_
    refine va_get (D := (dC, dI)) (ci := 4) (v := .int (σ.1 8)) (C := RX5) (T := TX5) (N := 15) hx hb hts (fun w h => List.mem_cons_of_mem _ (in_X5 w h)) hown hK hP 0 rfl rfl 8 (by decide) (hts _ (List.mem_cons_of_mem _ tw_1_163)) (fun _ h9 => h9) rfl dX5_advance_49 ?_
    refine lv_if_eq (tgt := 69) hx hb dX5_advance_52 (by decide) (fun c4 => ?_) (fun c4 => ?_)
    · have hok := hok.1 c4
      refine lv_iload_n hx hb dX5_advance_69 rfl (lv_at hl 1 rfl) ?_
      refine lv_if_eq (tgt := 91) hx hb dX5_advance_70 (by decide) (fun c5 => ?_) (fun c5 => ?_)
      · have hok := hok.1 c5
        exact b91 σ hok _ _ hP hD hS _ (lv_sub hl [0] rfl)
      · have hok := hok.2 c5
        refine lv_aload_n hx hb dX5_advance_73 rfl (lv_at hl 0 rfl) ?_
        refine va_get (D := (dC, dI)) (ci := 4) (v := .int (σ.1 4)) (C := RX5) (T := TX5) (N := 15) hx hb hts (fun w h => List.mem_cons_of_mem _ (in_X5 w h)) hown hK hP 0 rfl rfl 4 (by decide) (hts _ (List.mem_cons_of_mem _ tw_1_155)) (fun _ h9 => h9) rfl dX5_advance_74 ?_
        refine lv_iconst (v := 4) hx hb dX5_advance_77 (by decide) ?_
        refine lv_iand hx hb dX5_advance_78 ?_
        refine lv_if_ne (tgt := 91) hx hb dX5_advance_79 (by decide) (fun c6 => ?_) (fun c6 => ?_)
        · have hok := hok.2 c6
          exact b91 σ hok _ _ hP hD hS _ (lv_sub hl [0] rfl)
        · have hok := hok.1 c6
          refine lv_aload_n hx hb dX5_advance_82 rfl (lv_at hl 0 rfl) ?_
          refine lv_ldc (v := 65534) hx hb hown (hts _ (List.mem_cons_of_mem _ tw_2_115)) dX5_advance_83 ?_
          have hPc := hP
          have hDc := hD
          have hFc := va_free (wc := w_Proc h cI cJ σ) hD hS hA [0, 1, 2, 3, 4, 5, 6, 7, 8, 9] rfl
          refine va_callv (va_runV (As := [.int 65534]) (rest := []) ⟨hx, hb, hml, hown, hts⟩ (c_X5_takeInterrupt l dC dI cI cJ h _ hok) (cwV 1 hts (tb_gV tw_2_84 tw_2_86 tw_p_4 tw_1_6 tw_2_87) rfl rfl rfl (by decide +kernel) ⟨Nat.le_of_ble_eq_true rfl, Nat.le_of_ble_eq_true rfl⟩) (cpre_V (ci := 4) (q0 := 0) hK hPc hDc rfl rfl) rfl rfl hl.1 rfl (lv_room (Nat.le_of_ble_eq_true rfl)) dX5_advance_85 ⟨Nat.le_of_ble_eq_true rfl, Nat.le_of_ble_eq_true rfl⟩) hS (fun q _ h => hFc q h) hFc (fun u7 t H1 locs ht hvm hok hB hz1 hk1 hS => ?_)
          obtain ⟨hP, hD⟩ := cjoin_w ht hB hFc
          refine lv_goto (tgt := 110) hx hb dX5_advance_88 (by decide) ?_
          exact b110 u7 hok _ _ hP hD hS _ (lv_sub hl [0] rfl)
    · have hok := hok.2 c4
      refine lv_aload_n hx hb dX5_advance_55 rfl (lv_at hl 0 rfl) ?_
      refine lv_iconst (v := 0) hx hb dX5_advance_56 (by decide) ?_
      refine va_put (D := (dC, dI)) (ci := 4) (v := .int 0) (ty := .boolean) (C := RX5) (T := TX5) (N := 15) hx hb hts (fun w h => List.mem_cons_of_mem _ (in_X5 w h)) tyX5 tyX5_ok nmX5 hown hK hP hD hS 0 rfl rfl 8 (by decide) (hts _ (List.mem_cons_of_mem _ tw_1_163)) (fun _ h9 => h9) rfl (by decide +kernel) rfl rfl (Nat.le_of_ble_eq_true rfl) dX5_advance_57 (fun H locs hP hD hS => ?_)
      have hP : va_P (dC, dI) vwCl (w_Proc h cI cJ (upd σ.1 8 0, σ.2.1, σ.2.2.1, σ.2.2.2)) _ := hP
      have hD : va_D A (w_Proc h cI cJ (upd σ.1 8 0, σ.2.1, σ.2.2.1, σ.2.2.2)) := hD
      refine lv_aload_n hx hb dX5_advance_60 rfl (lv_at hl 0 rfl) ?_
      refine lv_ldc (v := 65530) hx hb hown (hts _ (List.mem_cons_of_mem _ tw_2_83)) dX5_advance_61 ?_
      have hPc := hP
      have hDc := hD
      have hFc := va_free (wc := w_Proc h cI cJ (upd σ.1 8 0, σ.2.1, σ.2.2.1, σ.2.2.2)) hD hS hA [0, 1, 2, 3, 4, 5, 6, 7, 8, 9] rfl
      refine va_callv (va_runV (As := [.int 65530]) (rest := []) ⟨hx, hb, hml, hown, hts⟩ (c_X5_takeInterrupt l dC dI cI cJ h _ hok) (cwV 1 hts (tb_gV tw_2_84 tw_2_86 tw_p_4 tw_1_6 tw_2_87) rfl rfl rfl (by decide +kernel) ⟨Nat.le_of_ble_eq_true rfl, Nat.le_of_ble_eq_true rfl⟩) (cpre_V (ci := 4) (q0 := 0) hK hPc hDc rfl rfl) rfl rfl hl.1 rfl (lv_room (Nat.le_of_ble_eq_true rfl)) dX5_advance_63 ⟨Nat.le_of_ble_eq_true rfl, Nat.le_of_ble_eq_true rfl⟩) hS (fun q _ h => hFc q h) hFc (fun u8 t H1 locs ht hvm hok hB hz1 hk1 hS => ?_)
      obtain ⟨hP, hD⟩ := cjoin_w ht hB hFc
      refine lv_goto (tgt := 110) hx hb dX5_advance_66 (by decide) ?_
      exact b110 u8 hok _ _ hP hD hS _ (lv_sub hl [0] rfl)
  have b43 : ∀ (σ : S_Proc) (x1 : Int32), wp_X5_advance_43 σ x1 Φ → ∀ (H : Heap) (locs : List Loc), va_P (dC, dI) vwCl (w_Proc h cI cJ σ) H → va_D A (w_Proc h cI cJ σ) → va_S A s.heap H locs → ∀ ls : Array Slot, lv_has ls 2 [(0, .ref (h 1)), (1, .int x1)] → W p l e (headSpec wsX5_advance { frames := 6, cells := 0, slots := 0, locals := 138 }).room s m ([.ref (h 1)] : List Value).toArray below meth c H locs 0 0 (MQ below (va_Qi Φ (fun u => cpost dC dI cI cJ A (w_Proc h cI cJ u)) A) ([.ref (h 1)] : List Value).toArray s 0 0 A) (F0 m 43 ls []) := by
    intro σ x1 hok H locs hP hD hS ls hl
    unfold wp_X5_advance_43 at hok
    refine lv_aload_n hx hb dX5_advance_43 rfl (lv_at hl 0 rfl) ?_
    refine lv_iconst (v := 0) hx hb dX5_advance_44 (by decide) ?_
    refine va_put (D := (dC, dI)) (ci := 4) (v := .int 0) (ty := .boolean) (C := RX5) (T := TX5) (N := 15) hx hb hts (fun w h => List.mem_cons_of_mem _ (in_X5 w h)) tyX5 tyX5_ok nmX5 hown hK hP hD hS 0 rfl rfl 6 (by decide) (hts _ (List.mem_cons_of_mem _ tw_1_159)) (fun _ h9 => h9) rfl (by decide +kernel) rfl rfl (Nat.le_of_ble_eq_true rfl) dX5_advance_45 (fun H locs hP hD hS => ?_)
    have hP : va_P (dC, dI) vwCl (w_Proc h cI cJ (upd σ.1 6 0, σ.2.1, σ.2.2.1, σ.2.2.2)) _ := hP
    have hD : va_D A (w_Proc h cI cJ (upd σ.1 6 0, σ.2.1, σ.2.2.1, σ.2.2.2)) := hD
    exact b48 (upd σ.1 6 0, σ.2.1, σ.2.2.1, σ.2.2.2) x1 hok _ _ hP hD hS _ (lv_sub hl [0, 1] rfl)
  have b31 : ∀ (σ : S_Proc) (s0 : Int32), wp_X5_advance_31 σ s0 Φ → ∀ (H : Heap) (locs : List Loc), va_P (dC, dI) vwCl (w_Proc h cI cJ σ) H → va_D A (w_Proc h cI cJ σ) → va_S A s.heap H locs → ∀ ls : Array Slot, lv_has ls 2 [(0, .ref (h 1))] → W p l e (headSpec wsX5_advance { frames := 6, cells := 0, slots := 0, locals := 138 }).room s m ([.ref (h 1)] : List Value).toArray below meth c H locs 0 0 (MQ below (va_Qi Φ (fun u => cpost dC dI cI cJ A (w_Proc h cI cJ u)) A) ([.ref (h 1)] : List Value).toArray s 0 0 A) (F0 m 31 ls [.int s0]) := by
    intro σ s0 hok H locs hP hD hS ls hl
    unfold wp_X5_advance_31 at hok
    refine lv_istore_n (lv' := [(1, .int s0), (0, .ref (h 1))]) hx hb dX5_advance_31 rfl hl (by decide) rfl (fun ls hl => ?_)
    refine lv_aload_n hx hb dX5_advance_32 rfl (lv_at hl 1 rfl) ?_
    refine va_get (D := (dC, dI)) (ci := 4) (v := .int (σ.1 8)) (C := RX5) (T := TX5) (N := 15) hx hb hts (fun w h => List.mem_cons_of_mem _ (in_X5 w h)) hown hK hP 0 rfl rfl 8 (by decide) (hts _ (List.mem_cons_of_mem _ tw_1_163)) (fun _ h9 => h9) rfl dX5_advance_33 ?_
    refine lv_if_ne (tgt := 43) hx hb dX5_advance_36 (by decide) (fun c9 => ?_) (fun c9 => ?_)
    · have hok := hok.2 c9
      exact b43 σ s0 hok _ _ hP hD hS _ (lv_sub hl [1, 0] rfl)
    · have hok := hok.1 c9
      refine lv_iload_n hx hb dX5_advance_39 rfl (lv_at hl 0 rfl) ?_
      refine lv_if_eq (tgt := 48) hx hb dX5_advance_40 (by decide) (fun c10 => ?_) (fun c10 => ?_)
      · have hok := hok.1 c10
        exact b48 σ s0 hok _ _ hP hD hS _ (lv_sub hl [1, 0] rfl)
      · have hok := hok.2 c10
        exact b43 σ s0 hok _ _ hP hD hS _ (lv_sub hl [1, 0] rfl)
  have b30 : ∀ (σ : S_Proc), wp_X5_advance_30 σ Φ → ∀ (H : Heap) (locs : List Loc), va_P (dC, dI) vwCl (w_Proc h cI cJ σ) H → va_D A (w_Proc h cI cJ σ) → va_S A s.heap H locs → ∀ ls : Array Slot, lv_has ls 2 [(0, .ref (h 1))] → W p l e (headSpec wsX5_advance { frames := 6, cells := 0, slots := 0, locals := 138 }).room s m ([.ref (h 1)] : List Value).toArray below meth c H locs 0 0 (MQ below (va_Qi Φ (fun u => cpost dC dI cI cJ A (w_Proc h cI cJ u)) A) ([.ref (h 1)] : List Value).toArray s 0 0 A) (F0 m 30 ls []) := by
    intro σ hok H locs hP hD hS ls hl
    unfold wp_X5_advance_30 at hok
    refine lv_iconst (v := 0) hx hb dX5_advance_30 (by decide) ?_
    exact b31 σ 0 hok _ _ hP hD hS _ (lv_sub hl [0] rfl)
  have hl := lv_entry ([.ref (h 1)]) (n := 2) (Nat.le_of_ble_eq_true rfl)
  rw [lg_entry_eq]
  generalize (lg_sl ([.ref (h 1)]) ++ List.replicate (2 - (lg_sl ([.ref (h 1)])).length) Slot.unset).toArray = ls at hl ⊢
  have hl : lv_has ls 2 [(0, .ref (h 1))] := hl
  unfold wp_X5_advance at hok
  refine lv_aload_n hx hb dX5_advance_0 rfl (lv_at hl 0 rfl) ?_
  refine va_get (D := (dC, dI)) (ci := 4) (v := .int (σ.1 7)) (C := RX5) (T := TX5) (N := 15) hx hb hts (fun w h => List.mem_cons_of_mem _ (in_X5 w h)) hown hK hP 0 rfl rfl 7 (by decide) (hts _ (List.mem_cons_of_mem _ tw_1_161)) (fun _ h9 => h9) rfl dX5_advance_1 ?_
  refine lv_if_eq (tgt := 9) hx hb dX5_advance_4 (by decide) (fun c11 => ?_) (fun c11 => ?_)
  · have hok := hok.1 c11
    refine lv_aload_n hx hb dX5_advance_9 rfl (lv_at hl 0 rfl) ?_
    refine va_get (D := (dC, dI)) (ci := 4) (v := .int (σ.1 8)) (C := RX5) (T := TX5) (N := 15) hx hb hts (fun w h => List.mem_cons_of_mem _ (in_X5 w h)) hown hK hP 0 rfl rfl 8 (by decide) (hts _ (List.mem_cons_of_mem _ tw_1_163)) (fun _ h9 => h9) rfl dX5_advance_10 ?_
    refine lv_if_ne (tgt := 30) hx hb dX5_advance_13 (by decide) (fun c12 => ?_) (fun c12 => ?_)
    · have hok := hok.2 c12
      exact b30 σ hok _ _ hP hD hS _ (lv_sub hl [0] rfl)
    · have hok := hok.1 c12
      refine lv_aload_n hx hb dX5_advance_16 rfl (lv_at hl 0 rfl) ?_
      refine va_get (D := (dC, dI)) (ci := 4) (v := .ref (h 4)) (C := RX5) (T := TX5) (N := 15) hx hb hts (fun w h => List.mem_cons_of_mem _ (in_X5 w h)) hown hK hP 0 rfl rfl 12 (by decide) (hts _ (List.mem_cons_of_mem _ tw_1_171)) (fun _ h9 => h9) rfl dX5_advance_17 ?_
      have hPc := hP.sub (ws' := w_Board h cI cJ σ.2.2.2) [3, 4, 5, 6, 7, 8, 9] rfl
      have hDc := hD.sub (ws' := w_Board h cI cJ σ.2.2.2) [3, 4, 5, 6, 7, 8, 9] (by decide) rfl
      have hFc := va_free (wc := w_Board h cI cJ σ.2.2.2) hD hS hA [3, 4, 5, 6, 7, 8, 9] rfl
      refine va_calli (va_runV (As := []) (rest := []) ⟨hx, hb, hml, hown, hts⟩ (c_X0_asks l dC dI cI cJ h _ hok) (cwV 0 hts (tb_gV tw_2_69 tw_2_70 tw_2_71 tw_1_2 tw_2_72) rfl rfl rfl (by decide +kernel) ⟨Nat.le_of_ble_eq_true rfl, Nat.le_of_ble_eq_true rfl⟩) (cpre_V (ci := 0) (q0 := 0) hK hPc hDc rfl rfl) rfl rfl hl.1 rfl (lv_room (Nat.le_of_ble_eq_true rfl)) dX5_advance_20 ⟨Nat.le_of_ble_eq_true rfl, Nat.le_of_ble_eq_true rfl⟩) hS (fun q _ h => hFc q h) hFc (fun r13 _ t H1 locs ht hvm hok hB hz1 hk1 hS => ?_)
      obtain ⟨hP, hD⟩ := cjoin ht hP hD [3, 4, 5, 6, 7, 8, 9] [0, 1, 2] rfl rfl (by decide) (by decide) hk1 hFc hB
      have hP := hP.sub (ws' := w_Proc h cI cJ σ) [0, 1, 2, 3, 4, 5, 6, 7, 8, 9] rfl
      have hD := hD.sub (ws' := w_Proc h cI cJ σ) [0, 1, 2, 3, 4, 5, 6, 7, 8, 9] (by decide) rfl
      refine lv_if_eq (tgt := 30) hx hb dX5_advance_23 (by decide) (fun c14 => ?_) (fun c14 => ?_)
      · have hok := hok.1 c14
        exact b30 σ hok _ _ hP hD hS _ (lv_sub hl [0] rfl)
      · have hok := hok.2 c14
        refine lv_iconst (v := 1) hx hb dX5_advance_26 (by decide) ?_
        refine lv_goto (tgt := 31) hx hb dX5_advance_27 (by decide) ?_
        exact b31 σ 1 hok _ _ hP hD hS _ (lv_sub hl [0] rfl)
  · have hok := hok.2 c11
    refine lv_iconst (v := 0) hx hb dX5_advance_7 (by decide) ?_
    exact W.iret (v := 0) hx hb hr (fun t ht hW => ⟨⟨0, σ, rfl, hok, by rw [ht]; exact hP, va_K.moved hW.alike hK, hD⟩, hS.F ht⟩) hS.2.2 dX5_advance_8
