def wp_X5_jump (σ : S_Proc) (a1 : Int32) (a2 : Int32) (Φ : S_Proc → Prop) : Prop := ((a1 = 112 → (Φ (upd σ.1 5 a2, σ.2.1, σ.2.2.1, σ.2.2.2))) ∧ (a1 = 113 → (wp_X5_wordAt σ a2 (fun r3 u4 => Φ (upd u4.1 5 r3, u4.2.1, u4.2.2.1, u4.2.2.2)))) ∧ (a1 = 114 → (∀ v6 : Int32, v6 = (((σ.1 5) - (1 : Int32)) &&& (65535 : Int32)) >>> ((8 : Int32) &&& 31) → wp_X5_push σ v6 (fun u7 => ∀ v8 : Int32, v8 = (((σ.1 5) - (1 : Int32)) &&& (65535 : Int32)) &&& (255 : Int32) → wp_X5_push u7 v8 (fun u9 => Φ (upd u9.1 5 a2, u9.2.1, u9.2.2.1, u9.2.2.2))))) ∧ (a1 = 115 → (wp_X5_pull σ (fun r11 u12 => wp_X5_pull u12 (fun r13 u14 => ∀ v15 : Int32, v15 = (r11 ||| (r13 <<< ((8 : Int32) &&& 31))) + (1 : Int32) → Φ (upd u14.1 5 (v15 &&& (65535 : Int32)), u14.2.1, u14.2.2.1, u14.2.2.2))))) ∧ (a1 = 116 → (wp_X5_pull σ (fun r17 u18 => wp_X5_pull (upd u18.1 4 (r17 ||| (48 : Int32)), u18.2.1, u18.2.2.1, u18.2.2.2) (fun r19 u20 => wp_X5_pull u20 (fun r21 u22 => Φ (upd u22.1 5 (r19 ||| (r21 <<< ((8 : Int32) &&& 31))), u22.2.1, u22.2.2.1, u22.2.2.2)))))) ∧ ((¬ a1 = 112 ∧ ¬ a1 = 113 ∧ ¬ a1 = 114 ∧ ¬ a1 = 115 ∧ ¬ a1 = 116) → (wp_X5_interrupt (upd σ.1 5 (((σ.1 5) + (1 : Int32)) &&& (65535 : Int32)), σ.2.1, σ.2.2.1, σ.2.2.2) 65534 (σ.1 4) (fun u23 => Φ u23))))
set_option maxHeartbeats 4000000 in
set_option maxRecDepth 100000 in
theorem c_X5_jump (l : Launch) (dC : Nat → ClassId) (dI : Nat → Nat → Nat) (cI cJ : ClassId) (h : Nat → Nat) (sz : Nat) {σ : S_Proc} {a1 : Int32} {a2 : Int32} {Φ : S_Proc → Prop} (hok : wp_X5_jump σ a1 a2 Φ) : Met l yX5_jump wsX5_jump ({ frames := 4, cells := 0, slots := 0, locals := 90 }) (va_Pc [.ref (h 1), .int a1, .int a2] (cpre dC dI cI cJ (w_Proc h cI cJ σ) sz)) (va_Qv Φ (fun u => cpost dC dI cI cJ (va_A (w_Proc h cI cJ σ) sz) (w_Proc h cI cJ u)) (va_A (w_Proc h cI cJ σ) sz)) 0 0 (va_A (w_Proc h cI cJ σ) sz) := by
  refine Met.ofW (cc := cX5_jump) (maxL := 4) (ret := none) (by decide) rfl ?_
  intro p e s m args below meth c s₁ B hml hv
  obtain ⟨rfl, hsz, hP, hK, hD0⟩ := hv
  have hx := B.exec
  have hb := B.bytes
  have hr := B.returns
  have hts := atoms_spec (ws := wsX5_jump) B.pre
  have hown : s.vm.findClass RX5 = some m.cls := findClass_of_methodNamed B.named
  have hlocks := B.notSynchronized
  subst hsz
  have hD := hD0.self (sz := s.heap.size)
  generalize hAe : va_A (w_Proc h cI cJ σ) s.heap.size = A at hD ⊢
  have hA : ∀ q : Nat, s.heap.size ≤ q → A q := fun q h => by rw [← hAe]; exact Or.inr h
  clear hD0 hAe
  have hS : va_S A s.heap s.heap [] := va_S.rf
  have hl := lv_entry ([.ref (h 1), .int a1, .int a2]) (n := 4) (Nat.le_of_ble_eq_true rfl)
  rw [lg_entry_eq]
  generalize (lg_sl ([.ref (h 1), .int a1, .int a2]) ++ List.replicate (4 - (lg_sl ([.ref (h 1), .int a1, .int a2])).length) Slot.unset).toArray = ls at hl ⊢
  have hl : lv_has ls 4 [(0, .ref (h 1)), (1, .int a1), (2, .int a2)] := hl
  unfold wp_X5_jump at hok
  refine lv_iload_n hx hb dX5_jump_0 rfl (lv_at hl 1 rfl) ?_
  by_cases c1 : a1 = 112
  · have hok := hok.1 c1
    refine lv_tableIn (tgt := 36) (off := 35) hx hb dX5_jump_1 (by rw [c1]; decide) (by rw [c1]; decide) (by rw [c1]; decide) (by decide) ?_
    refine lv_aload_n hx hb dX5_jump_36 rfl (lv_at hl 0 rfl) ?_
    refine lv_iload_n hx hb dX5_jump_37 rfl (lv_at hl 2 rfl) ?_
    refine va_put (D := (dC, dI)) (ci := 4) (v := .int a2) (ty := .int) (C := RX5) (T := TX5) (N := 15) hx hb hts (fun w h => List.mem_cons_of_mem _ (in_X5 w h)) tyX5 tyX5_ok nmX5 hown hK hP hD hS 0 rfl rfl 5 (by decide) (hts _ (List.mem_cons_of_mem _ tw_1_157)) (fun _ h9 => h9) rfl (by decide +kernel) rfl rfl (Nat.le_of_ble_eq_true rfl) dX5_jump_38 (fun H locs hP hD hS => ?_)
    have hP : va_P (dC, dI) vwCl (w_Proc h cI cJ (upd σ.1 5 a2, σ.2.1, σ.2.2.1, σ.2.2.2)) _ := hP
    have hD : va_D A (w_Proc h cI cJ (upd σ.1 5 a2, σ.2.1, σ.2.2.1, σ.2.2.2)) := hD
    refine lv_goto (tgt := 172) hx hb dX5_jump_41 (by decide) ?_
    exact W.vret hx hb hr (fun t ht hW => ⟨⟨(upd σ.1 5 a2, σ.2.1, σ.2.2.1, σ.2.2.2), rfl, hok, by rw [ht]; exact hP, va_K.moved hW.alike hK, hD⟩, hS.F ht⟩) hS.2.2 dX5_jump_172
  have hok := hok.2
  by_cases c2 : a1 = 113
  · have hok := hok.1 c2
    refine lv_tableIn (tgt := 44) (off := 43) hx hb dX5_jump_1 (by rw [c2]; decide) (by rw [c2]; decide) (by rw [c2]; decide) (by decide) ?_
    refine lv_aload_n hx hb dX5_jump_44 rfl (lv_at hl 0 rfl) ?_
    refine lv_aload_n hx hb dX5_jump_45 rfl (lv_at hl 0 rfl) ?_
    refine lv_iload_n hx hb dX5_jump_46 rfl (lv_at hl 2 rfl) ?_
    have hPc := hP
    have hDc := hD
    have hFc := va_free (wc := w_Proc h cI cJ σ) hD hS hA [0, 1, 2, 3, 4, 5, 6, 7, 8, 9] rfl
    refine va_calli (va_runV (As := [.int a2]) (rest := [.ref (h 1)]) ⟨hx, hb, hml, hown, hts⟩ (c_X5_wordAt l dC dI cI cJ h _ hok) (cwV 1 hts (tb_gV tw_2_10 tw_2_12 tw_p_0 tw_1_6 tw_2_13) rfl rfl rfl (by decide +kernel) ⟨Nat.le_of_ble_eq_true rfl, Nat.le_of_ble_eq_true rfl⟩) (cpre_V (ci := 4) (q0 := 0) hK hPc hDc rfl rfl) rfl rfl hl.1 rfl (lv_room (Nat.le_of_ble_eq_true rfl)) dX5_jump_47 ⟨Nat.le_of_ble_eq_true rfl, Nat.le_of_ble_eq_true rfl⟩) hS (fun q _ h => hFc q h) hFc (fun r3 u4 t H1 locs ht hvm hok hB hz1 hk1 hS => ?_)
    obtain ⟨hP, hD⟩ := cjoin_w ht hB hFc
    refine va_put (D := (dC, dI)) (ci := 4) (v := .int r3) (ty := .int) (C := RX5) (T := TX5) (N := 15) hx hb hts (fun w h => List.mem_cons_of_mem _ (in_X5 w h)) tyX5 tyX5_ok nmX5 hown hK hP hD hS 0 rfl rfl 5 (by decide) (hts _ (List.mem_cons_of_mem _ tw_1_157)) (fun _ h9 => h9) rfl (by decide +kernel) rfl rfl (Nat.le_of_ble_eq_true rfl) dX5_jump_50 (fun H locs hP hD hS => ?_)
    have hP : va_P (dC, dI) vwCl (w_Proc h cI cJ (upd u4.1 5 r3, u4.2.1, u4.2.2.1, u4.2.2.2)) _ := hP
    have hD : va_D A (w_Proc h cI cJ (upd u4.1 5 r3, u4.2.1, u4.2.2.1, u4.2.2.2)) := hD
    refine lv_goto (tgt := 172) hx hb dX5_jump_53 (by decide) ?_
    exact W.vret hx hb hr (fun t ht hW => ⟨⟨(upd u4.1 5 r3, u4.2.1, u4.2.2.1, u4.2.2.2), rfl, hok, by rw [ht]; exact hP, va_K.moved hW.alike hK, hD⟩, hS.F ht⟩) hS.2.2 dX5_jump_172
  have hok := hok.2
  by_cases c5 : a1 = 114
  · have hok := hok.1 c5
    refine lv_tableIn (tgt := 56) (off := 55) hx hb dX5_jump_1 (by rw [c5]; decide) (by rw [c5]; decide) (by rw [c5]; decide) (by decide) ?_
    refine lv_aload_n hx hb dX5_jump_56 rfl (lv_at hl 0 rfl) ?_
    refine va_get (D := (dC, dI)) (ci := 4) (v := .int (σ.1 5)) (C := RX5) (T := TX5) (N := 15) hx hb hts (fun w h => List.mem_cons_of_mem _ (in_X5 w h)) hown hK hP 0 rfl rfl 5 (by decide) (hts _ (List.mem_cons_of_mem _ tw_1_157)) (fun _ h9 => h9) rfl dX5_jump_57 ?_
    refine lv_iconst (v := 1) hx hb dX5_jump_60 (by decide) ?_
    refine lv_isub hx hb dX5_jump_61 ?_
    refine lv_ldc (v := 65535) hx hb hown (hts _ (List.mem_cons_of_mem _ tw_2_60)) dX5_jump_62 ?_
    refine lv_iand hx hb dX5_jump_64 ?_
    refine lv_istore_n (lv' := [(3, .int (((σ.1 5) - (1 : Int32)) &&& (65535 : Int32))), (0, .ref (h 1)), (1, .int a1), (2, .int a2)]) hx hb dX5_jump_65 rfl hl (by decide) rfl (fun ls hl => ?_)
    refine lv_aload_n hx hb dX5_jump_66 rfl (lv_at hl 1 rfl) ?_
    refine lv_iload_n hx hb dX5_jump_67 rfl (lv_at hl 0 rfl) ?_
    refine lv_bipush (v := 8) hx hb dX5_jump_68 (by decide) ?_
    refine lv_ishr hx hb dX5_jump_70 ?_
    refine lv_topi (fun v6 ev6 => ?_)
    have hok := hok v6 ev6
    have hPc := hP
    have hDc := hD
    have hFc := va_free (wc := w_Proc h cI cJ σ) hD hS hA [0, 1, 2, 3, 4, 5, 6, 7, 8, 9] rfl
    refine va_callv (va_runV (As := [.int v6]) (rest := []) ⟨hx, hb, hml, hown, hts⟩ (c_X5_push l dC dI cI cJ h _ hok) (cwV 1 hts (tb_gV tw_2_92 tw_2_94 tw_p_6 tw_1_6 tw_2_95) rfl rfl rfl (by decide +kernel) ⟨Nat.le_of_ble_eq_true rfl, Nat.le_of_ble_eq_true rfl⟩) (cpre_V (ci := 4) (q0 := 0) hK hPc hDc rfl rfl) rfl rfl hl.1 rfl (lv_room (Nat.le_of_ble_eq_true rfl)) dX5_jump_71 ⟨Nat.le_of_ble_eq_true rfl, Nat.le_of_ble_eq_true rfl⟩) hS (fun q _ h => hFc q h) hFc (fun u7 t H1 locs ht hvm hok hB hz1 hk1 hS => ?_)
    obtain ⟨hP, hD⟩ := cjoin_w ht hB hFc
    refine lv_aload_n hx hb dX5_jump_74 rfl (lv_at hl 1 rfl) ?_
    refine lv_iload_n hx hb dX5_jump_75 rfl (lv_at hl 0 rfl) ?_
    refine lv_sipush (v := 255) hx hb dX5_jump_76 (by decide) ?_
    refine lv_iand hx hb dX5_jump_79 ?_
    refine lv_topi (fun v8 ev8 => ?_)
    have hok := hok v8 ev8
    have hPc := hP
    have hDc := hD
    have hFc := va_free (wc := w_Proc h cI cJ u7) hD hS hA [0, 1, 2, 3, 4, 5, 6, 7, 8, 9] rfl
    refine va_callv (va_runV (As := [.int v8]) (rest := []) ⟨hx, hb, hml, hown, hts⟩ (c_X5_push l dC dI cI cJ h _ hok) (cwV 1 hts (tb_gV tw_2_92 tw_2_94 tw_p_6 tw_1_6 tw_2_95) rfl rfl rfl (by decide +kernel) ⟨Nat.le_of_ble_eq_true rfl, Nat.le_of_ble_eq_true rfl⟩) (cpre_V (ci := 4) (q0 := 0) hK hPc hDc rfl rfl) rfl rfl hl.1 rfl (lv_room (Nat.le_of_ble_eq_true rfl)) dX5_jump_80 ⟨Nat.le_of_ble_eq_true rfl, Nat.le_of_ble_eq_true rfl⟩) hS (fun q _ h => hFc q h) hFc (fun u9 t H1 locs ht hvm hok hB hz1 hk1 hS => ?_)
    obtain ⟨hP, hD⟩ := cjoin_w ht hB hFc
    refine lv_aload_n hx hb dX5_jump_83 rfl (lv_at hl 1 rfl) ?_
    refine lv_iload_n hx hb dX5_jump_84 rfl (lv_at hl 3 rfl) ?_
    refine va_put (D := (dC, dI)) (ci := 4) (v := .int a2) (ty := .int) (C := RX5) (T := TX5) (N := 15) hx hb hts (fun w h => List.mem_cons_of_mem _ (in_X5 w h)) tyX5 tyX5_ok nmX5 hown hK hP hD hS 0 rfl rfl 5 (by decide) (hts _ (List.mem_cons_of_mem _ tw_1_157)) (fun _ h9 => h9) rfl (by decide +kernel) rfl rfl (Nat.le_of_ble_eq_true rfl) dX5_jump_85 (fun H locs hP hD hS => ?_)
    have hP : va_P (dC, dI) vwCl (w_Proc h cI cJ (upd u9.1 5 a2, u9.2.1, u9.2.2.1, u9.2.2.2)) _ := hP
    have hD : va_D A (w_Proc h cI cJ (upd u9.1 5 a2, u9.2.1, u9.2.2.1, u9.2.2.2)) := hD
    refine lv_goto (tgt := 172) hx hb dX5_jump_88 (by decide) ?_
    exact W.vret hx hb hr (fun t ht hW => ⟨⟨(upd u9.1 5 a2, u9.2.1, u9.2.2.1, u9.2.2.2), rfl, hok, by rw [ht]; exact hP, va_K.moved hW.alike hK, hD⟩, hS.F ht⟩) hS.2.2 dX5_jump_172
  have hok := hok.2
  by_cases c10 : a1 = 115
  · have hok := hok.1 c10
    refine lv_tableIn (tgt := 91) (off := 90) hx hb dX5_jump_1 (by rw [c10]; decide) (by rw [c10]; decide) (by rw [c10]; decide) (by decide) ?_
    refine lv_aload_n hx hb dX5_jump_91 rfl (lv_at hl 0 rfl) ?_
    have hPc := hP
    have hDc := hD
    have hFc := va_free (wc := w_Proc h cI cJ σ) hD hS hA [0, 1, 2, 3, 4, 5, 6, 7, 8, 9] rfl
    refine va_calli (va_runV (As := []) (rest := []) ⟨hx, hb, hml, hown, hts⟩ (c_X5_pull l dC dI cI cJ h _ hok) (cwV 0 hts (tb_gV tw_2_209 tw_2_211 tw_p_27 tw_1_6 tw_2_212) rfl rfl rfl (by decide +kernel) ⟨Nat.le_of_ble_eq_true rfl, Nat.le_of_ble_eq_true rfl⟩) (cpre_V (ci := 4) (q0 := 0) hK hPc hDc rfl rfl) rfl rfl hl.1 rfl (lv_room (Nat.le_of_ble_eq_true rfl)) dX5_jump_92 ⟨Nat.le_of_ble_eq_true rfl, Nat.le_of_ble_eq_true rfl⟩) hS (fun q _ h => hFc q h) hFc (fun r11 u12 t H1 locs ht hvm hok hB hz1 hk1 hS => ?_)
    obtain ⟨hP, hD⟩ := cjoin_w ht hB hFc
    refine lv_istore_n (lv' := [(3, .int r11), (0, .ref (h 1)), (1, .int a1), (2, .int a2)]) hx hb dX5_jump_95 rfl hl (by decide) rfl (fun ls hl => ?_)
    refine lv_aload_n hx hb dX5_jump_96 rfl (lv_at hl 1 rfl) ?_
    refine lv_iload_n hx hb dX5_jump_97 rfl (lv_at hl 0 rfl) ?_
    refine lv_aload_n hx hb dX5_jump_98 rfl (lv_at hl 1 rfl) ?_
    have hPc := hP
    have hDc := hD
    have hFc := va_free (wc := w_Proc h cI cJ u12) hD hS hA [0, 1, 2, 3, 4, 5, 6, 7, 8, 9] rfl
    refine va_calli (va_runV (As := []) (rest := [.int r11, .ref (h 1)]) ⟨hx, hb, hml, hown, hts⟩ (c_X5_pull l dC dI cI cJ h _ hok) (cwV 0 hts (tb_gV tw_2_209 tw_2_211 tw_p_27 tw_1_6 tw_2_212) rfl rfl rfl (by decide +kernel) ⟨Nat.le_of_ble_eq_true rfl, Nat.le_of_ble_eq_true rfl⟩) (cpre_V (ci := 4) (q0 := 0) hK hPc hDc rfl rfl) rfl rfl hl.1 rfl (lv_room (Nat.le_of_ble_eq_true rfl)) dX5_jump_99 ⟨Nat.le_of_ble_eq_true rfl, Nat.le_of_ble_eq_true rfl⟩) hS (fun q _ h => hFc q h) hFc (fun r13 u14 t H1 locs ht hvm hok hB hz1 hk1 hS => ?_)
    obtain ⟨hP, hD⟩ := cjoin_w ht hB hFc
    refine lv_bipush (v := 8) hx hb dX5_jump_102 (by decide) ?_
    refine lv_ishl hx hb dX5_jump_104 ?_
    refine lv_ior hx hb dX5_jump_105 ?_
    refine lv_iconst (v := 1) hx hb dX5_jump_106 (by decide) ?_
    refine lv_iadd hx hb dX5_jump_107 ?_
    refine lv_topi (fun v15 ev15 => ?_)
    have hok := hok v15 ev15
    refine lv_ldc (v := 65535) hx hb hown (hts _ (List.mem_cons_of_mem _ tw_2_60)) dX5_jump_108 ?_
    refine lv_iand hx hb dX5_jump_110 ?_
    refine va_put (D := (dC, dI)) (ci := 4) (v := .int (v15 &&& (65535 : Int32))) (ty := .int) (C := RX5) (T := TX5) (N := 15) hx hb hts (fun w h => List.mem_cons_of_mem _ (in_X5 w h)) tyX5 tyX5_ok nmX5 hown hK hP hD hS 0 rfl rfl 5 (by decide) (hts _ (List.mem_cons_of_mem _ tw_1_157)) (fun _ h9 => h9) rfl (by decide +kernel) rfl rfl (Nat.le_of_ble_eq_true rfl) dX5_jump_111 (fun H locs hP hD hS => ?_)
    have hP : va_P (dC, dI) vwCl (w_Proc h cI cJ (upd u14.1 5 (v15 &&& (65535 : Int32)), u14.2.1, u14.2.2.1, u14.2.2.2)) _ := hP
    have hD : va_D A (w_Proc h cI cJ (upd u14.1 5 (v15 &&& (65535 : Int32)), u14.2.1, u14.2.2.1, u14.2.2.2)) := hD
    refine lv_goto (tgt := 172) hx hb dX5_jump_114 (by decide) ?_
    exact W.vret hx hb hr (fun t ht hW => ⟨⟨(upd u14.1 5 (v15 &&& (65535 : Int32)), u14.2.1, u14.2.2.1, u14.2.2.2), rfl, hok, by rw [ht]; exact hP, va_K.moved hW.alike hK, hD⟩, hS.F ht⟩) hS.2.2 dX5_jump_172
  have hok := hok.2
  by_cases c16 : a1 = 116
  · have hok := hok.1 c16
    refine lv_tableIn (tgt := 117) (off := 116) hx hb dX5_jump_1 (by rw [c16]; decide) (by rw [c16]; decide) (by rw [c16]; decide) (by decide) ?_
    refine lv_aload_n hx hb dX5_jump_117 rfl (lv_at hl 0 rfl) ?_
    refine lv_aload_n hx hb dX5_jump_118 rfl (lv_at hl 0 rfl) ?_
    have hPc := hP
    have hDc := hD
    have hFc := va_free (wc := w_Proc h cI cJ σ) hD hS hA [0, 1, 2, 3, 4, 5, 6, 7, 8, 9] rfl
    refine va_calli (va_runV (As := []) (rest := [.ref (h 1)]) ⟨hx, hb, hml, hown, hts⟩ (c_X5_pull l dC dI cI cJ h _ hok) (cwV 0 hts (tb_gV tw_2_209 tw_2_211 tw_p_27 tw_1_6 tw_2_212) rfl rfl rfl (by decide +kernel) ⟨Nat.le_of_ble_eq_true rfl, Nat.le_of_ble_eq_true rfl⟩) (cpre_V (ci := 4) (q0 := 0) hK hPc hDc rfl rfl) rfl rfl hl.1 rfl (lv_room (Nat.le_of_ble_eq_true rfl)) dX5_jump_119 ⟨Nat.le_of_ble_eq_true rfl, Nat.le_of_ble_eq_true rfl⟩) hS (fun q _ h => hFc q h) hFc (fun r17 u18 t H1 locs ht hvm hok hB hz1 hk1 hS => ?_)
    obtain ⟨hP, hD⟩ := cjoin_w ht hB hFc
    refine lv_bipush (v := 48) hx hb dX5_jump_122 (by decide) ?_
    refine lv_ior hx hb dX5_jump_124 ?_
    refine va_put (D := (dC, dI)) (ci := 4) (v := .int (r17 ||| (48 : Int32))) (ty := .int) (C := RX5) (T := TX5) (N := 15) hx hb hts (fun w h => List.mem_cons_of_mem _ (in_X5 w h)) tyX5 tyX5_ok nmX5 hown hK hP hD hS 0 rfl rfl 4 (by decide) (hts _ (List.mem_cons_of_mem _ tw_1_155)) (fun _ h9 => h9) rfl (by decide +kernel) rfl rfl (Nat.le_of_ble_eq_true rfl) dX5_jump_125 (fun H locs hP hD hS => ?_)
    have hP : va_P (dC, dI) vwCl (w_Proc h cI cJ (upd u18.1 4 (r17 ||| (48 : Int32)), u18.2.1, u18.2.2.1, u18.2.2.2)) _ := hP
    have hD : va_D A (w_Proc h cI cJ (upd u18.1 4 (r17 ||| (48 : Int32)), u18.2.1, u18.2.2.1, u18.2.2.2)) := hD
    refine lv_aload_n hx hb dX5_jump_128 rfl (lv_at hl 0 rfl) ?_
    have hPc := hP
    have hDc := hD
    have hFc := va_free (wc := w_Proc h cI cJ (upd u18.1 4 (r17 ||| (48 : Int32)), u18.2.1, u18.2.2.1, u18.2.2.2)) hD hS hA [0, 1, 2, 3, 4, 5, 6, 7, 8, 9] rfl
    refine va_calli (va_runV (As := []) (rest := []) ⟨hx, hb, hml, hown, hts⟩ (c_X5_pull l dC dI cI cJ h _ hok) (cwV 0 hts (tb_gV tw_2_209 tw_2_211 tw_p_27 tw_1_6 tw_2_212) rfl rfl rfl (by decide +kernel) ⟨Nat.le_of_ble_eq_true rfl, Nat.le_of_ble_eq_true rfl⟩) (cpre_V (ci := 4) (q0 := 0) hK hPc hDc rfl rfl) rfl rfl hl.1 rfl (lv_room (Nat.le_of_ble_eq_true rfl)) dX5_jump_129 ⟨Nat.le_of_ble_eq_true rfl, Nat.le_of_ble_eq_true rfl⟩) hS (fun q _ h => hFc q h) hFc (fun r19 u20 t H1 locs ht hvm hok hB hz1 hk1 hS => ?_)
    obtain ⟨hP, hD⟩ := cjoin_w ht hB hFc
    refine lv_istore_n (lv' := [(3, .int r19), (0, .ref (h 1)), (1, .int a1), (2, .int a2)]) hx hb dX5_jump_132 rfl hl (by decide) rfl (fun ls hl => ?_)
    refine lv_aload_n hx hb dX5_jump_133 rfl (lv_at hl 1 rfl) ?_
    refine lv_iload_n hx hb dX5_jump_134 rfl (lv_at hl 0 rfl) ?_
    refine lv_aload_n hx hb dX5_jump_135 rfl (lv_at hl 1 rfl) ?_
    have hPc := hP
    have hDc := hD
    have hFc := va_free (wc := w_Proc h cI cJ u20) hD hS hA [0, 1, 2, 3, 4, 5, 6, 7, 8, 9] rfl
    refine va_calli (va_runV (As := []) (rest := [.int r19, .ref (h 1)]) ⟨hx, hb, hml, hown, hts⟩ (c_X5_pull l dC dI cI cJ h _ hok) (cwV 0 hts (tb_gV tw_2_209 tw_2_211 tw_p_27 tw_1_6 tw_2_212) rfl rfl rfl (by decide +kernel) ⟨Nat.le_of_ble_eq_true rfl, Nat.le_of_ble_eq_true rfl⟩) (cpre_V (ci := 4) (q0 := 0) hK hPc hDc rfl rfl) rfl rfl hl.1 rfl (lv_room (Nat.le_of_ble_eq_true rfl)) dX5_jump_136 ⟨Nat.le_of_ble_eq_true rfl, Nat.le_of_ble_eq_true rfl⟩) hS (fun q _ h => hFc q h) hFc (fun r21 u22 t H1 locs ht hvm hok hB hz1 hk1 hS => ?_)
    obtain ⟨hP, hD⟩ := cjoin_w ht hB hFc
    refine lv_bipush (v := 8) hx hb dX5_jump_139 (by decide) ?_
    refine lv_ishl hx hb dX5_jump_141 ?_
    refine lv_ior hx hb dX5_jump_142 ?_
    refine va_put (D := (dC, dI)) (ci := 4) (v := .int (r19 ||| (r21 <<< ((8 : Int32) &&& 31)))) (ty := .int) (C := RX5) (T := TX5) (N := 15) hx hb hts (fun w h => List.mem_cons_of_mem _ (in_X5 w h)) tyX5 tyX5_ok nmX5 hown hK hP hD hS 0 rfl rfl 5 (by decide) (hts _ (List.mem_cons_of_mem _ tw_1_157)) (fun _ h9 => h9) rfl (by decide +kernel) rfl rfl (Nat.le_of_ble_eq_true rfl) dX5_jump_143 (fun H locs hP hD hS => ?_)
    have hP : va_P (dC, dI) vwCl (w_Proc h cI cJ (upd u22.1 5 (r19 ||| (r21 <<< ((8 : Int32) &&& 31))), u22.2.1, u22.2.2.1, u22.2.2.2)) _ := hP
    have hD : va_D A (w_Proc h cI cJ (upd u22.1 5 (r19 ||| (r21 <<< ((8 : Int32) &&& 31))), u22.2.1, u22.2.2.1, u22.2.2.2)) := hD
    refine lv_goto (tgt := 172) hx hb dX5_jump_146 (by decide) ?_
    exact W.vret hx hb hr (fun t ht hW => ⟨⟨(upd u22.1 5 (r19 ||| (r21 <<< ((8 : Int32) &&& 31))), u22.2.1, u22.2.2.1, u22.2.2.2), rfl, hok, by rw [ht]; exact hP, va_K.moved hW.alike hK, hD⟩, hS.F ht⟩) hS.2.2 dX5_jump_172
  have hok := hok.2
  have hok := hok ⟨c1, c2, c5, c10, c16⟩
  have kz22 : ∀ k ∈ ([112, 113, 114, 115, 116] : List Int), (a1).toInt ≠ k := List.forall_mem_cons.mpr ⟨tb_ne c1 rfl, List.forall_mem_cons.mpr ⟨tb_ne c2 rfl, List.forall_mem_cons.mpr ⟨tb_ne c5 rfl, List.forall_mem_cons.mpr ⟨tb_ne c10 rfl, List.forall_mem_cons.mpr ⟨tb_ne c16 rfl, fun k h => absurd h List.not_mem_nil⟩⟩⟩⟩⟩
  refine tb_def (tgt := 149) (keys := [112, 113, 114, 115, 116]) hx hb dX5_jump_1 kz22 (by decide) (by decide) ?_
  refine lv_aload_n hx hb dX5_jump_149 rfl (lv_at hl 0 rfl) ?_
  refine lv_aload_n hx hb dX5_jump_150 rfl (lv_at hl 0 rfl) ?_
  refine va_get (D := (dC, dI)) (ci := 4) (v := .int (σ.1 5)) (C := RX5) (T := TX5) (N := 15) hx hb hts (fun w h => List.mem_cons_of_mem _ (in_X5 w h)) hown hK hP 0 rfl rfl 5 (by decide) (hts _ (List.mem_cons_of_mem _ tw_1_157)) (fun _ h9 => h9) rfl dX5_jump_151 ?_
  refine lv_iconst (v := 1) hx hb dX5_jump_154 (by decide) ?_
  refine lv_iadd hx hb dX5_jump_155 ?_
  refine lv_ldc (v := 65535) hx hb hown (hts _ (List.mem_cons_of_mem _ tw_2_60)) dX5_jump_156 ?_
  refine lv_iand hx hb dX5_jump_158 ?_
  refine va_put (D := (dC, dI)) (ci := 4) (v := .int (((σ.1 5) + (1 : Int32)) &&& (65535 : Int32))) (ty := .int) (C := RX5) (T := TX5) (N := 15) hx hb hts (fun w h => List.mem_cons_of_mem _ (in_X5 w h)) tyX5 tyX5_ok nmX5 hown hK hP hD hS 0 rfl rfl 5 (by decide) (hts _ (List.mem_cons_of_mem _ tw_1_157)) (fun _ h9 => h9) rfl (by decide +kernel) rfl rfl (Nat.le_of_ble_eq_true rfl) dX5_jump_159 (fun H locs hP hD hS => ?_)
  have hP : va_P (dC, dI) vwCl (w_Proc h cI cJ (upd σ.1 5 (((σ.1 5) + (1 : Int32)) &&& (65535 : Int32)), σ.2.1, σ.2.2.1, σ.2.2.2)) _ := hP
  have hD : va_D A (w_Proc h cI cJ (upd σ.1 5 (((σ.1 5) + (1 : Int32)) &&& (65535 : Int32)), σ.2.1, σ.2.2.1, σ.2.2.2)) := hD
  refine lv_aload_n hx hb dX5_jump_162 rfl (lv_at hl 0 rfl) ?_
  refine lv_ldc (v := 65534) hx hb hown (hts _ (List.mem_cons_of_mem _ tw_2_115)) dX5_jump_163 ?_
  refine lv_aload_n hx hb dX5_jump_165 rfl (lv_at hl 0 rfl) ?_
  refine va_get (D := (dC, dI)) (ci := 4) (v := .int (σ.1 4)) (C := RX5) (T := TX5) (N := 15) hx hb hts (fun w h => List.mem_cons_of_mem _ (in_X5 w h)) hown hK hP 0 rfl rfl 4 (by decide) (hts _ (List.mem_cons_of_mem _ tw_1_155)) (fun _ h9 => h9) rfl dX5_jump_166 ?_
  have hPc := hP
  have hDc := hD
  have hFc := va_free (wc := w_Proc h cI cJ (upd σ.1 5 (((σ.1 5) + (1 : Int32)) &&& (65535 : Int32)), σ.2.1, σ.2.2.1, σ.2.2.2)) hD hS hA [0, 1, 2, 3, 4, 5, 6, 7, 8, 9] rfl
  refine va_callv (va_runV (As := [.int 65534, .int (σ.1 4)]) (rest := []) ⟨hx, hb, hml, hown, hts⟩ (c_X5_interrupt l dC dI cI cJ h _ hok) (cwV 2 hts (tb_gV tw_2_88 tw_2_90 tw_p_5 tw_1_6 tw_2_91) rfl rfl rfl (by decide +kernel) ⟨Nat.le_of_ble_eq_true rfl, Nat.le_of_ble_eq_true rfl⟩) (cpre_V (ci := 4) (q0 := 0) hK hPc hDc rfl rfl) rfl rfl hl.1 rfl (lv_room (Nat.le_of_ble_eq_true rfl)) dX5_jump_169 ⟨Nat.le_of_ble_eq_true rfl, Nat.le_of_ble_eq_true rfl⟩) hS (fun q _ h => hFc q h) hFc (fun u23 t H1 locs ht hvm hok hB hz1 hk1 hS => ?_)
  obtain ⟨hP, hD⟩ := cjoin_w ht hB hFc
  exact W.vret hx hb hr (fun t ht hW => ⟨⟨u23, rfl, hok, by rw [ht]; exact hP, va_K.moved hW.alike hK, hD⟩, hS.F ht⟩) hS.2.2 dX5_jump_172
