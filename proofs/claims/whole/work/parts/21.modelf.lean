def wp_X9_taken2 (σ : S_Model) (a1 : Int32) (Φ : Int32 → S_Model → Prop) : Prop := wp_X9_interrupt (σ.1, vp_updL σ.2.1 28 ((σ.2.1 28) + (1 : Int64)), σ.2.2) a1 0 (fun u1 => Φ 7 u1)
set_option maxHeartbeats 4000000 in
set_option maxRecDepth 100000 in
theorem c_X9_taken2 (l : Launch) (dC : Nat → ClassId) (dI : Nat → Nat → Nat) (cI cJ : ClassId) (h : Nat → Nat) (sz : Nat) {σ : S_Model} {a1 : Int32} {Φ : Int32 → S_Model → Prop} (hok : wp_X9_taken2 σ a1 Φ) : Met l yX9_taken2 wsX9_taken2 ({ frames := 5, cells := 0, slots := 0, locals := 109 }) (va_Pc [.ref (h 13), .int a1] (cpre dC dI cI cJ (w_Model h cI cJ σ) sz)) (va_Qi Φ (fun u => cpost dC dI cI cJ (va_A (w_Model h cI cJ σ) sz) (w_Model h cI cJ u)) (va_A (w_Model h cI cJ σ) sz)) 0 0 (va_A (w_Model h cI cJ σ) sz) := by
  refine Met.ofW (cc := cX9_taken2) (maxL := 2) (ret := (some .int)) (by decide) rfl ?_
  intro p e s m args below meth c s₁ B hml hv
  obtain ⟨rfl, hsz, hP, hK, hD0⟩ := hv
  have hx := B.exec
  have hb := B.bytes
  have hr := B.returns
  have hts := atoms_spec (ws := wsX9_taken2) B.pre
  have hown : s.vm.findClass RX9 = some m.cls := findClass_of_methodNamed B.named
  have hlocks := B.notSynchronized
  subst hsz
  have hD := hD0.self (sz := s.heap.size)
  generalize hAe : va_A (w_Model h cI cJ σ) s.heap.size = A at hD ⊢
  have hA : ∀ q : Nat, s.heap.size ≤ q → A q := fun q h => by rw [← hAe]; exact Or.inr h
  clear hD0 hAe
  have hS : va_S A s.heap s.heap [] := va_S.rf
  have hl := lv_entry ([.ref (h 13), .int a1]) (n := 2) (Nat.le_of_ble_eq_true rfl)
  rw [lg_entry_eq]
  generalize (lg_sl ([.ref (h 13), .int a1]) ++ List.replicate (2 - (lg_sl ([.ref (h 13), .int a1])).length) Slot.unset).toArray = ls at hl ⊢
  have hl : lv_has ls 2 [(0, .ref (h 13)), (1, .int a1)] := hl
  unfold wp_X9_taken2 at hok
  refine lv_aload_n hx hb dX9_taken2_0 rfl (lv_at hl 0 rfl) ?_
  refine lv_dup hx hb dX9_taken2_1 rfl ?_
  refine va_get (D := (dC, dI)) (ci := 8) (v := .long (σ.2.1 28)) (C := RX9) (T := TX9) (N := 33) hx hb hts (fun w h => List.mem_cons_of_mem _ (in_X9 w h)) hown hK hP 0 rfl rfl 28 (by decide) (hts _ (List.mem_cons_of_mem _ tw_3_215)) (fun _ h9 => h9) rfl dX9_taken2_2 ?_
  refine lv_lconst (v := 1) hx hb dX9_taken2_5 (by decide) ?_
  refine lv_ladd hx hb dX9_taken2_6 ?_
  refine va_put (D := (dC, dI)) (ci := 8) (v := .long ((σ.2.1 28) + (1 : Int64))) (ty := .long) (C := RX9) (T := TX9) (N := 33) hx hb hts (fun w h => List.mem_cons_of_mem _ (in_X9 w h)) tyX9 tyX9_ok nmX9 hown hK hP hD hS 0 rfl rfl 28 (by decide) (hts _ (List.mem_cons_of_mem _ tw_3_215)) (fun _ h9 => h9) rfl (by decide +kernel) rfl rfl (Nat.le_of_ble_eq_true rfl) dX9_taken2_7 (fun H locs hP hD hS => ?_)
  have hP : va_P (dC, dI) vwCl (w_Model h cI cJ (σ.1, vp_updL σ.2.1 28 ((σ.2.1 28) + (1 : Int64)), σ.2.2)) _ := hP
  have hD : va_D A (w_Model h cI cJ (σ.1, vp_updL σ.2.1 28 ((σ.2.1 28) + (1 : Int64)), σ.2.2)) := hD
  refine lv_aload_n hx hb dX9_taken2_10 rfl (lv_at hl 0 rfl) ?_
  refine lv_iload_n hx hb dX9_taken2_11 rfl (lv_at hl 1 rfl) ?_
  refine lv_iconst (v := 0) hx hb dX9_taken2_12 (by decide) ?_
  have hPc := hP
  have hDc := hD
  have hFc := va_free (wc := w_Model h cI cJ (σ.1, vp_updL σ.2.1 28 ((σ.2.1 28) + (1 : Int64)), σ.2.2)) hD hS hA [0, 1, 2, 3, 4, 5, 6] rfl
  refine va_callv (va_runV (As := [.int a1, .int 0]) (rest := []) ⟨hx, hb, hml, hown, hts⟩ (c_X9_interrupt l dC dI cI cJ h _ hok) (cwV 2 hts (tb_gV tw_4_64 tw_4_66 tw_p_38 tw_1_9 tw_4_67) rfl rfl rfl (by decide +kernel) ⟨Nat.le_of_ble_eq_true rfl, Nat.le_of_ble_eq_true rfl⟩) (cpre_V (ci := 8) (q0 := 0) hK hPc hDc rfl rfl) rfl rfl hl.1 rfl (lv_room (Nat.le_of_ble_eq_true rfl)) dX9_taken2_13 ⟨Nat.le_of_ble_eq_true rfl, Nat.le_of_ble_eq_true rfl⟩) hS (fun q _ h => hFc q h) hFc (fun u1 t H1 locs ht hvm hok hB hz1 hk1 hS => ?_)
  obtain ⟨hP, hD⟩ := cjoin_w ht hB hFc
  refine lv_bipush (v := 7) hx hb dX9_taken2_16 (by decide) ?_
  exact W.iret (v := 7) hx hb hr (fun t ht hW => ⟨⟨7, u1, rfl, hok, by rw [ht]; exact hP, va_K.moved hW.alike hK, hD⟩, hS.F ht⟩) hS.2.2 dX9_taken2_18
def wp_X9_once_73 (σ : S_Model) (Φ : Int32 → S_Model → Prop) : Prop := (((σ.1 6) = 0 → (wp_X9_instruction σ (fun r2 u3 => Φ r2 u3))) ∧ (¬ (σ.1 6) = 0 → (Φ 1 σ)))
def wp_X9_once_53 (σ : S_Model) (Φ : Int32 → S_Model → Prop) : Prop := wp_X9_is (upd σ.1 6 0, σ.2.1, σ.2.2) 4 (fun r4 => ((r4 = 0 → (wp_X9_taken2 (upd σ.1 6 0, σ.2.1, σ.2.2) 65534 (fun r6 u7 => Φ r6 u7))) ∧ (¬ r4 = 0 → (wp_X9_once_73 (upd σ.1 6 0, σ.2.1, σ.2.2) Φ))))
def wp_X9_once (σ : S_Model) (Φ : Int32 → S_Model → Prop) : Prop := (((σ.1 7) = 0 → ((((σ.1 8) = 0 → (((((σ.1 17) &&& (σ.1 18)) = 0 → (wp_X9_asks σ (fun r11 => ((r11 = 0 → (wp_X9_once_73 σ Φ)) ∧ (¬ r11 = 0 → (wp_X9_once_53 σ Φ)))))) ∧ (¬ ((σ.1 17) &&& (σ.1 18)) = 0 → (wp_X9_once_53 σ Φ))))) ∧ (¬ (σ.1 8) = 0 → (wp_X9_taken2 (upd (upd σ.1 8 0) 6 0, σ.2.1, σ.2.2) 65530 (fun r13 u14 => Φ r13 u14)))))) ∧ (¬ (σ.1 7) = 0 → (Φ 0 σ)))
set_option maxHeartbeats 4000000 in
set_option maxRecDepth 100000 in
theorem c_X9_once (l : Launch) (dC : Nat → ClassId) (dI : Nat → Nat → Nat) (cI cJ : ClassId) (h : Nat → Nat) (sz : Nat) {σ : S_Model} {Φ : Int32 → S_Model → Prop} (hok : wp_X9_once σ Φ) : Met l yX9_once wsX9_once ({ frames := 9, cells := 0, slots := 0, locals := 197 }) (va_Pc [.ref (h 13)] (cpre dC dI cI cJ (w_Model h cI cJ σ) sz)) (va_Qi Φ (fun u => cpost dC dI cI cJ (va_A (w_Model h cI cJ σ) sz) (w_Model h cI cJ u)) (va_A (w_Model h cI cJ σ) sz)) 0 0 (va_A (w_Model h cI cJ σ) sz) := by
  refine Met.ofW (cc := cX9_once) (maxL := 1) (ret := (some .int)) (by decide) rfl ?_
  intro p e s m args below meth c s₁ B hml hv
  obtain ⟨rfl, hsz, hP, hK, hD0⟩ := hv
  have hx := B.exec
  have hb := B.bytes
  have hr := B.returns
  have hts := atoms_spec (ws := wsX9_once) B.pre
  have hown : s.vm.findClass RX9 = some m.cls := findClass_of_methodNamed B.named
  have hlocks := B.notSynchronized
  subst hsz
  have hD := hD0.self (sz := s.heap.size)
  generalize hAe : va_A (w_Model h cI cJ σ) s.heap.size = A at hD ⊢
  have hA : ∀ q : Nat, s.heap.size ≤ q → A q := fun q h => by rw [← hAe]; exact Or.inr h
  clear hD0 hAe
  have hS : va_S A s.heap s.heap [] := va_S.rf
  have b73 : ∀ (σ : S_Model), wp_X9_once_73 σ Φ → ∀ (H : Heap) (locs : List Loc), va_P (dC, dI) vwCl (w_Model h cI cJ σ) H → va_D A (w_Model h cI cJ σ) → va_S A s.heap H locs → ∀ ls : Array Slot, lv_has ls 1 [(0, .ref (h 13))] → W p l e (headSpec wsX9_once { frames := 9, cells := 0, slots := 0, locals := 197 }).room s m ([.ref (h 13)] : List Value).toArray below meth c H locs 0 0 (MQ below (va_Qi Φ (fun u => cpost dC dI cI cJ A (w_Model h cI cJ u)) A) ([.ref (h 13)] : List Value).toArray s 0 0 A) (F0 m 73 ls []) := by
    intro σ hok H locs hP hD hS ls hl
    unfold wp_X9_once_73 at hok
    refine lv_aload_n hx hb dX9_once_73 rfl (lv_at hl 0 rfl) ?_
    refine va_get (D := (dC, dI)) (ci := 8) (v := .int (σ.1 6)) (C := RX9) (T := TX9) (N := 33) hx hb hts (fun w h => List.mem_cons_of_mem _ (in_X9 w h)) hown hK hP 0 rfl rfl 6 (by decide) (hts _ (List.mem_cons_of_mem _ tw_3_193)) (fun _ h9 => h9) rfl dX9_once_74 ?_
    refine lv_if_eq (tgt := 84) hx hb dX9_once_77 (by decide) (fun c1 => ?_) (fun c1 => ?_)
    · have hok := hok.1 c1
      refine lv_aload_n hx hb dX9_once_84 rfl (lv_at hl 0 rfl) ?_
      have hPc := hP
      have hDc := hD
      have hFc := va_free (wc := w_Model h cI cJ σ) hD hS hA [0, 1, 2, 3, 4, 5, 6] rfl
      refine va_calli (va_runV (As := []) (rest := []) ⟨hx, hb, hml, hown, hts⟩ (c_X9_instruction l dC dI cI cJ h _ hok) (cwV 0 hts (tb_gV tw_4_117 tw_4_119 tw_p_49 tw_1_9 tw_4_120) rfl rfl rfl (by decide +kernel) ⟨Nat.le_of_ble_eq_true rfl, Nat.le_of_ble_eq_true rfl⟩) (cpre_V (ci := 8) (q0 := 0) hK hPc hDc rfl rfl) rfl rfl hl.1 rfl (lv_room (Nat.le_of_ble_eq_true rfl)) dX9_once_85 ⟨Nat.le_of_ble_eq_true rfl, Nat.le_of_ble_eq_true rfl⟩) hS (fun q _ h => hFc q h) hFc (fun r2 u3 t H1 locs ht hvm hok hB hz1 hk1 hS => ?_)
      obtain ⟨hP, hD⟩ := cjoin_w ht hB hFc
      exact W.iret (v := r2) hx hb hr (fun t ht hW => ⟨⟨r2, u3, rfl, hok, by rw [ht]; exact hP, va_K.moved hW.alike hK, hD⟩, hS.F ht⟩) hS.2.2 dX9_once_88
    · have hok := hok.2 c1
      refine lv_iconst (v := 1) hx hb dX9_once_80 (by decide) ?_
      refine lv_goto (tgt := 88) hx hb dX9_once_81 (by decide) ?_
      exact W.iret (v := 1) hx hb hr (fun t ht hW => ⟨⟨1, σ, rfl, hok, by rw [ht]; exact hP, va_K.moved hW.alike hK, hD⟩, hS.F ht⟩) hS.2.2 dX9_once_88
  have b53 : ∀ (σ : S_Model), wp_X9_once_53 σ Φ → ∀ (H : Heap) (locs : List Loc), va_P (dC, dI) vwCl (w_Model h cI cJ σ) H → va_D A (w_Model h cI cJ σ) → va_S A s.heap H locs → ∀ ls : Array Slot, lv_has ls 1 [(0, .ref (h 13))] → W p l e (headSpec wsX9_once { frames := 9, cells := 0, slots := 0, locals := 197 }).room s m ([.ref (h 13)] : List Value).toArray below meth c H locs 0 0 (MQ below (va_Qi Φ (fun u => cpost dC dI cI cJ A (w_Model h cI cJ u)) A) ([.ref (h 13)] : List Value).toArray s 0 0 A) (F0 m 53 ls []) := by
    intro σ hok H locs hP hD hS ls hl
    unfold wp_X9_once_53 at hok
    refine lv_aload_n hx hb dX9_once_53 rfl (lv_at hl 0 rfl) ?_
    refine lv_iconst (v := 0) hx hb dX9_once_54 (by decide) ?_
    refine va_put (D := (dC, dI)) (ci := 8) (v := .int 0) (ty := .boolean) (C := RX9) (T := TX9) (N := 33) hx hb hts (fun w h => List.mem_cons_of_mem _ (in_X9 w h)) tyX9 tyX9_ok nmX9 hown hK hP hD hS 0 rfl rfl 6 (by decide) (hts _ (List.mem_cons_of_mem _ tw_3_193)) (fun _ h9 => h9) rfl (by decide +kernel) rfl rfl (Nat.le_of_ble_eq_true rfl) dX9_once_55 (fun H locs hP hD hS => ?_)
    have hP : va_P (dC, dI) vwCl (w_Model h cI cJ (upd σ.1 6 0, σ.2.1, σ.2.2)) _ := hP
    have hD : va_D A (w_Model h cI cJ (upd σ.1 6 0, σ.2.1, σ.2.2)) := hD
    refine lv_aload_n hx hb dX9_once_58 rfl (lv_at hl 0 rfl) ?_
    refine lv_iconst (v := 4) hx hb dX9_once_59 (by decide) ?_
    have hPc := hP
    have hDc := hD
    have hFc := va_free (wc := w_Model h cI cJ (upd σ.1 6 0, σ.2.1, σ.2.2)) hD hS hA [0, 1, 2, 3, 4, 5, 6] rfl
    refine va_calli (va_runV (As := [.int 4]) (rest := []) ⟨hx, hb, hml, hown, hts⟩ (c_X9_is l dC dI cI cJ h _ hok) (cwV 1 hts (tb_gV tw_4_112 tw_4_114 tw_p_48 tw_1_9 tw_4_115) rfl rfl rfl (by decide +kernel) ⟨Nat.le_of_ble_eq_true rfl, Nat.le_of_ble_eq_true rfl⟩) (cpre_V (ci := 8) (q0 := 0) hK hPc hDc rfl rfl) rfl rfl hl.1 rfl (lv_room (Nat.le_of_ble_eq_true rfl)) dX9_once_60 ⟨Nat.le_of_ble_eq_true rfl, Nat.le_of_ble_eq_true rfl⟩) hS (fun q _ h => hFc q h) hFc (fun r4 _ t H1 locs ht hvm hok hB hz1 hk1 hS => ?_)
    obtain ⟨hP, hD⟩ := cjoin_w ht hB hFc
    refine lv_if_ne (tgt := 73) hx hb dX9_once_63 (by decide) (fun c5 => ?_) (fun c5 => ?_)
    · have hok := hok.2 c5
      exact b73 (upd σ.1 6 0, σ.2.1, σ.2.2) hok _ _ hP hD hS _ (lv_sub hl [0] rfl)
    · have hok := hok.1 c5
      refine lv_aload_n hx hb dX9_once_66 rfl (lv_at hl 0 rfl) ?_
      refine lv_ldc (v := 65534) hx hb hown (hts _ (List.mem_cons_of_mem _ tw_4_116)) dX9_once_67 ?_
      have hPc := hP
      have hDc := hD
      have hFc := va_free (wc := w_Model h cI cJ (upd σ.1 6 0, σ.2.1, σ.2.2)) hD hS hA [0, 1, 2, 3, 4, 5, 6] rfl
      refine va_calli (va_runV (As := [.int 65534]) (rest := []) ⟨hx, hb, hml, hown, hts⟩ (c_X9_taken2 l dC dI cI cJ h _ hok) (cwV 1 hts (tb_gV tw_4_60 tw_4_62 tw_p_37 tw_1_9 tw_4_63) rfl rfl rfl (by decide +kernel) ⟨Nat.le_of_ble_eq_true rfl, Nat.le_of_ble_eq_true rfl⟩) (cpre_V (ci := 8) (q0 := 0) hK hPc hDc rfl rfl) rfl rfl hl.1 rfl (lv_room (Nat.le_of_ble_eq_true rfl)) dX9_once_69 ⟨Nat.le_of_ble_eq_true rfl, Nat.le_of_ble_eq_true rfl⟩) hS (fun q _ h => hFc q h) hFc (fun r6 u7 t H1 locs ht hvm hok hB hz1 hk1 hS => ?_)
      obtain ⟨hP, hD⟩ := cjoin_w ht hB hFc
      exact W.iret (v := r6) hx hb hr (fun t ht hW => ⟨⟨r6, u7, rfl, hok, by rw [ht]; exact hP, va_K.moved hW.alike hK, hD⟩, hS.F ht⟩) hS.2.2 dX9_once_72
  have hl := lv_entry ([.ref (h 13)]) (n := 1) (Nat.le_of_ble_eq_true rfl)
  rw [lg_entry_eq]
  generalize (lg_sl ([.ref (h 13)]) ++ List.replicate (1 - (lg_sl ([.ref (h 13)])).length) Slot.unset).toArray = ls at hl ⊢
  have hl : lv_has ls 1 [(0, .ref (h 13))] := hl
  unfold wp_X9_once at hok
  refine lv_aload_n hx hb dX9_once_0 rfl (lv_at hl 0 rfl) ?_
  refine va_get (D := (dC, dI)) (ci := 8) (v := .int (σ.1 7)) (C := RX9) (T := TX9) (N := 33) hx hb hts (fun w h => List.mem_cons_of_mem _ (in_X9 w h)) hown hK hP 0 rfl rfl 7 (by decide) (hts _ (List.mem_cons_of_mem _ tw_3_194)) (fun _ h9 => h9) rfl dX9_once_1 ?_
  refine lv_if_eq (tgt := 9) hx hb dX9_once_4 (by decide) (fun c8 => ?_) (fun c8 => ?_)
  · have hok := hok.1 c8
    refine lv_aload_n hx hb dX9_once_9 rfl (lv_at hl 0 rfl) ?_
    refine va_get (D := (dC, dI)) (ci := 8) (v := .int (σ.1 8)) (C := RX9) (T := TX9) (N := 33) hx hb hts (fun w h => List.mem_cons_of_mem _ (in_X9 w h)) hown hK hP 0 rfl rfl 8 (by decide) (hts _ (List.mem_cons_of_mem _ tw_3_195)) (fun _ h9 => h9) rfl dX9_once_10 ?_
    refine lv_if_eq (tgt := 34) hx hb dX9_once_13 (by decide) (fun c9 => ?_) (fun c9 => ?_)
    · have hok := hok.1 c9
      refine lv_aload_n hx hb dX9_once_34 rfl (lv_at hl 0 rfl) ?_
      refine va_get (D := (dC, dI)) (ci := 8) (v := .int (σ.1 17)) (C := RX9) (T := TX9) (N := 33) hx hb hts (fun w h => List.mem_cons_of_mem _ (in_X9 w h)) hown hK hP 0 rfl rfl 17 (by decide) (hts _ (List.mem_cons_of_mem _ tw_3_204)) (fun _ h9 => h9) rfl dX9_once_35 ?_
      refine lv_aload_n hx hb dX9_once_38 rfl (lv_at hl 0 rfl) ?_
      refine va_get (D := (dC, dI)) (ci := 8) (v := .int (σ.1 18)) (C := RX9) (T := TX9) (N := 33) hx hb hts (fun w h => List.mem_cons_of_mem _ (in_X9 w h)) hown hK hP 0 rfl rfl 18 (by decide) (hts _ (List.mem_cons_of_mem _ tw_3_205)) (fun _ h9 => h9) rfl dX9_once_39 ?_
      refine lv_iand hx hb dX9_once_42 ?_
      refine lv_if_ne (tgt := 53) hx hb dX9_once_43 (by decide) (fun c10 => ?_) (fun c10 => ?_)
      · have hok := hok.2 c10
        exact b53 σ hok _ _ hP hD hS _ (lv_sub hl [0] rfl)
      · have hok := hok.1 c10
        refine lv_aload_n hx hb dX9_once_46 rfl (lv_at hl 0 rfl) ?_
        have hPc := hP
        have hDc := hD
        have hFc := va_free (wc := w_Model h cI cJ σ) hD hS hA [0, 1, 2, 3, 4, 5, 6] rfl
        refine va_calli (va_runV (As := []) (rest := []) ⟨hx, hb, hml, hown, hts⟩ (c_X9_asks l dC dI cI cJ h _ hok) (cwV 0 hts (tb_gV tw_4_105 tw_4_107 tw_p_47 tw_1_9 tw_4_108) rfl rfl rfl (by decide +kernel) ⟨Nat.le_of_ble_eq_true rfl, Nat.le_of_ble_eq_true rfl⟩) (cpre_V (ci := 8) (q0 := 0) hK hPc hDc rfl rfl) rfl rfl hl.1 rfl (lv_room (Nat.le_of_ble_eq_true rfl)) dX9_once_47 ⟨Nat.le_of_ble_eq_true rfl, Nat.le_of_ble_eq_true rfl⟩) hS (fun q _ h => hFc q h) hFc (fun r11 _ t H1 locs ht hvm hok hB hz1 hk1 hS => ?_)
        obtain ⟨hP, hD⟩ := cjoin_w ht hB hFc
        refine lv_if_eq (tgt := 73) hx hb dX9_once_50 (by decide) (fun c12 => ?_) (fun c12 => ?_)
        · have hok := hok.1 c12
          exact b73 σ hok _ _ hP hD hS _ (lv_sub hl [0] rfl)
        · have hok := hok.2 c12
          exact b53 σ hok _ _ hP hD hS _ (lv_sub hl [0] rfl)
    · have hok := hok.2 c9
      refine lv_aload_n hx hb dX9_once_16 rfl (lv_at hl 0 rfl) ?_
      refine lv_iconst (v := 0) hx hb dX9_once_17 (by decide) ?_
      refine va_put (D := (dC, dI)) (ci := 8) (v := .int 0) (ty := .boolean) (C := RX9) (T := TX9) (N := 33) hx hb hts (fun w h => List.mem_cons_of_mem _ (in_X9 w h)) tyX9 tyX9_ok nmX9 hown hK hP hD hS 0 rfl rfl 8 (by decide) (hts _ (List.mem_cons_of_mem _ tw_3_195)) (fun _ h9 => h9) rfl (by decide +kernel) rfl rfl (Nat.le_of_ble_eq_true rfl) dX9_once_18 (fun H locs hP hD hS => ?_)
      have hP : va_P (dC, dI) vwCl (w_Model h cI cJ (upd σ.1 8 0, σ.2.1, σ.2.2)) _ := hP
      have hD : va_D A (w_Model h cI cJ (upd σ.1 8 0, σ.2.1, σ.2.2)) := hD
      refine lv_aload_n hx hb dX9_once_21 rfl (lv_at hl 0 rfl) ?_
      refine lv_iconst (v := 0) hx hb dX9_once_22 (by decide) ?_
      refine va_put (D := (dC, dI)) (ci := 8) (v := .int 0) (ty := .boolean) (C := RX9) (T := TX9) (N := 33) hx hb hts (fun w h => List.mem_cons_of_mem _ (in_X9 w h)) tyX9 tyX9_ok nmX9 hown hK hP hD hS 0 rfl rfl 6 (by decide) (hts _ (List.mem_cons_of_mem _ tw_3_193)) (fun _ h9 => h9) rfl (by decide +kernel) rfl rfl (Nat.le_of_ble_eq_true rfl) dX9_once_23 (fun H locs hP hD hS => ?_)
      have hP : va_P (dC, dI) vwCl (w_Model h cI cJ (upd (upd σ.1 8 0) 6 0, σ.2.1, σ.2.2)) _ := hP
      have hD : va_D A (w_Model h cI cJ (upd (upd σ.1 8 0) 6 0, σ.2.1, σ.2.2)) := hD
      refine lv_aload_n hx hb dX9_once_26 rfl (lv_at hl 0 rfl) ?_
      refine lv_ldcw (v := 65530) hx hb hown (hts _ (List.mem_cons_of_mem _ tw_4_59)) dX9_once_27 ?_
      have hPc := hP
      have hDc := hD
      have hFc := va_free (wc := w_Model h cI cJ (upd (upd σ.1 8 0) 6 0, σ.2.1, σ.2.2)) hD hS hA [0, 1, 2, 3, 4, 5, 6] rfl
      refine va_calli (va_runV (As := [.int 65530]) (rest := []) ⟨hx, hb, hml, hown, hts⟩ (c_X9_taken2 l dC dI cI cJ h _ hok) (cwV 1 hts (tb_gV tw_4_60 tw_4_62 tw_p_37 tw_1_9 tw_4_63) rfl rfl rfl (by decide +kernel) ⟨Nat.le_of_ble_eq_true rfl, Nat.le_of_ble_eq_true rfl⟩) (cpre_V (ci := 8) (q0 := 0) hK hPc hDc rfl rfl) rfl rfl hl.1 rfl (lv_room (Nat.le_of_ble_eq_true rfl)) dX9_once_30 ⟨Nat.le_of_ble_eq_true rfl, Nat.le_of_ble_eq_true rfl⟩) hS (fun q _ h => hFc q h) hFc (fun r13 u14 t H1 locs ht hvm hok hB hz1 hk1 hS => ?_)
      obtain ⟨hP, hD⟩ := cjoin_w ht hB hFc
      exact W.iret (v := r13) hx hb hr (fun t ht hW => ⟨⟨r13, u14, rfl, hok, by rw [ht]; exact hP, va_K.moved hW.alike hK, hD⟩, hS.F ht⟩) hS.2.2 dX9_once_33
  · have hok := hok.2 c8
    refine lv_iconst (v := 0) hx hb dX9_once_7 (by decide) ?_
    exact W.iret (v := 0) hx hb hr (fun t ht hW => ⟨⟨0, σ, rfl, hok, by rw [ht]; exact hP, va_K.moved hW.alike hK, hD⟩, hS.F ht⟩) hS.2.2 dX9_once_8
def wp_X9_step_12 : Nat → S_Model → Int32 → Int32 → (Int32 → S_Model → Prop) → Prop
  | 0, _, _, _, _ => False
  | n + 1, σ, x1, x2, Φ => ((x1 ≤ x2 → (Φ x1 σ)) ∧ (¬ x1 ≤ x2 → (wp_X9_clock σ (fun u2 => ∀ v3 : Int32, v3 = x2 + 1 → wp_X9_step_12 n u2 x1 v3 Φ))))
def wp_X9_step (σ : S_Model) (Φ : Int32 → S_Model → Prop) : Prop := wp_X9_once (upd σ.1 0 0, σ.2.1, σ.2.2) (fun r4 u5 => (∃ n, wp_X9_step_12 n u5 r4 0 Φ))
set_option maxHeartbeats 4000000 in
set_option maxRecDepth 100000 in
theorem c_X9_step (l : Launch) (dC : Nat → ClassId) (dI : Nat → Nat → Nat) (cI cJ : ClassId) (h : Nat → Nat) (sz : Nat) {σ : S_Model} {Φ : Int32 → S_Model → Prop} (hok : wp_X9_step σ Φ) : Met l yX9_step wsX9_step ({ frames := 10, cells := 0, slots := 0, locals := 217 }) (va_Pc [.ref (h 13)] (cpre dC dI cI cJ (w_Model h cI cJ σ) sz)) (va_Qi Φ (fun u => cpost dC dI cI cJ (va_A (w_Model h cI cJ σ) sz) (w_Model h cI cJ u)) (va_A (w_Model h cI cJ σ) sz)) 0 0 (va_A (w_Model h cI cJ σ) sz) := by
  refine Met.ofW (cc := cX9_step) (maxL := 3) (ret := (some .int)) (by decide) rfl ?_
  intro p e s m args below meth c s₁ B hml hv
  obtain ⟨rfl, hsz, hP, hK, hD0⟩ := hv
  have hx := B.exec
  have hb := B.bytes
  have hr := B.returns
  have hts := atoms_spec (ws := wsX9_step) B.pre
  have hown : s.vm.findClass RX9 = some m.cls := findClass_of_methodNamed B.named
  have hlocks := B.notSynchronized
  subst hsz
  have hD := hD0.self (sz := s.heap.size)
  generalize hAe : va_A (w_Model h cI cJ σ) s.heap.size = A at hD ⊢
  have hA : ∀ q : Nat, s.heap.size ≤ q → A q := fun q h => by rw [← hAe]; exact Or.inr h
  clear hD0 hAe
  have hS : va_S A s.heap s.heap [] := va_S.rf
  have b12 : ∀ (n : Nat) (σ : S_Model) (x1 : Int32) (x2 : Int32), wp_X9_step_12 n σ x1 x2 Φ → ∀ (H : Heap) (locs : List Loc), va_P (dC, dI) vwCl (w_Model h cI cJ σ) H → va_D A (w_Model h cI cJ σ) → va_S A s.heap H locs → ∀ ls : Array Slot, lv_has ls 3 [(0, .ref (h 13)), (1, .int x1), (2, .int x2)] → W p l e (headSpec wsX9_step { frames := 10, cells := 0, slots := 0, locals := 217 }).room s m ([.ref (h 13)] : List Value).toArray below meth c H locs 0 0 (MQ below (va_Qi Φ (fun u => cpost dC dI cI cJ A (w_Model h cI cJ u)) A) ([.ref (h 13)] : List Value).toArray s 0 0 A) (F0 m 12 ls []) := by
    intro n
    induction n with
    | zero =>
      intro σ x1 x2 hok
      exact hok.elim
    | succ n ih =>
      intro σ x1 x2 hok H locs hP hD hS ls hl
      rw [wp_X9_step_12] at hok
      refine lv_iload_n hx hb dX9_step_12 rfl (lv_at hl 2 rfl) ?_
      refine lv_iload_n hx hb dX9_step_13 rfl (lv_at hl 1 rfl) ?_
      refine lv_icmp_ge (tgt := 27) hx hb dX9_step_14 (by decide) (fun c1 => ?_) (fun c1 => ?_)
      · have hok := hok.1 c1
        refine lv_iload_n hx hb dX9_step_27 rfl (lv_at hl 1 rfl) ?_
        exact W.iret (v := x1) hx hb hr (fun t ht hW => ⟨⟨x1, σ, rfl, hok, by rw [ht]; exact hP, va_K.moved hW.alike hK, hD⟩, hS.F ht⟩) hS.2.2 dX9_step_28
      · have hok := hok.2 c1
        refine lv_aload_n hx hb dX9_step_17 rfl (lv_at hl 0 rfl) ?_
        have hPc := hP
        have hDc := hD
        have hFc := va_free (wc := w_Model h cI cJ σ) hD hS hA [0, 1, 2, 3, 4, 5, 6] rfl
        refine va_callv (va_runV (As := []) (rest := []) ⟨hx, hb, hml, hown, hts⟩ (c_X9_clock l dC dI cI cJ h _ hok) (cwV 0 hts (tb_gV tw_5_21 tw_5_23 tw_p_82 tw_1_9 tw_5_24) rfl rfl rfl (by decide +kernel) ⟨Nat.le_of_ble_eq_true rfl, Nat.le_of_ble_eq_true rfl⟩) (cpre_V (ci := 8) (q0 := 0) hK hPc hDc rfl rfl) rfl rfl hl.1 rfl (lv_room (Nat.le_of_ble_eq_true rfl)) dX9_step_18 ⟨Nat.le_of_ble_eq_true rfl, Nat.le_of_ble_eq_true rfl⟩) hS (fun q _ h => hFc q h) hFc (fun u2 t H1 locs ht hvm hok hB hz1 hk1 hS => ?_)
        obtain ⟨hP, hD⟩ := cjoin_w ht hB hFc
        obtain ⟨v3, ev3⟩ : ∃ y : Int32, y = x2 + 1 := ⟨_, rfl⟩
        have hok := hok v3 ev3
        refine lv_iinc (v := v3) (lv' := [(2, .int v3), (0, .ref (h 13)), (1, .int x1)]) hx hb dX9_step_21 hl (k := 2) rfl (by rw [ev3]; rfl) (by decide) rfl (fun ls hl => ?_)
        refine lv_goto (tgt := 12) hx hb dX9_step_24 (by decide) ?_
        exact ih u2 x1 v3 hok _ _ hP hD hS _ (lv_sub hl [1, 2, 0] rfl)
  have hl := lv_entry ([.ref (h 13)]) (n := 3) (Nat.le_of_ble_eq_true rfl)
  rw [lg_entry_eq]
  generalize (lg_sl ([.ref (h 13)]) ++ List.replicate (3 - (lg_sl ([.ref (h 13)])).length) Slot.unset).toArray = ls at hl ⊢
  have hl : lv_has ls 3 [(0, .ref (h 13))] := hl
  unfold wp_X9_step at hok
  refine lv_aload_n hx hb dX9_step_0 rfl (lv_at hl 0 rfl) ?_
  refine lv_iconst (v := 0) hx hb dX9_step_1 (by decide) ?_
  refine va_put (D := (dC, dI)) (ci := 8) (v := .int 0) (ty := .int) (C := RX9) (T := TX9) (N := 33) hx hb hts (fun w h => List.mem_cons_of_mem _ (in_X9 w h)) tyX9 tyX9_ok nmX9 hown hK hP hD hS 0 rfl rfl 0 (by decide) (hts _ (List.mem_cons_of_mem _ tw_3_187)) (fun _ h9 => h9) rfl (by decide +kernel) rfl rfl (Nat.le_of_ble_eq_true rfl) dX9_step_2 (fun H locs hP hD hS => ?_)
  have hP : va_P (dC, dI) vwCl (w_Model h cI cJ (upd σ.1 0 0, σ.2.1, σ.2.2)) _ := hP
  have hD : va_D A (w_Model h cI cJ (upd σ.1 0 0, σ.2.1, σ.2.2)) := hD
  refine lv_aload_n hx hb dX9_step_5 rfl (lv_at hl 0 rfl) ?_
  have hPc := hP
  have hDc := hD
  have hFc := va_free (wc := w_Model h cI cJ (upd σ.1 0 0, σ.2.1, σ.2.2)) hD hS hA [0, 1, 2, 3, 4, 5, 6] rfl
  refine va_calli (va_runV (As := []) (rest := []) ⟨hx, hb, hml, hown, hts⟩ (c_X9_once l dC dI cI cJ h _ hok) (cwV 0 hts (tb_gV tw_4_55 tw_4_57 tw_p_36 tw_1_9 tw_4_58) rfl rfl rfl (by decide +kernel) ⟨Nat.le_of_ble_eq_true rfl, Nat.le_of_ble_eq_true rfl⟩) (cpre_V (ci := 8) (q0 := 0) hK hPc hDc rfl rfl) rfl rfl hl.1 rfl (lv_room (Nat.le_of_ble_eq_true rfl)) dX9_step_6 ⟨Nat.le_of_ble_eq_true rfl, Nat.le_of_ble_eq_true rfl⟩) hS (fun q _ h => hFc q h) hFc (fun r4 u5 t H1 locs ht hvm hok hB hz1 hk1 hS => ?_)
  obtain ⟨hP, hD⟩ := cjoin_w ht hB hFc
  refine lv_istore_n (lv' := [(1, .int r4), (0, .ref (h 13))]) hx hb dX9_step_9 rfl hl (by decide) rfl (fun ls hl => ?_)
  refine lv_iconst (v := 0) hx hb dX9_step_10 (by decide) ?_
  refine lv_istore_n (lv' := [(2, .int 0), (1, .int r4), (0, .ref (h 13))]) hx hb dX9_step_11 rfl hl (by decide) rfl (fun ls hl => ?_)
  obtain ⟨n, hok⟩ := hok
  exact b12 n u5 r4 0 hok _ _ hP hD hS _ (lv_sub hl [2, 1, 0] rfl)
def wp_X9_find_2 : Nat → S_Model → Int32 → Int32 → (Int32 → Prop) → Prop
  | 0, _, _, _, _ => False
  | n + 1, σ, x1, x2, Φ => (((σ.1 29) ≤ x2 → (Φ (-1))) ∧ (¬ (σ.1 29) ≤ x2 → ((vp_in x2 16 ∧ (((((σ.2.2 31) x2.toNatClampNeg) = x1 → (Φ x2)) ∧ (¬ ((σ.2.2 31) x2.toNatClampNeg) = x1 → (∀ v3 : Int32, v3 = x2 + 1 → wp_X9_find_2 n σ x1 v3 Φ))))))))
def wp_X9_find (σ : S_Model) (a1 : Int32) (Φ : Int32 → Prop) : Prop := (∃ n, wp_X9_find_2 n σ a1 0 Φ)
set_option maxHeartbeats 4000000 in
set_option maxRecDepth 100000 in
theorem c_X9_find (l : Launch) (dC : Nat → ClassId) (dI : Nat → Nat → Nat) (cI cJ : ClassId) (h : Nat → Nat) (sz : Nat) {σ : S_Model} {a1 : Int32} {Φ : Int32 → Prop} (hok : wp_X9_find σ a1 Φ) : Met l yX9_find wsX9_find ({ frames := 0, cells := 0, slots := 0, locals := 0 }) (va_Pc [.ref (h 13), .int a1] (cpre dC dI cI cJ (w_Model h cI cJ σ) sz)) (va_Qi (fun (r : Int32) (_ : Unit) => Φ r) (fun _ => cpost dC dI cI cJ (va_A (w_Model h cI cJ σ) sz) (w_Model h cI cJ σ)) (va_A (w_Model h cI cJ σ) sz)) 0 0 (va_A (w_Model h cI cJ σ) sz) := by
  refine Met.ofW (cc := cX9_find) (maxL := 3) (ret := (some .int)) (by decide) rfl ?_
  intro p e s m args below meth c s₁ B hml hv
  obtain ⟨rfl, hsz, hP, hK, hD0⟩ := hv
  have hx := B.exec
  have hb := B.bytes
  have hr := B.returns
  have hts := atoms_spec (ws := wsX9_find) B.pre
  have hown : s.vm.findClass RX9 = some m.cls := findClass_of_methodNamed B.named
  have hlocks := B.notSynchronized
  subst hsz
  have hD := hD0.self (sz := s.heap.size)
  generalize hAe : va_A (w_Model h cI cJ σ) s.heap.size = A at hD ⊢
  have hA : ∀ q : Nat, s.heap.size ≤ q → A q := fun q h => by rw [← hAe]; exact Or.inr h
  clear hD0 hAe
  have hS : va_S A s.heap s.heap [] := va_S.rf
  have b2 : ∀ (n : Nat) (σ : S_Model) (x1 : Int32) (x2 : Int32), wp_X9_find_2 n σ x1 x2 Φ → ∀ (H : Heap) (locs : List Loc), va_P (dC, dI) vwCl (w_Model h cI cJ σ) H → va_D A (w_Model h cI cJ σ) → va_S A s.heap H locs → ∀ ls : Array Slot, lv_has ls 3 [(0, .ref (h 13)), (1, .int x1), (2, .int x2)] → W p l e (headSpec wsX9_find { frames := 0, cells := 0, slots := 0, locals := 0 }).room s m ([.ref (h 13), .int a1] : List Value).toArray below meth c H locs 0 0 (MQ below (va_Qi (fun (r : Int32) (_ : Unit) => Φ r) (fun _ => cpost dC dI cI cJ A (w_Model h cI cJ σ)) A) ([.ref (h 13), .int a1] : List Value).toArray s 0 0 A) (F0 m 2 ls []) := by
    intro n
    induction n with
    | zero =>
      intro σ x1 x2 hok
      exact hok.elim
    | succ n ih =>
      intro σ x1 x2 hok H locs hP hD hS ls hl
      rw [wp_X9_find_2] at hok
      refine lv_iload_n hx hb dX9_find_2 rfl (lv_at hl 2 rfl) ?_
      refine lv_aload_n hx hb dX9_find_3 rfl (lv_at hl 0 rfl) ?_
      refine va_get (D := (dC, dI)) (ci := 8) (v := .int (σ.1 29)) (C := RX9) (T := TX9) (N := 33) hx hb hts (fun w h => List.mem_cons_of_mem _ (in_X9 w h)) hown hK hP 0 rfl rfl 29 (by decide) (hts _ (List.mem_cons_of_mem _ tw_3_216)) (fun _ h9 => h9) rfl dX9_find_4 ?_
      refine lv_icmp_ge (tgt := 28) hx hb dX9_find_7 (by decide) (fun c1 => ?_) (fun c1 => ?_)
      · have hok := hok.1 c1
        refine lv_iconst (v := (-1)) hx hb dX9_find_28 (by decide) ?_
        exact W.iret (v := (-1)) hx hb hr (fun t ht hW => ⟨⟨(-1), (), rfl, hok, by rw [ht]; exact hP, va_K.moved hW.alike hK, hD⟩, hS.F ht⟩) hS.2.2 dX9_find_29
      · have hok := hok.2 c1
        refine lv_aload_n hx hb dX9_find_10 rfl (lv_at hl 0 rfl) ?_
        refine va_get (D := (dC, dI)) (ci := 8) (v := .ref (h 18)) (C := RX9) (T := TX9) (N := 33) hx hb hts (fun w h => List.mem_cons_of_mem _ (in_X9 w h)) hown hK hP 0 rfl rfl 31 (by decide) (hts _ (List.mem_cons_of_mem _ tw_3_218)) (fun _ h9 => h9) rfl dX9_find_11 ?_
        refine lv_iload_n hx hb dX9_find_14 rfl (lv_at hl 2 rfl) ?_
        refine va_iald hx hb hK hP 5 0 rfl rfl hok.1 dX9_find_15 ?_
        have hok := hok.2
        refine lv_iload_n hx hb dX9_find_16 rfl (lv_at hl 1 rfl) ?_
        refine lv_icmp_ne (tgt := 22) hx hb dX9_find_17 (by decide) (fun c2 => ?_) (fun c2 => ?_)
        · have hok := hok.2 c2
          obtain ⟨v3, ev3⟩ : ∃ y : Int32, y = x2 + 1 := ⟨_, rfl⟩
          have hok := hok v3 ev3
          refine lv_iinc (v := v3) (lv' := [(2, .int v3), (0, .ref (h 13)), (1, .int x1)]) hx hb dX9_find_22 hl (k := 2) rfl (by rw [ev3]; rfl) (by decide) rfl (fun ls hl => ?_)
          refine lv_goto (tgt := 2) hx hb dX9_find_25 (by decide) ?_
          exact ih σ x1 v3 hok _ _ hP hD hS _ (lv_sub hl [1, 2, 0] rfl)
        · have hok := hok.1 c2
          refine lv_iload_n hx hb dX9_find_20 rfl (lv_at hl 2 rfl) ?_
          exact W.iret (v := x2) hx hb hr (fun t ht hW => ⟨⟨x2, (), rfl, hok, by rw [ht]; exact hP, va_K.moved hW.alike hK, hD⟩, hS.F ht⟩) hS.2.2 dX9_find_21
  have hl := lv_entry ([.ref (h 13), .int a1]) (n := 3) (Nat.le_of_ble_eq_true rfl)
  rw [lg_entry_eq]
  generalize (lg_sl ([.ref (h 13), .int a1]) ++ List.replicate (3 - (lg_sl ([.ref (h 13), .int a1])).length) Slot.unset).toArray = ls at hl ⊢
  have hl : lv_has ls 3 [(0, .ref (h 13)), (1, .int a1)] := hl
  unfold wp_X9_find at hok
  refine lv_iconst (v := 0) hx hb dX9_find_0 (by decide) ?_
  refine lv_istore_n (lv' := [(2, .int 0), (0, .ref (h 13)), (1, .int a1)]) hx hb dX9_find_1 rfl hl (by decide) rfl (fun ls hl => ?_)
  obtain ⟨n, hok⟩ := hok
  exact b2 n σ a1 0 hok _ _ hP hD hS _ (lv_sub hl [1, 2, 0] rfl)
def wp_X9_run_36 : Nat → S_Model → Int32 → Int32 → (Int32 → S_Model → Prop) → Prop
  | 0, _, _, _, _ => False
  | n + 1, σ, x1, x2, Φ => ((x1 ≤ x2 → (Φ 0 σ)) ∧ (¬ x1 ≤ x2 → (wp_X9_step σ (fun r2 u3 => (((u3.1 7) = 0 → (wp_X9_find u3 (u3.1 4) (fun r5 => ((r5 < 0 → (∀ v7 : Int32, v7 = x2 + 1 → wp_X9_run_36 n u3 x1 v7 Φ)) ∧ (¬ r5 < 0 → (Φ 1 u3)))))) ∧ (¬ (u3.1 7) = 0 → (Φ 2 u3)))))))
def wp_X9_run_17 (σ : S_Model) (x1 : Int32) (s1 : Int32) (Φ : Int32 → S_Model → Prop) : Prop := wp_X9_fails σ s1 (fun r8 u9 => ((r8 = 0 → ((((u9.1 7) = 0 → ((∃ n, wp_X9_run_36 n u9 x1 0 Φ))) ∧ (¬ (u9.1 7) = 0 → (Φ 2 u9))))) ∧ (¬ r8 = 0 → (Φ 0 u9))))
def wp_X9_run_12 (σ : S_Model) (x1 : Int32) (Φ : Int32 → S_Model → Prop) : Prop := wp_X9_run_17 σ x1 1 Φ
def wp_X9_run (σ : S_Model) (a1 : Int32) (Φ : Int32 → S_Model → Prop) : Prop := ((a1 < 0 → (wp_X9_run_12 σ a1 Φ)) ∧ (¬ a1 < 0 → (((a1 ≤ (100000 : Int32) → (wp_X9_run_17 σ a1 0 Φ)) ∧ (¬ a1 ≤ (100000 : Int32) → (wp_X9_run_12 σ a1 Φ))))))
set_option maxHeartbeats 4000000 in
set_option maxRecDepth 100000 in
theorem c_X9_run (l : Launch) (dC : Nat → ClassId) (dI : Nat → Nat → Nat) (cI cJ : ClassId) (h : Nat → Nat) (sz : Nat) {σ : S_Model} {a1 : Int32} {Φ : Int32 → S_Model → Prop} (hok : wp_X9_run σ a1 Φ) : Met l yX9_run wsX9_run ({ frames := 11, cells := 0, slots := 0, locals := 239 }) (va_Pc [.ref (h 13), .int a1] (cpre dC dI cI cJ (w_Model h cI cJ σ) sz)) (va_Qi Φ (fun u => cpost dC dI cI cJ (va_A (w_Model h cI cJ σ) sz) (w_Model h cI cJ u)) (va_A (w_Model h cI cJ σ) sz)) 0 0 (va_A (w_Model h cI cJ σ) sz) := by
  refine Met.ofW (cc := cX9_run) (maxL := 3) (ret := (some .int)) (by decide) rfl ?_
  intro p e s m args below meth c s₁ B hml hv
  obtain ⟨rfl, hsz, hP, hK, hD0⟩ := hv
  have hx := B.exec
  have hb := B.bytes
  have hr := B.returns
  have hts := atoms_spec (ws := wsX9_run) B.pre
  have hown : s.vm.findClass RX9 = some m.cls := findClass_of_methodNamed B.named
  have hlocks := B.notSynchronized
  subst hsz
  have hD := hD0.self (sz := s.heap.size)
  generalize hAe : va_A (w_Model h cI cJ σ) s.heap.size = A at hD ⊢
  have hA : ∀ q : Nat, s.heap.size ≤ q → A q := fun q h => by rw [← hAe]; exact Or.inr h
  clear hD0 hAe
  have hS : va_S A s.heap s.heap [] := va_S.rf
  have b36 : ∀ (n : Nat) (σ : S_Model) (x1 : Int32) (x2 : Int32), wp_X9_run_36 n σ x1 x2 Φ → ∀ (H : Heap) (locs : List Loc), va_P (dC, dI) vwCl (w_Model h cI cJ σ) H → va_D A (w_Model h cI cJ σ) → va_S A s.heap H locs → ∀ ls : Array Slot, lv_has ls 3 [(0, .ref (h 13)), (1, .int x1), (2, .int x2)] → W p l e (headSpec wsX9_run { frames := 11, cells := 0, slots := 0, locals := 239 }).room s m ([.ref (h 13), .int a1] : List Value).toArray below meth c H locs 0 0 (MQ below (va_Qi Φ (fun u => cpost dC dI cI cJ A (w_Model h cI cJ u)) A) ([.ref (h 13), .int a1] : List Value).toArray s 0 0 A) (F0 m 36 ls []) := by
    intro n
    induction n with
    | zero =>
      intro σ x1 x2 hok
      exact hok.elim
    | succ n ih =>
      intro σ x1 x2 hok H locs hP hD hS ls hl
      rw [wp_X9_run_36] at hok
      refine lv_iload_n hx hb dX9_run_36 rfl (lv_at hl 2 rfl) ?_
      refine lv_iload_n hx hb dX9_run_37 rfl (lv_at hl 1 rfl) ?_
      refine lv_icmp_ge (tgt := 74) hx hb dX9_run_38 (by decide) (fun c1 => ?_) (fun c1 => ?_)
      · have hok := hok.1 c1
        refine lv_iconst (v := 0) hx hb dX9_run_74 (by decide) ?_
        exact W.iret (v := 0) hx hb hr (fun t ht hW => ⟨⟨0, σ, rfl, hok, by rw [ht]; exact hP, va_K.moved hW.alike hK, hD⟩, hS.F ht⟩) hS.2.2 dX9_run_75
      · have hok := hok.2 c1
        refine lv_aload_n hx hb dX9_run_41 rfl (lv_at hl 0 rfl) ?_
        have hPc := hP
        have hDc := hD
        have hFc := va_free (wc := w_Model h cI cJ σ) hD hS hA [0, 1, 2, 3, 4, 5, 6] rfl
        refine va_calli (va_runV (As := []) (rest := []) ⟨hx, hb, hml, hown, hts⟩ (c_X9_step l dC dI cI cJ h _ hok) (cwV 0 hts (tb_gV tw_5_34 tw_4_52 tw_4_53 tw_1_9 tw_4_54) rfl rfl rfl (by decide +kernel) ⟨Nat.le_of_ble_eq_true rfl, Nat.le_of_ble_eq_true rfl⟩) (cpre_V (ci := 8) (q0 := 0) hK hPc hDc rfl rfl) rfl rfl hl.1 rfl (lv_room (Nat.le_of_ble_eq_true rfl)) dX9_run_42 ⟨Nat.le_of_ble_eq_true rfl, Nat.le_of_ble_eq_true rfl⟩) hS (fun q _ h => hFc q h) hFc (fun r2 u3 t H1 locs ht hvm hok hB hz1 hk1 hS => ?_)
        obtain ⟨hP, hD⟩ := cjoin_w ht hB hFc
        refine lv_pop hx hb dX9_run_45 rfl ?_
        refine lv_aload_n hx hb dX9_run_46 rfl (lv_at hl 0 rfl) ?_
        refine va_get (D := (dC, dI)) (ci := 8) (v := .int (u3.1 7)) (C := RX9) (T := TX9) (N := 33) hx hb hts (fun w h => List.mem_cons_of_mem _ (in_X9 w h)) hown hK hP 0 rfl rfl 7 (by decide) (hts _ (List.mem_cons_of_mem _ tw_3_194)) (fun _ h9 => h9) rfl dX9_run_47 ?_
        refine lv_if_eq (tgt := 55) hx hb dX9_run_50 (by decide) (fun c4 => ?_) (fun c4 => ?_)
        · have hok := hok.1 c4
          refine lv_aload_n hx hb dX9_run_55 rfl (lv_at hl 0 rfl) ?_
          refine lv_aload_n hx hb dX9_run_56 rfl (lv_at hl 0 rfl) ?_
          refine va_get (D := (dC, dI)) (ci := 8) (v := .int (u3.1 4)) (C := RX9) (T := TX9) (N := 33) hx hb hts (fun w h => List.mem_cons_of_mem _ (in_X9 w h)) hown hK hP 0 rfl rfl 4 (by decide) (hts _ (List.mem_cons_of_mem _ tw_3_191)) (fun _ h9 => h9) rfl dX9_run_57 ?_
          have hPc := hP
          have hDc := hD
          have hFc := va_free (wc := w_Model h cI cJ u3) hD hS hA [0, 1, 2, 3, 4, 5, 6] rfl
          refine va_calli (va_runV (As := [.int (u3.1 4)]) (rest := []) ⟨hx, hb, hml, hown, hts⟩ (c_X9_find l dC dI cI cJ h _ hok) (cwV 1 hts (tb_gV tw_5_35 tw_5_37 tw_p_84 tw_1_9 tw_5_38) rfl rfl rfl (by decide +kernel) ⟨Nat.le_of_ble_eq_true rfl, Nat.le_of_ble_eq_true rfl⟩) (cpre_V (ci := 8) (q0 := 0) hK hPc hDc rfl rfl) rfl rfl hl.1 rfl (lv_room (Nat.le_of_ble_eq_true rfl)) dX9_run_60 ⟨Nat.le_of_ble_eq_true rfl, Nat.le_of_ble_eq_true rfl⟩) hS (fun q _ h => hFc q h) hFc (fun r5 _ t H1 locs ht hvm hok hB hz1 hk1 hS => ?_)
          obtain ⟨hP, hD⟩ := cjoin_w ht hB hFc
          refine lv_if_lt (tgt := 68) hx hb dX9_run_63 (by decide) (fun c6 => ?_) (fun c6 => ?_)
          · have hok := hok.1 c6
            obtain ⟨v7, ev7⟩ : ∃ y : Int32, y = x2 + 1 := ⟨_, rfl⟩
            have hok := hok v7 ev7
            refine lv_iinc (v := v7) (lv' := [(2, .int v7), (0, .ref (h 13)), (1, .int x1)]) hx hb dX9_run_68 hl (k := 2) rfl (by rw [ev7]; rfl) (by decide) rfl (fun ls hl => ?_)
            refine lv_goto (tgt := 36) hx hb dX9_run_71 (by decide) ?_
            exact ih u3 x1 v7 hok _ _ hP hD hS _ (lv_sub hl [1, 2, 0] rfl)
          · have hok := hok.2 c6
            refine lv_iconst (v := 1) hx hb dX9_run_66 (by decide) ?_
            exact W.iret (v := 1) hx hb hr (fun t ht hW => ⟨⟨1, u3, rfl, hok, by rw [ht]; exact hP, va_K.moved hW.alike hK, hD⟩, hS.F ht⟩) hS.2.2 dX9_run_67
        · have hok := hok.2 c4
          refine lv_iconst (v := 2) hx hb dX9_run_53 (by decide) ?_
          exact W.iret (v := 2) hx hb hr (fun t ht hW => ⟨⟨2, u3, rfl, hok, by rw [ht]; exact hP, va_K.moved hW.alike hK, hD⟩, hS.F ht⟩) hS.2.2 dX9_run_54
  have b17 : ∀ (σ : S_Model) (x1 : Int32) (s1 : Int32), wp_X9_run_17 σ x1 s1 Φ → ∀ (H : Heap) (locs : List Loc), va_P (dC, dI) vwCl (w_Model h cI cJ σ) H → va_D A (w_Model h cI cJ σ) → va_S A s.heap H locs → ∀ ls : Array Slot, lv_has ls 3 [(0, .ref (h 13)), (1, .int x1)] → W p l e (headSpec wsX9_run { frames := 11, cells := 0, slots := 0, locals := 239 }).room s m ([.ref (h 13), .int a1] : List Value).toArray below meth c H locs 0 0 (MQ below (va_Qi Φ (fun u => cpost dC dI cI cJ A (w_Model h cI cJ u)) A) ([.ref (h 13), .int a1] : List Value).toArray s 0 0 A) (F0 m 17 ls [.int s1, .ref (h 13)]) := by
    intro σ x1 s1 hok H locs hP hD hS ls hl
    unfold wp_X9_run_17 at hok
    have hPc := hP
    have hDc := hD
    have hFc := va_free (wc := w_Model h cI cJ σ) hD hS hA [0, 1, 2, 3, 4, 5, 6] rfl
    refine va_calli (va_runV (As := [.int s1]) (rest := []) ⟨hx, hb, hml, hown, hts⟩ (c_X9_fails l dC dI cI cJ h _ hok) (cwV 1 hts (tb_gV tw_5_30 tw_5_32 tw_p_83 tw_1_9 tw_5_33) rfl rfl rfl (by decide +kernel) ⟨Nat.le_of_ble_eq_true rfl, Nat.le_of_ble_eq_true rfl⟩) (cpre_V (ci := 8) (q0 := 0) hK hPc hDc rfl rfl) rfl rfl hl.1 rfl (lv_room (Nat.le_of_ble_eq_true rfl)) dX9_run_17 ⟨Nat.le_of_ble_eq_true rfl, Nat.le_of_ble_eq_true rfl⟩) hS (fun q _ h => hFc q h) hFc (fun r8 u9 t H1 locs ht hvm hok hB hz1 hk1 hS => ?_)
    obtain ⟨hP, hD⟩ := cjoin_w ht hB hFc
    refine lv_if_eq (tgt := 25) hx hb dX9_run_20 (by decide) (fun c10 => ?_) (fun c10 => ?_)
    · have hok := hok.1 c10
      refine lv_aload_n hx hb dX9_run_25 rfl (lv_at hl 0 rfl) ?_
      refine va_get (D := (dC, dI)) (ci := 8) (v := .int (u9.1 7)) (C := RX9) (T := TX9) (N := 33) hx hb hts (fun w h => List.mem_cons_of_mem _ (in_X9 w h)) hown hK hP 0 rfl rfl 7 (by decide) (hts _ (List.mem_cons_of_mem _ tw_3_194)) (fun _ h9 => h9) rfl dX9_run_26 ?_
      refine lv_if_eq (tgt := 34) hx hb dX9_run_29 (by decide) (fun c11 => ?_) (fun c11 => ?_)
      · have hok := hok.1 c11
        refine lv_iconst (v := 0) hx hb dX9_run_34 (by decide) ?_
        refine lv_istore_n (lv' := [(2, .int 0), (0, .ref (h 13)), (1, .int x1)]) hx hb dX9_run_35 rfl hl (by decide) rfl (fun ls hl => ?_)
        obtain ⟨n, hok⟩ := hok
        exact b36 n u9 x1 0 hok _ _ hP hD hS _ (lv_sub hl [1, 2, 0] rfl)
      · have hok := hok.2 c11
        refine lv_iconst (v := 2) hx hb dX9_run_32 (by decide) ?_
        exact W.iret (v := 2) hx hb hr (fun t ht hW => ⟨⟨2, u9, rfl, hok, by rw [ht]; exact hP, va_K.moved hW.alike hK, hD⟩, hS.F ht⟩) hS.2.2 dX9_run_33
    · have hok := hok.2 c10
      refine lv_iconst (v := 0) hx hb dX9_run_23 (by decide) ?_
      exact W.iret (v := 0) hx hb hr (fun t ht hW => ⟨⟨0, u9, rfl, hok, by rw [ht]; exact hP, va_K.moved hW.alike hK, hD⟩, hS.F ht⟩) hS.2.2 dX9_run_24
  have b12 : ∀ (σ : S_Model) (x1 : Int32), wp_X9_run_12 σ x1 Φ → ∀ (H : Heap) (locs : List Loc), va_P (dC, dI) vwCl (w_Model h cI cJ σ) H → va_D A (w_Model h cI cJ σ) → va_S A s.heap H locs → ∀ ls : Array Slot, lv_has ls 3 [(0, .ref (h 13)), (1, .int x1)] → W p l e (headSpec wsX9_run { frames := 11, cells := 0, slots := 0, locals := 239 }).room s m ([.ref (h 13), .int a1] : List Value).toArray below meth c H locs 0 0 (MQ below (va_Qi Φ (fun u => cpost dC dI cI cJ A (w_Model h cI cJ u)) A) ([.ref (h 13), .int a1] : List Value).toArray s 0 0 A) (F0 m 12 ls [.ref (h 13)]) := by
    intro σ x1 hok H locs hP hD hS ls hl
    unfold wp_X9_run_12 at hok
    refine lv_iconst (v := 1) hx hb dX9_run_12 (by decide) ?_
    refine lv_goto (tgt := 17) hx hb dX9_run_13 (by decide) ?_
    exact b17 σ x1 1 hok _ _ hP hD hS _ (lv_sub hl [0, 1] rfl)
  have hl := lv_entry ([.ref (h 13), .int a1]) (n := 3) (Nat.le_of_ble_eq_true rfl)
  rw [lg_entry_eq]
  generalize (lg_sl ([.ref (h 13), .int a1]) ++ List.replicate (3 - (lg_sl ([.ref (h 13), .int a1])).length) Slot.unset).toArray = ls at hl ⊢
  have hl : lv_has ls 3 [(0, .ref (h 13)), (1, .int a1)] := hl
  unfold wp_X9_run at hok
  refine lv_aload_n hx hb dX9_run_0 rfl (lv_at hl 0 rfl) ?_
  refine lv_iload_n hx hb dX9_run_1 rfl (lv_at hl 1 rfl) ?_
  refine lv_if_lt (tgt := 12) hx hb dX9_run_2 (by decide) (fun c12 => ?_) (fun c12 => ?_)
  · have hok := hok.1 c12
    exact b12 σ a1 hok _ _ hP hD hS _ (lv_sub hl [0, 1] rfl)
  · have hok := hok.2 c12
    refine lv_iload_n hx hb dX9_run_5 rfl (lv_at hl 1 rfl) ?_
    refine lv_ldcw (v := 100000) hx hb hown (hts _ (List.mem_cons_of_mem _ tw_5_29)) dX9_run_6 ?_
    refine lv_icmp_le (tgt := 16) hx hb dX9_run_9 (by decide) (fun c13 => ?_) (fun c13 => ?_)
    · have hok := hok.1 c13
      refine lv_iconst (v := 0) hx hb dX9_run_16 (by decide) ?_
      exact b17 σ a1 0 hok _ _ hP hD hS _ (lv_sub hl [0, 1] rfl)
    · have hok := hok.2 c13
      exact b12 σ a1 hok _ _ hP hD hS _ (lv_sub hl [0, 1] rfl)
def wp_X9_load_42 : Nat → S_Model → Int32 → Int64 → Int32 → Int32 → (S_Model → Prop) → Prop
  | 0, _, _, _, _, _, _ => False
  | n + 1, σ, x1, x2, x4, x5, Φ => ((x4 ≤ x5 → (Φ σ)) ∧ (¬ x4 ≤ x5 → (wp_X9_cell σ (x1 + x5) (fun r2 => ((r2 < 0 → (∀ v4 : Int32, v4 = x5 + 1 → wp_X9_load_42 n σ x1 x2 x4 v4 Φ)) ∧ (¬ r2 < 0 → (∀ v5 : Int64, v5 = x2 >>> (((8 : Int32) * ((x4 - (1 : Int32)) - x5)).toInt64 &&& 63) → (vp_in r2 81920 ∧ (∀ v6 : Int32, v6 = x5 + 1 → wp_X9_load_42 n (σ.1, σ.2.1, va_up σ.2.2 1 (upd (σ.2.2 1) r2.toNatClampNeg ((v5 &&& (255 : Int64)).toInt32))) x1 x2 x4 v6 Φ)))))))))
def wp_X9_load_32 (σ : S_Model) (x1 : Int32) (x2 : Int64) (x4 : Int32) (s1 : Int32) (Φ : S_Model → Prop) : Prop := wp_X9_fails σ s1 (fun r7 u8 => ((r7 = 0 → ((∃ n, wp_X9_load_42 n u8 x1 x2 x4 0 Φ))) ∧ (¬ r7 = 0 → (Φ u8))))
def wp_X9_load_27 (σ : S_Model) (x1 : Int32) (x2 : Int64) (x4 : Int32) (Φ : S_Model → Prop) : Prop := wp_X9_load_32 σ x1 x2 x4 1 Φ
def wp_X9_load (σ : S_Model) (a1 : Int32) (a2 : Int64) (a3 : Int32) (Φ : S_Model → Prop) : Prop := ((a3 < (1 : Int32) → (wp_X9_load_27 σ a1 a2 a3 Φ)) ∧ (¬ a3 < (1 : Int32) → ((((8 : Int32) < a3 → (wp_X9_load_27 σ a1 a2 a3 Φ)) ∧ (¬ (8 : Int32) < a3 → (((a1 < 0 → (wp_X9_load_27 σ a1 a2 a3 Φ)) ∧ (¬ a1 < 0 → (((a1 ≤ ((65536 : Int32) - a3) → (wp_X9_load_32 σ a1 a2 a3 0 Φ)) ∧ (¬ a1 ≤ ((65536 : Int32) - a3) → (wp_X9_load_27 σ a1 a2 a3 Φ))))))))))))
set_option maxHeartbeats 4000000 in
set_option maxRecDepth 100000 in
theorem c_X9_load (l : Launch) (dC : Nat → ClassId) (dI : Nat → Nat → Nat) (cI cJ : ClassId) (h : Nat → Nat) (sz : Nat) {σ : S_Model} {a1 : Int32} {a2 : Int64} {a3 : Int32} {Φ : S_Model → Prop} (hok : wp_X9_load σ a1 a2 a3 Φ) : Met l yX9_load wsX9_load ({ frames := 1, cells := 0, slots := 0, locals := 21 }) (va_Pc [.ref (h 13), .int a1, .long a2, .int a3] (cpre dC dI cI cJ (w_Model h cI cJ σ) sz)) (va_Qv Φ (fun u => cpost dC dI cI cJ (va_A (w_Model h cI cJ σ) sz) (w_Model h cI cJ u)) (va_A (w_Model h cI cJ σ) sz)) 0 0 (va_A (w_Model h cI cJ σ) sz) := by
  refine Met.ofW (cc := cX9_load) (maxL := 7) (ret := none) (by decide) rfl ?_
  intro p e s m args below meth c s₁ B hml hv
  obtain ⟨rfl, hsz, hP, hK, hD0⟩ := hv
  have hx := B.exec
  have hb := B.bytes
  have hr := B.returns
  have hts := atoms_spec (ws := wsX9_load) B.pre
  have hown : s.vm.findClass RX9 = some m.cls := findClass_of_methodNamed B.named
  have hlocks := B.notSynchronized
  subst hsz
  have hD := hD0.self (sz := s.heap.size)
  generalize hAe : va_A (w_Model h cI cJ σ) s.heap.size = A at hD ⊢
  have hA : ∀ q : Nat, s.heap.size ≤ q → A q := fun q h => by rw [← hAe]; exact Or.inr h
  clear hD0 hAe
  have hS : va_S A s.heap s.heap [] := va_S.rf
  have b42 : ∀ (n : Nat) (σ : S_Model) (x1 : Int32) (x2 : Int64) (x4 : Int32) (x5 : Int32), wp_X9_load_42 n σ x1 x2 x4 x5 Φ → ∀ (H : Heap) (locs : List Loc), va_P (dC, dI) vwCl (w_Model h cI cJ σ) H → va_D A (w_Model h cI cJ σ) → va_S A s.heap H locs → ∀ ls : Array Slot, lv_has ls 7 [(0, .ref (h 13)), (1, .int x1), (2, .long x2), (4, .int x4), (5, .int x5)] → W p l e (headSpec wsX9_load { frames := 1, cells := 0, slots := 0, locals := 21 }).room s m ([.ref (h 13), .int a1, .long a2, .int a3] : List Value).toArray below meth c H locs 0 0 (MQ below (va_Qv Φ (fun u => cpost dC dI cI cJ A (w_Model h cI cJ u)) A) ([.ref (h 13), .int a1, .long a2, .int a3] : List Value).toArray s 0 0 A) (F0 m 42 ls []) := by
    intro n
    induction n with
    | zero =>
      intro σ x1 x2 x4 x5 hok
      exact hok.elim
    | succ n ih =>
      intro σ x1 x2 x4 x5 hok H locs hP hD hS ls hl
      rw [wp_X9_load_42] at hok
      refine lv_iload hx hb dX9_load_42 (lv_at hl 4 rfl) ?_
      refine lv_iload hx hb dX9_load_44 (lv_at hl 3 rfl) ?_
      refine lv_icmp_ge (tgt := 94) hx hb dX9_load_46 (by decide) (fun c1 => ?_) (fun c1 => ?_)
      · have hok := hok.1 c1
        exact W.vret hx hb hr (fun t ht hW => ⟨⟨σ, rfl, hok, by rw [ht]; exact hP, va_K.moved hW.alike hK, hD⟩, hS.F ht⟩) hS.2.2 dX9_load_94
      · have hok := hok.2 c1
        refine lv_aload_n hx hb dX9_load_49 rfl (lv_at hl 0 rfl) ?_
        refine lv_iload_n hx hb dX9_load_50 rfl (lv_at hl 1 rfl) ?_
        refine lv_iload hx hb dX9_load_51 (lv_at hl 4 rfl) ?_
        refine lv_iadd hx hb dX9_load_53 ?_
        have hPc := hP
        have hDc := hD
        have hFc := va_free (wc := w_Model h cI cJ σ) hD hS hA [0, 1, 2, 3, 4, 5, 6] rfl
        refine va_calli (va_runV (As := [.int (x1 + x5)]) (rest := []) ⟨hx, hb, hml, hown, hts⟩ (c_X9_cell l dC dI cI cJ h _ hok) (cwV 1 hts (tb_gV tw_4_77 tw_4_79 tw_p_41 tw_1_9 tw_4_80) rfl rfl rfl (by decide +kernel) ⟨Nat.le_of_ble_eq_true rfl, Nat.le_of_ble_eq_true rfl⟩) (cpre_V (ci := 8) (q0 := 0) hK hPc hDc rfl rfl) rfl rfl hl.1 rfl (lv_room (Nat.le_of_ble_eq_true rfl)) dX9_load_54 ⟨Nat.le_of_ble_eq_true rfl, Nat.le_of_ble_eq_true rfl⟩) hS (fun q _ h => hFc q h) hFc (fun r2 _ t H1 locs ht hvm hok hB hz1 hk1 hS => ?_)
        obtain ⟨hP, hD⟩ := cjoin_w ht hB hFc
        refine lv_istore (lv' := [(6, .int r2), (0, .ref (h 13)), (1, .int x1), (2, .long x2), (4, .int x4), (5, .int x5)]) hx hb dX9_load_57 hl (by decide) rfl (fun ls hl => ?_)
        refine lv_iload hx hb dX9_load_59 (lv_at hl 0 rfl) ?_
        refine lv_if_lt (tgt := 88) hx hb dX9_load_61 (by decide) (fun c3 => ?_) (fun c3 => ?_)
        · have hok := hok.1 c3
          obtain ⟨v4, ev4⟩ : ∃ y : Int32, y = x5 + 1 := ⟨_, rfl⟩
          have hok := hok v4 ev4
          refine lv_iinc (v := v4) (lv' := [(5, .int v4), (6, .int r2), (0, .ref (h 13)), (1, .int x1), (2, .long x2), (4, .int x4)]) hx hb dX9_load_88 hl (k := 5) rfl (by rw [ev4]; rfl) (by decide) rfl (fun ls hl => ?_)
          refine lv_goto (tgt := 42) hx hb dX9_load_91 (by decide) ?_
          exact ih σ x1 x2 x4 v4 hok _ _ hP hD hS _ (lv_sub hl [2, 3, 4, 5, 0] rfl)
        · have hok := hok.2 c3
          refine lv_aload_n hx hb dX9_load_64 rfl (lv_at hl 1 rfl) ?_
          refine va_get (D := (dC, dI)) (ci := 8) (v := .ref (h 14)) (C := RX9) (T := TX9) (N := 33) hx hb hts (fun w h => List.mem_cons_of_mem _ (in_X9 w h)) hown hK hP 0 rfl rfl 1 (by decide) (hts _ (List.mem_cons_of_mem _ tw_3_188)) (fun _ h9 => h9) rfl dX9_load_65 ?_
          refine lv_iload hx hb dX9_load_68 (lv_at hl 0 rfl) ?_
          refine lv_lload_n hx hb dX9_load_70 rfl (lv_at hl 3 rfl) ?_
          refine lv_bipush (v := 8) hx hb dX9_load_71 (by decide) ?_
          refine lv_iload hx hb dX9_load_73 (lv_at hl 4 rfl) ?_
          refine lv_iconst (v := 1) hx hb dX9_load_75 (by decide) ?_
          refine lv_isub hx hb dX9_load_76 ?_
          refine lv_iload hx hb dX9_load_77 (lv_at hl 5 rfl) ?_
          refine lv_isub hx hb dX9_load_79 ?_
          refine lv_imul hx hb dX9_load_80 ?_
          refine lv_lshr hx hb dX9_load_81 rfl ?_
          refine lv_topl (fun v5 ev5 => ?_)
          have hok := hok v5 ev5
          refine lv_ldc2 (v := 255) hx hb hown (hts _ (List.mem_cons_of_mem _ tw_5_43)) dX9_load_82 ?_
          refine lv_land hx hb dX9_load_85 ?_
          refine lv_l2i hx hb dX9_load_86 rfl ?_
          refine va_iast hx hb hK hP hD hS 1 0 rfl rfl hok.1 dX9_load_87 (fun H locs hP hD hS => ?_)
          have hok := hok.2
          have hP : va_P (dC, dI) vwCl (w_Model h cI cJ (σ.1, σ.2.1, va_up σ.2.2 1 (upd (σ.2.2 1) r2.toNatClampNeg ((v5 &&& (255 : Int64)).toInt32)))) _ := hP
          have hD : va_D A (w_Model h cI cJ (σ.1, σ.2.1, va_up σ.2.2 1 (upd (σ.2.2 1) r2.toNatClampNeg ((v5 &&& (255 : Int64)).toInt32)))) := hD
          obtain ⟨v6, ev6⟩ : ∃ y : Int32, y = x5 + 1 := ⟨_, rfl⟩
          have hok := hok v6 ev6
          refine lv_iinc (v := v6) (lv' := [(5, .int v6), (6, .int r2), (0, .ref (h 13)), (1, .int x1), (2, .long x2), (4, .int x4)]) hx hb dX9_load_88 hl (k := 5) rfl (by rw [ev6]; rfl) (by decide) rfl (fun ls hl => ?_)
          refine lv_goto (tgt := 42) hx hb dX9_load_91 (by decide) ?_
          exact ih (σ.1, σ.2.1, va_up σ.2.2 1 (upd (σ.2.2 1) r2.toNatClampNeg ((v5 &&& (255 : Int64)).toInt32))) x1 x2 x4 v6 hok _ _ hP hD hS _ (lv_sub hl [2, 3, 4, 5, 0] rfl)
  have b32 : ∀ (σ : S_Model) (x1 : Int32) (x2 : Int64) (x4 : Int32) (s1 : Int32), wp_X9_load_32 σ x1 x2 x4 s1 Φ → ∀ (H : Heap) (locs : List Loc), va_P (dC, dI) vwCl (w_Model h cI cJ σ) H → va_D A (w_Model h cI cJ σ) → va_S A s.heap H locs → ∀ ls : Array Slot, lv_has ls 7 [(0, .ref (h 13)), (1, .int x1), (2, .long x2), (4, .int x4)] → W p l e (headSpec wsX9_load { frames := 1, cells := 0, slots := 0, locals := 21 }).room s m ([.ref (h 13), .int a1, .long a2, .int a3] : List Value).toArray below meth c H locs 0 0 (MQ below (va_Qv Φ (fun u => cpost dC dI cI cJ A (w_Model h cI cJ u)) A) ([.ref (h 13), .int a1, .long a2, .int a3] : List Value).toArray s 0 0 A) (F0 m 32 ls [.int s1, .ref (h 13)]) := by
    intro σ x1 x2 x4 s1 hok H locs hP hD hS ls hl
    unfold wp_X9_load_32 at hok
    have hPc := hP
    have hDc := hD
    have hFc := va_free (wc := w_Model h cI cJ σ) hD hS hA [0, 1, 2, 3, 4, 5, 6] rfl
    refine va_calli (va_runV (As := [.int s1]) (rest := []) ⟨hx, hb, hml, hown, hts⟩ (c_X9_fails l dC dI cI cJ h _ hok) (cwV 1 hts (tb_gV tw_5_30 tw_5_32 tw_p_83 tw_1_9 tw_5_33) rfl rfl rfl (by decide +kernel) ⟨Nat.le_of_ble_eq_true rfl, Nat.le_of_ble_eq_true rfl⟩) (cpre_V (ci := 8) (q0 := 0) hK hPc hDc rfl rfl) rfl rfl hl.1 rfl (lv_room (Nat.le_of_ble_eq_true rfl)) dX9_load_32 ⟨Nat.le_of_ble_eq_true rfl, Nat.le_of_ble_eq_true rfl⟩) hS (fun q _ h => hFc q h) hFc (fun r7 u8 t H1 locs ht hvm hok hB hz1 hk1 hS => ?_)
    obtain ⟨hP, hD⟩ := cjoin_w ht hB hFc
    refine lv_if_eq (tgt := 39) hx hb dX9_load_35 (by decide) (fun c9 => ?_) (fun c9 => ?_)
    · have hok := hok.1 c9
      refine lv_iconst (v := 0) hx hb dX9_load_39 (by decide) ?_
      refine lv_istore (lv' := [(5, .int 0), (0, .ref (h 13)), (1, .int x1), (2, .long x2), (4, .int x4)]) hx hb dX9_load_40 hl (by decide) rfl (fun ls hl => ?_)
      obtain ⟨n, hok⟩ := hok
      exact b42 n u8 x1 x2 x4 0 hok _ _ hP hD hS _ (lv_sub hl [1, 2, 3, 4, 0] rfl)
    · have hok := hok.2 c9
      exact W.vret hx hb hr (fun t ht hW => ⟨⟨u8, rfl, hok, by rw [ht]; exact hP, va_K.moved hW.alike hK, hD⟩, hS.F ht⟩) hS.2.2 dX9_load_38
  have b27 : ∀ (σ : S_Model) (x1 : Int32) (x2 : Int64) (x4 : Int32), wp_X9_load_27 σ x1 x2 x4 Φ → ∀ (H : Heap) (locs : List Loc), va_P (dC, dI) vwCl (w_Model h cI cJ σ) H → va_D A (w_Model h cI cJ σ) → va_S A s.heap H locs → ∀ ls : Array Slot, lv_has ls 7 [(0, .ref (h 13)), (1, .int x1), (2, .long x2), (4, .int x4)] → W p l e (headSpec wsX9_load { frames := 1, cells := 0, slots := 0, locals := 21 }).room s m ([.ref (h 13), .int a1, .long a2, .int a3] : List Value).toArray below meth c H locs 0 0 (MQ below (va_Qv Φ (fun u => cpost dC dI cI cJ A (w_Model h cI cJ u)) A) ([.ref (h 13), .int a1, .long a2, .int a3] : List Value).toArray s 0 0 A) (F0 m 27 ls [.ref (h 13)]) := by
    intro σ x1 x2 x4 hok H locs hP hD hS ls hl
    unfold wp_X9_load_27 at hok
    refine lv_iconst (v := 1) hx hb dX9_load_27 (by decide) ?_
    refine lv_goto (tgt := 32) hx hb dX9_load_28 (by decide) ?_
    exact b32 σ x1 x2 x4 1 hok _ _ hP hD hS _ (lv_sub hl [0, 1, 2, 3] rfl)
  have hl := lv_entry ([.ref (h 13), .int a1, .long a2, .int a3]) (n := 7) (Nat.le_of_ble_eq_true rfl)
  rw [lg_entry_eq]
  generalize (lg_sl ([.ref (h 13), .int a1, .long a2, .int a3]) ++ List.replicate (7 - (lg_sl ([.ref (h 13), .int a1, .long a2, .int a3])).length) Slot.unset).toArray = ls at hl ⊢
  have hl : lv_has ls 7 [(0, .ref (h 13)), (1, .int a1), (2, .long a2), (4, .int a3)] := hl
  unfold wp_X9_load at hok
  refine lv_aload_n hx hb dX9_load_0 rfl (lv_at hl 0 rfl) ?_
  refine lv_iload hx hb dX9_load_1 (lv_at hl 3 rfl) ?_
  refine lv_iconst (v := 1) hx hb dX9_load_3 (by decide) ?_
  refine lv_icmp_lt (tgt := 27) hx hb dX9_load_4 (by decide) (fun c10 => ?_) (fun c10 => ?_)
  · have hok := hok.1 c10
    exact b27 σ a1 a2 a3 hok _ _ hP hD hS _ (lv_sub hl [0, 1, 2, 3] rfl)
  · have hok := hok.2 c10
    refine lv_iload hx hb dX9_load_7 (lv_at hl 3 rfl) ?_
    refine lv_bipush (v := 8) hx hb dX9_load_9 (by decide) ?_
    refine lv_icmp_gt (tgt := 27) hx hb dX9_load_11 (by decide) (fun c11 => ?_) (fun c11 => ?_)
    · have hok := hok.1 c11
      exact b27 σ a1 a2 a3 hok _ _ hP hD hS _ (lv_sub hl [0, 1, 2, 3] rfl)
    · have hok := hok.2 c11
      refine lv_iload_n hx hb dX9_load_14 rfl (lv_at hl 1 rfl) ?_
      refine lv_if_lt (tgt := 27) hx hb dX9_load_15 (by decide) (fun c12 => ?_) (fun c12 => ?_)
      · have hok := hok.1 c12
        exact b27 σ a1 a2 a3 hok _ _ hP hD hS _ (lv_sub hl [0, 1, 2, 3] rfl)
      · have hok := hok.2 c12
        refine lv_iload_n hx hb dX9_load_18 rfl (lv_at hl 1 rfl) ?_
        refine lv_ldc (v := 65536) hx hb hown (hts _ (List.mem_cons_of_mem _ tw_4_83)) dX9_load_19 ?_
        refine lv_iload hx hb dX9_load_21 (lv_at hl 3 rfl) ?_
        refine lv_isub hx hb dX9_load_23 ?_
        refine lv_icmp_le (tgt := 31) hx hb dX9_load_24 (by decide) (fun c13 => ?_) (fun c13 => ?_)
        · have hok := hok.1 c13
          refine lv_iconst (v := 0) hx hb dX9_load_31 (by decide) ?_
          exact b32 σ a1 a2 a3 0 hok _ _ hP hD hS _ (lv_sub hl [0, 1, 2, 3] rfl)
        · have hok := hok.2 c13
          exact b27 σ a1 a2 a3 hok _ _ hP hD hS _ (lv_sub hl [0, 1, 2, 3] rfl)
def wp_X9_reset (σ : S_Model) (Φ : S_Model → Prop) : Prop := wp_X9_clearDevices (upd σ.1 0 0, σ.2.1, σ.2.2) (fun u1 => (vp_in 3 4 ∧ (wp_X9_flag (u1.1, u1.2.1, va_up u1.2.2 2 (upd (u1.2.2 2) (3 : Int32).toNatClampNeg 253)) 4 1 (fun u2 => wp_X9_flag u2 8 0 (fun u3 => wp_X9_wordAt (upd (upd (upd u3.1 6 0) 7 0) 8 0, u3.2.1, u3.2.2) 65532 (fun r4 u5 => Φ (upd u5.1 4 r4, u5.2.1, u5.2.2)))))))
set_option maxHeartbeats 4000000 in
set_option maxRecDepth 100000 in
theorem c_X9_reset (l : Launch) (dC : Nat → ClassId) (dI : Nat → Nat → Nat) (cI cJ : ClassId) (h : Nat → Nat) (sz : Nat) {σ : S_Model} {Φ : S_Model → Prop} (hok : wp_X9_reset σ Φ) : Met l yX9_reset wsX9_reset ({ frames := 4, cells := 0, slots := 0, locals := 87 }) (va_Pc [.ref (h 13)] (cpre dC dI cI cJ (w_Model h cI cJ σ) sz)) (va_Qv Φ (fun u => cpost dC dI cI cJ (va_A (w_Model h cI cJ σ) sz) (w_Model h cI cJ u)) (va_A (w_Model h cI cJ σ) sz)) 0 0 (va_A (w_Model h cI cJ σ) sz) := by
  refine Met.ofW (cc := cX9_reset) (maxL := 1) (ret := none) (by decide) rfl ?_
  intro p e s m args below meth c s₁ B hml hv
  obtain ⟨rfl, hsz, hP, hK, hD0⟩ := hv
  have hx := B.exec
  have hb := B.bytes
  have hr := B.returns
  have hts := atoms_spec (ws := wsX9_reset) B.pre
  have hown : s.vm.findClass RX9 = some m.cls := findClass_of_methodNamed B.named
  have hlocks := B.notSynchronized
  subst hsz
  have hD := hD0.self (sz := s.heap.size)
  generalize hAe : va_A (w_Model h cI cJ σ) s.heap.size = A at hD ⊢
  have hA : ∀ q : Nat, s.heap.size ≤ q → A q := fun q h => by rw [← hAe]; exact Or.inr h
  clear hD0 hAe
  have hS : va_S A s.heap s.heap [] := va_S.rf
  have hl := lv_entry ([.ref (h 13)]) (n := 1) (Nat.le_of_ble_eq_true rfl)
  rw [lg_entry_eq]
  generalize (lg_sl ([.ref (h 13)]) ++ List.replicate (1 - (lg_sl ([.ref (h 13)])).length) Slot.unset).toArray = ls at hl ⊢
  have hl : lv_has ls 1 [(0, .ref (h 13))] := hl
  unfold wp_X9_reset at hok
  refine lv_aload_n hx hb dX9_reset_0 rfl (lv_at hl 0 rfl) ?_
  refine lv_iconst (v := 0) hx hb dX9_reset_1 (by decide) ?_
  refine va_put (D := (dC, dI)) (ci := 8) (v := .int 0) (ty := .int) (C := RX9) (T := TX9) (N := 33) hx hb hts (fun w h => List.mem_cons_of_mem _ (in_X9 w h)) tyX9 tyX9_ok nmX9 hown hK hP hD hS 0 rfl rfl 0 (by decide) (hts _ (List.mem_cons_of_mem _ tw_3_187)) (fun _ h9 => h9) rfl (by decide +kernel) rfl rfl (Nat.le_of_ble_eq_true rfl) dX9_reset_2 (fun H locs hP hD hS => ?_)
  have hP : va_P (dC, dI) vwCl (w_Model h cI cJ (upd σ.1 0 0, σ.2.1, σ.2.2)) _ := hP
  have hD : va_D A (w_Model h cI cJ (upd σ.1 0 0, σ.2.1, σ.2.2)) := hD
  refine lv_aload_n hx hb dX9_reset_5 rfl (lv_at hl 0 rfl) ?_
  have hPc := hP
  have hDc := hD
  have hFc := va_free (wc := w_Model h cI cJ (upd σ.1 0 0, σ.2.1, σ.2.2)) hD hS hA [0, 1, 2, 3, 4, 5, 6] rfl
  refine va_callv (va_runV (As := []) (rest := []) ⟨hx, hb, hml, hown, hts⟩ (c_X9_clearDevices l dC dI cI cJ h _ hok) (cwV 0 hts (tb_gV tw_3_182 tw_3_184 tw_p_35 tw_1_9 tw_3_185) rfl rfl rfl (by decide +kernel) ⟨Nat.le_of_ble_eq_true rfl, Nat.le_of_ble_eq_true rfl⟩) (cpre_V (ci := 8) (q0 := 0) hK hPc hDc rfl rfl) rfl rfl hl.1 rfl (lv_room (Nat.le_of_ble_eq_true rfl)) dX9_reset_6 ⟨Nat.le_of_ble_eq_true rfl, Nat.le_of_ble_eq_true rfl⟩) hS (fun q _ h => hFc q h) hFc (fun u1 t H1 locs ht hvm hok hB hz1 hk1 hS => ?_)
  obtain ⟨hP, hD⟩ := cjoin_w ht hB hFc
  refine lv_aload_n hx hb dX9_reset_9 rfl (lv_at hl 0 rfl) ?_
  refine va_get (D := (dC, dI)) (ci := 8) (v := .ref (h 15)) (C := RX9) (T := TX9) (N := 33) hx hb hts (fun w h => List.mem_cons_of_mem _ (in_X9 w h)) hown hK hP 0 rfl rfl 2 (by decide) (hts _ (List.mem_cons_of_mem _ tw_3_189)) (fun _ h9 => h9) rfl dX9_reset_10 ?_
  refine lv_iconst (v := 3) hx hb dX9_reset_13 (by decide) ?_
  refine lv_sipush (v := 253) hx hb dX9_reset_14 (by decide) ?_
  refine va_iast hx hb hK hP hD hS 2 0 rfl rfl hok.1 dX9_reset_17 (fun H locs hP hD hS => ?_)
  have hok := hok.2
  have hP : va_P (dC, dI) vwCl (w_Model h cI cJ (u1.1, u1.2.1, va_up u1.2.2 2 (upd (u1.2.2 2) (3 : Int32).toNatClampNeg 253))) _ := hP
  have hD : va_D A (w_Model h cI cJ (u1.1, u1.2.1, va_up u1.2.2 2 (upd (u1.2.2 2) (3 : Int32).toNatClampNeg 253))) := hD
  refine lv_aload_n hx hb dX9_reset_18 rfl (lv_at hl 0 rfl) ?_
  refine lv_iconst (v := 4) hx hb dX9_reset_19 (by decide) ?_
  refine lv_iconst (v := 1) hx hb dX9_reset_20 (by decide) ?_
  have hPc := hP
  have hDc := hD
  have hFc := va_free (wc := w_Model h cI cJ (u1.1, u1.2.1, va_up u1.2.2 2 (upd (u1.2.2 2) (3 : Int32).toNatClampNeg 253))) hD hS hA [0, 1, 2, 3, 4, 5, 6] rfl
  refine va_callv (va_runV (As := [.int 4, .int 1]) (rest := []) ⟨hx, hb, hml, hown, hts⟩ (c_X9_flag l dC dI cI cJ h _ hok) (cwV 2 hts (tb_gV tw_4_85 tw_4_87 tw_p_42 tw_1_9 tw_4_88) rfl rfl rfl (by decide +kernel) ⟨Nat.le_of_ble_eq_true rfl, Nat.le_of_ble_eq_true rfl⟩) (cpre_V (ci := 8) (q0 := 0) hK hPc hDc rfl rfl) rfl rfl hl.1 rfl (lv_room (Nat.le_of_ble_eq_true rfl)) dX9_reset_21 ⟨Nat.le_of_ble_eq_true rfl, Nat.le_of_ble_eq_true rfl⟩) hS (fun q _ h => hFc q h) hFc (fun u2 t H1 locs ht hvm hok hB hz1 hk1 hS => ?_)
  obtain ⟨hP, hD⟩ := cjoin_w ht hB hFc
  refine lv_aload_n hx hb dX9_reset_24 rfl (lv_at hl 0 rfl) ?_
  refine lv_bipush (v := 8) hx hb dX9_reset_25 (by decide) ?_
  refine lv_iconst (v := 0) hx hb dX9_reset_27 (by decide) ?_
  have hPc := hP
  have hDc := hD
  have hFc := va_free (wc := w_Model h cI cJ u2) hD hS hA [0, 1, 2, 3, 4, 5, 6] rfl
  refine va_callv (va_runV (As := [.int 8, .int 0]) (rest := []) ⟨hx, hb, hml, hown, hts⟩ (c_X9_flag l dC dI cI cJ h _ hok) (cwV 2 hts (tb_gV tw_4_85 tw_4_87 tw_p_42 tw_1_9 tw_4_88) rfl rfl rfl (by decide +kernel) ⟨Nat.le_of_ble_eq_true rfl, Nat.le_of_ble_eq_true rfl⟩) (cpre_V (ci := 8) (q0 := 0) hK hPc hDc rfl rfl) rfl rfl hl.1 rfl (lv_room (Nat.le_of_ble_eq_true rfl)) dX9_reset_28 ⟨Nat.le_of_ble_eq_true rfl, Nat.le_of_ble_eq_true rfl⟩) hS (fun q _ h => hFc q h) hFc (fun u3 t H1 locs ht hvm hok hB hz1 hk1 hS => ?_)
  obtain ⟨hP, hD⟩ := cjoin_w ht hB hFc
  refine lv_aload_n hx hb dX9_reset_31 rfl (lv_at hl 0 rfl) ?_
  refine lv_iconst (v := 0) hx hb dX9_reset_32 (by decide) ?_
  refine va_put (D := (dC, dI)) (ci := 8) (v := .int 0) (ty := .boolean) (C := RX9) (T := TX9) (N := 33) hx hb hts (fun w h => List.mem_cons_of_mem _ (in_X9 w h)) tyX9 tyX9_ok nmX9 hown hK hP hD hS 0 rfl rfl 6 (by decide) (hts _ (List.mem_cons_of_mem _ tw_3_193)) (fun _ h9 => h9) rfl (by decide +kernel) rfl rfl (Nat.le_of_ble_eq_true rfl) dX9_reset_33 (fun H locs hP hD hS => ?_)
  have hP : va_P (dC, dI) vwCl (w_Model h cI cJ (upd u3.1 6 0, u3.2.1, u3.2.2)) _ := hP
  have hD : va_D A (w_Model h cI cJ (upd u3.1 6 0, u3.2.1, u3.2.2)) := hD
  refine lv_aload_n hx hb dX9_reset_36 rfl (lv_at hl 0 rfl) ?_
  refine lv_iconst (v := 0) hx hb dX9_reset_37 (by decide) ?_
  refine va_put (D := (dC, dI)) (ci := 8) (v := .int 0) (ty := .boolean) (C := RX9) (T := TX9) (N := 33) hx hb hts (fun w h => List.mem_cons_of_mem _ (in_X9 w h)) tyX9 tyX9_ok nmX9 hown hK hP hD hS 0 rfl rfl 7 (by decide) (hts _ (List.mem_cons_of_mem _ tw_3_194)) (fun _ h9 => h9) rfl (by decide +kernel) rfl rfl (Nat.le_of_ble_eq_true rfl) dX9_reset_38 (fun H locs hP hD hS => ?_)
  have hP : va_P (dC, dI) vwCl (w_Model h cI cJ (upd (upd u3.1 6 0) 7 0, u3.2.1, u3.2.2)) _ := hP
  have hD : va_D A (w_Model h cI cJ (upd (upd u3.1 6 0) 7 0, u3.2.1, u3.2.2)) := hD
  refine lv_aload_n hx hb dX9_reset_41 rfl (lv_at hl 0 rfl) ?_
  refine lv_iconst (v := 0) hx hb dX9_reset_42 (by decide) ?_
  refine va_put (D := (dC, dI)) (ci := 8) (v := .int 0) (ty := .boolean) (C := RX9) (T := TX9) (N := 33) hx hb hts (fun w h => List.mem_cons_of_mem _ (in_X9 w h)) tyX9 tyX9_ok nmX9 hown hK hP hD hS 0 rfl rfl 8 (by decide) (hts _ (List.mem_cons_of_mem _ tw_3_195)) (fun _ h9 => h9) rfl (by decide +kernel) rfl rfl (Nat.le_of_ble_eq_true rfl) dX9_reset_43 (fun H locs hP hD hS => ?_)
  have hP : va_P (dC, dI) vwCl (w_Model h cI cJ (upd (upd (upd u3.1 6 0) 7 0) 8 0, u3.2.1, u3.2.2)) _ := hP
  have hD : va_D A (w_Model h cI cJ (upd (upd (upd u3.1 6 0) 7 0) 8 0, u3.2.1, u3.2.2)) := hD
  refine lv_aload_n hx hb dX9_reset_46 rfl (lv_at hl 0 rfl) ?_
  refine lv_aload_n hx hb dX9_reset_47 rfl (lv_at hl 0 rfl) ?_
  refine lv_ldcw (v := 65532) hx hb hown (hts _ (List.mem_cons_of_mem _ tw_5_48)) dX9_reset_48 ?_
  have hPc := hP
  have hDc := hD
  have hFc := va_free (wc := w_Model h cI cJ (upd (upd (upd u3.1 6 0) 7 0) 8 0, u3.2.1, u3.2.2)) hD hS hA [0, 1, 2, 3, 4, 5, 6] rfl
  refine va_calli (va_runV (As := [.int 65532]) (rest := [.ref (h 13)]) ⟨hx, hb, hml, hown, hts⟩ (c_X9_wordAt l dC dI cI cJ h _ hok) (cwV 1 hts (tb_gV tw_4_89 tw_4_91 tw_p_43 tw_1_9 tw_4_92) rfl rfl rfl (by decide +kernel) ⟨Nat.le_of_ble_eq_true rfl, Nat.le_of_ble_eq_true rfl⟩) (cpre_V (ci := 8) (q0 := 0) hK hPc hDc rfl rfl) rfl rfl hl.1 rfl (lv_room (Nat.le_of_ble_eq_true rfl)) dX9_reset_51 ⟨Nat.le_of_ble_eq_true rfl, Nat.le_of_ble_eq_true rfl⟩) hS (fun q _ h => hFc q h) hFc (fun r4 u5 t H1 locs ht hvm hok hB hz1 hk1 hS => ?_)
  obtain ⟨hP, hD⟩ := cjoin_w ht hB hFc
  refine va_put (D := (dC, dI)) (ci := 8) (v := .int r4) (ty := .int) (C := RX9) (T := TX9) (N := 33) hx hb hts (fun w h => List.mem_cons_of_mem _ (in_X9 w h)) tyX9 tyX9_ok nmX9 hown hK hP hD hS 0 rfl rfl 4 (by decide) (hts _ (List.mem_cons_of_mem _ tw_3_191)) (fun _ h9 => h9) rfl (by decide +kernel) rfl rfl (Nat.le_of_ble_eq_true rfl) dX9_reset_54 (fun H locs hP hD hS => ?_)
  have hP : va_P (dC, dI) vwCl (w_Model h cI cJ (upd u5.1 4 r4, u5.2.1, u5.2.2)) _ := hP
  have hD : va_D A (w_Model h cI cJ (upd u5.1 4 r4, u5.2.1, u5.2.2)) := hD
  exact W.vret hx hb hr (fun t ht hW => ⟨⟨(upd u5.1 4 r4, u5.2.1, u5.2.2), rfl, hok, by rw [ht]; exact hP, va_K.moved hW.alike hK, hD⟩, hS.F ht⟩) hS.2.2 dX9_reset_57
def wp_X9_nmi (σ : S_Model) (Φ : S_Model → Prop) : Prop := Φ (upd (upd σ.1 0 0) 8 1, σ.2.1, σ.2.2)
set_option maxHeartbeats 4000000 in
set_option maxRecDepth 100000 in
theorem c_X9_nmi (l : Launch) (dC : Nat → ClassId) (dI : Nat → Nat → Nat) (cI cJ : ClassId) (h : Nat → Nat) (sz : Nat) {σ : S_Model} {Φ : S_Model → Prop} (hok : wp_X9_nmi σ Φ) : Met l yX9_nmi wsX9_nmi ({ frames := 0, cells := 0, slots := 0, locals := 0 }) (va_Pc [.ref (h 13)] (cpre dC dI cI cJ (w_Model h cI cJ σ) sz)) (va_Qv Φ (fun u => cpost dC dI cI cJ (va_A (w_Model h cI cJ σ) sz) (w_Model h cI cJ u)) (va_A (w_Model h cI cJ σ) sz)) 0 0 (va_A (w_Model h cI cJ σ) sz) := by
  refine Met.ofW (cc := cX9_nmi) (maxL := 1) (ret := none) (by decide) rfl ?_
  intro p e s m args below meth c s₁ B hml hv
  obtain ⟨rfl, hsz, hP, hK, hD0⟩ := hv
  have hx := B.exec
  have hb := B.bytes
  have hr := B.returns
  have hts := atoms_spec (ws := wsX9_nmi) B.pre
  have hown : s.vm.findClass RX9 = some m.cls := findClass_of_methodNamed B.named
  have hlocks := B.notSynchronized
  subst hsz
  have hD := hD0.self (sz := s.heap.size)
  generalize hAe : va_A (w_Model h cI cJ σ) s.heap.size = A at hD ⊢
  have hA : ∀ q : Nat, s.heap.size ≤ q → A q := fun q h => by rw [← hAe]; exact Or.inr h
  clear hD0 hAe
  have hS : va_S A s.heap s.heap [] := va_S.rf
  have hl := lv_entry ([.ref (h 13)]) (n := 1) (Nat.le_of_ble_eq_true rfl)
  rw [lg_entry_eq]
  generalize (lg_sl ([.ref (h 13)]) ++ List.replicate (1 - (lg_sl ([.ref (h 13)])).length) Slot.unset).toArray = ls at hl ⊢
  have hl : lv_has ls 1 [(0, .ref (h 13))] := hl
  unfold wp_X9_nmi at hok
  refine lv_aload_n hx hb dX9_nmi_0 rfl (lv_at hl 0 rfl) ?_
  refine lv_iconst (v := 0) hx hb dX9_nmi_1 (by decide) ?_
  refine va_put (D := (dC, dI)) (ci := 8) (v := .int 0) (ty := .int) (C := RX9) (T := TX9) (N := 33) hx hb hts (fun w h => List.mem_cons_of_mem _ (in_X9 w h)) tyX9 tyX9_ok nmX9 hown hK hP hD hS 0 rfl rfl 0 (by decide) (hts _ (List.mem_cons_of_mem _ tw_3_187)) (fun _ h9 => h9) rfl (by decide +kernel) rfl rfl (Nat.le_of_ble_eq_true rfl) dX9_nmi_2 (fun H locs hP hD hS => ?_)
  have hP : va_P (dC, dI) vwCl (w_Model h cI cJ (upd σ.1 0 0, σ.2.1, σ.2.2)) _ := hP
  have hD : va_D A (w_Model h cI cJ (upd σ.1 0 0, σ.2.1, σ.2.2)) := hD
  refine lv_aload_n hx hb dX9_nmi_5 rfl (lv_at hl 0 rfl) ?_
  refine lv_iconst (v := 1) hx hb dX9_nmi_6 (by decide) ?_
  refine va_put (D := (dC, dI)) (ci := 8) (v := .int 1) (ty := .boolean) (C := RX9) (T := TX9) (N := 33) hx hb hts (fun w h => List.mem_cons_of_mem _ (in_X9 w h)) tyX9 tyX9_ok nmX9 hown hK hP hD hS 0 rfl rfl 8 (by decide) (hts _ (List.mem_cons_of_mem _ tw_3_195)) (fun _ h9 => h9) rfl (by decide +kernel) rfl rfl (Nat.le_of_ble_eq_true rfl) dX9_nmi_7 (fun H locs hP hD hS => ?_)
  have hP : va_P (dC, dI) vwCl (w_Model h cI cJ (upd (upd σ.1 0 0) 8 1, σ.2.1, σ.2.2)) _ := hP
  have hD : va_D A (w_Model h cI cJ (upd (upd σ.1 0 0) 8 1, σ.2.1, σ.2.2)) := hD
  exact W.vret hx hb hr (fun t ht hW => ⟨⟨(upd (upd σ.1 0 0) 8 1, σ.2.1, σ.2.2), rfl, hok, by rw [ht]; exact hP, va_K.moved hW.alike hK, hD⟩, hS.F ht⟩) hS.2.2 dX9_nmi_10
def wp_X9_receive (σ : S_Model) (a1 : Int32) (Φ : Int32 → S_Model → Prop) : Prop := (((σ.1 22) = (64 : Int32) → (Φ (-1) (upd σ.1 0 0, σ.2.1, σ.2.2))) ∧ (¬ (σ.1 22) = (64 : Int32) → (((a1 < 0 → (Φ (-1) (upd σ.1 0 0, σ.2.1, σ.2.2))) ∧ (¬ a1 < 0 → (((a1 ≤ (255 : Int32) → ((vp_in (σ.1 22) 64 ∧ (Φ ((σ.1 22) + (1 : Int32)) (upd (upd σ.1 0 0) 22 ((σ.1 22) + (1 : Int32)), σ.2.1, va_up σ.2.2 24 (upd (σ.2.2 24) (σ.1 22).toNatClampNeg a1)))))) ∧ (¬ a1 ≤ (255 : Int32) → (Φ (-1) (upd σ.1 0 0, σ.2.1, σ.2.2))))))))))
set_option maxHeartbeats 4000000 in
set_option maxRecDepth 100000 in
theorem c_X9_receive (l : Launch) (dC : Nat → ClassId) (dI : Nat → Nat → Nat) (cI cJ : ClassId) (h : Nat → Nat) (sz : Nat) {σ : S_Model} {a1 : Int32} {Φ : Int32 → S_Model → Prop} (hok : wp_X9_receive σ a1 Φ) : Met l yX9_receive wsX9_receive ({ frames := 0, cells := 0, slots := 0, locals := 0 }) (va_Pc [.ref (h 13), .int a1] (cpre dC dI cI cJ (w_Model h cI cJ σ) sz)) (va_Qi Φ (fun u => cpost dC dI cI cJ (va_A (w_Model h cI cJ σ) sz) (w_Model h cI cJ u)) (va_A (w_Model h cI cJ σ) sz)) 0 0 (va_A (w_Model h cI cJ σ) sz) := by
  refine Met.ofW (cc := cX9_receive) (maxL := 2) (ret := (some .int)) (by decide) rfl ?_
  intro p e s m args below meth c s₁ B hml hv
  obtain ⟨rfl, hsz, hP, hK, hD0⟩ := hv
  have hx := B.exec
  have hb := B.bytes
  have hr := B.returns
  have hts := atoms_spec (ws := wsX9_receive) B.pre
  have hown : s.vm.findClass RX9 = some m.cls := findClass_of_methodNamed B.named
  have hlocks := B.notSynchronized
  subst hsz
  have hD := hD0.self (sz := s.heap.size)
  generalize hAe : va_A (w_Model h cI cJ σ) s.heap.size = A at hD ⊢
  have hA : ∀ q : Nat, s.heap.size ≤ q → A q := fun q h => by rw [← hAe]; exact Or.inr h
  clear hD0 hAe
  have hS : va_S A s.heap s.heap [] := va_S.rf
  have hl := lv_entry ([.ref (h 13), .int a1]) (n := 2) (Nat.le_of_ble_eq_true rfl)
  rw [lg_entry_eq]
  generalize (lg_sl ([.ref (h 13), .int a1]) ++ List.replicate (2 - (lg_sl ([.ref (h 13), .int a1])).length) Slot.unset).toArray = ls at hl ⊢
  have hl : lv_has ls 2 [(0, .ref (h 13)), (1, .int a1)] := hl
  unfold wp_X9_receive at hok
  refine lv_aload_n hx hb dX9_receive_0 rfl (lv_at hl 0 rfl) ?_
  refine lv_iconst (v := 0) hx hb dX9_receive_1 (by decide) ?_
  refine va_put (D := (dC, dI)) (ci := 8) (v := .int 0) (ty := .int) (C := RX9) (T := TX9) (N := 33) hx hb hts (fun w h => List.mem_cons_of_mem _ (in_X9 w h)) tyX9 tyX9_ok nmX9 hown hK hP hD hS 0 rfl rfl 0 (by decide) (hts _ (List.mem_cons_of_mem _ tw_3_187)) (fun _ h9 => h9) rfl (by decide +kernel) rfl rfl (Nat.le_of_ble_eq_true rfl) dX9_receive_2 (fun H locs hP hD hS => ?_)
  have hP : va_P (dC, dI) vwCl (w_Model h cI cJ (upd σ.1 0 0, σ.2.1, σ.2.2)) _ := hP
  have hD : va_D A (w_Model h cI cJ (upd σ.1 0 0, σ.2.1, σ.2.2)) := hD
  refine lv_aload_n hx hb dX9_receive_5 rfl (lv_at hl 0 rfl) ?_
  refine va_get (D := (dC, dI)) (ci := 8) (v := .int (σ.1 22)) (C := RX9) (T := TX9) (N := 33) hx hb hts (fun w h => List.mem_cons_of_mem _ (in_X9 w h)) hown hK hP 0 rfl rfl 22 (by decide) (hts _ (List.mem_cons_of_mem _ tw_3_209)) (fun _ h9 => h9) rfl dX9_receive_6 ?_
  refine lv_bipush (v := 64) hx hb dX9_receive_9 (by decide) ?_
  refine lv_icmp_eq (tgt := 25) hx hb dX9_receive_11 (by decide) (fun c1 => ?_) (fun c1 => ?_)
  · have hok := hok.1 c1
    refine lv_iconst (v := (-1)) hx hb dX9_receive_25 (by decide) ?_
    exact W.iret (v := (-1)) hx hb hr (fun t ht hW => ⟨⟨(-1), (upd σ.1 0 0, σ.2.1, σ.2.2), rfl, hok, by rw [ht]; exact hP, va_K.moved hW.alike hK, hD⟩, hS.F ht⟩) hS.2.2 dX9_receive_26
  · have hok := hok.2 c1
    refine lv_iload_n hx hb dX9_receive_14 rfl (lv_at hl 1 rfl) ?_
    refine lv_if_lt (tgt := 25) hx hb dX9_receive_15 (by decide) (fun c2 => ?_) (fun c2 => ?_)
    · have hok := hok.1 c2
      refine lv_iconst (v := (-1)) hx hb dX9_receive_25 (by decide) ?_
      exact W.iret (v := (-1)) hx hb hr (fun t ht hW => ⟨⟨(-1), (upd σ.1 0 0, σ.2.1, σ.2.2), rfl, hok, by rw [ht]; exact hP, va_K.moved hW.alike hK, hD⟩, hS.F ht⟩) hS.2.2 dX9_receive_26
    · have hok := hok.2 c2
      refine lv_iload_n hx hb dX9_receive_18 rfl (lv_at hl 1 rfl) ?_
      refine lv_sipush (v := 255) hx hb dX9_receive_19 (by decide) ?_
      refine lv_icmp_le (tgt := 27) hx hb dX9_receive_22 (by decide) (fun c3 => ?_) (fun c3 => ?_)
      · have hok := hok.1 c3
        refine lv_aload_n hx hb dX9_receive_27 rfl (lv_at hl 0 rfl) ?_
        refine va_get (D := (dC, dI)) (ci := 8) (v := .ref (h 16)) (C := RX9) (T := TX9) (N := 33) hx hb hts (fun w h => List.mem_cons_of_mem _ (in_X9 w h)) hown hK hP 0 rfl rfl 24 (by decide) (hts _ (List.mem_cons_of_mem _ tw_3_211)) (fun _ h9 => h9) rfl dX9_receive_28 ?_
        refine lv_aload_n hx hb dX9_receive_31 rfl (lv_at hl 0 rfl) ?_
        refine va_get (D := (dC, dI)) (ci := 8) (v := .int (σ.1 22)) (C := RX9) (T := TX9) (N := 33) hx hb hts (fun w h => List.mem_cons_of_mem _ (in_X9 w h)) hown hK hP 0 rfl rfl 22 (by decide) (hts _ (List.mem_cons_of_mem _ tw_3_209)) (fun _ h9 => h9) rfl dX9_receive_32 ?_
        refine lv_iload_n hx hb dX9_receive_35 rfl (lv_at hl 1 rfl) ?_
        refine va_iast hx hb hK hP hD hS 3 0 rfl rfl hok.1 dX9_receive_36 (fun H locs hP hD hS => ?_)
        have hok := hok.2
        have hP : va_P (dC, dI) vwCl (w_Model h cI cJ (upd σ.1 0 0, σ.2.1, va_up σ.2.2 24 (upd (σ.2.2 24) (σ.1 22).toNatClampNeg a1))) _ := hP
        have hD : va_D A (w_Model h cI cJ (upd σ.1 0 0, σ.2.1, va_up σ.2.2 24 (upd (σ.2.2 24) (σ.1 22).toNatClampNeg a1))) := hD
        refine lv_aload_n hx hb dX9_receive_37 rfl (lv_at hl 0 rfl) ?_
        refine lv_dup hx hb dX9_receive_38 rfl ?_
        refine va_get (D := (dC, dI)) (ci := 8) (v := .int (σ.1 22)) (C := RX9) (T := TX9) (N := 33) hx hb hts (fun w h => List.mem_cons_of_mem _ (in_X9 w h)) hown hK hP 0 rfl rfl 22 (by decide) (hts _ (List.mem_cons_of_mem _ tw_3_209)) (fun _ h9 => h9) rfl dX9_receive_39 ?_
        refine lv_iconst (v := 1) hx hb dX9_receive_42 (by decide) ?_
        refine lv_iadd hx hb dX9_receive_43 ?_
        refine va_put (D := (dC, dI)) (ci := 8) (v := .int ((σ.1 22) + (1 : Int32))) (ty := .int) (C := RX9) (T := TX9) (N := 33) hx hb hts (fun w h => List.mem_cons_of_mem _ (in_X9 w h)) tyX9 tyX9_ok nmX9 hown hK hP hD hS 0 rfl rfl 22 (by decide) (hts _ (List.mem_cons_of_mem _ tw_3_209)) (fun _ h9 => h9) rfl (by decide +kernel) rfl rfl (Nat.le_of_ble_eq_true rfl) dX9_receive_44 (fun H locs hP hD hS => ?_)
        have hP : va_P (dC, dI) vwCl (w_Model h cI cJ (upd (upd σ.1 0 0) 22 ((σ.1 22) + (1 : Int32)), σ.2.1, va_up σ.2.2 24 (upd (σ.2.2 24) (σ.1 22).toNatClampNeg a1))) _ := hP
        have hD : va_D A (w_Model h cI cJ (upd (upd σ.1 0 0) 22 ((σ.1 22) + (1 : Int32)), σ.2.1, va_up σ.2.2 24 (upd (σ.2.2 24) (σ.1 22).toNatClampNeg a1))) := hD
        refine lv_aload_n hx hb dX9_receive_47 rfl (lv_at hl 0 rfl) ?_
        refine va_get (D := (dC, dI)) (ci := 8) (v := .int ((σ.1 22) + (1 : Int32))) (C := RX9) (T := TX9) (N := 33) hx hb hts (fun w h => List.mem_cons_of_mem _ (in_X9 w h)) hown hK hP 0 rfl rfl 22 (by decide) (hts _ (List.mem_cons_of_mem _ tw_3_209)) (fun _ h9 => h9) rfl dX9_receive_48 ?_
        exact W.iret (v := (σ.1 22) + (1 : Int32)) hx hb hr (fun t ht hW => ⟨⟨(σ.1 22) + (1 : Int32), (upd (upd σ.1 0 0) 22 ((σ.1 22) + (1 : Int32)), σ.2.1, va_up σ.2.2 24 (upd (σ.2.2 24) (σ.1 22).toNatClampNeg a1)), rfl, hok, by rw [ht]; exact hP, va_K.moved hW.alike hK, hD⟩, hS.F ht⟩) hS.2.2 dX9_receive_51
      · have hok := hok.2 c3
        refine lv_iconst (v := (-1)) hx hb dX9_receive_25 (by decide) ?_
        exact W.iret (v := (-1)) hx hb hr (fun t ht hW => ⟨⟨(-1), (upd σ.1 0 0, σ.2.1, σ.2.2), rfl, hok, by rw [ht]; exact hP, va_K.moved hW.alike hK, hD⟩, hS.F ht⟩) hS.2.2 dX9_receive_26
def wp_X9_sent (σ : S_Model) (a1 : Int32) (Φ : Int32 → S_Model → Prop) : Prop := ((a1 < 0 → (Φ (-1) (upd σ.1 0 0, σ.2.1, σ.2.2))) ∧ (¬ a1 < 0 → ((((σ.1 23) ≤ a1 → (Φ (-1) (upd σ.1 0 0, σ.2.1, σ.2.2))) ∧ (¬ (σ.1 23) ≤ a1 → (((a1 < ((σ.1 23) - (256 : Int32)) → (Φ (-1) (upd σ.1 0 0, σ.2.1, σ.2.2))) ∧ (¬ a1 < ((σ.1 23) - (256 : Int32)) → ((vp_in (a1 - a1 / (256 : Int32) * (256 : Int32)) 256 ∧ (∀ v4 : Int32, v4 = (σ.2.2 25) (a1 - a1 / (256 : Int32) * (256 : Int32)).toNatClampNeg → Φ v4 (upd σ.1 0 0, σ.2.1, σ.2.2))))))))))))
set_option maxHeartbeats 4000000 in
set_option maxRecDepth 100000 in
theorem c_X9_sent (l : Launch) (dC : Nat → ClassId) (dI : Nat → Nat → Nat) (cI cJ : ClassId) (h : Nat → Nat) (sz : Nat) {σ : S_Model} {a1 : Int32} {Φ : Int32 → S_Model → Prop} (hok : wp_X9_sent σ a1 Φ) : Met l yX9_sent wsX9_sent ({ frames := 0, cells := 0, slots := 0, locals := 0 }) (va_Pc [.ref (h 13), .int a1] (cpre dC dI cI cJ (w_Model h cI cJ σ) sz)) (va_Qi Φ (fun u => cpost dC dI cI cJ (va_A (w_Model h cI cJ σ) sz) (w_Model h cI cJ u)) (va_A (w_Model h cI cJ σ) sz)) 0 0 (va_A (w_Model h cI cJ σ) sz) := by
  refine Met.ofW (cc := cX9_sent) (maxL := 2) (ret := (some .int)) (by decide) rfl ?_
  intro p e s m args below meth c s₁ B hml hv
  obtain ⟨rfl, hsz, hP, hK, hD0⟩ := hv
  have hx := B.exec
  have hb := B.bytes
  have hr := B.returns
  have hts := atoms_spec (ws := wsX9_sent) B.pre
  have hown : s.vm.findClass RX9 = some m.cls := findClass_of_methodNamed B.named
  have hlocks := B.notSynchronized
  subst hsz
  have hD := hD0.self (sz := s.heap.size)
  generalize hAe : va_A (w_Model h cI cJ σ) s.heap.size = A at hD ⊢
  have hA : ∀ q : Nat, s.heap.size ≤ q → A q := fun q h => by rw [← hAe]; exact Or.inr h
  clear hD0 hAe
  have hS : va_S A s.heap s.heap [] := va_S.rf
  have hl := lv_entry ([.ref (h 13), .int a1]) (n := 2) (Nat.le_of_ble_eq_true rfl)
  rw [lg_entry_eq]
  generalize (lg_sl ([.ref (h 13), .int a1]) ++ List.replicate (2 - (lg_sl ([.ref (h 13), .int a1])).length) Slot.unset).toArray = ls at hl ⊢
  have hl : lv_has ls 2 [(0, .ref (h 13)), (1, .int a1)] := hl
  unfold wp_X9_sent at hok
  refine lv_aload_n hx hb dX9_sent_0 rfl (lv_at hl 0 rfl) ?_
  refine lv_iconst (v := 0) hx hb dX9_sent_1 (by decide) ?_
  refine va_put (D := (dC, dI)) (ci := 8) (v := .int 0) (ty := .int) (C := RX9) (T := TX9) (N := 33) hx hb hts (fun w h => List.mem_cons_of_mem _ (in_X9 w h)) tyX9 tyX9_ok nmX9 hown hK hP hD hS 0 rfl rfl 0 (by decide) (hts _ (List.mem_cons_of_mem _ tw_3_187)) (fun _ h9 => h9) rfl (by decide +kernel) rfl rfl (Nat.le_of_ble_eq_true rfl) dX9_sent_2 (fun H locs hP hD hS => ?_)
  have hP : va_P (dC, dI) vwCl (w_Model h cI cJ (upd σ.1 0 0, σ.2.1, σ.2.2)) _ := hP
  have hD : va_D A (w_Model h cI cJ (upd σ.1 0 0, σ.2.1, σ.2.2)) := hD
  refine lv_iload_n hx hb dX9_sent_5 rfl (lv_at hl 1 rfl) ?_
  refine lv_if_lt (tgt := 42) hx hb dX9_sent_6 (by decide) (fun c1 => ?_) (fun c1 => ?_)
  · have hok := hok.1 c1
    refine lv_iconst (v := (-1)) hx hb dX9_sent_42 (by decide) ?_
    exact W.iret (v := (-1)) hx hb hr (fun t ht hW => ⟨⟨(-1), (upd σ.1 0 0, σ.2.1, σ.2.2), rfl, hok, by rw [ht]; exact hP, va_K.moved hW.alike hK, hD⟩, hS.F ht⟩) hS.2.2 dX9_sent_43
  · have hok := hok.2 c1
    refine lv_iload_n hx hb dX9_sent_9 rfl (lv_at hl 1 rfl) ?_
    refine lv_aload_n hx hb dX9_sent_10 rfl (lv_at hl 0 rfl) ?_
    refine va_get (D := (dC, dI)) (ci := 8) (v := .int (σ.1 23)) (C := RX9) (T := TX9) (N := 33) hx hb hts (fun w h => List.mem_cons_of_mem _ (in_X9 w h)) hown hK hP 0 rfl rfl 23 (by decide) (hts _ (List.mem_cons_of_mem _ tw_3_210)) (fun _ h9 => h9) rfl dX9_sent_11 ?_
    refine lv_icmp_ge (tgt := 42) hx hb dX9_sent_14 (by decide) (fun c2 => ?_) (fun c2 => ?_)
    · have hok := hok.1 c2
      refine lv_iconst (v := (-1)) hx hb dX9_sent_42 (by decide) ?_
      exact W.iret (v := (-1)) hx hb hr (fun t ht hW => ⟨⟨(-1), (upd σ.1 0 0, σ.2.1, σ.2.2), rfl, hok, by rw [ht]; exact hP, va_K.moved hW.alike hK, hD⟩, hS.F ht⟩) hS.2.2 dX9_sent_43
    · have hok := hok.2 c2
      refine lv_iload_n hx hb dX9_sent_17 rfl (lv_at hl 1 rfl) ?_
      refine lv_aload_n hx hb dX9_sent_18 rfl (lv_at hl 0 rfl) ?_
      refine va_get (D := (dC, dI)) (ci := 8) (v := .int (σ.1 23)) (C := RX9) (T := TX9) (N := 33) hx hb hts (fun w h => List.mem_cons_of_mem _ (in_X9 w h)) hown hK hP 0 rfl rfl 23 (by decide) (hts _ (List.mem_cons_of_mem _ tw_3_210)) (fun _ h9 => h9) rfl dX9_sent_19 ?_
      refine lv_sipush (v := 256) hx hb dX9_sent_22 (by decide) ?_
      refine lv_isub hx hb dX9_sent_25 ?_
      refine lv_icmp_lt (tgt := 42) hx hb dX9_sent_26 (by decide) (fun c3 => ?_) (fun c3 => ?_)
      · have hok := hok.1 c3
        refine lv_iconst (v := (-1)) hx hb dX9_sent_42 (by decide) ?_
        exact W.iret (v := (-1)) hx hb hr (fun t ht hW => ⟨⟨(-1), (upd σ.1 0 0, σ.2.1, σ.2.2), rfl, hok, by rw [ht]; exact hP, va_K.moved hW.alike hK, hD⟩, hS.F ht⟩) hS.2.2 dX9_sent_43
      · have hok := hok.2 c3
        refine lv_aload_n hx hb dX9_sent_29 rfl (lv_at hl 0 rfl) ?_
        refine va_get (D := (dC, dI)) (ci := 8) (v := .ref (h 17)) (C := RX9) (T := TX9) (N := 33) hx hb hts (fun w h => List.mem_cons_of_mem _ (in_X9 w h)) hown hK hP 0 rfl rfl 25 (by decide) (hts _ (List.mem_cons_of_mem _ tw_3_212)) (fun _ h9 => h9) rfl dX9_sent_30 ?_
        refine lv_iload_n hx hb dX9_sent_33 rfl (lv_at hl 1 rfl) ?_
        refine lv_sipush (v := 256) hx hb dX9_sent_34 (by decide) ?_
        refine lv_irem hx hb dX9_sent_37 (by decide) ?_
        refine va_iald hx hb hK hP 4 0 rfl rfl hok.1 dX9_sent_38 ?_
        have hok := hok.2
        refine lv_topi (fun v4 ev4 => ?_)
        have hok := hok v4 ev4
        refine lv_goto (tgt := 43) hx hb dX9_sent_39 (by decide) ?_
        exact W.iret (v := v4) hx hb hr (fun t ht hW => ⟨⟨v4, (upd σ.1 0 0, σ.2.1, σ.2.2), rfl, hok, by rw [ht]; exact hP, va_K.moved hW.alike hK, hD⟩, hS.F ht⟩) hS.2.2 dX9_sent_43
def wp_X9_look_16 (σ : S_Model) (x1 : Int32) (s1 : Int32) (Φ : Int32 → S_Model → Prop) : Prop := wp_X9_fails σ s1 (fun r1 u2 => ((r1 = 0 → (wp_X9_see u2 x1 (fun r4 => Φ r4 u2))) ∧ (¬ r1 = 0 → (Φ 0 u2))))
def wp_X9_look_11 (σ : S_Model) (x1 : Int32) (Φ : Int32 → S_Model → Prop) : Prop := wp_X9_look_16 σ x1 1 Φ
def wp_X9_look (σ : S_Model) (a1 : Int32) (Φ : Int32 → S_Model → Prop) : Prop := ((a1 < 0 → (wp_X9_look_11 σ a1 Φ)) ∧ (¬ a1 < 0 → (((a1 ≤ (65535 : Int32) → (wp_X9_look_16 σ a1 0 Φ)) ∧ (¬ a1 ≤ (65535 : Int32) → (wp_X9_look_11 σ a1 Φ))))))
set_option maxHeartbeats 4000000 in
set_option maxRecDepth 100000 in
theorem c_X9_look (l : Launch) (dC : Nat → ClassId) (dI : Nat → Nat → Nat) (cI cJ : ClassId) (h : Nat → Nat) (sz : Nat) {σ : S_Model} {a1 : Int32} {Φ : Int32 → S_Model → Prop} (hok : wp_X9_look σ a1 Φ) : Met l yX9_look wsX9_look ({ frames := 2, cells := 0, slots := 0, locals := 42 }) (va_Pc [.ref (h 13), .int a1] (cpre dC dI cI cJ (w_Model h cI cJ σ) sz)) (va_Qi Φ (fun u => cpost dC dI cI cJ (va_A (w_Model h cI cJ σ) sz) (w_Model h cI cJ u)) (va_A (w_Model h cI cJ σ) sz)) 0 0 (va_A (w_Model h cI cJ σ) sz) := by
  refine Met.ofW (cc := cX9_look) (maxL := 2) (ret := (some .int)) (by decide) rfl ?_
  intro p e s m args below meth c s₁ B hml hv
  obtain ⟨rfl, hsz, hP, hK, hD0⟩ := hv
  have hx := B.exec
  have hb := B.bytes
  have hr := B.returns
  have hts := atoms_spec (ws := wsX9_look) B.pre
  have hown : s.vm.findClass RX9 = some m.cls := findClass_of_methodNamed B.named
  have hlocks := B.notSynchronized
  subst hsz
  have hD := hD0.self (sz := s.heap.size)
  generalize hAe : va_A (w_Model h cI cJ σ) s.heap.size = A at hD ⊢
  have hA : ∀ q : Nat, s.heap.size ≤ q → A q := fun q h => by rw [← hAe]; exact Or.inr h
  clear hD0 hAe
  have hS : va_S A s.heap s.heap [] := va_S.rf
  have b16 : ∀ (σ : S_Model) (x1 : Int32) (s1 : Int32), wp_X9_look_16 σ x1 s1 Φ → ∀ (H : Heap) (locs : List Loc), va_P (dC, dI) vwCl (w_Model h cI cJ σ) H → va_D A (w_Model h cI cJ σ) → va_S A s.heap H locs → ∀ ls : Array Slot, lv_has ls 2 [(0, .ref (h 13)), (1, .int x1)] → W p l e (headSpec wsX9_look { frames := 2, cells := 0, slots := 0, locals := 42 }).room s m ([.ref (h 13), .int a1] : List Value).toArray below meth c H locs 0 0 (MQ below (va_Qi Φ (fun u => cpost dC dI cI cJ A (w_Model h cI cJ u)) A) ([.ref (h 13), .int a1] : List Value).toArray s 0 0 A) (F0 m 16 ls [.int s1, .ref (h 13)]) := by
    intro σ x1 s1 hok H locs hP hD hS ls hl
    unfold wp_X9_look_16 at hok
    have hPc := hP
    have hDc := hD
    have hFc := va_free (wc := w_Model h cI cJ σ) hD hS hA [0, 1, 2, 3, 4, 5, 6] rfl
    refine va_calli (va_runV (As := [.int s1]) (rest := []) ⟨hx, hb, hml, hown, hts⟩ (c_X9_fails l dC dI cI cJ h _ hok) (cwV 1 hts (tb_gV tw_5_30 tw_5_32 tw_p_83 tw_1_9 tw_5_33) rfl rfl rfl (by decide +kernel) ⟨Nat.le_of_ble_eq_true rfl, Nat.le_of_ble_eq_true rfl⟩) (cpre_V (ci := 8) (q0 := 0) hK hPc hDc rfl rfl) rfl rfl hl.1 rfl (lv_room (Nat.le_of_ble_eq_true rfl)) dX9_look_16 ⟨Nat.le_of_ble_eq_true rfl, Nat.le_of_ble_eq_true rfl⟩) hS (fun q _ h => hFc q h) hFc (fun r1 u2 t H1 locs ht hvm hok hB hz1 hk1 hS => ?_)
    obtain ⟨hP, hD⟩ := cjoin_w ht hB hFc
    refine lv_if_eq (tgt := 24) hx hb dX9_look_19 (by decide) (fun c3 => ?_) (fun c3 => ?_)
    · have hok := hok.1 c3
      refine lv_aload_n hx hb dX9_look_24 rfl (lv_at hl 0 rfl) ?_
      refine lv_iload_n hx hb dX9_look_25 rfl (lv_at hl 1 rfl) ?_
      have hPc := hP
      have hDc := hD
      have hFc := va_free (wc := w_Model h cI cJ u2) hD hS hA [0, 1, 2, 3, 4, 5, 6] rfl
      refine va_calli (va_runV (As := [.int x1]) (rest := []) ⟨hx, hb, hml, hown, hts⟩ (c_X9_see l dC dI cI cJ h _ hok) (cwV 1 hts (tb_gV tw_4_97 tw_4_99 tw_p_45 tw_1_9 tw_4_100) rfl rfl rfl (by decide +kernel) ⟨Nat.le_of_ble_eq_true rfl, Nat.le_of_ble_eq_true rfl⟩) (cpre_V (ci := 8) (q0 := 0) hK hPc hDc rfl rfl) rfl rfl hl.1 rfl (lv_room (Nat.le_of_ble_eq_true rfl)) dX9_look_26 ⟨Nat.le_of_ble_eq_true rfl, Nat.le_of_ble_eq_true rfl⟩) hS (fun q _ h => hFc q h) hFc (fun r4 _ t H1 locs ht hvm hok hB hz1 hk1 hS => ?_)
      obtain ⟨hP, hD⟩ := cjoin_w ht hB hFc
      exact W.iret (v := r4) hx hb hr (fun t ht hW => ⟨⟨r4, u2, rfl, hok, by rw [ht]; exact hP, va_K.moved hW.alike hK, hD⟩, hS.F ht⟩) hS.2.2 dX9_look_29
    · have hok := hok.2 c3
      refine lv_iconst (v := 0) hx hb dX9_look_22 (by decide) ?_
      exact W.iret (v := 0) hx hb hr (fun t ht hW => ⟨⟨0, u2, rfl, hok, by rw [ht]; exact hP, va_K.moved hW.alike hK, hD⟩, hS.F ht⟩) hS.2.2 dX9_look_23
  have b11 : ∀ (σ : S_Model) (x1 : Int32), wp_X9_look_11 σ x1 Φ → ∀ (H : Heap) (locs : List Loc), va_P (dC, dI) vwCl (w_Model h cI cJ σ) H → va_D A (w_Model h cI cJ σ) → va_S A s.heap H locs → ∀ ls : Array Slot, lv_has ls 2 [(0, .ref (h 13)), (1, .int x1)] → W p l e (headSpec wsX9_look { frames := 2, cells := 0, slots := 0, locals := 42 }).room s m ([.ref (h 13), .int a1] : List Value).toArray below meth c H locs 0 0 (MQ below (va_Qi Φ (fun u => cpost dC dI cI cJ A (w_Model h cI cJ u)) A) ([.ref (h 13), .int a1] : List Value).toArray s 0 0 A) (F0 m 11 ls [.ref (h 13)]) := by
    intro σ x1 hok H locs hP hD hS ls hl
    unfold wp_X9_look_11 at hok
    refine lv_iconst (v := 1) hx hb dX9_look_11 (by decide) ?_
    refine lv_goto (tgt := 16) hx hb dX9_look_12 (by decide) ?_
    exact b16 σ x1 1 hok _ _ hP hD hS _ (lv_sub hl [0, 1] rfl)
  have hl := lv_entry ([.ref (h 13), .int a1]) (n := 2) (Nat.le_of_ble_eq_true rfl)
  rw [lg_entry_eq]
  generalize (lg_sl ([.ref (h 13), .int a1]) ++ List.replicate (2 - (lg_sl ([.ref (h 13), .int a1])).length) Slot.unset).toArray = ls at hl ⊢
  have hl : lv_has ls 2 [(0, .ref (h 13)), (1, .int a1)] := hl
  unfold wp_X9_look at hok
  refine lv_aload_n hx hb dX9_look_0 rfl (lv_at hl 0 rfl) ?_
  refine lv_iload_n hx hb dX9_look_1 rfl (lv_at hl 1 rfl) ?_
  refine lv_if_lt (tgt := 11) hx hb dX9_look_2 (by decide) (fun c5 => ?_) (fun c5 => ?_)
  · have hok := hok.1 c5
    exact b11 σ a1 hok _ _ hP hD hS _ (lv_sub hl [0, 1] rfl)
  · have hok := hok.2 c5
    refine lv_iload_n hx hb dX9_look_5 rfl (lv_at hl 1 rfl) ?_
    refine lv_ldc (v := 65535) hx hb hown (hts _ (List.mem_cons_of_mem _ tw_3_186)) dX9_look_6 ?_
    refine lv_icmp_le (tgt := 15) hx hb dX9_look_8 (by decide) (fun c6 => ?_) (fun c6 => ?_)
    · have hok := hok.1 c6
      refine lv_iconst (v := 0) hx hb dX9_look_15 (by decide) ?_
      exact b16 σ a1 0 hok _ _ hP hD hS _ (lv_sub hl [0, 1] rfl)
    · have hok := hok.2 c6
      exact b11 σ a1 hok _ _ hP hD hS _ (lv_sub hl [0, 1] rfl)
def wp_X9_register (σ : S_Model) (a1 : Int32) (Φ : Int32 → S_Model → Prop) : Prop := ((a1 = (5 : Int32) → (Φ (σ.1 4) (upd σ.1 0 0, σ.2.1, σ.2.2))) ∧ (¬ a1 = (5 : Int32) → (((a1 = (4 : Int32) → (Φ ((σ.1 3) ||| (48 : Int32)) (upd σ.1 0 0, σ.2.1, σ.2.2))) ∧ (¬ a1 = (4 : Int32) → (((a1 < 0 → (Φ (-1) (upd σ.1 0 0, σ.2.1, σ.2.2))) ∧ (¬ a1 < 0 → ((((4 : Int32) ≤ a1 → (Φ (-1) (upd σ.1 0 0, σ.2.1, σ.2.2))) ∧ (¬ (4 : Int32) ≤ a1 → ((vp_in a1 4 ∧ (Φ ((σ.2.2 2) a1.toNatClampNeg) (upd σ.1 0 0, σ.2.1, σ.2.2)))))))))))))))
set_option maxHeartbeats 4000000 in
set_option maxRecDepth 100000 in
theorem c_X9_register (l : Launch) (dC : Nat → ClassId) (dI : Nat → Nat → Nat) (cI cJ : ClassId) (h : Nat → Nat) (sz : Nat) {σ : S_Model} {a1 : Int32} {Φ : Int32 → S_Model → Prop} (hok : wp_X9_register σ a1 Φ) : Met l yX9_register wsX9_register ({ frames := 0, cells := 0, slots := 0, locals := 0 }) (va_Pc [.ref (h 13), .int a1] (cpre dC dI cI cJ (w_Model h cI cJ σ) sz)) (va_Qi Φ (fun u => cpost dC dI cI cJ (va_A (w_Model h cI cJ σ) sz) (w_Model h cI cJ u)) (va_A (w_Model h cI cJ σ) sz)) 0 0 (va_A (w_Model h cI cJ σ) sz) := by
  refine Met.ofW (cc := cX9_register) (maxL := 2) (ret := (some .int)) (by decide) rfl ?_
  intro p e s m args below meth c s₁ B hml hv
  obtain ⟨rfl, hsz, hP, hK, hD0⟩ := hv
  have hx := B.exec
  have hb := B.bytes
  have hr := B.returns
  have hts := atoms_spec (ws := wsX9_register) B.pre
  have hown : s.vm.findClass RX9 = some m.cls := findClass_of_methodNamed B.named
  have hlocks := B.notSynchronized
  subst hsz
  have hD := hD0.self (sz := s.heap.size)
  generalize hAe : va_A (w_Model h cI cJ σ) s.heap.size = A at hD ⊢
  have hA : ∀ q : Nat, s.heap.size ≤ q → A q := fun q h => by rw [← hAe]; exact Or.inr h
  clear hD0 hAe
  have hS : va_S A s.heap s.heap [] := va_S.rf
  have hl := lv_entry ([.ref (h 13), .int a1]) (n := 2) (Nat.le_of_ble_eq_true rfl)
  rw [lg_entry_eq]
  generalize (lg_sl ([.ref (h 13), .int a1]) ++ List.replicate (2 - (lg_sl ([.ref (h 13), .int a1])).length) Slot.unset).toArray = ls at hl ⊢
  have hl : lv_has ls 2 [(0, .ref (h 13)), (1, .int a1)] := hl
  unfold wp_X9_register at hok
  refine lv_aload_n hx hb dX9_register_0 rfl (lv_at hl 0 rfl) ?_
  refine lv_iconst (v := 0) hx hb dX9_register_1 (by decide) ?_
  refine va_put (D := (dC, dI)) (ci := 8) (v := .int 0) (ty := .int) (C := RX9) (T := TX9) (N := 33) hx hb hts (fun w h => List.mem_cons_of_mem _ (in_X9 w h)) tyX9 tyX9_ok nmX9 hown hK hP hD hS 0 rfl rfl 0 (by decide) (hts _ (List.mem_cons_of_mem _ tw_3_187)) (fun _ h9 => h9) rfl (by decide +kernel) rfl rfl (Nat.le_of_ble_eq_true rfl) dX9_register_2 (fun H locs hP hD hS => ?_)
  have hP : va_P (dC, dI) vwCl (w_Model h cI cJ (upd σ.1 0 0, σ.2.1, σ.2.2)) _ := hP
  have hD : va_D A (w_Model h cI cJ (upd σ.1 0 0, σ.2.1, σ.2.2)) := hD
  refine lv_iload_n hx hb dX9_register_5 rfl (lv_at hl 1 rfl) ?_
  refine lv_iconst (v := 5) hx hb dX9_register_6 (by decide) ?_
  refine lv_icmp_ne (tgt := 17) hx hb dX9_register_7 (by decide) (fun c1 => ?_) (fun c1 => ?_)
  · have hok := hok.2 c1
    refine lv_iload_n hx hb dX9_register_17 rfl (lv_at hl 1 rfl) ?_
    refine lv_iconst (v := 4) hx hb dX9_register_18 (by decide) ?_
    refine lv_icmp_ne (tgt := 32) hx hb dX9_register_19 (by decide) (fun c2 => ?_) (fun c2 => ?_)
    · have hok := hok.2 c2
      refine lv_iload_n hx hb dX9_register_32 rfl (lv_at hl 1 rfl) ?_
      refine lv_if_lt (tgt := 50) hx hb dX9_register_33 (by decide) (fun c3 => ?_) (fun c3 => ?_)
      · have hok := hok.1 c3
        refine lv_iconst (v := (-1)) hx hb dX9_register_50 (by decide) ?_
        exact W.iret (v := (-1)) hx hb hr (fun t ht hW => ⟨⟨(-1), (upd σ.1 0 0, σ.2.1, σ.2.2), rfl, hok, by rw [ht]; exact hP, va_K.moved hW.alike hK, hD⟩, hS.F ht⟩) hS.2.2 dX9_register_51
      · have hok := hok.2 c3
        refine lv_iload_n hx hb dX9_register_36 rfl (lv_at hl 1 rfl) ?_
        refine lv_iconst (v := 4) hx hb dX9_register_37 (by decide) ?_
        refine lv_icmp_ge (tgt := 50) hx hb dX9_register_38 (by decide) (fun c4 => ?_) (fun c4 => ?_)
        · have hok := hok.1 c4
          refine lv_iconst (v := (-1)) hx hb dX9_register_50 (by decide) ?_
          exact W.iret (v := (-1)) hx hb hr (fun t ht hW => ⟨⟨(-1), (upd σ.1 0 0, σ.2.1, σ.2.2), rfl, hok, by rw [ht]; exact hP, va_K.moved hW.alike hK, hD⟩, hS.F ht⟩) hS.2.2 dX9_register_51
        · have hok := hok.2 c4
          refine lv_aload_n hx hb dX9_register_41 rfl (lv_at hl 0 rfl) ?_
          refine va_get (D := (dC, dI)) (ci := 8) (v := .ref (h 15)) (C := RX9) (T := TX9) (N := 33) hx hb hts (fun w h => List.mem_cons_of_mem _ (in_X9 w h)) hown hK hP 0 rfl rfl 2 (by decide) (hts _ (List.mem_cons_of_mem _ tw_3_189)) (fun _ h9 => h9) rfl dX9_register_42 ?_
          refine lv_iload_n hx hb dX9_register_45 rfl (lv_at hl 1 rfl) ?_
          refine va_iald hx hb hK hP 2 0 rfl rfl hok.1 dX9_register_46 ?_
          have hok := hok.2
          refine lv_goto (tgt := 51) hx hb dX9_register_47 (by decide) ?_
          exact W.iret (v := (σ.2.2 2) a1.toNatClampNeg) hx hb hr (fun t ht hW => ⟨⟨(σ.2.2 2) a1.toNatClampNeg, (upd σ.1 0 0, σ.2.1, σ.2.2), rfl, hok, by rw [ht]; exact hP, va_K.moved hW.alike hK, hD⟩, hS.F ht⟩) hS.2.2 dX9_register_51
    · have hok := hok.1 c2
      refine lv_aload_n hx hb dX9_register_22 rfl (lv_at hl 0 rfl) ?_
      refine va_get (D := (dC, dI)) (ci := 8) (v := .int (σ.1 3)) (C := RX9) (T := TX9) (N := 33) hx hb hts (fun w h => List.mem_cons_of_mem _ (in_X9 w h)) hown hK hP 0 rfl rfl 3 (by decide) (hts _ (List.mem_cons_of_mem _ tw_3_190)) (fun _ h9 => h9) rfl dX9_register_23 ?_
      refine lv_bipush (v := 48) hx hb dX9_register_26 (by decide) ?_
      refine lv_ior hx hb dX9_register_28 ?_
      refine lv_goto (tgt := 51) hx hb dX9_register_29 (by decide) ?_
      exact W.iret (v := (σ.1 3) ||| (48 : Int32)) hx hb hr (fun t ht hW => ⟨⟨(σ.1 3) ||| (48 : Int32), (upd σ.1 0 0, σ.2.1, σ.2.2), rfl, hok, by rw [ht]; exact hP, va_K.moved hW.alike hK, hD⟩, hS.F ht⟩) hS.2.2 dX9_register_51
  · have hok := hok.1 c1
    refine lv_aload_n hx hb dX9_register_10 rfl (lv_at hl 0 rfl) ?_
    refine va_get (D := (dC, dI)) (ci := 8) (v := .int (σ.1 4)) (C := RX9) (T := TX9) (N := 33) hx hb hts (fun w h => List.mem_cons_of_mem _ (in_X9 w h)) hown hK hP 0 rfl rfl 4 (by decide) (hts _ (List.mem_cons_of_mem _ tw_3_191)) (fun _ h9 => h9) rfl dX9_register_11 ?_
    refine lv_goto (tgt := 51) hx hb dX9_register_14 (by decide) ?_
    exact W.iret (v := σ.1 4) hx hb hr (fun t ht hW => ⟨⟨σ.1 4, (upd σ.1 0 0, σ.2.1, σ.2.2), rfl, hok, by rw [ht]; exact hP, va_K.moved hW.alike hK, hD⟩, hS.F ht⟩) hS.2.2 dX9_register_51
def wp_X9_set_15 (σ : S_Model) (x1 : Int32) (x2 : Int32) (s1 : Int32) (Φ : S_Model → Prop) : Prop := wp_X9_fails σ s1 (fun r1 u2 => ((r1 = 0 → (((x1 = (5 : Int32) → (Φ (upd u2.1 4 (x2 &&& (65535 : Int32)), u2.2.1, u2.2.2))) ∧ (¬ x1 = (5 : Int32) → (((x1 = (4 : Int32) → (Φ (upd u2.1 3 ((x2 &&& (255 : Int32)) ||| (48 : Int32)), u2.2.1, u2.2.2))) ∧ (¬ x1 = (4 : Int32) → ((vp_in x1 4 ∧ (Φ (u2.1, u2.2.1, va_up u2.2.2 2 (upd (u2.2.2 2) x1.toNatClampNeg (x2 &&& (255 : Int32)))))))))))))) ∧ (¬ r1 = 0 → (Φ u2))))
def wp_X9_set_10 (σ : S_Model) (x1 : Int32) (x2 : Int32) (Φ : S_Model → Prop) : Prop := wp_X9_set_15 σ x1 x2 1 Φ
def wp_X9_set (σ : S_Model) (a1 : Int32) (a2 : Int32) (Φ : S_Model → Prop) : Prop := ((a1 < 0 → (wp_X9_set_10 σ a1 a2 Φ)) ∧ (¬ a1 < 0 → (((a1 ≤ (5 : Int32) → (wp_X9_set_15 σ a1 a2 0 Φ)) ∧ (¬ a1 ≤ (5 : Int32) → (wp_X9_set_10 σ a1 a2 Φ))))))
set_option maxHeartbeats 4000000 in
set_option maxRecDepth 100000 in
theorem c_X9_set (l : Launch) (dC : Nat → ClassId) (dI : Nat → Nat → Nat) (cI cJ : ClassId) (h : Nat → Nat) (sz : Nat) {σ : S_Model} {a1 : Int32} {a2 : Int32} {Φ : S_Model → Prop} (hok : wp_X9_set σ a1 a2 Φ) : Met l yX9_set wsX9_set ({ frames := 1, cells := 0, slots := 0, locals := 21 }) (va_Pc [.ref (h 13), .int a1, .int a2] (cpre dC dI cI cJ (w_Model h cI cJ σ) sz)) (va_Qv Φ (fun u => cpost dC dI cI cJ (va_A (w_Model h cI cJ σ) sz) (w_Model h cI cJ u)) (va_A (w_Model h cI cJ σ) sz)) 0 0 (va_A (w_Model h cI cJ σ) sz) := by
  refine Met.ofW (cc := cX9_set) (maxL := 3) (ret := none) (by decide) rfl ?_
  intro p e s m args below meth c s₁ B hml hv
  obtain ⟨rfl, hsz, hP, hK, hD0⟩ := hv
  have hx := B.exec
  have hb := B.bytes
  have hr := B.returns
  have hts := atoms_spec (ws := wsX9_set) B.pre
  have hown : s.vm.findClass RX9 = some m.cls := findClass_of_methodNamed B.named
  have hlocks := B.notSynchronized
  subst hsz
  have hD := hD0.self (sz := s.heap.size)
  generalize hAe : va_A (w_Model h cI cJ σ) s.heap.size = A at hD ⊢
  have hA : ∀ q : Nat, s.heap.size ≤ q → A q := fun q h => by rw [← hAe]; exact Or.inr h
  clear hD0 hAe
  have hS : va_S A s.heap s.heap [] := va_S.rf
  have b15 : ∀ (σ : S_Model) (x1 : Int32) (x2 : Int32) (s1 : Int32), wp_X9_set_15 σ x1 x2 s1 Φ → ∀ (H : Heap) (locs : List Loc), va_P (dC, dI) vwCl (w_Model h cI cJ σ) H → va_D A (w_Model h cI cJ σ) → va_S A s.heap H locs → ∀ ls : Array Slot, lv_has ls 3 [(0, .ref (h 13)), (1, .int x1), (2, .int x2)] → W p l e (headSpec wsX9_set { frames := 1, cells := 0, slots := 0, locals := 21 }).room s m ([.ref (h 13), .int a1, .int a2] : List Value).toArray below meth c H locs 0 0 (MQ below (va_Qv Φ (fun u => cpost dC dI cI cJ A (w_Model h cI cJ u)) A) ([.ref (h 13), .int a1, .int a2] : List Value).toArray s 0 0 A) (F0 m 15 ls [.int s1, .ref (h 13)]) := by
    intro σ x1 x2 s1 hok H locs hP hD hS ls hl
    unfold wp_X9_set_15 at hok
    have hPc := hP
    have hDc := hD
    have hFc := va_free (wc := w_Model h cI cJ σ) hD hS hA [0, 1, 2, 3, 4, 5, 6] rfl
    refine va_calli (va_runV (As := [.int s1]) (rest := []) ⟨hx, hb, hml, hown, hts⟩ (c_X9_fails l dC dI cI cJ h _ hok) (cwV 1 hts (tb_gV tw_5_30 tw_5_32 tw_p_83 tw_1_9 tw_5_33) rfl rfl rfl (by decide +kernel) ⟨Nat.le_of_ble_eq_true rfl, Nat.le_of_ble_eq_true rfl⟩) (cpre_V (ci := 8) (q0 := 0) hK hPc hDc rfl rfl) rfl rfl hl.1 rfl (lv_room (Nat.le_of_ble_eq_true rfl)) dX9_set_15 ⟨Nat.le_of_ble_eq_true rfl, Nat.le_of_ble_eq_true rfl⟩) hS (fun q _ h => hFc q h) hFc (fun r1 u2 t H1 locs ht hvm hok hB hz1 hk1 hS => ?_)
    obtain ⟨hP, hD⟩ := cjoin_w ht hB hFc
    refine lv_if_eq (tgt := 22) hx hb dX9_set_18 (by decide) (fun c3 => ?_) (fun c3 => ?_)
    · have hok := hok.1 c3
      refine lv_iload_n hx hb dX9_set_22 rfl (lv_at hl 1 rfl) ?_
      refine lv_iconst (v := 5) hx hb dX9_set_23 (by decide) ?_
      refine lv_icmp_ne (tgt := 38) hx hb dX9_set_24 (by decide) (fun c4 => ?_) (fun c4 => ?_)
      · have hok := hok.2 c4
        refine lv_iload_n hx hb dX9_set_38 rfl (lv_at hl 1 rfl) ?_
        refine lv_iconst (v := 4) hx hb dX9_set_39 (by decide) ?_
        refine lv_icmp_ne (tgt := 58) hx hb dX9_set_40 (by decide) (fun c5 => ?_) (fun c5 => ?_)
        · have hok := hok.2 c5
          refine lv_aload_n hx hb dX9_set_58 rfl (lv_at hl 0 rfl) ?_
          refine va_get (D := (dC, dI)) (ci := 8) (v := .ref (h 15)) (C := RX9) (T := TX9) (N := 33) hx hb hts (fun w h => List.mem_cons_of_mem _ (in_X9 w h)) hown hK hP 0 rfl rfl 2 (by decide) (hts _ (List.mem_cons_of_mem _ tw_3_189)) (fun _ h9 => h9) rfl dX9_set_59 ?_
          refine lv_iload_n hx hb dX9_set_62 rfl (lv_at hl 1 rfl) ?_
          refine lv_iload_n hx hb dX9_set_63 rfl (lv_at hl 2 rfl) ?_
          refine lv_sipush (v := 255) hx hb dX9_set_64 (by decide) ?_
          refine lv_iand hx hb dX9_set_67 ?_
          refine va_iast hx hb hK hP hD hS 2 0 rfl rfl hok.1 dX9_set_68 (fun H locs hP hD hS => ?_)
          have hok := hok.2
          have hP : va_P (dC, dI) vwCl (w_Model h cI cJ (u2.1, u2.2.1, va_up u2.2.2 2 (upd (u2.2.2 2) x1.toNatClampNeg (x2 &&& (255 : Int32))))) _ := hP
          have hD : va_D A (w_Model h cI cJ (u2.1, u2.2.1, va_up u2.2.2 2 (upd (u2.2.2 2) x1.toNatClampNeg (x2 &&& (255 : Int32))))) := hD
          exact W.vret hx hb hr (fun t ht hW => ⟨⟨(u2.1, u2.2.1, va_up u2.2.2 2 (upd (u2.2.2 2) x1.toNatClampNeg (x2 &&& (255 : Int32)))), rfl, hok, by rw [ht]; exact hP, va_K.moved hW.alike hK, hD⟩, hS.F ht⟩) hS.2.2 dX9_set_69
        · have hok := hok.1 c5
          refine lv_aload_n hx hb dX9_set_43 rfl (lv_at hl 0 rfl) ?_
          refine lv_iload_n hx hb dX9_set_44 rfl (lv_at hl 2 rfl) ?_
          refine lv_sipush (v := 255) hx hb dX9_set_45 (by decide) ?_
          refine lv_iand hx hb dX9_set_48 ?_
          refine lv_bipush (v := 48) hx hb dX9_set_49 (by decide) ?_
          refine lv_ior hx hb dX9_set_51 ?_
          refine va_put (D := (dC, dI)) (ci := 8) (v := .int ((x2 &&& (255 : Int32)) ||| (48 : Int32))) (ty := .int) (C := RX9) (T := TX9) (N := 33) hx hb hts (fun w h => List.mem_cons_of_mem _ (in_X9 w h)) tyX9 tyX9_ok nmX9 hown hK hP hD hS 0 rfl rfl 3 (by decide) (hts _ (List.mem_cons_of_mem _ tw_3_190)) (fun _ h9 => h9) rfl (by decide +kernel) rfl rfl (Nat.le_of_ble_eq_true rfl) dX9_set_52 (fun H locs hP hD hS => ?_)
          have hP : va_P (dC, dI) vwCl (w_Model h cI cJ (upd u2.1 3 ((x2 &&& (255 : Int32)) ||| (48 : Int32)), u2.2.1, u2.2.2)) _ := hP
          have hD : va_D A (w_Model h cI cJ (upd u2.1 3 ((x2 &&& (255 : Int32)) ||| (48 : Int32)), u2.2.1, u2.2.2)) := hD
          refine lv_goto (tgt := 69) hx hb dX9_set_55 (by decide) ?_
          exact W.vret hx hb hr (fun t ht hW => ⟨⟨(upd u2.1 3 ((x2 &&& (255 : Int32)) ||| (48 : Int32)), u2.2.1, u2.2.2), rfl, hok, by rw [ht]; exact hP, va_K.moved hW.alike hK, hD⟩, hS.F ht⟩) hS.2.2 dX9_set_69
      · have hok := hok.1 c4
        refine lv_aload_n hx hb dX9_set_27 rfl (lv_at hl 0 rfl) ?_
        refine lv_iload_n hx hb dX9_set_28 rfl (lv_at hl 2 rfl) ?_
        refine lv_ldc (v := 65535) hx hb hown (hts _ (List.mem_cons_of_mem _ tw_3_186)) dX9_set_29 ?_
        refine lv_iand hx hb dX9_set_31 ?_
        refine va_put (D := (dC, dI)) (ci := 8) (v := .int (x2 &&& (65535 : Int32))) (ty := .int) (C := RX9) (T := TX9) (N := 33) hx hb hts (fun w h => List.mem_cons_of_mem _ (in_X9 w h)) tyX9 tyX9_ok nmX9 hown hK hP hD hS 0 rfl rfl 4 (by decide) (hts _ (List.mem_cons_of_mem _ tw_3_191)) (fun _ h9 => h9) rfl (by decide +kernel) rfl rfl (Nat.le_of_ble_eq_true rfl) dX9_set_32 (fun H locs hP hD hS => ?_)
        have hP : va_P (dC, dI) vwCl (w_Model h cI cJ (upd u2.1 4 (x2 &&& (65535 : Int32)), u2.2.1, u2.2.2)) _ := hP
        have hD : va_D A (w_Model h cI cJ (upd u2.1 4 (x2 &&& (65535 : Int32)), u2.2.1, u2.2.2)) := hD
        refine lv_goto (tgt := 69) hx hb dX9_set_35 (by decide) ?_
        exact W.vret hx hb hr (fun t ht hW => ⟨⟨(upd u2.1 4 (x2 &&& (65535 : Int32)), u2.2.1, u2.2.2), rfl, hok, by rw [ht]; exact hP, va_K.moved hW.alike hK, hD⟩, hS.F ht⟩) hS.2.2 dX9_set_69
    · have hok := hok.2 c3
      exact W.vret hx hb hr (fun t ht hW => ⟨⟨u2, rfl, hok, by rw [ht]; exact hP, va_K.moved hW.alike hK, hD⟩, hS.F ht⟩) hS.2.2 dX9_set_21
  have b10 : ∀ (σ : S_Model) (x1 : Int32) (x2 : Int32), wp_X9_set_10 σ x1 x2 Φ → ∀ (H : Heap) (locs : List Loc), va_P (dC, dI) vwCl (w_Model h cI cJ σ) H → va_D A (w_Model h cI cJ σ) → va_S A s.heap H locs → ∀ ls : Array Slot, lv_has ls 3 [(0, .ref (h 13)), (1, .int x1), (2, .int x2)] → W p l e (headSpec wsX9_set { frames := 1, cells := 0, slots := 0, locals := 21 }).room s m ([.ref (h 13), .int a1, .int a2] : List Value).toArray below meth c H locs 0 0 (MQ below (va_Qv Φ (fun u => cpost dC dI cI cJ A (w_Model h cI cJ u)) A) ([.ref (h 13), .int a1, .int a2] : List Value).toArray s 0 0 A) (F0 m 10 ls [.ref (h 13)]) := by
    intro σ x1 x2 hok H locs hP hD hS ls hl
    unfold wp_X9_set_10 at hok
    refine lv_iconst (v := 1) hx hb dX9_set_10 (by decide) ?_
    refine lv_goto (tgt := 15) hx hb dX9_set_11 (by decide) ?_
    exact b15 σ x1 x2 1 hok _ _ hP hD hS _ (lv_sub hl [0, 1, 2] rfl)
  have hl := lv_entry ([.ref (h 13), .int a1, .int a2]) (n := 3) (Nat.le_of_ble_eq_true rfl)
  rw [lg_entry_eq]
  generalize (lg_sl ([.ref (h 13), .int a1, .int a2]) ++ List.replicate (3 - (lg_sl ([.ref (h 13), .int a1, .int a2])).length) Slot.unset).toArray = ls at hl ⊢
  have hl : lv_has ls 3 [(0, .ref (h 13)), (1, .int a1), (2, .int a2)] := hl
  unfold wp_X9_set at hok
  refine lv_aload_n hx hb dX9_set_0 rfl (lv_at hl 0 rfl) ?_
  refine lv_iload_n hx hb dX9_set_1 rfl (lv_at hl 1 rfl) ?_
  refine lv_if_lt (tgt := 10) hx hb dX9_set_2 (by decide) (fun c6 => ?_) (fun c6 => ?_)
  · have hok := hok.1 c6
    exact b10 σ a1 a2 hok _ _ hP hD hS _ (lv_sub hl [0, 1, 2] rfl)
  · have hok := hok.2 c6
    refine lv_iload_n hx hb dX9_set_5 rfl (lv_at hl 1 rfl) ?_
    refine lv_iconst (v := 5) hx hb dX9_set_6 (by decide) ?_
    refine lv_icmp_le (tgt := 14) hx hb dX9_set_7 (by decide) (fun c7 => ?_) (fun c7 => ?_)
    · have hok := hok.1 c7
      refine lv_iconst (v := 0) hx hb dX9_set_14 (by decide) ?_
      exact b15 σ a1 a2 0 hok _ _ hP hD hS _ (lv_sub hl [0, 1, 2] rfl)
    · have hok := hok.2 c7
      exact b10 σ a1 a2 hok _ _ hP hD hS _ (lv_sub hl [0, 1, 2] rfl)
def wp_X9_setBreak (σ : S_Model) (a1 : Int32) (Φ : Int32 → S_Model → Prop) : Prop := ((a1 < 0 → (Φ 0 (upd σ.1 0 0, σ.2.1, σ.2.2))) ∧ (¬ a1 < 0 → ((((65535 : Int32) < a1 → (Φ 0 (upd σ.1 0 0, σ.2.1, σ.2.2))) ∧ (¬ (65535 : Int32) < a1 → ((((σ.1 29) = (16 : Int32) → (Φ 0 (upd σ.1 0 0, σ.2.1, σ.2.2))) ∧ (¬ (σ.1 29) = (16 : Int32) → (wp_X9_find (upd σ.1 0 0, σ.2.1, σ.2.2) a1 (fun r4 => ((r4 < 0 → ((vp_in (σ.1 29) 16 ∧ (Φ 1 (upd (upd σ.1 0 0) 29 ((σ.1 29) + (1 : Int32)), σ.2.1, va_up σ.2.2 31 (upd (σ.2.2 31) (σ.1 29).toNatClampNeg a1)))))) ∧ (¬ r4 < 0 → (Φ 0 (upd σ.1 0 0, σ.2.1, σ.2.2))))))))))))))
set_option maxHeartbeats 4000000 in
set_option maxRecDepth 100000 in
theorem c_X9_setBreak (l : Launch) (dC : Nat → ClassId) (dI : Nat → Nat → Nat) (cI cJ : ClassId) (h : Nat → Nat) (sz : Nat) {σ : S_Model} {a1 : Int32} {Φ : Int32 → S_Model → Prop} (hok : wp_X9_setBreak σ a1 Φ) : Met l yX9_setBreak wsX9_setBreak ({ frames := 1, cells := 0, slots := 0, locals := 22 }) (va_Pc [.ref (h 13), .int a1] (cpre dC dI cI cJ (w_Model h cI cJ σ) sz)) (va_Qi Φ (fun u => cpost dC dI cI cJ (va_A (w_Model h cI cJ σ) sz) (w_Model h cI cJ u)) (va_A (w_Model h cI cJ σ) sz)) 0 0 (va_A (w_Model h cI cJ σ) sz) := by
  refine Met.ofW (cc := cX9_setBreak) (maxL := 2) (ret := (some .boolean)) (by decide) rfl ?_
  intro p e s m args below meth c s₁ B hml hv
  obtain ⟨rfl, hsz, hP, hK, hD0⟩ := hv
  have hx := B.exec
  have hb := B.bytes
  have hr := B.returns
  have hts := atoms_spec (ws := wsX9_setBreak) B.pre
  have hown : s.vm.findClass RX9 = some m.cls := findClass_of_methodNamed B.named
  have hlocks := B.notSynchronized
  subst hsz
  have hD := hD0.self (sz := s.heap.size)
  generalize hAe : va_A (w_Model h cI cJ σ) s.heap.size = A at hD ⊢
  have hA : ∀ q : Nat, s.heap.size ≤ q → A q := fun q h => by rw [← hAe]; exact Or.inr h
  clear hD0 hAe
  have hS : va_S A s.heap s.heap [] := va_S.rf
  have hl := lv_entry ([.ref (h 13), .int a1]) (n := 2) (Nat.le_of_ble_eq_true rfl)
  rw [lg_entry_eq]
  generalize (lg_sl ([.ref (h 13), .int a1]) ++ List.replicate (2 - (lg_sl ([.ref (h 13), .int a1])).length) Slot.unset).toArray = ls at hl ⊢
  have hl : lv_has ls 2 [(0, .ref (h 13)), (1, .int a1)] := hl
  unfold wp_X9_setBreak at hok
  refine lv_aload_n hx hb dX9_setBreak_0 rfl (lv_at hl 0 rfl) ?_
  refine lv_iconst (v := 0) hx hb dX9_setBreak_1 (by decide) ?_
  refine va_put (D := (dC, dI)) (ci := 8) (v := .int 0) (ty := .int) (C := RX9) (T := TX9) (N := 33) hx hb hts (fun w h => List.mem_cons_of_mem _ (in_X9 w h)) tyX9 tyX9_ok nmX9 hown hK hP hD hS 0 rfl rfl 0 (by decide) (hts _ (List.mem_cons_of_mem _ tw_3_187)) (fun _ h9 => h9) rfl (by decide +kernel) rfl rfl (Nat.le_of_ble_eq_true rfl) dX9_setBreak_2 (fun H locs hP hD hS => ?_)
  have hP : va_P (dC, dI) vwCl (w_Model h cI cJ (upd σ.1 0 0, σ.2.1, σ.2.2)) _ := hP
  have hD : va_D A (w_Model h cI cJ (upd σ.1 0 0, σ.2.1, σ.2.2)) := hD
  refine lv_iload_n hx hb dX9_setBreak_5 rfl (lv_at hl 1 rfl) ?_
  refine lv_if_lt (tgt := 32) hx hb dX9_setBreak_6 (by decide) (fun c1 => ?_) (fun c1 => ?_)
  · have hok := hok.1 c1
    refine lv_iconst (v := 0) hx hb dX9_setBreak_32 (by decide) ?_
    exact W.zret (v := 0) hx hb hr rfl (fun t ht hW => ⟨⟨0, (upd σ.1 0 0, σ.2.1, σ.2.2), rfl, hok, by rw [ht]; exact hP, va_K.moved hW.alike hK, hD⟩, hS.F ht⟩) hS.2.2 dX9_setBreak_33
  · have hok := hok.2 c1
    refine lv_iload_n hx hb dX9_setBreak_9 rfl (lv_at hl 1 rfl) ?_
    refine lv_ldc (v := 65535) hx hb hown (hts _ (List.mem_cons_of_mem _ tw_3_186)) dX9_setBreak_10 ?_
    refine lv_icmp_gt (tgt := 32) hx hb dX9_setBreak_12 (by decide) (fun c2 => ?_) (fun c2 => ?_)
    · have hok := hok.1 c2
      refine lv_iconst (v := 0) hx hb dX9_setBreak_32 (by decide) ?_
      exact W.zret (v := 0) hx hb hr rfl (fun t ht hW => ⟨⟨0, (upd σ.1 0 0, σ.2.1, σ.2.2), rfl, hok, by rw [ht]; exact hP, va_K.moved hW.alike hK, hD⟩, hS.F ht⟩) hS.2.2 dX9_setBreak_33
    · have hok := hok.2 c2
      refine lv_aload_n hx hb dX9_setBreak_15 rfl (lv_at hl 0 rfl) ?_
      refine va_get (D := (dC, dI)) (ci := 8) (v := .int (σ.1 29)) (C := RX9) (T := TX9) (N := 33) hx hb hts (fun w h => List.mem_cons_of_mem _ (in_X9 w h)) hown hK hP 0 rfl rfl 29 (by decide) (hts _ (List.mem_cons_of_mem _ tw_3_216)) (fun _ h9 => h9) rfl dX9_setBreak_16 ?_
      refine lv_bipush (v := 16) hx hb dX9_setBreak_19 (by decide) ?_
      refine lv_icmp_eq (tgt := 32) hx hb dX9_setBreak_21 (by decide) (fun c3 => ?_) (fun c3 => ?_)
      · have hok := hok.1 c3
        refine lv_iconst (v := 0) hx hb dX9_setBreak_32 (by decide) ?_
        exact W.zret (v := 0) hx hb hr rfl (fun t ht hW => ⟨⟨0, (upd σ.1 0 0, σ.2.1, σ.2.2), rfl, hok, by rw [ht]; exact hP, va_K.moved hW.alike hK, hD⟩, hS.F ht⟩) hS.2.2 dX9_setBreak_33
      · have hok := hok.2 c3
        refine lv_aload_n hx hb dX9_setBreak_24 rfl (lv_at hl 0 rfl) ?_
        refine lv_iload_n hx hb dX9_setBreak_25 rfl (lv_at hl 1 rfl) ?_
        have hPc := hP
        have hDc := hD
        have hFc := va_free (wc := w_Model h cI cJ (upd σ.1 0 0, σ.2.1, σ.2.2)) hD hS hA [0, 1, 2, 3, 4, 5, 6] rfl
        refine va_calli (va_runV (As := [.int a1]) (rest := []) ⟨hx, hb, hml, hown, hts⟩ (c_X9_find l dC dI cI cJ h _ hok) (cwV 1 hts (tb_gV tw_5_35 tw_5_37 tw_p_84 tw_1_9 tw_5_38) rfl rfl rfl (by decide +kernel) ⟨Nat.le_of_ble_eq_true rfl, Nat.le_of_ble_eq_true rfl⟩) (cpre_V (ci := 8) (q0 := 0) hK hPc hDc rfl rfl) rfl rfl hl.1 rfl (lv_room (Nat.le_of_ble_eq_true rfl)) dX9_setBreak_26 ⟨Nat.le_of_ble_eq_true rfl, Nat.le_of_ble_eq_true rfl⟩) hS (fun q _ h => hFc q h) hFc (fun r4 _ t H1 locs ht hvm hok hB hz1 hk1 hS => ?_)
        obtain ⟨hP, hD⟩ := cjoin_w ht hB hFc
        refine lv_if_lt (tgt := 34) hx hb dX9_setBreak_29 (by decide) (fun c5 => ?_) (fun c5 => ?_)
        · have hok := hok.1 c5
          refine lv_aload_n hx hb dX9_setBreak_34 rfl (lv_at hl 0 rfl) ?_
          refine va_get (D := (dC, dI)) (ci := 8) (v := .ref (h 18)) (C := RX9) (T := TX9) (N := 33) hx hb hts (fun w h => List.mem_cons_of_mem _ (in_X9 w h)) hown hK hP 0 rfl rfl 31 (by decide) (hts _ (List.mem_cons_of_mem _ tw_3_218)) (fun _ h9 => h9) rfl dX9_setBreak_35 ?_
          refine lv_aload_n hx hb dX9_setBreak_38 rfl (lv_at hl 0 rfl) ?_
          refine va_get (D := (dC, dI)) (ci := 8) (v := .int (σ.1 29)) (C := RX9) (T := TX9) (N := 33) hx hb hts (fun w h => List.mem_cons_of_mem _ (in_X9 w h)) hown hK hP 0 rfl rfl 29 (by decide) (hts _ (List.mem_cons_of_mem _ tw_3_216)) (fun _ h9 => h9) rfl dX9_setBreak_39 ?_
          refine lv_iload_n hx hb dX9_setBreak_42 rfl (lv_at hl 1 rfl) ?_
          refine va_iast hx hb hK hP hD hS 5 0 rfl rfl hok.1 dX9_setBreak_43 (fun H locs hP hD hS => ?_)
          have hok := hok.2
          have hP : va_P (dC, dI) vwCl (w_Model h cI cJ (upd σ.1 0 0, σ.2.1, va_up σ.2.2 31 (upd (σ.2.2 31) (σ.1 29).toNatClampNeg a1))) _ := hP
          have hD : va_D A (w_Model h cI cJ (upd σ.1 0 0, σ.2.1, va_up σ.2.2 31 (upd (σ.2.2 31) (σ.1 29).toNatClampNeg a1))) := hD
          refine lv_aload_n hx hb dX9_setBreak_44 rfl (lv_at hl 0 rfl) ?_
          refine lv_dup hx hb dX9_setBreak_45 rfl ?_
          refine va_get (D := (dC, dI)) (ci := 8) (v := .int (σ.1 29)) (C := RX9) (T := TX9) (N := 33) hx hb hts (fun w h => List.mem_cons_of_mem _ (in_X9 w h)) hown hK hP 0 rfl rfl 29 (by decide) (hts _ (List.mem_cons_of_mem _ tw_3_216)) (fun _ h9 => h9) rfl dX9_setBreak_46 ?_
          refine lv_iconst (v := 1) hx hb dX9_setBreak_49 (by decide) ?_
          refine lv_iadd hx hb dX9_setBreak_50 ?_
          refine va_put (D := (dC, dI)) (ci := 8) (v := .int ((σ.1 29) + (1 : Int32))) (ty := .int) (C := RX9) (T := TX9) (N := 33) hx hb hts (fun w h => List.mem_cons_of_mem _ (in_X9 w h)) tyX9 tyX9_ok nmX9 hown hK hP hD hS 0 rfl rfl 29 (by decide) (hts _ (List.mem_cons_of_mem _ tw_3_216)) (fun _ h9 => h9) rfl (by decide +kernel) rfl rfl (Nat.le_of_ble_eq_true rfl) dX9_setBreak_51 (fun H locs hP hD hS => ?_)
          have hP : va_P (dC, dI) vwCl (w_Model h cI cJ (upd (upd σ.1 0 0) 29 ((σ.1 29) + (1 : Int32)), σ.2.1, va_up σ.2.2 31 (upd (σ.2.2 31) (σ.1 29).toNatClampNeg a1))) _ := hP
          have hD : va_D A (w_Model h cI cJ (upd (upd σ.1 0 0) 29 ((σ.1 29) + (1 : Int32)), σ.2.1, va_up σ.2.2 31 (upd (σ.2.2 31) (σ.1 29).toNatClampNeg a1))) := hD
          refine lv_iconst (v := 1) hx hb dX9_setBreak_54 (by decide) ?_
          exact W.zret (v := 1) hx hb hr rfl (fun t ht hW => ⟨⟨1, (upd (upd σ.1 0 0) 29 ((σ.1 29) + (1 : Int32)), σ.2.1, va_up σ.2.2 31 (upd (σ.2.2 31) (σ.1 29).toNatClampNeg a1)), rfl, hok, by rw [ht]; exact hP, va_K.moved hW.alike hK, hD⟩, hS.F ht⟩) hS.2.2 dX9_setBreak_55
        · have hok := hok.2 c5
          refine lv_iconst (v := 0) hx hb dX9_setBreak_32 (by decide) ?_
          exact W.zret (v := 0) hx hb hr rfl (fun t ht hW => ⟨⟨0, (upd σ.1 0 0, σ.2.1, σ.2.2), rfl, hok, by rw [ht]; exact hP, va_K.moved hW.alike hK, hD⟩, hS.F ht⟩) hS.2.2 dX9_setBreak_33
def wp_X9_clearBreak (σ : S_Model) (a1 : Int32) (Φ : Int32 → S_Model → Prop) : Prop := wp_X9_find (upd σ.1 0 0, σ.2.1, σ.2.2) a1 (fun r1 => ((0 ≤ r1 → ((vp_in ((σ.1 29) - (1 : Int32)) 16 ∧ (∀ v3 : Int32, v3 = (σ.2.2 31) ((σ.1 29) - (1 : Int32)).toNatClampNeg → (vp_in r1 16 ∧ (Φ 1 (upd (upd σ.1 0 0) 29 ((σ.1 29) - (1 : Int32)), σ.2.1, va_up σ.2.2 31 (upd (σ.2.2 31) r1.toNatClampNeg v3)))))))) ∧ (¬ 0 ≤ r1 → (Φ 0 (upd σ.1 0 0, σ.2.1, σ.2.2)))))
set_option maxHeartbeats 4000000 in
set_option maxRecDepth 100000 in
theorem c_X9_clearBreak (l : Launch) (dC : Nat → ClassId) (dI : Nat → Nat → Nat) (cI cJ : ClassId) (h : Nat → Nat) (sz : Nat) {σ : S_Model} {a1 : Int32} {Φ : Int32 → S_Model → Prop} (hok : wp_X9_clearBreak σ a1 Φ) : Met l yX9_clearBreak wsX9_clearBreak ({ frames := 1, cells := 0, slots := 0, locals := 22 }) (va_Pc [.ref (h 13), .int a1] (cpre dC dI cI cJ (w_Model h cI cJ σ) sz)) (va_Qi Φ (fun u => cpost dC dI cI cJ (va_A (w_Model h cI cJ σ) sz) (w_Model h cI cJ u)) (va_A (w_Model h cI cJ σ) sz)) 0 0 (va_A (w_Model h cI cJ σ) sz) := by
  refine Met.ofW (cc := cX9_clearBreak) (maxL := 3) (ret := (some .boolean)) (by decide) rfl ?_
  intro p e s m args below meth c s₁ B hml hv
  obtain ⟨rfl, hsz, hP, hK, hD0⟩ := hv
  have hx := B.exec
  have hb := B.bytes
  have hr := B.returns
  have hts := atoms_spec (ws := wsX9_clearBreak) B.pre
  have hown : s.vm.findClass RX9 = some m.cls := findClass_of_methodNamed B.named
  have hlocks := B.notSynchronized
  subst hsz
  have hD := hD0.self (sz := s.heap.size)
  generalize hAe : va_A (w_Model h cI cJ σ) s.heap.size = A at hD ⊢
  have hA : ∀ q : Nat, s.heap.size ≤ q → A q := fun q h => by rw [← hAe]; exact Or.inr h
  clear hD0 hAe
  have hS : va_S A s.heap s.heap [] := va_S.rf
  have hl := lv_entry ([.ref (h 13), .int a1]) (n := 3) (Nat.le_of_ble_eq_true rfl)
  rw [lg_entry_eq]
  generalize (lg_sl ([.ref (h 13), .int a1]) ++ List.replicate (3 - (lg_sl ([.ref (h 13), .int a1])).length) Slot.unset).toArray = ls at hl ⊢
  have hl : lv_has ls 3 [(0, .ref (h 13)), (1, .int a1)] := hl
  unfold wp_X9_clearBreak at hok
  refine lv_aload_n hx hb dX9_clearBreak_0 rfl (lv_at hl 0 rfl) ?_
  refine lv_iconst (v := 0) hx hb dX9_clearBreak_1 (by decide) ?_
  refine va_put (D := (dC, dI)) (ci := 8) (v := .int 0) (ty := .int) (C := RX9) (T := TX9) (N := 33) hx hb hts (fun w h => List.mem_cons_of_mem _ (in_X9 w h)) tyX9 tyX9_ok nmX9 hown hK hP hD hS 0 rfl rfl 0 (by decide) (hts _ (List.mem_cons_of_mem _ tw_3_187)) (fun _ h9 => h9) rfl (by decide +kernel) rfl rfl (Nat.le_of_ble_eq_true rfl) dX9_clearBreak_2 (fun H locs hP hD hS => ?_)
  have hP : va_P (dC, dI) vwCl (w_Model h cI cJ (upd σ.1 0 0, σ.2.1, σ.2.2)) _ := hP
  have hD : va_D A (w_Model h cI cJ (upd σ.1 0 0, σ.2.1, σ.2.2)) := hD
  refine lv_aload_n hx hb dX9_clearBreak_5 rfl (lv_at hl 0 rfl) ?_
  refine lv_iload_n hx hb dX9_clearBreak_6 rfl (lv_at hl 1 rfl) ?_
  have hPc := hP
  have hDc := hD
  have hFc := va_free (wc := w_Model h cI cJ (upd σ.1 0 0, σ.2.1, σ.2.2)) hD hS hA [0, 1, 2, 3, 4, 5, 6] rfl
  refine va_calli (va_runV (As := [.int a1]) (rest := []) ⟨hx, hb, hml, hown, hts⟩ (c_X9_find l dC dI cI cJ h _ hok) (cwV 1 hts (tb_gV tw_5_35 tw_5_37 tw_p_84 tw_1_9 tw_5_38) rfl rfl rfl (by decide +kernel) ⟨Nat.le_of_ble_eq_true rfl, Nat.le_of_ble_eq_true rfl⟩) (cpre_V (ci := 8) (q0 := 0) hK hPc hDc rfl rfl) rfl rfl hl.1 rfl (lv_room (Nat.le_of_ble_eq_true rfl)) dX9_clearBreak_7 ⟨Nat.le_of_ble_eq_true rfl, Nat.le_of_ble_eq_true rfl⟩) hS (fun q _ h => hFc q h) hFc (fun r1 _ t H1 locs ht hvm hok hB hz1 hk1 hS => ?_)
  obtain ⟨hP, hD⟩ := cjoin_w ht hB hFc
  refine lv_istore_n (lv' := [(2, .int r1), (0, .ref (h 13)), (1, .int a1)]) hx hb dX9_clearBreak_10 rfl hl (by decide) rfl (fun ls hl => ?_)
  refine lv_iload_n hx hb dX9_clearBreak_11 rfl (lv_at hl 0 rfl) ?_
  refine lv_if_ge (tgt := 17) hx hb dX9_clearBreak_12 (by decide) (fun c2 => ?_) (fun c2 => ?_)
  · have hok := hok.1 c2
    refine lv_aload_n hx hb dX9_clearBreak_17 rfl (lv_at hl 1 rfl) ?_
    refine lv_dup hx hb dX9_clearBreak_18 rfl ?_
    refine va_get (D := (dC, dI)) (ci := 8) (v := .int (σ.1 29)) (C := RX9) (T := TX9) (N := 33) hx hb hts (fun w h => List.mem_cons_of_mem _ (in_X9 w h)) hown hK hP 0 rfl rfl 29 (by decide) (hts _ (List.mem_cons_of_mem _ tw_3_216)) (fun _ h9 => h9) rfl dX9_clearBreak_19 ?_
    refine lv_iconst (v := 1) hx hb dX9_clearBreak_22 (by decide) ?_
    refine lv_isub hx hb dX9_clearBreak_23 ?_
    refine va_put (D := (dC, dI)) (ci := 8) (v := .int ((σ.1 29) - (1 : Int32))) (ty := .int) (C := RX9) (T := TX9) (N := 33) hx hb hts (fun w h => List.mem_cons_of_mem _ (in_X9 w h)) tyX9 tyX9_ok nmX9 hown hK hP hD hS 0 rfl rfl 29 (by decide) (hts _ (List.mem_cons_of_mem _ tw_3_216)) (fun _ h9 => h9) rfl (by decide +kernel) rfl rfl (Nat.le_of_ble_eq_true rfl) dX9_clearBreak_24 (fun H locs hP hD hS => ?_)
    have hP : va_P (dC, dI) vwCl (w_Model h cI cJ (upd (upd σ.1 0 0) 29 ((σ.1 29) - (1 : Int32)), σ.2.1, σ.2.2)) _ := hP
    have hD : va_D A (w_Model h cI cJ (upd (upd σ.1 0 0) 29 ((σ.1 29) - (1 : Int32)), σ.2.1, σ.2.2)) := hD
    refine lv_aload_n hx hb dX9_clearBreak_27 rfl (lv_at hl 1 rfl) ?_
    refine va_get (D := (dC, dI)) (ci := 8) (v := .ref (h 18)) (C := RX9) (T := TX9) (N := 33) hx hb hts (fun w h => List.mem_cons_of_mem _ (in_X9 w h)) hown hK hP 0 rfl rfl 31 (by decide) (hts _ (List.mem_cons_of_mem _ tw_3_218)) (fun _ h9 => h9) rfl dX9_clearBreak_28 ?_
    refine lv_iload_n hx hb dX9_clearBreak_31 rfl (lv_at hl 0 rfl) ?_
    refine lv_aload_n hx hb dX9_clearBreak_32 rfl (lv_at hl 1 rfl) ?_
    refine va_get (D := (dC, dI)) (ci := 8) (v := .ref (h 18)) (C := RX9) (T := TX9) (N := 33) hx hb hts (fun w h => List.mem_cons_of_mem _ (in_X9 w h)) hown hK hP 0 rfl rfl 31 (by decide) (hts _ (List.mem_cons_of_mem _ tw_3_218)) (fun _ h9 => h9) rfl dX9_clearBreak_33 ?_
    refine lv_aload_n hx hb dX9_clearBreak_36 rfl (lv_at hl 1 rfl) ?_
    refine va_get (D := (dC, dI)) (ci := 8) (v := .int ((σ.1 29) - (1 : Int32))) (C := RX9) (T := TX9) (N := 33) hx hb hts (fun w h => List.mem_cons_of_mem _ (in_X9 w h)) hown hK hP 0 rfl rfl 29 (by decide) (hts _ (List.mem_cons_of_mem _ tw_3_216)) (fun _ h9 => h9) rfl dX9_clearBreak_37 ?_
    refine va_iald hx hb hK hP 5 0 rfl rfl hok.1 dX9_clearBreak_40 ?_
    have hok := hok.2
    refine lv_topi (fun v3 ev3 => ?_)
    have hok := hok v3 ev3
    refine va_iast hx hb hK hP hD hS 5 0 rfl rfl hok.1 dX9_clearBreak_41 (fun H locs hP hD hS => ?_)
    have hok := hok.2
    have hP : va_P (dC, dI) vwCl (w_Model h cI cJ (upd (upd σ.1 0 0) 29 ((σ.1 29) - (1 : Int32)), σ.2.1, va_up σ.2.2 31 (upd (σ.2.2 31) r1.toNatClampNeg v3))) _ := hP
    have hD : va_D A (w_Model h cI cJ (upd (upd σ.1 0 0) 29 ((σ.1 29) - (1 : Int32)), σ.2.1, va_up σ.2.2 31 (upd (σ.2.2 31) r1.toNatClampNeg v3))) := hD
    refine lv_iconst (v := 1) hx hb dX9_clearBreak_42 (by decide) ?_
    exact W.zret (v := 1) hx hb hr rfl (fun t ht hW => ⟨⟨1, (upd (upd σ.1 0 0) 29 ((σ.1 29) - (1 : Int32)), σ.2.1, va_up σ.2.2 31 (upd (σ.2.2 31) r1.toNatClampNeg v3)), rfl, hok, by rw [ht]; exact hP, va_K.moved hW.alike hK, hD⟩, hS.F ht⟩) hS.2.2 dX9_clearBreak_43
  · have hok := hok.2 c2
    refine lv_iconst (v := 0) hx hb dX9_clearBreak_15 (by decide) ?_
    exact W.zret (v := 0) hx hb hr rfl (fun t ht hW => ⟨⟨0, (upd σ.1 0 0, σ.2.1, σ.2.2), rfl, hok, by rw [ht]; exact hP, va_K.moved hW.alike hK, hD⟩, hS.F ht⟩) hS.2.2 dX9_clearBreak_16
def wp_X9_trace_23 (σ : S_Model) (x1 : Int32) (s0 : Int32) (Φ : Int32 → S_Model → Prop) : Prop := ((x1 < 0 → (Φ (-1) σ)) ∧ (¬ x1 < 0 → (((s0 ≤ x1 → (Φ (-1) σ)) ∧ (¬ s0 ≤ x1 → (∀ v3 : Int32, v3 = (((σ.1 30) - s0) + x1) - (((σ.1 30) - s0) + x1) / (32 : Int32) * (32 : Int32) → (vp_in v3 32 ∧ (Φ ((σ.2.2 32) v3.toNatClampNeg) σ))))))))
def wp_X9_trace (σ : S_Model) (a1 : Int32) (Φ : Int32 → S_Model → Prop) : Prop := (((32 : Int32) ≤ (σ.1 30) → (wp_X9_trace_23 (upd σ.1 0 0, σ.2.1, σ.2.2) a1 32 Φ)) ∧ (¬ (32 : Int32) ≤ (σ.1 30) → (wp_X9_trace_23 (upd σ.1 0 0, σ.2.1, σ.2.2) a1 (σ.1 30) Φ)))
set_option maxHeartbeats 4000000 in
set_option maxRecDepth 100000 in
theorem c_X9_trace (l : Launch) (dC : Nat → ClassId) (dI : Nat → Nat → Nat) (cI cJ : ClassId) (h : Nat → Nat) (sz : Nat) {σ : S_Model} {a1 : Int32} {Φ : Int32 → S_Model → Prop} (hok : wp_X9_trace σ a1 Φ) : Met l yX9_trace wsX9_trace ({ frames := 0, cells := 0, slots := 0, locals := 0 }) (va_Pc [.ref (h 13), .int a1] (cpre dC dI cI cJ (w_Model h cI cJ σ) sz)) (va_Qi Φ (fun u => cpost dC dI cI cJ (va_A (w_Model h cI cJ σ) sz) (w_Model h cI cJ u)) (va_A (w_Model h cI cJ σ) sz)) 0 0 (va_A (w_Model h cI cJ σ) sz) := by
  refine Met.ofW (cc := cX9_trace) (maxL := 3) (ret := (some .int)) (by decide) rfl ?_
  intro p e s m args below meth c s₁ B hml hv
  obtain ⟨rfl, hsz, hP, hK, hD0⟩ := hv
  have hx := B.exec
  have hb := B.bytes
  have hr := B.returns
  have hts := atoms_spec (ws := wsX9_trace) B.pre
  have hown : s.vm.findClass RX9 = some m.cls := findClass_of_methodNamed B.named
  have hlocks := B.notSynchronized
  subst hsz
  have hD := hD0.self (sz := s.heap.size)
  generalize hAe : va_A (w_Model h cI cJ σ) s.heap.size = A at hD ⊢
  have hA : ∀ q : Nat, s.heap.size ≤ q → A q := fun q h => by rw [← hAe]; exact Or.inr h
  clear hD0 hAe
  have hS : va_S A s.heap s.heap [] := va_S.rf
  have b23 : ∀ (σ : S_Model) (x1 : Int32) (s0 : Int32), wp_X9_trace_23 σ x1 s0 Φ → ∀ (H : Heap) (locs : List Loc), va_P (dC, dI) vwCl (w_Model h cI cJ σ) H → va_D A (w_Model h cI cJ σ) → va_S A s.heap H locs → ∀ ls : Array Slot, lv_has ls 3 [(0, .ref (h 13)), (1, .int x1)] → W p l e (headSpec wsX9_trace { frames := 0, cells := 0, slots := 0, locals := 0 }).room s m ([.ref (h 13), .int a1] : List Value).toArray below meth c H locs 0 0 (MQ below (va_Qi Φ (fun u => cpost dC dI cI cJ A (w_Model h cI cJ u)) A) ([.ref (h 13), .int a1] : List Value).toArray s 0 0 A) (F0 m 23 ls [.int s0]) := by
    intro σ x1 s0 hok H locs hP hD hS ls hl
    unfold wp_X9_trace_23 at hok
    refine lv_istore_n (lv' := [(2, .int s0), (0, .ref (h 13)), (1, .int x1)]) hx hb dX9_trace_23 rfl hl (by decide) rfl (fun ls hl => ?_)
    refine lv_iload_n hx hb dX9_trace_24 rfl (lv_at hl 2 rfl) ?_
    refine lv_if_lt (tgt := 52) hx hb dX9_trace_25 (by decide) (fun c1 => ?_) (fun c1 => ?_)
    · have hok := hok.1 c1
      refine lv_iconst (v := (-1)) hx hb dX9_trace_52 (by decide) ?_
      exact W.iret (v := (-1)) hx hb hr (fun t ht hW => ⟨⟨(-1), σ, rfl, hok, by rw [ht]; exact hP, va_K.moved hW.alike hK, hD⟩, hS.F ht⟩) hS.2.2 dX9_trace_53
    · have hok := hok.2 c1
      refine lv_iload_n hx hb dX9_trace_28 rfl (lv_at hl 2 rfl) ?_
      refine lv_iload_n hx hb dX9_trace_29 rfl (lv_at hl 0 rfl) ?_
      refine lv_icmp_ge (tgt := 52) hx hb dX9_trace_30 (by decide) (fun c2 => ?_) (fun c2 => ?_)
      · have hok := hok.1 c2
        refine lv_iconst (v := (-1)) hx hb dX9_trace_52 (by decide) ?_
        exact W.iret (v := (-1)) hx hb hr (fun t ht hW => ⟨⟨(-1), σ, rfl, hok, by rw [ht]; exact hP, va_K.moved hW.alike hK, hD⟩, hS.F ht⟩) hS.2.2 dX9_trace_53
      · have hok := hok.2 c2
        refine lv_aload_n hx hb dX9_trace_33 rfl (lv_at hl 1 rfl) ?_
        refine va_get (D := (dC, dI)) (ci := 8) (v := .ref (h 19)) (C := RX9) (T := TX9) (N := 33) hx hb hts (fun w h => List.mem_cons_of_mem _ (in_X9 w h)) hown hK hP 0 rfl rfl 32 (by decide) (hts _ (List.mem_cons_of_mem _ tw_3_219)) (fun _ h9 => h9) rfl dX9_trace_34 ?_
        refine lv_aload_n hx hb dX9_trace_37 rfl (lv_at hl 1 rfl) ?_
        refine va_get (D := (dC, dI)) (ci := 8) (v := .int (σ.1 30)) (C := RX9) (T := TX9) (N := 33) hx hb hts (fun w h => List.mem_cons_of_mem _ (in_X9 w h)) hown hK hP 0 rfl rfl 30 (by decide) (hts _ (List.mem_cons_of_mem _ tw_3_217)) (fun _ h9 => h9) rfl dX9_trace_38 ?_
        refine lv_iload_n hx hb dX9_trace_41 rfl (lv_at hl 0 rfl) ?_
        refine lv_isub hx hb dX9_trace_42 ?_
        refine lv_iload_n hx hb dX9_trace_43 rfl (lv_at hl 2 rfl) ?_
        refine lv_iadd hx hb dX9_trace_44 ?_
        refine lv_bipush (v := 32) hx hb dX9_trace_45 (by decide) ?_
        refine lv_irem hx hb dX9_trace_47 (by decide) ?_
        refine lv_topi (fun v3 ev3 => ?_)
        have hok := hok v3 ev3
        refine va_iald hx hb hK hP 6 0 rfl rfl hok.1 dX9_trace_48 ?_
        have hok := hok.2
        refine lv_goto (tgt := 53) hx hb dX9_trace_49 (by decide) ?_
        exact W.iret (v := (σ.2.2 32) v3.toNatClampNeg) hx hb hr (fun t ht hW => ⟨⟨(σ.2.2 32) v3.toNatClampNeg, σ, rfl, hok, by rw [ht]; exact hP, va_K.moved hW.alike hK, hD⟩, hS.F ht⟩) hS.2.2 dX9_trace_53
  have hl := lv_entry ([.ref (h 13), .int a1]) (n := 3) (Nat.le_of_ble_eq_true rfl)
  rw [lg_entry_eq]
  generalize (lg_sl ([.ref (h 13), .int a1]) ++ List.replicate (3 - (lg_sl ([.ref (h 13), .int a1])).length) Slot.unset).toArray = ls at hl ⊢
  have hl : lv_has ls 3 [(0, .ref (h 13)), (1, .int a1)] := hl
  unfold wp_X9_trace at hok
  refine lv_aload_n hx hb dX9_trace_0 rfl (lv_at hl 0 rfl) ?_
  refine lv_iconst (v := 0) hx hb dX9_trace_1 (by decide) ?_
  refine va_put (D := (dC, dI)) (ci := 8) (v := .int 0) (ty := .int) (C := RX9) (T := TX9) (N := 33) hx hb hts (fun w h => List.mem_cons_of_mem _ (in_X9 w h)) tyX9 tyX9_ok nmX9 hown hK hP hD hS 0 rfl rfl 0 (by decide) (hts _ (List.mem_cons_of_mem _ tw_3_187)) (fun _ h9 => h9) rfl (by decide +kernel) rfl rfl (Nat.le_of_ble_eq_true rfl) dX9_trace_2 (fun H locs hP hD hS => ?_)
  have hP : va_P (dC, dI) vwCl (w_Model h cI cJ (upd σ.1 0 0, σ.2.1, σ.2.2)) _ := hP
  have hD : va_D A (w_Model h cI cJ (upd σ.1 0 0, σ.2.1, σ.2.2)) := hD
  refine lv_aload_n hx hb dX9_trace_5 rfl (lv_at hl 0 rfl) ?_
  refine va_get (D := (dC, dI)) (ci := 8) (v := .int (σ.1 30)) (C := RX9) (T := TX9) (N := 33) hx hb hts (fun w h => List.mem_cons_of_mem _ (in_X9 w h)) hown hK hP 0 rfl rfl 30 (by decide) (hts _ (List.mem_cons_of_mem _ tw_3_217)) (fun _ h9 => h9) rfl dX9_trace_6 ?_
  refine lv_bipush (v := 32) hx hb dX9_trace_9 (by decide) ?_
  refine lv_icmp_ge (tgt := 21) hx hb dX9_trace_11 (by decide) (fun c4 => ?_) (fun c4 => ?_)
  · have hok := hok.1 c4
    refine lv_bipush (v := 32) hx hb dX9_trace_21 (by decide) ?_
    exact b23 (upd σ.1 0 0, σ.2.1, σ.2.2) a1 32 hok _ _ hP hD hS _ (lv_sub hl [0, 1] rfl)
  · have hok := hok.2 c4
    refine lv_aload_n hx hb dX9_trace_14 rfl (lv_at hl 0 rfl) ?_
    refine va_get (D := (dC, dI)) (ci := 8) (v := .int (σ.1 30)) (C := RX9) (T := TX9) (N := 33) hx hb hts (fun w h => List.mem_cons_of_mem _ (in_X9 w h)) hown hK hP 0 rfl rfl 30 (by decide) (hts _ (List.mem_cons_of_mem _ tw_3_217)) (fun _ h9 => h9) rfl dX9_trace_15 ?_
    refine lv_goto (tgt := 23) hx hb dX9_trace_18 (by decide) ?_
    exact b23 (upd σ.1 0 0, σ.2.1, σ.2.2) a1 (σ.1 30) hok _ _ hP hD hS _ (lv_sub hl [0, 1] rfl)
