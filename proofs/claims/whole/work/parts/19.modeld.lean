def wp_X9_zeroed (σ : S_Model) (a1 : Int32) (Φ : Int32 → S_Model → Prop) : Prop := wp_X9_address σ a1 (fun r1 u2 => wp_X9_write u2 r1 0 (fun u3 => ((a1 = (5 : Int32) → (Φ 5 u3)) ∧ (¬ a1 = (5 : Int32) → (wp_X9_time a1 (fun r5 => Φ r5 u3))))))
set_option maxHeartbeats 4000000 in
set_option maxRecDepth 100000 in
theorem c_X9_zeroed (l : Launch) (dC : Nat → ClassId) (dI : Nat → Nat → Nat) (cI cJ : ClassId) (h : Nat → Nat) (sz : Nat) {σ : S_Model} {a1 : Int32} {Φ : Int32 → S_Model → Prop} (hok : wp_X9_zeroed σ a1 Φ) : Met l yX9_zeroed wsX9_zeroed ({ frames := 5, cells := 0, slots := 0, locals := 108 }) (va_Pc [.ref (h 13), .int a1] (cpre dC dI cI cJ (w_Model h cI cJ σ) sz)) (va_Qi Φ (fun u => cpost dC dI cI cJ (va_A (w_Model h cI cJ σ) sz) (w_Model h cI cJ u)) (va_A (w_Model h cI cJ σ) sz)) 0 0 (va_A (w_Model h cI cJ σ) sz) := by
  refine Met.ofW (cc := cX9_zeroed) (maxL := 2) (ret := (some .int)) (by decide) rfl ?_
  intro p e s m args below meth c s₁ B hml hv
  obtain ⟨rfl, hsz, hP, hK, hD0⟩ := hv
  have hx := B.exec
  have hb := B.bytes
  have hr := B.returns
  have hts := atoms_spec (ws := wsX9_zeroed) B.pre
  have hown : s.vm.findClass RX9 = some m.cls := findClass_of_methodNamed B.named
  have hlocks := B.notSynchronized
  subst hsz
  have hD := hD0.self (sz := s.heap.size)
  generalize hAe : va_A (w_Model h cI cJ σ) s.heap.size = A at hD ⊢
  have hA : ∀ q : Nat, s.heap.size ≤ q → A q := fun q h => by rw [← hAe]; exact Or.inr h
  clear hD0 hAe
  have hS : va_S A s.heap s.heap [] := va_S.rf
  have hl := lv_entry ([.ref (h 13), .int a1]) (n := 2) (Nat.le_of_ble_eq_true rfl)
  rw [lg_entry_eq]
  generalize (lg_sl ([.ref (h 13), .int a1]) ++ List.replicate (2 - (lg_sl ([.ref (h 13), .int a1])).length) Slot.unset).toArray = ls at hl ⊢
  have hl : lv_has ls 2 [(0, .ref (h 13)), (1, .int a1)] := hl
  unfold wp_X9_zeroed at hok
  refine lv_aload_n hx hb dX9_zeroed_0 rfl (lv_at hl 0 rfl) ?_
  refine lv_aload_n hx hb dX9_zeroed_1 rfl (lv_at hl 0 rfl) ?_
  refine lv_iload_n hx hb dX9_zeroed_2 rfl (lv_at hl 1 rfl) ?_
  have hPc := hP
  have hDc := hD
  have hFc := va_free (wc := w_Model h cI cJ σ) hD hS hA [0, 1, 2, 3, 4, 5, 6] rfl
  refine va_calli (va_runV (As := [.int a1]) (rest := [.ref (h 13)]) ⟨hx, hb, hml, hown, hts⟩ (c_X9_address l dC dI cI cJ h _ hok) (cwV 1 hts (tb_gV tw_4_148 tw_4_150 tw_p_56 tw_1_9 tw_4_151) rfl rfl rfl (by decide +kernel) ⟨Nat.le_of_ble_eq_true rfl, Nat.le_of_ble_eq_true rfl⟩) (cpre_V (ci := 8) (q0 := 0) hK hPc hDc rfl rfl) rfl rfl hl.1 rfl (lv_room (Nat.le_of_ble_eq_true rfl)) dX9_zeroed_3 ⟨Nat.le_of_ble_eq_true rfl, Nat.le_of_ble_eq_true rfl⟩) hS (fun q _ h => hFc q h) hFc (fun r1 u2 t H1 locs ht hvm hok hB hz1 hk1 hS => ?_)
  obtain ⟨hP, hD⟩ := cjoin_w ht hB hFc
  refine lv_iconst (v := 0) hx hb dX9_zeroed_6 (by decide) ?_
  have hPc := hP
  have hDc := hD
  have hFc := va_free (wc := w_Model h cI cJ u2) hD hS hA [0, 1, 2, 3, 4, 5, 6] rfl
  refine va_callv (va_runV (As := [.int r1, .int 0]) (rest := []) ⟨hx, hb, hml, hown, hts⟩ (c_X9_write l dC dI cI cJ h _ hok) (cwV 2 hts (tb_gV tw_4_72 tw_4_74 tw_p_40 tw_1_9 tw_4_75) rfl rfl rfl (by decide +kernel) ⟨Nat.le_of_ble_eq_true rfl, Nat.le_of_ble_eq_true rfl⟩) (cpre_V (ci := 8) (q0 := 0) hK hPc hDc rfl rfl) rfl rfl hl.1 rfl (lv_room (Nat.le_of_ble_eq_true rfl)) dX9_zeroed_7 ⟨Nat.le_of_ble_eq_true rfl, Nat.le_of_ble_eq_true rfl⟩) hS (fun q _ h => hFc q h) hFc (fun u3 t H1 locs ht hvm hok hB hz1 hk1 hS => ?_)
  obtain ⟨hP, hD⟩ := cjoin_w ht hB hFc
  refine lv_iload_n hx hb dX9_zeroed_10 rfl (lv_at hl 1 rfl) ?_
  refine lv_iconst (v := 5) hx hb dX9_zeroed_11 (by decide) ?_
  refine lv_icmp_ne (tgt := 19) hx hb dX9_zeroed_12 (by decide) (fun c4 => ?_) (fun c4 => ?_)
  · have hok := hok.2 c4
    refine lv_iload_n hx hb dX9_zeroed_19 rfl (lv_at hl 1 rfl) ?_
    have hPc := hP.sub (ws' := []) [] rfl
    have hDc := hD.sub (ws' := []) [] (by decide) rfl
    have hFc := va_free (wc := []) hD hS hA [] rfl
    refine va_calli (va_runS (As := [.int a1]) (rest := []) ⟨hx, hb, hml, hown, hts⟩ (c_X9_time l dC dI cI cJ h _ hok) (va_cwS 1 hts (tb_gS tw_4_164 tw_4_165 tw_1_9 tw_4_166) rfl rfl rfl (by decide +kernel) ⟨Nat.le_of_ble_eq_true rfl, Nat.le_of_ble_eq_true rfl⟩) (cpre_S hK hPc hDc) rfl rfl hl.1 rfl (lv_room (Nat.le_of_ble_eq_true rfl)) dX9_zeroed_20 ⟨Nat.le_of_ble_eq_true rfl, Nat.le_of_ble_eq_true rfl⟩) hS (fun q _ h => hFc q h) hFc (fun r5 _ t H1 locs ht hvm hok hB hz1 hk1 hS => ?_)
    obtain ⟨hP, hD⟩ := cjoin ht hP hD [] [0, 1, 2, 3, 4, 5, 6] rfl rfl (by decide) (by decide) hk1 hFc hB
    have hP := hP.sub (ws' := w_Model h cI cJ u3) [0, 1, 2, 3, 4, 5, 6] rfl
    have hD := hD.sub (ws' := w_Model h cI cJ u3) [0, 1, 2, 3, 4, 5, 6] (by decide) rfl
    exact W.iret (v := r5) hx hb hr (fun t ht hW => ⟨⟨r5, u3, rfl, hok, by rw [ht]; exact hP, va_K.moved hW.alike hK, hD⟩, hS.F ht⟩) hS.2.2 dX9_zeroed_23
  · have hok := hok.1 c4
    refine lv_iconst (v := 5) hx hb dX9_zeroed_15 (by decide) ?_
    refine lv_goto (tgt := 23) hx hb dX9_zeroed_16 (by decide) ?_
    exact W.iret (v := 5) hx hb hr (fun t ht hW => ⟨⟨5, u3, rfl, hok, by rw [ht]; exact hP, va_K.moved hW.alike hK, hD⟩, hS.F ht⟩) hS.2.2 dX9_zeroed_23
def wp_X9_bits_72 (σ : S_Model) (x1 : Int32) (Φ : Int32 → S_Model → Prop) : Prop := wp_X9_time x1 (fun r1 => (((σ.1 11) = 0 → (Φ (r1 + (0 : Int32)) σ)) ∧ (¬ (σ.1 11) = 0 → (Φ (r1 + (1 : Int32)) σ))))
def wp_X9_bits_69 (σ : S_Model) (x1 : Int32) (s1 : Int32) (s2 : Int32) (Φ : Int32 → S_Model → Prop) : Prop := wp_X9_flag σ s1 s2 (fun u3 => wp_X9_bits_72 u3 x1 Φ)
def wp_X9_bits_51 (σ : S_Model) (x1 : Int32) (x2 : Int32) (s1 : Int32) (s2 : Int32) (Φ : Int32 → S_Model → Prop) : Prop := wp_X9_flag σ s1 s2 (fun u4 => (((x2 &&& (64 : Int32)) = 0 → (wp_X9_bits_69 u4 x1 64 0 Φ)) ∧ (¬ (x2 &&& (64 : Int32)) = 0 → (wp_X9_bits_69 u4 x1 64 1 Φ))))
def wp_X9_bits_29 (σ : S_Model) (x1 : Int32) (x2 : Int32) (s1 : Int32) (s2 : Int32) (Φ : Int32 → S_Model → Prop) : Prop := wp_X9_flag σ s1 s2 (fun u6 => ((x1 = 0 → (wp_X9_bits_72 u6 x1 Φ)) ∧ (¬ x1 = 0 → (((x2 ≤ (127 : Int32) → (wp_X9_bits_51 u6 x1 x2 128 0 Φ)) ∧ (¬ x2 ≤ (127 : Int32) → (wp_X9_bits_51 u6 x1 x2 128 1 Φ)))))))
def wp_X9_bits (σ : S_Model) (a1 : Int32) (Φ : Int32 → S_Model → Prop) : Prop := wp_X9_taken (upd σ.1 11 0, σ.2.1, σ.2.2) a1 (fun r9 u10 => (vp_in 0 4 ∧ (∀ v11 : Int32, v11 = ((u10.2.2 2) (0 : Int32).toNatClampNeg) &&& r9 → ((v11 = 0 → (wp_X9_bits_29 u10 a1 r9 2 1 Φ)) ∧ (¬ v11 = 0 → (wp_X9_bits_29 u10 a1 r9 2 0 Φ))))))
set_option maxHeartbeats 4000000 in
set_option maxRecDepth 100000 in
theorem c_X9_bits (l : Launch) (dC : Nat → ClassId) (dI : Nat → Nat → Nat) (cI cJ : ClassId) (h : Nat → Nat) (sz : Nat) {σ : S_Model} {a1 : Int32} {Φ : Int32 → S_Model → Prop} (hok : wp_X9_bits σ a1 Φ) : Met l yX9_bits wsX9_bits ({ frames := 6, cells := 0, slots := 0, locals := 129 }) (va_Pc [.ref (h 13), .int a1] (cpre dC dI cI cJ (w_Model h cI cJ σ) sz)) (va_Qi Φ (fun u => cpost dC dI cI cJ (va_A (w_Model h cI cJ σ) sz) (w_Model h cI cJ u)) (va_A (w_Model h cI cJ σ) sz)) 0 0 (va_A (w_Model h cI cJ σ) sz) := by
  refine Met.ofW (cc := cX9_bits) (maxL := 3) (ret := (some .int)) (by decide) rfl ?_
  intro p e s m args below meth c s₁ B hml hv
  obtain ⟨rfl, hsz, hP, hK, hD0⟩ := hv
  have hx := B.exec
  have hb := B.bytes
  have hr := B.returns
  have hts := atoms_spec (ws := wsX9_bits) B.pre
  have hown : s.vm.findClass RX9 = some m.cls := findClass_of_methodNamed B.named
  have hlocks := B.notSynchronized
  subst hsz
  have hD := hD0.self (sz := s.heap.size)
  generalize hAe : va_A (w_Model h cI cJ σ) s.heap.size = A at hD ⊢
  have hA : ∀ q : Nat, s.heap.size ≤ q → A q := fun q h => by rw [← hAe]; exact Or.inr h
  clear hD0 hAe
  have hS : va_S A s.heap s.heap [] := va_S.rf
  have b72 : ∀ (σ : S_Model) (x1 : Int32), wp_X9_bits_72 σ x1 Φ → ∀ (H : Heap) (locs : List Loc), va_P (dC, dI) vwCl (w_Model h cI cJ σ) H → va_D A (w_Model h cI cJ σ) → va_S A s.heap H locs → ∀ ls : Array Slot, lv_has ls 3 [(0, .ref (h 13)), (1, .int x1)] → W p l e (headSpec wsX9_bits { frames := 6, cells := 0, slots := 0, locals := 129 }).room s m ([.ref (h 13), .int a1] : List Value).toArray below meth c H locs 0 0 (MQ below (va_Qi Φ (fun u => cpost dC dI cI cJ A (w_Model h cI cJ u)) A) ([.ref (h 13), .int a1] : List Value).toArray s 0 0 A) (F0 m 72 ls []) := by
    intro σ x1 hok H locs hP hD hS ls hl
    unfold wp_X9_bits_72 at hok
    refine lv_iload_n hx hb dX9_bits_72 rfl (lv_at hl 1 rfl) ?_
    have hPc := hP.sub (ws' := []) [] rfl
    have hDc := hD.sub (ws' := []) [] (by decide) rfl
    have hFc := va_free (wc := []) hD hS hA [] rfl
    refine va_calli (va_runS (As := [.int x1]) (rest := []) ⟨hx, hb, hml, hown, hts⟩ (c_X9_time l dC dI cI cJ h _ hok) (va_cwS 1 hts (tb_gS tw_4_164 tw_4_165 tw_1_9 tw_4_166) rfl rfl rfl (by decide +kernel) ⟨Nat.le_of_ble_eq_true rfl, Nat.le_of_ble_eq_true rfl⟩) (cpre_S hK hPc hDc) rfl rfl hl.1 rfl (lv_room (Nat.le_of_ble_eq_true rfl)) dX9_bits_73 ⟨Nat.le_of_ble_eq_true rfl, Nat.le_of_ble_eq_true rfl⟩) hS (fun q _ h => hFc q h) hFc (fun r1 _ t H1 locs ht hvm hok hB hz1 hk1 hS => ?_)
    obtain ⟨hP, hD⟩ := cjoin ht hP hD [] [0, 1, 2, 3, 4, 5, 6] rfl rfl (by decide) (by decide) hk1 hFc hB
    have hP := hP.sub (ws' := w_Model h cI cJ σ) [0, 1, 2, 3, 4, 5, 6] rfl
    have hD := hD.sub (ws' := w_Model h cI cJ σ) [0, 1, 2, 3, 4, 5, 6] (by decide) rfl
    refine lv_aload_n hx hb dX9_bits_76 rfl (lv_at hl 0 rfl) ?_
    refine va_get (D := (dC, dI)) (ci := 8) (v := .int (σ.1 11)) (C := RX9) (T := TX9) (N := 33) hx hb hts (fun w h => List.mem_cons_of_mem _ (in_X9 w h)) hown hK hP 0 rfl rfl 11 (by decide) (hts _ (List.mem_cons_of_mem _ tw_3_198)) (fun _ h9 => h9) rfl dX9_bits_77 ?_
    refine lv_if_eq (tgt := 87) hx hb dX9_bits_80 (by decide) (fun c2 => ?_) (fun c2 => ?_)
    · have hok := hok.1 c2
      refine lv_iconst (v := 0) hx hb dX9_bits_87 (by decide) ?_
      refine lv_iadd hx hb dX9_bits_88 ?_
      exact W.iret (v := r1 + (0 : Int32)) hx hb hr (fun t ht hW => ⟨⟨r1 + (0 : Int32), σ, rfl, hok, by rw [ht]; exact hP, va_K.moved hW.alike hK, hD⟩, hS.F ht⟩) hS.2.2 dX9_bits_89
    · have hok := hok.2 c2
      refine lv_iconst (v := 1) hx hb dX9_bits_83 (by decide) ?_
      refine lv_goto (tgt := 88) hx hb dX9_bits_84 (by decide) ?_
      refine lv_iadd hx hb dX9_bits_88 ?_
      exact W.iret (v := r1 + (1 : Int32)) hx hb hr (fun t ht hW => ⟨⟨r1 + (1 : Int32), σ, rfl, hok, by rw [ht]; exact hP, va_K.moved hW.alike hK, hD⟩, hS.F ht⟩) hS.2.2 dX9_bits_89
  have b69 : ∀ (σ : S_Model) (x1 : Int32) (s1 : Int32) (s2 : Int32), wp_X9_bits_69 σ x1 s1 s2 Φ → ∀ (H : Heap) (locs : List Loc), va_P (dC, dI) vwCl (w_Model h cI cJ σ) H → va_D A (w_Model h cI cJ σ) → va_S A s.heap H locs → ∀ ls : Array Slot, lv_has ls 3 [(0, .ref (h 13)), (1, .int x1)] → W p l e (headSpec wsX9_bits { frames := 6, cells := 0, slots := 0, locals := 129 }).room s m ([.ref (h 13), .int a1] : List Value).toArray below meth c H locs 0 0 (MQ below (va_Qi Φ (fun u => cpost dC dI cI cJ A (w_Model h cI cJ u)) A) ([.ref (h 13), .int a1] : List Value).toArray s 0 0 A) (F0 m 69 ls [.int s2, .int s1, .ref (h 13)]) := by
    intro σ x1 s1 s2 hok H locs hP hD hS ls hl
    unfold wp_X9_bits_69 at hok
    have hPc := hP
    have hDc := hD
    have hFc := va_free (wc := w_Model h cI cJ σ) hD hS hA [0, 1, 2, 3, 4, 5, 6] rfl
    refine va_callv (va_runV (As := [.int s1, .int s2]) (rest := []) ⟨hx, hb, hml, hown, hts⟩ (c_X9_flag l dC dI cI cJ h _ hok) (cwV 2 hts (tb_gV tw_4_85 tw_4_87 tw_p_42 tw_1_9 tw_4_88) rfl rfl rfl (by decide +kernel) ⟨Nat.le_of_ble_eq_true rfl, Nat.le_of_ble_eq_true rfl⟩) (cpre_V (ci := 8) (q0 := 0) hK hPc hDc rfl rfl) rfl rfl hl.1 rfl (lv_room (Nat.le_of_ble_eq_true rfl)) dX9_bits_69 ⟨Nat.le_of_ble_eq_true rfl, Nat.le_of_ble_eq_true rfl⟩) hS (fun q _ h => hFc q h) hFc (fun u3 t H1 locs ht hvm hok hB hz1 hk1 hS => ?_)
    obtain ⟨hP, hD⟩ := cjoin_w ht hB hFc
    exact b72 u3 x1 hok _ _ hP hD hS _ (lv_sub hl [0, 1] rfl)
  have b51 : ∀ (σ : S_Model) (x1 : Int32) (x2 : Int32) (s1 : Int32) (s2 : Int32), wp_X9_bits_51 σ x1 x2 s1 s2 Φ → ∀ (H : Heap) (locs : List Loc), va_P (dC, dI) vwCl (w_Model h cI cJ σ) H → va_D A (w_Model h cI cJ σ) → va_S A s.heap H locs → ∀ ls : Array Slot, lv_has ls 3 [(0, .ref (h 13)), (1, .int x1), (2, .int x2)] → W p l e (headSpec wsX9_bits { frames := 6, cells := 0, slots := 0, locals := 129 }).room s m ([.ref (h 13), .int a1] : List Value).toArray below meth c H locs 0 0 (MQ below (va_Qi Φ (fun u => cpost dC dI cI cJ A (w_Model h cI cJ u)) A) ([.ref (h 13), .int a1] : List Value).toArray s 0 0 A) (F0 m 51 ls [.int s2, .int s1, .ref (h 13)]) := by
    intro σ x1 x2 s1 s2 hok H locs hP hD hS ls hl
    unfold wp_X9_bits_51 at hok
    have hPc := hP
    have hDc := hD
    have hFc := va_free (wc := w_Model h cI cJ σ) hD hS hA [0, 1, 2, 3, 4, 5, 6] rfl
    refine va_callv (va_runV (As := [.int s1, .int s2]) (rest := []) ⟨hx, hb, hml, hown, hts⟩ (c_X9_flag l dC dI cI cJ h _ hok) (cwV 2 hts (tb_gV tw_4_85 tw_4_87 tw_p_42 tw_1_9 tw_4_88) rfl rfl rfl (by decide +kernel) ⟨Nat.le_of_ble_eq_true rfl, Nat.le_of_ble_eq_true rfl⟩) (cpre_V (ci := 8) (q0 := 0) hK hPc hDc rfl rfl) rfl rfl hl.1 rfl (lv_room (Nat.le_of_ble_eq_true rfl)) dX9_bits_51 ⟨Nat.le_of_ble_eq_true rfl, Nat.le_of_ble_eq_true rfl⟩) hS (fun q _ h => hFc q h) hFc (fun u4 t H1 locs ht hvm hok hB hz1 hk1 hS => ?_)
    obtain ⟨hP, hD⟩ := cjoin_w ht hB hFc
    refine lv_aload_n hx hb dX9_bits_54 rfl (lv_at hl 0 rfl) ?_
    refine lv_bipush (v := 64) hx hb dX9_bits_55 (by decide) ?_
    refine lv_iload_n hx hb dX9_bits_57 rfl (lv_at hl 2 rfl) ?_
    refine lv_bipush (v := 64) hx hb dX9_bits_58 (by decide) ?_
    refine lv_iand hx hb dX9_bits_60 ?_
    refine lv_if_eq (tgt := 68) hx hb dX9_bits_61 (by decide) (fun c5 => ?_) (fun c5 => ?_)
    · have hok := hok.1 c5
      refine lv_iconst (v := 0) hx hb dX9_bits_68 (by decide) ?_
      exact b69 u4 x1 64 0 hok _ _ hP hD hS _ (lv_sub hl [0, 1] rfl)
    · have hok := hok.2 c5
      refine lv_iconst (v := 1) hx hb dX9_bits_64 (by decide) ?_
      refine lv_goto (tgt := 69) hx hb dX9_bits_65 (by decide) ?_
      exact b69 u4 x1 64 1 hok _ _ hP hD hS _ (lv_sub hl [0, 1] rfl)
  have b29 : ∀ (σ : S_Model) (x1 : Int32) (x2 : Int32) (s1 : Int32) (s2 : Int32), wp_X9_bits_29 σ x1 x2 s1 s2 Φ → ∀ (H : Heap) (locs : List Loc), va_P (dC, dI) vwCl (w_Model h cI cJ σ) H → va_D A (w_Model h cI cJ σ) → va_S A s.heap H locs → ∀ ls : Array Slot, lv_has ls 3 [(0, .ref (h 13)), (1, .int x1), (2, .int x2)] → W p l e (headSpec wsX9_bits { frames := 6, cells := 0, slots := 0, locals := 129 }).room s m ([.ref (h 13), .int a1] : List Value).toArray below meth c H locs 0 0 (MQ below (va_Qi Φ (fun u => cpost dC dI cI cJ A (w_Model h cI cJ u)) A) ([.ref (h 13), .int a1] : List Value).toArray s 0 0 A) (F0 m 29 ls [.int s2, .int s1, .ref (h 13)]) := by
    intro σ x1 x2 s1 s2 hok H locs hP hD hS ls hl
    unfold wp_X9_bits_29 at hok
    have hPc := hP
    have hDc := hD
    have hFc := va_free (wc := w_Model h cI cJ σ) hD hS hA [0, 1, 2, 3, 4, 5, 6] rfl
    refine va_callv (va_runV (As := [.int s1, .int s2]) (rest := []) ⟨hx, hb, hml, hown, hts⟩ (c_X9_flag l dC dI cI cJ h _ hok) (cwV 2 hts (tb_gV tw_4_85 tw_4_87 tw_p_42 tw_1_9 tw_4_88) rfl rfl rfl (by decide +kernel) ⟨Nat.le_of_ble_eq_true rfl, Nat.le_of_ble_eq_true rfl⟩) (cpre_V (ci := 8) (q0 := 0) hK hPc hDc rfl rfl) rfl rfl hl.1 rfl (lv_room (Nat.le_of_ble_eq_true rfl)) dX9_bits_29 ⟨Nat.le_of_ble_eq_true rfl, Nat.le_of_ble_eq_true rfl⟩) hS (fun q _ h => hFc q h) hFc (fun u6 t H1 locs ht hvm hok hB hz1 hk1 hS => ?_)
    obtain ⟨hP, hD⟩ := cjoin_w ht hB hFc
    refine lv_iload_n hx hb dX9_bits_32 rfl (lv_at hl 1 rfl) ?_
    refine lv_if_eq (tgt := 72) hx hb dX9_bits_33 (by decide) (fun c7 => ?_) (fun c7 => ?_)
    · have hok := hok.1 c7
      exact b72 u6 x1 hok _ _ hP hD hS _ (lv_sub hl [0, 1] rfl)
    · have hok := hok.2 c7
      refine lv_aload_n hx hb dX9_bits_36 rfl (lv_at hl 0 rfl) ?_
      refine lv_sipush (v := 128) hx hb dX9_bits_37 (by decide) ?_
      refine lv_iload_n hx hb dX9_bits_40 rfl (lv_at hl 2 rfl) ?_
      refine lv_bipush (v := 127) hx hb dX9_bits_41 (by decide) ?_
      refine lv_icmp_le (tgt := 50) hx hb dX9_bits_43 (by decide) (fun c8 => ?_) (fun c8 => ?_)
      · have hok := hok.1 c8
        refine lv_iconst (v := 0) hx hb dX9_bits_50 (by decide) ?_
        exact b51 u6 x1 x2 128 0 hok _ _ hP hD hS _ (lv_sub hl [0, 1, 2] rfl)
      · have hok := hok.2 c8
        refine lv_iconst (v := 1) hx hb dX9_bits_46 (by decide) ?_
        refine lv_goto (tgt := 51) hx hb dX9_bits_47 (by decide) ?_
        exact b51 u6 x1 x2 128 1 hok _ _ hP hD hS _ (lv_sub hl [0, 1, 2] rfl)
  have hl := lv_entry ([.ref (h 13), .int a1]) (n := 3) (Nat.le_of_ble_eq_true rfl)
  rw [lg_entry_eq]
  generalize (lg_sl ([.ref (h 13), .int a1]) ++ List.replicate (3 - (lg_sl ([.ref (h 13), .int a1])).length) Slot.unset).toArray = ls at hl ⊢
  have hl : lv_has ls 3 [(0, .ref (h 13)), (1, .int a1)] := hl
  unfold wp_X9_bits at hok
  refine lv_aload_n hx hb dX9_bits_0 rfl (lv_at hl 0 rfl) ?_
  refine lv_iconst (v := 0) hx hb dX9_bits_1 (by decide) ?_
  refine va_put (D := (dC, dI)) (ci := 8) (v := .int 0) (ty := .boolean) (C := RX9) (T := TX9) (N := 33) hx hb hts (fun w h => List.mem_cons_of_mem _ (in_X9 w h)) tyX9 tyX9_ok nmX9 hown hK hP hD hS 0 rfl rfl 11 (by decide) (hts _ (List.mem_cons_of_mem _ tw_3_198)) (fun _ h9 => h9) rfl (by decide +kernel) rfl rfl (Nat.le_of_ble_eq_true rfl) dX9_bits_2 (fun H locs hP hD hS => ?_)
  have hP : va_P (dC, dI) vwCl (w_Model h cI cJ (upd σ.1 11 0, σ.2.1, σ.2.2)) _ := hP
  have hD : va_D A (w_Model h cI cJ (upd σ.1 11 0, σ.2.1, σ.2.2)) := hD
  refine lv_aload_n hx hb dX9_bits_5 rfl (lv_at hl 0 rfl) ?_
  refine lv_iload_n hx hb dX9_bits_6 rfl (lv_at hl 1 rfl) ?_
  have hPc := hP
  have hDc := hD
  have hFc := va_free (wc := w_Model h cI cJ (upd σ.1 11 0, σ.2.1, σ.2.2)) hD hS hA [0, 1, 2, 3, 4, 5, 6] rfl
  refine va_calli (va_runV (As := [.int a1]) (rest := []) ⟨hx, hb, hml, hown, hts⟩ (c_X9_taken l dC dI cI cJ h _ hok) (cwV 1 hts (tb_gV tw_4_144 tw_4_146 tw_p_55 tw_1_9 tw_4_147) rfl rfl rfl (by decide +kernel) ⟨Nat.le_of_ble_eq_true rfl, Nat.le_of_ble_eq_true rfl⟩) (cpre_V (ci := 8) (q0 := 0) hK hPc hDc rfl rfl) rfl rfl hl.1 rfl (lv_room (Nat.le_of_ble_eq_true rfl)) dX9_bits_7 ⟨Nat.le_of_ble_eq_true rfl, Nat.le_of_ble_eq_true rfl⟩) hS (fun q _ h => hFc q h) hFc (fun r9 u10 t H1 locs ht hvm hok hB hz1 hk1 hS => ?_)
  obtain ⟨hP, hD⟩ := cjoin_w ht hB hFc
  refine lv_istore_n (lv' := [(2, .int r9), (0, .ref (h 13)), (1, .int a1)]) hx hb dX9_bits_10 rfl hl (by decide) rfl (fun ls hl => ?_)
  refine lv_aload_n hx hb dX9_bits_11 rfl (lv_at hl 1 rfl) ?_
  refine lv_iconst (v := 2) hx hb dX9_bits_12 (by decide) ?_
  refine lv_aload_n hx hb dX9_bits_13 rfl (lv_at hl 1 rfl) ?_
  refine va_get (D := (dC, dI)) (ci := 8) (v := .ref (h 15)) (C := RX9) (T := TX9) (N := 33) hx hb hts (fun w h => List.mem_cons_of_mem _ (in_X9 w h)) hown hK hP 0 rfl rfl 2 (by decide) (hts _ (List.mem_cons_of_mem _ tw_3_189)) (fun _ h9 => h9) rfl dX9_bits_14 ?_
  refine lv_iconst (v := 0) hx hb dX9_bits_17 (by decide) ?_
  refine va_iald hx hb hK hP 2 0 rfl rfl hok.1 dX9_bits_18 ?_
  have hok := hok.2
  refine lv_iload_n hx hb dX9_bits_19 rfl (lv_at hl 0 rfl) ?_
  refine lv_iand hx hb dX9_bits_20 ?_
  refine lv_topi (fun v11 ev11 => ?_)
  have hok := hok v11 ev11
  refine lv_if_ne (tgt := 28) hx hb dX9_bits_21 (by decide) (fun c12 => ?_) (fun c12 => ?_)
  · have hok := hok.2 c12
    refine lv_iconst (v := 0) hx hb dX9_bits_28 (by decide) ?_
    exact b29 u10 a1 r9 2 0 hok _ _ hP hD hS _ (lv_sub hl [1, 2, 0] rfl)
  · have hok := hok.1 c12
    refine lv_iconst (v := 1) hx hb dX9_bits_24 (by decide) ?_
    refine lv_goto (tgt := 29) hx hb dX9_bits_25 (by decide) ?_
    exact b29 u10 a1 r9 2 1 hok _ _ hP hD hS _ (lv_sub hl [1, 2, 0] rfl)
def wp_X9_marks_64 (σ : S_Model) (x2 : Int32) (s1 : Int32) (s2 : Int32) (Φ : Int32 → S_Model → Prop) : Prop := wp_X9_write σ s1 s2 (fun u1 => ((x2 = (1 : Int32) → (Φ 5 u1)) ∧ (¬ x2 = (1 : Int32) → (Φ 6 u1))))
def wp_X9_marks_32 (σ : S_Model) (x1 : Int32) (x2 : Int32) (x3 : Int32) (x4 : Int32) (s1 : Int32) (s2 : Int32) (Φ : Int32 → S_Model → Prop) : Prop := wp_X9_flag σ s1 s2 (fun u3 => ((x1 = 0 → ((vp_in 0 4 ∧ (∀ v5 : Int32, v5 = ((u3.2.2 2) (0 : Int32).toNatClampNeg) ^^^ (-1 : Int32) → wp_X9_marks_64 u3 x2 x3 (x4 &&& v5) Φ)))) ∧ (¬ x1 = 0 → ((vp_in 0 4 ∧ (∀ v6 : Int32, v6 = x4 ||| ((u3.2.2 2) (0 : Int32).toNatClampNeg) → wp_X9_marks_64 u3 x2 x3 v6 Φ))))))
def wp_X9_marks (σ : S_Model) (a1 : Int32) (a2 : Int32) (Φ : Int32 → S_Model → Prop) : Prop := wp_X9_address σ a2 (fun r7 u8 => wp_X9_read u8 r7 (fun r9 u10 => (vp_in 0 4 ∧ (∀ v11 : Int32, v11 = ((u10.2.2 2) (0 : Int32).toNatClampNeg) &&& r9 → ((v11 = 0 → (wp_X9_marks_32 u10 a1 a2 r7 r9 2 1 Φ)) ∧ (¬ v11 = 0 → (wp_X9_marks_32 u10 a1 a2 r7 r9 2 0 Φ)))))))
set_option maxHeartbeats 4000000 in
set_option maxRecDepth 100000 in
theorem c_X9_marks (l : Launch) (dC : Nat → ClassId) (dI : Nat → Nat → Nat) (cI cJ : ClassId) (h : Nat → Nat) (sz : Nat) {σ : S_Model} {a1 : Int32} {a2 : Int32} {Φ : Int32 → S_Model → Prop} (hok : wp_X9_marks σ a1 a2 Φ) : Met l yX9_marks wsX9_marks ({ frames := 5, cells := 0, slots := 0, locals := 108 }) (va_Pc [.ref (h 13), .int a1, .int a2] (cpre dC dI cI cJ (w_Model h cI cJ σ) sz)) (va_Qi Φ (fun u => cpost dC dI cI cJ (va_A (w_Model h cI cJ σ) sz) (w_Model h cI cJ u)) (va_A (w_Model h cI cJ σ) sz)) 0 0 (va_A (w_Model h cI cJ σ) sz) := by
  refine Met.ofW (cc := cX9_marks) (maxL := 5) (ret := (some .int)) (by decide) rfl ?_
  intro p e s m args below meth c s₁ B hml hv
  obtain ⟨rfl, hsz, hP, hK, hD0⟩ := hv
  have hx := B.exec
  have hb := B.bytes
  have hr := B.returns
  have hts := atoms_spec (ws := wsX9_marks) B.pre
  have hown : s.vm.findClass RX9 = some m.cls := findClass_of_methodNamed B.named
  have hlocks := B.notSynchronized
  subst hsz
  have hD := hD0.self (sz := s.heap.size)
  generalize hAe : va_A (w_Model h cI cJ σ) s.heap.size = A at hD ⊢
  have hA : ∀ q : Nat, s.heap.size ≤ q → A q := fun q h => by rw [← hAe]; exact Or.inr h
  clear hD0 hAe
  have hS : va_S A s.heap s.heap [] := va_S.rf
  have b64 : ∀ (σ : S_Model) (x2 : Int32) (s1 : Int32) (s2 : Int32), wp_X9_marks_64 σ x2 s1 s2 Φ → ∀ (H : Heap) (locs : List Loc), va_P (dC, dI) vwCl (w_Model h cI cJ σ) H → va_D A (w_Model h cI cJ σ) → va_S A s.heap H locs → ∀ ls : Array Slot, lv_has ls 5 [(2, .int x2)] → W p l e (headSpec wsX9_marks { frames := 5, cells := 0, slots := 0, locals := 108 }).room s m ([.ref (h 13), .int a1, .int a2] : List Value).toArray below meth c H locs 0 0 (MQ below (va_Qi Φ (fun u => cpost dC dI cI cJ A (w_Model h cI cJ u)) A) ([.ref (h 13), .int a1, .int a2] : List Value).toArray s 0 0 A) (F0 m 64 ls [.int s2, .int s1, .ref (h 13)]) := by
    intro σ x2 s1 s2 hok H locs hP hD hS ls hl
    unfold wp_X9_marks_64 at hok
    have hPc := hP
    have hDc := hD
    have hFc := va_free (wc := w_Model h cI cJ σ) hD hS hA [0, 1, 2, 3, 4, 5, 6] rfl
    refine va_callv (va_runV (As := [.int s1, .int s2]) (rest := []) ⟨hx, hb, hml, hown, hts⟩ (c_X9_write l dC dI cI cJ h _ hok) (cwV 2 hts (tb_gV tw_4_72 tw_4_74 tw_p_40 tw_1_9 tw_4_75) rfl rfl rfl (by decide +kernel) ⟨Nat.le_of_ble_eq_true rfl, Nat.le_of_ble_eq_true rfl⟩) (cpre_V (ci := 8) (q0 := 0) hK hPc hDc rfl rfl) rfl rfl hl.1 rfl (lv_room (Nat.le_of_ble_eq_true rfl)) dX9_marks_64 ⟨Nat.le_of_ble_eq_true rfl, Nat.le_of_ble_eq_true rfl⟩) hS (fun q _ h => hFc q h) hFc (fun u1 t H1 locs ht hvm hok hB hz1 hk1 hS => ?_)
    obtain ⟨hP, hD⟩ := cjoin_w ht hB hFc
    refine lv_iload_n hx hb dX9_marks_67 rfl (lv_at hl 0 rfl) ?_
    refine lv_iconst (v := 1) hx hb dX9_marks_68 (by decide) ?_
    refine lv_icmp_ne (tgt := 76) hx hb dX9_marks_69 (by decide) (fun c2 => ?_) (fun c2 => ?_)
    · have hok := hok.2 c2
      refine lv_bipush (v := 6) hx hb dX9_marks_76 (by decide) ?_
      exact W.iret (v := 6) hx hb hr (fun t ht hW => ⟨⟨6, u1, rfl, hok, by rw [ht]; exact hP, va_K.moved hW.alike hK, hD⟩, hS.F ht⟩) hS.2.2 dX9_marks_78
    · have hok := hok.1 c2
      refine lv_iconst (v := 5) hx hb dX9_marks_72 (by decide) ?_
      refine lv_goto (tgt := 78) hx hb dX9_marks_73 (by decide) ?_
      exact W.iret (v := 5) hx hb hr (fun t ht hW => ⟨⟨5, u1, rfl, hok, by rw [ht]; exact hP, va_K.moved hW.alike hK, hD⟩, hS.F ht⟩) hS.2.2 dX9_marks_78
  have b32 : ∀ (σ : S_Model) (x1 : Int32) (x2 : Int32) (x3 : Int32) (x4 : Int32) (s1 : Int32) (s2 : Int32), wp_X9_marks_32 σ x1 x2 x3 x4 s1 s2 Φ → ∀ (H : Heap) (locs : List Loc), va_P (dC, dI) vwCl (w_Model h cI cJ σ) H → va_D A (w_Model h cI cJ σ) → va_S A s.heap H locs → ∀ ls : Array Slot, lv_has ls 5 [(0, .ref (h 13)), (1, .int x1), (2, .int x2), (3, .int x3), (4, .int x4)] → W p l e (headSpec wsX9_marks { frames := 5, cells := 0, slots := 0, locals := 108 }).room s m ([.ref (h 13), .int a1, .int a2] : List Value).toArray below meth c H locs 0 0 (MQ below (va_Qi Φ (fun u => cpost dC dI cI cJ A (w_Model h cI cJ u)) A) ([.ref (h 13), .int a1, .int a2] : List Value).toArray s 0 0 A) (F0 m 32 ls [.int s2, .int s1, .ref (h 13)]) := by
    intro σ x1 x2 x3 x4 s1 s2 hok H locs hP hD hS ls hl
    unfold wp_X9_marks_32 at hok
    have hPc := hP
    have hDc := hD
    have hFc := va_free (wc := w_Model h cI cJ σ) hD hS hA [0, 1, 2, 3, 4, 5, 6] rfl
    refine va_callv (va_runV (As := [.int s1, .int s2]) (rest := []) ⟨hx, hb, hml, hown, hts⟩ (c_X9_flag l dC dI cI cJ h _ hok) (cwV 2 hts (tb_gV tw_4_85 tw_4_87 tw_p_42 tw_1_9 tw_4_88) rfl rfl rfl (by decide +kernel) ⟨Nat.le_of_ble_eq_true rfl, Nat.le_of_ble_eq_true rfl⟩) (cpre_V (ci := 8) (q0 := 0) hK hPc hDc rfl rfl) rfl rfl hl.1 rfl (lv_room (Nat.le_of_ble_eq_true rfl)) dX9_marks_32 ⟨Nat.le_of_ble_eq_true rfl, Nat.le_of_ble_eq_true rfl⟩) hS (fun q _ h => hFc q h) hFc (fun u3 t H1 locs ht hvm hok hB hz1 hk1 hS => ?_)
    obtain ⟨hP, hD⟩ := cjoin_w ht hB hFc
    refine lv_aload_n hx hb dX9_marks_35 rfl (lv_at hl 0 rfl) ?_
    refine lv_iload_n hx hb dX9_marks_36 rfl (lv_at hl 3 rfl) ?_
    refine lv_iload_n hx hb dX9_marks_37 rfl (lv_at hl 1 rfl) ?_
    refine lv_if_eq (tgt := 53) hx hb dX9_marks_38 (by decide) (fun c4 => ?_) (fun c4 => ?_)
    · have hok := hok.1 c4
      refine lv_iload hx hb dX9_marks_53 (lv_at hl 4 rfl) ?_
      refine lv_aload_n hx hb dX9_marks_55 rfl (lv_at hl 0 rfl) ?_
      refine va_get (D := (dC, dI)) (ci := 8) (v := .ref (h 15)) (C := RX9) (T := TX9) (N := 33) hx hb hts (fun w h => List.mem_cons_of_mem _ (in_X9 w h)) hown hK hP 0 rfl rfl 2 (by decide) (hts _ (List.mem_cons_of_mem _ tw_3_189)) (fun _ h9 => h9) rfl dX9_marks_56 ?_
      refine lv_iconst (v := 0) hx hb dX9_marks_59 (by decide) ?_
      refine va_iald hx hb hK hP 2 0 rfl rfl hok.1 dX9_marks_60 ?_
      have hok := hok.2
      refine lv_iconst (v := (-1)) hx hb dX9_marks_61 (by decide) ?_
      refine lv_ixor hx hb dX9_marks_62 ?_
      refine lv_topi (fun v5 ev5 => ?_)
      have hok := hok v5 ev5
      refine lv_iand hx hb dX9_marks_63 ?_
      exact b64 u3 x2 x3 (x4 &&& v5) hok _ _ hP hD hS _ (lv_sub hl [2] rfl)
    · have hok := hok.2 c4
      refine lv_iload hx hb dX9_marks_41 (lv_at hl 4 rfl) ?_
      refine lv_aload_n hx hb dX9_marks_43 rfl (lv_at hl 0 rfl) ?_
      refine va_get (D := (dC, dI)) (ci := 8) (v := .ref (h 15)) (C := RX9) (T := TX9) (N := 33) hx hb hts (fun w h => List.mem_cons_of_mem _ (in_X9 w h)) hown hK hP 0 rfl rfl 2 (by decide) (hts _ (List.mem_cons_of_mem _ tw_3_189)) (fun _ h9 => h9) rfl dX9_marks_44 ?_
      refine lv_iconst (v := 0) hx hb dX9_marks_47 (by decide) ?_
      refine va_iald hx hb hK hP 2 0 rfl rfl hok.1 dX9_marks_48 ?_
      have hok := hok.2
      refine lv_ior hx hb dX9_marks_49 ?_
      refine lv_topi (fun v6 ev6 => ?_)
      have hok := hok v6 ev6
      refine lv_goto (tgt := 64) hx hb dX9_marks_50 (by decide) ?_
      exact b64 u3 x2 x3 v6 hok _ _ hP hD hS _ (lv_sub hl [2] rfl)
  have hl := lv_entry ([.ref (h 13), .int a1, .int a2]) (n := 5) (Nat.le_of_ble_eq_true rfl)
  rw [lg_entry_eq]
  generalize (lg_sl ([.ref (h 13), .int a1, .int a2]) ++ List.replicate (5 - (lg_sl ([.ref (h 13), .int a1, .int a2])).length) Slot.unset).toArray = ls at hl ⊢
  have hl : lv_has ls 5 [(0, .ref (h 13)), (1, .int a1), (2, .int a2)] := hl
  unfold wp_X9_marks at hok
  refine lv_aload_n hx hb dX9_marks_0 rfl (lv_at hl 0 rfl) ?_
  refine lv_iload_n hx hb dX9_marks_1 rfl (lv_at hl 2 rfl) ?_
  have hPc := hP
  have hDc := hD
  have hFc := va_free (wc := w_Model h cI cJ σ) hD hS hA [0, 1, 2, 3, 4, 5, 6] rfl
  refine va_calli (va_runV (As := [.int a2]) (rest := []) ⟨hx, hb, hml, hown, hts⟩ (c_X9_address l dC dI cI cJ h _ hok) (cwV 1 hts (tb_gV tw_4_148 tw_4_150 tw_p_56 tw_1_9 tw_4_151) rfl rfl rfl (by decide +kernel) ⟨Nat.le_of_ble_eq_true rfl, Nat.le_of_ble_eq_true rfl⟩) (cpre_V (ci := 8) (q0 := 0) hK hPc hDc rfl rfl) rfl rfl hl.1 rfl (lv_room (Nat.le_of_ble_eq_true rfl)) dX9_marks_2 ⟨Nat.le_of_ble_eq_true rfl, Nat.le_of_ble_eq_true rfl⟩) hS (fun q _ h => hFc q h) hFc (fun r7 u8 t H1 locs ht hvm hok hB hz1 hk1 hS => ?_)
  obtain ⟨hP, hD⟩ := cjoin_w ht hB hFc
  refine lv_istore_n (lv' := [(3, .int r7), (0, .ref (h 13)), (1, .int a1), (2, .int a2)]) hx hb dX9_marks_5 rfl hl (by decide) rfl (fun ls hl => ?_)
  refine lv_aload_n hx hb dX9_marks_6 rfl (lv_at hl 1 rfl) ?_
  refine lv_iload_n hx hb dX9_marks_7 rfl (lv_at hl 0 rfl) ?_
  have hPc := hP
  have hDc := hD
  have hFc := va_free (wc := w_Model h cI cJ u8) hD hS hA [0, 1, 2, 3, 4, 5, 6] rfl
  refine va_calli (va_runV (As := [.int r7]) (rest := []) ⟨hx, hb, hml, hown, hts⟩ (c_X9_read l dC dI cI cJ h _ hok) (cwV 1 hts (tb_gV tw_4_93 tw_4_95 tw_p_44 tw_1_9 tw_4_96) rfl rfl rfl (by decide +kernel) ⟨Nat.le_of_ble_eq_true rfl, Nat.le_of_ble_eq_true rfl⟩) (cpre_V (ci := 8) (q0 := 0) hK hPc hDc rfl rfl) rfl rfl hl.1 rfl (lv_room (Nat.le_of_ble_eq_true rfl)) dX9_marks_8 ⟨Nat.le_of_ble_eq_true rfl, Nat.le_of_ble_eq_true rfl⟩) hS (fun q _ h => hFc q h) hFc (fun r9 u10 t H1 locs ht hvm hok hB hz1 hk1 hS => ?_)
  obtain ⟨hP, hD⟩ := cjoin_w ht hB hFc
  refine lv_istore (lv' := [(4, .int r9), (3, .int r7), (0, .ref (h 13)), (1, .int a1), (2, .int a2)]) hx hb dX9_marks_11 hl (by decide) rfl (fun ls hl => ?_)
  refine lv_aload_n hx hb dX9_marks_13 rfl (lv_at hl 2 rfl) ?_
  refine lv_iconst (v := 2) hx hb dX9_marks_14 (by decide) ?_
  refine lv_aload_n hx hb dX9_marks_15 rfl (lv_at hl 2 rfl) ?_
  refine va_get (D := (dC, dI)) (ci := 8) (v := .ref (h 15)) (C := RX9) (T := TX9) (N := 33) hx hb hts (fun w h => List.mem_cons_of_mem _ (in_X9 w h)) hown hK hP 0 rfl rfl 2 (by decide) (hts _ (List.mem_cons_of_mem _ tw_3_189)) (fun _ h9 => h9) rfl dX9_marks_16 ?_
  refine lv_iconst (v := 0) hx hb dX9_marks_19 (by decide) ?_
  refine va_iald hx hb hK hP 2 0 rfl rfl hok.1 dX9_marks_20 ?_
  have hok := hok.2
  refine lv_iload hx hb dX9_marks_21 (lv_at hl 0 rfl) ?_
  refine lv_iand hx hb dX9_marks_23 ?_
  refine lv_topi (fun v11 ev11 => ?_)
  have hok := hok v11 ev11
  refine lv_if_ne (tgt := 31) hx hb dX9_marks_24 (by decide) (fun c12 => ?_) (fun c12 => ?_)
  · have hok := hok.2 c12
    refine lv_iconst (v := 0) hx hb dX9_marks_31 (by decide) ?_
    exact b32 u10 a1 a2 r7 r9 2 0 hok _ _ hP hD hS _ (lv_sub hl [2, 3, 4, 1, 0] rfl)
  · have hok := hok.1 c12
    refine lv_iconst (v := 1) hx hb dX9_marks_27 (by decide) ?_
    refine lv_goto (tgt := 32) hx hb dX9_marks_28 (by decide) ?_
    exact b32 u10 a1 a2 r7 r9 2 1 hok _ _ hP hD hS _ (lv_sub hl [2, 3, 4, 1, 0] rfl)
def wp_X9_fours_134 (σ : S_Model) (x2 : Int32) (x3 : Int32) (s1 : Int32) (Φ : Int32 → S_Model → Prop) : Prop := ((x3 = 0 → (wp_X9_marks σ s1 x2 (fun r2 u3 => Φ r2 u3))) ∧ (¬ x3 = 0 → (((x2 = (2 : Int32) → (wp_X9_marks σ s1 1 (fun r7 u8 => Φ r7 u8))) ∧ (¬ x2 = (2 : Int32) → (wp_X9_marks σ s1 4 (fun r5 u6 => Φ r5 u6)))))))
def wp_X9_fours_48 (σ : S_Model) (x1 : Int32) (Φ : Int32 → S_Model → Prop) : Prop := ((x1 = (108 : Int32) → (wp_X9_wordAt σ (σ.1 10) (fun r13 u14 => Φ 6 (upd u14.1 4 r13, u14.2.1, u14.2.2)))) ∧ (¬ x1 = (108 : Int32) → ((vp_in 1 4 ∧ (∀ v10 : Int32, v10 = (σ.1 10) + ((σ.2.2 2) (1 : Int32).toNatClampNeg) → wp_X9_wordAt σ v10 (fun r11 u12 => Φ 6 (upd u12.1 4 r11, u12.2.1, u12.2.2)))))))
def wp_X9_fours_19 (σ : S_Model) (x1 : Int32) (x2 : Int32) (s0 : Int32) (Φ : Int32 → S_Model → Prop) : Prop := ((x1 = (76 : Int32) → (Φ 3 (upd σ.1 4 (σ.1 10), σ.2.1, σ.2.2))) ∧ (¬ x1 = (76 : Int32) → (((x1 = (108 : Int32) → (wp_X9_fours_48 σ x1 Φ)) ∧ (¬ x1 = (108 : Int32) → (((x1 = (124 : Int32) → (wp_X9_fours_48 σ x1 Φ)) ∧ (¬ x1 = (124 : Int32) → ((((x1 >>> ((5 : Int32) &&& 31)) = 0 → (((s0 = 0 → (wp_X9_fours_134 σ x2 s0 1 Φ)) ∧ (¬ s0 = 0 → (wp_X9_fours_134 σ x2 s0 0 Φ))))) ∧ ((x1 >>> ((5 : Int32) &&& 31)) = 1 → (wp_X9_bits σ x2 (fun r21 u22 => Φ r21 u22))) ∧ ((x1 >>> ((5 : Int32) &&& 31)) = 2 → (((x1 = (68 : Int32) → (Φ 3 σ)) ∧ (¬ x1 = (68 : Int32) → (((x1 = (84 : Int32) → (Φ 4 σ)) ∧ (¬ x1 = (84 : Int32) → (Φ 8 σ)))))))) ∧ ((x1 >>> ((5 : Int32) &&& 31)) = 3 → (wp_X9_zeroed σ x2 (fun r27 u28 => Φ r27 u28))) ∧ ((x1 >>> ((5 : Int32) &&& 31)) = 4 → (((x1 = (156 : Int32) → (wp_X9_zeroed σ 4 (fun r35 u36 => Φ r35 u36))) ∧ (¬ x1 = (156 : Int32) → (wp_X9_address σ x2 (fun r31 u32 => (vp_in 2 4 ∧ (wp_X9_write u32 r31 ((u32.2.2 2) (2 : Int32).toNatClampNeg) (fun u33 => wp_X9_time x2 (fun r34 => Φ r34 u33)))))))))) ∧ ((x1 >>> ((5 : Int32) &&& 31)) = 5 → (wp_X9_loaded σ 2 x2 (fun r38 u39 => Φ r38 u39))) ∧ ((¬ (x1 >>> ((5 : Int32) &&& 31)) = 0 ∧ ¬ (x1 >>> ((5 : Int32) &&& 31)) = 1 ∧ ¬ (x1 >>> ((5 : Int32) &&& 31)) = 2 ∧ ¬ (x1 >>> ((5 : Int32) &&& 31)) = 3 ∧ ¬ (x1 >>> ((5 : Int32) &&& 31)) = 4 ∧ ¬ (x1 >>> ((5 : Int32) &&& 31)) = 5) → (((s0 = 0 → ((((x1 >>> ((5 : Int32) &&& 31)) = (6 : Int32) → (wp_X9_compared σ 2 x2 (fun r44 u45 => Φ r44 u45))) ∧ (¬ (x1 >>> ((5 : Int32) &&& 31)) = (6 : Int32) → (wp_X9_compared σ 1 x2 (fun r42 u43 => Φ r42 u43)))))) ∧ (¬ s0 = 0 → (Φ 4 σ)))))))))))))))
def wp_X9_fours (σ : S_Model) (a1 : Int32) (Φ : Int32 → S_Model → Prop) : Prop := wp_X9_narrow a1 (fun r46 => ∀ v47 : Int32, v47 = (a1 >>> ((4 : Int32) &&& 31)) &&& (1 : Int32) → ((v47 = (1 : Int32) → (wp_X9_fours_19 σ a1 r46 1 Φ)) ∧ (¬ v47 = (1 : Int32) → (wp_X9_fours_19 σ a1 r46 0 Φ))))
set_option maxHeartbeats 4000000 in
set_option maxRecDepth 100000 in
theorem c_X9_fours (l : Launch) (dC : Nat → ClassId) (dI : Nat → Nat → Nat) (cI cJ : ClassId) (h : Nat → Nat) (sz : Nat) {σ : S_Model} {a1 : Int32} {Φ : Int32 → S_Model → Prop} (hok : wp_X9_fours σ a1 Φ) : Met l yX9_fours wsX9_fours ({ frames := 7, cells := 0, slots := 0, locals := 151 }) (va_Pc [.ref (h 13), .int a1] (cpre dC dI cI cJ (w_Model h cI cJ σ) sz)) (va_Qi Φ (fun u => cpost dC dI cI cJ (va_A (w_Model h cI cJ σ) sz) (w_Model h cI cJ u)) (va_A (w_Model h cI cJ σ) sz)) 0 0 (va_A (w_Model h cI cJ σ) sz) := by
  refine Met.ofW (cc := cX9_fours) (maxL := 4) (ret := (some .int)) (by decide) rfl ?_
  intro p e s m args below meth c s₁ B hml hv
  obtain ⟨rfl, hsz, hP, hK, hD0⟩ := hv
  have hx := B.exec
  have hb := B.bytes
  have hr := B.returns
  have hts := atoms_spec (ws := wsX9_fours) B.pre
  have hown : s.vm.findClass RX9 = some m.cls := findClass_of_methodNamed B.named
  have hlocks := B.notSynchronized
  subst hsz
  have hD := hD0.self (sz := s.heap.size)
  generalize hAe : va_A (w_Model h cI cJ σ) s.heap.size = A at hD ⊢
  have hA : ∀ q : Nat, s.heap.size ≤ q → A q := fun q h => by rw [← hAe]; exact Or.inr h
  clear hD0 hAe
  have hS : va_S A s.heap s.heap [] := va_S.rf
  have b134 : ∀ (σ : S_Model) (x2 : Int32) (x3 : Int32) (s1 : Int32), wp_X9_fours_134 σ x2 x3 s1 Φ → ∀ (H : Heap) (locs : List Loc), va_P (dC, dI) vwCl (w_Model h cI cJ σ) H → va_D A (w_Model h cI cJ σ) → va_S A s.heap H locs → ∀ ls : Array Slot, lv_has ls 4 [(2, .int x2), (3, .int x3)] → W p l e (headSpec wsX9_fours { frames := 7, cells := 0, slots := 0, locals := 151 }).room s m ([.ref (h 13), .int a1] : List Value).toArray below meth c H locs 0 0 (MQ below (va_Qi Φ (fun u => cpost dC dI cI cJ A (w_Model h cI cJ u)) A) ([.ref (h 13), .int a1] : List Value).toArray s 0 0 A) (F0 m 134 ls [.int s1, .ref (h 13)]) := by
    intro σ x2 x3 s1 hok H locs hP hD hS ls hl
    unfold wp_X9_fours_134 at hok
    refine lv_iload_n hx hb dX9_fours_134 rfl (lv_at hl 1 rfl) ?_
    refine lv_if_eq (tgt := 151) hx hb dX9_fours_135 (by decide) (fun c1 => ?_) (fun c1 => ?_)
    · have hok := hok.1 c1
      refine lv_iload_n hx hb dX9_fours_151 rfl (lv_at hl 0 rfl) ?_
      have hPc := hP
      have hDc := hD
      have hFc := va_free (wc := w_Model h cI cJ σ) hD hS hA [0, 1, 2, 3, 4, 5, 6] rfl
      refine va_calli (va_runV (As := [.int s1, .int x2]) (rest := []) ⟨hx, hb, hml, hown, hts⟩ (c_X9_marks l dC dI cI cJ h _ hok) (cwV 2 hts (tb_gV tw_4_209 tw_4_211 tw_p_69 tw_1_9 tw_4_212) rfl rfl rfl (by decide +kernel) ⟨Nat.le_of_ble_eq_true rfl, Nat.le_of_ble_eq_true rfl⟩) (cpre_V (ci := 8) (q0 := 0) hK hPc hDc rfl rfl) rfl rfl hl.1 rfl (lv_room (Nat.le_of_ble_eq_true rfl)) dX9_fours_152 ⟨Nat.le_of_ble_eq_true rfl, Nat.le_of_ble_eq_true rfl⟩) hS (fun q _ h => hFc q h) hFc (fun r2 u3 t H1 locs ht hvm hok hB hz1 hk1 hS => ?_)
      obtain ⟨hP, hD⟩ := cjoin_w ht hB hFc
      exact W.iret (v := r2) hx hb hr (fun t ht hW => ⟨⟨r2, u3, rfl, hok, by rw [ht]; exact hP, va_K.moved hW.alike hK, hD⟩, hS.F ht⟩) hS.2.2 dX9_fours_155
    · have hok := hok.2 c1
      refine lv_iload_n hx hb dX9_fours_138 rfl (lv_at hl 0 rfl) ?_
      refine lv_iconst (v := 2) hx hb dX9_fours_139 (by decide) ?_
      refine lv_icmp_ne (tgt := 147) hx hb dX9_fours_140 (by decide) (fun c4 => ?_) (fun c4 => ?_)
      · have hok := hok.2 c4
        refine lv_iconst (v := 4) hx hb dX9_fours_147 (by decide) ?_
        refine lv_goto (tgt := 152) hx hb dX9_fours_148 (by decide) ?_
        have hPc := hP
        have hDc := hD
        have hFc := va_free (wc := w_Model h cI cJ σ) hD hS hA [0, 1, 2, 3, 4, 5, 6] rfl
        refine va_calli (va_runV (As := [.int s1, .int 4]) (rest := []) ⟨hx, hb, hml, hown, hts⟩ (c_X9_marks l dC dI cI cJ h _ hok) (cwV 2 hts (tb_gV tw_4_209 tw_4_211 tw_p_69 tw_1_9 tw_4_212) rfl rfl rfl (by decide +kernel) ⟨Nat.le_of_ble_eq_true rfl, Nat.le_of_ble_eq_true rfl⟩) (cpre_V (ci := 8) (q0 := 0) hK hPc hDc rfl rfl) rfl rfl hl.1 rfl (lv_room (Nat.le_of_ble_eq_true rfl)) dX9_fours_152 ⟨Nat.le_of_ble_eq_true rfl, Nat.le_of_ble_eq_true rfl⟩) hS (fun q _ h => hFc q h) hFc (fun r5 u6 t H1 locs ht hvm hok hB hz1 hk1 hS => ?_)
        obtain ⟨hP, hD⟩ := cjoin_w ht hB hFc
        exact W.iret (v := r5) hx hb hr (fun t ht hW => ⟨⟨r5, u6, rfl, hok, by rw [ht]; exact hP, va_K.moved hW.alike hK, hD⟩, hS.F ht⟩) hS.2.2 dX9_fours_155
      · have hok := hok.1 c4
        refine lv_iconst (v := 1) hx hb dX9_fours_143 (by decide) ?_
        refine lv_goto (tgt := 152) hx hb dX9_fours_144 (by decide) ?_
        have hPc := hP
        have hDc := hD
        have hFc := va_free (wc := w_Model h cI cJ σ) hD hS hA [0, 1, 2, 3, 4, 5, 6] rfl
        refine va_calli (va_runV (As := [.int s1, .int 1]) (rest := []) ⟨hx, hb, hml, hown, hts⟩ (c_X9_marks l dC dI cI cJ h _ hok) (cwV 2 hts (tb_gV tw_4_209 tw_4_211 tw_p_69 tw_1_9 tw_4_212) rfl rfl rfl (by decide +kernel) ⟨Nat.le_of_ble_eq_true rfl, Nat.le_of_ble_eq_true rfl⟩) (cpre_V (ci := 8) (q0 := 0) hK hPc hDc rfl rfl) rfl rfl hl.1 rfl (lv_room (Nat.le_of_ble_eq_true rfl)) dX9_fours_152 ⟨Nat.le_of_ble_eq_true rfl, Nat.le_of_ble_eq_true rfl⟩) hS (fun q _ h => hFc q h) hFc (fun r7 u8 t H1 locs ht hvm hok hB hz1 hk1 hS => ?_)
        obtain ⟨hP, hD⟩ := cjoin_w ht hB hFc
        exact W.iret (v := r7) hx hb hr (fun t ht hW => ⟨⟨r7, u8, rfl, hok, by rw [ht]; exact hP, va_K.moved hW.alike hK, hD⟩, hS.F ht⟩) hS.2.2 dX9_fours_155
  have b48 : ∀ (σ : S_Model) (x1 : Int32), wp_X9_fours_48 σ x1 Φ → ∀ (H : Heap) (locs : List Loc), va_P (dC, dI) vwCl (w_Model h cI cJ σ) H → va_D A (w_Model h cI cJ σ) → va_S A s.heap H locs → ∀ ls : Array Slot, lv_has ls 4 [(0, .ref (h 13)), (1, .int x1)] → W p l e (headSpec wsX9_fours { frames := 7, cells := 0, slots := 0, locals := 151 }).room s m ([.ref (h 13), .int a1] : List Value).toArray below meth c H locs 0 0 (MQ below (va_Qi Φ (fun u => cpost dC dI cI cJ A (w_Model h cI cJ u)) A) ([.ref (h 13), .int a1] : List Value).toArray s 0 0 A) (F0 m 48 ls []) := by
    intro σ x1 hok H locs hP hD hS ls hl
    unfold wp_X9_fours_48 at hok
    refine lv_aload_n hx hb dX9_fours_48 rfl (lv_at hl 0 rfl) ?_
    refine lv_aload_n hx hb dX9_fours_49 rfl (lv_at hl 0 rfl) ?_
    refine lv_iload_n hx hb dX9_fours_50 rfl (lv_at hl 1 rfl) ?_
    refine lv_bipush (v := 108) hx hb dX9_fours_51 (by decide) ?_
    refine lv_icmp_ne (tgt := 63) hx hb dX9_fours_53 (by decide) (fun c9 => ?_) (fun c9 => ?_)
    · have hok := hok.2 c9
      refine lv_aload_n hx hb dX9_fours_63 rfl (lv_at hl 0 rfl) ?_
      refine va_get (D := (dC, dI)) (ci := 8) (v := .int (σ.1 10)) (C := RX9) (T := TX9) (N := 33) hx hb hts (fun w h => List.mem_cons_of_mem _ (in_X9 w h)) hown hK hP 0 rfl rfl 10 (by decide) (hts _ (List.mem_cons_of_mem _ tw_3_197)) (fun _ h9 => h9) rfl dX9_fours_64 ?_
      refine lv_aload_n hx hb dX9_fours_67 rfl (lv_at hl 0 rfl) ?_
      refine va_get (D := (dC, dI)) (ci := 8) (v := .ref (h 15)) (C := RX9) (T := TX9) (N := 33) hx hb hts (fun w h => List.mem_cons_of_mem _ (in_X9 w h)) hown hK hP 0 rfl rfl 2 (by decide) (hts _ (List.mem_cons_of_mem _ tw_3_189)) (fun _ h9 => h9) rfl dX9_fours_68 ?_
      refine lv_iconst (v := 1) hx hb dX9_fours_71 (by decide) ?_
      refine va_iald hx hb hK hP 2 0 rfl rfl hok.1 dX9_fours_72 ?_
      have hok := hok.2
      refine lv_iadd hx hb dX9_fours_73 ?_
      refine lv_topi (fun v10 ev10 => ?_)
      have hok := hok v10 ev10
      have hPc := hP
      have hDc := hD
      have hFc := va_free (wc := w_Model h cI cJ σ) hD hS hA [0, 1, 2, 3, 4, 5, 6] rfl
      refine va_calli (va_runV (As := [.int v10]) (rest := [.ref (h 13)]) ⟨hx, hb, hml, hown, hts⟩ (c_X9_wordAt l dC dI cI cJ h _ hok) (cwV 1 hts (tb_gV tw_4_89 tw_4_91 tw_p_43 tw_1_9 tw_4_92) rfl rfl rfl (by decide +kernel) ⟨Nat.le_of_ble_eq_true rfl, Nat.le_of_ble_eq_true rfl⟩) (cpre_V (ci := 8) (q0 := 0) hK hPc hDc rfl rfl) rfl rfl hl.1 rfl (lv_room (Nat.le_of_ble_eq_true rfl)) dX9_fours_74 ⟨Nat.le_of_ble_eq_true rfl, Nat.le_of_ble_eq_true rfl⟩) hS (fun q _ h => hFc q h) hFc (fun r11 u12 t H1 locs ht hvm hok hB hz1 hk1 hS => ?_)
      obtain ⟨hP, hD⟩ := cjoin_w ht hB hFc
      refine va_put (D := (dC, dI)) (ci := 8) (v := .int r11) (ty := .int) (C := RX9) (T := TX9) (N := 33) hx hb hts (fun w h => List.mem_cons_of_mem _ (in_X9 w h)) tyX9 tyX9_ok nmX9 hown hK hP hD hS 0 rfl rfl 4 (by decide) (hts _ (List.mem_cons_of_mem _ tw_3_191)) (fun _ h9 => h9) rfl (by decide +kernel) rfl rfl (Nat.le_of_ble_eq_true rfl) dX9_fours_77 (fun H locs hP hD hS => ?_)
      have hP : va_P (dC, dI) vwCl (w_Model h cI cJ (upd u12.1 4 r11, u12.2.1, u12.2.2)) _ := hP
      have hD : va_D A (w_Model h cI cJ (upd u12.1 4 r11, u12.2.1, u12.2.2)) := hD
      refine lv_bipush (v := 6) hx hb dX9_fours_80 (by decide) ?_
      exact W.iret (v := 6) hx hb hr (fun t ht hW => ⟨⟨6, (upd u12.1 4 r11, u12.2.1, u12.2.2), rfl, hok, by rw [ht]; exact hP, va_K.moved hW.alike hK, hD⟩, hS.F ht⟩) hS.2.2 dX9_fours_82
    · have hok := hok.1 c9
      refine lv_aload_n hx hb dX9_fours_56 rfl (lv_at hl 0 rfl) ?_
      refine va_get (D := (dC, dI)) (ci := 8) (v := .int (σ.1 10)) (C := RX9) (T := TX9) (N := 33) hx hb hts (fun w h => List.mem_cons_of_mem _ (in_X9 w h)) hown hK hP 0 rfl rfl 10 (by decide) (hts _ (List.mem_cons_of_mem _ tw_3_197)) (fun _ h9 => h9) rfl dX9_fours_57 ?_
      refine lv_goto (tgt := 74) hx hb dX9_fours_60 (by decide) ?_
      have hPc := hP
      have hDc := hD
      have hFc := va_free (wc := w_Model h cI cJ σ) hD hS hA [0, 1, 2, 3, 4, 5, 6] rfl
      refine va_calli (va_runV (As := [.int (σ.1 10)]) (rest := [.ref (h 13)]) ⟨hx, hb, hml, hown, hts⟩ (c_X9_wordAt l dC dI cI cJ h _ hok) (cwV 1 hts (tb_gV tw_4_89 tw_4_91 tw_p_43 tw_1_9 tw_4_92) rfl rfl rfl (by decide +kernel) ⟨Nat.le_of_ble_eq_true rfl, Nat.le_of_ble_eq_true rfl⟩) (cpre_V (ci := 8) (q0 := 0) hK hPc hDc rfl rfl) rfl rfl hl.1 rfl (lv_room (Nat.le_of_ble_eq_true rfl)) dX9_fours_74 ⟨Nat.le_of_ble_eq_true rfl, Nat.le_of_ble_eq_true rfl⟩) hS (fun q _ h => hFc q h) hFc (fun r13 u14 t H1 locs ht hvm hok hB hz1 hk1 hS => ?_)
      obtain ⟨hP, hD⟩ := cjoin_w ht hB hFc
      refine va_put (D := (dC, dI)) (ci := 8) (v := .int r13) (ty := .int) (C := RX9) (T := TX9) (N := 33) hx hb hts (fun w h => List.mem_cons_of_mem _ (in_X9 w h)) tyX9 tyX9_ok nmX9 hown hK hP hD hS 0 rfl rfl 4 (by decide) (hts _ (List.mem_cons_of_mem _ tw_3_191)) (fun _ h9 => h9) rfl (by decide +kernel) rfl rfl (Nat.le_of_ble_eq_true rfl) dX9_fours_77 (fun H locs hP hD hS => ?_)
      have hP : va_P (dC, dI) vwCl (w_Model h cI cJ (upd u14.1 4 r13, u14.2.1, u14.2.2)) _ := hP
      have hD : va_D A (w_Model h cI cJ (upd u14.1 4 r13, u14.2.1, u14.2.2)) := hD
      refine lv_bipush (v := 6) hx hb dX9_fours_80 (by decide) ?_
      exact W.iret (v := 6) hx hb hr (fun t ht hW => ⟨⟨6, (upd u14.1 4 r13, u14.2.1, u14.2.2), rfl, hok, by rw [ht]; exact hP, va_K.moved hW.alike hK, hD⟩, hS.F ht⟩) hS.2.2 dX9_fours_82
  have b19 : ∀ (σ : S_Model) (x1 : Int32) (x2 : Int32) (s0 : Int32), wp_X9_fours_19 σ x1 x2 s0 Φ → ∀ (H : Heap) (locs : List Loc), va_P (dC, dI) vwCl (w_Model h cI cJ σ) H → va_D A (w_Model h cI cJ σ) → va_S A s.heap H locs → ∀ ls : Array Slot, lv_has ls 4 [(0, .ref (h 13)), (1, .int x1), (2, .int x2)] → W p l e (headSpec wsX9_fours { frames := 7, cells := 0, slots := 0, locals := 151 }).room s m ([.ref (h 13), .int a1] : List Value).toArray below meth c H locs 0 0 (MQ below (va_Qi Φ (fun u => cpost dC dI cI cJ A (w_Model h cI cJ u)) A) ([.ref (h 13), .int a1] : List Value).toArray s 0 0 A) (F0 m 19 ls [.int s0]) := by
    intro σ x1 x2 s0 hok H locs hP hD hS ls hl
    unfold wp_X9_fours_19 at hok
    refine lv_istore_n (lv' := [(3, .int s0), (0, .ref (h 13)), (1, .int x1), (2, .int x2)]) hx hb dX9_fours_19 rfl hl (by decide) rfl (fun ls hl => ?_)
    refine lv_iload_n hx hb dX9_fours_20 rfl (lv_at hl 2 rfl) ?_
    refine lv_bipush (v := 76) hx hb dX9_fours_21 (by decide) ?_
    refine lv_icmp_ne (tgt := 36) hx hb dX9_fours_23 (by decide) (fun c15 => ?_) (fun c15 => ?_)
    · have hok := hok.2 c15
      refine lv_iload_n hx hb dX9_fours_36 rfl (lv_at hl 2 rfl) ?_
      refine lv_bipush (v := 108) hx hb dX9_fours_37 (by decide) ?_
      refine lv_icmp_eq (tgt := 48) hx hb dX9_fours_39 (by decide) (fun c16 => ?_) (fun c16 => ?_)
      · have hok := hok.1 c16
        exact b48 σ x1 hok _ _ hP hD hS _ (lv_sub hl [1, 2] rfl)
      · have hok := hok.2 c16
        refine lv_iload_n hx hb dX9_fours_42 rfl (lv_at hl 2 rfl) ?_
        refine lv_bipush (v := 124) hx hb dX9_fours_43 (by decide) ?_
        refine lv_icmp_ne (tgt := 83) hx hb dX9_fours_45 (by decide) (fun c17 => ?_) (fun c17 => ?_)
        · have hok := hok.2 c17
          refine lv_iload_n hx hb dX9_fours_83 rfl (lv_at hl 2 rfl) ?_
          refine lv_iconst (v := 5) hx hb dX9_fours_84 (by decide) ?_
          refine lv_ishr hx hb dX9_fours_85 ?_
          by_cases c18 : (x1 >>> ((5 : Int32) &&& 31)) = 0
          · have hok := hok.1 c18
            refine lv_tableIn (tgt := 124) (off := 38) hx hb dX9_fours_86 (by rw [c18]; decide) (by rw [c18]; decide) (by rw [c18]; decide) (by decide) ?_
            refine lv_aload_n hx hb dX9_fours_124 rfl (lv_at hl 1 rfl) ?_
            refine lv_iload_n hx hb dX9_fours_125 rfl (lv_at hl 0 rfl) ?_
            refine lv_if_ne (tgt := 133) hx hb dX9_fours_126 (by decide) (fun c19 => ?_) (fun c19 => ?_)
            · have hok := hok.2 c19
              refine lv_iconst (v := 0) hx hb dX9_fours_133 (by decide) ?_
              exact b134 σ x2 s0 0 hok _ _ hP hD hS _ (lv_sub hl [3, 0] rfl)
            · have hok := hok.1 c19
              refine lv_iconst (v := 1) hx hb dX9_fours_129 (by decide) ?_
              refine lv_goto (tgt := 134) hx hb dX9_fours_130 (by decide) ?_
              exact b134 σ x2 s0 1 hok _ _ hP hD hS _ (lv_sub hl [3, 0] rfl)
          have hok := hok.2
          by_cases c20 : (x1 >>> ((5 : Int32) &&& 31)) = 1
          · have hok := hok.1 c20
            refine lv_tableIn (tgt := 156) (off := 70) hx hb dX9_fours_86 (by rw [c20]; decide) (by rw [c20]; decide) (by rw [c20]; decide) (by decide) ?_
            refine lv_aload_n hx hb dX9_fours_156 rfl (lv_at hl 1 rfl) ?_
            refine lv_iload_n hx hb dX9_fours_157 rfl (lv_at hl 3 rfl) ?_
            have hPc := hP
            have hDc := hD
            have hFc := va_free (wc := w_Model h cI cJ σ) hD hS hA [0, 1, 2, 3, 4, 5, 6] rfl
            refine va_calli (va_runV (As := [.int x2]) (rest := []) ⟨hx, hb, hml, hown, hts⟩ (c_X9_bits l dC dI cI cJ h _ hok) (cwV 1 hts (tb_gV tw_4_213 tw_4_215 tw_p_70 tw_1_9 tw_4_216) rfl rfl rfl (by decide +kernel) ⟨Nat.le_of_ble_eq_true rfl, Nat.le_of_ble_eq_true rfl⟩) (cpre_V (ci := 8) (q0 := 0) hK hPc hDc rfl rfl) rfl rfl hl.1 rfl (lv_room (Nat.le_of_ble_eq_true rfl)) dX9_fours_158 ⟨Nat.le_of_ble_eq_true rfl, Nat.le_of_ble_eq_true rfl⟩) hS (fun q _ h => hFc q h) hFc (fun r21 u22 t H1 locs ht hvm hok hB hz1 hk1 hS => ?_)
            obtain ⟨hP, hD⟩ := cjoin_w ht hB hFc
            exact W.iret (v := r21) hx hb hr (fun t ht hW => ⟨⟨r21, u22, rfl, hok, by rw [ht]; exact hP, va_K.moved hW.alike hK, hD⟩, hS.F ht⟩) hS.2.2 dX9_fours_161
          have hok := hok.2
          by_cases c23 : (x1 >>> ((5 : Int32) &&& 31)) = 2
          · have hok := hok.1 c23
            refine lv_tableIn (tgt := 208) (off := 122) hx hb dX9_fours_86 (by rw [c23]; decide) (by rw [c23]; decide) (by rw [c23]; decide) (by decide) ?_
            refine lv_iload_n hx hb dX9_fours_208 rfl (lv_at hl 2 rfl) ?_
            refine lv_bipush (v := 68) hx hb dX9_fours_209 (by decide) ?_
            refine lv_icmp_ne (tgt := 218) hx hb dX9_fours_211 (by decide) (fun c24 => ?_) (fun c24 => ?_)
            · have hok := hok.2 c24
              refine lv_iload_n hx hb dX9_fours_218 rfl (lv_at hl 2 rfl) ?_
              refine lv_bipush (v := 84) hx hb dX9_fours_219 (by decide) ?_
              refine lv_icmp_ne (tgt := 228) hx hb dX9_fours_221 (by decide) (fun c25 => ?_) (fun c25 => ?_)
              · have hok := hok.2 c25
                refine lv_bipush (v := 8) hx hb dX9_fours_228 (by decide) ?_
                exact W.iret (v := 8) hx hb hr (fun t ht hW => ⟨⟨8, σ, rfl, hok, by rw [ht]; exact hP, va_K.moved hW.alike hK, hD⟩, hS.F ht⟩) hS.2.2 dX9_fours_230
              · have hok := hok.1 c25
                refine lv_iconst (v := 4) hx hb dX9_fours_224 (by decide) ?_
                refine lv_goto (tgt := 230) hx hb dX9_fours_225 (by decide) ?_
                exact W.iret (v := 4) hx hb hr (fun t ht hW => ⟨⟨4, σ, rfl, hok, by rw [ht]; exact hP, va_K.moved hW.alike hK, hD⟩, hS.F ht⟩) hS.2.2 dX9_fours_230
            · have hok := hok.1 c24
              refine lv_iconst (v := 3) hx hb dX9_fours_214 (by decide) ?_
              refine lv_goto (tgt := 230) hx hb dX9_fours_215 (by decide) ?_
              exact W.iret (v := 3) hx hb hr (fun t ht hW => ⟨⟨3, σ, rfl, hok, by rw [ht]; exact hP, va_K.moved hW.alike hK, hD⟩, hS.F ht⟩) hS.2.2 dX9_fours_230
          have hok := hok.2
          by_cases c26 : (x1 >>> ((5 : Int32) &&& 31)) = 3
          · have hok := hok.1 c26
            refine lv_tableIn (tgt := 162) (off := 76) hx hb dX9_fours_86 (by rw [c26]; decide) (by rw [c26]; decide) (by rw [c26]; decide) (by decide) ?_
            refine lv_aload_n hx hb dX9_fours_162 rfl (lv_at hl 1 rfl) ?_
            refine lv_iload_n hx hb dX9_fours_163 rfl (lv_at hl 3 rfl) ?_
            have hPc := hP
            have hDc := hD
            have hFc := va_free (wc := w_Model h cI cJ σ) hD hS hA [0, 1, 2, 3, 4, 5, 6] rfl
            refine va_calli (va_runV (As := [.int x2]) (rest := []) ⟨hx, hb, hml, hown, hts⟩ (c_X9_zeroed l dC dI cI cJ h _ hok) (cwV 1 hts (tb_gV tw_4_217 tw_4_219 tw_p_71 tw_1_9 tw_4_220) rfl rfl rfl (by decide +kernel) ⟨Nat.le_of_ble_eq_true rfl, Nat.le_of_ble_eq_true rfl⟩) (cpre_V (ci := 8) (q0 := 0) hK hPc hDc rfl rfl) rfl rfl hl.1 rfl (lv_room (Nat.le_of_ble_eq_true rfl)) dX9_fours_164 ⟨Nat.le_of_ble_eq_true rfl, Nat.le_of_ble_eq_true rfl⟩) hS (fun q _ h => hFc q h) hFc (fun r27 u28 t H1 locs ht hvm hok hB hz1 hk1 hS => ?_)
            obtain ⟨hP, hD⟩ := cjoin_w ht hB hFc
            exact W.iret (v := r27) hx hb hr (fun t ht hW => ⟨⟨r27, u28, rfl, hok, by rw [ht]; exact hP, va_K.moved hW.alike hK, hD⟩, hS.F ht⟩) hS.2.2 dX9_fours_167
          have hok := hok.2
          by_cases c29 : (x1 >>> ((5 : Int32) &&& 31)) = 4
          · have hok := hok.1 c29
            refine lv_tableIn (tgt := 168) (off := 82) hx hb dX9_fours_86 (by rw [c29]; decide) (by rw [c29]; decide) (by rw [c29]; decide) (by decide) ?_
            refine lv_iload_n hx hb dX9_fours_168 rfl (lv_at hl 2 rfl) ?_
            refine lv_sipush (v := 156) hx hb dX9_fours_169 (by decide) ?_
            refine lv_icmp_ne (tgt := 181) hx hb dX9_fours_172 (by decide) (fun c30 => ?_) (fun c30 => ?_)
            · have hok := hok.2 c30
              refine lv_aload_n hx hb dX9_fours_181 rfl (lv_at hl 1 rfl) ?_
              refine lv_aload_n hx hb dX9_fours_182 rfl (lv_at hl 1 rfl) ?_
              refine lv_iload_n hx hb dX9_fours_183 rfl (lv_at hl 3 rfl) ?_
              have hPc := hP
              have hDc := hD
              have hFc := va_free (wc := w_Model h cI cJ σ) hD hS hA [0, 1, 2, 3, 4, 5, 6] rfl
              refine va_calli (va_runV (As := [.int x2]) (rest := [.ref (h 13)]) ⟨hx, hb, hml, hown, hts⟩ (c_X9_address l dC dI cI cJ h _ hok) (cwV 1 hts (tb_gV tw_4_148 tw_4_150 tw_p_56 tw_1_9 tw_4_151) rfl rfl rfl (by decide +kernel) ⟨Nat.le_of_ble_eq_true rfl, Nat.le_of_ble_eq_true rfl⟩) (cpre_V (ci := 8) (q0 := 0) hK hPc hDc rfl rfl) rfl rfl hl.1 rfl (lv_room (Nat.le_of_ble_eq_true rfl)) dX9_fours_184 ⟨Nat.le_of_ble_eq_true rfl, Nat.le_of_ble_eq_true rfl⟩) hS (fun q _ h => hFc q h) hFc (fun r31 u32 t H1 locs ht hvm hok hB hz1 hk1 hS => ?_)
              obtain ⟨hP, hD⟩ := cjoin_w ht hB hFc
              refine lv_aload_n hx hb dX9_fours_187 rfl (lv_at hl 1 rfl) ?_
              refine va_get (D := (dC, dI)) (ci := 8) (v := .ref (h 15)) (C := RX9) (T := TX9) (N := 33) hx hb hts (fun w h => List.mem_cons_of_mem _ (in_X9 w h)) hown hK hP 0 rfl rfl 2 (by decide) (hts _ (List.mem_cons_of_mem _ tw_3_189)) (fun _ h9 => h9) rfl dX9_fours_188 ?_
              refine lv_iconst (v := 2) hx hb dX9_fours_191 (by decide) ?_
              refine va_iald hx hb hK hP 2 0 rfl rfl hok.1 dX9_fours_192 ?_
              have hok := hok.2
              have hPc := hP
              have hDc := hD
              have hFc := va_free (wc := w_Model h cI cJ u32) hD hS hA [0, 1, 2, 3, 4, 5, 6] rfl
              refine va_callv (va_runV (As := [.int r31, .int ((u32.2.2 2) (2 : Int32).toNatClampNeg)]) (rest := []) ⟨hx, hb, hml, hown, hts⟩ (c_X9_write l dC dI cI cJ h _ hok) (cwV 2 hts (tb_gV tw_4_72 tw_4_74 tw_p_40 tw_1_9 tw_4_75) rfl rfl rfl (by decide +kernel) ⟨Nat.le_of_ble_eq_true rfl, Nat.le_of_ble_eq_true rfl⟩) (cpre_V (ci := 8) (q0 := 0) hK hPc hDc rfl rfl) rfl rfl hl.1 rfl (lv_room (Nat.le_of_ble_eq_true rfl)) dX9_fours_193 ⟨Nat.le_of_ble_eq_true rfl, Nat.le_of_ble_eq_true rfl⟩) hS (fun q _ h => hFc q h) hFc (fun u33 t H1 locs ht hvm hok hB hz1 hk1 hS => ?_)
              obtain ⟨hP, hD⟩ := cjoin_w ht hB hFc
              refine lv_iload_n hx hb dX9_fours_196 rfl (lv_at hl 3 rfl) ?_
              have hPc := hP.sub (ws' := []) [] rfl
              have hDc := hD.sub (ws' := []) [] (by decide) rfl
              have hFc := va_free (wc := []) hD hS hA [] rfl
              refine va_calli (va_runS (As := [.int x2]) (rest := []) ⟨hx, hb, hml, hown, hts⟩ (c_X9_time l dC dI cI cJ h _ hok) (va_cwS 1 hts (tb_gS tw_4_164 tw_4_165 tw_1_9 tw_4_166) rfl rfl rfl (by decide +kernel) ⟨Nat.le_of_ble_eq_true rfl, Nat.le_of_ble_eq_true rfl⟩) (cpre_S hK hPc hDc) rfl rfl hl.1 rfl (lv_room (Nat.le_of_ble_eq_true rfl)) dX9_fours_197 ⟨Nat.le_of_ble_eq_true rfl, Nat.le_of_ble_eq_true rfl⟩) hS (fun q _ h => hFc q h) hFc (fun r34 _ t H1 locs ht hvm hok hB hz1 hk1 hS => ?_)
              obtain ⟨hP, hD⟩ := cjoin ht hP hD [] [0, 1, 2, 3, 4, 5, 6] rfl rfl (by decide) (by decide) hk1 hFc hB
              have hP := hP.sub (ws' := w_Model h cI cJ u33) [0, 1, 2, 3, 4, 5, 6] rfl
              have hD := hD.sub (ws' := w_Model h cI cJ u33) [0, 1, 2, 3, 4, 5, 6] (by decide) rfl
              exact W.iret (v := r34) hx hb hr (fun t ht hW => ⟨⟨r34, u33, rfl, hok, by rw [ht]; exact hP, va_K.moved hW.alike hK, hD⟩, hS.F ht⟩) hS.2.2 dX9_fours_200
            · have hok := hok.1 c30
              refine lv_aload_n hx hb dX9_fours_175 rfl (lv_at hl 1 rfl) ?_
              refine lv_iconst (v := 4) hx hb dX9_fours_176 (by decide) ?_
              have hPc := hP
              have hDc := hD
              have hFc := va_free (wc := w_Model h cI cJ σ) hD hS hA [0, 1, 2, 3, 4, 5, 6] rfl
              refine va_calli (va_runV (As := [.int 4]) (rest := []) ⟨hx, hb, hml, hown, hts⟩ (c_X9_zeroed l dC dI cI cJ h _ hok) (cwV 1 hts (tb_gV tw_4_217 tw_4_219 tw_p_71 tw_1_9 tw_4_220) rfl rfl rfl (by decide +kernel) ⟨Nat.le_of_ble_eq_true rfl, Nat.le_of_ble_eq_true rfl⟩) (cpre_V (ci := 8) (q0 := 0) hK hPc hDc rfl rfl) rfl rfl hl.1 rfl (lv_room (Nat.le_of_ble_eq_true rfl)) dX9_fours_177 ⟨Nat.le_of_ble_eq_true rfl, Nat.le_of_ble_eq_true rfl⟩) hS (fun q _ h => hFc q h) hFc (fun r35 u36 t H1 locs ht hvm hok hB hz1 hk1 hS => ?_)
              obtain ⟨hP, hD⟩ := cjoin_w ht hB hFc
              exact W.iret (v := r35) hx hb hr (fun t ht hW => ⟨⟨r35, u36, rfl, hok, by rw [ht]; exact hP, va_K.moved hW.alike hK, hD⟩, hS.F ht⟩) hS.2.2 dX9_fours_180
          have hok := hok.2
          by_cases c37 : (x1 >>> ((5 : Int32) &&& 31)) = 5
          · have hok := hok.1 c37
            refine lv_tableIn (tgt := 201) (off := 115) hx hb dX9_fours_86 (by rw [c37]; decide) (by rw [c37]; decide) (by rw [c37]; decide) (by decide) ?_
            refine lv_aload_n hx hb dX9_fours_201 rfl (lv_at hl 1 rfl) ?_
            refine lv_iconst (v := 2) hx hb dX9_fours_202 (by decide) ?_
            refine lv_iload_n hx hb dX9_fours_203 rfl (lv_at hl 3 rfl) ?_
            have hPc := hP
            have hDc := hD
            have hFc := va_free (wc := w_Model h cI cJ σ) hD hS hA [0, 1, 2, 3, 4, 5, 6] rfl
            refine va_calli (va_runV (As := [.int 2, .int x2]) (rest := []) ⟨hx, hb, hml, hown, hts⟩ (c_X9_loaded l dC dI cI cJ h _ hok) (cwV 2 hts (tb_gV tw_4_140 tw_4_142 tw_p_54 tw_1_9 tw_4_143) rfl rfl rfl (by decide +kernel) ⟨Nat.le_of_ble_eq_true rfl, Nat.le_of_ble_eq_true rfl⟩) (cpre_V (ci := 8) (q0 := 0) hK hPc hDc rfl rfl) rfl rfl hl.1 rfl (lv_room (Nat.le_of_ble_eq_true rfl)) dX9_fours_204 ⟨Nat.le_of_ble_eq_true rfl, Nat.le_of_ble_eq_true rfl⟩) hS (fun q _ h => hFc q h) hFc (fun r38 u39 t H1 locs ht hvm hok hB hz1 hk1 hS => ?_)
            obtain ⟨hP, hD⟩ := cjoin_w ht hB hFc
            exact W.iret (v := r38) hx hb hr (fun t ht hW => ⟨⟨r38, u39, rfl, hok, by rw [ht]; exact hP, va_K.moved hW.alike hK, hD⟩, hS.F ht⟩) hS.2.2 dX9_fours_207
          have hok := hok.2
          have hok := hok ⟨c18, c20, c23, c26, c29, c37⟩
          have kz39 : ∀ k ∈ ([0, 1, 2, 3, 4, 5] : List Int), ((x1 >>> ((5 : Int32) &&& 31))).toInt ≠ k := List.forall_mem_cons.mpr ⟨tb_ne c18 rfl, List.forall_mem_cons.mpr ⟨tb_ne c20 rfl, List.forall_mem_cons.mpr ⟨tb_ne c23 rfl, List.forall_mem_cons.mpr ⟨tb_ne c26 rfl, List.forall_mem_cons.mpr ⟨tb_ne c29 rfl, List.forall_mem_cons.mpr ⟨tb_ne c37 rfl, fun k h => absurd h List.not_mem_nil⟩⟩⟩⟩⟩⟩
          refine tb_def (tgt := 231) (keys := [0, 1, 2, 3, 4, 5]) hx hb dX9_fours_86 kz39 (by decide) (by decide) ?_
          refine lv_iload_n hx hb dX9_fours_231 rfl (lv_at hl 0 rfl) ?_
          refine lv_if_eq (tgt := 239) hx hb dX9_fours_232 (by decide) (fun c40 => ?_) (fun c40 => ?_)
          · have hok := hok.1 c40
            refine lv_aload_n hx hb dX9_fours_239 rfl (lv_at hl 1 rfl) ?_
            refine lv_iload_n hx hb dX9_fours_240 rfl (lv_at hl 2 rfl) ?_
            refine lv_iconst (v := 5) hx hb dX9_fours_241 (by decide) ?_
            refine lv_ishr hx hb dX9_fours_242 ?_
            refine lv_bipush (v := 6) hx hb dX9_fours_243 (by decide) ?_
            refine lv_icmp_ne (tgt := 252) hx hb dX9_fours_245 (by decide) (fun c41 => ?_) (fun c41 => ?_)
            · have hok := hok.2 c41
              refine lv_iconst (v := 1) hx hb dX9_fours_252 (by decide) ?_
              refine lv_iload_n hx hb dX9_fours_253 rfl (lv_at hl 3 rfl) ?_
              have hPc := hP
              have hDc := hD
              have hFc := va_free (wc := w_Model h cI cJ σ) hD hS hA [0, 1, 2, 3, 4, 5, 6] rfl
              refine va_calli (va_runV (As := [.int 1, .int x2]) (rest := []) ⟨hx, hb, hml, hown, hts⟩ (c_X9_compared l dC dI cI cJ h _ hok) (cwV 2 hts (tb_gV tw_4_167 tw_4_169 tw_p_60 tw_1_9 tw_4_170) rfl rfl rfl (by decide +kernel) ⟨Nat.le_of_ble_eq_true rfl, Nat.le_of_ble_eq_true rfl⟩) (cpre_V (ci := 8) (q0 := 0) hK hPc hDc rfl rfl) rfl rfl hl.1 rfl (lv_room (Nat.le_of_ble_eq_true rfl)) dX9_fours_254 ⟨Nat.le_of_ble_eq_true rfl, Nat.le_of_ble_eq_true rfl⟩) hS (fun q _ h => hFc q h) hFc (fun r42 u43 t H1 locs ht hvm hok hB hz1 hk1 hS => ?_)
              obtain ⟨hP, hD⟩ := cjoin_w ht hB hFc
              exact W.iret (v := r42) hx hb hr (fun t ht hW => ⟨⟨r42, u43, rfl, hok, by rw [ht]; exact hP, va_K.moved hW.alike hK, hD⟩, hS.F ht⟩) hS.2.2 dX9_fours_257
            · have hok := hok.1 c41
              refine lv_iconst (v := 2) hx hb dX9_fours_248 (by decide) ?_
              refine lv_goto (tgt := 253) hx hb dX9_fours_249 (by decide) ?_
              refine lv_iload_n hx hb dX9_fours_253 rfl (lv_at hl 3 rfl) ?_
              have hPc := hP
              have hDc := hD
              have hFc := va_free (wc := w_Model h cI cJ σ) hD hS hA [0, 1, 2, 3, 4, 5, 6] rfl
              refine va_calli (va_runV (As := [.int 2, .int x2]) (rest := []) ⟨hx, hb, hml, hown, hts⟩ (c_X9_compared l dC dI cI cJ h _ hok) (cwV 2 hts (tb_gV tw_4_167 tw_4_169 tw_p_60 tw_1_9 tw_4_170) rfl rfl rfl (by decide +kernel) ⟨Nat.le_of_ble_eq_true rfl, Nat.le_of_ble_eq_true rfl⟩) (cpre_V (ci := 8) (q0 := 0) hK hPc hDc rfl rfl) rfl rfl hl.1 rfl (lv_room (Nat.le_of_ble_eq_true rfl)) dX9_fours_254 ⟨Nat.le_of_ble_eq_true rfl, Nat.le_of_ble_eq_true rfl⟩) hS (fun q _ h => hFc q h) hFc (fun r44 u45 t H1 locs ht hvm hok hB hz1 hk1 hS => ?_)
              obtain ⟨hP, hD⟩ := cjoin_w ht hB hFc
              exact W.iret (v := r44) hx hb hr (fun t ht hW => ⟨⟨r44, u45, rfl, hok, by rw [ht]; exact hP, va_K.moved hW.alike hK, hD⟩, hS.F ht⟩) hS.2.2 dX9_fours_257
          · have hok := hok.2 c40
            refine lv_iconst (v := 4) hx hb dX9_fours_235 (by decide) ?_
            refine lv_goto (tgt := 257) hx hb dX9_fours_236 (by decide) ?_
            exact W.iret (v := 4) hx hb hr (fun t ht hW => ⟨⟨4, σ, rfl, hok, by rw [ht]; exact hP, va_K.moved hW.alike hK, hD⟩, hS.F ht⟩) hS.2.2 dX9_fours_257
        · have hok := hok.1 c17
          exact b48 σ x1 hok _ _ hP hD hS _ (lv_sub hl [1, 2] rfl)
    · have hok := hok.1 c15
      refine lv_aload_n hx hb dX9_fours_26 rfl (lv_at hl 1 rfl) ?_
      refine lv_aload_n hx hb dX9_fours_27 rfl (lv_at hl 1 rfl) ?_
      refine va_get (D := (dC, dI)) (ci := 8) (v := .int (σ.1 10)) (C := RX9) (T := TX9) (N := 33) hx hb hts (fun w h => List.mem_cons_of_mem _ (in_X9 w h)) hown hK hP 0 rfl rfl 10 (by decide) (hts _ (List.mem_cons_of_mem _ tw_3_197)) (fun _ h9 => h9) rfl dX9_fours_28 ?_
      refine va_put (D := (dC, dI)) (ci := 8) (v := .int (σ.1 10)) (ty := .int) (C := RX9) (T := TX9) (N := 33) hx hb hts (fun w h => List.mem_cons_of_mem _ (in_X9 w h)) tyX9 tyX9_ok nmX9 hown hK hP hD hS 0 rfl rfl 4 (by decide) (hts _ (List.mem_cons_of_mem _ tw_3_191)) (fun _ h9 => h9) rfl (by decide +kernel) rfl rfl (Nat.le_of_ble_eq_true rfl) dX9_fours_31 (fun H locs hP hD hS => ?_)
      have hP : va_P (dC, dI) vwCl (w_Model h cI cJ (upd σ.1 4 (σ.1 10), σ.2.1, σ.2.2)) _ := hP
      have hD : va_D A (w_Model h cI cJ (upd σ.1 4 (σ.1 10), σ.2.1, σ.2.2)) := hD
      refine lv_iconst (v := 3) hx hb dX9_fours_34 (by decide) ?_
      exact W.iret (v := 3) hx hb hr (fun t ht hW => ⟨⟨3, (upd σ.1 4 (σ.1 10), σ.2.1, σ.2.2), rfl, hok, by rw [ht]; exact hP, va_K.moved hW.alike hK, hD⟩, hS.F ht⟩) hS.2.2 dX9_fours_35
  have hl := lv_entry ([.ref (h 13), .int a1]) (n := 4) (Nat.le_of_ble_eq_true rfl)
  rw [lg_entry_eq]
  generalize (lg_sl ([.ref (h 13), .int a1]) ++ List.replicate (4 - (lg_sl ([.ref (h 13), .int a1])).length) Slot.unset).toArray = ls at hl ⊢
  have hl : lv_has ls 4 [(0, .ref (h 13)), (1, .int a1)] := hl
  unfold wp_X9_fours at hok
  refine lv_iload_n hx hb dX9_fours_0 rfl (lv_at hl 1 rfl) ?_
  have hPc := hP.sub (ws' := []) [] rfl
  have hDc := hD.sub (ws' := []) [] (by decide) rfl
  have hFc := va_free (wc := []) hD hS hA [] rfl
  refine va_calli (va_runS (As := [.int a1]) (rest := []) ⟨hx, hb, hml, hown, hts⟩ (c_X9_narrow l dC dI cI cJ h _ hok) (va_cwS 1 hts (tb_gS tw_4_206 tw_4_207 tw_1_9 tw_4_208) rfl rfl rfl (by decide +kernel) ⟨Nat.le_of_ble_eq_true rfl, Nat.le_of_ble_eq_true rfl⟩) (cpre_S hK hPc hDc) rfl rfl hl.1 rfl (lv_room (Nat.le_of_ble_eq_true rfl)) dX9_fours_1 ⟨Nat.le_of_ble_eq_true rfl, Nat.le_of_ble_eq_true rfl⟩) hS (fun q _ h => hFc q h) hFc (fun r46 _ t H1 locs ht hvm hok hB hz1 hk1 hS => ?_)
  obtain ⟨hP, hD⟩ := cjoin ht hP hD [] [0, 1, 2, 3, 4, 5, 6] rfl rfl (by decide) (by decide) hk1 hFc hB
  have hP := hP.sub (ws' := w_Model h cI cJ σ) [0, 1, 2, 3, 4, 5, 6] rfl
  have hD := hD.sub (ws' := w_Model h cI cJ σ) [0, 1, 2, 3, 4, 5, 6] (by decide) rfl
  refine lv_istore_n (lv' := [(2, .int r46), (0, .ref (h 13)), (1, .int a1)]) hx hb dX9_fours_4 rfl hl (by decide) rfl (fun ls hl => ?_)
  refine lv_iload_n hx hb dX9_fours_5 rfl (lv_at hl 2 rfl) ?_
  refine lv_iconst (v := 4) hx hb dX9_fours_6 (by decide) ?_
  refine lv_ishr hx hb dX9_fours_7 ?_
  refine lv_iconst (v := 1) hx hb dX9_fours_8 (by decide) ?_
  refine lv_iand hx hb dX9_fours_9 ?_
  refine lv_topi (fun v47 ev47 => ?_)
  have hok := hok v47 ev47
  refine lv_iconst (v := 1) hx hb dX9_fours_10 (by decide) ?_
  refine lv_icmp_ne (tgt := 18) hx hb dX9_fours_11 (by decide) (fun c48 => ?_) (fun c48 => ?_)
  · have hok := hok.2 c48
    refine lv_iconst (v := 0) hx hb dX9_fours_18 (by decide) ?_
    exact b19 σ a1 r46 0 hok _ _ hP hD hS _ (lv_sub hl [1, 2, 0] rfl)
  · have hok := hok.1 c48
    refine lv_iconst (v := 1) hx hb dX9_fours_14 (by decide) ?_
    refine lv_goto (tgt := 19) hx hb dX9_fours_15 (by decide) ?_
    exact b19 σ a1 r46 1 hok _ _ hP hD hS _ (lv_sub hl [1, 2, 0] rfl)
def wp_X9_jump_32 (σ : S_Model) (x3 : Int32) (x4 : Int32) (s1 : Int32) (s2 : Int32) (Φ : Int32 → S_Model → Prop) : Prop := ∀ v1 : Int32, v1 = ((s1 + s2) &&& (65535 : Int32)) >>> ((8 : Int32) &&& 31) → ((v1 = (x4 >>> ((8 : Int32) &&& 31)) → (Φ (x3 + (1 : Int32)) (upd σ.1 4 ((s1 + s2) &&& (65535 : Int32)), σ.2.1, σ.2.2))) ∧ (¬ v1 = (x4 >>> ((8 : Int32) &&& 31)) → (Φ (x3 + (2 : Int32)) (upd σ.1 4 ((s1 + s2) &&& (65535 : Int32)), σ.2.1, σ.2.2))))
def wp_X9_jump (σ : S_Model) (a1 : Int32) (a2 : Int32) (a3 : Int32) (Φ : Int32 → S_Model → Prop) : Prop := ((a1 = 0 → (Φ a3 σ)) ∧ (¬ a1 = 0 → (((a2 ≤ (127 : Int32) → (wp_X9_jump_32 σ a3 (σ.1 4) (σ.1 4) a2 Φ)) ∧ (¬ a2 ≤ (127 : Int32) → (wp_X9_jump_32 σ a3 (σ.1 4) (σ.1 4) (a2 - (256 : Int32)) Φ))))))
set_option maxHeartbeats 4000000 in
set_option maxRecDepth 100000 in
theorem c_X9_jump (l : Launch) (dC : Nat → ClassId) (dI : Nat → Nat → Nat) (cI cJ : ClassId) (h : Nat → Nat) (sz : Nat) {σ : S_Model} {a1 : Int32} {a2 : Int32} {a3 : Int32} {Φ : Int32 → S_Model → Prop} (hok : wp_X9_jump σ a1 a2 a3 Φ) : Met l yX9_jump wsX9_jump ({ frames := 0, cells := 0, slots := 0, locals := 0 }) (va_Pc [.ref (h 13), .int a1, .int a2, .int a3] (cpre dC dI cI cJ (w_Model h cI cJ σ) sz)) (va_Qi Φ (fun u => cpost dC dI cI cJ (va_A (w_Model h cI cJ σ) sz) (w_Model h cI cJ u)) (va_A (w_Model h cI cJ σ) sz)) 0 0 (va_A (w_Model h cI cJ σ) sz) := by
  refine Met.ofW (cc := cX9_jump) (maxL := 5) (ret := (some .int)) (by decide) rfl ?_
  intro p e s m args below meth c s₁ B hml hv
  obtain ⟨rfl, hsz, hP, hK, hD0⟩ := hv
  have hx := B.exec
  have hb := B.bytes
  have hr := B.returns
  have hts := atoms_spec (ws := wsX9_jump) B.pre
  have hown : s.vm.findClass RX9 = some m.cls := findClass_of_methodNamed B.named
  have hlocks := B.notSynchronized
  subst hsz
  have hD := hD0.self (sz := s.heap.size)
  generalize hAe : va_A (w_Model h cI cJ σ) s.heap.size = A at hD ⊢
  have hA : ∀ q : Nat, s.heap.size ≤ q → A q := fun q h => by rw [← hAe]; exact Or.inr h
  clear hD0 hAe
  have hS : va_S A s.heap s.heap [] := va_S.rf
  have b32 : ∀ (σ : S_Model) (x3 : Int32) (x4 : Int32) (s1 : Int32) (s2 : Int32), wp_X9_jump_32 σ x3 x4 s1 s2 Φ → ∀ (H : Heap) (locs : List Loc), va_P (dC, dI) vwCl (w_Model h cI cJ σ) H → va_D A (w_Model h cI cJ σ) → va_S A s.heap H locs → ∀ ls : Array Slot, lv_has ls 5 [(0, .ref (h 13)), (3, .int x3), (4, .int x4)] → W p l e (headSpec wsX9_jump { frames := 0, cells := 0, slots := 0, locals := 0 }).room s m ([.ref (h 13), .int a1, .int a2, .int a3] : List Value).toArray below meth c H locs 0 0 (MQ below (va_Qi Φ (fun u => cpost dC dI cI cJ A (w_Model h cI cJ u)) A) ([.ref (h 13), .int a1, .int a2, .int a3] : List Value).toArray s 0 0 A) (F0 m 32 ls [.int s2, .int s1, .ref (h 13)]) := by
    intro σ x3 x4 s1 s2 hok H locs hP hD hS ls hl
    unfold wp_X9_jump_32 at hok
    refine lv_iadd hx hb dX9_jump_32 ?_
    refine lv_ldc (v := 65535) hx hb hown (hts _ (List.mem_cons_of_mem _ tw_3_186)) dX9_jump_33 ?_
    refine lv_iand hx hb dX9_jump_35 ?_
    refine va_put (D := (dC, dI)) (ci := 8) (v := .int ((s1 + s2) &&& (65535 : Int32))) (ty := .int) (C := RX9) (T := TX9) (N := 33) hx hb hts (fun w h => List.mem_cons_of_mem _ (in_X9 w h)) tyX9 tyX9_ok nmX9 hown hK hP hD hS 0 rfl rfl 4 (by decide) (hts _ (List.mem_cons_of_mem _ tw_3_191)) (fun _ h9 => h9) rfl (by decide +kernel) rfl rfl (Nat.le_of_ble_eq_true rfl) dX9_jump_36 (fun H locs hP hD hS => ?_)
    have hP : va_P (dC, dI) vwCl (w_Model h cI cJ (upd σ.1 4 ((s1 + s2) &&& (65535 : Int32)), σ.2.1, σ.2.2)) _ := hP
    have hD : va_D A (w_Model h cI cJ (upd σ.1 4 ((s1 + s2) &&& (65535 : Int32)), σ.2.1, σ.2.2)) := hD
    refine lv_iload_n hx hb dX9_jump_39 rfl (lv_at hl 1 rfl) ?_
    refine lv_aload_n hx hb dX9_jump_40 rfl (lv_at hl 0 rfl) ?_
    refine va_get (D := (dC, dI)) (ci := 8) (v := .int ((s1 + s2) &&& (65535 : Int32))) (C := RX9) (T := TX9) (N := 33) hx hb hts (fun w h => List.mem_cons_of_mem _ (in_X9 w h)) hown hK hP 0 rfl rfl 4 (by decide) (hts _ (List.mem_cons_of_mem _ tw_3_191)) (fun _ h9 => h9) rfl dX9_jump_41 ?_
    refine lv_bipush (v := 8) hx hb dX9_jump_44 (by decide) ?_
    refine lv_ishr hx hb dX9_jump_46 ?_
    refine lv_topi (fun v1 ev1 => ?_)
    have hok := hok v1 ev1
    refine lv_iload hx hb dX9_jump_47 (lv_at hl 2 rfl) ?_
    refine lv_bipush (v := 8) hx hb dX9_jump_49 (by decide) ?_
    refine lv_ishr hx hb dX9_jump_51 ?_
    refine lv_icmp_ne (tgt := 59) hx hb dX9_jump_52 (by decide) (fun c2 => ?_) (fun c2 => ?_)
    · have hok := hok.2 c2
      refine lv_iconst (v := 2) hx hb dX9_jump_59 (by decide) ?_
      refine lv_iadd hx hb dX9_jump_60 ?_
      exact W.iret (v := x3 + (2 : Int32)) hx hb hr (fun t ht hW => ⟨⟨x3 + (2 : Int32), (upd σ.1 4 ((s1 + s2) &&& (65535 : Int32)), σ.2.1, σ.2.2), rfl, hok, by rw [ht]; exact hP, va_K.moved hW.alike hK, hD⟩, hS.F ht⟩) hS.2.2 dX9_jump_61
    · have hok := hok.1 c2
      refine lv_iconst (v := 1) hx hb dX9_jump_55 (by decide) ?_
      refine lv_goto (tgt := 60) hx hb dX9_jump_56 (by decide) ?_
      refine lv_iadd hx hb dX9_jump_60 ?_
      exact W.iret (v := x3 + (1 : Int32)) hx hb hr (fun t ht hW => ⟨⟨x3 + (1 : Int32), (upd σ.1 4 ((s1 + s2) &&& (65535 : Int32)), σ.2.1, σ.2.2), rfl, hok, by rw [ht]; exact hP, va_K.moved hW.alike hK, hD⟩, hS.F ht⟩) hS.2.2 dX9_jump_61
  have hl := lv_entry ([.ref (h 13), .int a1, .int a2, .int a3]) (n := 5) (Nat.le_of_ble_eq_true rfl)
  rw [lg_entry_eq]
  generalize (lg_sl ([.ref (h 13), .int a1, .int a2, .int a3]) ++ List.replicate (5 - (lg_sl ([.ref (h 13), .int a1, .int a2, .int a3])).length) Slot.unset).toArray = ls at hl ⊢
  have hl : lv_has ls 5 [(0, .ref (h 13)), (1, .int a1), (2, .int a2), (3, .int a3)] := hl
  unfold wp_X9_jump at hok
  refine lv_iload_n hx hb dX9_jump_0 rfl (lv_at hl 1 rfl) ?_
  refine lv_if_ne (tgt := 6) hx hb dX9_jump_1 (by decide) (fun c3 => ?_) (fun c3 => ?_)
  · have hok := hok.2 c3
    refine lv_aload_n hx hb dX9_jump_6 rfl (lv_at hl 0 rfl) ?_
    refine va_get (D := (dC, dI)) (ci := 8) (v := .int (σ.1 4)) (C := RX9) (T := TX9) (N := 33) hx hb hts (fun w h => List.mem_cons_of_mem _ (in_X9 w h)) hown hK hP 0 rfl rfl 4 (by decide) (hts _ (List.mem_cons_of_mem _ tw_3_191)) (fun _ h9 => h9) rfl dX9_jump_7 ?_
    refine lv_istore (lv' := [(4, .int (σ.1 4)), (0, .ref (h 13)), (1, .int a1), (2, .int a2), (3, .int a3)]) hx hb dX9_jump_10 hl (by decide) rfl (fun ls hl => ?_)
    refine lv_aload_n hx hb dX9_jump_12 rfl (lv_at hl 1 rfl) ?_
    refine lv_aload_n hx hb dX9_jump_13 rfl (lv_at hl 1 rfl) ?_
    refine va_get (D := (dC, dI)) (ci := 8) (v := .int (σ.1 4)) (C := RX9) (T := TX9) (N := 33) hx hb hts (fun w h => List.mem_cons_of_mem _ (in_X9 w h)) hown hK hP 0 rfl rfl 4 (by decide) (hts _ (List.mem_cons_of_mem _ tw_3_191)) (fun _ h9 => h9) rfl dX9_jump_14 ?_
    refine lv_iload_n hx hb dX9_jump_17 rfl (lv_at hl 3 rfl) ?_
    refine lv_bipush (v := 127) hx hb dX9_jump_18 (by decide) ?_
    refine lv_icmp_le (tgt := 31) hx hb dX9_jump_20 (by decide) (fun c4 => ?_) (fun c4 => ?_)
    · have hok := hok.1 c4
      refine lv_iload_n hx hb dX9_jump_31 rfl (lv_at hl 3 rfl) ?_
      exact b32 σ a3 (σ.1 4) (σ.1 4) a2 hok _ _ hP hD hS _ (lv_sub hl [1, 4, 0] rfl)
    · have hok := hok.2 c4
      refine lv_iload_n hx hb dX9_jump_23 rfl (lv_at hl 3 rfl) ?_
      refine lv_sipush (v := 256) hx hb dX9_jump_24 (by decide) ?_
      refine lv_isub hx hb dX9_jump_27 ?_
      refine lv_goto (tgt := 32) hx hb dX9_jump_28 (by decide) ?_
      exact b32 σ a3 (σ.1 4) (σ.1 4) (a2 - (256 : Int32)) hok _ _ hP hD hS _ (lv_sub hl [1, 4, 0] rfl)
  · have hok := hok.1 c3
    refine lv_iload_n hx hb dX9_jump_4 rfl (lv_at hl 3 rfl) ?_
    exact W.iret (v := a3) hx hb hr (fun t ht hW => ⟨⟨a3, σ, rfl, hok, by rw [ht]; exact hP, va_K.moved hW.alike hK, hD⟩, hS.F ht⟩) hS.2.2 dX9_jump_5
def wp_X9_branch_54 (σ : S_Model) (x1 : Int32) (x2 : Int32) (s0 : Int32) (Φ : Int32 → S_Model → Prop) : Prop := ((x1 = (128 : Int32) → (wp_X9_jump σ 1 (σ.1 9) 2 (fun r2 u3 => Φ r2 u3))) ∧ (¬ x1 = (128 : Int32) → (wp_X9_is σ x2 (fun r4 => ((r4 = s0 → (wp_X9_jump σ 1 (σ.1 9) 2 (fun r8 u9 => Φ r8 u9))) ∧ (¬ r4 = s0 → (wp_X9_jump σ 0 (σ.1 9) 2 (fun r6 u7 => Φ r6 u7))))))))
def wp_X9_branch_39 (σ : S_Model) (x1 : Int32) (s0 : Int32) (Φ : Int32 → S_Model → Prop) : Prop := ∀ v10 : Int32, v10 = (x1 >>> ((5 : Int32) &&& 31)) &&& (1 : Int32) → ((v10 = (1 : Int32) → (wp_X9_branch_54 σ x1 s0 1 Φ)) ∧ (¬ v10 = (1 : Int32) → (wp_X9_branch_54 σ x1 s0 0 Φ)))
def wp_X9_branch (σ : S_Model) (a1 : Int32) (Φ : Int32 → S_Model → Prop) : Prop := (((a1 >>> ((6 : Int32) &&& 31)) = 0 → (wp_X9_branch_39 σ a1 128 Φ)) ∧ (¬ (a1 >>> ((6 : Int32) &&& 31)) = 0 → ((((a1 >>> ((6 : Int32) &&& 31)) = (1 : Int32) → (wp_X9_branch_39 σ a1 64 Φ)) ∧ (¬ (a1 >>> ((6 : Int32) &&& 31)) = (1 : Int32) → ((((a1 >>> ((6 : Int32) &&& 31)) = (2 : Int32) → (wp_X9_branch_39 σ a1 1 Φ)) ∧ (¬ (a1 >>> ((6 : Int32) &&& 31)) = (2 : Int32) → (wp_X9_branch_39 σ a1 2 Φ)))))))))
set_option maxHeartbeats 4000000 in
set_option maxRecDepth 100000 in
theorem c_X9_branch (l : Launch) (dC : Nat → ClassId) (dI : Nat → Nat → Nat) (cI cJ : ClassId) (h : Nat → Nat) (sz : Nat) {σ : S_Model} {a1 : Int32} {Φ : Int32 → S_Model → Prop} (hok : wp_X9_branch σ a1 Φ) : Met l yX9_branch wsX9_branch ({ frames := 1, cells := 0, slots := 0, locals := 24 }) (va_Pc [.ref (h 13), .int a1] (cpre dC dI cI cJ (w_Model h cI cJ σ) sz)) (va_Qi Φ (fun u => cpost dC dI cI cJ (va_A (w_Model h cI cJ σ) sz) (w_Model h cI cJ u)) (va_A (w_Model h cI cJ σ) sz)) 0 0 (va_A (w_Model h cI cJ σ) sz) := by
  refine Met.ofW (cc := cX9_branch) (maxL := 4) (ret := (some .int)) (by decide) rfl ?_
  intro p e s m args below meth c s₁ B hml hv
  obtain ⟨rfl, hsz, hP, hK, hD0⟩ := hv
  have hx := B.exec
  have hb := B.bytes
  have hr := B.returns
  have hts := atoms_spec (ws := wsX9_branch) B.pre
  have hown : s.vm.findClass RX9 = some m.cls := findClass_of_methodNamed B.named
  have hlocks := B.notSynchronized
  subst hsz
  have hD := hD0.self (sz := s.heap.size)
  generalize hAe : va_A (w_Model h cI cJ σ) s.heap.size = A at hD ⊢
  have hA : ∀ q : Nat, s.heap.size ≤ q → A q := fun q h => by rw [← hAe]; exact Or.inr h
  clear hD0 hAe
  have hS : va_S A s.heap s.heap [] := va_S.rf
  have b54 : ∀ (σ : S_Model) (x1 : Int32) (x2 : Int32) (s0 : Int32), wp_X9_branch_54 σ x1 x2 s0 Φ → ∀ (H : Heap) (locs : List Loc), va_P (dC, dI) vwCl (w_Model h cI cJ σ) H → va_D A (w_Model h cI cJ σ) → va_S A s.heap H locs → ∀ ls : Array Slot, lv_has ls 4 [(0, .ref (h 13)), (1, .int x1), (2, .int x2)] → W p l e (headSpec wsX9_branch { frames := 1, cells := 0, slots := 0, locals := 24 }).room s m ([.ref (h 13), .int a1] : List Value).toArray below meth c H locs 0 0 (MQ below (va_Qi Φ (fun u => cpost dC dI cI cJ A (w_Model h cI cJ u)) A) ([.ref (h 13), .int a1] : List Value).toArray s 0 0 A) (F0 m 54 ls [.int s0]) := by
    intro σ x1 x2 s0 hok H locs hP hD hS ls hl
    unfold wp_X9_branch_54 at hok
    refine lv_istore_n (lv' := [(3, .int s0), (0, .ref (h 13)), (1, .int x1), (2, .int x2)]) hx hb dX9_branch_54 rfl hl (by decide) rfl (fun ls hl => ?_)
    refine lv_aload_n hx hb dX9_branch_55 rfl (lv_at hl 1 rfl) ?_
    refine lv_iload_n hx hb dX9_branch_56 rfl (lv_at hl 2 rfl) ?_
    refine lv_sipush (v := 128) hx hb dX9_branch_57 (by decide) ?_
    refine lv_icmp_eq (tgt := 72) hx hb dX9_branch_60 (by decide) (fun c1 => ?_) (fun c1 => ?_)
    · have hok := hok.1 c1
      refine lv_iconst (v := 1) hx hb dX9_branch_72 (by decide) ?_
      refine lv_goto (tgt := 77) hx hb dX9_branch_73 (by decide) ?_
      refine lv_aload_n hx hb dX9_branch_77 rfl (lv_at hl 1 rfl) ?_
      refine va_get (D := (dC, dI)) (ci := 8) (v := .int (σ.1 9)) (C := RX9) (T := TX9) (N := 33) hx hb hts (fun w h => List.mem_cons_of_mem _ (in_X9 w h)) hown hK hP 0 rfl rfl 9 (by decide) (hts _ (List.mem_cons_of_mem _ tw_3_196)) (fun _ h9 => h9) rfl dX9_branch_78 ?_
      refine lv_iconst (v := 2) hx hb dX9_branch_81 (by decide) ?_
      have hPc := hP
      have hDc := hD
      have hFc := va_free (wc := w_Model h cI cJ σ) hD hS hA [0, 1, 2, 3, 4, 5, 6] rfl
      refine va_calli (va_runV (As := [.int 1, .int (σ.1 9), .int 2]) (rest := []) ⟨hx, hb, hml, hown, hts⟩ (c_X9_jump l dC dI cI cJ h _ hok) (cwV 3 hts (tb_gV tw_4_128 tw_4_130 tw_p_51 tw_1_9 tw_4_131) rfl rfl rfl (by decide +kernel) ⟨Nat.le_of_ble_eq_true rfl, Nat.le_of_ble_eq_true rfl⟩) (cpre_V (ci := 8) (q0 := 0) hK hPc hDc rfl rfl) rfl rfl hl.1 rfl (lv_room (Nat.le_of_ble_eq_true rfl)) dX9_branch_82 ⟨Nat.le_of_ble_eq_true rfl, Nat.le_of_ble_eq_true rfl⟩) hS (fun q _ h => hFc q h) hFc (fun r2 u3 t H1 locs ht hvm hok hB hz1 hk1 hS => ?_)
      obtain ⟨hP, hD⟩ := cjoin_w ht hB hFc
      exact W.iret (v := r2) hx hb hr (fun t ht hW => ⟨⟨r2, u3, rfl, hok, by rw [ht]; exact hP, va_K.moved hW.alike hK, hD⟩, hS.F ht⟩) hS.2.2 dX9_branch_85
    · have hok := hok.2 c1
      refine lv_aload_n hx hb dX9_branch_63 rfl (lv_at hl 1 rfl) ?_
      refine lv_iload_n hx hb dX9_branch_64 rfl (lv_at hl 3 rfl) ?_
      have hPc := hP
      have hDc := hD
      have hFc := va_free (wc := w_Model h cI cJ σ) hD hS hA [0, 1, 2, 3, 4, 5, 6] rfl
      refine va_calli (va_runV (As := [.int x2]) (rest := [.ref (h 13)]) ⟨hx, hb, hml, hown, hts⟩ (c_X9_is l dC dI cI cJ h _ hok) (cwV 1 hts (tb_gV tw_4_112 tw_4_114 tw_p_48 tw_1_9 tw_4_115) rfl rfl rfl (by decide +kernel) ⟨Nat.le_of_ble_eq_true rfl, Nat.le_of_ble_eq_true rfl⟩) (cpre_V (ci := 8) (q0 := 0) hK hPc hDc rfl rfl) rfl rfl hl.1 rfl (lv_room (Nat.le_of_ble_eq_true rfl)) dX9_branch_65 ⟨Nat.le_of_ble_eq_true rfl, Nat.le_of_ble_eq_true rfl⟩) hS (fun q _ h => hFc q h) hFc (fun r4 _ t H1 locs ht hvm hok hB hz1 hk1 hS => ?_)
      obtain ⟨hP, hD⟩ := cjoin_w ht hB hFc
      refine lv_iload_n hx hb dX9_branch_68 rfl (lv_at hl 0 rfl) ?_
      refine lv_icmp_ne (tgt := 76) hx hb dX9_branch_69 (by decide) (fun c5 => ?_) (fun c5 => ?_)
      · have hok := hok.2 c5
        refine lv_iconst (v := 0) hx hb dX9_branch_76 (by decide) ?_
        refine lv_aload_n hx hb dX9_branch_77 rfl (lv_at hl 1 rfl) ?_
        refine va_get (D := (dC, dI)) (ci := 8) (v := .int (σ.1 9)) (C := RX9) (T := TX9) (N := 33) hx hb hts (fun w h => List.mem_cons_of_mem _ (in_X9 w h)) hown hK hP 0 rfl rfl 9 (by decide) (hts _ (List.mem_cons_of_mem _ tw_3_196)) (fun _ h9 => h9) rfl dX9_branch_78 ?_
        refine lv_iconst (v := 2) hx hb dX9_branch_81 (by decide) ?_
        have hPc := hP
        have hDc := hD
        have hFc := va_free (wc := w_Model h cI cJ σ) hD hS hA [0, 1, 2, 3, 4, 5, 6] rfl
        refine va_calli (va_runV (As := [.int 0, .int (σ.1 9), .int 2]) (rest := []) ⟨hx, hb, hml, hown, hts⟩ (c_X9_jump l dC dI cI cJ h _ hok) (cwV 3 hts (tb_gV tw_4_128 tw_4_130 tw_p_51 tw_1_9 tw_4_131) rfl rfl rfl (by decide +kernel) ⟨Nat.le_of_ble_eq_true rfl, Nat.le_of_ble_eq_true rfl⟩) (cpre_V (ci := 8) (q0 := 0) hK hPc hDc rfl rfl) rfl rfl hl.1 rfl (lv_room (Nat.le_of_ble_eq_true rfl)) dX9_branch_82 ⟨Nat.le_of_ble_eq_true rfl, Nat.le_of_ble_eq_true rfl⟩) hS (fun q _ h => hFc q h) hFc (fun r6 u7 t H1 locs ht hvm hok hB hz1 hk1 hS => ?_)
        obtain ⟨hP, hD⟩ := cjoin_w ht hB hFc
        exact W.iret (v := r6) hx hb hr (fun t ht hW => ⟨⟨r6, u7, rfl, hok, by rw [ht]; exact hP, va_K.moved hW.alike hK, hD⟩, hS.F ht⟩) hS.2.2 dX9_branch_85
      · have hok := hok.1 c5
        refine lv_iconst (v := 1) hx hb dX9_branch_72 (by decide) ?_
        refine lv_goto (tgt := 77) hx hb dX9_branch_73 (by decide) ?_
        refine lv_aload_n hx hb dX9_branch_77 rfl (lv_at hl 1 rfl) ?_
        refine va_get (D := (dC, dI)) (ci := 8) (v := .int (σ.1 9)) (C := RX9) (T := TX9) (N := 33) hx hb hts (fun w h => List.mem_cons_of_mem _ (in_X9 w h)) hown hK hP 0 rfl rfl 9 (by decide) (hts _ (List.mem_cons_of_mem _ tw_3_196)) (fun _ h9 => h9) rfl dX9_branch_78 ?_
        refine lv_iconst (v := 2) hx hb dX9_branch_81 (by decide) ?_
        have hPc := hP
        have hDc := hD
        have hFc := va_free (wc := w_Model h cI cJ σ) hD hS hA [0, 1, 2, 3, 4, 5, 6] rfl
        refine va_calli (va_runV (As := [.int 1, .int (σ.1 9), .int 2]) (rest := []) ⟨hx, hb, hml, hown, hts⟩ (c_X9_jump l dC dI cI cJ h _ hok) (cwV 3 hts (tb_gV tw_4_128 tw_4_130 tw_p_51 tw_1_9 tw_4_131) rfl rfl rfl (by decide +kernel) ⟨Nat.le_of_ble_eq_true rfl, Nat.le_of_ble_eq_true rfl⟩) (cpre_V (ci := 8) (q0 := 0) hK hPc hDc rfl rfl) rfl rfl hl.1 rfl (lv_room (Nat.le_of_ble_eq_true rfl)) dX9_branch_82 ⟨Nat.le_of_ble_eq_true rfl, Nat.le_of_ble_eq_true rfl⟩) hS (fun q _ h => hFc q h) hFc (fun r8 u9 t H1 locs ht hvm hok hB hz1 hk1 hS => ?_)
        obtain ⟨hP, hD⟩ := cjoin_w ht hB hFc
        exact W.iret (v := r8) hx hb hr (fun t ht hW => ⟨⟨r8, u9, rfl, hok, by rw [ht]; exact hP, va_K.moved hW.alike hK, hD⟩, hS.F ht⟩) hS.2.2 dX9_branch_85
  have b39 : ∀ (σ : S_Model) (x1 : Int32) (s0 : Int32), wp_X9_branch_39 σ x1 s0 Φ → ∀ (H : Heap) (locs : List Loc), va_P (dC, dI) vwCl (w_Model h cI cJ σ) H → va_D A (w_Model h cI cJ σ) → va_S A s.heap H locs → ∀ ls : Array Slot, lv_has ls 4 [(0, .ref (h 13)), (1, .int x1)] → W p l e (headSpec wsX9_branch { frames := 1, cells := 0, slots := 0, locals := 24 }).room s m ([.ref (h 13), .int a1] : List Value).toArray below meth c H locs 0 0 (MQ below (va_Qi Φ (fun u => cpost dC dI cI cJ A (w_Model h cI cJ u)) A) ([.ref (h 13), .int a1] : List Value).toArray s 0 0 A) (F0 m 39 ls [.int s0]) := by
    intro σ x1 s0 hok H locs hP hD hS ls hl
    unfold wp_X9_branch_39 at hok
    refine lv_istore_n (lv' := [(2, .int s0), (0, .ref (h 13)), (1, .int x1)]) hx hb dX9_branch_39 rfl hl (by decide) rfl (fun ls hl => ?_)
    refine lv_iload_n hx hb dX9_branch_40 rfl (lv_at hl 2 rfl) ?_
    refine lv_iconst (v := 5) hx hb dX9_branch_41 (by decide) ?_
    refine lv_ishr hx hb dX9_branch_42 ?_
    refine lv_iconst (v := 1) hx hb dX9_branch_43 (by decide) ?_
    refine lv_iand hx hb dX9_branch_44 ?_
    refine lv_topi (fun v10 ev10 => ?_)
    have hok := hok v10 ev10
    refine lv_iconst (v := 1) hx hb dX9_branch_45 (by decide) ?_
    refine lv_icmp_ne (tgt := 53) hx hb dX9_branch_46 (by decide) (fun c11 => ?_) (fun c11 => ?_)
    · have hok := hok.2 c11
      refine lv_iconst (v := 0) hx hb dX9_branch_53 (by decide) ?_
      exact b54 σ x1 s0 0 hok _ _ hP hD hS _ (lv_sub hl [1, 2, 0] rfl)
    · have hok := hok.1 c11
      refine lv_iconst (v := 1) hx hb dX9_branch_49 (by decide) ?_
      refine lv_goto (tgt := 54) hx hb dX9_branch_50 (by decide) ?_
      exact b54 σ x1 s0 1 hok _ _ hP hD hS _ (lv_sub hl [1, 2, 0] rfl)
  have hl := lv_entry ([.ref (h 13), .int a1]) (n := 4) (Nat.le_of_ble_eq_true rfl)
  rw [lg_entry_eq]
  generalize (lg_sl ([.ref (h 13), .int a1]) ++ List.replicate (4 - (lg_sl ([.ref (h 13), .int a1])).length) Slot.unset).toArray = ls at hl ⊢
  have hl : lv_has ls 4 [(0, .ref (h 13)), (1, .int a1)] := hl
  unfold wp_X9_branch at hok
  refine lv_iload_n hx hb dX9_branch_0 rfl (lv_at hl 1 rfl) ?_
  refine lv_bipush (v := 6) hx hb dX9_branch_1 (by decide) ?_
  refine lv_ishr hx hb dX9_branch_3 ?_
  refine lv_if_ne (tgt := 13) hx hb dX9_branch_4 (by decide) (fun c12 => ?_) (fun c12 => ?_)
  · have hok := hok.2 c12
    refine lv_iload_n hx hb dX9_branch_13 rfl (lv_at hl 1 rfl) ?_
    refine lv_bipush (v := 6) hx hb dX9_branch_14 (by decide) ?_
    refine lv_ishr hx hb dX9_branch_16 ?_
    refine lv_iconst (v := 1) hx hb dX9_branch_17 (by decide) ?_
    refine lv_icmp_ne (tgt := 26) hx hb dX9_branch_18 (by decide) (fun c13 => ?_) (fun c13 => ?_)
    · have hok := hok.2 c13
      refine lv_iload_n hx hb dX9_branch_26 rfl (lv_at hl 1 rfl) ?_
      refine lv_bipush (v := 6) hx hb dX9_branch_27 (by decide) ?_
      refine lv_ishr hx hb dX9_branch_29 ?_
      refine lv_iconst (v := 2) hx hb dX9_branch_30 (by decide) ?_
      refine lv_icmp_ne (tgt := 38) hx hb dX9_branch_31 (by decide) (fun c14 => ?_) (fun c14 => ?_)
      · have hok := hok.2 c14
        refine lv_iconst (v := 2) hx hb dX9_branch_38 (by decide) ?_
        exact b39 σ a1 2 hok _ _ hP hD hS _ (lv_sub hl [0, 1] rfl)
      · have hok := hok.1 c14
        refine lv_iconst (v := 1) hx hb dX9_branch_34 (by decide) ?_
        refine lv_goto (tgt := 39) hx hb dX9_branch_35 (by decide) ?_
        exact b39 σ a1 1 hok _ _ hP hD hS _ (lv_sub hl [0, 1] rfl)
    · have hok := hok.1 c13
      refine lv_bipush (v := 64) hx hb dX9_branch_21 (by decide) ?_
      refine lv_goto (tgt := 39) hx hb dX9_branch_23 (by decide) ?_
      exact b39 σ a1 64 hok _ _ hP hD hS _ (lv_sub hl [0, 1] rfl)
  · have hok := hok.1 c12
    refine lv_sipush (v := 128) hx hb dX9_branch_7 (by decide) ?_
    refine lv_goto (tgt := 39) hx hb dX9_branch_10 (by decide) ?_
    exact b39 σ a1 128 hok _ _ hP hD hS _ (lv_sub hl [0, 1] rfl)
def wp_X9_single_53 (σ : S_Model) (x3 : Int32) (s1 : Int32) (Φ : Int32 → S_Model → Prop) : Prop := ((s1 = x3 → (wp_X9_jump σ 1 ((σ.1 10) >>> ((8 : Int32) &&& 31)) 5 (fun r4 u5 => Φ r4 u5))) ∧ (¬ s1 = x3 → (wp_X9_jump σ 0 ((σ.1 10) >>> ((8 : Int32) &&& 31)) 5 (fun r2 u3 => Φ r2 u3))))
def wp_X9_single_20 (σ : S_Model) (x1 : Int32) (x2 : Int32) (s0 : Int32) (Φ : Int32 → S_Model → Prop) : Prop := wp_X9_read σ (σ.1 9) (fun r6 u7 => (((x1 &&& (15 : Int32)) = (15 : Int32) → ((((r6 &&& x2) = 0 → (wp_X9_single_53 u7 s0 0 Φ)) ∧ (¬ (r6 &&& x2) = 0 → (wp_X9_single_53 u7 s0 1 Φ))))) ∧ (¬ (x1 &&& (15 : Int32)) = (15 : Int32) → (((s0 = 0 → (wp_X9_write u7 (u7.1 9) (r6 &&& (x2 ^^^ (-1 : Int32))) (fun u10 => Φ 5 u10))) ∧ (¬ s0 = 0 → (wp_X9_write u7 (u7.1 9) (r6 ||| x2) (fun u11 => Φ 5 u11))))))))
def wp_X9_single (σ : S_Model) (a1 : Int32) (Φ : Int32 → S_Model → Prop) : Prop := ∀ v13 : Int32, v13 = (a1 >>> ((4 : Int32) &&& 31)) &&& (7 : Int32) → ((a1 ≤ (127 : Int32) → (wp_X9_single_20 σ a1 ((1 : Int32) <<< (v13 &&& 31)) 0 Φ)) ∧ (¬ a1 ≤ (127 : Int32) → (wp_X9_single_20 σ a1 ((1 : Int32) <<< (v13 &&& 31)) 1 Φ)))
set_option maxHeartbeats 4000000 in
set_option maxRecDepth 100000 in
theorem c_X9_single (l : Launch) (dC : Nat → ClassId) (dI : Nat → Nat → Nat) (cI cJ : ClassId) (h : Nat → Nat) (sz : Nat) {σ : S_Model} {a1 : Int32} {Φ : Int32 → S_Model → Prop} (hok : wp_X9_single σ a1 Φ) : Met l yX9_single wsX9_single ({ frames := 3, cells := 0, slots := 0, locals := 65 }) (va_Pc [.ref (h 13), .int a1] (cpre dC dI cI cJ (w_Model h cI cJ σ) sz)) (va_Qi Φ (fun u => cpost dC dI cI cJ (va_A (w_Model h cI cJ σ) sz) (w_Model h cI cJ u)) (va_A (w_Model h cI cJ σ) sz)) 0 0 (va_A (w_Model h cI cJ σ) sz) := by
  refine Met.ofW (cc := cX9_single) (maxL := 5) (ret := (some .int)) (by decide) rfl ?_
  intro p e s m args below meth c s₁ B hml hv
  obtain ⟨rfl, hsz, hP, hK, hD0⟩ := hv
  have hx := B.exec
  have hb := B.bytes
  have hr := B.returns
  have hts := atoms_spec (ws := wsX9_single) B.pre
  have hown : s.vm.findClass RX9 = some m.cls := findClass_of_methodNamed B.named
  have hlocks := B.notSynchronized
  subst hsz
  have hD := hD0.self (sz := s.heap.size)
  generalize hAe : va_A (w_Model h cI cJ σ) s.heap.size = A at hD ⊢
  have hA : ∀ q : Nat, s.heap.size ≤ q → A q := fun q h => by rw [← hAe]; exact Or.inr h
  clear hD0 hAe
  have hS : va_S A s.heap s.heap [] := va_S.rf
  have b53 : ∀ (σ : S_Model) (x3 : Int32) (s1 : Int32), wp_X9_single_53 σ x3 s1 Φ → ∀ (H : Heap) (locs : List Loc), va_P (dC, dI) vwCl (w_Model h cI cJ σ) H → va_D A (w_Model h cI cJ σ) → va_S A s.heap H locs → ∀ ls : Array Slot, lv_has ls 5 [(0, .ref (h 13)), (3, .int x3)] → W p l e (headSpec wsX9_single { frames := 3, cells := 0, slots := 0, locals := 65 }).room s m ([.ref (h 13), .int a1] : List Value).toArray below meth c H locs 0 0 (MQ below (va_Qi Φ (fun u => cpost dC dI cI cJ A (w_Model h cI cJ u)) A) ([.ref (h 13), .int a1] : List Value).toArray s 0 0 A) (F0 m 53 ls [.int s1, .ref (h 13)]) := by
    intro σ x3 s1 hok H locs hP hD hS ls hl
    unfold wp_X9_single_53 at hok
    refine lv_iload_n hx hb dX9_single_53 rfl (lv_at hl 1 rfl) ?_
    refine lv_icmp_ne (tgt := 61) hx hb dX9_single_54 (by decide) (fun c1 => ?_) (fun c1 => ?_)
    · have hok := hok.2 c1
      refine lv_iconst (v := 0) hx hb dX9_single_61 (by decide) ?_
      refine lv_aload_n hx hb dX9_single_62 rfl (lv_at hl 0 rfl) ?_
      refine va_get (D := (dC, dI)) (ci := 8) (v := .int (σ.1 10)) (C := RX9) (T := TX9) (N := 33) hx hb hts (fun w h => List.mem_cons_of_mem _ (in_X9 w h)) hown hK hP 0 rfl rfl 10 (by decide) (hts _ (List.mem_cons_of_mem _ tw_3_197)) (fun _ h9 => h9) rfl dX9_single_63 ?_
      refine lv_bipush (v := 8) hx hb dX9_single_66 (by decide) ?_
      refine lv_ishr hx hb dX9_single_68 ?_
      refine lv_iconst (v := 5) hx hb dX9_single_69 (by decide) ?_
      have hPc := hP
      have hDc := hD
      have hFc := va_free (wc := w_Model h cI cJ σ) hD hS hA [0, 1, 2, 3, 4, 5, 6] rfl
      refine va_calli (va_runV (As := [.int 0, .int ((σ.1 10) >>> ((8 : Int32) &&& 31)), .int 5]) (rest := []) ⟨hx, hb, hml, hown, hts⟩ (c_X9_jump l dC dI cI cJ h _ hok) (cwV 3 hts (tb_gV tw_4_128 tw_4_130 tw_p_51 tw_1_9 tw_4_131) rfl rfl rfl (by decide +kernel) ⟨Nat.le_of_ble_eq_true rfl, Nat.le_of_ble_eq_true rfl⟩) (cpre_V (ci := 8) (q0 := 0) hK hPc hDc rfl rfl) rfl rfl hl.1 rfl (lv_room (Nat.le_of_ble_eq_true rfl)) dX9_single_70 ⟨Nat.le_of_ble_eq_true rfl, Nat.le_of_ble_eq_true rfl⟩) hS (fun q _ h => hFc q h) hFc (fun r2 u3 t H1 locs ht hvm hok hB hz1 hk1 hS => ?_)
      obtain ⟨hP, hD⟩ := cjoin_w ht hB hFc
      exact W.iret (v := r2) hx hb hr (fun t ht hW => ⟨⟨r2, u3, rfl, hok, by rw [ht]; exact hP, va_K.moved hW.alike hK, hD⟩, hS.F ht⟩) hS.2.2 dX9_single_73
    · have hok := hok.1 c1
      refine lv_iconst (v := 1) hx hb dX9_single_57 (by decide) ?_
      refine lv_goto (tgt := 62) hx hb dX9_single_58 (by decide) ?_
      refine lv_aload_n hx hb dX9_single_62 rfl (lv_at hl 0 rfl) ?_
      refine va_get (D := (dC, dI)) (ci := 8) (v := .int (σ.1 10)) (C := RX9) (T := TX9) (N := 33) hx hb hts (fun w h => List.mem_cons_of_mem _ (in_X9 w h)) hown hK hP 0 rfl rfl 10 (by decide) (hts _ (List.mem_cons_of_mem _ tw_3_197)) (fun _ h9 => h9) rfl dX9_single_63 ?_
      refine lv_bipush (v := 8) hx hb dX9_single_66 (by decide) ?_
      refine lv_ishr hx hb dX9_single_68 ?_
      refine lv_iconst (v := 5) hx hb dX9_single_69 (by decide) ?_
      have hPc := hP
      have hDc := hD
      have hFc := va_free (wc := w_Model h cI cJ σ) hD hS hA [0, 1, 2, 3, 4, 5, 6] rfl
      refine va_calli (va_runV (As := [.int 1, .int ((σ.1 10) >>> ((8 : Int32) &&& 31)), .int 5]) (rest := []) ⟨hx, hb, hml, hown, hts⟩ (c_X9_jump l dC dI cI cJ h _ hok) (cwV 3 hts (tb_gV tw_4_128 tw_4_130 tw_p_51 tw_1_9 tw_4_131) rfl rfl rfl (by decide +kernel) ⟨Nat.le_of_ble_eq_true rfl, Nat.le_of_ble_eq_true rfl⟩) (cpre_V (ci := 8) (q0 := 0) hK hPc hDc rfl rfl) rfl rfl hl.1 rfl (lv_room (Nat.le_of_ble_eq_true rfl)) dX9_single_70 ⟨Nat.le_of_ble_eq_true rfl, Nat.le_of_ble_eq_true rfl⟩) hS (fun q _ h => hFc q h) hFc (fun r4 u5 t H1 locs ht hvm hok hB hz1 hk1 hS => ?_)
      obtain ⟨hP, hD⟩ := cjoin_w ht hB hFc
      exact W.iret (v := r4) hx hb hr (fun t ht hW => ⟨⟨r4, u5, rfl, hok, by rw [ht]; exact hP, va_K.moved hW.alike hK, hD⟩, hS.F ht⟩) hS.2.2 dX9_single_73
  have b20 : ∀ (σ : S_Model) (x1 : Int32) (x2 : Int32) (s0 : Int32), wp_X9_single_20 σ x1 x2 s0 Φ → ∀ (H : Heap) (locs : List Loc), va_P (dC, dI) vwCl (w_Model h cI cJ σ) H → va_D A (w_Model h cI cJ σ) → va_S A s.heap H locs → ∀ ls : Array Slot, lv_has ls 5 [(0, .ref (h 13)), (1, .int x1), (2, .int x2)] → W p l e (headSpec wsX9_single { frames := 3, cells := 0, slots := 0, locals := 65 }).room s m ([.ref (h 13), .int a1] : List Value).toArray below meth c H locs 0 0 (MQ below (va_Qi Φ (fun u => cpost dC dI cI cJ A (w_Model h cI cJ u)) A) ([.ref (h 13), .int a1] : List Value).toArray s 0 0 A) (F0 m 20 ls [.int s0]) := by
    intro σ x1 x2 s0 hok H locs hP hD hS ls hl
    unfold wp_X9_single_20 at hok
    refine lv_istore_n (lv' := [(3, .int s0), (0, .ref (h 13)), (1, .int x1), (2, .int x2)]) hx hb dX9_single_20 rfl hl (by decide) rfl (fun ls hl => ?_)
    refine lv_aload_n hx hb dX9_single_21 rfl (lv_at hl 1 rfl) ?_
    refine lv_aload_n hx hb dX9_single_22 rfl (lv_at hl 1 rfl) ?_
    refine va_get (D := (dC, dI)) (ci := 8) (v := .int (σ.1 9)) (C := RX9) (T := TX9) (N := 33) hx hb hts (fun w h => List.mem_cons_of_mem _ (in_X9 w h)) hown hK hP 0 rfl rfl 9 (by decide) (hts _ (List.mem_cons_of_mem _ tw_3_196)) (fun _ h9 => h9) rfl dX9_single_23 ?_
    have hPc := hP
    have hDc := hD
    have hFc := va_free (wc := w_Model h cI cJ σ) hD hS hA [0, 1, 2, 3, 4, 5, 6] rfl
    refine va_calli (va_runV (As := [.int (σ.1 9)]) (rest := []) ⟨hx, hb, hml, hown, hts⟩ (c_X9_read l dC dI cI cJ h _ hok) (cwV 1 hts (tb_gV tw_4_93 tw_4_95 tw_p_44 tw_1_9 tw_4_96) rfl rfl rfl (by decide +kernel) ⟨Nat.le_of_ble_eq_true rfl, Nat.le_of_ble_eq_true rfl⟩) (cpre_V (ci := 8) (q0 := 0) hK hPc hDc rfl rfl) rfl rfl hl.1 rfl (lv_room (Nat.le_of_ble_eq_true rfl)) dX9_single_26 ⟨Nat.le_of_ble_eq_true rfl, Nat.le_of_ble_eq_true rfl⟩) hS (fun q _ h => hFc q h) hFc (fun r6 u7 t H1 locs ht hvm hok hB hz1 hk1 hS => ?_)
    obtain ⟨hP, hD⟩ := cjoin_w ht hB hFc
    refine lv_istore (lv' := [(4, .int r6), (3, .int s0), (0, .ref (h 13)), (1, .int x1), (2, .int x2)]) hx hb dX9_single_29 hl (by decide) rfl (fun ls hl => ?_)
    refine lv_iload_n hx hb dX9_single_31 rfl (lv_at hl 3 rfl) ?_
    refine lv_bipush (v := 15) hx hb dX9_single_32 (by decide) ?_
    refine lv_iand hx hb dX9_single_34 ?_
    refine lv_bipush (v := 15) hx hb dX9_single_35 (by decide) ?_
    refine lv_icmp_ne (tgt := 74) hx hb dX9_single_37 (by decide) (fun c8 => ?_) (fun c8 => ?_)
    · have hok := hok.2 c8
      refine lv_aload_n hx hb dX9_single_74 rfl (lv_at hl 2 rfl) ?_
      refine lv_aload_n hx hb dX9_single_75 rfl (lv_at hl 2 rfl) ?_
      refine va_get (D := (dC, dI)) (ci := 8) (v := .int (u7.1 9)) (C := RX9) (T := TX9) (N := 33) hx hb hts (fun w h => List.mem_cons_of_mem _ (in_X9 w h)) hown hK hP 0 rfl rfl 9 (by decide) (hts _ (List.mem_cons_of_mem _ tw_3_196)) (fun _ h9 => h9) rfl dX9_single_76 ?_
      refine lv_iload_n hx hb dX9_single_79 rfl (lv_at hl 1 rfl) ?_
      refine lv_if_eq (tgt := 90) hx hb dX9_single_80 (by decide) (fun c9 => ?_) (fun c9 => ?_)
      · have hok := hok.1 c9
        refine lv_iload hx hb dX9_single_90 (lv_at hl 0 rfl) ?_
        refine lv_iload_n hx hb dX9_single_92 rfl (lv_at hl 4 rfl) ?_
        refine lv_iconst (v := (-1)) hx hb dX9_single_93 (by decide) ?_
        refine lv_ixor hx hb dX9_single_94 ?_
        refine lv_iand hx hb dX9_single_95 ?_
        have hPc := hP
        have hDc := hD
        have hFc := va_free (wc := w_Model h cI cJ u7) hD hS hA [0, 1, 2, 3, 4, 5, 6] rfl
        refine va_callv (va_runV (As := [.int (u7.1 9), .int (r6 &&& (x2 ^^^ (-1 : Int32)))]) (rest := []) ⟨hx, hb, hml, hown, hts⟩ (c_X9_write l dC dI cI cJ h _ hok) (cwV 2 hts (tb_gV tw_4_72 tw_4_74 tw_p_40 tw_1_9 tw_4_75) rfl rfl rfl (by decide +kernel) ⟨Nat.le_of_ble_eq_true rfl, Nat.le_of_ble_eq_true rfl⟩) (cpre_V (ci := 8) (q0 := 0) hK hPc hDc rfl rfl) rfl rfl hl.1 rfl (lv_room (Nat.le_of_ble_eq_true rfl)) dX9_single_96 ⟨Nat.le_of_ble_eq_true rfl, Nat.le_of_ble_eq_true rfl⟩) hS (fun q _ h => hFc q h) hFc (fun u10 t H1 locs ht hvm hok hB hz1 hk1 hS => ?_)
        obtain ⟨hP, hD⟩ := cjoin_w ht hB hFc
        refine lv_iconst (v := 5) hx hb dX9_single_99 (by decide) ?_
        exact W.iret (v := 5) hx hb hr (fun t ht hW => ⟨⟨5, u10, rfl, hok, by rw [ht]; exact hP, va_K.moved hW.alike hK, hD⟩, hS.F ht⟩) hS.2.2 dX9_single_100
      · have hok := hok.2 c9
        refine lv_iload hx hb dX9_single_83 (lv_at hl 0 rfl) ?_
        refine lv_iload_n hx hb dX9_single_85 rfl (lv_at hl 4 rfl) ?_
        refine lv_ior hx hb dX9_single_86 ?_
        refine lv_goto (tgt := 96) hx hb dX9_single_87 (by decide) ?_
        have hPc := hP
        have hDc := hD
        have hFc := va_free (wc := w_Model h cI cJ u7) hD hS hA [0, 1, 2, 3, 4, 5, 6] rfl
        refine va_callv (va_runV (As := [.int (u7.1 9), .int (r6 ||| x2)]) (rest := []) ⟨hx, hb, hml, hown, hts⟩ (c_X9_write l dC dI cI cJ h _ hok) (cwV 2 hts (tb_gV tw_4_72 tw_4_74 tw_p_40 tw_1_9 tw_4_75) rfl rfl rfl (by decide +kernel) ⟨Nat.le_of_ble_eq_true rfl, Nat.le_of_ble_eq_true rfl⟩) (cpre_V (ci := 8) (q0 := 0) hK hPc hDc rfl rfl) rfl rfl hl.1 rfl (lv_room (Nat.le_of_ble_eq_true rfl)) dX9_single_96 ⟨Nat.le_of_ble_eq_true rfl, Nat.le_of_ble_eq_true rfl⟩) hS (fun q _ h => hFc q h) hFc (fun u11 t H1 locs ht hvm hok hB hz1 hk1 hS => ?_)
        obtain ⟨hP, hD⟩ := cjoin_w ht hB hFc
        refine lv_iconst (v := 5) hx hb dX9_single_99 (by decide) ?_
        exact W.iret (v := 5) hx hb hr (fun t ht hW => ⟨⟨5, u11, rfl, hok, by rw [ht]; exact hP, va_K.moved hW.alike hK, hD⟩, hS.F ht⟩) hS.2.2 dX9_single_100
    · have hok := hok.1 c8
      refine lv_aload_n hx hb dX9_single_40 rfl (lv_at hl 2 rfl) ?_
      refine lv_iload hx hb dX9_single_41 (lv_at hl 0 rfl) ?_
      refine lv_iload_n hx hb dX9_single_43 rfl (lv_at hl 4 rfl) ?_
      refine lv_iand hx hb dX9_single_44 ?_
      refine lv_if_eq (tgt := 52) hx hb dX9_single_45 (by decide) (fun c12 => ?_) (fun c12 => ?_)
      · have hok := hok.1 c12
        refine lv_iconst (v := 0) hx hb dX9_single_52 (by decide) ?_
        exact b53 u7 s0 0 hok _ _ hP hD hS _ (lv_sub hl [2, 1] rfl)
      · have hok := hok.2 c12
        refine lv_iconst (v := 1) hx hb dX9_single_48 (by decide) ?_
        refine lv_goto (tgt := 53) hx hb dX9_single_49 (by decide) ?_
        exact b53 u7 s0 1 hok _ _ hP hD hS _ (lv_sub hl [2, 1] rfl)
  have hl := lv_entry ([.ref (h 13), .int a1]) (n := 5) (Nat.le_of_ble_eq_true rfl)
  rw [lg_entry_eq]
  generalize (lg_sl ([.ref (h 13), .int a1]) ++ List.replicate (5 - (lg_sl ([.ref (h 13), .int a1])).length) Slot.unset).toArray = ls at hl ⊢
  have hl : lv_has ls 5 [(0, .ref (h 13)), (1, .int a1)] := hl
  unfold wp_X9_single at hok
  refine lv_iconst (v := 1) hx hb dX9_single_0 (by decide) ?_
  refine lv_iload_n hx hb dX9_single_1 rfl (lv_at hl 1 rfl) ?_
  refine lv_iconst (v := 4) hx hb dX9_single_2 (by decide) ?_
  refine lv_ishr hx hb dX9_single_3 ?_
  refine lv_bipush (v := 7) hx hb dX9_single_4 (by decide) ?_
  refine lv_iand hx hb dX9_single_6 ?_
  refine lv_topi (fun v13 ev13 => ?_)
  have hok := hok v13 ev13
  refine lv_ishl hx hb dX9_single_7 ?_
  refine lv_istore_n (lv' := [(2, .int ((1 : Int32) <<< (v13 &&& 31))), (0, .ref (h 13)), (1, .int a1)]) hx hb dX9_single_8 rfl hl (by decide) rfl (fun ls hl => ?_)
  refine lv_iload_n hx hb dX9_single_9 rfl (lv_at hl 2 rfl) ?_
  refine lv_bipush (v := 127) hx hb dX9_single_10 (by decide) ?_
  refine lv_icmp_le (tgt := 19) hx hb dX9_single_12 (by decide) (fun c14 => ?_) (fun c14 => ?_)
  · have hok := hok.1 c14
    refine lv_iconst (v := 0) hx hb dX9_single_19 (by decide) ?_
    exact b20 σ a1 ((1 : Int32) <<< (v13 &&& 31)) 0 hok _ _ hP hD hS _ (lv_sub hl [1, 2, 0] rfl)
  · have hok := hok.2 c14
    refine lv_iconst (v := 1) hx hb dX9_single_15 (by decide) ?_
    refine lv_goto (tgt := 20) hx hb dX9_single_16 (by decide) ?_
    exact b20 σ a1 ((1 : Int32) <<< (v13 &&& 31)) 1 hok _ _ hP hD hS _ (lv_sub hl [1, 2, 0] rfl)
def wp_X9_interrupt_48 (σ : S_Model) (x1 : Int32) (s1 : Int32) (Φ : S_Model → Prop) : Prop := wp_X9_push σ s1 (fun u1 => wp_X9_flag u1 4 1 (fun u2 => wp_X9_flag u2 8 0 (fun u3 => wp_X9_wordAt u3 x1 (fun r4 u5 => Φ (upd u5.1 4 r4, u5.2.1, u5.2.2)))))
def wp_X9_interrupt (σ : S_Model) (a1 : Int32) (a2 : Int32) (Φ : S_Model → Prop) : Prop := wp_X9_push σ ((σ.1 4) >>> ((8 : Int32) &&& 31)) (fun u6 => wp_X9_push u6 ((u6.1 4) &&& (255 : Int32)) (fun u7 => ((a2 = 0 → (∀ v9 : Int32, v9 = ((u7.1 3) &&& (-17 : Int32)) ||| (32 : Int32) → wp_X9_interrupt_48 u7 a1 v9 Φ)) ∧ (¬ a2 = 0 → (wp_X9_interrupt_48 u7 a1 ((u7.1 3) ||| (48 : Int32)) Φ)))))
set_option maxHeartbeats 4000000 in
set_option maxRecDepth 100000 in
theorem c_X9_interrupt (l : Launch) (dC : Nat → ClassId) (dI : Nat → Nat → Nat) (cI cJ : ClassId) (h : Nat → Nat) (sz : Nat) {σ : S_Model} {a1 : Int32} {a2 : Int32} {Φ : S_Model → Prop} (hok : wp_X9_interrupt σ a1 a2 Φ) : Met l yX9_interrupt wsX9_interrupt ({ frames := 4, cells := 0, slots := 0, locals := 87 }) (va_Pc [.ref (h 13), .int a1, .int a2] (cpre dC dI cI cJ (w_Model h cI cJ σ) sz)) (va_Qv Φ (fun u => cpost dC dI cI cJ (va_A (w_Model h cI cJ σ) sz) (w_Model h cI cJ u)) (va_A (w_Model h cI cJ σ) sz)) 0 0 (va_A (w_Model h cI cJ σ) sz) := by
  refine Met.ofW (cc := cX9_interrupt) (maxL := 3) (ret := none) (by decide) rfl ?_
  intro p e s m args below meth c s₁ B hml hv
  obtain ⟨rfl, hsz, hP, hK, hD0⟩ := hv
  have hx := B.exec
  have hb := B.bytes
  have hr := B.returns
  have hts := atoms_spec (ws := wsX9_interrupt) B.pre
  have hown : s.vm.findClass RX9 = some m.cls := findClass_of_methodNamed B.named
  have hlocks := B.notSynchronized
  subst hsz
  have hD := hD0.self (sz := s.heap.size)
  generalize hAe : va_A (w_Model h cI cJ σ) s.heap.size = A at hD ⊢
  have hA : ∀ q : Nat, s.heap.size ≤ q → A q := fun q h => by rw [← hAe]; exact Or.inr h
  clear hD0 hAe
  have hS : va_S A s.heap s.heap [] := va_S.rf
  have b48 : ∀ (σ : S_Model) (x1 : Int32) (s1 : Int32), wp_X9_interrupt_48 σ x1 s1 Φ → ∀ (H : Heap) (locs : List Loc), va_P (dC, dI) vwCl (w_Model h cI cJ σ) H → va_D A (w_Model h cI cJ σ) → va_S A s.heap H locs → ∀ ls : Array Slot, lv_has ls 3 [(0, .ref (h 13)), (1, .int x1)] → W p l e (headSpec wsX9_interrupt { frames := 4, cells := 0, slots := 0, locals := 87 }).room s m ([.ref (h 13), .int a1, .int a2] : List Value).toArray below meth c H locs 0 0 (MQ below (va_Qv Φ (fun u => cpost dC dI cI cJ A (w_Model h cI cJ u)) A) ([.ref (h 13), .int a1, .int a2] : List Value).toArray s 0 0 A) (F0 m 48 ls [.int s1, .ref (h 13)]) := by
    intro σ x1 s1 hok H locs hP hD hS ls hl
    unfold wp_X9_interrupt_48 at hok
    have hPc := hP
    have hDc := hD
    have hFc := va_free (wc := w_Model h cI cJ σ) hD hS hA [0, 1, 2, 3, 4, 5, 6] rfl
    refine va_callv (va_runV (As := [.int s1]) (rest := []) ⟨hx, hb, hml, hown, hts⟩ (c_X9_push l dC dI cI cJ h _ hok) (cwV 1 hts (tb_gV tw_4_68 tw_4_70 tw_p_39 tw_1_9 tw_4_71) rfl rfl rfl (by decide +kernel) ⟨Nat.le_of_ble_eq_true rfl, Nat.le_of_ble_eq_true rfl⟩) (cpre_V (ci := 8) (q0 := 0) hK hPc hDc rfl rfl) rfl rfl hl.1 rfl (lv_room (Nat.le_of_ble_eq_true rfl)) dX9_interrupt_48 ⟨Nat.le_of_ble_eq_true rfl, Nat.le_of_ble_eq_true rfl⟩) hS (fun q _ h => hFc q h) hFc (fun u1 t H1 locs ht hvm hok hB hz1 hk1 hS => ?_)
    obtain ⟨hP, hD⟩ := cjoin_w ht hB hFc
    refine lv_aload_n hx hb dX9_interrupt_51 rfl (lv_at hl 0 rfl) ?_
    refine lv_iconst (v := 4) hx hb dX9_interrupt_52 (by decide) ?_
    refine lv_iconst (v := 1) hx hb dX9_interrupt_53 (by decide) ?_
    have hPc := hP
    have hDc := hD
    have hFc := va_free (wc := w_Model h cI cJ u1) hD hS hA [0, 1, 2, 3, 4, 5, 6] rfl
    refine va_callv (va_runV (As := [.int 4, .int 1]) (rest := []) ⟨hx, hb, hml, hown, hts⟩ (c_X9_flag l dC dI cI cJ h _ hok) (cwV 2 hts (tb_gV tw_4_85 tw_4_87 tw_p_42 tw_1_9 tw_4_88) rfl rfl rfl (by decide +kernel) ⟨Nat.le_of_ble_eq_true rfl, Nat.le_of_ble_eq_true rfl⟩) (cpre_V (ci := 8) (q0 := 0) hK hPc hDc rfl rfl) rfl rfl hl.1 rfl (lv_room (Nat.le_of_ble_eq_true rfl)) dX9_interrupt_54 ⟨Nat.le_of_ble_eq_true rfl, Nat.le_of_ble_eq_true rfl⟩) hS (fun q _ h => hFc q h) hFc (fun u2 t H1 locs ht hvm hok hB hz1 hk1 hS => ?_)
    obtain ⟨hP, hD⟩ := cjoin_w ht hB hFc
    refine lv_aload_n hx hb dX9_interrupt_57 rfl (lv_at hl 0 rfl) ?_
    refine lv_bipush (v := 8) hx hb dX9_interrupt_58 (by decide) ?_
    refine lv_iconst (v := 0) hx hb dX9_interrupt_60 (by decide) ?_
    have hPc := hP
    have hDc := hD
    have hFc := va_free (wc := w_Model h cI cJ u2) hD hS hA [0, 1, 2, 3, 4, 5, 6] rfl
    refine va_callv (va_runV (As := [.int 8, .int 0]) (rest := []) ⟨hx, hb, hml, hown, hts⟩ (c_X9_flag l dC dI cI cJ h _ hok) (cwV 2 hts (tb_gV tw_4_85 tw_4_87 tw_p_42 tw_1_9 tw_4_88) rfl rfl rfl (by decide +kernel) ⟨Nat.le_of_ble_eq_true rfl, Nat.le_of_ble_eq_true rfl⟩) (cpre_V (ci := 8) (q0 := 0) hK hPc hDc rfl rfl) rfl rfl hl.1 rfl (lv_room (Nat.le_of_ble_eq_true rfl)) dX9_interrupt_61 ⟨Nat.le_of_ble_eq_true rfl, Nat.le_of_ble_eq_true rfl⟩) hS (fun q _ h => hFc q h) hFc (fun u3 t H1 locs ht hvm hok hB hz1 hk1 hS => ?_)
    obtain ⟨hP, hD⟩ := cjoin_w ht hB hFc
    refine lv_aload_n hx hb dX9_interrupt_64 rfl (lv_at hl 0 rfl) ?_
    refine lv_aload_n hx hb dX9_interrupt_65 rfl (lv_at hl 0 rfl) ?_
    refine lv_iload_n hx hb dX9_interrupt_66 rfl (lv_at hl 1 rfl) ?_
    have hPc := hP
    have hDc := hD
    have hFc := va_free (wc := w_Model h cI cJ u3) hD hS hA [0, 1, 2, 3, 4, 5, 6] rfl
    refine va_calli (va_runV (As := [.int x1]) (rest := [.ref (h 13)]) ⟨hx, hb, hml, hown, hts⟩ (c_X9_wordAt l dC dI cI cJ h _ hok) (cwV 1 hts (tb_gV tw_4_89 tw_4_91 tw_p_43 tw_1_9 tw_4_92) rfl rfl rfl (by decide +kernel) ⟨Nat.le_of_ble_eq_true rfl, Nat.le_of_ble_eq_true rfl⟩) (cpre_V (ci := 8) (q0 := 0) hK hPc hDc rfl rfl) rfl rfl hl.1 rfl (lv_room (Nat.le_of_ble_eq_true rfl)) dX9_interrupt_67 ⟨Nat.le_of_ble_eq_true rfl, Nat.le_of_ble_eq_true rfl⟩) hS (fun q _ h => hFc q h) hFc (fun r4 u5 t H1 locs ht hvm hok hB hz1 hk1 hS => ?_)
    obtain ⟨hP, hD⟩ := cjoin_w ht hB hFc
    refine va_put (D := (dC, dI)) (ci := 8) (v := .int r4) (ty := .int) (C := RX9) (T := TX9) (N := 33) hx hb hts (fun w h => List.mem_cons_of_mem _ (in_X9 w h)) tyX9 tyX9_ok nmX9 hown hK hP hD hS 0 rfl rfl 4 (by decide) (hts _ (List.mem_cons_of_mem _ tw_3_191)) (fun _ h9 => h9) rfl (by decide +kernel) rfl rfl (Nat.le_of_ble_eq_true rfl) dX9_interrupt_70 (fun H locs hP hD hS => ?_)
    have hP : va_P (dC, dI) vwCl (w_Model h cI cJ (upd u5.1 4 r4, u5.2.1, u5.2.2)) _ := hP
    have hD : va_D A (w_Model h cI cJ (upd u5.1 4 r4, u5.2.1, u5.2.2)) := hD
    exact W.vret hx hb hr (fun t ht hW => ⟨⟨(upd u5.1 4 r4, u5.2.1, u5.2.2), rfl, hok, by rw [ht]; exact hP, va_K.moved hW.alike hK, hD⟩, hS.F ht⟩) hS.2.2 dX9_interrupt_73
  have hl := lv_entry ([.ref (h 13), .int a1, .int a2]) (n := 3) (Nat.le_of_ble_eq_true rfl)
  rw [lg_entry_eq]
  generalize (lg_sl ([.ref (h 13), .int a1, .int a2]) ++ List.replicate (3 - (lg_sl ([.ref (h 13), .int a1, .int a2])).length) Slot.unset).toArray = ls at hl ⊢
  have hl : lv_has ls 3 [(0, .ref (h 13)), (1, .int a1), (2, .int a2)] := hl
  unfold wp_X9_interrupt at hok
  refine lv_aload_n hx hb dX9_interrupt_0 rfl (lv_at hl 0 rfl) ?_
  refine lv_aload_n hx hb dX9_interrupt_1 rfl (lv_at hl 0 rfl) ?_
  refine va_get (D := (dC, dI)) (ci := 8) (v := .int (σ.1 4)) (C := RX9) (T := TX9) (N := 33) hx hb hts (fun w h => List.mem_cons_of_mem _ (in_X9 w h)) hown hK hP 0 rfl rfl 4 (by decide) (hts _ (List.mem_cons_of_mem _ tw_3_191)) (fun _ h9 => h9) rfl dX9_interrupt_2 ?_
  refine lv_bipush (v := 8) hx hb dX9_interrupt_5 (by decide) ?_
  refine lv_ishr hx hb dX9_interrupt_7 ?_
  have hPc := hP
  have hDc := hD
  have hFc := va_free (wc := w_Model h cI cJ σ) hD hS hA [0, 1, 2, 3, 4, 5, 6] rfl
  refine va_callv (va_runV (As := [.int ((σ.1 4) >>> ((8 : Int32) &&& 31))]) (rest := []) ⟨hx, hb, hml, hown, hts⟩ (c_X9_push l dC dI cI cJ h _ hok) (cwV 1 hts (tb_gV tw_4_68 tw_4_70 tw_p_39 tw_1_9 tw_4_71) rfl rfl rfl (by decide +kernel) ⟨Nat.le_of_ble_eq_true rfl, Nat.le_of_ble_eq_true rfl⟩) (cpre_V (ci := 8) (q0 := 0) hK hPc hDc rfl rfl) rfl rfl hl.1 rfl (lv_room (Nat.le_of_ble_eq_true rfl)) dX9_interrupt_8 ⟨Nat.le_of_ble_eq_true rfl, Nat.le_of_ble_eq_true rfl⟩) hS (fun q _ h => hFc q h) hFc (fun u6 t H1 locs ht hvm hok hB hz1 hk1 hS => ?_)
  obtain ⟨hP, hD⟩ := cjoin_w ht hB hFc
  refine lv_aload_n hx hb dX9_interrupt_11 rfl (lv_at hl 0 rfl) ?_
  refine lv_aload_n hx hb dX9_interrupt_12 rfl (lv_at hl 0 rfl) ?_
  refine va_get (D := (dC, dI)) (ci := 8) (v := .int (u6.1 4)) (C := RX9) (T := TX9) (N := 33) hx hb hts (fun w h => List.mem_cons_of_mem _ (in_X9 w h)) hown hK hP 0 rfl rfl 4 (by decide) (hts _ (List.mem_cons_of_mem _ tw_3_191)) (fun _ h9 => h9) rfl dX9_interrupt_13 ?_
  refine lv_sipush (v := 255) hx hb dX9_interrupt_16 (by decide) ?_
  refine lv_iand hx hb dX9_interrupt_19 ?_
  have hPc := hP
  have hDc := hD
  have hFc := va_free (wc := w_Model h cI cJ u6) hD hS hA [0, 1, 2, 3, 4, 5, 6] rfl
  refine va_callv (va_runV (As := [.int ((u6.1 4) &&& (255 : Int32))]) (rest := []) ⟨hx, hb, hml, hown, hts⟩ (c_X9_push l dC dI cI cJ h _ hok) (cwV 1 hts (tb_gV tw_4_68 tw_4_70 tw_p_39 tw_1_9 tw_4_71) rfl rfl rfl (by decide +kernel) ⟨Nat.le_of_ble_eq_true rfl, Nat.le_of_ble_eq_true rfl⟩) (cpre_V (ci := 8) (q0 := 0) hK hPc hDc rfl rfl) rfl rfl hl.1 rfl (lv_room (Nat.le_of_ble_eq_true rfl)) dX9_interrupt_20 ⟨Nat.le_of_ble_eq_true rfl, Nat.le_of_ble_eq_true rfl⟩) hS (fun q _ h => hFc q h) hFc (fun u7 t H1 locs ht hvm hok hB hz1 hk1 hS => ?_)
  obtain ⟨hP, hD⟩ := cjoin_w ht hB hFc
  refine lv_aload_n hx hb dX9_interrupt_23 rfl (lv_at hl 0 rfl) ?_
  refine lv_iload_n hx hb dX9_interrupt_24 rfl (lv_at hl 2 rfl) ?_
  refine lv_if_eq (tgt := 38) hx hb dX9_interrupt_25 (by decide) (fun c8 => ?_) (fun c8 => ?_)
  · have hok := hok.1 c8
    refine lv_aload_n hx hb dX9_interrupt_38 rfl (lv_at hl 0 rfl) ?_
    refine va_get (D := (dC, dI)) (ci := 8) (v := .int (u7.1 3)) (C := RX9) (T := TX9) (N := 33) hx hb hts (fun w h => List.mem_cons_of_mem _ (in_X9 w h)) hown hK hP 0 rfl rfl 3 (by decide) (hts _ (List.mem_cons_of_mem _ tw_3_190)) (fun _ h9 => h9) rfl dX9_interrupt_39 ?_
    refine lv_bipush (v := (-17)) hx hb dX9_interrupt_42 (by decide) ?_
    refine lv_iand hx hb dX9_interrupt_44 ?_
    refine lv_bipush (v := 32) hx hb dX9_interrupt_45 (by decide) ?_
    refine lv_ior hx hb dX9_interrupt_47 ?_
    refine lv_topi (fun v9 ev9 => ?_)
    have hok := hok v9 ev9
    exact b48 u7 a1 v9 hok _ _ hP hD hS _ (lv_sub hl [0, 1] rfl)
  · have hok := hok.2 c8
    refine lv_aload_n hx hb dX9_interrupt_28 rfl (lv_at hl 0 rfl) ?_
    refine va_get (D := (dC, dI)) (ci := 8) (v := .int (u7.1 3)) (C := RX9) (T := TX9) (N := 33) hx hb hts (fun w h => List.mem_cons_of_mem _ (in_X9 w h)) hown hK hP 0 rfl rfl 3 (by decide) (hts _ (List.mem_cons_of_mem _ tw_3_190)) (fun _ h9 => h9) rfl dX9_interrupt_29 ?_
    refine lv_bipush (v := 48) hx hb dX9_interrupt_32 (by decide) ?_
    refine lv_ior hx hb dX9_interrupt_34 ?_
    refine lv_goto (tgt := 48) hx hb dX9_interrupt_35 (by decide) ?_
    exact b48 u7 a1 ((u7.1 3) ||| (48 : Int32)) hok _ _ hP hD hS _ (lv_sub hl [0, 1] rfl)
def wp_X9_calls_92 (σ : S_Model) (x1 : Int32) (Φ : Int32 → S_Model → Prop) : Prop := wp_X9_pull σ (fun r1 u2 => wp_X9_pull u2 (fun r3 u4 => ((x1 = (96 : Int32) → (∀ v6 : Int32, v6 = (r1 ||| (r3 <<< ((8 : Int32) &&& 31))) + (1 : Int32) → Φ 6 (upd u4.1 4 (v6 &&& (65535 : Int32)), u4.2.1, u4.2.2))) ∧ (¬ x1 = (96 : Int32) → (Φ 6 (upd u4.1 4 (r1 ||| (r3 <<< ((8 : Int32) &&& 31))), u4.2.1, u4.2.2))))))
def wp_X9_calls (σ : S_Model) (a1 : Int32) (Φ : Int32 → S_Model → Prop) : Prop := ((a1 = (32 : Int32) → (∀ v13 : Int32, v13 = ((σ.1 4) - (1 : Int32)) >>> ((8 : Int32) &&& 31) → wp_X9_push σ (v13 &&& (255 : Int32)) (fun u14 => wp_X9_push u14 (((u14.1 4) - (1 : Int32)) &&& (255 : Int32)) (fun u15 => Φ 6 (upd u15.1 4 (u15.1 10), u15.2.1, u15.2.2))))) ∧ (¬ a1 = (32 : Int32) → (((a1 = 0 → (wp_X9_interrupt (upd σ.1 4 (((σ.1 4) + (1 : Int32)) &&& (65535 : Int32)), σ.2.1, σ.2.2) 65534 1 (fun u12 => Φ 7 u12))) ∧ (¬ a1 = 0 → (((a1 = (64 : Int32) → (wp_X9_pull σ (fun r10 u11 => wp_X9_calls_92 (upd u11.1 3 (r10 ||| (48 : Int32)), u11.2.1, u11.2.2) a1 Φ))) ∧ (¬ a1 = (64 : Int32) → (wp_X9_calls_92 σ a1 Φ)))))))))
set_option maxHeartbeats 4000000 in
set_option maxRecDepth 100000 in
theorem c_X9_calls (l : Launch) (dC : Nat → ClassId) (dI : Nat → Nat → Nat) (cI cJ : ClassId) (h : Nat → Nat) (sz : Nat) {σ : S_Model} {a1 : Int32} {Φ : Int32 → S_Model → Prop} (hok : wp_X9_calls σ a1 Φ) : Met l yX9_calls wsX9_calls ({ frames := 5, cells := 0, slots := 0, locals := 109 }) (va_Pc [.ref (h 13), .int a1] (cpre dC dI cI cJ (w_Model h cI cJ σ) sz)) (va_Qi Φ (fun u => cpost dC dI cI cJ (va_A (w_Model h cI cJ σ) sz) (w_Model h cI cJ u)) (va_A (w_Model h cI cJ σ) sz)) 0 0 (va_A (w_Model h cI cJ σ) sz) := by
  refine Met.ofW (cc := cX9_calls) (maxL := 3) (ret := (some .int)) (by decide) rfl ?_
  intro p e s m args below meth c s₁ B hml hv
  obtain ⟨rfl, hsz, hP, hK, hD0⟩ := hv
  have hx := B.exec
  have hb := B.bytes
  have hr := B.returns
  have hts := atoms_spec (ws := wsX9_calls) B.pre
  have hown : s.vm.findClass RX9 = some m.cls := findClass_of_methodNamed B.named
  have hlocks := B.notSynchronized
  subst hsz
  have hD := hD0.self (sz := s.heap.size)
  generalize hAe : va_A (w_Model h cI cJ σ) s.heap.size = A at hD ⊢
  have hA : ∀ q : Nat, s.heap.size ≤ q → A q := fun q h => by rw [← hAe]; exact Or.inr h
  clear hD0 hAe
  have hS : va_S A s.heap s.heap [] := va_S.rf
  have b92 : ∀ (σ : S_Model) (x1 : Int32), wp_X9_calls_92 σ x1 Φ → ∀ (H : Heap) (locs : List Loc), va_P (dC, dI) vwCl (w_Model h cI cJ σ) H → va_D A (w_Model h cI cJ σ) → va_S A s.heap H locs → ∀ ls : Array Slot, lv_has ls 3 [(0, .ref (h 13)), (1, .int x1)] → W p l e (headSpec wsX9_calls { frames := 5, cells := 0, slots := 0, locals := 109 }).room s m ([.ref (h 13), .int a1] : List Value).toArray below meth c H locs 0 0 (MQ below (va_Qi Φ (fun u => cpost dC dI cI cJ A (w_Model h cI cJ u)) A) ([.ref (h 13), .int a1] : List Value).toArray s 0 0 A) (F0 m 92 ls []) := by
    intro σ x1 hok H locs hP hD hS ls hl
    unfold wp_X9_calls_92 at hok
    refine lv_aload_n hx hb dX9_calls_92 rfl (lv_at hl 0 rfl) ?_
    have hPc := hP
    have hDc := hD
    have hFc := va_free (wc := w_Model h cI cJ σ) hD hS hA [0, 1, 2, 3, 4, 5, 6] rfl
    refine va_calli (va_runV (As := []) (rest := []) ⟨hx, hb, hml, hown, hts⟩ (c_X9_pull l dC dI cI cJ h _ hok) (cwV 0 hts (tb_gV tw_4_136 tw_4_138 tw_p_53 tw_1_9 tw_4_139) rfl rfl rfl (by decide +kernel) ⟨Nat.le_of_ble_eq_true rfl, Nat.le_of_ble_eq_true rfl⟩) (cpre_V (ci := 8) (q0 := 0) hK hPc hDc rfl rfl) rfl rfl hl.1 rfl (lv_room (Nat.le_of_ble_eq_true rfl)) dX9_calls_93 ⟨Nat.le_of_ble_eq_true rfl, Nat.le_of_ble_eq_true rfl⟩) hS (fun q _ h => hFc q h) hFc (fun r1 u2 t H1 locs ht hvm hok hB hz1 hk1 hS => ?_)
    obtain ⟨hP, hD⟩ := cjoin_w ht hB hFc
    refine lv_istore_n (lv' := [(2, .int r1), (0, .ref (h 13)), (1, .int x1)]) hx hb dX9_calls_96 rfl hl (by decide) rfl (fun ls hl => ?_)
    refine lv_aload_n hx hb dX9_calls_97 rfl (lv_at hl 1 rfl) ?_
    refine lv_iload_n hx hb dX9_calls_98 rfl (lv_at hl 0 rfl) ?_
    refine lv_aload_n hx hb dX9_calls_99 rfl (lv_at hl 1 rfl) ?_
    have hPc := hP
    have hDc := hD
    have hFc := va_free (wc := w_Model h cI cJ u2) hD hS hA [0, 1, 2, 3, 4, 5, 6] rfl
    refine va_calli (va_runV (As := []) (rest := [.int r1, .ref (h 13)]) ⟨hx, hb, hml, hown, hts⟩ (c_X9_pull l dC dI cI cJ h _ hok) (cwV 0 hts (tb_gV tw_4_136 tw_4_138 tw_p_53 tw_1_9 tw_4_139) rfl rfl rfl (by decide +kernel) ⟨Nat.le_of_ble_eq_true rfl, Nat.le_of_ble_eq_true rfl⟩) (cpre_V (ci := 8) (q0 := 0) hK hPc hDc rfl rfl) rfl rfl hl.1 rfl (lv_room (Nat.le_of_ble_eq_true rfl)) dX9_calls_100 ⟨Nat.le_of_ble_eq_true rfl, Nat.le_of_ble_eq_true rfl⟩) hS (fun q _ h => hFc q h) hFc (fun r3 u4 t H1 locs ht hvm hok hB hz1 hk1 hS => ?_)
    obtain ⟨hP, hD⟩ := cjoin_w ht hB hFc
    refine lv_bipush (v := 8) hx hb dX9_calls_103 (by decide) ?_
    refine lv_ishl hx hb dX9_calls_105 ?_
    refine lv_ior hx hb dX9_calls_106 ?_
    refine va_put (D := (dC, dI)) (ci := 8) (v := .int (r1 ||| (r3 <<< ((8 : Int32) &&& 31)))) (ty := .int) (C := RX9) (T := TX9) (N := 33) hx hb hts (fun w h => List.mem_cons_of_mem _ (in_X9 w h)) tyX9 tyX9_ok nmX9 hown hK hP hD hS 0 rfl rfl 4 (by decide) (hts _ (List.mem_cons_of_mem _ tw_3_191)) (fun _ h9 => h9) rfl (by decide +kernel) rfl rfl (Nat.le_of_ble_eq_true rfl) dX9_calls_107 (fun H locs hP hD hS => ?_)
    have hP : va_P (dC, dI) vwCl (w_Model h cI cJ (upd u4.1 4 (r1 ||| (r3 <<< ((8 : Int32) &&& 31))), u4.2.1, u4.2.2)) _ := hP
    have hD : va_D A (w_Model h cI cJ (upd u4.1 4 (r1 ||| (r3 <<< ((8 : Int32) &&& 31))), u4.2.1, u4.2.2)) := hD
    refine lv_aload_n hx hb dX9_calls_110 rfl (lv_at hl 1 rfl) ?_
    refine lv_iload_n hx hb dX9_calls_111 rfl (lv_at hl 2 rfl) ?_
    refine lv_bipush (v := 96) hx hb dX9_calls_112 (by decide) ?_
    refine lv_icmp_ne (tgt := 129) hx hb dX9_calls_114 (by decide) (fun c5 => ?_) (fun c5 => ?_)
    · have hok := hok.2 c5
      refine lv_aload_n hx hb dX9_calls_129 rfl (lv_at hl 1 rfl) ?_
      refine va_get (D := (dC, dI)) (ci := 8) (v := .int (r1 ||| (r3 <<< ((8 : Int32) &&& 31)))) (C := RX9) (T := TX9) (N := 33) hx hb hts (fun w h => List.mem_cons_of_mem _ (in_X9 w h)) hown hK hP 0 rfl rfl 4 (by decide) (hts _ (List.mem_cons_of_mem _ tw_3_191)) (fun _ h9 => h9) rfl dX9_calls_130 ?_
      refine va_put (D := (dC, dI)) (ci := 8) (v := .int (r1 ||| (r3 <<< ((8 : Int32) &&& 31)))) (ty := .int) (C := RX9) (T := TX9) (N := 33) hx hb hts (fun w h => List.mem_cons_of_mem _ (in_X9 w h)) tyX9 tyX9_ok nmX9 hown hK hP hD hS 0 rfl rfl 4 (by decide) (hts _ (List.mem_cons_of_mem _ tw_3_191)) (fun _ h9 => h9) rfl (by decide +kernel) rfl rfl (Nat.le_of_ble_eq_true rfl) dX9_calls_133 (fun H locs hP hD hS => ?_)
      have hP : va_P (dC, dI) vwCl (w_Model h cI cJ (upd u4.1 4 (r1 ||| (r3 <<< ((8 : Int32) &&& 31))), u4.2.1, u4.2.2)) _ := hP
      have hD : va_D A (w_Model h cI cJ (upd u4.1 4 (r1 ||| (r3 <<< ((8 : Int32) &&& 31))), u4.2.1, u4.2.2)) := hD
      refine lv_bipush (v := 6) hx hb dX9_calls_136 (by decide) ?_
      exact W.iret (v := 6) hx hb hr (fun t ht hW => ⟨⟨6, (upd u4.1 4 (r1 ||| (r3 <<< ((8 : Int32) &&& 31))), u4.2.1, u4.2.2), rfl, hok, by rw [ht]; exact hP, va_K.moved hW.alike hK, hD⟩, hS.F ht⟩) hS.2.2 dX9_calls_138
    · have hok := hok.1 c5
      refine lv_aload_n hx hb dX9_calls_117 rfl (lv_at hl 1 rfl) ?_
      refine va_get (D := (dC, dI)) (ci := 8) (v := .int (r1 ||| (r3 <<< ((8 : Int32) &&& 31)))) (C := RX9) (T := TX9) (N := 33) hx hb hts (fun w h => List.mem_cons_of_mem _ (in_X9 w h)) hown hK hP 0 rfl rfl 4 (by decide) (hts _ (List.mem_cons_of_mem _ tw_3_191)) (fun _ h9 => h9) rfl dX9_calls_118 ?_
      refine lv_iconst (v := 1) hx hb dX9_calls_121 (by decide) ?_
      refine lv_iadd hx hb dX9_calls_122 ?_
      refine lv_topi (fun v6 ev6 => ?_)
      have hok := hok v6 ev6
      refine lv_ldc (v := 65535) hx hb hown (hts _ (List.mem_cons_of_mem _ tw_3_186)) dX9_calls_123 ?_
      refine lv_iand hx hb dX9_calls_125 ?_
      refine lv_goto (tgt := 133) hx hb dX9_calls_126 (by decide) ?_
      refine va_put (D := (dC, dI)) (ci := 8) (v := .int (v6 &&& (65535 : Int32))) (ty := .int) (C := RX9) (T := TX9) (N := 33) hx hb hts (fun w h => List.mem_cons_of_mem _ (in_X9 w h)) tyX9 tyX9_ok nmX9 hown hK hP hD hS 0 rfl rfl 4 (by decide) (hts _ (List.mem_cons_of_mem _ tw_3_191)) (fun _ h9 => h9) rfl (by decide +kernel) rfl rfl (Nat.le_of_ble_eq_true rfl) dX9_calls_133 (fun H locs hP hD hS => ?_)
      have hP : va_P (dC, dI) vwCl (w_Model h cI cJ (upd u4.1 4 (v6 &&& (65535 : Int32)), u4.2.1, u4.2.2)) _ := hP
      have hD : va_D A (w_Model h cI cJ (upd u4.1 4 (v6 &&& (65535 : Int32)), u4.2.1, u4.2.2)) := hD
      refine lv_bipush (v := 6) hx hb dX9_calls_136 (by decide) ?_
      exact W.iret (v := 6) hx hb hr (fun t ht hW => ⟨⟨6, (upd u4.1 4 (v6 &&& (65535 : Int32)), u4.2.1, u4.2.2), rfl, hok, by rw [ht]; exact hP, va_K.moved hW.alike hK, hD⟩, hS.F ht⟩) hS.2.2 dX9_calls_138
  have hl := lv_entry ([.ref (h 13), .int a1]) (n := 3) (Nat.le_of_ble_eq_true rfl)
  rw [lg_entry_eq]
  generalize (lg_sl ([.ref (h 13), .int a1]) ++ List.replicate (3 - (lg_sl ([.ref (h 13), .int a1])).length) Slot.unset).toArray = ls at hl ⊢
  have hl : lv_has ls 3 [(0, .ref (h 13)), (1, .int a1)] := hl
  unfold wp_X9_calls at hok
  refine lv_iload_n hx hb dX9_calls_0 rfl (lv_at hl 1 rfl) ?_
  refine lv_bipush (v := 32) hx hb dX9_calls_1 (by decide) ?_
  refine lv_icmp_ne (tgt := 48) hx hb dX9_calls_3 (by decide) (fun c7 => ?_) (fun c7 => ?_)
  · have hok := hok.2 c7
    refine lv_iload_n hx hb dX9_calls_48 rfl (lv_at hl 1 rfl) ?_
    refine lv_if_ne (tgt := 75) hx hb dX9_calls_49 (by decide) (fun c8 => ?_) (fun c8 => ?_)
    · have hok := hok.2 c8
      refine lv_iload_n hx hb dX9_calls_75 rfl (lv_at hl 1 rfl) ?_
      refine lv_bipush (v := 64) hx hb dX9_calls_76 (by decide) ?_
      refine lv_icmp_ne (tgt := 92) hx hb dX9_calls_78 (by decide) (fun c9 => ?_) (fun c9 => ?_)
      · have hok := hok.2 c9
        exact b92 σ a1 hok _ _ hP hD hS _ (lv_sub hl [0, 1] rfl)
      · have hok := hok.1 c9
        refine lv_aload_n hx hb dX9_calls_81 rfl (lv_at hl 0 rfl) ?_
        refine lv_aload_n hx hb dX9_calls_82 rfl (lv_at hl 0 rfl) ?_
        have hPc := hP
        have hDc := hD
        have hFc := va_free (wc := w_Model h cI cJ σ) hD hS hA [0, 1, 2, 3, 4, 5, 6] rfl
        refine va_calli (va_runV (As := []) (rest := [.ref (h 13)]) ⟨hx, hb, hml, hown, hts⟩ (c_X9_pull l dC dI cI cJ h _ hok) (cwV 0 hts (tb_gV tw_4_136 tw_4_138 tw_p_53 tw_1_9 tw_4_139) rfl rfl rfl (by decide +kernel) ⟨Nat.le_of_ble_eq_true rfl, Nat.le_of_ble_eq_true rfl⟩) (cpre_V (ci := 8) (q0 := 0) hK hPc hDc rfl rfl) rfl rfl hl.1 rfl (lv_room (Nat.le_of_ble_eq_true rfl)) dX9_calls_83 ⟨Nat.le_of_ble_eq_true rfl, Nat.le_of_ble_eq_true rfl⟩) hS (fun q _ h => hFc q h) hFc (fun r10 u11 t H1 locs ht hvm hok hB hz1 hk1 hS => ?_)
        obtain ⟨hP, hD⟩ := cjoin_w ht hB hFc
        refine lv_bipush (v := 48) hx hb dX9_calls_86 (by decide) ?_
        refine lv_ior hx hb dX9_calls_88 ?_
        refine va_put (D := (dC, dI)) (ci := 8) (v := .int (r10 ||| (48 : Int32))) (ty := .int) (C := RX9) (T := TX9) (N := 33) hx hb hts (fun w h => List.mem_cons_of_mem _ (in_X9 w h)) tyX9 tyX9_ok nmX9 hown hK hP hD hS 0 rfl rfl 3 (by decide) (hts _ (List.mem_cons_of_mem _ tw_3_190)) (fun _ h9 => h9) rfl (by decide +kernel) rfl rfl (Nat.le_of_ble_eq_true rfl) dX9_calls_89 (fun H locs hP hD hS => ?_)
        have hP : va_P (dC, dI) vwCl (w_Model h cI cJ (upd u11.1 3 (r10 ||| (48 : Int32)), u11.2.1, u11.2.2)) _ := hP
        have hD : va_D A (w_Model h cI cJ (upd u11.1 3 (r10 ||| (48 : Int32)), u11.2.1, u11.2.2)) := hD
        exact b92 (upd u11.1 3 (r10 ||| (48 : Int32)), u11.2.1, u11.2.2) a1 hok _ _ hP hD hS _ (lv_sub hl [0, 1] rfl)
    · have hok := hok.1 c8
      refine lv_aload_n hx hb dX9_calls_52 rfl (lv_at hl 0 rfl) ?_
      refine lv_aload_n hx hb dX9_calls_53 rfl (lv_at hl 0 rfl) ?_
      refine va_get (D := (dC, dI)) (ci := 8) (v := .int (σ.1 4)) (C := RX9) (T := TX9) (N := 33) hx hb hts (fun w h => List.mem_cons_of_mem _ (in_X9 w h)) hown hK hP 0 rfl rfl 4 (by decide) (hts _ (List.mem_cons_of_mem _ tw_3_191)) (fun _ h9 => h9) rfl dX9_calls_54 ?_
      refine lv_iconst (v := 1) hx hb dX9_calls_57 (by decide) ?_
      refine lv_iadd hx hb dX9_calls_58 ?_
      refine lv_ldc (v := 65535) hx hb hown (hts _ (List.mem_cons_of_mem _ tw_3_186)) dX9_calls_59 ?_
      refine lv_iand hx hb dX9_calls_61 ?_
      refine va_put (D := (dC, dI)) (ci := 8) (v := .int (((σ.1 4) + (1 : Int32)) &&& (65535 : Int32))) (ty := .int) (C := RX9) (T := TX9) (N := 33) hx hb hts (fun w h => List.mem_cons_of_mem _ (in_X9 w h)) tyX9 tyX9_ok nmX9 hown hK hP hD hS 0 rfl rfl 4 (by decide) (hts _ (List.mem_cons_of_mem _ tw_3_191)) (fun _ h9 => h9) rfl (by decide +kernel) rfl rfl (Nat.le_of_ble_eq_true rfl) dX9_calls_62 (fun H locs hP hD hS => ?_)
      have hP : va_P (dC, dI) vwCl (w_Model h cI cJ (upd σ.1 4 (((σ.1 4) + (1 : Int32)) &&& (65535 : Int32)), σ.2.1, σ.2.2)) _ := hP
      have hD : va_D A (w_Model h cI cJ (upd σ.1 4 (((σ.1 4) + (1 : Int32)) &&& (65535 : Int32)), σ.2.1, σ.2.2)) := hD
      refine lv_aload_n hx hb dX9_calls_65 rfl (lv_at hl 0 rfl) ?_
      refine lv_ldc (v := 65534) hx hb hown (hts _ (List.mem_cons_of_mem _ tw_4_116)) dX9_calls_66 ?_
      refine lv_iconst (v := 1) hx hb dX9_calls_68 (by decide) ?_
      have hPc := hP
      have hDc := hD
      have hFc := va_free (wc := w_Model h cI cJ (upd σ.1 4 (((σ.1 4) + (1 : Int32)) &&& (65535 : Int32)), σ.2.1, σ.2.2)) hD hS hA [0, 1, 2, 3, 4, 5, 6] rfl
      refine va_callv (va_runV (As := [.int 65534, .int 1]) (rest := []) ⟨hx, hb, hml, hown, hts⟩ (c_X9_interrupt l dC dI cI cJ h _ hok) (cwV 2 hts (tb_gV tw_4_64 tw_4_66 tw_p_38 tw_1_9 tw_4_67) rfl rfl rfl (by decide +kernel) ⟨Nat.le_of_ble_eq_true rfl, Nat.le_of_ble_eq_true rfl⟩) (cpre_V (ci := 8) (q0 := 0) hK hPc hDc rfl rfl) rfl rfl hl.1 rfl (lv_room (Nat.le_of_ble_eq_true rfl)) dX9_calls_69 ⟨Nat.le_of_ble_eq_true rfl, Nat.le_of_ble_eq_true rfl⟩) hS (fun q _ h => hFc q h) hFc (fun u12 t H1 locs ht hvm hok hB hz1 hk1 hS => ?_)
      obtain ⟨hP, hD⟩ := cjoin_w ht hB hFc
      refine lv_bipush (v := 7) hx hb dX9_calls_72 (by decide) ?_
      exact W.iret (v := 7) hx hb hr (fun t ht hW => ⟨⟨7, u12, rfl, hok, by rw [ht]; exact hP, va_K.moved hW.alike hK, hD⟩, hS.F ht⟩) hS.2.2 dX9_calls_74
  · have hok := hok.1 c7
    refine lv_aload_n hx hb dX9_calls_6 rfl (lv_at hl 0 rfl) ?_
    refine lv_aload_n hx hb dX9_calls_7 rfl (lv_at hl 0 rfl) ?_
    refine va_get (D := (dC, dI)) (ci := 8) (v := .int (σ.1 4)) (C := RX9) (T := TX9) (N := 33) hx hb hts (fun w h => List.mem_cons_of_mem _ (in_X9 w h)) hown hK hP 0 rfl rfl 4 (by decide) (hts _ (List.mem_cons_of_mem _ tw_3_191)) (fun _ h9 => h9) rfl dX9_calls_8 ?_
    refine lv_iconst (v := 1) hx hb dX9_calls_11 (by decide) ?_
    refine lv_isub hx hb dX9_calls_12 ?_
    refine lv_bipush (v := 8) hx hb dX9_calls_13 (by decide) ?_
    refine lv_ishr hx hb dX9_calls_15 ?_
    refine lv_topi (fun v13 ev13 => ?_)
    have hok := hok v13 ev13
    refine lv_sipush (v := 255) hx hb dX9_calls_16 (by decide) ?_
    refine lv_iand hx hb dX9_calls_19 ?_
    have hPc := hP
    have hDc := hD
    have hFc := va_free (wc := w_Model h cI cJ σ) hD hS hA [0, 1, 2, 3, 4, 5, 6] rfl
    refine va_callv (va_runV (As := [.int (v13 &&& (255 : Int32))]) (rest := []) ⟨hx, hb, hml, hown, hts⟩ (c_X9_push l dC dI cI cJ h _ hok) (cwV 1 hts (tb_gV tw_4_68 tw_4_70 tw_p_39 tw_1_9 tw_4_71) rfl rfl rfl (by decide +kernel) ⟨Nat.le_of_ble_eq_true rfl, Nat.le_of_ble_eq_true rfl⟩) (cpre_V (ci := 8) (q0 := 0) hK hPc hDc rfl rfl) rfl rfl hl.1 rfl (lv_room (Nat.le_of_ble_eq_true rfl)) dX9_calls_20 ⟨Nat.le_of_ble_eq_true rfl, Nat.le_of_ble_eq_true rfl⟩) hS (fun q _ h => hFc q h) hFc (fun u14 t H1 locs ht hvm hok hB hz1 hk1 hS => ?_)
    obtain ⟨hP, hD⟩ := cjoin_w ht hB hFc
    refine lv_aload_n hx hb dX9_calls_23 rfl (lv_at hl 0 rfl) ?_
    refine lv_aload_n hx hb dX9_calls_24 rfl (lv_at hl 0 rfl) ?_
    refine va_get (D := (dC, dI)) (ci := 8) (v := .int (u14.1 4)) (C := RX9) (T := TX9) (N := 33) hx hb hts (fun w h => List.mem_cons_of_mem _ (in_X9 w h)) hown hK hP 0 rfl rfl 4 (by decide) (hts _ (List.mem_cons_of_mem _ tw_3_191)) (fun _ h9 => h9) rfl dX9_calls_25 ?_
    refine lv_iconst (v := 1) hx hb dX9_calls_28 (by decide) ?_
    refine lv_isub hx hb dX9_calls_29 ?_
    refine lv_sipush (v := 255) hx hb dX9_calls_30 (by decide) ?_
    refine lv_iand hx hb dX9_calls_33 ?_
    have hPc := hP
    have hDc := hD
    have hFc := va_free (wc := w_Model h cI cJ u14) hD hS hA [0, 1, 2, 3, 4, 5, 6] rfl
    refine va_callv (va_runV (As := [.int (((u14.1 4) - (1 : Int32)) &&& (255 : Int32))]) (rest := []) ⟨hx, hb, hml, hown, hts⟩ (c_X9_push l dC dI cI cJ h _ hok) (cwV 1 hts (tb_gV tw_4_68 tw_4_70 tw_p_39 tw_1_9 tw_4_71) rfl rfl rfl (by decide +kernel) ⟨Nat.le_of_ble_eq_true rfl, Nat.le_of_ble_eq_true rfl⟩) (cpre_V (ci := 8) (q0 := 0) hK hPc hDc rfl rfl) rfl rfl hl.1 rfl (lv_room (Nat.le_of_ble_eq_true rfl)) dX9_calls_34 ⟨Nat.le_of_ble_eq_true rfl, Nat.le_of_ble_eq_true rfl⟩) hS (fun q _ h => hFc q h) hFc (fun u15 t H1 locs ht hvm hok hB hz1 hk1 hS => ?_)
    obtain ⟨hP, hD⟩ := cjoin_w ht hB hFc
    refine lv_aload_n hx hb dX9_calls_37 rfl (lv_at hl 0 rfl) ?_
    refine lv_aload_n hx hb dX9_calls_38 rfl (lv_at hl 0 rfl) ?_
    refine va_get (D := (dC, dI)) (ci := 8) (v := .int (u15.1 10)) (C := RX9) (T := TX9) (N := 33) hx hb hts (fun w h => List.mem_cons_of_mem _ (in_X9 w h)) hown hK hP 0 rfl rfl 10 (by decide) (hts _ (List.mem_cons_of_mem _ tw_3_197)) (fun _ h9 => h9) rfl dX9_calls_39 ?_
    refine va_put (D := (dC, dI)) (ci := 8) (v := .int (u15.1 10)) (ty := .int) (C := RX9) (T := TX9) (N := 33) hx hb hts (fun w h => List.mem_cons_of_mem _ (in_X9 w h)) tyX9 tyX9_ok nmX9 hown hK hP hD hS 0 rfl rfl 4 (by decide) (hts _ (List.mem_cons_of_mem _ tw_3_191)) (fun _ h9 => h9) rfl (by decide +kernel) rfl rfl (Nat.le_of_ble_eq_true rfl) dX9_calls_42 (fun H locs hP hD hS => ?_)
    have hP : va_P (dC, dI) vwCl (w_Model h cI cJ (upd u15.1 4 (u15.1 10), u15.2.1, u15.2.2)) _ := hP
    have hD : va_D A (w_Model h cI cJ (upd u15.1 4 (u15.1 10), u15.2.1, u15.2.2)) := hD
    refine lv_bipush (v := 6) hx hb dX9_calls_45 (by decide) ?_
    exact W.iret (v := 6) hx hb hr (fun t ht hW => ⟨⟨6, (upd u15.1 4 (u15.1 10), u15.2.1, u15.2.2), rfl, hok, by rw [ht]; exact hP, va_K.moved hW.alike hK, hD⟩, hS.F ht⟩) hS.2.2 dX9_calls_47
