def wp_X0_restart (σ : S_Board) (Φ : S_Board → Prop) : Prop := wp_X6_restart σ.2.1 (fun u1 => wp_X4_restart σ.2.2.1 (fun u2 => Φ (upd σ.1 2 0, u1, u2, σ.2.2.2)))
set_option maxHeartbeats 4000000 in
set_option maxRecDepth 100000 in
theorem c_X0_restart (l : Launch) (dC : Nat → ClassId) (dI : Nat → Nat → Nat) (cI cJ : ClassId) (h : Nat → Nat) (sz : Nat) {σ : S_Board} {Φ : S_Board → Prop} (hok : wp_X0_restart σ Φ) : Met l yX0_restart wsX0_restart ({ frames := 1, cells := 0, slots := 0, locals := 20 }) (va_Pc [.ref (h 4)] (cpre dC dI cI cJ (w_Board h cI cJ σ) sz)) (va_Qv Φ (fun u => cpost dC dI cI cJ (va_A (w_Board h cI cJ σ) sz) (w_Board h cI cJ u)) (va_A (w_Board h cI cJ σ) sz)) 0 0 (va_A (w_Board h cI cJ σ) sz) := by
  refine Met.ofW (cc := cX0_restart) (maxL := 1) (ret := none) (by decide) rfl ?_
  intro p e s m args below meth c s₁ B hml hv
  obtain ⟨rfl, hsz, hP, hK, hD0⟩ := hv
  have hx := B.exec
  have hb := B.bytes
  have hr := B.returns
  have hts := atoms_spec (ws := wsX0_restart) B.pre
  have hown : s.vm.findClass RX0 = some m.cls := findClass_of_methodNamed B.named
  have hlocks := B.notSynchronized
  subst hsz
  have hD := hD0.self (sz := s.heap.size)
  generalize hAe : va_A (w_Board h cI cJ σ) s.heap.size = A at hD ⊢
  have hA : ∀ q : Nat, s.heap.size ≤ q → A q := fun q h => by rw [← hAe]; exact Or.inr h
  clear hD0 hAe
  have hS : va_S A s.heap s.heap [] := va_S.rf
  have hl := lv_entry ([.ref (h 4)]) (n := 1) (Nat.le_of_ble_eq_true rfl)
  rw [lg_entry_eq]
  generalize (lg_sl ([.ref (h 4)]) ++ List.replicate (1 - (lg_sl ([.ref (h 4)])).length) Slot.unset).toArray = ls at hl ⊢
  have hl : lv_has ls 1 [(0, .ref (h 4))] := hl
  unfold wp_X0_restart at hok
  refine lv_aload_n hx hb dX0_restart_0 rfl (lv_at hl 0 rfl) ?_
  refine lv_iconst (v := 0) hx hb dX0_restart_1 (by decide) ?_
  refine va_put (D := (dC, dI)) (ci := 0) (v := .int 0) (ty := .int) (C := RX0) (T := TX0) (N := 4) hx hb hts (fun w h => List.mem_cons_of_mem _ (in_X0 w h)) tyX0 tyX0_ok nmX0 hown hK hP hD hS 0 rfl rfl 2 (by decide) (hts _ (List.mem_cons_of_mem _ tw_1_115)) (fun _ h9 => h9) rfl (by decide +kernel) rfl rfl (Nat.le_of_ble_eq_true rfl) dX0_restart_2 (fun H locs hP hD hS => ?_)
  have hP : va_P (dC, dI) vwCl (w_Board h cI cJ (upd σ.1 2 0, σ.2.1, σ.2.2.1, σ.2.2.2)) _ := hP
  have hD : va_D A (w_Board h cI cJ (upd σ.1 2 0, σ.2.1, σ.2.2.1, σ.2.2.2)) := hD
  refine lv_aload_n hx hb dX0_restart_5 rfl (lv_at hl 0 rfl) ?_
  refine va_get (D := (dC, dI)) (ci := 0) (v := .ref (h 5)) (C := RX0) (T := TX0) (N := 4) hx hb hts (fun w h => List.mem_cons_of_mem _ (in_X0 w h)) hown hK hP 0 rfl rfl 0 (by decide) (hts _ (List.mem_cons_of_mem _ tw_1_110)) (fun _ h9 => h9) rfl dX0_restart_6 ?_
  have hPc := hP.sub (ws' := w_Timers h cI cJ σ.2.1) [1] rfl
  have hDc := hD.sub (ws' := w_Timers h cI cJ σ.2.1) [1] (by decide) rfl
  have hFc := va_free (wc := w_Timers h cI cJ σ.2.1) hD hS hA [1] rfl
  refine va_callv (va_runV (As := []) (rest := []) ⟨hx, hb, hml, hown, hts⟩ (c_X6_restart l dC dI cI cJ h _ hok) (cwV 0 hts (tb_gV tw_1_237 tw_1_238 tw_1_239 tw_1_3 tw_2_0) rfl rfl rfl (by decide +kernel) ⟨Nat.le_of_ble_eq_true rfl, Nat.le_of_ble_eq_true rfl⟩) (cpre_V (ci := 5) (q0 := 0) hK hPc hDc rfl rfl) rfl rfl hl.1 rfl (lv_room (Nat.le_of_ble_eq_true rfl)) dX0_restart_9 ⟨Nat.le_of_ble_eq_true rfl, Nat.le_of_ble_eq_true rfl⟩) hS (fun q _ h => hFc q h) hFc (fun u1 t H1 locs ht hvm hok hB hz1 hk1 hS => ?_)
  obtain ⟨hP, hD⟩ := cjoin ht hP hD [1] [0, 2, 3, 4, 5, 6] rfl rfl (by decide) (by decide) hk1 hFc hB
  have hP := hP.sub (ws' := w_Board h cI cJ (upd σ.1 2 0, u1, σ.2.2.1, σ.2.2.2)) [0, 6, 1, 2, 3, 4, 5] rfl
  have hD := hD.sub (ws' := w_Board h cI cJ (upd σ.1 2 0, u1, σ.2.2.1, σ.2.2.2)) [0, 6, 1, 2, 3, 4, 5] (by decide) rfl
  refine lv_aload_n hx hb dX0_restart_12 rfl (lv_at hl 0 rfl) ?_
  refine va_get (D := (dC, dI)) (ci := 0) (v := .ref (h 6)) (C := RX0) (T := TX0) (N := 4) hx hb hts (fun w h => List.mem_cons_of_mem _ (in_X0 w h)) hown hK hP 0 rfl rfl 1 (by decide) (hts _ (List.mem_cons_of_mem _ tw_1_113)) (fun _ h9 => h9) rfl dX0_restart_13 ?_
  have hPc := hP.sub (ws' := w_Port h cI cJ σ.2.2.1) [2, 3, 4] rfl
  have hDc := hD.sub (ws' := w_Port h cI cJ σ.2.2.1) [2, 3, 4] (by decide) rfl
  have hFc := va_free (wc := w_Port h cI cJ σ.2.2.1) hD hS hA [2, 3, 4] rfl
  refine va_callv (va_runV (As := []) (rest := []) ⟨hx, hb, hml, hown, hts⟩ (c_X4_restart l dC dI cI cJ h _ hok) (cwV 0 hts (tb_gV tw_2_1 tw_2_2 tw_2_3 tw_1_4 tw_2_4) rfl rfl rfl (by decide +kernel) ⟨Nat.le_of_ble_eq_true rfl, Nat.le_of_ble_eq_true rfl⟩) (cpre_V (ci := 3) (q0 := 0) hK hPc hDc rfl rfl) rfl rfl hl.1 rfl (lv_room (Nat.le_of_ble_eq_true rfl)) dX0_restart_16 ⟨Nat.le_of_ble_eq_true rfl, Nat.le_of_ble_eq_true rfl⟩) hS (fun q _ h => hFc q h) hFc (fun u2 t H1 locs ht hvm hok hB hz1 hk1 hS => ?_)
  obtain ⟨hP, hD⟩ := cjoin ht hP hD [2, 3, 4] [0, 1, 5, 6] rfl rfl (by decide) (by decide) hk1 hFc hB
  have hP := hP.sub (ws' := w_Board h cI cJ (upd σ.1 2 0, u1, u2, σ.2.2.2)) [0, 1, 4, 5, 6, 2, 3] rfl
  have hD := hD.sub (ws' := w_Board h cI cJ (upd σ.1 2 0, u1, u2, σ.2.2.2)) [0, 1, 4, 5, 6, 2, 3] (by decide) rfl
  exact W.vret hx hb hr (fun t ht hW => ⟨⟨(upd σ.1 2 0, u1, u2, σ.2.2.2), rfl, hok, by rw [ht]; exact hP, va_K.moved hW.alike hK, hD⟩, hS.F ht⟩) hS.2.2 dX0_restart_19
def wp_X0_asks (σ : S_Board) (Φ : Int32 → Prop) : Prop := wp_X6_asks σ.2.1 (fun r1 => ((r1 = 0 → (wp_X4_asks σ.2.2.1 (fun r3 => ((r3 = 0 → (Φ 0)) ∧ (¬ r3 = 0 → (Φ 1)))))) ∧ (¬ r1 = 0 → (Φ 1))))
set_option maxHeartbeats 4000000 in
set_option maxRecDepth 100000 in
theorem c_X0_asks (l : Launch) (dC : Nat → ClassId) (dI : Nat → Nat → Nat) (cI cJ : ClassId) (h : Nat → Nat) (sz : Nat) {σ : S_Board} {Φ : Int32 → Prop} (hok : wp_X0_asks σ Φ) : Met l yX0_asks wsX0_asks ({ frames := 2, cells := 0, slots := 0, locals := 41 }) (va_Pc [.ref (h 4)] (cpre dC dI cI cJ (w_Board h cI cJ σ) sz)) (va_Qi (fun (r : Int32) (_ : Unit) => Φ r) (fun _ => cpost dC dI cI cJ (va_A (w_Board h cI cJ σ) sz) (w_Board h cI cJ σ)) (va_A (w_Board h cI cJ σ) sz)) 0 0 (va_A (w_Board h cI cJ σ) sz) := by
  refine Met.ofW (cc := cX0_asks) (maxL := 1) (ret := (some .boolean)) (by decide) rfl ?_
  intro p e s m args below meth c s₁ B hml hv
  obtain ⟨rfl, hsz, hP, hK, hD0⟩ := hv
  have hx := B.exec
  have hb := B.bytes
  have hr := B.returns
  have hts := atoms_spec (ws := wsX0_asks) B.pre
  have hown : s.vm.findClass RX0 = some m.cls := findClass_of_methodNamed B.named
  have hlocks := B.notSynchronized
  subst hsz
  have hD := hD0.self (sz := s.heap.size)
  generalize hAe : va_A (w_Board h cI cJ σ) s.heap.size = A at hD ⊢
  have hA : ∀ q : Nat, s.heap.size ≤ q → A q := fun q h => by rw [← hAe]; exact Or.inr h
  clear hD0 hAe
  have hS : va_S A s.heap s.heap [] := va_S.rf
  have hl := lv_entry ([.ref (h 4)]) (n := 1) (Nat.le_of_ble_eq_true rfl)
  rw [lg_entry_eq]
  generalize (lg_sl ([.ref (h 4)]) ++ List.replicate (1 - (lg_sl ([.ref (h 4)])).length) Slot.unset).toArray = ls at hl ⊢
  have hl : lv_has ls 1 [(0, .ref (h 4))] := hl
  unfold wp_X0_asks at hok
  refine lv_aload_n hx hb dX0_asks_0 rfl (lv_at hl 0 rfl) ?_
  refine va_get (D := (dC, dI)) (ci := 0) (v := .ref (h 5)) (C := RX0) (T := TX0) (N := 4) hx hb hts (fun w h => List.mem_cons_of_mem _ (in_X0 w h)) hown hK hP 0 rfl rfl 0 (by decide) (hts _ (List.mem_cons_of_mem _ tw_1_110)) (fun _ h9 => h9) rfl dX0_asks_1 ?_
  have hPc := hP.sub (ws' := w_Timers h cI cJ σ.2.1) [1] rfl
  have hDc := hD.sub (ws' := w_Timers h cI cJ σ.2.1) [1] (by decide) rfl
  have hFc := va_free (wc := w_Timers h cI cJ σ.2.1) hD hS hA [1] rfl
  refine va_calli (va_runV (As := []) (rest := []) ⟨hx, hb, hml, hown, hts⟩ (c_X6_asks l dC dI cI cJ h _ hok) (cwV 0 hts (tb_gV tw_2_73 tw_2_74 tw_2_75 tw_1_3 tw_2_76) rfl rfl rfl (by decide +kernel) ⟨Nat.le_of_ble_eq_true rfl, Nat.le_of_ble_eq_true rfl⟩) (cpre_V (ci := 5) (q0 := 0) hK hPc hDc rfl rfl) rfl rfl hl.1 rfl (lv_room (Nat.le_of_ble_eq_true rfl)) dX0_asks_4 ⟨Nat.le_of_ble_eq_true rfl, Nat.le_of_ble_eq_true rfl⟩) hS (fun q _ h => hFc q h) hFc (fun r1 _ t H1 locs ht hvm hok hB hz1 hk1 hS => ?_)
  obtain ⟨hP, hD⟩ := cjoin ht hP hD [1] [0, 2, 3, 4, 5, 6] rfl rfl (by decide) (by decide) hk1 hFc hB
  have hP := hP.sub (ws' := w_Board h cI cJ σ) [0, 6, 1, 2, 3, 4, 5] rfl
  have hD := hD.sub (ws' := w_Board h cI cJ σ) [0, 6, 1, 2, 3, 4, 5] (by decide) rfl
  refine lv_if_ne (tgt := 20) hx hb dX0_asks_7 (by decide) (fun c2 => ?_) (fun c2 => ?_)
  · have hok := hok.2 c2
    refine lv_iconst (v := 1) hx hb dX0_asks_20 (by decide) ?_
    refine lv_goto (tgt := 25) hx hb dX0_asks_21 (by decide) ?_
    exact W.zret (v := 1) hx hb hr rfl (fun t ht hW => ⟨⟨1, (), rfl, hok, by rw [ht]; exact hP, va_K.moved hW.alike hK, hD⟩, hS.F ht⟩) hS.2.2 dX0_asks_25
  · have hok := hok.1 c2
    refine lv_aload_n hx hb dX0_asks_10 rfl (lv_at hl 0 rfl) ?_
    refine va_get (D := (dC, dI)) (ci := 0) (v := .ref (h 6)) (C := RX0) (T := TX0) (N := 4) hx hb hts (fun w h => List.mem_cons_of_mem _ (in_X0 w h)) hown hK hP 0 rfl rfl 1 (by decide) (hts _ (List.mem_cons_of_mem _ tw_1_113)) (fun _ h9 => h9) rfl dX0_asks_11 ?_
    have hPc := hP.sub (ws' := w_Port h cI cJ σ.2.2.1) [2, 3, 4] rfl
    have hDc := hD.sub (ws' := w_Port h cI cJ σ.2.2.1) [2, 3, 4] (by decide) rfl
    have hFc := va_free (wc := w_Port h cI cJ σ.2.2.1) hD hS hA [2, 3, 4] rfl
    refine va_calli (va_runV (As := []) (rest := []) ⟨hx, hb, hml, hown, hts⟩ (c_X4_asks l dC dI cI cJ h _ hok) (cwV 0 hts (tb_gV tw_2_78 tw_2_79 tw_2_80 tw_1_4 tw_2_81) rfl rfl rfl (by decide +kernel) ⟨Nat.le_of_ble_eq_true rfl, Nat.le_of_ble_eq_true rfl⟩) (cpre_V (ci := 3) (q0 := 0) hK hPc hDc rfl rfl) rfl rfl hl.1 rfl (lv_room (Nat.le_of_ble_eq_true rfl)) dX0_asks_14 ⟨Nat.le_of_ble_eq_true rfl, Nat.le_of_ble_eq_true rfl⟩) hS (fun q _ h => hFc q h) hFc (fun r3 _ t H1 locs ht hvm hok hB hz1 hk1 hS => ?_)
    obtain ⟨hP, hD⟩ := cjoin ht hP hD [2, 3, 4] [0, 1, 5, 6] rfl rfl (by decide) (by decide) hk1 hFc hB
    have hP := hP.sub (ws' := w_Board h cI cJ σ) [0, 1, 4, 5, 6, 2, 3] rfl
    have hD := hD.sub (ws' := w_Board h cI cJ σ) [0, 1, 4, 5, 6, 2, 3] (by decide) rfl
    refine lv_if_eq (tgt := 24) hx hb dX0_asks_17 (by decide) (fun c4 => ?_) (fun c4 => ?_)
    · have hok := hok.1 c4
      refine lv_iconst (v := 0) hx hb dX0_asks_24 (by decide) ?_
      exact W.zret (v := 0) hx hb hr rfl (fun t ht hW => ⟨⟨0, (), rfl, hok, by rw [ht]; exact hP, va_K.moved hW.alike hK, hD⟩, hS.F ht⟩) hS.2.2 dX0_asks_25
    · have hok := hok.2 c4
      refine lv_iconst (v := 1) hx hb dX0_asks_20 (by decide) ?_
      refine lv_goto (tgt := 25) hx hb dX0_asks_21 (by decide) ?_
      exact W.zret (v := 1) hx hb hr rfl (fun t ht hW => ⟨⟨1, (), rfl, hok, by rw [ht]; exact hP, va_K.moved hW.alike hK, hD⟩, hS.F ht⟩) hS.2.2 dX0_asks_25
def wp_X0_isDevice (a1 : Int32) (Φ : Int32 → Prop) : Prop := ((a1 < (40960 : Int32) → (Φ 0)) ∧ (¬ a1 < (40960 : Int32) → ((((49152 : Int32) ≤ a1 → (Φ 0)) ∧ (¬ (49152 : Int32) ≤ a1 → (Φ 1))))))
set_option maxHeartbeats 4000000 in
set_option maxRecDepth 100000 in
theorem c_X0_isDevice (l : Launch) (dC : Nat → ClassId) (dI : Nat → Nat → Nat) (cI cJ : ClassId) (h : Nat → Nat) (sz : Nat) {a1 : Int32} {Φ : Int32 → Prop} (hok : wp_X0_isDevice a1 Φ) : Met l yX0_isDevice wsX0_isDevice ({ frames := 0, cells := 0, slots := 0, locals := 0 }) (va_Pc [.int a1] (cpre dC dI cI cJ ([] : va_W) sz)) (va_Qi (fun (r : Int32) (_ : Unit) => Φ r) (fun _ => cpost dC dI cI cJ (va_A ([] : va_W) sz) ([] : va_W)) (va_A ([] : va_W) sz)) 0 0 (va_A ([] : va_W) sz) := by
  refine Met.ofW (cc := cX0_isDevice) (maxL := 1) (ret := (some .boolean)) (by decide) rfl ?_
  intro p e s m args below meth c s₁ B hml hv
  obtain ⟨rfl, hsz, hP, hK, hD0⟩ := hv
  have hx := B.exec
  have hb := B.bytes
  have hr := B.returns
  have hts := atoms_spec (ws := wsX0_isDevice) B.pre
  have hown : s.vm.findClass RX0 = some m.cls := findClass_of_methodNamed B.named
  have hlocks := B.notSynchronized
  subst hsz
  have hD := hD0.self (sz := s.heap.size)
  generalize hAe : va_A ([] : va_W) s.heap.size = A at hD ⊢
  have hA : ∀ q : Nat, s.heap.size ≤ q → A q := fun q h => by rw [← hAe]; exact Or.inr h
  clear hD0 hAe
  have hS : va_S A s.heap s.heap [] := va_S.rf
  have hl := lv_entry ([.int a1]) (n := 1) (Nat.le_of_ble_eq_true rfl)
  rw [lg_entry_eq]
  generalize (lg_sl ([.int a1]) ++ List.replicate (1 - (lg_sl ([.int a1])).length) Slot.unset).toArray = ls at hl ⊢
  have hl : lv_has ls 1 [(0, .int a1)] := hl
  unfold wp_X0_isDevice at hok
  refine lv_iload_n hx hb dX0_isDevice_0 rfl (lv_at hl 0 rfl) ?_
  refine lv_ldc (v := 40960) hx hb hown (hts _ (List.mem_cons_of_mem _ tw_2_21)) dX0_isDevice_1 ?_
  refine lv_icmp_lt (tgt := 16) hx hb dX0_isDevice_3 (by decide) (fun c1 => ?_) (fun c1 => ?_)
  · have hok := hok.1 c1
    refine lv_iconst (v := 0) hx hb dX0_isDevice_16 (by decide) ?_
    exact W.zret (v := 0) hx hb hr rfl (fun t ht hW => ⟨⟨0, (), rfl, hok, by rw [ht]; exact hP, va_K.moved hW.alike hK, hD⟩, hS.F ht⟩) hS.2.2 dX0_isDevice_17
  · have hok := hok.2 c1
    refine lv_iload_n hx hb dX0_isDevice_6 rfl (lv_at hl 0 rfl) ?_
    refine lv_ldc (v := 49152) hx hb hown (hts _ (List.mem_cons_of_mem _ tw_2_22)) dX0_isDevice_7 ?_
    refine lv_icmp_ge (tgt := 16) hx hb dX0_isDevice_9 (by decide) (fun c2 => ?_) (fun c2 => ?_)
    · have hok := hok.1 c2
      refine lv_iconst (v := 0) hx hb dX0_isDevice_16 (by decide) ?_
      exact W.zret (v := 0) hx hb hr rfl (fun t ht hW => ⟨⟨0, (), rfl, hok, by rw [ht]; exact hP, va_K.moved hW.alike hK, hD⟩, hS.F ht⟩) hS.2.2 dX0_isDevice_17
    · have hok := hok.2 c2
      refine lv_iconst (v := 1) hx hb dX0_isDevice_12 (by decide) ?_
      refine lv_goto (tgt := 17) hx hb dX0_isDevice_13 (by decide) ?_
      exact W.zret (v := 1) hx hb hr rfl (fun t ht hW => ⟨⟨1, (), rfl, hok, by rw [ht]; exact hP, va_K.moved hW.alike hK, hD⟩, hS.F ht⟩) hS.2.2 dX0_isDevice_17
def wp_X0_cell (σ : S_Board) (a1 : Int32) (Φ : Int32 → Prop) : Prop := (((32768 : Int32) ≤ a1 → ((((40960 : Int32) ≤ a1 → (Φ ((a1 - (49152 : Int32)) + (65536 : Int32)))) ∧ (¬ (40960 : Int32) ≤ a1 → (Φ (a1 + ((σ.1 2) * (8192 : Int32)))))))) ∧ (¬ (32768 : Int32) ≤ a1 → (Φ a1)))
set_option maxHeartbeats 4000000 in
set_option maxRecDepth 100000 in
theorem c_X0_cell (l : Launch) (dC : Nat → ClassId) (dI : Nat → Nat → Nat) (cI cJ : ClassId) (h : Nat → Nat) (sz : Nat) {σ : S_Board} {a1 : Int32} {Φ : Int32 → Prop} (hok : wp_X0_cell σ a1 Φ) : Met l yX0_cell wsX0_cell ({ frames := 0, cells := 0, slots := 0, locals := 0 }) (va_Pc [.ref (h 4), .int a1] (cpre dC dI cI cJ (w_Board h cI cJ σ) sz)) (va_Qi (fun (r : Int32) (_ : Unit) => Φ r) (fun _ => cpost dC dI cI cJ (va_A (w_Board h cI cJ σ) sz) (w_Board h cI cJ σ)) (va_A (w_Board h cI cJ σ) sz)) 0 0 (va_A (w_Board h cI cJ σ) sz) := by
  refine Met.ofW (cc := cX0_cell) (maxL := 2) (ret := (some .int)) (by decide) rfl ?_
  intro p e s m args below meth c s₁ B hml hv
  obtain ⟨rfl, hsz, hP, hK, hD0⟩ := hv
  have hx := B.exec
  have hb := B.bytes
  have hr := B.returns
  have hts := atoms_spec (ws := wsX0_cell) B.pre
  have hown : s.vm.findClass RX0 = some m.cls := findClass_of_methodNamed B.named
  have hlocks := B.notSynchronized
  subst hsz
  have hD := hD0.self (sz := s.heap.size)
  generalize hAe : va_A (w_Board h cI cJ σ) s.heap.size = A at hD ⊢
  have hA : ∀ q : Nat, s.heap.size ≤ q → A q := fun q h => by rw [← hAe]; exact Or.inr h
  clear hD0 hAe
  have hS : va_S A s.heap s.heap [] := va_S.rf
  have hl := lv_entry ([.ref (h 4), .int a1]) (n := 2) (Nat.le_of_ble_eq_true rfl)
  rw [lg_entry_eq]
  generalize (lg_sl ([.ref (h 4), .int a1]) ++ List.replicate (2 - (lg_sl ([.ref (h 4), .int a1])).length) Slot.unset).toArray = ls at hl ⊢
  have hl : lv_has ls 2 [(0, .ref (h 4)), (1, .int a1)] := hl
  unfold wp_X0_cell at hok
  refine lv_iload_n hx hb dX0_cell_0 rfl (lv_at hl 1 rfl) ?_
  refine lv_ldc (v := 32768) hx hb hown (hts _ (List.mem_cons_of_mem _ tw_2_27)) dX0_cell_1 ?_
  refine lv_icmp_ge (tgt := 8) hx hb dX0_cell_3 (by decide) (fun c1 => ?_) (fun c1 => ?_)
  · have hok := hok.1 c1
    refine lv_iload_n hx hb dX0_cell_8 rfl (lv_at hl 1 rfl) ?_
    refine lv_ldc (v := 40960) hx hb hown (hts _ (List.mem_cons_of_mem _ tw_2_21)) dX0_cell_9 ?_
    refine lv_icmp_ge (tgt := 27) hx hb dX0_cell_11 (by decide) (fun c2 => ?_) (fun c2 => ?_)
    · have hok := hok.1 c2
      refine lv_iload_n hx hb dX0_cell_27 rfl (lv_at hl 1 rfl) ?_
      refine lv_ldc (v := 49152) hx hb hown (hts _ (List.mem_cons_of_mem _ tw_2_22)) dX0_cell_28 ?_
      refine lv_isub hx hb dX0_cell_30 ?_
      refine lv_ldc (v := 65536) hx hb hown (hts _ (List.mem_cons_of_mem _ tw_2_28)) dX0_cell_31 ?_
      refine lv_iadd hx hb dX0_cell_33 ?_
      exact W.iret (v := (a1 - (49152 : Int32)) + (65536 : Int32)) hx hb hr (fun t ht hW => ⟨⟨(a1 - (49152 : Int32)) + (65536 : Int32), (), rfl, hok, by rw [ht]; exact hP, va_K.moved hW.alike hK, hD⟩, hS.F ht⟩) hS.2.2 dX0_cell_34
    · have hok := hok.2 c2
      refine lv_iload_n hx hb dX0_cell_14 rfl (lv_at hl 1 rfl) ?_
      refine lv_aload_n hx hb dX0_cell_15 rfl (lv_at hl 0 rfl) ?_
      refine va_get (D := (dC, dI)) (ci := 0) (v := .int (σ.1 2)) (C := RX0) (T := TX0) (N := 4) hx hb hts (fun w h => List.mem_cons_of_mem _ (in_X0 w h)) hown hK hP 0 rfl rfl 2 (by decide) (hts _ (List.mem_cons_of_mem _ tw_1_115)) (fun _ h9 => h9) rfl dX0_cell_16 ?_
      refine lv_sipush (v := 8192) hx hb dX0_cell_19 (by decide) ?_
      refine lv_imul hx hb dX0_cell_22 ?_
      refine lv_iadd hx hb dX0_cell_23 ?_
      refine lv_goto (tgt := 34) hx hb dX0_cell_24 (by decide) ?_
      exact W.iret (v := a1 + ((σ.1 2) * (8192 : Int32))) hx hb hr (fun t ht hW => ⟨⟨a1 + ((σ.1 2) * (8192 : Int32)), (), rfl, hok, by rw [ht]; exact hP, va_K.moved hW.alike hK, hD⟩, hS.F ht⟩) hS.2.2 dX0_cell_34
  · have hok := hok.2 c1
    refine lv_iload_n hx hb dX0_cell_6 rfl (lv_at hl 1 rfl) ?_
    exact W.iret (v := a1) hx hb hr (fun t ht hW => ⟨⟨a1, (), rfl, hok, by rw [ht]; exact hP, va_K.moved hW.alike hK, hD⟩, hS.F ht⟩) hS.2.2 dX0_cell_7
def wp_X0_peekDevice (σ : S_Board) (a1 : Int32) (Φ : Int32 → Prop) : Prop := (((40976 : Int32) ≤ a1 → ((((40979 : Int32) ≤ a1 → (((a1 = (40992 : Int32) → (Φ (σ.1 2))) ∧ (¬ a1 = (40992 : Int32) → (Φ 0))))) ∧ (¬ (40979 : Int32) ≤ a1 → (wp_X4_peek σ.2.2.1 (a1 - (40976 : Int32)) (fun r4 => Φ r4)))))) ∧ (¬ (40976 : Int32) ≤ a1 → (wp_X6_peek σ.2.1 (a1 - (40960 : Int32)) (fun r5 => Φ r5))))
set_option maxHeartbeats 4000000 in
set_option maxRecDepth 100000 in
theorem c_X0_peekDevice (l : Launch) (dC : Nat → ClassId) (dI : Nat → Nat → Nat) (cI cJ : ClassId) (h : Nat → Nat) (sz : Nat) {σ : S_Board} {a1 : Int32} {Φ : Int32 → Prop} (hok : wp_X0_peekDevice σ a1 Φ) : Met l yX0_peekDevice wsX0_peekDevice ({ frames := 1, cells := 0, slots := 0, locals := 21 }) (va_Pc [.ref (h 4), .int a1] (cpre dC dI cI cJ (w_Board h cI cJ σ) sz)) (va_Qi (fun (r : Int32) (_ : Unit) => Φ r) (fun _ => cpost dC dI cI cJ (va_A (w_Board h cI cJ σ) sz) (w_Board h cI cJ σ)) (va_A (w_Board h cI cJ σ) sz)) 0 0 (va_A (w_Board h cI cJ σ) sz) := by
  refine Met.ofW (cc := cX0_peekDevice) (maxL := 2) (ret := (some .int)) (by decide) rfl ?_
  intro p e s m args below meth c s₁ B hml hv
  obtain ⟨rfl, hsz, hP, hK, hD0⟩ := hv
  have hx := B.exec
  have hb := B.bytes
  have hr := B.returns
  have hts := atoms_spec (ws := wsX0_peekDevice) B.pre
  have hown : s.vm.findClass RX0 = some m.cls := findClass_of_methodNamed B.named
  have hlocks := B.notSynchronized
  subst hsz
  have hD := hD0.self (sz := s.heap.size)
  generalize hAe : va_A (w_Board h cI cJ σ) s.heap.size = A at hD ⊢
  have hA : ∀ q : Nat, s.heap.size ≤ q → A q := fun q h => by rw [← hAe]; exact Or.inr h
  clear hD0 hAe
  have hS : va_S A s.heap s.heap [] := va_S.rf
  have hl := lv_entry ([.ref (h 4), .int a1]) (n := 2) (Nat.le_of_ble_eq_true rfl)
  rw [lg_entry_eq]
  generalize (lg_sl ([.ref (h 4), .int a1]) ++ List.replicate (2 - (lg_sl ([.ref (h 4), .int a1])).length) Slot.unset).toArray = ls at hl ⊢
  have hl : lv_has ls 2 [(0, .ref (h 4)), (1, .int a1)] := hl
  unfold wp_X0_peekDevice at hok
  refine lv_iload_n hx hb dX0_peekDevice_0 rfl (lv_at hl 1 rfl) ?_
  refine lv_ldc (v := 40976) hx hb hown (hts _ (List.mem_cons_of_mem _ tw_2_37)) dX0_peekDevice_1 ?_
  refine lv_icmp_ge (tgt := 18) hx hb dX0_peekDevice_3 (by decide) (fun c1 => ?_) (fun c1 => ?_)
  · have hok := hok.1 c1
    refine lv_iload_n hx hb dX0_peekDevice_18 rfl (lv_at hl 1 rfl) ?_
    refine lv_ldc (v := 40979) hx hb hown (hts _ (List.mem_cons_of_mem _ tw_2_42)) dX0_peekDevice_19 ?_
    refine lv_icmp_ge (tgt := 36) hx hb dX0_peekDevice_21 (by decide) (fun c2 => ?_) (fun c2 => ?_)
    · have hok := hok.1 c2
      refine lv_iload_n hx hb dX0_peekDevice_36 rfl (lv_at hl 1 rfl) ?_
      refine lv_ldc (v := 40992) hx hb hown (hts _ (List.mem_cons_of_mem _ tw_2_47)) dX0_peekDevice_37 ?_
      refine lv_icmp_ne (tgt := 49) hx hb dX0_peekDevice_39 (by decide) (fun c3 => ?_) (fun c3 => ?_)
      · have hok := hok.2 c3
        refine lv_iconst (v := 0) hx hb dX0_peekDevice_49 (by decide) ?_
        exact W.iret (v := 0) hx hb hr (fun t ht hW => ⟨⟨0, (), rfl, hok, by rw [ht]; exact hP, va_K.moved hW.alike hK, hD⟩, hS.F ht⟩) hS.2.2 dX0_peekDevice_50
      · have hok := hok.1 c3
        refine lv_aload_n hx hb dX0_peekDevice_42 rfl (lv_at hl 0 rfl) ?_
        refine va_get (D := (dC, dI)) (ci := 0) (v := .int (σ.1 2)) (C := RX0) (T := TX0) (N := 4) hx hb hts (fun w h => List.mem_cons_of_mem _ (in_X0 w h)) hown hK hP 0 rfl rfl 2 (by decide) (hts _ (List.mem_cons_of_mem _ tw_1_115)) (fun _ h9 => h9) rfl dX0_peekDevice_43 ?_
        refine lv_goto (tgt := 50) hx hb dX0_peekDevice_46 (by decide) ?_
        exact W.iret (v := σ.1 2) hx hb hr (fun t ht hW => ⟨⟨σ.1 2, (), rfl, hok, by rw [ht]; exact hP, va_K.moved hW.alike hK, hD⟩, hS.F ht⟩) hS.2.2 dX0_peekDevice_50
    · have hok := hok.2 c2
      refine lv_aload_n hx hb dX0_peekDevice_24 rfl (lv_at hl 0 rfl) ?_
      refine va_get (D := (dC, dI)) (ci := 0) (v := .ref (h 6)) (C := RX0) (T := TX0) (N := 4) hx hb hts (fun w h => List.mem_cons_of_mem _ (in_X0 w h)) hown hK hP 0 rfl rfl 1 (by decide) (hts _ (List.mem_cons_of_mem _ tw_1_113)) (fun _ h9 => h9) rfl dX0_peekDevice_25 ?_
      refine lv_iload_n hx hb dX0_peekDevice_28 rfl (lv_at hl 1 rfl) ?_
      refine lv_ldc (v := 40976) hx hb hown (hts _ (List.mem_cons_of_mem _ tw_2_37)) dX0_peekDevice_29 ?_
      refine lv_isub hx hb dX0_peekDevice_31 ?_
      have hPc := hP.sub (ws' := w_Port h cI cJ σ.2.2.1) [2, 3, 4] rfl
      have hDc := hD.sub (ws' := w_Port h cI cJ σ.2.2.1) [2, 3, 4] (by decide) rfl
      have hFc := va_free (wc := w_Port h cI cJ σ.2.2.1) hD hS hA [2, 3, 4] rfl
      refine va_calli (va_runV (As := [.int (a1 - (40976 : Int32))]) (rest := []) ⟨hx, hb, hml, hown, hts⟩ (c_X4_peek l dC dI cI cJ h _ hok) (cwV 1 hts (tb_gV tw_2_43 tw_2_44 tw_2_45 tw_1_4 tw_2_46) rfl rfl rfl (by decide +kernel) ⟨Nat.le_of_ble_eq_true rfl, Nat.le_of_ble_eq_true rfl⟩) (cpre_V (ci := 3) (q0 := 0) hK hPc hDc rfl rfl) rfl rfl hl.1 rfl (lv_room (Nat.le_of_ble_eq_true rfl)) dX0_peekDevice_32 ⟨Nat.le_of_ble_eq_true rfl, Nat.le_of_ble_eq_true rfl⟩) hS (fun q _ h => hFc q h) hFc (fun r4 _ t H1 locs ht hvm hok hB hz1 hk1 hS => ?_)
      obtain ⟨hP, hD⟩ := cjoin ht hP hD [2, 3, 4] [0, 1, 5, 6] rfl rfl (by decide) (by decide) hk1 hFc hB
      have hP := hP.sub (ws' := w_Board h cI cJ σ) [0, 1, 4, 5, 6, 2, 3] rfl
      have hD := hD.sub (ws' := w_Board h cI cJ σ) [0, 1, 4, 5, 6, 2, 3] (by decide) rfl
      exact W.iret (v := r4) hx hb hr (fun t ht hW => ⟨⟨r4, (), rfl, hok, by rw [ht]; exact hP, va_K.moved hW.alike hK, hD⟩, hS.F ht⟩) hS.2.2 dX0_peekDevice_35
  · have hok := hok.2 c1
    refine lv_aload_n hx hb dX0_peekDevice_6 rfl (lv_at hl 0 rfl) ?_
    refine va_get (D := (dC, dI)) (ci := 0) (v := .ref (h 5)) (C := RX0) (T := TX0) (N := 4) hx hb hts (fun w h => List.mem_cons_of_mem _ (in_X0 w h)) hown hK hP 0 rfl rfl 0 (by decide) (hts _ (List.mem_cons_of_mem _ tw_1_110)) (fun _ h9 => h9) rfl dX0_peekDevice_7 ?_
    refine lv_iload_n hx hb dX0_peekDevice_10 rfl (lv_at hl 1 rfl) ?_
    refine lv_ldc (v := 40960) hx hb hown (hts _ (List.mem_cons_of_mem _ tw_2_21)) dX0_peekDevice_11 ?_
    refine lv_isub hx hb dX0_peekDevice_13 ?_
    have hPc := hP.sub (ws' := w_Timers h cI cJ σ.2.1) [1] rfl
    have hDc := hD.sub (ws' := w_Timers h cI cJ σ.2.1) [1] (by decide) rfl
    have hFc := va_free (wc := w_Timers h cI cJ σ.2.1) hD hS hA [1] rfl
    refine va_calli (va_runV (As := [.int (a1 - (40960 : Int32))]) (rest := []) ⟨hx, hb, hml, hown, hts⟩ (c_X6_peek l dC dI cI cJ h _ hok) (cwV 1 hts (tb_gV tw_2_38 tw_2_39 tw_2_40 tw_1_3 tw_2_41) rfl rfl rfl (by decide +kernel) ⟨Nat.le_of_ble_eq_true rfl, Nat.le_of_ble_eq_true rfl⟩) (cpre_V (ci := 5) (q0 := 0) hK hPc hDc rfl rfl) rfl rfl hl.1 rfl (lv_room (Nat.le_of_ble_eq_true rfl)) dX0_peekDevice_14 ⟨Nat.le_of_ble_eq_true rfl, Nat.le_of_ble_eq_true rfl⟩) hS (fun q _ h => hFc q h) hFc (fun r5 _ t H1 locs ht hvm hok hB hz1 hk1 hS => ?_)
    obtain ⟨hP, hD⟩ := cjoin ht hP hD [1] [0, 2, 3, 4, 5, 6] rfl rfl (by decide) (by decide) hk1 hFc hB
    have hP := hP.sub (ws' := w_Board h cI cJ σ) [0, 6, 1, 2, 3, 4, 5] rfl
    have hD := hD.sub (ws' := w_Board h cI cJ σ) [0, 6, 1, 2, 3, 4, 5] (by decide) rfl
    exact W.iret (v := r5) hx hb hr (fun t ht hW => ⟨⟨r5, (), rfl, hok, by rw [ht]; exact hP, va_K.moved hW.alike hK, hD⟩, hS.F ht⟩) hS.2.2 dX0_peekDevice_17
def wp_X0_afterReading (σ : S_Board) (a1 : Int32) (Φ : S_Board → Prop) : Prop := (((40976 : Int32) ≤ a1 → ((((40979 : Int32) ≤ a1 → (Φ σ)) ∧ (¬ (40979 : Int32) ≤ a1 → (wp_X4_afterReading σ.2.2.1 (a1 - (40976 : Int32)) (fun u3 => Φ (σ.1, σ.2.1, u3, σ.2.2.2))))))) ∧ (¬ (40976 : Int32) ≤ a1 → (wp_X6_afterReading σ.2.1 (a1 - (40960 : Int32)) (fun u4 => Φ (σ.1, u4, σ.2.2.1, σ.2.2.2)))))
set_option maxHeartbeats 4000000 in
set_option maxRecDepth 100000 in
theorem c_X0_afterReading (l : Launch) (dC : Nat → ClassId) (dI : Nat → Nat → Nat) (cI cJ : ClassId) (h : Nat → Nat) (sz : Nat) {σ : S_Board} {a1 : Int32} {Φ : S_Board → Prop} (hok : wp_X0_afterReading σ a1 Φ) : Met l yX0_afterReading wsX0_afterReading ({ frames := 1, cells := 0, slots := 0, locals := 21 }) (va_Pc [.ref (h 4), .int a1] (cpre dC dI cI cJ (w_Board h cI cJ σ) sz)) (va_Qv Φ (fun u => cpost dC dI cI cJ (va_A (w_Board h cI cJ σ) sz) (w_Board h cI cJ u)) (va_A (w_Board h cI cJ σ) sz)) 0 0 (va_A (w_Board h cI cJ σ) sz) := by
  refine Met.ofW (cc := cX0_afterReading) (maxL := 2) (ret := none) (by decide) rfl ?_
  intro p e s m args below meth c s₁ B hml hv
  obtain ⟨rfl, hsz, hP, hK, hD0⟩ := hv
  have hx := B.exec
  have hb := B.bytes
  have hr := B.returns
  have hts := atoms_spec (ws := wsX0_afterReading) B.pre
  have hown : s.vm.findClass RX0 = some m.cls := findClass_of_methodNamed B.named
  have hlocks := B.notSynchronized
  subst hsz
  have hD := hD0.self (sz := s.heap.size)
  generalize hAe : va_A (w_Board h cI cJ σ) s.heap.size = A at hD ⊢
  have hA : ∀ q : Nat, s.heap.size ≤ q → A q := fun q h => by rw [← hAe]; exact Or.inr h
  clear hD0 hAe
  have hS : va_S A s.heap s.heap [] := va_S.rf
  have hl := lv_entry ([.ref (h 4), .int a1]) (n := 2) (Nat.le_of_ble_eq_true rfl)
  rw [lg_entry_eq]
  generalize (lg_sl ([.ref (h 4), .int a1]) ++ List.replicate (2 - (lg_sl ([.ref (h 4), .int a1])).length) Slot.unset).toArray = ls at hl ⊢
  have hl : lv_has ls 2 [(0, .ref (h 4)), (1, .int a1)] := hl
  unfold wp_X0_afterReading at hok
  refine lv_iload_n hx hb dX0_afterReading_0 rfl (lv_at hl 1 rfl) ?_
  refine lv_ldc (v := 40976) hx hb hown (hts _ (List.mem_cons_of_mem _ tw_2_37)) dX0_afterReading_1 ?_
  refine lv_icmp_ge (tgt := 20) hx hb dX0_afterReading_3 (by decide) (fun c1 => ?_) (fun c1 => ?_)
  · have hok := hok.1 c1
    refine lv_iload_n hx hb dX0_afterReading_20 rfl (lv_at hl 1 rfl) ?_
    refine lv_ldc (v := 40979) hx hb hown (hts _ (List.mem_cons_of_mem _ tw_2_42)) dX0_afterReading_21 ?_
    refine lv_icmp_ge (tgt := 37) hx hb dX0_afterReading_23 (by decide) (fun c2 => ?_) (fun c2 => ?_)
    · have hok := hok.1 c2
      exact W.vret hx hb hr (fun t ht hW => ⟨⟨σ, rfl, hok, by rw [ht]; exact hP, va_K.moved hW.alike hK, hD⟩, hS.F ht⟩) hS.2.2 dX0_afterReading_37
    · have hok := hok.2 c2
      refine lv_aload_n hx hb dX0_afterReading_26 rfl (lv_at hl 0 rfl) ?_
      refine va_get (D := (dC, dI)) (ci := 0) (v := .ref (h 6)) (C := RX0) (T := TX0) (N := 4) hx hb hts (fun w h => List.mem_cons_of_mem _ (in_X0 w h)) hown hK hP 0 rfl rfl 1 (by decide) (hts _ (List.mem_cons_of_mem _ tw_1_113)) (fun _ h9 => h9) rfl dX0_afterReading_27 ?_
      refine lv_iload_n hx hb dX0_afterReading_30 rfl (lv_at hl 1 rfl) ?_
      refine lv_ldc (v := 40976) hx hb hown (hts _ (List.mem_cons_of_mem _ tw_2_37)) dX0_afterReading_31 ?_
      refine lv_isub hx hb dX0_afterReading_33 ?_
      have hPc := hP.sub (ws' := w_Port h cI cJ σ.2.2.1) [2, 3, 4] rfl
      have hDc := hD.sub (ws' := w_Port h cI cJ σ.2.2.1) [2, 3, 4] (by decide) rfl
      have hFc := va_free (wc := w_Port h cI cJ σ.2.2.1) hD hS hA [2, 3, 4] rfl
      refine va_callv (va_runV (As := [.int (a1 - (40976 : Int32))]) (rest := []) ⟨hx, hb, hml, hown, hts⟩ (c_X4_afterReading l dC dI cI cJ h _ hok) (cwV 1 hts (tb_gV tw_2_56 tw_2_57 tw_2_58 tw_1_4 tw_2_59) rfl rfl rfl (by decide +kernel) ⟨Nat.le_of_ble_eq_true rfl, Nat.le_of_ble_eq_true rfl⟩) (cpre_V (ci := 3) (q0 := 0) hK hPc hDc rfl rfl) rfl rfl hl.1 rfl (lv_room (Nat.le_of_ble_eq_true rfl)) dX0_afterReading_34 ⟨Nat.le_of_ble_eq_true rfl, Nat.le_of_ble_eq_true rfl⟩) hS (fun q _ h => hFc q h) hFc (fun u3 t H1 locs ht hvm hok hB hz1 hk1 hS => ?_)
      obtain ⟨hP, hD⟩ := cjoin ht hP hD [2, 3, 4] [0, 1, 5, 6] rfl rfl (by decide) (by decide) hk1 hFc hB
      have hP := hP.sub (ws' := w_Board h cI cJ (σ.1, σ.2.1, u3, σ.2.2.2)) [0, 1, 4, 5, 6, 2, 3] rfl
      have hD := hD.sub (ws' := w_Board h cI cJ (σ.1, σ.2.1, u3, σ.2.2.2)) [0, 1, 4, 5, 6, 2, 3] (by decide) rfl
      exact W.vret hx hb hr (fun t ht hW => ⟨⟨(σ.1, σ.2.1, u3, σ.2.2.2), rfl, hok, by rw [ht]; exact hP, va_K.moved hW.alike hK, hD⟩, hS.F ht⟩) hS.2.2 dX0_afterReading_37
  · have hok := hok.2 c1
    refine lv_aload_n hx hb dX0_afterReading_6 rfl (lv_at hl 0 rfl) ?_
    refine va_get (D := (dC, dI)) (ci := 0) (v := .ref (h 5)) (C := RX0) (T := TX0) (N := 4) hx hb hts (fun w h => List.mem_cons_of_mem _ (in_X0 w h)) hown hK hP 0 rfl rfl 0 (by decide) (hts _ (List.mem_cons_of_mem _ tw_1_110)) (fun _ h9 => h9) rfl dX0_afterReading_7 ?_
    refine lv_iload_n hx hb dX0_afterReading_10 rfl (lv_at hl 1 rfl) ?_
    refine lv_ldc (v := 40960) hx hb hown (hts _ (List.mem_cons_of_mem _ tw_2_21)) dX0_afterReading_11 ?_
    refine lv_isub hx hb dX0_afterReading_13 ?_
    have hPc := hP.sub (ws' := w_Timers h cI cJ σ.2.1) [1] rfl
    have hDc := hD.sub (ws' := w_Timers h cI cJ σ.2.1) [1] (by decide) rfl
    have hFc := va_free (wc := w_Timers h cI cJ σ.2.1) hD hS hA [1] rfl
    refine va_callv (va_runV (As := [.int (a1 - (40960 : Int32))]) (rest := []) ⟨hx, hb, hml, hown, hts⟩ (c_X6_afterReading l dC dI cI cJ h _ hok) (cwV 1 hts (tb_gV tw_2_52 tw_2_53 tw_2_54 tw_1_3 tw_2_55) rfl rfl rfl (by decide +kernel) ⟨Nat.le_of_ble_eq_true rfl, Nat.le_of_ble_eq_true rfl⟩) (cpre_V (ci := 5) (q0 := 0) hK hPc hDc rfl rfl) rfl rfl hl.1 rfl (lv_room (Nat.le_of_ble_eq_true rfl)) dX0_afterReading_14 ⟨Nat.le_of_ble_eq_true rfl, Nat.le_of_ble_eq_true rfl⟩) hS (fun q _ h => hFc q h) hFc (fun u4 t H1 locs ht hvm hok hB hz1 hk1 hS => ?_)
    obtain ⟨hP, hD⟩ := cjoin ht hP hD [1] [0, 2, 3, 4, 5, 6] rfl rfl (by decide) (by decide) hk1 hFc hB
    have hP := hP.sub (ws' := w_Board h cI cJ (σ.1, u4, σ.2.2.1, σ.2.2.2)) [0, 6, 1, 2, 3, 4, 5] rfl
    have hD := hD.sub (ws' := w_Board h cI cJ (σ.1, u4, σ.2.2.1, σ.2.2.2)) [0, 6, 1, 2, 3, 4, 5] (by decide) rfl
    refine lv_goto (tgt := 37) hx hb dX0_afterReading_17 (by decide) ?_
    exact W.vret hx hb hr (fun t ht hW => ⟨⟨(σ.1, u4, σ.2.2.1, σ.2.2.2), rfl, hok, by rw [ht]; exact hP, va_K.moved hW.alike hK, hD⟩, hS.F ht⟩) hS.2.2 dX0_afterReading_37
def wp_X0_read (σ : S_Board) (a1 : Int32) (Φ : Int32 → S_Board → Prop) : Prop := wp_X0_isDevice a1 (fun r1 => ((r1 = 0 → (wp_X0_cell σ a1 (fun r5 => wp_X3_byteAt σ.2.2.2 r5 (fun r6 => Φ r6 σ)))) ∧ (¬ r1 = 0 → (wp_X0_peekDevice σ a1 (fun r3 => wp_X0_afterReading σ a1 (fun u4 => Φ r3 u4))))))
set_option maxHeartbeats 4000000 in
set_option maxRecDepth 100000 in
theorem c_X0_read (l : Launch) (dC : Nat → ClassId) (dI : Nat → Nat → Nat) (cI cJ : ClassId) (h : Nat → Nat) (sz : Nat) {σ : S_Board} {a1 : Int32} {Φ : Int32 → S_Board → Prop} (hok : wp_X0_read σ a1 Φ) : Met l yX0_read wsX0_read ({ frames := 2, cells := 0, slots := 0, locals := 42 }) (va_Pc [.ref (h 4), .int a1] (cpre dC dI cI cJ (w_Board h cI cJ σ) sz)) (va_Qi Φ (fun u => cpost dC dI cI cJ (va_A (w_Board h cI cJ σ) sz) (w_Board h cI cJ u)) (va_A (w_Board h cI cJ σ) sz)) 0 0 (va_A (w_Board h cI cJ σ) sz) := by
  refine Met.ofW (cc := cX0_read) (maxL := 3) (ret := (some .int)) (by decide) rfl ?_
  intro p e s m args below meth c s₁ B hml hv
  obtain ⟨rfl, hsz, hP, hK, hD0⟩ := hv
  have hx := B.exec
  have hb := B.bytes
  have hr := B.returns
  have hts := atoms_spec (ws := wsX0_read) B.pre
  have hown : s.vm.findClass RX0 = some m.cls := findClass_of_methodNamed B.named
  have hlocks := B.notSynchronized
  subst hsz
  have hD := hD0.self (sz := s.heap.size)
  generalize hAe : va_A (w_Board h cI cJ σ) s.heap.size = A at hD ⊢
  have hA : ∀ q : Nat, s.heap.size ≤ q → A q := fun q h => by rw [← hAe]; exact Or.inr h
  clear hD0 hAe
  have hS : va_S A s.heap s.heap [] := va_S.rf
  have hl := lv_entry ([.ref (h 4), .int a1]) (n := 3) (Nat.le_of_ble_eq_true rfl)
  rw [lg_entry_eq]
  generalize (lg_sl ([.ref (h 4), .int a1]) ++ List.replicate (3 - (lg_sl ([.ref (h 4), .int a1])).length) Slot.unset).toArray = ls at hl ⊢
  have hl : lv_has ls 3 [(0, .ref (h 4)), (1, .int a1)] := hl
  unfold wp_X0_read at hok
  refine lv_iload_n hx hb dX0_read_0 rfl (lv_at hl 1 rfl) ?_
  have hPc := hP.sub (ws' := []) [] rfl
  have hDc := hD.sub (ws' := []) [] (by decide) rfl
  have hFc := va_free (wc := []) hD hS hA [] rfl
  refine va_calli (va_runS (As := [.int a1]) (rest := []) ⟨hx, hb, hml, hown, hts⟩ (c_X0_isDevice l dC dI cI cJ h _ hok) (va_cwS 1 hts (tb_gS tw_2_18 tw_2_19 tw_1_2 tw_2_20) rfl rfl rfl (by decide +kernel) ⟨Nat.le_of_ble_eq_true rfl, Nat.le_of_ble_eq_true rfl⟩) (cpre_S hK hPc hDc) rfl rfl hl.1 rfl (lv_room (Nat.le_of_ble_eq_true rfl)) dX0_read_1 ⟨Nat.le_of_ble_eq_true rfl, Nat.le_of_ble_eq_true rfl⟩) hS (fun q _ h => hFc q h) hFc (fun r1 _ t H1 locs ht hvm hok hB hz1 hk1 hS => ?_)
  obtain ⟨hP, hD⟩ := cjoin ht hP hD [] [0, 1, 2, 3, 4, 5, 6] rfl rfl (by decide) (by decide) hk1 hFc hB
  have hP := hP.sub (ws' := w_Board h cI cJ σ) [0, 1, 2, 3, 4, 5, 6] rfl
  have hD := hD.sub (ws' := w_Board h cI cJ σ) [0, 1, 2, 3, 4, 5, 6] (by decide) rfl
  refine lv_if_ne (tgt := 20) hx hb dX0_read_4 (by decide) (fun c2 => ?_) (fun c2 => ?_)
  · have hok := hok.2 c2
    refine lv_aload_n hx hb dX0_read_20 rfl (lv_at hl 0 rfl) ?_
    refine lv_iload_n hx hb dX0_read_21 rfl (lv_at hl 1 rfl) ?_
    have hPc := hP
    have hDc := hD
    have hFc := va_free (wc := w_Board h cI cJ σ) hD hS hA [0, 1, 2, 3, 4, 5, 6] rfl
    refine va_calli (va_runV (As := [.int a1]) (rest := []) ⟨hx, hb, hml, hown, hts⟩ (c_X0_peekDevice l dC dI cI cJ h _ hok) (cwV 1 hts (tb_gV tw_2_33 tw_2_35 tw_p_2 tw_1_2 tw_2_36) rfl rfl rfl (by decide +kernel) ⟨Nat.le_of_ble_eq_true rfl, Nat.le_of_ble_eq_true rfl⟩) (cpre_V (ci := 0) (q0 := 0) hK hPc hDc rfl rfl) rfl rfl hl.1 rfl (lv_room (Nat.le_of_ble_eq_true rfl)) dX0_read_22 ⟨Nat.le_of_ble_eq_true rfl, Nat.le_of_ble_eq_true rfl⟩) hS (fun q _ h => hFc q h) hFc (fun r3 _ t H1 locs ht hvm hok hB hz1 hk1 hS => ?_)
    obtain ⟨hP, hD⟩ := cjoin_w ht hB hFc
    refine lv_istore_n (lv' := [(2, .int r3), (0, .ref (h 4)), (1, .int a1)]) hx hb dX0_read_25 rfl hl (by decide) rfl (fun ls hl => ?_)
    refine lv_aload_n hx hb dX0_read_26 rfl (lv_at hl 1 rfl) ?_
    refine lv_iload_n hx hb dX0_read_27 rfl (lv_at hl 2 rfl) ?_
    have hPc := hP
    have hDc := hD
    have hFc := va_free (wc := w_Board h cI cJ σ) hD hS hA [0, 1, 2, 3, 4, 5, 6] rfl
    refine va_callv (va_runV (As := [.int a1]) (rest := []) ⟨hx, hb, hml, hown, hts⟩ (c_X0_afterReading l dC dI cI cJ h _ hok) (cwV 1 hts (tb_gV tw_2_48 tw_2_50 tw_p_3 tw_1_2 tw_2_51) rfl rfl rfl (by decide +kernel) ⟨Nat.le_of_ble_eq_true rfl, Nat.le_of_ble_eq_true rfl⟩) (cpre_V (ci := 0) (q0 := 0) hK hPc hDc rfl rfl) rfl rfl hl.1 rfl (lv_room (Nat.le_of_ble_eq_true rfl)) dX0_read_28 ⟨Nat.le_of_ble_eq_true rfl, Nat.le_of_ble_eq_true rfl⟩) hS (fun q _ h => hFc q h) hFc (fun u4 t H1 locs ht hvm hok hB hz1 hk1 hS => ?_)
    obtain ⟨hP, hD⟩ := cjoin_w ht hB hFc
    refine lv_iload_n hx hb dX0_read_31 rfl (lv_at hl 0 rfl) ?_
    exact W.iret (v := r3) hx hb hr (fun t ht hW => ⟨⟨r3, u4, rfl, hok, by rw [ht]; exact hP, va_K.moved hW.alike hK, hD⟩, hS.F ht⟩) hS.2.2 dX0_read_32
  · have hok := hok.1 c2
    refine lv_aload_n hx hb dX0_read_7 rfl (lv_at hl 0 rfl) ?_
    refine va_get (D := (dC, dI)) (ci := 0) (v := .ref (h 9)) (C := RX0) (T := TX0) (N := 4) hx hb hts (fun w h => List.mem_cons_of_mem _ (in_X0 w h)) hown hK hP 0 rfl rfl 3 (by decide) (hts _ (List.mem_cons_of_mem _ tw_1_117)) (fun _ h9 => h9) rfl dX0_read_8 ?_
    refine lv_aload_n hx hb dX0_read_11 rfl (lv_at hl 0 rfl) ?_
    refine lv_iload_n hx hb dX0_read_12 rfl (lv_at hl 1 rfl) ?_
    have hPc := hP
    have hDc := hD
    have hFc := va_free (wc := w_Board h cI cJ σ) hD hS hA [0, 1, 2, 3, 4, 5, 6] rfl
    refine va_calli (va_runV (As := [.int a1]) (rest := [.ref (h 9)]) ⟨hx, hb, hml, hown, hts⟩ (c_X0_cell l dC dI cI cJ h _ hok) (cwV 1 hts (tb_gV tw_2_23 tw_2_25 tw_p_1 tw_1_2 tw_2_26) rfl rfl rfl (by decide +kernel) ⟨Nat.le_of_ble_eq_true rfl, Nat.le_of_ble_eq_true rfl⟩) (cpre_V (ci := 0) (q0 := 0) hK hPc hDc rfl rfl) rfl rfl hl.1 rfl (lv_room (Nat.le_of_ble_eq_true rfl)) dX0_read_13 ⟨Nat.le_of_ble_eq_true rfl, Nat.le_of_ble_eq_true rfl⟩) hS (fun q _ h => hFc q h) hFc (fun r5 _ t H1 locs ht hvm hok hB hz1 hk1 hS => ?_)
    obtain ⟨hP, hD⟩ := cjoin_w ht hB hFc
    have hPc := hP.sub (ws' := w_Memory h cI cJ σ.2.2.2) [5, 6] rfl
    have hDc := hD.sub (ws' := w_Memory h cI cJ σ.2.2.2) [5, 6] (by decide) rfl
    have hFc := va_free (wc := w_Memory h cI cJ σ.2.2.2) hD hS hA [5, 6] rfl
    refine va_calli (va_runV (As := [.int r5]) (rest := []) ⟨hx, hb, hml, hown, hts⟩ (c_X3_byteAt l dC dI cI cJ h _ hok) (cwV 1 hts (tb_gV tw_2_29 tw_2_30 tw_2_31 tw_1_5 tw_2_32) rfl rfl rfl (by decide +kernel) ⟨Nat.le_of_ble_eq_true rfl, Nat.le_of_ble_eq_true rfl⟩) (cpre_V (ci := 2) (q0 := 0) hK hPc hDc rfl rfl) rfl rfl hl.1 rfl (lv_room (Nat.le_of_ble_eq_true rfl)) dX0_read_16 ⟨Nat.le_of_ble_eq_true rfl, Nat.le_of_ble_eq_true rfl⟩) hS (fun q _ h => hFc q h) hFc (fun r6 _ t H1 locs ht hvm hok hB hz1 hk1 hS => ?_)
    obtain ⟨hP, hD⟩ := cjoin ht hP hD [5, 6] [0, 1, 2, 3, 4] rfl rfl (by decide) (by decide) hk1 hFc hB
    have hP := hP.sub (ws' := w_Board h cI cJ σ) [0, 1, 2, 3, 4, 5, 6] rfl
    have hD := hD.sub (ws' := w_Board h cI cJ σ) [0, 1, 2, 3, 4, 5, 6] (by decide) rfl
    exact W.iret (v := r6) hx hb hr (fun t ht hW => ⟨⟨r6, σ, rfl, hok, by rw [ht]; exact hP, va_K.moved hW.alike hK, hD⟩, hS.F ht⟩) hS.2.2 dX0_read_19
def wp_X0_peek (σ : S_Board) (a1 : Int32) (Φ : Int32 → Prop) : Prop := wp_X0_isDevice a1 (fun r1 => ((r1 = 0 → (wp_X0_cell σ a1 (fun r3 => wp_X3_byteAt σ.2.2.2 r3 (fun r4 => Φ r4)))) ∧ (¬ r1 = 0 → (wp_X0_peekDevice σ a1 (fun r5 => Φ r5)))))
set_option maxHeartbeats 4000000 in
set_option maxRecDepth 100000 in
theorem c_X0_peek (l : Launch) (dC : Nat → ClassId) (dI : Nat → Nat → Nat) (cI cJ : ClassId) (h : Nat → Nat) (sz : Nat) {σ : S_Board} {a1 : Int32} {Φ : Int32 → Prop} (hok : wp_X0_peek σ a1 Φ) : Met l yX0_peek wsX0_peek ({ frames := 2, cells := 0, slots := 0, locals := 42 }) (va_Pc [.ref (h 4), .int a1] (cpre dC dI cI cJ (w_Board h cI cJ σ) sz)) (va_Qi (fun (r : Int32) (_ : Unit) => Φ r) (fun _ => cpost dC dI cI cJ (va_A (w_Board h cI cJ σ) sz) (w_Board h cI cJ σ)) (va_A (w_Board h cI cJ σ) sz)) 0 0 (va_A (w_Board h cI cJ σ) sz) := by
  refine Met.ofW (cc := cX0_peek) (maxL := 2) (ret := (some .int)) (by decide) rfl ?_
  intro p e s m args below meth c s₁ B hml hv
  obtain ⟨rfl, hsz, hP, hK, hD0⟩ := hv
  have hx := B.exec
  have hb := B.bytes
  have hr := B.returns
  have hts := atoms_spec (ws := wsX0_peek) B.pre
  have hown : s.vm.findClass RX0 = some m.cls := findClass_of_methodNamed B.named
  have hlocks := B.notSynchronized
  subst hsz
  have hD := hD0.self (sz := s.heap.size)
  generalize hAe : va_A (w_Board h cI cJ σ) s.heap.size = A at hD ⊢
  have hA : ∀ q : Nat, s.heap.size ≤ q → A q := fun q h => by rw [← hAe]; exact Or.inr h
  clear hD0 hAe
  have hS : va_S A s.heap s.heap [] := va_S.rf
  have hl := lv_entry ([.ref (h 4), .int a1]) (n := 2) (Nat.le_of_ble_eq_true rfl)
  rw [lg_entry_eq]
  generalize (lg_sl ([.ref (h 4), .int a1]) ++ List.replicate (2 - (lg_sl ([.ref (h 4), .int a1])).length) Slot.unset).toArray = ls at hl ⊢
  have hl : lv_has ls 2 [(0, .ref (h 4)), (1, .int a1)] := hl
  unfold wp_X0_peek at hok
  refine lv_iload_n hx hb dX0_peek_0 rfl (lv_at hl 1 rfl) ?_
  have hPc := hP.sub (ws' := []) [] rfl
  have hDc := hD.sub (ws' := []) [] (by decide) rfl
  have hFc := va_free (wc := []) hD hS hA [] rfl
  refine va_calli (va_runS (As := [.int a1]) (rest := []) ⟨hx, hb, hml, hown, hts⟩ (c_X0_isDevice l dC dI cI cJ h _ hok) (va_cwS 1 hts (tb_gS tw_2_18 tw_2_19 tw_1_2 tw_2_20) rfl rfl rfl (by decide +kernel) ⟨Nat.le_of_ble_eq_true rfl, Nat.le_of_ble_eq_true rfl⟩) (cpre_S hK hPc hDc) rfl rfl hl.1 rfl (lv_room (Nat.le_of_ble_eq_true rfl)) dX0_peek_1 ⟨Nat.le_of_ble_eq_true rfl, Nat.le_of_ble_eq_true rfl⟩) hS (fun q _ h => hFc q h) hFc (fun r1 _ t H1 locs ht hvm hok hB hz1 hk1 hS => ?_)
  obtain ⟨hP, hD⟩ := cjoin ht hP hD [] [0, 1, 2, 3, 4, 5, 6] rfl rfl (by decide) (by decide) hk1 hFc hB
  have hP := hP.sub (ws' := w_Board h cI cJ σ) [0, 1, 2, 3, 4, 5, 6] rfl
  have hD := hD.sub (ws' := w_Board h cI cJ σ) [0, 1, 2, 3, 4, 5, 6] (by decide) rfl
  refine lv_if_eq (tgt := 15) hx hb dX0_peek_4 (by decide) (fun c2 => ?_) (fun c2 => ?_)
  · have hok := hok.1 c2
    refine lv_aload_n hx hb dX0_peek_15 rfl (lv_at hl 0 rfl) ?_
    refine va_get (D := (dC, dI)) (ci := 0) (v := .ref (h 9)) (C := RX0) (T := TX0) (N := 4) hx hb hts (fun w h => List.mem_cons_of_mem _ (in_X0 w h)) hown hK hP 0 rfl rfl 3 (by decide) (hts _ (List.mem_cons_of_mem _ tw_1_117)) (fun _ h9 => h9) rfl dX0_peek_16 ?_
    refine lv_aload_n hx hb dX0_peek_19 rfl (lv_at hl 0 rfl) ?_
    refine lv_iload_n hx hb dX0_peek_20 rfl (lv_at hl 1 rfl) ?_
    have hPc := hP
    have hDc := hD
    have hFc := va_free (wc := w_Board h cI cJ σ) hD hS hA [0, 1, 2, 3, 4, 5, 6] rfl
    refine va_calli (va_runV (As := [.int a1]) (rest := [.ref (h 9)]) ⟨hx, hb, hml, hown, hts⟩ (c_X0_cell l dC dI cI cJ h _ hok) (cwV 1 hts (tb_gV tw_2_23 tw_2_25 tw_p_1 tw_1_2 tw_2_26) rfl rfl rfl (by decide +kernel) ⟨Nat.le_of_ble_eq_true rfl, Nat.le_of_ble_eq_true rfl⟩) (cpre_V (ci := 0) (q0 := 0) hK hPc hDc rfl rfl) rfl rfl hl.1 rfl (lv_room (Nat.le_of_ble_eq_true rfl)) dX0_peek_21 ⟨Nat.le_of_ble_eq_true rfl, Nat.le_of_ble_eq_true rfl⟩) hS (fun q _ h => hFc q h) hFc (fun r3 _ t H1 locs ht hvm hok hB hz1 hk1 hS => ?_)
    obtain ⟨hP, hD⟩ := cjoin_w ht hB hFc
    have hPc := hP.sub (ws' := w_Memory h cI cJ σ.2.2.2) [5, 6] rfl
    have hDc := hD.sub (ws' := w_Memory h cI cJ σ.2.2.2) [5, 6] (by decide) rfl
    have hFc := va_free (wc := w_Memory h cI cJ σ.2.2.2) hD hS hA [5, 6] rfl
    refine va_calli (va_runV (As := [.int r3]) (rest := []) ⟨hx, hb, hml, hown, hts⟩ (c_X3_byteAt l dC dI cI cJ h _ hok) (cwV 1 hts (tb_gV tw_2_29 tw_2_30 tw_2_31 tw_1_5 tw_2_32) rfl rfl rfl (by decide +kernel) ⟨Nat.le_of_ble_eq_true rfl, Nat.le_of_ble_eq_true rfl⟩) (cpre_V (ci := 2) (q0 := 0) hK hPc hDc rfl rfl) rfl rfl hl.1 rfl (lv_room (Nat.le_of_ble_eq_true rfl)) dX0_peek_24 ⟨Nat.le_of_ble_eq_true rfl, Nat.le_of_ble_eq_true rfl⟩) hS (fun q _ h => hFc q h) hFc (fun r4 _ t H1 locs ht hvm hok hB hz1 hk1 hS => ?_)
    obtain ⟨hP, hD⟩ := cjoin ht hP hD [5, 6] [0, 1, 2, 3, 4] rfl rfl (by decide) (by decide) hk1 hFc hB
    have hP := hP.sub (ws' := w_Board h cI cJ σ) [0, 1, 2, 3, 4, 5, 6] rfl
    have hD := hD.sub (ws' := w_Board h cI cJ σ) [0, 1, 2, 3, 4, 5, 6] (by decide) rfl
    exact W.iret (v := r4) hx hb hr (fun t ht hW => ⟨⟨r4, (), rfl, hok, by rw [ht]; exact hP, va_K.moved hW.alike hK, hD⟩, hS.F ht⟩) hS.2.2 dX0_peek_27
  · have hok := hok.2 c2
    refine lv_aload_n hx hb dX0_peek_7 rfl (lv_at hl 0 rfl) ?_
    refine lv_iload_n hx hb dX0_peek_8 rfl (lv_at hl 1 rfl) ?_
    have hPc := hP
    have hDc := hD
    have hFc := va_free (wc := w_Board h cI cJ σ) hD hS hA [0, 1, 2, 3, 4, 5, 6] rfl
    refine va_calli (va_runV (As := [.int a1]) (rest := []) ⟨hx, hb, hml, hown, hts⟩ (c_X0_peekDevice l dC dI cI cJ h _ hok) (cwV 1 hts (tb_gV tw_2_33 tw_2_35 tw_p_2 tw_1_2 tw_2_36) rfl rfl rfl (by decide +kernel) ⟨Nat.le_of_ble_eq_true rfl, Nat.le_of_ble_eq_true rfl⟩) (cpre_V (ci := 0) (q0 := 0) hK hPc hDc rfl rfl) rfl rfl hl.1 rfl (lv_room (Nat.le_of_ble_eq_true rfl)) dX0_peek_9 ⟨Nat.le_of_ble_eq_true rfl, Nat.le_of_ble_eq_true rfl⟩) hS (fun q _ h => hFc q h) hFc (fun r5 _ t H1 locs ht hvm hok hB hz1 hk1 hS => ?_)
    obtain ⟨hP, hD⟩ := cjoin_w ht hB hFc
    refine lv_goto (tgt := 27) hx hb dX0_peek_12 (by decide) ?_
    exact W.iret (v := r5) hx hb hr (fun t ht hW => ⟨⟨r5, (), rfl, hok, by rw [ht]; exact hP, va_K.moved hW.alike hK, hD⟩, hS.F ht⟩) hS.2.2 dX0_peek_27
def wp_X0_write (σ : S_Board) (a1 : Int32) (a2 : Int32) (Φ : S_Board → Prop) : Prop := (((40960 : Int32) ≤ a1 → ((((40976 : Int32) ≤ a1 → ((((40979 : Int32) ≤ a1 → (((a1 = (40992 : Int32) → (Φ (upd σ.1 2 (a2 &&& (3 : Int32)), σ.2.1, σ.2.2.1, σ.2.2.2))) ∧ (¬ a1 = (40992 : Int32) → (Φ σ))))) ∧ (¬ (40979 : Int32) ≤ a1 → (wp_X4_write σ.2.2.1 (a1 - (40976 : Int32)) a2 (fun u5 => Φ (σ.1, σ.2.1, u5, σ.2.2.2))))))) ∧ (¬ (40976 : Int32) ≤ a1 → (wp_X6_write σ.2.1 (a1 - (40960 : Int32)) a2 (fun u6 => Φ (σ.1, u6, σ.2.2.1, σ.2.2.2))))))) ∧ (¬ (40960 : Int32) ≤ a1 → (wp_X0_cell σ a1 (fun r7 => wp_X3_store σ.2.2.2 r7 a2 (fun u8 => Φ (σ.1, σ.2.1, σ.2.2.1, u8))))))
set_option maxHeartbeats 4000000 in
set_option maxRecDepth 100000 in
theorem c_X0_write (l : Launch) (dC : Nat → ClassId) (dI : Nat → Nat → Nat) (cI cJ : ClassId) (h : Nat → Nat) (sz : Nat) {σ : S_Board} {a1 : Int32} {a2 : Int32} {Φ : S_Board → Prop} (hok : wp_X0_write σ a1 a2 Φ) : Met l yX0_write wsX0_write ({ frames := 1, cells := 0, slots := 0, locals := 25 }) (va_Pc [.ref (h 4), .int a1, .int a2] (cpre dC dI cI cJ (w_Board h cI cJ σ) sz)) (va_Qv Φ (fun u => cpost dC dI cI cJ (va_A (w_Board h cI cJ σ) sz) (w_Board h cI cJ u)) (va_A (w_Board h cI cJ σ) sz)) 0 0 (va_A (w_Board h cI cJ σ) sz) := by
  refine Met.ofW (cc := cX0_write) (maxL := 3) (ret := none) (by decide) rfl ?_
  intro p e s m args below meth c s₁ B hml hv
  obtain ⟨rfl, hsz, hP, hK, hD0⟩ := hv
  have hx := B.exec
  have hb := B.bytes
  have hr := B.returns
  have hts := atoms_spec (ws := wsX0_write) B.pre
  have hown : s.vm.findClass RX0 = some m.cls := findClass_of_methodNamed B.named
  have hlocks := B.notSynchronized
  subst hsz
  have hD := hD0.self (sz := s.heap.size)
  generalize hAe : va_A (w_Board h cI cJ σ) s.heap.size = A at hD ⊢
  have hA : ∀ q : Nat, s.heap.size ≤ q → A q := fun q h => by rw [← hAe]; exact Or.inr h
  clear hD0 hAe
  have hS : va_S A s.heap s.heap [] := va_S.rf
  have hl := lv_entry ([.ref (h 4), .int a1, .int a2]) (n := 3) (Nat.le_of_ble_eq_true rfl)
  rw [lg_entry_eq]
  generalize (lg_sl ([.ref (h 4), .int a1, .int a2]) ++ List.replicate (3 - (lg_sl ([.ref (h 4), .int a1, .int a2])).length) Slot.unset).toArray = ls at hl ⊢
  have hl : lv_has ls 3 [(0, .ref (h 4)), (1, .int a1), (2, .int a2)] := hl
  unfold wp_X0_write at hok
  refine lv_iload_n hx hb dX0_write_0 rfl (lv_at hl 1 rfl) ?_
  refine lv_ldc (v := 40960) hx hb hown (hts _ (List.mem_cons_of_mem _ tw_2_21)) dX0_write_1 ?_
  refine lv_icmp_ge (tgt := 22) hx hb dX0_write_3 (by decide) (fun c1 => ?_) (fun c1 => ?_)
  · have hok := hok.1 c1
    refine lv_iload_n hx hb dX0_write_22 rfl (lv_at hl 1 rfl) ?_
    refine lv_ldc (v := 40976) hx hb hown (hts _ (List.mem_cons_of_mem _ tw_2_37)) dX0_write_23 ?_
    refine lv_icmp_ge (tgt := 43) hx hb dX0_write_25 (by decide) (fun c2 => ?_) (fun c2 => ?_)
    · have hok := hok.1 c2
      refine lv_iload_n hx hb dX0_write_43 rfl (lv_at hl 1 rfl) ?_
      refine lv_ldc (v := 40979) hx hb hown (hts _ (List.mem_cons_of_mem _ tw_2_42)) dX0_write_44 ?_
      refine lv_icmp_ge (tgt := 64) hx hb dX0_write_46 (by decide) (fun c3 => ?_) (fun c3 => ?_)
      · have hok := hok.1 c3
        refine lv_iload_n hx hb dX0_write_64 rfl (lv_at hl 1 rfl) ?_
        refine lv_ldc (v := 40992) hx hb hown (hts _ (List.mem_cons_of_mem _ tw_2_47)) dX0_write_65 ?_
        refine lv_icmp_ne (tgt := 77) hx hb dX0_write_67 (by decide) (fun c4 => ?_) (fun c4 => ?_)
        · have hok := hok.2 c4
          exact W.vret hx hb hr (fun t ht hW => ⟨⟨σ, rfl, hok, by rw [ht]; exact hP, va_K.moved hW.alike hK, hD⟩, hS.F ht⟩) hS.2.2 dX0_write_77
        · have hok := hok.1 c4
          refine lv_aload_n hx hb dX0_write_70 rfl (lv_at hl 0 rfl) ?_
          refine lv_iload_n hx hb dX0_write_71 rfl (lv_at hl 2 rfl) ?_
          refine lv_iconst (v := 3) hx hb dX0_write_72 (by decide) ?_
          refine lv_iand hx hb dX0_write_73 ?_
          refine va_put (D := (dC, dI)) (ci := 0) (v := .int (a2 &&& (3 : Int32))) (ty := .int) (C := RX0) (T := TX0) (N := 4) hx hb hts (fun w h => List.mem_cons_of_mem _ (in_X0 w h)) tyX0 tyX0_ok nmX0 hown hK hP hD hS 0 rfl rfl 2 (by decide) (hts _ (List.mem_cons_of_mem _ tw_1_115)) (fun _ h9 => h9) rfl (by decide +kernel) rfl rfl (Nat.le_of_ble_eq_true rfl) dX0_write_74 (fun H locs hP hD hS => ?_)
          have hP : va_P (dC, dI) vwCl (w_Board h cI cJ (upd σ.1 2 (a2 &&& (3 : Int32)), σ.2.1, σ.2.2.1, σ.2.2.2)) _ := hP
          have hD : va_D A (w_Board h cI cJ (upd σ.1 2 (a2 &&& (3 : Int32)), σ.2.1, σ.2.2.1, σ.2.2.2)) := hD
          exact W.vret hx hb hr (fun t ht hW => ⟨⟨(upd σ.1 2 (a2 &&& (3 : Int32)), σ.2.1, σ.2.2.1, σ.2.2.2), rfl, hok, by rw [ht]; exact hP, va_K.moved hW.alike hK, hD⟩, hS.F ht⟩) hS.2.2 dX0_write_77
      · have hok := hok.2 c3
        refine lv_aload_n hx hb dX0_write_49 rfl (lv_at hl 0 rfl) ?_
        refine va_get (D := (dC, dI)) (ci := 0) (v := .ref (h 6)) (C := RX0) (T := TX0) (N := 4) hx hb hts (fun w h => List.mem_cons_of_mem _ (in_X0 w h)) hown hK hP 0 rfl rfl 1 (by decide) (hts _ (List.mem_cons_of_mem _ tw_1_113)) (fun _ h9 => h9) rfl dX0_write_50 ?_
        refine lv_iload_n hx hb dX0_write_53 rfl (lv_at hl 1 rfl) ?_
        refine lv_ldc (v := 40976) hx hb hown (hts _ (List.mem_cons_of_mem _ tw_2_37)) dX0_write_54 ?_
        refine lv_isub hx hb dX0_write_56 ?_
        refine lv_iload_n hx hb dX0_write_57 rfl (lv_at hl 2 rfl) ?_
        have hPc := hP.sub (ws' := w_Port h cI cJ σ.2.2.1) [2, 3, 4] rfl
        have hDc := hD.sub (ws' := w_Port h cI cJ σ.2.2.1) [2, 3, 4] (by decide) rfl
        have hFc := va_free (wc := w_Port h cI cJ σ.2.2.1) hD hS hA [2, 3, 4] rfl
        refine va_callv (va_runV (As := [.int (a1 - (40976 : Int32)), .int a2]) (rest := []) ⟨hx, hb, hml, hown, hts⟩ (c_X4_write l dC dI cI cJ h _ hok) (cwV 2 hts (tb_gV tw_2_111 tw_2_112 tw_2_113 tw_1_4 tw_2_114) rfl rfl rfl (by decide +kernel) ⟨Nat.le_of_ble_eq_true rfl, Nat.le_of_ble_eq_true rfl⟩) (cpre_V (ci := 3) (q0 := 0) hK hPc hDc rfl rfl) rfl rfl hl.1 rfl (lv_room (Nat.le_of_ble_eq_true rfl)) dX0_write_58 ⟨Nat.le_of_ble_eq_true rfl, Nat.le_of_ble_eq_true rfl⟩) hS (fun q _ h => hFc q h) hFc (fun u5 t H1 locs ht hvm hok hB hz1 hk1 hS => ?_)
        obtain ⟨hP, hD⟩ := cjoin ht hP hD [2, 3, 4] [0, 1, 5, 6] rfl rfl (by decide) (by decide) hk1 hFc hB
        have hP := hP.sub (ws' := w_Board h cI cJ (σ.1, σ.2.1, u5, σ.2.2.2)) [0, 1, 4, 5, 6, 2, 3] rfl
        have hD := hD.sub (ws' := w_Board h cI cJ (σ.1, σ.2.1, u5, σ.2.2.2)) [0, 1, 4, 5, 6, 2, 3] (by decide) rfl
        refine lv_goto (tgt := 77) hx hb dX0_write_61 (by decide) ?_
        exact W.vret hx hb hr (fun t ht hW => ⟨⟨(σ.1, σ.2.1, u5, σ.2.2.2), rfl, hok, by rw [ht]; exact hP, va_K.moved hW.alike hK, hD⟩, hS.F ht⟩) hS.2.2 dX0_write_77
    · have hok := hok.2 c2
      refine lv_aload_n hx hb dX0_write_28 rfl (lv_at hl 0 rfl) ?_
      refine va_get (D := (dC, dI)) (ci := 0) (v := .ref (h 5)) (C := RX0) (T := TX0) (N := 4) hx hb hts (fun w h => List.mem_cons_of_mem _ (in_X0 w h)) hown hK hP 0 rfl rfl 0 (by decide) (hts _ (List.mem_cons_of_mem _ tw_1_110)) (fun _ h9 => h9) rfl dX0_write_29 ?_
      refine lv_iload_n hx hb dX0_write_32 rfl (lv_at hl 1 rfl) ?_
      refine lv_ldc (v := 40960) hx hb hown (hts _ (List.mem_cons_of_mem _ tw_2_21)) dX0_write_33 ?_
      refine lv_isub hx hb dX0_write_35 ?_
      refine lv_iload_n hx hb dX0_write_36 rfl (lv_at hl 2 rfl) ?_
      have hPc := hP.sub (ws' := w_Timers h cI cJ σ.2.1) [1] rfl
      have hDc := hD.sub (ws' := w_Timers h cI cJ σ.2.1) [1] (by decide) rfl
      have hFc := va_free (wc := w_Timers h cI cJ σ.2.1) hD hS hA [1] rfl
      refine va_callv (va_runV (As := [.int (a1 - (40960 : Int32)), .int a2]) (rest := []) ⟨hx, hb, hml, hown, hts⟩ (c_X6_write l dC dI cI cJ h _ hok) (cwV 2 hts (tb_gV tw_2_106 tw_2_107 tw_2_108 tw_1_3 tw_2_109) rfl rfl rfl (by decide +kernel) ⟨Nat.le_of_ble_eq_true rfl, Nat.le_of_ble_eq_true rfl⟩) (cpre_V (ci := 5) (q0 := 0) hK hPc hDc rfl rfl) rfl rfl hl.1 rfl (lv_room (Nat.le_of_ble_eq_true rfl)) dX0_write_37 ⟨Nat.le_of_ble_eq_true rfl, Nat.le_of_ble_eq_true rfl⟩) hS (fun q _ h => hFc q h) hFc (fun u6 t H1 locs ht hvm hok hB hz1 hk1 hS => ?_)
      obtain ⟨hP, hD⟩ := cjoin ht hP hD [1] [0, 2, 3, 4, 5, 6] rfl rfl (by decide) (by decide) hk1 hFc hB
      have hP := hP.sub (ws' := w_Board h cI cJ (σ.1, u6, σ.2.2.1, σ.2.2.2)) [0, 6, 1, 2, 3, 4, 5] rfl
      have hD := hD.sub (ws' := w_Board h cI cJ (σ.1, u6, σ.2.2.1, σ.2.2.2)) [0, 6, 1, 2, 3, 4, 5] (by decide) rfl
      refine lv_goto (tgt := 77) hx hb dX0_write_40 (by decide) ?_
      exact W.vret hx hb hr (fun t ht hW => ⟨⟨(σ.1, u6, σ.2.2.1, σ.2.2.2), rfl, hok, by rw [ht]; exact hP, va_K.moved hW.alike hK, hD⟩, hS.F ht⟩) hS.2.2 dX0_write_77
  · have hok := hok.2 c1
    refine lv_aload_n hx hb dX0_write_6 rfl (lv_at hl 0 rfl) ?_
    refine va_get (D := (dC, dI)) (ci := 0) (v := .ref (h 9)) (C := RX0) (T := TX0) (N := 4) hx hb hts (fun w h => List.mem_cons_of_mem _ (in_X0 w h)) hown hK hP 0 rfl rfl 3 (by decide) (hts _ (List.mem_cons_of_mem _ tw_1_117)) (fun _ h9 => h9) rfl dX0_write_7 ?_
    refine lv_aload_n hx hb dX0_write_10 rfl (lv_at hl 0 rfl) ?_
    refine lv_iload_n hx hb dX0_write_11 rfl (lv_at hl 1 rfl) ?_
    have hPc := hP
    have hDc := hD
    have hFc := va_free (wc := w_Board h cI cJ σ) hD hS hA [0, 1, 2, 3, 4, 5, 6] rfl
    refine va_calli (va_runV (As := [.int a1]) (rest := [.ref (h 9)]) ⟨hx, hb, hml, hown, hts⟩ (c_X0_cell l dC dI cI cJ h _ hok) (cwV 1 hts (tb_gV tw_2_23 tw_2_25 tw_p_1 tw_1_2 tw_2_26) rfl rfl rfl (by decide +kernel) ⟨Nat.le_of_ble_eq_true rfl, Nat.le_of_ble_eq_true rfl⟩) (cpre_V (ci := 0) (q0 := 0) hK hPc hDc rfl rfl) rfl rfl hl.1 rfl (lv_room (Nat.le_of_ble_eq_true rfl)) dX0_write_12 ⟨Nat.le_of_ble_eq_true rfl, Nat.le_of_ble_eq_true rfl⟩) hS (fun q _ h => hFc q h) hFc (fun r7 _ t H1 locs ht hvm hok hB hz1 hk1 hS => ?_)
    obtain ⟨hP, hD⟩ := cjoin_w ht hB hFc
    refine lv_iload_n hx hb dX0_write_15 rfl (lv_at hl 2 rfl) ?_
    have hPc := hP.sub (ws' := w_Memory h cI cJ σ.2.2.2) [5, 6] rfl
    have hDc := hD.sub (ws' := w_Memory h cI cJ σ.2.2.2) [5, 6] (by decide) rfl
    have hFc := va_free (wc := w_Memory h cI cJ σ.2.2.2) hD hS hA [5, 6] rfl
    refine va_callv (va_runV (As := [.int r7, .int a2]) (rest := []) ⟨hx, hb, hml, hown, hts⟩ (c_X3_store l dC dI cI cJ h _ hok) (cwV 2 hts (tb_gV tw_2_100 tw_2_101 tw_2_102 tw_1_5 tw_2_103) rfl rfl rfl (by decide +kernel) ⟨Nat.le_of_ble_eq_true rfl, Nat.le_of_ble_eq_true rfl⟩) (cpre_V (ci := 2) (q0 := 0) hK hPc hDc rfl rfl) rfl rfl hl.1 rfl (lv_room (Nat.le_of_ble_eq_true rfl)) dX0_write_16 ⟨Nat.le_of_ble_eq_true rfl, Nat.le_of_ble_eq_true rfl⟩) hS (fun q _ h => hFc q h) hFc (fun u8 t H1 locs ht hvm hok hB hz1 hk1 hS => ?_)
    obtain ⟨hP, hD⟩ := cjoin ht hP hD [5, 6] [0, 1, 2, 3, 4] rfl rfl (by decide) (by decide) hk1 hFc hB
    have hP := hP.sub (ws' := w_Board h cI cJ (σ.1, σ.2.1, σ.2.2.1, u8)) [0, 1, 2, 3, 4, 5, 6] rfl
    have hD := hD.sub (ws' := w_Board h cI cJ (σ.1, σ.2.1, σ.2.2.1, u8)) [0, 1, 2, 3, 4, 5, 6] (by decide) rfl
    refine lv_goto (tgt := 77) hx hb dX0_write_19 (by decide) ?_
    exact W.vret hx hb hr (fun t ht hW => ⟨⟨(σ.1, σ.2.1, σ.2.2.1, u8), rfl, hok, by rw [ht]; exact hP, va_K.moved hW.alike hK, hD⟩, hS.F ht⟩) hS.2.2 dX0_write_77
def wp_X0_place (σ : S_Board) (a1 : Int32) (a2 : Int32) (Φ : S_Board → Prop) : Prop := wp_X0_isDevice a1 (fun r1 => ((r1 = 0 → (wp_X0_cell σ a1 (fun r3 => wp_X3_store σ.2.2.2 r3 a2 (fun u4 => Φ (σ.1, σ.2.1, σ.2.2.1, u4))))) ∧ (¬ r1 = 0 → (Φ σ))))
set_option maxHeartbeats 4000000 in
set_option maxRecDepth 100000 in
theorem c_X0_place (l : Launch) (dC : Nat → ClassId) (dI : Nat → Nat → Nat) (cI cJ : ClassId) (h : Nat → Nat) (sz : Nat) {σ : S_Board} {a1 : Int32} {a2 : Int32} {Φ : S_Board → Prop} (hok : wp_X0_place σ a1 a2 Φ) : Met l yX0_place wsX0_place ({ frames := 1, cells := 0, slots := 0, locals := 25 }) (va_Pc [.ref (h 4), .int a1, .int a2] (cpre dC dI cI cJ (w_Board h cI cJ σ) sz)) (va_Qv Φ (fun u => cpost dC dI cI cJ (va_A (w_Board h cI cJ σ) sz) (w_Board h cI cJ u)) (va_A (w_Board h cI cJ σ) sz)) 0 0 (va_A (w_Board h cI cJ σ) sz) := by
  refine Met.ofW (cc := cX0_place) (maxL := 3) (ret := none) (by decide) rfl ?_
  intro p e s m args below meth c s₁ B hml hv
  obtain ⟨rfl, hsz, hP, hK, hD0⟩ := hv
  have hx := B.exec
  have hb := B.bytes
  have hr := B.returns
  have hts := atoms_spec (ws := wsX0_place) B.pre
  have hown : s.vm.findClass RX0 = some m.cls := findClass_of_methodNamed B.named
  have hlocks := B.notSynchronized
  subst hsz
  have hD := hD0.self (sz := s.heap.size)
  generalize hAe : va_A (w_Board h cI cJ σ) s.heap.size = A at hD ⊢
  have hA : ∀ q : Nat, s.heap.size ≤ q → A q := fun q h => by rw [← hAe]; exact Or.inr h
  clear hD0 hAe
  have hS : va_S A s.heap s.heap [] := va_S.rf
  have hl := lv_entry ([.ref (h 4), .int a1, .int a2]) (n := 3) (Nat.le_of_ble_eq_true rfl)
  rw [lg_entry_eq]
  generalize (lg_sl ([.ref (h 4), .int a1, .int a2]) ++ List.replicate (3 - (lg_sl ([.ref (h 4), .int a1, .int a2])).length) Slot.unset).toArray = ls at hl ⊢
  have hl : lv_has ls 3 [(0, .ref (h 4)), (1, .int a1), (2, .int a2)] := hl
  unfold wp_X0_place at hok
  refine lv_iload_n hx hb dX0_place_0 rfl (lv_at hl 1 rfl) ?_
  have hPc := hP.sub (ws' := []) [] rfl
  have hDc := hD.sub (ws' := []) [] (by decide) rfl
  have hFc := va_free (wc := []) hD hS hA [] rfl
  refine va_calli (va_runS (As := [.int a1]) (rest := []) ⟨hx, hb, hml, hown, hts⟩ (c_X0_isDevice l dC dI cI cJ h _ hok) (va_cwS 1 hts (tb_gS tw_2_18 tw_2_19 tw_1_2 tw_2_20) rfl rfl rfl (by decide +kernel) ⟨Nat.le_of_ble_eq_true rfl, Nat.le_of_ble_eq_true rfl⟩) (cpre_S hK hPc hDc) rfl rfl hl.1 rfl (lv_room (Nat.le_of_ble_eq_true rfl)) dX0_place_1 ⟨Nat.le_of_ble_eq_true rfl, Nat.le_of_ble_eq_true rfl⟩) hS (fun q _ h => hFc q h) hFc (fun r1 _ t H1 locs ht hvm hok hB hz1 hk1 hS => ?_)
  obtain ⟨hP, hD⟩ := cjoin ht hP hD [] [0, 1, 2, 3, 4, 5, 6] rfl rfl (by decide) (by decide) hk1 hFc hB
  have hP := hP.sub (ws' := w_Board h cI cJ σ) [0, 1, 2, 3, 4, 5, 6] rfl
  have hD := hD.sub (ws' := w_Board h cI cJ σ) [0, 1, 2, 3, 4, 5, 6] (by decide) rfl
  refine lv_if_ne (tgt := 20) hx hb dX0_place_4 (by decide) (fun c2 => ?_) (fun c2 => ?_)
  · have hok := hok.2 c2
    exact W.vret hx hb hr (fun t ht hW => ⟨⟨σ, rfl, hok, by rw [ht]; exact hP, va_K.moved hW.alike hK, hD⟩, hS.F ht⟩) hS.2.2 dX0_place_20
  · have hok := hok.1 c2
    refine lv_aload_n hx hb dX0_place_7 rfl (lv_at hl 0 rfl) ?_
    refine va_get (D := (dC, dI)) (ci := 0) (v := .ref (h 9)) (C := RX0) (T := TX0) (N := 4) hx hb hts (fun w h => List.mem_cons_of_mem _ (in_X0 w h)) hown hK hP 0 rfl rfl 3 (by decide) (hts _ (List.mem_cons_of_mem _ tw_1_117)) (fun _ h9 => h9) rfl dX0_place_8 ?_
    refine lv_aload_n hx hb dX0_place_11 rfl (lv_at hl 0 rfl) ?_
    refine lv_iload_n hx hb dX0_place_12 rfl (lv_at hl 1 rfl) ?_
    have hPc := hP
    have hDc := hD
    have hFc := va_free (wc := w_Board h cI cJ σ) hD hS hA [0, 1, 2, 3, 4, 5, 6] rfl
    refine va_calli (va_runV (As := [.int a1]) (rest := [.ref (h 9)]) ⟨hx, hb, hml, hown, hts⟩ (c_X0_cell l dC dI cI cJ h _ hok) (cwV 1 hts (tb_gV tw_2_23 tw_2_25 tw_p_1 tw_1_2 tw_2_26) rfl rfl rfl (by decide +kernel) ⟨Nat.le_of_ble_eq_true rfl, Nat.le_of_ble_eq_true rfl⟩) (cpre_V (ci := 0) (q0 := 0) hK hPc hDc rfl rfl) rfl rfl hl.1 rfl (lv_room (Nat.le_of_ble_eq_true rfl)) dX0_place_13 ⟨Nat.le_of_ble_eq_true rfl, Nat.le_of_ble_eq_true rfl⟩) hS (fun q _ h => hFc q h) hFc (fun r3 _ t H1 locs ht hvm hok hB hz1 hk1 hS => ?_)
    obtain ⟨hP, hD⟩ := cjoin_w ht hB hFc
    refine lv_iload_n hx hb dX0_place_16 rfl (lv_at hl 2 rfl) ?_
    have hPc := hP.sub (ws' := w_Memory h cI cJ σ.2.2.2) [5, 6] rfl
    have hDc := hD.sub (ws' := w_Memory h cI cJ σ.2.2.2) [5, 6] (by decide) rfl
    have hFc := va_free (wc := w_Memory h cI cJ σ.2.2.2) hD hS hA [5, 6] rfl
    refine va_callv (va_runV (As := [.int r3, .int a2]) (rest := []) ⟨hx, hb, hml, hown, hts⟩ (c_X3_store l dC dI cI cJ h _ hok) (cwV 2 hts (tb_gV tw_2_100 tw_2_101 tw_2_102 tw_1_5 tw_2_103) rfl rfl rfl (by decide +kernel) ⟨Nat.le_of_ble_eq_true rfl, Nat.le_of_ble_eq_true rfl⟩) (cpre_V (ci := 2) (q0 := 0) hK hPc hDc rfl rfl) rfl rfl hl.1 rfl (lv_room (Nat.le_of_ble_eq_true rfl)) dX0_place_17 ⟨Nat.le_of_ble_eq_true rfl, Nat.le_of_ble_eq_true rfl⟩) hS (fun q _ h => hFc q h) hFc (fun u4 t H1 locs ht hvm hok hB hz1 hk1 hS => ?_)
    obtain ⟨hP, hD⟩ := cjoin ht hP hD [5, 6] [0, 1, 2, 3, 4] rfl rfl (by decide) (by decide) hk1 hFc hB
    have hP := hP.sub (ws' := w_Board h cI cJ (σ.1, σ.2.1, σ.2.2.1, u4)) [0, 1, 2, 3, 4, 5, 6] rfl
    have hD := hD.sub (ws' := w_Board h cI cJ (σ.1, σ.2.1, σ.2.2.1, u4)) [0, 1, 2, 3, 4, 5, 6] (by decide) rfl
    exact W.vret hx hb hr (fun t ht hW => ⟨⟨(σ.1, σ.2.1, σ.2.2.1, u4), rfl, hok, by rw [ht]; exact hP, va_K.moved hW.alike hK, hD⟩, hS.F ht⟩) hS.2.2 dX0_place_20
