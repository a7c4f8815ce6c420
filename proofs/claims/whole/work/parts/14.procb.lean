def wp_X5_stored (σ : S_Proc) (a1 : Int32) (Φ : Int32 → Prop) : Prop := ((a1 = 16 → (Φ (σ.1 0))) ∧ (a1 = 17 → (Φ (σ.1 1))) ∧ (a1 = 18 → (Φ (σ.1 2))) ∧ ((¬ a1 = 16 ∧ ¬ a1 = 17 ∧ ¬ a1 = 18) → (Φ 0)))
set_option maxHeartbeats 4000000 in
set_option maxRecDepth 100000 in
theorem c_X5_stored (l : Launch) (dC : Nat → ClassId) (dI : Nat → Nat → Nat) (cI cJ : ClassId) (h : Nat → Nat) (sz : Nat) {σ : S_Proc} {a1 : Int32} {Φ : Int32 → Prop} (hok : wp_X5_stored σ a1 Φ) : Met l yX5_stored wsX5_stored ({ frames := 0, cells := 0, slots := 0, locals := 0 }) (va_Pc [.ref (h 1), .int a1] (cpre dC dI cI cJ (w_Proc h cI cJ σ) sz)) (va_Qi (fun (r : Int32) (_ : Unit) => Φ r) (fun _ => cpost dC dI cI cJ (va_A (w_Proc h cI cJ σ) sz) (w_Proc h cI cJ σ)) (va_A (w_Proc h cI cJ σ) sz)) 0 0 (va_A (w_Proc h cI cJ σ) sz) := by
  refine Met.ofW (cc := cX5_stored) (maxL := 2) (ret := (some .int)) (by decide) rfl ?_
  intro p e s m args below meth c s₁ B hml hv
  obtain ⟨rfl, hsz, hP, hK, hD0⟩ := hv
  have hx := B.exec
  have hb := B.bytes
  have hr := B.returns
  have hts := atoms_spec (ws := wsX5_stored) B.pre
  have hown : s.vm.findClass RX5 = some m.cls := findClass_of_methodNamed B.named
  have hlocks := B.notSynchronized
  subst hsz
  have hD := hD0.self (sz := s.heap.size)
  generalize hAe : va_A (w_Proc h cI cJ σ) s.heap.size = A at hD ⊢
  have hA : ∀ q : Nat, s.heap.size ≤ q → A q := fun q h => by rw [← hAe]; exact Or.inr h
  clear hD0 hAe
  have hS : va_S A s.heap s.heap [] := va_S.rf
  have hl := lv_entry ([.ref (h 1), .int a1]) (n := 2) (Nat.le_of_ble_eq_true rfl)
  rw [lg_entry_eq]
  generalize (lg_sl ([.ref (h 1), .int a1]) ++ List.replicate (2 - (lg_sl ([.ref (h 1), .int a1])).length) Slot.unset).toArray = ls at hl ⊢
  have hl : lv_has ls 2 [(0, .ref (h 1)), (1, .int a1)] := hl
  unfold wp_X5_stored at hok
  refine lv_iload_n hx hb dX5_stored_0 rfl (lv_at hl 1 rfl) ?_
  by_cases c1 : a1 = 16
  · have hok := hok.1 c1
    refine lv_tableIn (tgt := 28) (off := 27) hx hb dX5_stored_1 (by rw [c1]; decide) (by rw [c1]; decide) (by rw [c1]; decide) (by decide) ?_
    refine lv_aload_n hx hb dX5_stored_28 rfl (lv_at hl 0 rfl) ?_
    refine va_get (D := (dC, dI)) (ci := 4) (v := .int (σ.1 0)) (C := RX5) (T := TX5) (N := 15) hx hb hts (fun w h => List.mem_cons_of_mem _ (in_X5 w h)) hown hK hP 0 rfl rfl 0 (by decide) (hts _ (List.mem_cons_of_mem _ tw_1_148)) (fun _ h9 => h9) rfl dX5_stored_29 ?_
    refine lv_goto (tgt := 50) hx hb dX5_stored_32 (by decide) ?_
    exact W.iret (v := σ.1 0) hx hb hr (fun t ht hW => ⟨⟨σ.1 0, (), rfl, hok, by rw [ht]; exact hP, va_K.moved hW.alike hK, hD⟩, hS.F ht⟩) hS.2.2 dX5_stored_50
  have hok := hok.2
  by_cases c2 : a1 = 17
  · have hok := hok.1 c2
    refine lv_tableIn (tgt := 35) (off := 34) hx hb dX5_stored_1 (by rw [c2]; decide) (by rw [c2]; decide) (by rw [c2]; decide) (by decide) ?_
    refine lv_aload_n hx hb dX5_stored_35 rfl (lv_at hl 0 rfl) ?_
    refine va_get (D := (dC, dI)) (ci := 4) (v := .int (σ.1 1)) (C := RX5) (T := TX5) (N := 15) hx hb hts (fun w h => List.mem_cons_of_mem _ (in_X5 w h)) hown hK hP 0 rfl rfl 1 (by decide) (hts _ (List.mem_cons_of_mem _ tw_1_149)) (fun _ h9 => h9) rfl dX5_stored_36 ?_
    refine lv_goto (tgt := 50) hx hb dX5_stored_39 (by decide) ?_
    exact W.iret (v := σ.1 1) hx hb hr (fun t ht hW => ⟨⟨σ.1 1, (), rfl, hok, by rw [ht]; exact hP, va_K.moved hW.alike hK, hD⟩, hS.F ht⟩) hS.2.2 dX5_stored_50
  have hok := hok.2
  by_cases c3 : a1 = 18
  · have hok := hok.1 c3
    refine lv_tableIn (tgt := 42) (off := 41) hx hb dX5_stored_1 (by rw [c3]; decide) (by rw [c3]; decide) (by rw [c3]; decide) (by decide) ?_
    refine lv_aload_n hx hb dX5_stored_42 rfl (lv_at hl 0 rfl) ?_
    refine va_get (D := (dC, dI)) (ci := 4) (v := .int (σ.1 2)) (C := RX5) (T := TX5) (N := 15) hx hb hts (fun w h => List.mem_cons_of_mem _ (in_X5 w h)) hown hK hP 0 rfl rfl 2 (by decide) (hts _ (List.mem_cons_of_mem _ tw_1_151)) (fun _ h9 => h9) rfl dX5_stored_43 ?_
    refine lv_goto (tgt := 50) hx hb dX5_stored_46 (by decide) ?_
    exact W.iret (v := σ.1 2) hx hb hr (fun t ht hW => ⟨⟨σ.1 2, (), rfl, hok, by rw [ht]; exact hP, va_K.moved hW.alike hK, hD⟩, hS.F ht⟩) hS.2.2 dX5_stored_50
  have hok := hok.2
  have hok := hok ⟨c1, c2, c3⟩
  have kz3 : ∀ k ∈ ([16, 17, 18] : List Int), (a1).toInt ≠ k := List.forall_mem_cons.mpr ⟨tb_ne c1 rfl, List.forall_mem_cons.mpr ⟨tb_ne c2 rfl, List.forall_mem_cons.mpr ⟨tb_ne c3 rfl, fun k h => absurd h List.not_mem_nil⟩⟩⟩
  refine tb_def (tgt := 49) (keys := [16, 17, 18]) hx hb dX5_stored_1 kz3 (by decide) (by decide) ?_
  refine lv_iconst (v := 0) hx hb dX5_stored_49 (by decide) ?_
  exact W.iret (v := 0) hx hb hr (fun t ht hW => ⟨⟨0, (), rfl, hok, by rw [ht]; exact hP, va_K.moved hW.alike hK, hD⟩, hS.F ht⟩) hS.2.2 dX5_stored_50
def wp_X5_shifted (σ : S_Proc) (a1 : Int32) (a2 : Int32) (Φ : Int32 → S_Proc → Prop) : Prop := ((a2 = 0 → (wp_X5_mark σ 1 0 (fun u2 => wp_X5_shown u2 a1 (fun r3 u4 => Φ r3 u4)))) ∧ (¬ a2 = 0 → (wp_X5_mark σ 1 1 (fun u5 => wp_X5_shown u5 a1 (fun r6 u7 => Φ r6 u7)))))
set_option maxHeartbeats 4000000 in
set_option maxRecDepth 100000 in
theorem c_X5_shifted (l : Launch) (dC : Nat → ClassId) (dI : Nat → Nat → Nat) (cI cJ : ClassId) (h : Nat → Nat) (sz : Nat) {σ : S_Proc} {a1 : Int32} {a2 : Int32} {Φ : Int32 → S_Proc → Prop} (hok : wp_X5_shifted σ a1 a2 Φ) : Met l yX5_shifted wsX5_shifted ({ frames := 1, cells := 0, slots := 0, locals := 22 }) (va_Pc [.ref (h 1), .int a1, .int a2] (cpre dC dI cI cJ (w_Proc h cI cJ σ) sz)) (va_Qi Φ (fun u => cpost dC dI cI cJ (va_A (w_Proc h cI cJ σ) sz) (w_Proc h cI cJ u)) (va_A (w_Proc h cI cJ σ) sz)) 0 0 (va_A (w_Proc h cI cJ σ) sz) := by
  refine Met.ofW (cc := cX5_shifted) (maxL := 3) (ret := (some .int)) (by decide) rfl ?_
  intro p e s m args below meth c s₁ B hml hv
  obtain ⟨rfl, hsz, hP, hK, hD0⟩ := hv
  have hx := B.exec
  have hb := B.bytes
  have hr := B.returns
  have hts := atoms_spec (ws := wsX5_shifted) B.pre
  have hown : s.vm.findClass RX5 = some m.cls := findClass_of_methodNamed B.named
  have hlocks := B.notSynchronized
  subst hsz
  have hD := hD0.self (sz := s.heap.size)
  generalize hAe : va_A (w_Proc h cI cJ σ) s.heap.size = A at hD ⊢
  have hA : ∀ q : Nat, s.heap.size ≤ q → A q := fun q h => by rw [← hAe]; exact Or.inr h
  clear hD0 hAe
  have hS : va_S A s.heap s.heap [] := va_S.rf
  have hl := lv_entry ([.ref (h 1), .int a1, .int a2]) (n := 3) (Nat.le_of_ble_eq_true rfl)
  rw [lg_entry_eq]
  generalize (lg_sl ([.ref (h 1), .int a1, .int a2]) ++ List.replicate (3 - (lg_sl ([.ref (h 1), .int a1, .int a2])).length) Slot.unset).toArray = ls at hl ⊢
  have hl : lv_has ls 3 [(0, .ref (h 1)), (1, .int a1), (2, .int a2)] := hl
  unfold wp_X5_shifted at hok
  refine lv_aload_n hx hb dX5_shifted_0 rfl (lv_at hl 0 rfl) ?_
  refine lv_iconst (v := 1) hx hb dX5_shifted_1 (by decide) ?_
  refine lv_iload_n hx hb dX5_shifted_2 rfl (lv_at hl 2 rfl) ?_
  refine lv_if_eq (tgt := 10) hx hb dX5_shifted_3 (by decide) (fun c1 => ?_) (fun c1 => ?_)
  · have hok := hok.1 c1
    refine lv_iconst (v := 0) hx hb dX5_shifted_10 (by decide) ?_
    have hPc := hP
    have hDc := hD
    have hFc := va_free (wc := w_Proc h cI cJ σ) hD hS hA [0, 1, 2, 3, 4, 5, 6, 7, 8, 9] rfl
    refine va_callv (va_runV (As := [.int 1, .int 0]) (rest := []) ⟨hx, hb, hml, hown, hts⟩ (c_X5_mark l dC dI cI cJ h _ hok) (cwV 2 hts (tb_gV tw_2_161 tw_2_163 tw_p_15 tw_1_6 tw_2_164) rfl rfl rfl (by decide +kernel) ⟨Nat.le_of_ble_eq_true rfl, Nat.le_of_ble_eq_true rfl⟩) (cpre_V (ci := 4) (q0 := 0) hK hPc hDc rfl rfl) rfl rfl hl.1 rfl (lv_room (Nat.le_of_ble_eq_true rfl)) dX5_shifted_11 ⟨Nat.le_of_ble_eq_true rfl, Nat.le_of_ble_eq_true rfl⟩) hS (fun q _ h => hFc q h) hFc (fun u2 t H1 locs ht hvm hok hB hz1 hk1 hS => ?_)
    obtain ⟨hP, hD⟩ := cjoin_w ht hB hFc
    refine lv_aload_n hx hb dX5_shifted_14 rfl (lv_at hl 0 rfl) ?_
    refine lv_iload_n hx hb dX5_shifted_15 rfl (lv_at hl 1 rfl) ?_
    have hPc := hP
    have hDc := hD
    have hFc := va_free (wc := w_Proc h cI cJ u2) hD hS hA [0, 1, 2, 3, 4, 5, 6, 7, 8, 9] rfl
    refine va_calli (va_runV (As := [.int a1]) (rest := []) ⟨hx, hb, hml, hown, hts⟩ (c_X5_shown l dC dI cI cJ h _ hok) (cwV 1 hts (tb_gV tw_2_153 tw_2_155 tw_p_13 tw_1_6 tw_2_156) rfl rfl rfl (by decide +kernel) ⟨Nat.le_of_ble_eq_true rfl, Nat.le_of_ble_eq_true rfl⟩) (cpre_V (ci := 4) (q0 := 0) hK hPc hDc rfl rfl) rfl rfl hl.1 rfl (lv_room (Nat.le_of_ble_eq_true rfl)) dX5_shifted_16 ⟨Nat.le_of_ble_eq_true rfl, Nat.le_of_ble_eq_true rfl⟩) hS (fun q _ h => hFc q h) hFc (fun r3 u4 t H1 locs ht hvm hok hB hz1 hk1 hS => ?_)
    obtain ⟨hP, hD⟩ := cjoin_w ht hB hFc
    exact W.iret (v := r3) hx hb hr (fun t ht hW => ⟨⟨r3, u4, rfl, hok, by rw [ht]; exact hP, va_K.moved hW.alike hK, hD⟩, hS.F ht⟩) hS.2.2 dX5_shifted_19
  · have hok := hok.2 c1
    refine lv_iconst (v := 1) hx hb dX5_shifted_6 (by decide) ?_
    refine lv_goto (tgt := 11) hx hb dX5_shifted_7 (by decide) ?_
    have hPc := hP
    have hDc := hD
    have hFc := va_free (wc := w_Proc h cI cJ σ) hD hS hA [0, 1, 2, 3, 4, 5, 6, 7, 8, 9] rfl
    refine va_callv (va_runV (As := [.int 1, .int 1]) (rest := []) ⟨hx, hb, hml, hown, hts⟩ (c_X5_mark l dC dI cI cJ h _ hok) (cwV 2 hts (tb_gV tw_2_161 tw_2_163 tw_p_15 tw_1_6 tw_2_164) rfl rfl rfl (by decide +kernel) ⟨Nat.le_of_ble_eq_true rfl, Nat.le_of_ble_eq_true rfl⟩) (cpre_V (ci := 4) (q0 := 0) hK hPc hDc rfl rfl) rfl rfl hl.1 rfl (lv_room (Nat.le_of_ble_eq_true rfl)) dX5_shifted_11 ⟨Nat.le_of_ble_eq_true rfl, Nat.le_of_ble_eq_true rfl⟩) hS (fun q _ h => hFc q h) hFc (fun u5 t H1 locs ht hvm hok hB hz1 hk1 hS => ?_)
    obtain ⟨hP, hD⟩ := cjoin_w ht hB hFc
    refine lv_aload_n hx hb dX5_shifted_14 rfl (lv_at hl 0 rfl) ?_
    refine lv_iload_n hx hb dX5_shifted_15 rfl (lv_at hl 1 rfl) ?_
    have hPc := hP
    have hDc := hD
    have hFc := va_free (wc := w_Proc h cI cJ u5) hD hS hA [0, 1, 2, 3, 4, 5, 6, 7, 8, 9] rfl
    refine va_calli (va_runV (As := [.int a1]) (rest := []) ⟨hx, hb, hml, hown, hts⟩ (c_X5_shown l dC dI cI cJ h _ hok) (cwV 1 hts (tb_gV tw_2_153 tw_2_155 tw_p_13 tw_1_6 tw_2_156) rfl rfl rfl (by decide +kernel) ⟨Nat.le_of_ble_eq_true rfl, Nat.le_of_ble_eq_true rfl⟩) (cpre_V (ci := 4) (q0 := 0) hK hPc hDc rfl rfl) rfl rfl hl.1 rfl (lv_room (Nat.le_of_ble_eq_true rfl)) dX5_shifted_16 ⟨Nat.le_of_ble_eq_true rfl, Nat.le_of_ble_eq_true rfl⟩) hS (fun q _ h => hFc q h) hFc (fun r6 u7 t H1 locs ht hvm hok hB hz1 hk1 hS => ?_)
    obtain ⟨hP, hD⟩ := cjoin_w ht hB hFc
    exact W.iret (v := r6) hx hb hr (fun t ht hW => ⟨⟨r6, u7, rfl, hok, by rw [ht]; exact hP, va_K.moved hW.alike hK, hD⟩, hS.F ht⟩) hS.2.2 dX5_shifted_19
def wp_X5_changed_173 (σ : S_Proc) (x3 : Int32) (s1 : Int32) (s2 : Int32) (Φ : Int32 → S_Proc → Prop) : Prop := wp_X5_mark σ s1 s2 (fun u1 => Φ (x3 &&& ((u1.1 0) ^^^ (-1 : Int32))) u1)
def wp_X5_changed (σ : S_Proc) (a1 : Int32) (a2 : Int32) (a3 : Int32) (Φ : Int32 → S_Proc → Prop) : Prop := ((a1 = 32 → (wp_X5_shifted σ (a3 <<< ((1 : Int32) &&& 31)) (a3 >>> ((7 : Int32) &&& 31)) (fun r3 u4 => Φ r3 u4))) ∧ (a1 = 33 → (∀ v6 : Int32, v6 = (a3 <<< ((1 : Int32) &&& 31)) ||| ((σ.1 4) &&& (1 : Int32)) → wp_X5_shifted σ v6 (a3 >>> ((7 : Int32) &&& 31)) (fun r7 u8 => Φ r7 u8))) ∧ (a1 = 34 → (wp_X5_shifted σ (a3 >>> ((1 : Int32) &&& 31)) (a3 &&& (1 : Int32)) (fun r10 u11 => Φ r10 u11))) ∧ (a1 = 35 → (∀ v13 : Int32, v13 = ((σ.1 4) &&& (1 : Int32)) <<< ((7 : Int32) &&& 31) → wp_X5_shifted σ ((a3 >>> ((1 : Int32) &&& 31)) ||| v13) (a3 &&& (1 : Int32)) (fun r14 u15 => Φ r14 u15))) ∧ (a1 = 36 → (wp_X5_shown σ (a3 + (1 : Int32)) (fun r17 u18 => Φ r17 u18))) ∧ (a1 = 37 → (wp_X5_shown σ (a3 - (1 : Int32)) (fun r20 u21 => Φ r20 u21))) ∧ (a1 = 38 → (((((σ.1 0) &&& a3) = 0 → (wp_X5_mark σ 2 1 (fun u25 => Φ (a3 ||| (u25.1 0)) u25))) ∧ (¬ ((σ.1 0) &&& a3) = 0 → (wp_X5_mark σ 2 0 (fun u24 => Φ (a3 ||| (u24.1 0)) u24)))))) ∧ (a1 = 39 → (((((σ.1 0) &&& a3) = 0 → (wp_X5_changed_173 σ a3 2 1 Φ)) ∧ (¬ ((σ.1 0) &&& a3) = 0 → (wp_X5_changed_173 σ a3 2 0 Φ))))) ∧ (a1 = 40 → (∀ v29 : Int32, v29 = ((1 : Int32) <<< (a2 &&& 31)) ^^^ (-1 : Int32) → Φ (a3 &&& v29) σ)) ∧ ((¬ a1 = 32 ∧ ¬ a1 = 33 ∧ ¬ a1 = 34 ∧ ¬ a1 = 35 ∧ ¬ a1 = 36 ∧ ¬ a1 = 37 ∧ ¬ a1 = 38 ∧ ¬ a1 = 39 ∧ ¬ a1 = 40) → (Φ (a3 ||| ((1 : Int32) <<< (a2 &&& 31))) σ)))
set_option maxHeartbeats 4000000 in
set_option maxRecDepth 100000 in
theorem c_X5_changed (l : Launch) (dC : Nat → ClassId) (dI : Nat → Nat → Nat) (cI cJ : ClassId) (h : Nat → Nat) (sz : Nat) {σ : S_Proc} {a1 : Int32} {a2 : Int32} {a3 : Int32} {Φ : Int32 → S_Proc → Prop} (hok : wp_X5_changed σ a1 a2 a3 Φ) : Met l yX5_changed wsX5_changed ({ frames := 2, cells := 0, slots := 0, locals := 44 }) (va_Pc [.ref (h 1), .int a1, .int a2, .int a3] (cpre dC dI cI cJ (w_Proc h cI cJ σ) sz)) (va_Qi Φ (fun u => cpost dC dI cI cJ (va_A (w_Proc h cI cJ σ) sz) (w_Proc h cI cJ u)) (va_A (w_Proc h cI cJ σ) sz)) 0 0 (va_A (w_Proc h cI cJ σ) sz) := by
  refine Met.ofW (cc := cX5_changed) (maxL := 4) (ret := (some .int)) (by decide) rfl ?_
  intro p e s m args below meth c s₁ B hml hv
  obtain ⟨rfl, hsz, hP, hK, hD0⟩ := hv
  have hx := B.exec
  have hb := B.bytes
  have hr := B.returns
  have hts := atoms_spec (ws := wsX5_changed) B.pre
  have hown : s.vm.findClass RX5 = some m.cls := findClass_of_methodNamed B.named
  have hlocks := B.notSynchronized
  subst hsz
  have hD := hD0.self (sz := s.heap.size)
  generalize hAe : va_A (w_Proc h cI cJ σ) s.heap.size = A at hD ⊢
  have hA : ∀ q : Nat, s.heap.size ≤ q → A q := fun q h => by rw [← hAe]; exact Or.inr h
  clear hD0 hAe
  have hS : va_S A s.heap s.heap [] := va_S.rf
  have b173 : ∀ (σ : S_Proc) (x3 : Int32) (s1 : Int32) (s2 : Int32), wp_X5_changed_173 σ x3 s1 s2 Φ → ∀ (H : Heap) (locs : List Loc), va_P (dC, dI) vwCl (w_Proc h cI cJ σ) H → va_D A (w_Proc h cI cJ σ) → va_S A s.heap H locs → ∀ ls : Array Slot, lv_has ls 4 [(0, .ref (h 1)), (3, .int x3)] → W p l e (headSpec wsX5_changed { frames := 2, cells := 0, slots := 0, locals := 44 }).room s m ([.ref (h 1), .int a1, .int a2, .int a3] : List Value).toArray below meth c H locs 0 0 (MQ below (va_Qi Φ (fun u => cpost dC dI cI cJ A (w_Proc h cI cJ u)) A) ([.ref (h 1), .int a1, .int a2, .int a3] : List Value).toArray s 0 0 A) (F0 m 173 ls [.int s2, .int s1, .ref (h 1)]) := by
    intro σ x3 s1 s2 hok H locs hP hD hS ls hl
    unfold wp_X5_changed_173 at hok
    have hPc := hP
    have hDc := hD
    have hFc := va_free (wc := w_Proc h cI cJ σ) hD hS hA [0, 1, 2, 3, 4, 5, 6, 7, 8, 9] rfl
    refine va_callv (va_runV (As := [.int s1, .int s2]) (rest := []) ⟨hx, hb, hml, hown, hts⟩ (c_X5_mark l dC dI cI cJ h _ hok) (cwV 2 hts (tb_gV tw_2_161 tw_2_163 tw_p_15 tw_1_6 tw_2_164) rfl rfl rfl (by decide +kernel) ⟨Nat.le_of_ble_eq_true rfl, Nat.le_of_ble_eq_true rfl⟩) (cpre_V (ci := 4) (q0 := 0) hK hPc hDc rfl rfl) rfl rfl hl.1 rfl (lv_room (Nat.le_of_ble_eq_true rfl)) dX5_changed_173 ⟨Nat.le_of_ble_eq_true rfl, Nat.le_of_ble_eq_true rfl⟩) hS (fun q _ h => hFc q h) hFc (fun u1 t H1 locs ht hvm hok hB hz1 hk1 hS => ?_)
    obtain ⟨hP, hD⟩ := cjoin_w ht hB hFc
    refine lv_iload_n hx hb dX5_changed_176 rfl (lv_at hl 1 rfl) ?_
    refine lv_aload_n hx hb dX5_changed_177 rfl (lv_at hl 0 rfl) ?_
    refine va_get (D := (dC, dI)) (ci := 4) (v := .int (u1.1 0)) (C := RX5) (T := TX5) (N := 15) hx hb hts (fun w h => List.mem_cons_of_mem _ (in_X5 w h)) hown hK hP 0 rfl rfl 0 (by decide) (hts _ (List.mem_cons_of_mem _ tw_1_148)) (fun _ h9 => h9) rfl dX5_changed_178 ?_
    refine lv_iconst (v := (-1)) hx hb dX5_changed_181 (by decide) ?_
    refine lv_ixor hx hb dX5_changed_182 ?_
    refine lv_iand hx hb dX5_changed_183 ?_
    exact W.iret (v := x3 &&& ((u1.1 0) ^^^ (-1 : Int32))) hx hb hr (fun t ht hW => ⟨⟨x3 &&& ((u1.1 0) ^^^ (-1 : Int32)), u1, rfl, hok, by rw [ht]; exact hP, va_K.moved hW.alike hK, hD⟩, hS.F ht⟩) hS.2.2 dX5_changed_184
  have hl := lv_entry ([.ref (h 1), .int a1, .int a2, .int a3]) (n := 4) (Nat.le_of_ble_eq_true rfl)
  rw [lg_entry_eq]
  generalize (lg_sl ([.ref (h 1), .int a1, .int a2, .int a3]) ++ List.replicate (4 - (lg_sl ([.ref (h 1), .int a1, .int a2, .int a3])).length) Slot.unset).toArray = ls at hl ⊢
  have hl : lv_has ls 4 [(0, .ref (h 1)), (1, .int a1), (2, .int a2), (3, .int a3)] := hl
  unfold wp_X5_changed at hok
  refine lv_iload_n hx hb dX5_changed_0 rfl (lv_at hl 1 rfl) ?_
  by_cases c2 : a1 = 32
  · have hok := hok.1 c2
    refine lv_tableIn (tgt := 52) (off := 51) hx hb dX5_changed_1 (by rw [c2]; decide) (by rw [c2]; decide) (by rw [c2]; decide) (by decide) ?_
    refine lv_aload_n hx hb dX5_changed_52 rfl (lv_at hl 0 rfl) ?_
    refine lv_iload_n hx hb dX5_changed_53 rfl (lv_at hl 3 rfl) ?_
    refine lv_iconst (v := 1) hx hb dX5_changed_54 (by decide) ?_
    refine lv_ishl hx hb dX5_changed_55 ?_
    refine lv_iload_n hx hb dX5_changed_56 rfl (lv_at hl 3 rfl) ?_
    refine lv_bipush (v := 7) hx hb dX5_changed_57 (by decide) ?_
    refine lv_ishr hx hb dX5_changed_59 ?_
    have hPc := hP
    have hDc := hD
    have hFc := va_free (wc := w_Proc h cI cJ σ) hD hS hA [0, 1, 2, 3, 4, 5, 6, 7, 8, 9] rfl
    refine va_calli (va_runV (As := [.int (a3 <<< ((1 : Int32) &&& 31)), .int (a3 >>> ((7 : Int32) &&& 31))]) (rest := []) ⟨hx, hb, hml, hown, hts⟩ (c_X5_shifted l dC dI cI cJ h _ hok) (cwV 2 hts (tb_gV tw_2_193 tw_2_195 tw_p_23 tw_1_6 tw_2_196) rfl rfl rfl (by decide +kernel) ⟨Nat.le_of_ble_eq_true rfl, Nat.le_of_ble_eq_true rfl⟩) (cpre_V (ci := 4) (q0 := 0) hK hPc hDc rfl rfl) rfl rfl hl.1 rfl (lv_room (Nat.le_of_ble_eq_true rfl)) dX5_changed_60 ⟨Nat.le_of_ble_eq_true rfl, Nat.le_of_ble_eq_true rfl⟩) hS (fun q _ h => hFc q h) hFc (fun r3 u4 t H1 locs ht hvm hok hB hz1 hk1 hS => ?_)
    obtain ⟨hP, hD⟩ := cjoin_w ht hB hFc
    exact W.iret (v := r3) hx hb hr (fun t ht hW => ⟨⟨r3, u4, rfl, hok, by rw [ht]; exact hP, va_K.moved hW.alike hK, hD⟩, hS.F ht⟩) hS.2.2 dX5_changed_63
  have hok := hok.2
  by_cases c5 : a1 = 33
  · have hok := hok.1 c5
    refine lv_tableIn (tgt := 64) (off := 63) hx hb dX5_changed_1 (by rw [c5]; decide) (by rw [c5]; decide) (by rw [c5]; decide) (by decide) ?_
    refine lv_aload_n hx hb dX5_changed_64 rfl (lv_at hl 0 rfl) ?_
    refine lv_iload_n hx hb dX5_changed_65 rfl (lv_at hl 3 rfl) ?_
    refine lv_iconst (v := 1) hx hb dX5_changed_66 (by decide) ?_
    refine lv_ishl hx hb dX5_changed_67 ?_
    refine lv_aload_n hx hb dX5_changed_68 rfl (lv_at hl 0 rfl) ?_
    refine va_get (D := (dC, dI)) (ci := 4) (v := .int (σ.1 4)) (C := RX5) (T := TX5) (N := 15) hx hb hts (fun w h => List.mem_cons_of_mem _ (in_X5 w h)) hown hK hP 0 rfl rfl 4 (by decide) (hts _ (List.mem_cons_of_mem _ tw_1_155)) (fun _ h9 => h9) rfl dX5_changed_69 ?_
    refine lv_iconst (v := 1) hx hb dX5_changed_72 (by decide) ?_
    refine lv_iand hx hb dX5_changed_73 ?_
    refine lv_ior hx hb dX5_changed_74 ?_
    refine lv_topi (fun v6 ev6 => ?_)
    have hok := hok v6 ev6
    refine lv_iload_n hx hb dX5_changed_75 rfl (lv_at hl 3 rfl) ?_
    refine lv_bipush (v := 7) hx hb dX5_changed_76 (by decide) ?_
    refine lv_ishr hx hb dX5_changed_78 ?_
    have hPc := hP
    have hDc := hD
    have hFc := va_free (wc := w_Proc h cI cJ σ) hD hS hA [0, 1, 2, 3, 4, 5, 6, 7, 8, 9] rfl
    refine va_calli (va_runV (As := [.int v6, .int (a3 >>> ((7 : Int32) &&& 31))]) (rest := []) ⟨hx, hb, hml, hown, hts⟩ (c_X5_shifted l dC dI cI cJ h _ hok) (cwV 2 hts (tb_gV tw_2_193 tw_2_195 tw_p_23 tw_1_6 tw_2_196) rfl rfl rfl (by decide +kernel) ⟨Nat.le_of_ble_eq_true rfl, Nat.le_of_ble_eq_true rfl⟩) (cpre_V (ci := 4) (q0 := 0) hK hPc hDc rfl rfl) rfl rfl hl.1 rfl (lv_room (Nat.le_of_ble_eq_true rfl)) dX5_changed_79 ⟨Nat.le_of_ble_eq_true rfl, Nat.le_of_ble_eq_true rfl⟩) hS (fun q _ h => hFc q h) hFc (fun r7 u8 t H1 locs ht hvm hok hB hz1 hk1 hS => ?_)
    obtain ⟨hP, hD⟩ := cjoin_w ht hB hFc
    exact W.iret (v := r7) hx hb hr (fun t ht hW => ⟨⟨r7, u8, rfl, hok, by rw [ht]; exact hP, va_K.moved hW.alike hK, hD⟩, hS.F ht⟩) hS.2.2 dX5_changed_82
  have hok := hok.2
  by_cases c9 : a1 = 34
  · have hok := hok.1 c9
    refine lv_tableIn (tgt := 83) (off := 82) hx hb dX5_changed_1 (by rw [c9]; decide) (by rw [c9]; decide) (by rw [c9]; decide) (by decide) ?_
    refine lv_aload_n hx hb dX5_changed_83 rfl (lv_at hl 0 rfl) ?_
    refine lv_iload_n hx hb dX5_changed_84 rfl (lv_at hl 3 rfl) ?_
    refine lv_iconst (v := 1) hx hb dX5_changed_85 (by decide) ?_
    refine lv_ishr hx hb dX5_changed_86 ?_
    refine lv_iload_n hx hb dX5_changed_87 rfl (lv_at hl 3 rfl) ?_
    refine lv_iconst (v := 1) hx hb dX5_changed_88 (by decide) ?_
    refine lv_iand hx hb dX5_changed_89 ?_
    have hPc := hP
    have hDc := hD
    have hFc := va_free (wc := w_Proc h cI cJ σ) hD hS hA [0, 1, 2, 3, 4, 5, 6, 7, 8, 9] rfl
    refine va_calli (va_runV (As := [.int (a3 >>> ((1 : Int32) &&& 31)), .int (a3 &&& (1 : Int32))]) (rest := []) ⟨hx, hb, hml, hown, hts⟩ (c_X5_shifted l dC dI cI cJ h _ hok) (cwV 2 hts (tb_gV tw_2_193 tw_2_195 tw_p_23 tw_1_6 tw_2_196) rfl rfl rfl (by decide +kernel) ⟨Nat.le_of_ble_eq_true rfl, Nat.le_of_ble_eq_true rfl⟩) (cpre_V (ci := 4) (q0 := 0) hK hPc hDc rfl rfl) rfl rfl hl.1 rfl (lv_room (Nat.le_of_ble_eq_true rfl)) dX5_changed_90 ⟨Nat.le_of_ble_eq_true rfl, Nat.le_of_ble_eq_true rfl⟩) hS (fun q _ h => hFc q h) hFc (fun r10 u11 t H1 locs ht hvm hok hB hz1 hk1 hS => ?_)
    obtain ⟨hP, hD⟩ := cjoin_w ht hB hFc
    exact W.iret (v := r10) hx hb hr (fun t ht hW => ⟨⟨r10, u11, rfl, hok, by rw [ht]; exact hP, va_K.moved hW.alike hK, hD⟩, hS.F ht⟩) hS.2.2 dX5_changed_93
  have hok := hok.2
  by_cases c12 : a1 = 35
  · have hok := hok.1 c12
    refine lv_tableIn (tgt := 94) (off := 93) hx hb dX5_changed_1 (by rw [c12]; decide) (by rw [c12]; decide) (by rw [c12]; decide) (by decide) ?_
    refine lv_aload_n hx hb dX5_changed_94 rfl (lv_at hl 0 rfl) ?_
    refine lv_iload_n hx hb dX5_changed_95 rfl (lv_at hl 3 rfl) ?_
    refine lv_iconst (v := 1) hx hb dX5_changed_96 (by decide) ?_
    refine lv_ishr hx hb dX5_changed_97 ?_
    refine lv_aload_n hx hb dX5_changed_98 rfl (lv_at hl 0 rfl) ?_
    refine va_get (D := (dC, dI)) (ci := 4) (v := .int (σ.1 4)) (C := RX5) (T := TX5) (N := 15) hx hb hts (fun w h => List.mem_cons_of_mem _ (in_X5 w h)) hown hK hP 0 rfl rfl 4 (by decide) (hts _ (List.mem_cons_of_mem _ tw_1_155)) (fun _ h9 => h9) rfl dX5_changed_99 ?_
    refine lv_iconst (v := 1) hx hb dX5_changed_102 (by decide) ?_
    refine lv_iand hx hb dX5_changed_103 ?_
    refine lv_bipush (v := 7) hx hb dX5_changed_104 (by decide) ?_
    refine lv_ishl hx hb dX5_changed_106 ?_
    refine lv_topi (fun v13 ev13 => ?_)
    have hok := hok v13 ev13
    refine lv_ior hx hb dX5_changed_107 ?_
    refine lv_iload_n hx hb dX5_changed_108 rfl (lv_at hl 3 rfl) ?_
    refine lv_iconst (v := 1) hx hb dX5_changed_109 (by decide) ?_
    refine lv_iand hx hb dX5_changed_110 ?_
    have hPc := hP
    have hDc := hD
    have hFc := va_free (wc := w_Proc h cI cJ σ) hD hS hA [0, 1, 2, 3, 4, 5, 6, 7, 8, 9] rfl
    refine va_calli (va_runV (As := [.int ((a3 >>> ((1 : Int32) &&& 31)) ||| v13), .int (a3 &&& (1 : Int32))]) (rest := []) ⟨hx, hb, hml, hown, hts⟩ (c_X5_shifted l dC dI cI cJ h _ hok) (cwV 2 hts (tb_gV tw_2_193 tw_2_195 tw_p_23 tw_1_6 tw_2_196) rfl rfl rfl (by decide +kernel) ⟨Nat.le_of_ble_eq_true rfl, Nat.le_of_ble_eq_true rfl⟩) (cpre_V (ci := 4) (q0 := 0) hK hPc hDc rfl rfl) rfl rfl hl.1 rfl (lv_room (Nat.le_of_ble_eq_true rfl)) dX5_changed_111 ⟨Nat.le_of_ble_eq_true rfl, Nat.le_of_ble_eq_true rfl⟩) hS (fun q _ h => hFc q h) hFc (fun r14 u15 t H1 locs ht hvm hok hB hz1 hk1 hS => ?_)
    obtain ⟨hP, hD⟩ := cjoin_w ht hB hFc
    exact W.iret (v := r14) hx hb hr (fun t ht hW => ⟨⟨r14, u15, rfl, hok, by rw [ht]; exact hP, va_K.moved hW.alike hK, hD⟩, hS.F ht⟩) hS.2.2 dX5_changed_114
  have hok := hok.2
  by_cases c16 : a1 = 36
  · have hok := hok.1 c16
    refine lv_tableIn (tgt := 115) (off := 114) hx hb dX5_changed_1 (by rw [c16]; decide) (by rw [c16]; decide) (by rw [c16]; decide) (by decide) ?_
    refine lv_aload_n hx hb dX5_changed_115 rfl (lv_at hl 0 rfl) ?_
    refine lv_iload_n hx hb dX5_changed_116 rfl (lv_at hl 3 rfl) ?_
    refine lv_iconst (v := 1) hx hb dX5_changed_117 (by decide) ?_
    refine lv_iadd hx hb dX5_changed_118 ?_
    have hPc := hP
    have hDc := hD
    have hFc := va_free (wc := w_Proc h cI cJ σ) hD hS hA [0, 1, 2, 3, 4, 5, 6, 7, 8, 9] rfl
    refine va_calli (va_runV (As := [.int (a3 + (1 : Int32))]) (rest := []) ⟨hx, hb, hml, hown, hts⟩ (c_X5_shown l dC dI cI cJ h _ hok) (cwV 1 hts (tb_gV tw_2_153 tw_2_155 tw_p_13 tw_1_6 tw_2_156) rfl rfl rfl (by decide +kernel) ⟨Nat.le_of_ble_eq_true rfl, Nat.le_of_ble_eq_true rfl⟩) (cpre_V (ci := 4) (q0 := 0) hK hPc hDc rfl rfl) rfl rfl hl.1 rfl (lv_room (Nat.le_of_ble_eq_true rfl)) dX5_changed_119 ⟨Nat.le_of_ble_eq_true rfl, Nat.le_of_ble_eq_true rfl⟩) hS (fun q _ h => hFc q h) hFc (fun r17 u18 t H1 locs ht hvm hok hB hz1 hk1 hS => ?_)
    obtain ⟨hP, hD⟩ := cjoin_w ht hB hFc
    exact W.iret (v := r17) hx hb hr (fun t ht hW => ⟨⟨r17, u18, rfl, hok, by rw [ht]; exact hP, va_K.moved hW.alike hK, hD⟩, hS.F ht⟩) hS.2.2 dX5_changed_122
  have hok := hok.2
  by_cases c19 : a1 = 37
  · have hok := hok.1 c19
    refine lv_tableIn (tgt := 123) (off := 122) hx hb dX5_changed_1 (by rw [c19]; decide) (by rw [c19]; decide) (by rw [c19]; decide) (by decide) ?_
    refine lv_aload_n hx hb dX5_changed_123 rfl (lv_at hl 0 rfl) ?_
    refine lv_iload_n hx hb dX5_changed_124 rfl (lv_at hl 3 rfl) ?_
    refine lv_iconst (v := 1) hx hb dX5_changed_125 (by decide) ?_
    refine lv_isub hx hb dX5_changed_126 ?_
    have hPc := hP
    have hDc := hD
    have hFc := va_free (wc := w_Proc h cI cJ σ) hD hS hA [0, 1, 2, 3, 4, 5, 6, 7, 8, 9] rfl
    refine va_calli (va_runV (As := [.int (a3 - (1 : Int32))]) (rest := []) ⟨hx, hb, hml, hown, hts⟩ (c_X5_shown l dC dI cI cJ h _ hok) (cwV 1 hts (tb_gV tw_2_153 tw_2_155 tw_p_13 tw_1_6 tw_2_156) rfl rfl rfl (by decide +kernel) ⟨Nat.le_of_ble_eq_true rfl, Nat.le_of_ble_eq_true rfl⟩) (cpre_V (ci := 4) (q0 := 0) hK hPc hDc rfl rfl) rfl rfl hl.1 rfl (lv_room (Nat.le_of_ble_eq_true rfl)) dX5_changed_127 ⟨Nat.le_of_ble_eq_true rfl, Nat.le_of_ble_eq_true rfl⟩) hS (fun q _ h => hFc q h) hFc (fun r20 u21 t H1 locs ht hvm hok hB hz1 hk1 hS => ?_)
    obtain ⟨hP, hD⟩ := cjoin_w ht hB hFc
    exact W.iret (v := r20) hx hb hr (fun t ht hW => ⟨⟨r20, u21, rfl, hok, by rw [ht]; exact hP, va_K.moved hW.alike hK, hD⟩, hS.F ht⟩) hS.2.2 dX5_changed_130
  have hok := hok.2
  by_cases c22 : a1 = 38
  · have hok := hok.1 c22
    refine lv_tableIn (tgt := 131) (off := 130) hx hb dX5_changed_1 (by rw [c22]; decide) (by rw [c22]; decide) (by rw [c22]; decide) (by decide) ?_
    refine lv_aload_n hx hb dX5_changed_131 rfl (lv_at hl 0 rfl) ?_
    refine lv_iconst (v := 2) hx hb dX5_changed_132 (by decide) ?_
    refine lv_aload_n hx hb dX5_changed_133 rfl (lv_at hl 0 rfl) ?_
    refine va_get (D := (dC, dI)) (ci := 4) (v := .int (σ.1 0)) (C := RX5) (T := TX5) (N := 15) hx hb hts (fun w h => List.mem_cons_of_mem _ (in_X5 w h)) hown hK hP 0 rfl rfl 0 (by decide) (hts _ (List.mem_cons_of_mem _ tw_1_148)) (fun _ h9 => h9) rfl dX5_changed_134 ?_
    refine lv_iload_n hx hb dX5_changed_137 rfl (lv_at hl 3 rfl) ?_
    refine lv_iand hx hb dX5_changed_138 ?_
    refine lv_if_ne (tgt := 146) hx hb dX5_changed_139 (by decide) (fun c23 => ?_) (fun c23 => ?_)
    · have hok := hok.2 c23
      refine lv_iconst (v := 0) hx hb dX5_changed_146 (by decide) ?_
      have hPc := hP
      have hDc := hD
      have hFc := va_free (wc := w_Proc h cI cJ σ) hD hS hA [0, 1, 2, 3, 4, 5, 6, 7, 8, 9] rfl
      refine va_callv (va_runV (As := [.int 2, .int 0]) (rest := []) ⟨hx, hb, hml, hown, hts⟩ (c_X5_mark l dC dI cI cJ h _ hok) (cwV 2 hts (tb_gV tw_2_161 tw_2_163 tw_p_15 tw_1_6 tw_2_164) rfl rfl rfl (by decide +kernel) ⟨Nat.le_of_ble_eq_true rfl, Nat.le_of_ble_eq_true rfl⟩) (cpre_V (ci := 4) (q0 := 0) hK hPc hDc rfl rfl) rfl rfl hl.1 rfl (lv_room (Nat.le_of_ble_eq_true rfl)) dX5_changed_147 ⟨Nat.le_of_ble_eq_true rfl, Nat.le_of_ble_eq_true rfl⟩) hS (fun q _ h => hFc q h) hFc (fun u24 t H1 locs ht hvm hok hB hz1 hk1 hS => ?_)
      obtain ⟨hP, hD⟩ := cjoin_w ht hB hFc
      refine lv_iload_n hx hb dX5_changed_150 rfl (lv_at hl 3 rfl) ?_
      refine lv_aload_n hx hb dX5_changed_151 rfl (lv_at hl 0 rfl) ?_
      refine va_get (D := (dC, dI)) (ci := 4) (v := .int (u24.1 0)) (C := RX5) (T := TX5) (N := 15) hx hb hts (fun w h => List.mem_cons_of_mem _ (in_X5 w h)) hown hK hP 0 rfl rfl 0 (by decide) (hts _ (List.mem_cons_of_mem _ tw_1_148)) (fun _ h9 => h9) rfl dX5_changed_152 ?_
      refine lv_ior hx hb dX5_changed_155 ?_
      exact W.iret (v := a3 ||| (u24.1 0)) hx hb hr (fun t ht hW => ⟨⟨a3 ||| (u24.1 0), u24, rfl, hok, by rw [ht]; exact hP, va_K.moved hW.alike hK, hD⟩, hS.F ht⟩) hS.2.2 dX5_changed_156
    · have hok := hok.1 c23
      refine lv_iconst (v := 1) hx hb dX5_changed_142 (by decide) ?_
      refine lv_goto (tgt := 147) hx hb dX5_changed_143 (by decide) ?_
      have hPc := hP
      have hDc := hD
      have hFc := va_free (wc := w_Proc h cI cJ σ) hD hS hA [0, 1, 2, 3, 4, 5, 6, 7, 8, 9] rfl
      refine va_callv (va_runV (As := [.int 2, .int 1]) (rest := []) ⟨hx, hb, hml, hown, hts⟩ (c_X5_mark l dC dI cI cJ h _ hok) (cwV 2 hts (tb_gV tw_2_161 tw_2_163 tw_p_15 tw_1_6 tw_2_164) rfl rfl rfl (by decide +kernel) ⟨Nat.le_of_ble_eq_true rfl, Nat.le_of_ble_eq_true rfl⟩) (cpre_V (ci := 4) (q0 := 0) hK hPc hDc rfl rfl) rfl rfl hl.1 rfl (lv_room (Nat.le_of_ble_eq_true rfl)) dX5_changed_147 ⟨Nat.le_of_ble_eq_true rfl, Nat.le_of_ble_eq_true rfl⟩) hS (fun q _ h => hFc q h) hFc (fun u25 t H1 locs ht hvm hok hB hz1 hk1 hS => ?_)
      obtain ⟨hP, hD⟩ := cjoin_w ht hB hFc
      refine lv_iload_n hx hb dX5_changed_150 rfl (lv_at hl 3 rfl) ?_
      refine lv_aload_n hx hb dX5_changed_151 rfl (lv_at hl 0 rfl) ?_
      refine va_get (D := (dC, dI)) (ci := 4) (v := .int (u25.1 0)) (C := RX5) (T := TX5) (N := 15) hx hb hts (fun w h => List.mem_cons_of_mem _ (in_X5 w h)) hown hK hP 0 rfl rfl 0 (by decide) (hts _ (List.mem_cons_of_mem _ tw_1_148)) (fun _ h9 => h9) rfl dX5_changed_152 ?_
      refine lv_ior hx hb dX5_changed_155 ?_
      exact W.iret (v := a3 ||| (u25.1 0)) hx hb hr (fun t ht hW => ⟨⟨a3 ||| (u25.1 0), u25, rfl, hok, by rw [ht]; exact hP, va_K.moved hW.alike hK, hD⟩, hS.F ht⟩) hS.2.2 dX5_changed_156
  have hok := hok.2
  by_cases c26 : a1 = 39
  · have hok := hok.1 c26
    refine lv_tableIn (tgt := 157) (off := 156) hx hb dX5_changed_1 (by rw [c26]; decide) (by rw [c26]; decide) (by rw [c26]; decide) (by decide) ?_
    refine lv_aload_n hx hb dX5_changed_157 rfl (lv_at hl 0 rfl) ?_
    refine lv_iconst (v := 2) hx hb dX5_changed_158 (by decide) ?_
    refine lv_aload_n hx hb dX5_changed_159 rfl (lv_at hl 0 rfl) ?_
    refine va_get (D := (dC, dI)) (ci := 4) (v := .int (σ.1 0)) (C := RX5) (T := TX5) (N := 15) hx hb hts (fun w h => List.mem_cons_of_mem _ (in_X5 w h)) hown hK hP 0 rfl rfl 0 (by decide) (hts _ (List.mem_cons_of_mem _ tw_1_148)) (fun _ h9 => h9) rfl dX5_changed_160 ?_
    refine lv_iload_n hx hb dX5_changed_163 rfl (lv_at hl 3 rfl) ?_
    refine lv_iand hx hb dX5_changed_164 ?_
    refine lv_if_ne (tgt := 172) hx hb dX5_changed_165 (by decide) (fun c27 => ?_) (fun c27 => ?_)
    · have hok := hok.2 c27
      refine lv_iconst (v := 0) hx hb dX5_changed_172 (by decide) ?_
      exact b173 σ a3 2 0 hok _ _ hP hD hS _ (lv_sub hl [0, 3] rfl)
    · have hok := hok.1 c27
      refine lv_iconst (v := 1) hx hb dX5_changed_168 (by decide) ?_
      refine lv_goto (tgt := 173) hx hb dX5_changed_169 (by decide) ?_
      exact b173 σ a3 2 1 hok _ _ hP hD hS _ (lv_sub hl [0, 3] rfl)
  have hok := hok.2
  by_cases c28 : a1 = 40
  · have hok := hok.1 c28
    refine lv_tableIn (tgt := 185) (off := 184) hx hb dX5_changed_1 (by rw [c28]; decide) (by rw [c28]; decide) (by rw [c28]; decide) (by decide) ?_
    refine lv_iload_n hx hb dX5_changed_185 rfl (lv_at hl 3 rfl) ?_
    refine lv_iconst (v := 1) hx hb dX5_changed_186 (by decide) ?_
    refine lv_iload_n hx hb dX5_changed_187 rfl (lv_at hl 2 rfl) ?_
    refine lv_ishl hx hb dX5_changed_188 ?_
    refine lv_iconst (v := (-1)) hx hb dX5_changed_189 (by decide) ?_
    refine lv_ixor hx hb dX5_changed_190 ?_
    refine lv_topi (fun v29 ev29 => ?_)
    have hok := hok v29 ev29
    refine lv_iand hx hb dX5_changed_191 ?_
    exact W.iret (v := a3 &&& v29) hx hb hr (fun t ht hW => ⟨⟨a3 &&& v29, σ, rfl, hok, by rw [ht]; exact hP, va_K.moved hW.alike hK, hD⟩, hS.F ht⟩) hS.2.2 dX5_changed_192
  have hok := hok.2
  have hok := hok ⟨c2, c5, c9, c12, c16, c19, c22, c26, c28⟩
  have kz29 : ∀ k ∈ ([32, 33, 34, 35, 36, 37, 38, 39, 40] : List Int), (a1).toInt ≠ k := List.forall_mem_cons.mpr ⟨tb_ne c2 rfl, List.forall_mem_cons.mpr ⟨tb_ne c5 rfl, List.forall_mem_cons.mpr ⟨tb_ne c9 rfl, List.forall_mem_cons.mpr ⟨tb_ne c12 rfl, List.forall_mem_cons.mpr ⟨tb_ne c16 rfl, List.forall_mem_cons.mpr ⟨tb_ne c19 rfl, List.forall_mem_cons.mpr ⟨tb_ne c22 rfl, List.forall_mem_cons.mpr ⟨tb_ne c26 rfl, List.forall_mem_cons.mpr ⟨tb_ne c28 rfl, fun k h => absurd h List.not_mem_nil⟩⟩⟩⟩⟩⟩⟩⟩⟩
  refine tb_def (tgt := 193) (keys := [32, 33, 34, 35, 36, 37, 38, 39, 40]) hx hb dX5_changed_1 kz29 (by decide) (by decide) ?_
  refine lv_iload_n hx hb dX5_changed_193 rfl (lv_at hl 3 rfl) ?_
  refine lv_iconst (v := 1) hx hb dX5_changed_194 (by decide) ?_
  refine lv_iload_n hx hb dX5_changed_195 rfl (lv_at hl 2 rfl) ?_
  refine lv_ishl hx hb dX5_changed_196 ?_
  refine lv_ior hx hb dX5_changed_197 ?_
  exact W.iret (v := a3 ||| ((1 : Int32) <<< (a2 &&& 31))) hx hb hr (fun t ht hW => ⟨⟨a3 ||| ((1 : Int32) <<< (a2 &&& 31)), σ, rfl, hok, by rw [ht]; exact hP, va_K.moved hW.alike hK, hD⟩, hS.F ht⟩) hS.2.2 dX5_changed_198
def wp_X5_change (σ : S_Proc) (a1 : Int32) (a2 : Int32) (a3 : Int32) (a4 : Int32) (Φ : S_Proc → Prop) : Prop := ((a3 = (1 : Int32) → (wp_X5_changed σ a1 a2 (σ.1 0) (fun r7 u8 => Φ (upd u8.1 0 r7, u8.2.1, u8.2.2.1, u8.2.2.2)))) ∧ (¬ a3 = (1 : Int32) → (wp_X0_read σ.2.2.2 a4 (fun r2 u3 => wp_X5_changed (σ.1, σ.2.1, σ.2.2.1, u3) a1 a2 r2 (fun r4 u5 => wp_X0_write u5.2.2.2 a4 r4 (fun u6 => Φ (u5.1, u5.2.1, u5.2.2.1, u6)))))))
set_option maxHeartbeats 4000000 in
set_option maxRecDepth 100000 in
theorem c_X5_change (l : Launch) (dC : Nat → ClassId) (dI : Nat → Nat → Nat) (cI cJ : ClassId) (h : Nat → Nat) (sz : Nat) {σ : S_Proc} {a1 : Int32} {a2 : Int32} {a3 : Int32} {a4 : Int32} {Φ : S_Proc → Prop} (hok : wp_X5_change σ a1 a2 a3 a4 Φ) : Met l yX5_change wsX5_change ({ frames := 3, cells := 0, slots := 0, locals := 67 }) (va_Pc [.ref (h 1), .int a1, .int a2, .int a3, .int a4] (cpre dC dI cI cJ (w_Proc h cI cJ σ) sz)) (va_Qv Φ (fun u => cpost dC dI cI cJ (va_A (w_Proc h cI cJ σ) sz) (w_Proc h cI cJ u)) (va_A (w_Proc h cI cJ σ) sz)) 0 0 (va_A (w_Proc h cI cJ σ) sz) := by
  refine Met.ofW (cc := cX5_change) (maxL := 5) (ret := none) (by decide) rfl ?_
  intro p e s m args below meth c s₁ B hml hv
  obtain ⟨rfl, hsz, hP, hK, hD0⟩ := hv
  have hx := B.exec
  have hb := B.bytes
  have hr := B.returns
  have hts := atoms_spec (ws := wsX5_change) B.pre
  have hown : s.vm.findClass RX5 = some m.cls := findClass_of_methodNamed B.named
  have hlocks := B.notSynchronized
  subst hsz
  have hD := hD0.self (sz := s.heap.size)
  generalize hAe : va_A (w_Proc h cI cJ σ) s.heap.size = A at hD ⊢
  have hA : ∀ q : Nat, s.heap.size ≤ q → A q := fun q h => by rw [← hAe]; exact Or.inr h
  clear hD0 hAe
  have hS : va_S A s.heap s.heap [] := va_S.rf
  have hl := lv_entry ([.ref (h 1), .int a1, .int a2, .int a3, .int a4]) (n := 5) (Nat.le_of_ble_eq_true rfl)
  rw [lg_entry_eq]
  generalize (lg_sl ([.ref (h 1), .int a1, .int a2, .int a3, .int a4]) ++ List.replicate (5 - (lg_sl ([.ref (h 1), .int a1, .int a2, .int a3, .int a4])).length) Slot.unset).toArray = ls at hl ⊢
  have hl : lv_has ls 5 [(0, .ref (h 1)), (1, .int a1), (2, .int a2), (3, .int a3), (4, .int a4)] := hl
  unfold wp_X5_change at hok
  refine lv_iload_n hx hb dX5_change_0 rfl (lv_at hl 3 rfl) ?_
  refine lv_iconst (v := 1) hx hb dX5_change_1 (by decide) ?_
  refine lv_icmp_ne (tgt := 22) hx hb dX5_change_2 (by decide) (fun c1 => ?_) (fun c1 => ?_)
  · have hok := hok.2 c1
    refine lv_aload_n hx hb dX5_change_22 rfl (lv_at hl 0 rfl) ?_
    refine va_get (D := (dC, dI)) (ci := 4) (v := .ref (h 4)) (C := RX5) (T := TX5) (N := 15) hx hb hts (fun w h => List.mem_cons_of_mem _ (in_X5 w h)) hown hK hP 0 rfl rfl 12 (by decide) (hts _ (List.mem_cons_of_mem _ tw_1_171)) (fun _ h9 => h9) rfl dX5_change_23 ?_
    refine lv_iload hx hb dX5_change_26 (lv_at hl 4 rfl) ?_
    refine lv_aload_n hx hb dX5_change_28 rfl (lv_at hl 0 rfl) ?_
    refine lv_iload_n hx hb dX5_change_29 rfl (lv_at hl 1 rfl) ?_
    refine lv_iload_n hx hb dX5_change_30 rfl (lv_at hl 2 rfl) ?_
    refine lv_aload_n hx hb dX5_change_31 rfl (lv_at hl 0 rfl) ?_
    refine va_get (D := (dC, dI)) (ci := 4) (v := .ref (h 4)) (C := RX5) (T := TX5) (N := 15) hx hb hts (fun w h => List.mem_cons_of_mem _ (in_X5 w h)) hown hK hP 0 rfl rfl 12 (by decide) (hts _ (List.mem_cons_of_mem _ tw_1_171)) (fun _ h9 => h9) rfl dX5_change_32 ?_
    refine lv_iload hx hb dX5_change_35 (lv_at hl 4 rfl) ?_
    have hPc := hP.sub (ws' := w_Board h cI cJ σ.2.2.2) [3, 4, 5, 6, 7, 8, 9] rfl
    have hDc := hD.sub (ws' := w_Board h cI cJ σ.2.2.2) [3, 4, 5, 6, 7, 8, 9] (by decide) rfl
    have hFc := va_free (wc := w_Board h cI cJ σ.2.2.2) hD hS hA [3, 4, 5, 6, 7, 8, 9] rfl
    refine va_calli (va_runV (As := [.int a4]) (rest := [.int a2, .int a1, .ref (h 1), .int a4, .ref (h 4)]) ⟨hx, hb, hml, hown, hts⟩ (c_X0_read l dC dI cI cJ h _ hok) (cwV 1 hts (tb_gV tw_2_14 tw_2_15 tw_2_16 tw_1_2 tw_2_17) rfl rfl rfl (by decide +kernel) ⟨Nat.le_of_ble_eq_true rfl, Nat.le_of_ble_eq_true rfl⟩) (cpre_V (ci := 0) (q0 := 0) hK hPc hDc rfl rfl) rfl rfl hl.1 rfl (lv_room (Nat.le_of_ble_eq_true rfl)) dX5_change_37 ⟨Nat.le_of_ble_eq_true rfl, Nat.le_of_ble_eq_true rfl⟩) hS (fun q _ h => hFc q h) hFc (fun r2 u3 t H1 locs ht hvm hok hB hz1 hk1 hS => ?_)
    obtain ⟨hP, hD⟩ := cjoin ht hP hD [3, 4, 5, 6, 7, 8, 9] [0, 1, 2] rfl rfl (by decide) (by decide) hk1 hFc hB
    have hP := hP.sub (ws' := w_Proc h cI cJ (σ.1, σ.2.1, σ.2.2.1, u3)) [0, 1, 2, 3, 4, 5, 6, 7, 8, 9] rfl
    have hD := hD.sub (ws' := w_Proc h cI cJ (σ.1, σ.2.1, σ.2.2.1, u3)) [0, 1, 2, 3, 4, 5, 6, 7, 8, 9] (by decide) rfl
    have hPc := hP
    have hDc := hD
    have hFc := va_free (wc := w_Proc h cI cJ (σ.1, σ.2.1, σ.2.2.1, u3)) hD hS hA [0, 1, 2, 3, 4, 5, 6, 7, 8, 9] rfl
    refine va_calli (va_runV (As := [.int a1, .int a2, .int r2]) (rest := [.int a4, .ref (h 4)]) ⟨hx, hb, hml, hown, hts⟩ (c_X5_changed l dC dI cI cJ h _ hok) (cwV 3 hts (tb_gV tw_2_189 tw_2_191 tw_p_22 tw_1_6 tw_2_192) rfl rfl rfl (by decide +kernel) ⟨Nat.le_of_ble_eq_true rfl, Nat.le_of_ble_eq_true rfl⟩) (cpre_V (ci := 4) (q0 := 0) hK hPc hDc rfl rfl) rfl rfl hl.1 rfl (lv_room (Nat.le_of_ble_eq_true rfl)) dX5_change_40 ⟨Nat.le_of_ble_eq_true rfl, Nat.le_of_ble_eq_true rfl⟩) hS (fun q _ h => hFc q h) hFc (fun r4 u5 t H1 locs ht hvm hok hB hz1 hk1 hS => ?_)
    obtain ⟨hP, hD⟩ := cjoin_w ht hB hFc
    have hPc := hP.sub (ws' := w_Board h cI cJ u5.2.2.2) [3, 4, 5, 6, 7, 8, 9] rfl
    have hDc := hD.sub (ws' := w_Board h cI cJ u5.2.2.2) [3, 4, 5, 6, 7, 8, 9] (by decide) rfl
    have hFc := va_free (wc := w_Board h cI cJ u5.2.2.2) hD hS hA [3, 4, 5, 6, 7, 8, 9] rfl
    refine va_callv (va_runV (As := [.int a4, .int r4]) (rest := []) ⟨hx, hb, hml, hown, hts⟩ (c_X0_write l dC dI cI cJ h _ hok) (cwV 2 hts (tb_gV tw_2_96 tw_2_97 tw_2_98 tw_1_2 tw_2_99) rfl rfl rfl (by decide +kernel) ⟨Nat.le_of_ble_eq_true rfl, Nat.le_of_ble_eq_true rfl⟩) (cpre_V (ci := 0) (q0 := 0) hK hPc hDc rfl rfl) rfl rfl hl.1 rfl (lv_room (Nat.le_of_ble_eq_true rfl)) dX5_change_43 ⟨Nat.le_of_ble_eq_true rfl, Nat.le_of_ble_eq_true rfl⟩) hS (fun q _ h => hFc q h) hFc (fun u6 t H1 locs ht hvm hok hB hz1 hk1 hS => ?_)
    obtain ⟨hP, hD⟩ := cjoin ht hP hD [3, 4, 5, 6, 7, 8, 9] [0, 1, 2] rfl rfl (by decide) (by decide) hk1 hFc hB
    have hP := hP.sub (ws' := w_Proc h cI cJ (u5.1, u5.2.1, u5.2.2.1, u6)) [0, 1, 2, 3, 4, 5, 6, 7, 8, 9] rfl
    have hD := hD.sub (ws' := w_Proc h cI cJ (u5.1, u5.2.1, u5.2.2.1, u6)) [0, 1, 2, 3, 4, 5, 6, 7, 8, 9] (by decide) rfl
    exact W.vret hx hb hr (fun t ht hW => ⟨⟨(u5.1, u5.2.1, u5.2.2.1, u6), rfl, hok, by rw [ht]; exact hP, va_K.moved hW.alike hK, hD⟩, hS.F ht⟩) hS.2.2 dX5_change_46
  · have hok := hok.1 c1
    refine lv_aload_n hx hb dX5_change_5 rfl (lv_at hl 0 rfl) ?_
    refine lv_aload_n hx hb dX5_change_6 rfl (lv_at hl 0 rfl) ?_
    refine lv_iload_n hx hb dX5_change_7 rfl (lv_at hl 1 rfl) ?_
    refine lv_iload_n hx hb dX5_change_8 rfl (lv_at hl 2 rfl) ?_
    refine lv_aload_n hx hb dX5_change_9 rfl (lv_at hl 0 rfl) ?_
    refine va_get (D := (dC, dI)) (ci := 4) (v := .int (σ.1 0)) (C := RX5) (T := TX5) (N := 15) hx hb hts (fun w h => List.mem_cons_of_mem _ (in_X5 w h)) hown hK hP 0 rfl rfl 0 (by decide) (hts _ (List.mem_cons_of_mem _ tw_1_148)) (fun _ h9 => h9) rfl dX5_change_10 ?_
    have hPc := hP
    have hDc := hD
    have hFc := va_free (wc := w_Proc h cI cJ σ) hD hS hA [0, 1, 2, 3, 4, 5, 6, 7, 8, 9] rfl
    refine va_calli (va_runV (As := [.int a1, .int a2, .int (σ.1 0)]) (rest := [.ref (h 1)]) ⟨hx, hb, hml, hown, hts⟩ (c_X5_changed l dC dI cI cJ h _ hok) (cwV 3 hts (tb_gV tw_2_189 tw_2_191 tw_p_22 tw_1_6 tw_2_192) rfl rfl rfl (by decide +kernel) ⟨Nat.le_of_ble_eq_true rfl, Nat.le_of_ble_eq_true rfl⟩) (cpre_V (ci := 4) (q0 := 0) hK hPc hDc rfl rfl) rfl rfl hl.1 rfl (lv_room (Nat.le_of_ble_eq_true rfl)) dX5_change_13 ⟨Nat.le_of_ble_eq_true rfl, Nat.le_of_ble_eq_true rfl⟩) hS (fun q _ h => hFc q h) hFc (fun r7 u8 t H1 locs ht hvm hok hB hz1 hk1 hS => ?_)
    obtain ⟨hP, hD⟩ := cjoin_w ht hB hFc
    refine va_put (D := (dC, dI)) (ci := 4) (v := .int r7) (ty := .int) (C := RX5) (T := TX5) (N := 15) hx hb hts (fun w h => List.mem_cons_of_mem _ (in_X5 w h)) tyX5 tyX5_ok nmX5 hown hK hP hD hS 0 rfl rfl 0 (by decide) (hts _ (List.mem_cons_of_mem _ tw_1_148)) (fun _ h9 => h9) rfl (by decide +kernel) rfl rfl (Nat.le_of_ble_eq_true rfl) dX5_change_16 (fun H locs hP hD hS => ?_)
    have hP : va_P (dC, dI) vwCl (w_Proc h cI cJ (upd u8.1 0 r7, u8.2.1, u8.2.2.1, u8.2.2.2)) _ := hP
    have hD : va_D A (w_Proc h cI cJ (upd u8.1 0 r7, u8.2.1, u8.2.2.1, u8.2.2.2)) := hD
    refine lv_goto (tgt := 46) hx hb dX5_change_19 (by decide) ?_
    exact W.vret hx hb hr (fun t ht hW => ⟨⟨(upd u8.1 0 r7, u8.2.1, u8.2.2.1, u8.2.2.2), rfl, hok, by rw [ht]; exact hP, va_K.moved hW.alike hK, hD⟩, hS.F ht⟩) hS.2.2 dX5_change_46
def wp_X5_move (σ : S_Proc) (a1 : Int32) (Φ : S_Proc → Prop) : Prop := ((a1 = 48 → (wp_X5_shown σ ((σ.1 1) + (1 : Int32)) (fun r2 u3 => Φ (upd u3.1 1 r2, u3.2.1, u3.2.2.1, u3.2.2.2)))) ∧ (a1 = 49 → (wp_X5_shown σ ((σ.1 2) + (1 : Int32)) (fun r5 u6 => Φ (upd u6.1 2 r5, u6.2.1, u6.2.2.1, u6.2.2.2)))) ∧ (a1 = 50 → (wp_X5_shown σ ((σ.1 1) - (1 : Int32)) (fun r8 u9 => Φ (upd u9.1 1 r8, u9.2.1, u9.2.2.1, u9.2.2.2)))) ∧ (a1 = 51 → (wp_X5_shown σ ((σ.1 2) - (1 : Int32)) (fun r11 u12 => Φ (upd u12.1 2 r11, u12.2.1, u12.2.2.1, u12.2.2.2)))) ∧ (a1 = 52 → (wp_X5_shown σ (σ.1 0) (fun r14 u15 => Φ (upd u15.1 1 r14, u15.2.1, u15.2.2.1, u15.2.2.2)))) ∧ (a1 = 53 → (wp_X5_shown σ (σ.1 0) (fun r17 u18 => Φ (upd u18.1 2 r17, u18.2.1, u18.2.2.1, u18.2.2.2)))) ∧ (a1 = 54 → (wp_X5_shown σ (σ.1 1) (fun r20 u21 => Φ (upd u21.1 0 r20, u21.2.1, u21.2.2.1, u21.2.2.2)))) ∧ (a1 = 55 → (wp_X5_shown σ (σ.1 2) (fun r23 u24 => Φ (upd u24.1 0 r23, u24.2.1, u24.2.2.1, u24.2.2.2)))) ∧ (a1 = 56 → (wp_X5_shown σ (σ.1 3) (fun r26 u27 => Φ (upd u27.1 1 r26, u27.2.1, u27.2.2.1, u27.2.2.2)))) ∧ ((¬ a1 = 48 ∧ ¬ a1 = 49 ∧ ¬ a1 = 50 ∧ ¬ a1 = 51 ∧ ¬ a1 = 52 ∧ ¬ a1 = 53 ∧ ¬ a1 = 54 ∧ ¬ a1 = 55 ∧ ¬ a1 = 56) → (Φ (upd σ.1 3 (σ.1 1), σ.2.1, σ.2.2.1, σ.2.2.2))))
set_option maxHeartbeats 4000000 in
set_option maxRecDepth 100000 in
theorem c_X5_move (l : Launch) (dC : Nat → ClassId) (dI : Nat → Nat → Nat) (cI cJ : ClassId) (h : Nat → Nat) (sz : Nat) {σ : S_Proc} {a1 : Int32} {Φ : S_Proc → Prop} (hok : wp_X5_move σ a1 Φ) : Met l yX5_move wsX5_move ({ frames := 1, cells := 0, slots := 0, locals := 22 }) (va_Pc [.ref (h 1), .int a1] (cpre dC dI cI cJ (w_Proc h cI cJ σ) sz)) (va_Qv Φ (fun u => cpost dC dI cI cJ (va_A (w_Proc h cI cJ σ) sz) (w_Proc h cI cJ u)) (va_A (w_Proc h cI cJ σ) sz)) 0 0 (va_A (w_Proc h cI cJ σ) sz) := by
  refine Met.ofW (cc := cX5_move) (maxL := 2) (ret := none) (by decide) rfl ?_
  intro p e s m args below meth c s₁ B hml hv
  obtain ⟨rfl, hsz, hP, hK, hD0⟩ := hv
  have hx := B.exec
  have hb := B.bytes
  have hr := B.returns
  have hts := atoms_spec (ws := wsX5_move) B.pre
  have hown : s.vm.findClass RX5 = some m.cls := findClass_of_methodNamed B.named
  have hlocks := B.notSynchronized
  subst hsz
  have hD := hD0.self (sz := s.heap.size)
  generalize hAe : va_A (w_Proc h cI cJ σ) s.heap.size = A at hD ⊢
  have hA : ∀ q : Nat, s.heap.size ≤ q → A q := fun q h => by rw [← hAe]; exact Or.inr h
  clear hD0 hAe
  have hS : va_S A s.heap s.heap [] := va_S.rf
  have hl := lv_entry ([.ref (h 1), .int a1]) (n := 2) (Nat.le_of_ble_eq_true rfl)
  rw [lg_entry_eq]
  generalize (lg_sl ([.ref (h 1), .int a1]) ++ List.replicate (2 - (lg_sl ([.ref (h 1), .int a1])).length) Slot.unset).toArray = ls at hl ⊢
  have hl : lv_has ls 2 [(0, .ref (h 1)), (1, .int a1)] := hl
  unfold wp_X5_move at hok
  refine lv_iload_n hx hb dX5_move_0 rfl (lv_at hl 1 rfl) ?_
  by_cases c1 : a1 = 48
  · have hok := hok.1 c1
    refine lv_tableIn (tgt := 52) (off := 51) hx hb dX5_move_1 (by rw [c1]; decide) (by rw [c1]; decide) (by rw [c1]; decide) (by decide) ?_
    refine lv_aload_n hx hb dX5_move_52 rfl (lv_at hl 0 rfl) ?_
    refine lv_aload_n hx hb dX5_move_53 rfl (lv_at hl 0 rfl) ?_
    refine lv_aload_n hx hb dX5_move_54 rfl (lv_at hl 0 rfl) ?_
    refine va_get (D := (dC, dI)) (ci := 4) (v := .int (σ.1 1)) (C := RX5) (T := TX5) (N := 15) hx hb hts (fun w h => List.mem_cons_of_mem _ (in_X5 w h)) hown hK hP 0 rfl rfl 1 (by decide) (hts _ (List.mem_cons_of_mem _ tw_1_149)) (fun _ h9 => h9) rfl dX5_move_55 ?_
    refine lv_iconst (v := 1) hx hb dX5_move_58 (by decide) ?_
    refine lv_iadd hx hb dX5_move_59 ?_
    have hPc := hP
    have hDc := hD
    have hFc := va_free (wc := w_Proc h cI cJ σ) hD hS hA [0, 1, 2, 3, 4, 5, 6, 7, 8, 9] rfl
    refine va_calli (va_runV (As := [.int ((σ.1 1) + (1 : Int32))]) (rest := [.ref (h 1)]) ⟨hx, hb, hml, hown, hts⟩ (c_X5_shown l dC dI cI cJ h _ hok) (cwV 1 hts (tb_gV tw_2_153 tw_2_155 tw_p_13 tw_1_6 tw_2_156) rfl rfl rfl (by decide +kernel) ⟨Nat.le_of_ble_eq_true rfl, Nat.le_of_ble_eq_true rfl⟩) (cpre_V (ci := 4) (q0 := 0) hK hPc hDc rfl rfl) rfl rfl hl.1 rfl (lv_room (Nat.le_of_ble_eq_true rfl)) dX5_move_60 ⟨Nat.le_of_ble_eq_true rfl, Nat.le_of_ble_eq_true rfl⟩) hS (fun q _ h => hFc q h) hFc (fun r2 u3 t H1 locs ht hvm hok hB hz1 hk1 hS => ?_)
    obtain ⟨hP, hD⟩ := cjoin_w ht hB hFc
    refine va_put (D := (dC, dI)) (ci := 4) (v := .int r2) (ty := .int) (C := RX5) (T := TX5) (N := 15) hx hb hts (fun w h => List.mem_cons_of_mem _ (in_X5 w h)) tyX5 tyX5_ok nmX5 hown hK hP hD hS 0 rfl rfl 1 (by decide) (hts _ (List.mem_cons_of_mem _ tw_1_149)) (fun _ h9 => h9) rfl (by decide +kernel) rfl rfl (Nat.le_of_ble_eq_true rfl) dX5_move_63 (fun H locs hP hD hS => ?_)
    have hP : va_P (dC, dI) vwCl (w_Proc h cI cJ (upd u3.1 1 r2, u3.2.1, u3.2.2.1, u3.2.2.2)) _ := hP
    have hD : va_D A (w_Proc h cI cJ (upd u3.1 1 r2, u3.2.1, u3.2.2.1, u3.2.2.2)) := hD
    refine lv_goto (tgt := 203) hx hb dX5_move_66 (by decide) ?_
    exact W.vret hx hb hr (fun t ht hW => ⟨⟨(upd u3.1 1 r2, u3.2.1, u3.2.2.1, u3.2.2.2), rfl, hok, by rw [ht]; exact hP, va_K.moved hW.alike hK, hD⟩, hS.F ht⟩) hS.2.2 dX5_move_203
  have hok := hok.2
  by_cases c4 : a1 = 49
  · have hok := hok.1 c4
    refine lv_tableIn (tgt := 69) (off := 68) hx hb dX5_move_1 (by rw [c4]; decide) (by rw [c4]; decide) (by rw [c4]; decide) (by decide) ?_
    refine lv_aload_n hx hb dX5_move_69 rfl (lv_at hl 0 rfl) ?_
    refine lv_aload_n hx hb dX5_move_70 rfl (lv_at hl 0 rfl) ?_
    refine lv_aload_n hx hb dX5_move_71 rfl (lv_at hl 0 rfl) ?_
    refine va_get (D := (dC, dI)) (ci := 4) (v := .int (σ.1 2)) (C := RX5) (T := TX5) (N := 15) hx hb hts (fun w h => List.mem_cons_of_mem _ (in_X5 w h)) hown hK hP 0 rfl rfl 2 (by decide) (hts _ (List.mem_cons_of_mem _ tw_1_151)) (fun _ h9 => h9) rfl dX5_move_72 ?_
    refine lv_iconst (v := 1) hx hb dX5_move_75 (by decide) ?_
    refine lv_iadd hx hb dX5_move_76 ?_
    have hPc := hP
    have hDc := hD
    have hFc := va_free (wc := w_Proc h cI cJ σ) hD hS hA [0, 1, 2, 3, 4, 5, 6, 7, 8, 9] rfl
    refine va_calli (va_runV (As := [.int ((σ.1 2) + (1 : Int32))]) (rest := [.ref (h 1)]) ⟨hx, hb, hml, hown, hts⟩ (c_X5_shown l dC dI cI cJ h _ hok) (cwV 1 hts (tb_gV tw_2_153 tw_2_155 tw_p_13 tw_1_6 tw_2_156) rfl rfl rfl (by decide +kernel) ⟨Nat.le_of_ble_eq_true rfl, Nat.le_of_ble_eq_true rfl⟩) (cpre_V (ci := 4) (q0 := 0) hK hPc hDc rfl rfl) rfl rfl hl.1 rfl (lv_room (Nat.le_of_ble_eq_true rfl)) dX5_move_77 ⟨Nat.le_of_ble_eq_true rfl, Nat.le_of_ble_eq_true rfl⟩) hS (fun q _ h => hFc q h) hFc (fun r5 u6 t H1 locs ht hvm hok hB hz1 hk1 hS => ?_)
    obtain ⟨hP, hD⟩ := cjoin_w ht hB hFc
    refine va_put (D := (dC, dI)) (ci := 4) (v := .int r5) (ty := .int) (C := RX5) (T := TX5) (N := 15) hx hb hts (fun w h => List.mem_cons_of_mem _ (in_X5 w h)) tyX5 tyX5_ok nmX5 hown hK hP hD hS 0 rfl rfl 2 (by decide) (hts _ (List.mem_cons_of_mem _ tw_1_151)) (fun _ h9 => h9) rfl (by decide +kernel) rfl rfl (Nat.le_of_ble_eq_true rfl) dX5_move_80 (fun H locs hP hD hS => ?_)
    have hP : va_P (dC, dI) vwCl (w_Proc h cI cJ (upd u6.1 2 r5, u6.2.1, u6.2.2.1, u6.2.2.2)) _ := hP
    have hD : va_D A (w_Proc h cI cJ (upd u6.1 2 r5, u6.2.1, u6.2.2.1, u6.2.2.2)) := hD
    refine lv_goto (tgt := 203) hx hb dX5_move_83 (by decide) ?_
    exact W.vret hx hb hr (fun t ht hW => ⟨⟨(upd u6.1 2 r5, u6.2.1, u6.2.2.1, u6.2.2.2), rfl, hok, by rw [ht]; exact hP, va_K.moved hW.alike hK, hD⟩, hS.F ht⟩) hS.2.2 dX5_move_203
  have hok := hok.2
  by_cases c7 : a1 = 50
  · have hok := hok.1 c7
    refine lv_tableIn (tgt := 86) (off := 85) hx hb dX5_move_1 (by rw [c7]; decide) (by rw [c7]; decide) (by rw [c7]; decide) (by decide) ?_
    refine lv_aload_n hx hb dX5_move_86 rfl (lv_at hl 0 rfl) ?_
    refine lv_aload_n hx hb dX5_move_87 rfl (lv_at hl 0 rfl) ?_
    refine lv_aload_n hx hb dX5_move_88 rfl (lv_at hl 0 rfl) ?_
    refine va_get (D := (dC, dI)) (ci := 4) (v := .int (σ.1 1)) (C := RX5) (T := TX5) (N := 15) hx hb hts (fun w h => List.mem_cons_of_mem _ (in_X5 w h)) hown hK hP 0 rfl rfl 1 (by decide) (hts _ (List.mem_cons_of_mem _ tw_1_149)) (fun _ h9 => h9) rfl dX5_move_89 ?_
    refine lv_iconst (v := 1) hx hb dX5_move_92 (by decide) ?_
    refine lv_isub hx hb dX5_move_93 ?_
    have hPc := hP
    have hDc := hD
    have hFc := va_free (wc := w_Proc h cI cJ σ) hD hS hA [0, 1, 2, 3, 4, 5, 6, 7, 8, 9] rfl
    refine va_calli (va_runV (As := [.int ((σ.1 1) - (1 : Int32))]) (rest := [.ref (h 1)]) ⟨hx, hb, hml, hown, hts⟩ (c_X5_shown l dC dI cI cJ h _ hok) (cwV 1 hts (tb_gV tw_2_153 tw_2_155 tw_p_13 tw_1_6 tw_2_156) rfl rfl rfl (by decide +kernel) ⟨Nat.le_of_ble_eq_true rfl, Nat.le_of_ble_eq_true rfl⟩) (cpre_V (ci := 4) (q0 := 0) hK hPc hDc rfl rfl) rfl rfl hl.1 rfl (lv_room (Nat.le_of_ble_eq_true rfl)) dX5_move_94 ⟨Nat.le_of_ble_eq_true rfl, Nat.le_of_ble_eq_true rfl⟩) hS (fun q _ h => hFc q h) hFc (fun r8 u9 t H1 locs ht hvm hok hB hz1 hk1 hS => ?_)
    obtain ⟨hP, hD⟩ := cjoin_w ht hB hFc
    refine va_put (D := (dC, dI)) (ci := 4) (v := .int r8) (ty := .int) (C := RX5) (T := TX5) (N := 15) hx hb hts (fun w h => List.mem_cons_of_mem _ (in_X5 w h)) tyX5 tyX5_ok nmX5 hown hK hP hD hS 0 rfl rfl 1 (by decide) (hts _ (List.mem_cons_of_mem _ tw_1_149)) (fun _ h9 => h9) rfl (by decide +kernel) rfl rfl (Nat.le_of_ble_eq_true rfl) dX5_move_97 (fun H locs hP hD hS => ?_)
    have hP : va_P (dC, dI) vwCl (w_Proc h cI cJ (upd u9.1 1 r8, u9.2.1, u9.2.2.1, u9.2.2.2)) _ := hP
    have hD : va_D A (w_Proc h cI cJ (upd u9.1 1 r8, u9.2.1, u9.2.2.1, u9.2.2.2)) := hD
    refine lv_goto (tgt := 203) hx hb dX5_move_100 (by decide) ?_
    exact W.vret hx hb hr (fun t ht hW => ⟨⟨(upd u9.1 1 r8, u9.2.1, u9.2.2.1, u9.2.2.2), rfl, hok, by rw [ht]; exact hP, va_K.moved hW.alike hK, hD⟩, hS.F ht⟩) hS.2.2 dX5_move_203
  have hok := hok.2
  by_cases c10 : a1 = 51
  · have hok := hok.1 c10
    refine lv_tableIn (tgt := 103) (off := 102) hx hb dX5_move_1 (by rw [c10]; decide) (by rw [c10]; decide) (by rw [c10]; decide) (by decide) ?_
    refine lv_aload_n hx hb dX5_move_103 rfl (lv_at hl 0 rfl) ?_
    refine lv_aload_n hx hb dX5_move_104 rfl (lv_at hl 0 rfl) ?_
    refine lv_aload_n hx hb dX5_move_105 rfl (lv_at hl 0 rfl) ?_
    refine va_get (D := (dC, dI)) (ci := 4) (v := .int (σ.1 2)) (C := RX5) (T := TX5) (N := 15) hx hb hts (fun w h => List.mem_cons_of_mem _ (in_X5 w h)) hown hK hP 0 rfl rfl 2 (by decide) (hts _ (List.mem_cons_of_mem _ tw_1_151)) (fun _ h9 => h9) rfl dX5_move_106 ?_
    refine lv_iconst (v := 1) hx hb dX5_move_109 (by decide) ?_
    refine lv_isub hx hb dX5_move_110 ?_
    have hPc := hP
    have hDc := hD
    have hFc := va_free (wc := w_Proc h cI cJ σ) hD hS hA [0, 1, 2, 3, 4, 5, 6, 7, 8, 9] rfl
    refine va_calli (va_runV (As := [.int ((σ.1 2) - (1 : Int32))]) (rest := [.ref (h 1)]) ⟨hx, hb, hml, hown, hts⟩ (c_X5_shown l dC dI cI cJ h _ hok) (cwV 1 hts (tb_gV tw_2_153 tw_2_155 tw_p_13 tw_1_6 tw_2_156) rfl rfl rfl (by decide +kernel) ⟨Nat.le_of_ble_eq_true rfl, Nat.le_of_ble_eq_true rfl⟩) (cpre_V (ci := 4) (q0 := 0) hK hPc hDc rfl rfl) rfl rfl hl.1 rfl (lv_room (Nat.le_of_ble_eq_true rfl)) dX5_move_111 ⟨Nat.le_of_ble_eq_true rfl, Nat.le_of_ble_eq_true rfl⟩) hS (fun q _ h => hFc q h) hFc (fun r11 u12 t H1 locs ht hvm hok hB hz1 hk1 hS => ?_)
    obtain ⟨hP, hD⟩ := cjoin_w ht hB hFc
    refine va_put (D := (dC, dI)) (ci := 4) (v := .int r11) (ty := .int) (C := RX5) (T := TX5) (N := 15) hx hb hts (fun w h => List.mem_cons_of_mem _ (in_X5 w h)) tyX5 tyX5_ok nmX5 hown hK hP hD hS 0 rfl rfl 2 (by decide) (hts _ (List.mem_cons_of_mem _ tw_1_151)) (fun _ h9 => h9) rfl (by decide +kernel) rfl rfl (Nat.le_of_ble_eq_true rfl) dX5_move_114 (fun H locs hP hD hS => ?_)
    have hP : va_P (dC, dI) vwCl (w_Proc h cI cJ (upd u12.1 2 r11, u12.2.1, u12.2.2.1, u12.2.2.2)) _ := hP
    have hD : va_D A (w_Proc h cI cJ (upd u12.1 2 r11, u12.2.1, u12.2.2.1, u12.2.2.2)) := hD
    refine lv_goto (tgt := 203) hx hb dX5_move_117 (by decide) ?_
    exact W.vret hx hb hr (fun t ht hW => ⟨⟨(upd u12.1 2 r11, u12.2.1, u12.2.2.1, u12.2.2.2), rfl, hok, by rw [ht]; exact hP, va_K.moved hW.alike hK, hD⟩, hS.F ht⟩) hS.2.2 dX5_move_203
  have hok := hok.2
  by_cases c13 : a1 = 52
  · have hok := hok.1 c13
    refine lv_tableIn (tgt := 120) (off := 119) hx hb dX5_move_1 (by rw [c13]; decide) (by rw [c13]; decide) (by rw [c13]; decide) (by decide) ?_
    refine lv_aload_n hx hb dX5_move_120 rfl (lv_at hl 0 rfl) ?_
    refine lv_aload_n hx hb dX5_move_121 rfl (lv_at hl 0 rfl) ?_
    refine lv_aload_n hx hb dX5_move_122 rfl (lv_at hl 0 rfl) ?_
    refine va_get (D := (dC, dI)) (ci := 4) (v := .int (σ.1 0)) (C := RX5) (T := TX5) (N := 15) hx hb hts (fun w h => List.mem_cons_of_mem _ (in_X5 w h)) hown hK hP 0 rfl rfl 0 (by decide) (hts _ (List.mem_cons_of_mem _ tw_1_148)) (fun _ h9 => h9) rfl dX5_move_123 ?_
    have hPc := hP
    have hDc := hD
    have hFc := va_free (wc := w_Proc h cI cJ σ) hD hS hA [0, 1, 2, 3, 4, 5, 6, 7, 8, 9] rfl
    refine va_calli (va_runV (As := [.int (σ.1 0)]) (rest := [.ref (h 1)]) ⟨hx, hb, hml, hown, hts⟩ (c_X5_shown l dC dI cI cJ h _ hok) (cwV 1 hts (tb_gV tw_2_153 tw_2_155 tw_p_13 tw_1_6 tw_2_156) rfl rfl rfl (by decide +kernel) ⟨Nat.le_of_ble_eq_true rfl, Nat.le_of_ble_eq_true rfl⟩) (cpre_V (ci := 4) (q0 := 0) hK hPc hDc rfl rfl) rfl rfl hl.1 rfl (lv_room (Nat.le_of_ble_eq_true rfl)) dX5_move_126 ⟨Nat.le_of_ble_eq_true rfl, Nat.le_of_ble_eq_true rfl⟩) hS (fun q _ h => hFc q h) hFc (fun r14 u15 t H1 locs ht hvm hok hB hz1 hk1 hS => ?_)
    obtain ⟨hP, hD⟩ := cjoin_w ht hB hFc
    refine va_put (D := (dC, dI)) (ci := 4) (v := .int r14) (ty := .int) (C := RX5) (T := TX5) (N := 15) hx hb hts (fun w h => List.mem_cons_of_mem _ (in_X5 w h)) tyX5 tyX5_ok nmX5 hown hK hP hD hS 0 rfl rfl 1 (by decide) (hts _ (List.mem_cons_of_mem _ tw_1_149)) (fun _ h9 => h9) rfl (by decide +kernel) rfl rfl (Nat.le_of_ble_eq_true rfl) dX5_move_129 (fun H locs hP hD hS => ?_)
    have hP : va_P (dC, dI) vwCl (w_Proc h cI cJ (upd u15.1 1 r14, u15.2.1, u15.2.2.1, u15.2.2.2)) _ := hP
    have hD : va_D A (w_Proc h cI cJ (upd u15.1 1 r14, u15.2.1, u15.2.2.1, u15.2.2.2)) := hD
    refine lv_goto (tgt := 203) hx hb dX5_move_132 (by decide) ?_
    exact W.vret hx hb hr (fun t ht hW => ⟨⟨(upd u15.1 1 r14, u15.2.1, u15.2.2.1, u15.2.2.2), rfl, hok, by rw [ht]; exact hP, va_K.moved hW.alike hK, hD⟩, hS.F ht⟩) hS.2.2 dX5_move_203
  have hok := hok.2
  by_cases c16 : a1 = 53
  · have hok := hok.1 c16
    refine lv_tableIn (tgt := 135) (off := 134) hx hb dX5_move_1 (by rw [c16]; decide) (by rw [c16]; decide) (by rw [c16]; decide) (by decide) ?_
    refine lv_aload_n hx hb dX5_move_135 rfl (lv_at hl 0 rfl) ?_
    refine lv_aload_n hx hb dX5_move_136 rfl (lv_at hl 0 rfl) ?_
    refine lv_aload_n hx hb dX5_move_137 rfl (lv_at hl 0 rfl) ?_
    refine va_get (D := (dC, dI)) (ci := 4) (v := .int (σ.1 0)) (C := RX5) (T := TX5) (N := 15) hx hb hts (fun w h => List.mem_cons_of_mem _ (in_X5 w h)) hown hK hP 0 rfl rfl 0 (by decide) (hts _ (List.mem_cons_of_mem _ tw_1_148)) (fun _ h9 => h9) rfl dX5_move_138 ?_
    have hPc := hP
    have hDc := hD
    have hFc := va_free (wc := w_Proc h cI cJ σ) hD hS hA [0, 1, 2, 3, 4, 5, 6, 7, 8, 9] rfl
    refine va_calli (va_runV (As := [.int (σ.1 0)]) (rest := [.ref (h 1)]) ⟨hx, hb, hml, hown, hts⟩ (c_X5_shown l dC dI cI cJ h _ hok) (cwV 1 hts (tb_gV tw_2_153 tw_2_155 tw_p_13 tw_1_6 tw_2_156) rfl rfl rfl (by decide +kernel) ⟨Nat.le_of_ble_eq_true rfl, Nat.le_of_ble_eq_true rfl⟩) (cpre_V (ci := 4) (q0 := 0) hK hPc hDc rfl rfl) rfl rfl hl.1 rfl (lv_room (Nat.le_of_ble_eq_true rfl)) dX5_move_141 ⟨Nat.le_of_ble_eq_true rfl, Nat.le_of_ble_eq_true rfl⟩) hS (fun q _ h => hFc q h) hFc (fun r17 u18 t H1 locs ht hvm hok hB hz1 hk1 hS => ?_)
    obtain ⟨hP, hD⟩ := cjoin_w ht hB hFc
    refine va_put (D := (dC, dI)) (ci := 4) (v := .int r17) (ty := .int) (C := RX5) (T := TX5) (N := 15) hx hb hts (fun w h => List.mem_cons_of_mem _ (in_X5 w h)) tyX5 tyX5_ok nmX5 hown hK hP hD hS 0 rfl rfl 2 (by decide) (hts _ (List.mem_cons_of_mem _ tw_1_151)) (fun _ h9 => h9) rfl (by decide +kernel) rfl rfl (Nat.le_of_ble_eq_true rfl) dX5_move_144 (fun H locs hP hD hS => ?_)
    have hP : va_P (dC, dI) vwCl (w_Proc h cI cJ (upd u18.1 2 r17, u18.2.1, u18.2.2.1, u18.2.2.2)) _ := hP
    have hD : va_D A (w_Proc h cI cJ (upd u18.1 2 r17, u18.2.1, u18.2.2.1, u18.2.2.2)) := hD
    refine lv_goto (tgt := 203) hx hb dX5_move_147 (by decide) ?_
    exact W.vret hx hb hr (fun t ht hW => ⟨⟨(upd u18.1 2 r17, u18.2.1, u18.2.2.1, u18.2.2.2), rfl, hok, by rw [ht]; exact hP, va_K.moved hW.alike hK, hD⟩, hS.F ht⟩) hS.2.2 dX5_move_203
  have hok := hok.2
  by_cases c19 : a1 = 54
  · have hok := hok.1 c19
    refine lv_tableIn (tgt := 150) (off := 149) hx hb dX5_move_1 (by rw [c19]; decide) (by rw [c19]; decide) (by rw [c19]; decide) (by decide) ?_
    refine lv_aload_n hx hb dX5_move_150 rfl (lv_at hl 0 rfl) ?_
    refine lv_aload_n hx hb dX5_move_151 rfl (lv_at hl 0 rfl) ?_
    refine lv_aload_n hx hb dX5_move_152 rfl (lv_at hl 0 rfl) ?_
    refine va_get (D := (dC, dI)) (ci := 4) (v := .int (σ.1 1)) (C := RX5) (T := TX5) (N := 15) hx hb hts (fun w h => List.mem_cons_of_mem _ (in_X5 w h)) hown hK hP 0 rfl rfl 1 (by decide) (hts _ (List.mem_cons_of_mem _ tw_1_149)) (fun _ h9 => h9) rfl dX5_move_153 ?_
    have hPc := hP
    have hDc := hD
    have hFc := va_free (wc := w_Proc h cI cJ σ) hD hS hA [0, 1, 2, 3, 4, 5, 6, 7, 8, 9] rfl
    refine va_calli (va_runV (As := [.int (σ.1 1)]) (rest := [.ref (h 1)]) ⟨hx, hb, hml, hown, hts⟩ (c_X5_shown l dC dI cI cJ h _ hok) (cwV 1 hts (tb_gV tw_2_153 tw_2_155 tw_p_13 tw_1_6 tw_2_156) rfl rfl rfl (by decide +kernel) ⟨Nat.le_of_ble_eq_true rfl, Nat.le_of_ble_eq_true rfl⟩) (cpre_V (ci := 4) (q0 := 0) hK hPc hDc rfl rfl) rfl rfl hl.1 rfl (lv_room (Nat.le_of_ble_eq_true rfl)) dX5_move_156 ⟨Nat.le_of_ble_eq_true rfl, Nat.le_of_ble_eq_true rfl⟩) hS (fun q _ h => hFc q h) hFc (fun r20 u21 t H1 locs ht hvm hok hB hz1 hk1 hS => ?_)
    obtain ⟨hP, hD⟩ := cjoin_w ht hB hFc
    refine va_put (D := (dC, dI)) (ci := 4) (v := .int r20) (ty := .int) (C := RX5) (T := TX5) (N := 15) hx hb hts (fun w h => List.mem_cons_of_mem _ (in_X5 w h)) tyX5 tyX5_ok nmX5 hown hK hP hD hS 0 rfl rfl 0 (by decide) (hts _ (List.mem_cons_of_mem _ tw_1_148)) (fun _ h9 => h9) rfl (by decide +kernel) rfl rfl (Nat.le_of_ble_eq_true rfl) dX5_move_159 (fun H locs hP hD hS => ?_)
    have hP : va_P (dC, dI) vwCl (w_Proc h cI cJ (upd u21.1 0 r20, u21.2.1, u21.2.2.1, u21.2.2.2)) _ := hP
    have hD : va_D A (w_Proc h cI cJ (upd u21.1 0 r20, u21.2.1, u21.2.2.1, u21.2.2.2)) := hD
    refine lv_goto (tgt := 203) hx hb dX5_move_162 (by decide) ?_
    exact W.vret hx hb hr (fun t ht hW => ⟨⟨(upd u21.1 0 r20, u21.2.1, u21.2.2.1, u21.2.2.2), rfl, hok, by rw [ht]; exact hP, va_K.moved hW.alike hK, hD⟩, hS.F ht⟩) hS.2.2 dX5_move_203
  have hok := hok.2
  by_cases c22 : a1 = 55
  · have hok := hok.1 c22
    refine lv_tableIn (tgt := 165) (off := 164) hx hb dX5_move_1 (by rw [c22]; decide) (by rw [c22]; decide) (by rw [c22]; decide) (by decide) ?_
    refine lv_aload_n hx hb dX5_move_165 rfl (lv_at hl 0 rfl) ?_
    refine lv_aload_n hx hb dX5_move_166 rfl (lv_at hl 0 rfl) ?_
    refine lv_aload_n hx hb dX5_move_167 rfl (lv_at hl 0 rfl) ?_
    refine va_get (D := (dC, dI)) (ci := 4) (v := .int (σ.1 2)) (C := RX5) (T := TX5) (N := 15) hx hb hts (fun w h => List.mem_cons_of_mem _ (in_X5 w h)) hown hK hP 0 rfl rfl 2 (by decide) (hts _ (List.mem_cons_of_mem _ tw_1_151)) (fun _ h9 => h9) rfl dX5_move_168 ?_
    have hPc := hP
    have hDc := hD
    have hFc := va_free (wc := w_Proc h cI cJ σ) hD hS hA [0, 1, 2, 3, 4, 5, 6, 7, 8, 9] rfl
    refine va_calli (va_runV (As := [.int (σ.1 2)]) (rest := [.ref (h 1)]) ⟨hx, hb, hml, hown, hts⟩ (c_X5_shown l dC dI cI cJ h _ hok) (cwV 1 hts (tb_gV tw_2_153 tw_2_155 tw_p_13 tw_1_6 tw_2_156) rfl rfl rfl (by decide +kernel) ⟨Nat.le_of_ble_eq_true rfl, Nat.le_of_ble_eq_true rfl⟩) (cpre_V (ci := 4) (q0 := 0) hK hPc hDc rfl rfl) rfl rfl hl.1 rfl (lv_room (Nat.le_of_ble_eq_true rfl)) dX5_move_171 ⟨Nat.le_of_ble_eq_true rfl, Nat.le_of_ble_eq_true rfl⟩) hS (fun q _ h => hFc q h) hFc (fun r23 u24 t H1 locs ht hvm hok hB hz1 hk1 hS => ?_)
    obtain ⟨hP, hD⟩ := cjoin_w ht hB hFc
    refine va_put (D := (dC, dI)) (ci := 4) (v := .int r23) (ty := .int) (C := RX5) (T := TX5) (N := 15) hx hb hts (fun w h => List.mem_cons_of_mem _ (in_X5 w h)) tyX5 tyX5_ok nmX5 hown hK hP hD hS 0 rfl rfl 0 (by decide) (hts _ (List.mem_cons_of_mem _ tw_1_148)) (fun _ h9 => h9) rfl (by decide +kernel) rfl rfl (Nat.le_of_ble_eq_true rfl) dX5_move_174 (fun H locs hP hD hS => ?_)
    have hP : va_P (dC, dI) vwCl (w_Proc h cI cJ (upd u24.1 0 r23, u24.2.1, u24.2.2.1, u24.2.2.2)) _ := hP
    have hD : va_D A (w_Proc h cI cJ (upd u24.1 0 r23, u24.2.1, u24.2.2.1, u24.2.2.2)) := hD
    refine lv_goto (tgt := 203) hx hb dX5_move_177 (by decide) ?_
    exact W.vret hx hb hr (fun t ht hW => ⟨⟨(upd u24.1 0 r23, u24.2.1, u24.2.2.1, u24.2.2.2), rfl, hok, by rw [ht]; exact hP, va_K.moved hW.alike hK, hD⟩, hS.F ht⟩) hS.2.2 dX5_move_203
  have hok := hok.2
  by_cases c25 : a1 = 56
  · have hok := hok.1 c25
    refine lv_tableIn (tgt := 180) (off := 179) hx hb dX5_move_1 (by rw [c25]; decide) (by rw [c25]; decide) (by rw [c25]; decide) (by decide) ?_
    refine lv_aload_n hx hb dX5_move_180 rfl (lv_at hl 0 rfl) ?_
    refine lv_aload_n hx hb dX5_move_181 rfl (lv_at hl 0 rfl) ?_
    refine lv_aload_n hx hb dX5_move_182 rfl (lv_at hl 0 rfl) ?_
    refine va_get (D := (dC, dI)) (ci := 4) (v := .int (σ.1 3)) (C := RX5) (T := TX5) (N := 15) hx hb hts (fun w h => List.mem_cons_of_mem _ (in_X5 w h)) hown hK hP 0 rfl rfl 3 (by decide) (hts _ (List.mem_cons_of_mem _ tw_1_153)) (fun _ h9 => h9) rfl dX5_move_183 ?_
    have hPc := hP
    have hDc := hD
    have hFc := va_free (wc := w_Proc h cI cJ σ) hD hS hA [0, 1, 2, 3, 4, 5, 6, 7, 8, 9] rfl
    refine va_calli (va_runV (As := [.int (σ.1 3)]) (rest := [.ref (h 1)]) ⟨hx, hb, hml, hown, hts⟩ (c_X5_shown l dC dI cI cJ h _ hok) (cwV 1 hts (tb_gV tw_2_153 tw_2_155 tw_p_13 tw_1_6 tw_2_156) rfl rfl rfl (by decide +kernel) ⟨Nat.le_of_ble_eq_true rfl, Nat.le_of_ble_eq_true rfl⟩) (cpre_V (ci := 4) (q0 := 0) hK hPc hDc rfl rfl) rfl rfl hl.1 rfl (lv_room (Nat.le_of_ble_eq_true rfl)) dX5_move_186 ⟨Nat.le_of_ble_eq_true rfl, Nat.le_of_ble_eq_true rfl⟩) hS (fun q _ h => hFc q h) hFc (fun r26 u27 t H1 locs ht hvm hok hB hz1 hk1 hS => ?_)
    obtain ⟨hP, hD⟩ := cjoin_w ht hB hFc
    refine va_put (D := (dC, dI)) (ci := 4) (v := .int r26) (ty := .int) (C := RX5) (T := TX5) (N := 15) hx hb hts (fun w h => List.mem_cons_of_mem _ (in_X5 w h)) tyX5 tyX5_ok nmX5 hown hK hP hD hS 0 rfl rfl 1 (by decide) (hts _ (List.mem_cons_of_mem _ tw_1_149)) (fun _ h9 => h9) rfl (by decide +kernel) rfl rfl (Nat.le_of_ble_eq_true rfl) dX5_move_189 (fun H locs hP hD hS => ?_)
    have hP : va_P (dC, dI) vwCl (w_Proc h cI cJ (upd u27.1 1 r26, u27.2.1, u27.2.2.1, u27.2.2.2)) _ := hP
    have hD : va_D A (w_Proc h cI cJ (upd u27.1 1 r26, u27.2.1, u27.2.2.1, u27.2.2.2)) := hD
    refine lv_goto (tgt := 203) hx hb dX5_move_192 (by decide) ?_
    exact W.vret hx hb hr (fun t ht hW => ⟨⟨(upd u27.1 1 r26, u27.2.1, u27.2.2.1, u27.2.2.2), rfl, hok, by rw [ht]; exact hP, va_K.moved hW.alike hK, hD⟩, hS.F ht⟩) hS.2.2 dX5_move_203
  have hok := hok.2
  have hok := hok ⟨c1, c4, c7, c10, c13, c16, c19, c22, c25⟩
  have kz27 : ∀ k ∈ ([48, 49, 50, 51, 52, 53, 54, 55, 56] : List Int), (a1).toInt ≠ k := List.forall_mem_cons.mpr ⟨tb_ne c1 rfl, List.forall_mem_cons.mpr ⟨tb_ne c4 rfl, List.forall_mem_cons.mpr ⟨tb_ne c7 rfl, List.forall_mem_cons.mpr ⟨tb_ne c10 rfl, List.forall_mem_cons.mpr ⟨tb_ne c13 rfl, List.forall_mem_cons.mpr ⟨tb_ne c16 rfl, List.forall_mem_cons.mpr ⟨tb_ne c19 rfl, List.forall_mem_cons.mpr ⟨tb_ne c22 rfl, List.forall_mem_cons.mpr ⟨tb_ne c25 rfl, fun k h => absurd h List.not_mem_nil⟩⟩⟩⟩⟩⟩⟩⟩⟩
  refine tb_def (tgt := 195) (keys := [48, 49, 50, 51, 52, 53, 54, 55, 56]) hx hb dX5_move_1 kz27 (by decide) (by decide) ?_
  refine lv_aload_n hx hb dX5_move_195 rfl (lv_at hl 0 rfl) ?_
  refine lv_aload_n hx hb dX5_move_196 rfl (lv_at hl 0 rfl) ?_
  refine va_get (D := (dC, dI)) (ci := 4) (v := .int (σ.1 1)) (C := RX5) (T := TX5) (N := 15) hx hb hts (fun w h => List.mem_cons_of_mem _ (in_X5 w h)) hown hK hP 0 rfl rfl 1 (by decide) (hts _ (List.mem_cons_of_mem _ tw_1_149)) (fun _ h9 => h9) rfl dX5_move_197 ?_
  refine va_put (D := (dC, dI)) (ci := 4) (v := .int (σ.1 1)) (ty := .int) (C := RX5) (T := TX5) (N := 15) hx hb hts (fun w h => List.mem_cons_of_mem _ (in_X5 w h)) tyX5 tyX5_ok nmX5 hown hK hP hD hS 0 rfl rfl 3 (by decide) (hts _ (List.mem_cons_of_mem _ tw_1_153)) (fun _ h9 => h9) rfl (by decide +kernel) rfl rfl (Nat.le_of_ble_eq_true rfl) dX5_move_200 (fun H locs hP hD hS => ?_)
  have hP : va_P (dC, dI) vwCl (w_Proc h cI cJ (upd σ.1 3 (σ.1 1), σ.2.1, σ.2.2.1, σ.2.2.2)) _ := hP
  have hD : va_D A (w_Proc h cI cJ (upd σ.1 3 (σ.1 1), σ.2.1, σ.2.2.1, σ.2.2.2)) := hD
  exact W.vret hx hb hr (fun t ht hW => ⟨⟨(upd σ.1 3 (σ.1 1), σ.2.1, σ.2.2.1, σ.2.2.2), rfl, hok, by rw [ht]; exact hP, va_K.moved hW.alike hK, hD⟩, hS.F ht⟩) hS.2.2 dX5_move_203
def wp_X5_changeState (σ : S_Proc) (a1 : Int32) (Φ : S_Proc → Prop) : Prop := ((a1 = 64 → (wp_X5_mark σ 1 0 (fun u2 => Φ u2))) ∧ (a1 = 65 → (wp_X5_mark σ 1 1 (fun u4 => Φ u4))) ∧ (a1 = 66 → (wp_X5_mark σ 4 0 (fun u6 => Φ u6))) ∧ (a1 = 67 → (wp_X5_mark σ 4 1 (fun u8 => Φ u8))) ∧ (a1 = 68 → (wp_X5_mark σ 64 0 (fun u10 => Φ u10))) ∧ (a1 = 69 → (wp_X5_mark σ 8 0 (fun u12 => Φ u12))) ∧ (a1 = 70 → (wp_X5_mark σ 8 1 (fun u14 => Φ u14))) ∧ (a1 = 72 → (Φ (upd σ.1 6 1, σ.2.1, σ.2.2.1, σ.2.2.2))) ∧ (a1 = 73 → (Φ (upd σ.1 7 1, σ.2.1, σ.2.2.1, σ.2.2.2))) ∧ ((¬ a1 = 64 ∧ ¬ a1 = 65 ∧ ¬ a1 = 66 ∧ ¬ a1 = 67 ∧ ¬ a1 = 68 ∧ ¬ a1 = 69 ∧ ¬ a1 = 70 ∧ ¬ a1 = 72 ∧ ¬ a1 = 73) → (Φ σ)))
set_option maxHeartbeats 4000000 in
set_option maxRecDepth 100000 in
theorem c_X5_changeState (l : Launch) (dC : Nat → ClassId) (dI : Nat → Nat → Nat) (cI cJ : ClassId) (h : Nat → Nat) (sz : Nat) {σ : S_Proc} {a1 : Int32} {Φ : S_Proc → Prop} (hok : wp_X5_changeState σ a1 Φ) : Met l yX5_changeState wsX5_changeState ({ frames := 1, cells := 0, slots := 0, locals := 22 }) (va_Pc [.ref (h 1), .int a1] (cpre dC dI cI cJ (w_Proc h cI cJ σ) sz)) (va_Qv Φ (fun u => cpost dC dI cI cJ (va_A (w_Proc h cI cJ σ) sz) (w_Proc h cI cJ u)) (va_A (w_Proc h cI cJ σ) sz)) 0 0 (va_A (w_Proc h cI cJ σ) sz) := by
  refine Met.ofW (cc := cX5_changeState) (maxL := 2) (ret := none) (by decide) rfl ?_
  intro p e s m args below meth c s₁ B hml hv
  obtain ⟨rfl, hsz, hP, hK, hD0⟩ := hv
  have hx := B.exec
  have hb := B.bytes
  have hr := B.returns
  have hts := atoms_spec (ws := wsX5_changeState) B.pre
  have hown : s.vm.findClass RX5 = some m.cls := findClass_of_methodNamed B.named
  have hlocks := B.notSynchronized
  subst hsz
  have hD := hD0.self (sz := s.heap.size)
  generalize hAe : va_A (w_Proc h cI cJ σ) s.heap.size = A at hD ⊢
  have hA : ∀ q : Nat, s.heap.size ≤ q → A q := fun q h => by rw [← hAe]; exact Or.inr h
  clear hD0 hAe
  have hS : va_S A s.heap s.heap [] := va_S.rf
  have hl := lv_entry ([.ref (h 1), .int a1]) (n := 2) (Nat.le_of_ble_eq_true rfl)
  rw [lg_entry_eq]
  generalize (lg_sl ([.ref (h 1), .int a1]) ++ List.replicate (2 - (lg_sl ([.ref (h 1), .int a1])).length) Slot.unset).toArray = ls at hl ⊢
  have hl : lv_has ls 2 [(0, .ref (h 1)), (1, .int a1)] := hl
  unfold wp_X5_changeState at hok
  refine lv_iload_n hx hb dX5_changeState_0 rfl (lv_at hl 1 rfl) ?_
  by_cases c1 : a1 = 64
  · have hok := hok.1 c1
    refine lv_tableIn (tgt := 56) (off := 55) hx hb dX5_changeState_1 (by rw [c1]; decide) (by rw [c1]; decide) (by rw [c1]; decide) (by decide) ?_
    refine lv_aload_n hx hb dX5_changeState_56 rfl (lv_at hl 0 rfl) ?_
    refine lv_iconst (v := 1) hx hb dX5_changeState_57 (by decide) ?_
    refine lv_iconst (v := 0) hx hb dX5_changeState_58 (by decide) ?_
    have hPc := hP
    have hDc := hD
    have hFc := va_free (wc := w_Proc h cI cJ σ) hD hS hA [0, 1, 2, 3, 4, 5, 6, 7, 8, 9] rfl
    refine va_callv (va_runV (As := [.int 1, .int 0]) (rest := []) ⟨hx, hb, hml, hown, hts⟩ (c_X5_mark l dC dI cI cJ h _ hok) (cwV 2 hts (tb_gV tw_2_161 tw_2_163 tw_p_15 tw_1_6 tw_2_164) rfl rfl rfl (by decide +kernel) ⟨Nat.le_of_ble_eq_true rfl, Nat.le_of_ble_eq_true rfl⟩) (cpre_V (ci := 4) (q0 := 0) hK hPc hDc rfl rfl) rfl rfl hl.1 rfl (lv_room (Nat.le_of_ble_eq_true rfl)) dX5_changeState_59 ⟨Nat.le_of_ble_eq_true rfl, Nat.le_of_ble_eq_true rfl⟩) hS (fun q _ h => hFc q h) hFc (fun u2 t H1 locs ht hvm hok hB hz1 hk1 hS => ?_)
    obtain ⟨hP, hD⟩ := cjoin_w ht hB hFc
    refine lv_goto (tgt := 138) hx hb dX5_changeState_62 (by decide) ?_
    exact W.vret hx hb hr (fun t ht hW => ⟨⟨u2, rfl, hok, by rw [ht]; exact hP, va_K.moved hW.alike hK, hD⟩, hS.F ht⟩) hS.2.2 dX5_changeState_138
  have hok := hok.2
  by_cases c3 : a1 = 65
  · have hok := hok.1 c3
    refine lv_tableIn (tgt := 65) (off := 64) hx hb dX5_changeState_1 (by rw [c3]; decide) (by rw [c3]; decide) (by rw [c3]; decide) (by decide) ?_
    refine lv_aload_n hx hb dX5_changeState_65 rfl (lv_at hl 0 rfl) ?_
    refine lv_iconst (v := 1) hx hb dX5_changeState_66 (by decide) ?_
    refine lv_iconst (v := 1) hx hb dX5_changeState_67 (by decide) ?_
    have hPc := hP
    have hDc := hD
    have hFc := va_free (wc := w_Proc h cI cJ σ) hD hS hA [0, 1, 2, 3, 4, 5, 6, 7, 8, 9] rfl
    refine va_callv (va_runV (As := [.int 1, .int 1]) (rest := []) ⟨hx, hb, hml, hown, hts⟩ (c_X5_mark l dC dI cI cJ h _ hok) (cwV 2 hts (tb_gV tw_2_161 tw_2_163 tw_p_15 tw_1_6 tw_2_164) rfl rfl rfl (by decide +kernel) ⟨Nat.le_of_ble_eq_true rfl, Nat.le_of_ble_eq_true rfl⟩) (cpre_V (ci := 4) (q0 := 0) hK hPc hDc rfl rfl) rfl rfl hl.1 rfl (lv_room (Nat.le_of_ble_eq_true rfl)) dX5_changeState_68 ⟨Nat.le_of_ble_eq_true rfl, Nat.le_of_ble_eq_true rfl⟩) hS (fun q _ h => hFc q h) hFc (fun u4 t H1 locs ht hvm hok hB hz1 hk1 hS => ?_)
    obtain ⟨hP, hD⟩ := cjoin_w ht hB hFc
    refine lv_goto (tgt := 138) hx hb dX5_changeState_71 (by decide) ?_
    exact W.vret hx hb hr (fun t ht hW => ⟨⟨u4, rfl, hok, by rw [ht]; exact hP, va_K.moved hW.alike hK, hD⟩, hS.F ht⟩) hS.2.2 dX5_changeState_138
  have hok := hok.2
  by_cases c5 : a1 = 66
  · have hok := hok.1 c5
    refine lv_tableIn (tgt := 74) (off := 73) hx hb dX5_changeState_1 (by rw [c5]; decide) (by rw [c5]; decide) (by rw [c5]; decide) (by decide) ?_
    refine lv_aload_n hx hb dX5_changeState_74 rfl (lv_at hl 0 rfl) ?_
    refine lv_iconst (v := 4) hx hb dX5_changeState_75 (by decide) ?_
    refine lv_iconst (v := 0) hx hb dX5_changeState_76 (by decide) ?_
    have hPc := hP
    have hDc := hD
    have hFc := va_free (wc := w_Proc h cI cJ σ) hD hS hA [0, 1, 2, 3, 4, 5, 6, 7, 8, 9] rfl
    refine va_callv (va_runV (As := [.int 4, .int 0]) (rest := []) ⟨hx, hb, hml, hown, hts⟩ (c_X5_mark l dC dI cI cJ h _ hok) (cwV 2 hts (tb_gV tw_2_161 tw_2_163 tw_p_15 tw_1_6 tw_2_164) rfl rfl rfl (by decide +kernel) ⟨Nat.le_of_ble_eq_true rfl, Nat.le_of_ble_eq_true rfl⟩) (cpre_V (ci := 4) (q0 := 0) hK hPc hDc rfl rfl) rfl rfl hl.1 rfl (lv_room (Nat.le_of_ble_eq_true rfl)) dX5_changeState_77 ⟨Nat.le_of_ble_eq_true rfl, Nat.le_of_ble_eq_true rfl⟩) hS (fun q _ h => hFc q h) hFc (fun u6 t H1 locs ht hvm hok hB hz1 hk1 hS => ?_)
    obtain ⟨hP, hD⟩ := cjoin_w ht hB hFc
    refine lv_goto (tgt := 138) hx hb dX5_changeState_80 (by decide) ?_
    exact W.vret hx hb hr (fun t ht hW => ⟨⟨u6, rfl, hok, by rw [ht]; exact hP, va_K.moved hW.alike hK, hD⟩, hS.F ht⟩) hS.2.2 dX5_changeState_138
  have hok := hok.2
  by_cases c7 : a1 = 67
  · have hok := hok.1 c7
    refine lv_tableIn (tgt := 83) (off := 82) hx hb dX5_changeState_1 (by rw [c7]; decide) (by rw [c7]; decide) (by rw [c7]; decide) (by decide) ?_
    refine lv_aload_n hx hb dX5_changeState_83 rfl (lv_at hl 0 rfl) ?_
    refine lv_iconst (v := 4) hx hb dX5_changeState_84 (by decide) ?_
    refine lv_iconst (v := 1) hx hb dX5_changeState_85 (by decide) ?_
    have hPc := hP
    have hDc := hD
    have hFc := va_free (wc := w_Proc h cI cJ σ) hD hS hA [0, 1, 2, 3, 4, 5, 6, 7, 8, 9] rfl
    refine va_callv (va_runV (As := [.int 4, .int 1]) (rest := []) ⟨hx, hb, hml, hown, hts⟩ (c_X5_mark l dC dI cI cJ h _ hok) (cwV 2 hts (tb_gV tw_2_161 tw_2_163 tw_p_15 tw_1_6 tw_2_164) rfl rfl rfl (by decide +kernel) ⟨Nat.le_of_ble_eq_true rfl, Nat.le_of_ble_eq_true rfl⟩) (cpre_V (ci := 4) (q0 := 0) hK hPc hDc rfl rfl) rfl rfl hl.1 rfl (lv_room (Nat.le_of_ble_eq_true rfl)) dX5_changeState_86 ⟨Nat.le_of_ble_eq_true rfl, Nat.le_of_ble_eq_true rfl⟩) hS (fun q _ h => hFc q h) hFc (fun u8 t H1 locs ht hvm hok hB hz1 hk1 hS => ?_)
    obtain ⟨hP, hD⟩ := cjoin_w ht hB hFc
    refine lv_goto (tgt := 138) hx hb dX5_changeState_89 (by decide) ?_
    exact W.vret hx hb hr (fun t ht hW => ⟨⟨u8, rfl, hok, by rw [ht]; exact hP, va_K.moved hW.alike hK, hD⟩, hS.F ht⟩) hS.2.2 dX5_changeState_138
  have hok := hok.2
  by_cases c9 : a1 = 68
  · have hok := hok.1 c9
    refine lv_tableIn (tgt := 92) (off := 91) hx hb dX5_changeState_1 (by rw [c9]; decide) (by rw [c9]; decide) (by rw [c9]; decide) (by decide) ?_
    refine lv_aload_n hx hb dX5_changeState_92 rfl (lv_at hl 0 rfl) ?_
    refine lv_bipush (v := 64) hx hb dX5_changeState_93 (by decide) ?_
    refine lv_iconst (v := 0) hx hb dX5_changeState_95 (by decide) ?_
    have hPc := hP
    have hDc := hD
    have hFc := va_free (wc := w_Proc h cI cJ σ) hD hS hA [0, 1, 2, 3, 4, 5, 6, 7, 8, 9] rfl
    refine va_callv (va_runV (As := [.int 64, .int 0]) (rest := []) ⟨hx, hb, hml, hown, hts⟩ (c_X5_mark l dC dI cI cJ h _ hok) (cwV 2 hts (tb_gV tw_2_161 tw_2_163 tw_p_15 tw_1_6 tw_2_164) rfl rfl rfl (by decide +kernel) ⟨Nat.le_of_ble_eq_true rfl, Nat.le_of_ble_eq_true rfl⟩) (cpre_V (ci := 4) (q0 := 0) hK hPc hDc rfl rfl) rfl rfl hl.1 rfl (lv_room (Nat.le_of_ble_eq_true rfl)) dX5_changeState_96 ⟨Nat.le_of_ble_eq_true rfl, Nat.le_of_ble_eq_true rfl⟩) hS (fun q _ h => hFc q h) hFc (fun u10 t H1 locs ht hvm hok hB hz1 hk1 hS => ?_)
    obtain ⟨hP, hD⟩ := cjoin_w ht hB hFc
    refine lv_goto (tgt := 138) hx hb dX5_changeState_99 (by decide) ?_
    exact W.vret hx hb hr (fun t ht hW => ⟨⟨u10, rfl, hok, by rw [ht]; exact hP, va_K.moved hW.alike hK, hD⟩, hS.F ht⟩) hS.2.2 dX5_changeState_138
  have hok := hok.2
  by_cases c11 : a1 = 69
  · have hok := hok.1 c11
    refine lv_tableIn (tgt := 102) (off := 101) hx hb dX5_changeState_1 (by rw [c11]; decide) (by rw [c11]; decide) (by rw [c11]; decide) (by decide) ?_
    refine lv_aload_n hx hb dX5_changeState_102 rfl (lv_at hl 0 rfl) ?_
    refine lv_bipush (v := 8) hx hb dX5_changeState_103 (by decide) ?_
    refine lv_iconst (v := 0) hx hb dX5_changeState_105 (by decide) ?_
    have hPc := hP
    have hDc := hD
    have hFc := va_free (wc := w_Proc h cI cJ σ) hD hS hA [0, 1, 2, 3, 4, 5, 6, 7, 8, 9] rfl
    refine va_callv (va_runV (As := [.int 8, .int 0]) (rest := []) ⟨hx, hb, hml, hown, hts⟩ (c_X5_mark l dC dI cI cJ h _ hok) (cwV 2 hts (tb_gV tw_2_161 tw_2_163 tw_p_15 tw_1_6 tw_2_164) rfl rfl rfl (by decide +kernel) ⟨Nat.le_of_ble_eq_true rfl, Nat.le_of_ble_eq_true rfl⟩) (cpre_V (ci := 4) (q0 := 0) hK hPc hDc rfl rfl) rfl rfl hl.1 rfl (lv_room (Nat.le_of_ble_eq_true rfl)) dX5_changeState_106 ⟨Nat.le_of_ble_eq_true rfl, Nat.le_of_ble_eq_true rfl⟩) hS (fun q _ h => hFc q h) hFc (fun u12 t H1 locs ht hvm hok hB hz1 hk1 hS => ?_)
    obtain ⟨hP, hD⟩ := cjoin_w ht hB hFc
    refine lv_goto (tgt := 138) hx hb dX5_changeState_109 (by decide) ?_
    exact W.vret hx hb hr (fun t ht hW => ⟨⟨u12, rfl, hok, by rw [ht]; exact hP, va_K.moved hW.alike hK, hD⟩, hS.F ht⟩) hS.2.2 dX5_changeState_138
  have hok := hok.2
  by_cases c13 : a1 = 70
  · have hok := hok.1 c13
    refine lv_tableIn (tgt := 112) (off := 111) hx hb dX5_changeState_1 (by rw [c13]; decide) (by rw [c13]; decide) (by rw [c13]; decide) (by decide) ?_
    refine lv_aload_n hx hb dX5_changeState_112 rfl (lv_at hl 0 rfl) ?_
    refine lv_bipush (v := 8) hx hb dX5_changeState_113 (by decide) ?_
    refine lv_iconst (v := 1) hx hb dX5_changeState_115 (by decide) ?_
    have hPc := hP
    have hDc := hD
    have hFc := va_free (wc := w_Proc h cI cJ σ) hD hS hA [0, 1, 2, 3, 4, 5, 6, 7, 8, 9] rfl
    refine va_callv (va_runV (As := [.int 8, .int 1]) (rest := []) ⟨hx, hb, hml, hown, hts⟩ (c_X5_mark l dC dI cI cJ h _ hok) (cwV 2 hts (tb_gV tw_2_161 tw_2_163 tw_p_15 tw_1_6 tw_2_164) rfl rfl rfl (by decide +kernel) ⟨Nat.le_of_ble_eq_true rfl, Nat.le_of_ble_eq_true rfl⟩) (cpre_V (ci := 4) (q0 := 0) hK hPc hDc rfl rfl) rfl rfl hl.1 rfl (lv_room (Nat.le_of_ble_eq_true rfl)) dX5_changeState_116 ⟨Nat.le_of_ble_eq_true rfl, Nat.le_of_ble_eq_true rfl⟩) hS (fun q _ h => hFc q h) hFc (fun u14 t H1 locs ht hvm hok hB hz1 hk1 hS => ?_)
    obtain ⟨hP, hD⟩ := cjoin_w ht hB hFc
    refine lv_goto (tgt := 138) hx hb dX5_changeState_119 (by decide) ?_
    exact W.vret hx hb hr (fun t ht hW => ⟨⟨u14, rfl, hok, by rw [ht]; exact hP, va_K.moved hW.alike hK, hD⟩, hS.F ht⟩) hS.2.2 dX5_changeState_138
  have hok := hok.2
  by_cases c15 : a1 = 72
  · have hok := hok.1 c15
    refine lv_tableIn (tgt := 122) (off := 121) hx hb dX5_changeState_1 (by rw [c15]; decide) (by rw [c15]; decide) (by rw [c15]; decide) (by decide) ?_
    refine lv_aload_n hx hb dX5_changeState_122 rfl (lv_at hl 0 rfl) ?_
    refine lv_iconst (v := 1) hx hb dX5_changeState_123 (by decide) ?_
    refine va_put (D := (dC, dI)) (ci := 4) (v := .int 1) (ty := .boolean) (C := RX5) (T := TX5) (N := 15) hx hb hts (fun w h => List.mem_cons_of_mem _ (in_X5 w h)) tyX5 tyX5_ok nmX5 hown hK hP hD hS 0 rfl rfl 6 (by decide) (hts _ (List.mem_cons_of_mem _ tw_1_159)) (fun _ h9 => h9) rfl (by decide +kernel) rfl rfl (Nat.le_of_ble_eq_true rfl) dX5_changeState_124 (fun H locs hP hD hS => ?_)
    have hP : va_P (dC, dI) vwCl (w_Proc h cI cJ (upd σ.1 6 1, σ.2.1, σ.2.2.1, σ.2.2.2)) _ := hP
    have hD : va_D A (w_Proc h cI cJ (upd σ.1 6 1, σ.2.1, σ.2.2.1, σ.2.2.2)) := hD
    refine lv_goto (tgt := 138) hx hb dX5_changeState_127 (by decide) ?_
    exact W.vret hx hb hr (fun t ht hW => ⟨⟨(upd σ.1 6 1, σ.2.1, σ.2.2.1, σ.2.2.2), rfl, hok, by rw [ht]; exact hP, va_K.moved hW.alike hK, hD⟩, hS.F ht⟩) hS.2.2 dX5_changeState_138
  have hok := hok.2
  by_cases c16 : a1 = 73
  · have hok := hok.1 c16
    refine lv_tableIn (tgt := 130) (off := 129) hx hb dX5_changeState_1 (by rw [c16]; decide) (by rw [c16]; decide) (by rw [c16]; decide) (by decide) ?_
    refine lv_aload_n hx hb dX5_changeState_130 rfl (lv_at hl 0 rfl) ?_
    refine lv_iconst (v := 1) hx hb dX5_changeState_131 (by decide) ?_
    refine va_put (D := (dC, dI)) (ci := 4) (v := .int 1) (ty := .boolean) (C := RX5) (T := TX5) (N := 15) hx hb hts (fun w h => List.mem_cons_of_mem _ (in_X5 w h)) tyX5 tyX5_ok nmX5 hown hK hP hD hS 0 rfl rfl 7 (by decide) (hts _ (List.mem_cons_of_mem _ tw_1_161)) (fun _ h9 => h9) rfl (by decide +kernel) rfl rfl (Nat.le_of_ble_eq_true rfl) dX5_changeState_132 (fun H locs hP hD hS => ?_)
    have hP : va_P (dC, dI) vwCl (w_Proc h cI cJ (upd σ.1 7 1, σ.2.1, σ.2.2.1, σ.2.2.2)) _ := hP
    have hD : va_D A (w_Proc h cI cJ (upd σ.1 7 1, σ.2.1, σ.2.2.1, σ.2.2.2)) := hD
    refine lv_goto (tgt := 138) hx hb dX5_changeState_135 (by decide) ?_
    exact W.vret hx hb hr (fun t ht hW => ⟨⟨(upd σ.1 7 1, σ.2.1, σ.2.2.1, σ.2.2.2), rfl, hok, by rw [ht]; exact hP, va_K.moved hW.alike hK, hD⟩, hS.F ht⟩) hS.2.2 dX5_changeState_138
  have hok := hok.2
  have hok := hok ⟨c1, c3, c5, c7, c9, c11, c13, c15, c16⟩
  have kz16 : ∀ k ∈ ([64, 65, 66, 67, 68, 69, 70, 72, 73] : List Int), (a1).toInt ≠ k := List.forall_mem_cons.mpr ⟨tb_ne c1 rfl, List.forall_mem_cons.mpr ⟨tb_ne c3 rfl, List.forall_mem_cons.mpr ⟨tb_ne c5 rfl, List.forall_mem_cons.mpr ⟨tb_ne c7 rfl, List.forall_mem_cons.mpr ⟨tb_ne c9 rfl, List.forall_mem_cons.mpr ⟨tb_ne c11 rfl, List.forall_mem_cons.mpr ⟨tb_ne c13 rfl, List.forall_mem_cons.mpr ⟨tb_ne c15 rfl, List.forall_mem_cons.mpr ⟨tb_ne c16 rfl, fun k h => absurd h List.not_mem_nil⟩⟩⟩⟩⟩⟩⟩⟩⟩
  refine tb_def (tgt := 138) (keys := [64, 65, 66, 67, 68, 69, 70, 72, 73]) hx hb dX5_changeState_1 kz16 (by decide) (by decide) ?_
  exact W.vret hx hb hr (fun t ht hW => ⟨⟨σ, rfl, hok, by rw [ht]; exact hP, va_K.moved hW.alike hK, hD⟩, hS.F ht⟩) hS.2.2 dX5_changeState_138
def wp_X5_pull (σ : S_Proc) (Φ : Int32 → S_Proc → Prop) : Prop := ∀ v1 : Int32, v1 = (256 : Int32) + (((σ.1 3) + (1 : Int32)) &&& (255 : Int32)) → wp_X0_read σ.2.2.2 v1 (fun r2 u3 => Φ r2 (upd σ.1 3 (((σ.1 3) + (1 : Int32)) &&& (255 : Int32)), σ.2.1, σ.2.2.1, u3))
set_option maxHeartbeats 4000000 in
set_option maxRecDepth 100000 in
theorem c_X5_pull (l : Launch) (dC : Nat → ClassId) (dI : Nat → Nat → Nat) (cI cJ : ClassId) (h : Nat → Nat) (sz : Nat) {σ : S_Proc} {Φ : Int32 → S_Proc → Prop} (hok : wp_X5_pull σ Φ) : Met l yX5_pull wsX5_pull ({ frames := 3, cells := 0, slots := 0, locals := 64 }) (va_Pc [.ref (h 1)] (cpre dC dI cI cJ (w_Proc h cI cJ σ) sz)) (va_Qi Φ (fun u => cpost dC dI cI cJ (va_A (w_Proc h cI cJ σ) sz) (w_Proc h cI cJ u)) (va_A (w_Proc h cI cJ σ) sz)) 0 0 (va_A (w_Proc h cI cJ σ) sz) := by
  refine Met.ofW (cc := cX5_pull) (maxL := 1) (ret := (some .int)) (by decide) rfl ?_
  intro p e s m args below meth c s₁ B hml hv
  obtain ⟨rfl, hsz, hP, hK, hD0⟩ := hv
  have hx := B.exec
  have hb := B.bytes
  have hr := B.returns
  have hts := atoms_spec (ws := wsX5_pull) B.pre
  have hown : s.vm.findClass RX5 = some m.cls := findClass_of_methodNamed B.named
  have hlocks := B.notSynchronized
  subst hsz
  have hD := hD0.self (sz := s.heap.size)
  generalize hAe : va_A (w_Proc h cI cJ σ) s.heap.size = A at hD ⊢
  have hA : ∀ q : Nat, s.heap.size ≤ q → A q := fun q h => by rw [← hAe]; exact Or.inr h
  clear hD0 hAe
  have hS : va_S A s.heap s.heap [] := va_S.rf
  have hl := lv_entry ([.ref (h 1)]) (n := 1) (Nat.le_of_ble_eq_true rfl)
  rw [lg_entry_eq]
  generalize (lg_sl ([.ref (h 1)]) ++ List.replicate (1 - (lg_sl ([.ref (h 1)])).length) Slot.unset).toArray = ls at hl ⊢
  have hl : lv_has ls 1 [(0, .ref (h 1))] := hl
  unfold wp_X5_pull at hok
  refine lv_aload_n hx hb dX5_pull_0 rfl (lv_at hl 0 rfl) ?_
  refine lv_aload_n hx hb dX5_pull_1 rfl (lv_at hl 0 rfl) ?_
  refine va_get (D := (dC, dI)) (ci := 4) (v := .int (σ.1 3)) (C := RX5) (T := TX5) (N := 15) hx hb hts (fun w h => List.mem_cons_of_mem _ (in_X5 w h)) hown hK hP 0 rfl rfl 3 (by decide) (hts _ (List.mem_cons_of_mem _ tw_1_153)) (fun _ h9 => h9) rfl dX5_pull_2 ?_
  refine lv_iconst (v := 1) hx hb dX5_pull_5 (by decide) ?_
  refine lv_iadd hx hb dX5_pull_6 ?_
  refine lv_sipush (v := 255) hx hb dX5_pull_7 (by decide) ?_
  refine lv_iand hx hb dX5_pull_10 ?_
  refine va_put (D := (dC, dI)) (ci := 4) (v := .int (((σ.1 3) + (1 : Int32)) &&& (255 : Int32))) (ty := .int) (C := RX5) (T := TX5) (N := 15) hx hb hts (fun w h => List.mem_cons_of_mem _ (in_X5 w h)) tyX5 tyX5_ok nmX5 hown hK hP hD hS 0 rfl rfl 3 (by decide) (hts _ (List.mem_cons_of_mem _ tw_1_153)) (fun _ h9 => h9) rfl (by decide +kernel) rfl rfl (Nat.le_of_ble_eq_true rfl) dX5_pull_11 (fun H locs hP hD hS => ?_)
  have hP : va_P (dC, dI) vwCl (w_Proc h cI cJ (upd σ.1 3 (((σ.1 3) + (1 : Int32)) &&& (255 : Int32)), σ.2.1, σ.2.2.1, σ.2.2.2)) _ := hP
  have hD : va_D A (w_Proc h cI cJ (upd σ.1 3 (((σ.1 3) + (1 : Int32)) &&& (255 : Int32)), σ.2.1, σ.2.2.1, σ.2.2.2)) := hD
  refine lv_aload_n hx hb dX5_pull_14 rfl (lv_at hl 0 rfl) ?_
  refine va_get (D := (dC, dI)) (ci := 4) (v := .ref (h 4)) (C := RX5) (T := TX5) (N := 15) hx hb hts (fun w h => List.mem_cons_of_mem _ (in_X5 w h)) hown hK hP 0 rfl rfl 12 (by decide) (hts _ (List.mem_cons_of_mem _ tw_1_171)) (fun _ h9 => h9) rfl dX5_pull_15 ?_
  refine lv_sipush (v := 256) hx hb dX5_pull_18 (by decide) ?_
  refine lv_aload_n hx hb dX5_pull_21 rfl (lv_at hl 0 rfl) ?_
  refine va_get (D := (dC, dI)) (ci := 4) (v := .int (((σ.1 3) + (1 : Int32)) &&& (255 : Int32))) (C := RX5) (T := TX5) (N := 15) hx hb hts (fun w h => List.mem_cons_of_mem _ (in_X5 w h)) hown hK hP 0 rfl rfl 3 (by decide) (hts _ (List.mem_cons_of_mem _ tw_1_153)) (fun _ h9 => h9) rfl dX5_pull_22 ?_
  refine lv_iadd hx hb dX5_pull_25 ?_
  refine lv_topi (fun v1 ev1 => ?_)
  have hok := hok v1 ev1
  have hPc := hP.sub (ws' := w_Board h cI cJ σ.2.2.2) [3, 4, 5, 6, 7, 8, 9] rfl
  have hDc := hD.sub (ws' := w_Board h cI cJ σ.2.2.2) [3, 4, 5, 6, 7, 8, 9] (by decide) rfl
  have hFc := va_free (wc := w_Board h cI cJ σ.2.2.2) hD hS hA [3, 4, 5, 6, 7, 8, 9] rfl
  refine va_calli (va_runV (As := [.int v1]) (rest := []) ⟨hx, hb, hml, hown, hts⟩ (c_X0_read l dC dI cI cJ h _ hok) (cwV 1 hts (tb_gV tw_2_14 tw_2_15 tw_2_16 tw_1_2 tw_2_17) rfl rfl rfl (by decide +kernel) ⟨Nat.le_of_ble_eq_true rfl, Nat.le_of_ble_eq_true rfl⟩) (cpre_V (ci := 0) (q0 := 0) hK hPc hDc rfl rfl) rfl rfl hl.1 rfl (lv_room (Nat.le_of_ble_eq_true rfl)) dX5_pull_26 ⟨Nat.le_of_ble_eq_true rfl, Nat.le_of_ble_eq_true rfl⟩) hS (fun q _ h => hFc q h) hFc (fun r2 u3 t H1 locs ht hvm hok hB hz1 hk1 hS => ?_)
  obtain ⟨hP, hD⟩ := cjoin ht hP hD [3, 4, 5, 6, 7, 8, 9] [0, 1, 2] rfl rfl (by decide) (by decide) hk1 hFc hB
  have hP := hP.sub (ws' := w_Proc h cI cJ (upd σ.1 3 (((σ.1 3) + (1 : Int32)) &&& (255 : Int32)), σ.2.1, σ.2.2.1, u3)) [0, 1, 2, 3, 4, 5, 6, 7, 8, 9] rfl
  have hD := hD.sub (ws' := w_Proc h cI cJ (upd σ.1 3 (((σ.1 3) + (1 : Int32)) &&& (255 : Int32)), σ.2.1, σ.2.2.1, u3)) [0, 1, 2, 3, 4, 5, 6, 7, 8, 9] (by decide) rfl
  exact W.iret (v := r2) hx hb hr (fun t ht hW => ⟨⟨r2, (upd σ.1 3 (((σ.1 3) + (1 : Int32)) &&& (255 : Int32)), σ.2.1, σ.2.2.1, u3), rfl, hok, by rw [ht]; exact hP, va_K.moved hW.alike hK, hD⟩, hS.F ht⟩) hS.2.2 dX5_pull_29
def wp_X5_pushOrPull (σ : S_Proc) (a1 : Int32) (Φ : S_Proc → Prop) : Prop := ((a1 = 80 → (wp_X5_push σ (σ.1 0) (fun u2 => Φ u2))) ∧ (a1 = 81 → (wp_X5_push σ (σ.1 1) (fun u4 => Φ u4))) ∧ (a1 = 82 → (wp_X5_push σ (σ.1 2) (fun u6 => Φ u6))) ∧ (a1 = 83 → (wp_X5_push σ (σ.1 4) (fun u8 => Φ u8))) ∧ (a1 = 84 → (wp_X5_pull σ (fun r10 u11 => wp_X5_shown u11 r10 (fun r12 u13 => Φ (upd u13.1 0 r12, u13.2.1, u13.2.2.1, u13.2.2.2))))) ∧ (a1 = 85 → (wp_X5_pull σ (fun r15 u16 => wp_X5_shown u16 r15 (fun r17 u18 => Φ (upd u18.1 1 r17, u18.2.1, u18.2.2.1, u18.2.2.2))))) ∧ (a1 = 86 → (wp_X5_pull σ (fun r20 u21 => wp_X5_shown u21 r20 (fun r22 u23 => Φ (upd u23.1 2 r22, u23.2.1, u23.2.2.1, u23.2.2.2))))) ∧ ((¬ a1 = 80 ∧ ¬ a1 = 81 ∧ ¬ a1 = 82 ∧ ¬ a1 = 83 ∧ ¬ a1 = 84 ∧ ¬ a1 = 85 ∧ ¬ a1 = 86) → (wp_X5_pull σ (fun r24 u25 => Φ (upd u25.1 4 (r24 ||| (48 : Int32)), u25.2.1, u25.2.2.1, u25.2.2.2)))))
set_option maxHeartbeats 4000000 in
set_option maxRecDepth 100000 in
theorem c_X5_pushOrPull (l : Launch) (dC : Nat → ClassId) (dI : Nat → Nat → Nat) (cI cJ : ClassId) (h : Nat → Nat) (sz : Nat) {σ : S_Proc} {a1 : Int32} {Φ : S_Proc → Prop} (hok : wp_X5_pushOrPull σ a1 Φ) : Met l yX5_pushOrPull wsX5_pushOrPull ({ frames := 4, cells := 0, slots := 0, locals := 84 }) (va_Pc [.ref (h 1), .int a1] (cpre dC dI cI cJ (w_Proc h cI cJ σ) sz)) (va_Qv Φ (fun u => cpost dC dI cI cJ (va_A (w_Proc h cI cJ σ) sz) (w_Proc h cI cJ u)) (va_A (w_Proc h cI cJ σ) sz)) 0 0 (va_A (w_Proc h cI cJ σ) sz) := by
  refine Met.ofW (cc := cX5_pushOrPull) (maxL := 2) (ret := none) (by decide) rfl ?_
  intro p e s m args below meth c s₁ B hml hv
  obtain ⟨rfl, hsz, hP, hK, hD0⟩ := hv
  have hx := B.exec
  have hb := B.bytes
  have hr := B.returns
  have hts := atoms_spec (ws := wsX5_pushOrPull) B.pre
  have hown : s.vm.findClass RX5 = some m.cls := findClass_of_methodNamed B.named
  have hlocks := B.notSynchronized
  subst hsz
  have hD := hD0.self (sz := s.heap.size)
  generalize hAe : va_A (w_Proc h cI cJ σ) s.heap.size = A at hD ⊢
  have hA : ∀ q : Nat, s.heap.size ≤ q → A q := fun q h => by rw [← hAe]; exact Or.inr h
  clear hD0 hAe
  have hS : va_S A s.heap s.heap [] := va_S.rf
  have hl := lv_entry ([.ref (h 1), .int a1]) (n := 2) (Nat.le_of_ble_eq_true rfl)
  rw [lg_entry_eq]
  generalize (lg_sl ([.ref (h 1), .int a1]) ++ List.replicate (2 - (lg_sl ([.ref (h 1), .int a1])).length) Slot.unset).toArray = ls at hl ⊢
  have hl : lv_has ls 2 [(0, .ref (h 1)), (1, .int a1)] := hl
  unfold wp_X5_pushOrPull at hok
  refine lv_iload_n hx hb dX5_pushOrPull_0 rfl (lv_at hl 1 rfl) ?_
  by_cases c1 : a1 = 80
  · have hok := hok.1 c1
    refine lv_tableIn (tgt := 44) (off := 43) hx hb dX5_pushOrPull_1 (by rw [c1]; decide) (by rw [c1]; decide) (by rw [c1]; decide) (by decide) ?_
    refine lv_aload_n hx hb dX5_pushOrPull_44 rfl (lv_at hl 0 rfl) ?_
    refine lv_aload_n hx hb dX5_pushOrPull_45 rfl (lv_at hl 0 rfl) ?_
    refine va_get (D := (dC, dI)) (ci := 4) (v := .int (σ.1 0)) (C := RX5) (T := TX5) (N := 15) hx hb hts (fun w h => List.mem_cons_of_mem _ (in_X5 w h)) hown hK hP 0 rfl rfl 0 (by decide) (hts _ (List.mem_cons_of_mem _ tw_1_148)) (fun _ h9 => h9) rfl dX5_pushOrPull_46 ?_
    have hPc := hP
    have hDc := hD
    have hFc := va_free (wc := w_Proc h cI cJ σ) hD hS hA [0, 1, 2, 3, 4, 5, 6, 7, 8, 9] rfl
    refine va_callv (va_runV (As := [.int (σ.1 0)]) (rest := []) ⟨hx, hb, hml, hown, hts⟩ (c_X5_push l dC dI cI cJ h _ hok) (cwV 1 hts (tb_gV tw_2_92 tw_2_94 tw_p_6 tw_1_6 tw_2_95) rfl rfl rfl (by decide +kernel) ⟨Nat.le_of_ble_eq_true rfl, Nat.le_of_ble_eq_true rfl⟩) (cpre_V (ci := 4) (q0 := 0) hK hPc hDc rfl rfl) rfl rfl hl.1 rfl (lv_room (Nat.le_of_ble_eq_true rfl)) dX5_pushOrPull_49 ⟨Nat.le_of_ble_eq_true rfl, Nat.le_of_ble_eq_true rfl⟩) hS (fun q _ h => hFc q h) hFc (fun u2 t H1 locs ht hvm hok hB hz1 hk1 hS => ?_)
    obtain ⟨hP, hD⟩ := cjoin_w ht hB hFc
    refine lv_goto (tgt := 144) hx hb dX5_pushOrPull_52 (by decide) ?_
    exact W.vret hx hb hr (fun t ht hW => ⟨⟨u2, rfl, hok, by rw [ht]; exact hP, va_K.moved hW.alike hK, hD⟩, hS.F ht⟩) hS.2.2 dX5_pushOrPull_144
  have hok := hok.2
  by_cases c3 : a1 = 81
  · have hok := hok.1 c3
    refine lv_tableIn (tgt := 55) (off := 54) hx hb dX5_pushOrPull_1 (by rw [c3]; decide) (by rw [c3]; decide) (by rw [c3]; decide) (by decide) ?_
    refine lv_aload_n hx hb dX5_pushOrPull_55 rfl (lv_at hl 0 rfl) ?_
    refine lv_aload_n hx hb dX5_pushOrPull_56 rfl (lv_at hl 0 rfl) ?_
    refine va_get (D := (dC, dI)) (ci := 4) (v := .int (σ.1 1)) (C := RX5) (T := TX5) (N := 15) hx hb hts (fun w h => List.mem_cons_of_mem _ (in_X5 w h)) hown hK hP 0 rfl rfl 1 (by decide) (hts _ (List.mem_cons_of_mem _ tw_1_149)) (fun _ h9 => h9) rfl dX5_pushOrPull_57 ?_
    have hPc := hP
    have hDc := hD
    have hFc := va_free (wc := w_Proc h cI cJ σ) hD hS hA [0, 1, 2, 3, 4, 5, 6, 7, 8, 9] rfl
    refine va_callv (va_runV (As := [.int (σ.1 1)]) (rest := []) ⟨hx, hb, hml, hown, hts⟩ (c_X5_push l dC dI cI cJ h _ hok) (cwV 1 hts (tb_gV tw_2_92 tw_2_94 tw_p_6 tw_1_6 tw_2_95) rfl rfl rfl (by decide +kernel) ⟨Nat.le_of_ble_eq_true rfl, Nat.le_of_ble_eq_true rfl⟩) (cpre_V (ci := 4) (q0 := 0) hK hPc hDc rfl rfl) rfl rfl hl.1 rfl (lv_room (Nat.le_of_ble_eq_true rfl)) dX5_pushOrPull_60 ⟨Nat.le_of_ble_eq_true rfl, Nat.le_of_ble_eq_true rfl⟩) hS (fun q _ h => hFc q h) hFc (fun u4 t H1 locs ht hvm hok hB hz1 hk1 hS => ?_)
    obtain ⟨hP, hD⟩ := cjoin_w ht hB hFc
    refine lv_goto (tgt := 144) hx hb dX5_pushOrPull_63 (by decide) ?_
    exact W.vret hx hb hr (fun t ht hW => ⟨⟨u4, rfl, hok, by rw [ht]; exact hP, va_K.moved hW.alike hK, hD⟩, hS.F ht⟩) hS.2.2 dX5_pushOrPull_144
  have hok := hok.2
  by_cases c5 : a1 = 82
  · have hok := hok.1 c5
    refine lv_tableIn (tgt := 66) (off := 65) hx hb dX5_pushOrPull_1 (by rw [c5]; decide) (by rw [c5]; decide) (by rw [c5]; decide) (by decide) ?_
    refine lv_aload_n hx hb dX5_pushOrPull_66 rfl (lv_at hl 0 rfl) ?_
    refine lv_aload_n hx hb dX5_pushOrPull_67 rfl (lv_at hl 0 rfl) ?_
    refine va_get (D := (dC, dI)) (ci := 4) (v := .int (σ.1 2)) (C := RX5) (T := TX5) (N := 15) hx hb hts (fun w h => List.mem_cons_of_mem _ (in_X5 w h)) hown hK hP 0 rfl rfl 2 (by decide) (hts _ (List.mem_cons_of_mem _ tw_1_151)) (fun _ h9 => h9) rfl dX5_pushOrPull_68 ?_
    have hPc := hP
    have hDc := hD
    have hFc := va_free (wc := w_Proc h cI cJ σ) hD hS hA [0, 1, 2, 3, 4, 5, 6, 7, 8, 9] rfl
    refine va_callv (va_runV (As := [.int (σ.1 2)]) (rest := []) ⟨hx, hb, hml, hown, hts⟩ (c_X5_push l dC dI cI cJ h _ hok) (cwV 1 hts (tb_gV tw_2_92 tw_2_94 tw_p_6 tw_1_6 tw_2_95) rfl rfl rfl (by decide +kernel) ⟨Nat.le_of_ble_eq_true rfl, Nat.le_of_ble_eq_true rfl⟩) (cpre_V (ci := 4) (q0 := 0) hK hPc hDc rfl rfl) rfl rfl hl.1 rfl (lv_room (Nat.le_of_ble_eq_true rfl)) dX5_pushOrPull_71 ⟨Nat.le_of_ble_eq_true rfl, Nat.le_of_ble_eq_true rfl⟩) hS (fun q _ h => hFc q h) hFc (fun u6 t H1 locs ht hvm hok hB hz1 hk1 hS => ?_)
    obtain ⟨hP, hD⟩ := cjoin_w ht hB hFc
    refine lv_goto (tgt := 144) hx hb dX5_pushOrPull_74 (by decide) ?_
    exact W.vret hx hb hr (fun t ht hW => ⟨⟨u6, rfl, hok, by rw [ht]; exact hP, va_K.moved hW.alike hK, hD⟩, hS.F ht⟩) hS.2.2 dX5_pushOrPull_144
  have hok := hok.2
  by_cases c7 : a1 = 83
  · have hok := hok.1 c7
    refine lv_tableIn (tgt := 77) (off := 76) hx hb dX5_pushOrPull_1 (by rw [c7]; decide) (by rw [c7]; decide) (by rw [c7]; decide) (by decide) ?_
    refine lv_aload_n hx hb dX5_pushOrPull_77 rfl (lv_at hl 0 rfl) ?_
    refine lv_aload_n hx hb dX5_pushOrPull_78 rfl (lv_at hl 0 rfl) ?_
    refine va_get (D := (dC, dI)) (ci := 4) (v := .int (σ.1 4)) (C := RX5) (T := TX5) (N := 15) hx hb hts (fun w h => List.mem_cons_of_mem _ (in_X5 w h)) hown hK hP 0 rfl rfl 4 (by decide) (hts _ (List.mem_cons_of_mem _ tw_1_155)) (fun _ h9 => h9) rfl dX5_pushOrPull_79 ?_
    have hPc := hP
    have hDc := hD
    have hFc := va_free (wc := w_Proc h cI cJ σ) hD hS hA [0, 1, 2, 3, 4, 5, 6, 7, 8, 9] rfl
    refine va_callv (va_runV (As := [.int (σ.1 4)]) (rest := []) ⟨hx, hb, hml, hown, hts⟩ (c_X5_push l dC dI cI cJ h _ hok) (cwV 1 hts (tb_gV tw_2_92 tw_2_94 tw_p_6 tw_1_6 tw_2_95) rfl rfl rfl (by decide +kernel) ⟨Nat.le_of_ble_eq_true rfl, Nat.le_of_ble_eq_true rfl⟩) (cpre_V (ci := 4) (q0 := 0) hK hPc hDc rfl rfl) rfl rfl hl.1 rfl (lv_room (Nat.le_of_ble_eq_true rfl)) dX5_pushOrPull_82 ⟨Nat.le_of_ble_eq_true rfl, Nat.le_of_ble_eq_true rfl⟩) hS (fun q _ h => hFc q h) hFc (fun u8 t H1 locs ht hvm hok hB hz1 hk1 hS => ?_)
    obtain ⟨hP, hD⟩ := cjoin_w ht hB hFc
    refine lv_goto (tgt := 144) hx hb dX5_pushOrPull_85 (by decide) ?_
    exact W.vret hx hb hr (fun t ht hW => ⟨⟨u8, rfl, hok, by rw [ht]; exact hP, va_K.moved hW.alike hK, hD⟩, hS.F ht⟩) hS.2.2 dX5_pushOrPull_144
  have hok := hok.2
  by_cases c9 : a1 = 84
  · have hok := hok.1 c9
    refine lv_tableIn (tgt := 88) (off := 87) hx hb dX5_pushOrPull_1 (by rw [c9]; decide) (by rw [c9]; decide) (by rw [c9]; decide) (by decide) ?_
    refine lv_aload_n hx hb dX5_pushOrPull_88 rfl (lv_at hl 0 rfl) ?_
    refine lv_aload_n hx hb dX5_pushOrPull_89 rfl (lv_at hl 0 rfl) ?_
    refine lv_aload_n hx hb dX5_pushOrPull_90 rfl (lv_at hl 0 rfl) ?_
    have hPc := hP
    have hDc := hD
    have hFc := va_free (wc := w_Proc h cI cJ σ) hD hS hA [0, 1, 2, 3, 4, 5, 6, 7, 8, 9] rfl
    refine va_calli (va_runV (As := []) (rest := [.ref (h 1), .ref (h 1)]) ⟨hx, hb, hml, hown, hts⟩ (c_X5_pull l dC dI cI cJ h _ hok) (cwV 0 hts (tb_gV tw_2_209 tw_2_211 tw_p_27 tw_1_6 tw_2_212) rfl rfl rfl (by decide +kernel) ⟨Nat.le_of_ble_eq_true rfl, Nat.le_of_ble_eq_true rfl⟩) (cpre_V (ci := 4) (q0 := 0) hK hPc hDc rfl rfl) rfl rfl hl.1 rfl (lv_room (Nat.le_of_ble_eq_true rfl)) dX5_pushOrPull_91 ⟨Nat.le_of_ble_eq_true rfl, Nat.le_of_ble_eq_true rfl⟩) hS (fun q _ h => hFc q h) hFc (fun r10 u11 t H1 locs ht hvm hok hB hz1 hk1 hS => ?_)
    obtain ⟨hP, hD⟩ := cjoin_w ht hB hFc
    have hPc := hP
    have hDc := hD
    have hFc := va_free (wc := w_Proc h cI cJ u11) hD hS hA [0, 1, 2, 3, 4, 5, 6, 7, 8, 9] rfl
    refine va_calli (va_runV (As := [.int r10]) (rest := [.ref (h 1)]) ⟨hx, hb, hml, hown, hts⟩ (c_X5_shown l dC dI cI cJ h _ hok) (cwV 1 hts (tb_gV tw_2_153 tw_2_155 tw_p_13 tw_1_6 tw_2_156) rfl rfl rfl (by decide +kernel) ⟨Nat.le_of_ble_eq_true rfl, Nat.le_of_ble_eq_true rfl⟩) (cpre_V (ci := 4) (q0 := 0) hK hPc hDc rfl rfl) rfl rfl hl.1 rfl (lv_room (Nat.le_of_ble_eq_true rfl)) dX5_pushOrPull_94 ⟨Nat.le_of_ble_eq_true rfl, Nat.le_of_ble_eq_true rfl⟩) hS (fun q _ h => hFc q h) hFc (fun r12 u13 t H1 locs ht hvm hok hB hz1 hk1 hS => ?_)
    obtain ⟨hP, hD⟩ := cjoin_w ht hB hFc
    refine va_put (D := (dC, dI)) (ci := 4) (v := .int r12) (ty := .int) (C := RX5) (T := TX5) (N := 15) hx hb hts (fun w h => List.mem_cons_of_mem _ (in_X5 w h)) tyX5 tyX5_ok nmX5 hown hK hP hD hS 0 rfl rfl 0 (by decide) (hts _ (List.mem_cons_of_mem _ tw_1_148)) (fun _ h9 => h9) rfl (by decide +kernel) rfl rfl (Nat.le_of_ble_eq_true rfl) dX5_pushOrPull_97 (fun H locs hP hD hS => ?_)
    have hP : va_P (dC, dI) vwCl (w_Proc h cI cJ (upd u13.1 0 r12, u13.2.1, u13.2.2.1, u13.2.2.2)) _ := hP
    have hD : va_D A (w_Proc h cI cJ (upd u13.1 0 r12, u13.2.1, u13.2.2.1, u13.2.2.2)) := hD
    refine lv_goto (tgt := 144) hx hb dX5_pushOrPull_100 (by decide) ?_
    exact W.vret hx hb hr (fun t ht hW => ⟨⟨(upd u13.1 0 r12, u13.2.1, u13.2.2.1, u13.2.2.2), rfl, hok, by rw [ht]; exact hP, va_K.moved hW.alike hK, hD⟩, hS.F ht⟩) hS.2.2 dX5_pushOrPull_144
  have hok := hok.2
  by_cases c14 : a1 = 85
  · have hok := hok.1 c14
    refine lv_tableIn (tgt := 103) (off := 102) hx hb dX5_pushOrPull_1 (by rw [c14]; decide) (by rw [c14]; decide) (by rw [c14]; decide) (by decide) ?_
    refine lv_aload_n hx hb dX5_pushOrPull_103 rfl (lv_at hl 0 rfl) ?_
    refine lv_aload_n hx hb dX5_pushOrPull_104 rfl (lv_at hl 0 rfl) ?_
    refine lv_aload_n hx hb dX5_pushOrPull_105 rfl (lv_at hl 0 rfl) ?_
    have hPc := hP
    have hDc := hD
    have hFc := va_free (wc := w_Proc h cI cJ σ) hD hS hA [0, 1, 2, 3, 4, 5, 6, 7, 8, 9] rfl
    refine va_calli (va_runV (As := []) (rest := [.ref (h 1), .ref (h 1)]) ⟨hx, hb, hml, hown, hts⟩ (c_X5_pull l dC dI cI cJ h _ hok) (cwV 0 hts (tb_gV tw_2_209 tw_2_211 tw_p_27 tw_1_6 tw_2_212) rfl rfl rfl (by decide +kernel) ⟨Nat.le_of_ble_eq_true rfl, Nat.le_of_ble_eq_true rfl⟩) (cpre_V (ci := 4) (q0 := 0) hK hPc hDc rfl rfl) rfl rfl hl.1 rfl (lv_room (Nat.le_of_ble_eq_true rfl)) dX5_pushOrPull_106 ⟨Nat.le_of_ble_eq_true rfl, Nat.le_of_ble_eq_true rfl⟩) hS (fun q _ h => hFc q h) hFc (fun r15 u16 t H1 locs ht hvm hok hB hz1 hk1 hS => ?_)
    obtain ⟨hP, hD⟩ := cjoin_w ht hB hFc
    have hPc := hP
    have hDc := hD
    have hFc := va_free (wc := w_Proc h cI cJ u16) hD hS hA [0, 1, 2, 3, 4, 5, 6, 7, 8, 9] rfl
    refine va_calli (va_runV (As := [.int r15]) (rest := [.ref (h 1)]) ⟨hx, hb, hml, hown, hts⟩ (c_X5_shown l dC dI cI cJ h _ hok) (cwV 1 hts (tb_gV tw_2_153 tw_2_155 tw_p_13 tw_1_6 tw_2_156) rfl rfl rfl (by decide +kernel) ⟨Nat.le_of_ble_eq_true rfl, Nat.le_of_ble_eq_true rfl⟩) (cpre_V (ci := 4) (q0 := 0) hK hPc hDc rfl rfl) rfl rfl hl.1 rfl (lv_room (Nat.le_of_ble_eq_true rfl)) dX5_pushOrPull_109 ⟨Nat.le_of_ble_eq_true rfl, Nat.le_of_ble_eq_true rfl⟩) hS (fun q _ h => hFc q h) hFc (fun r17 u18 t H1 locs ht hvm hok hB hz1 hk1 hS => ?_)
    obtain ⟨hP, hD⟩ := cjoin_w ht hB hFc
    refine va_put (D := (dC, dI)) (ci := 4) (v := .int r17) (ty := .int) (C := RX5) (T := TX5) (N := 15) hx hb hts (fun w h => List.mem_cons_of_mem _ (in_X5 w h)) tyX5 tyX5_ok nmX5 hown hK hP hD hS 0 rfl rfl 1 (by decide) (hts _ (List.mem_cons_of_mem _ tw_1_149)) (fun _ h9 => h9) rfl (by decide +kernel) rfl rfl (Nat.le_of_ble_eq_true rfl) dX5_pushOrPull_112 (fun H locs hP hD hS => ?_)
    have hP : va_P (dC, dI) vwCl (w_Proc h cI cJ (upd u18.1 1 r17, u18.2.1, u18.2.2.1, u18.2.2.2)) _ := hP
    have hD : va_D A (w_Proc h cI cJ (upd u18.1 1 r17, u18.2.1, u18.2.2.1, u18.2.2.2)) := hD
    refine lv_goto (tgt := 144) hx hb dX5_pushOrPull_115 (by decide) ?_
    exact W.vret hx hb hr (fun t ht hW => ⟨⟨(upd u18.1 1 r17, u18.2.1, u18.2.2.1, u18.2.2.2), rfl, hok, by rw [ht]; exact hP, va_K.moved hW.alike hK, hD⟩, hS.F ht⟩) hS.2.2 dX5_pushOrPull_144
  have hok := hok.2
  by_cases c19 : a1 = 86
  · have hok := hok.1 c19
    refine lv_tableIn (tgt := 118) (off := 117) hx hb dX5_pushOrPull_1 (by rw [c19]; decide) (by rw [c19]; decide) (by rw [c19]; decide) (by decide) ?_
    refine lv_aload_n hx hb dX5_pushOrPull_118 rfl (lv_at hl 0 rfl) ?_
    refine lv_aload_n hx hb dX5_pushOrPull_119 rfl (lv_at hl 0 rfl) ?_
    refine lv_aload_n hx hb dX5_pushOrPull_120 rfl (lv_at hl 0 rfl) ?_
    have hPc := hP
    have hDc := hD
    have hFc := va_free (wc := w_Proc h cI cJ σ) hD hS hA [0, 1, 2, 3, 4, 5, 6, 7, 8, 9] rfl
    refine va_calli (va_runV (As := []) (rest := [.ref (h 1), .ref (h 1)]) ⟨hx, hb, hml, hown, hts⟩ (c_X5_pull l dC dI cI cJ h _ hok) (cwV 0 hts (tb_gV tw_2_209 tw_2_211 tw_p_27 tw_1_6 tw_2_212) rfl rfl rfl (by decide +kernel) ⟨Nat.le_of_ble_eq_true rfl, Nat.le_of_ble_eq_true rfl⟩) (cpre_V (ci := 4) (q0 := 0) hK hPc hDc rfl rfl) rfl rfl hl.1 rfl (lv_room (Nat.le_of_ble_eq_true rfl)) dX5_pushOrPull_121 ⟨Nat.le_of_ble_eq_true rfl, Nat.le_of_ble_eq_true rfl⟩) hS (fun q _ h => hFc q h) hFc (fun r20 u21 t H1 locs ht hvm hok hB hz1 hk1 hS => ?_)
    obtain ⟨hP, hD⟩ := cjoin_w ht hB hFc
    have hPc := hP
    have hDc := hD
    have hFc := va_free (wc := w_Proc h cI cJ u21) hD hS hA [0, 1, 2, 3, 4, 5, 6, 7, 8, 9] rfl
    refine va_calli (va_runV (As := [.int r20]) (rest := [.ref (h 1)]) ⟨hx, hb, hml, hown, hts⟩ (c_X5_shown l dC dI cI cJ h _ hok) (cwV 1 hts (tb_gV tw_2_153 tw_2_155 tw_p_13 tw_1_6 tw_2_156) rfl rfl rfl (by decide +kernel) ⟨Nat.le_of_ble_eq_true rfl, Nat.le_of_ble_eq_true rfl⟩) (cpre_V (ci := 4) (q0 := 0) hK hPc hDc rfl rfl) rfl rfl hl.1 rfl (lv_room (Nat.le_of_ble_eq_true rfl)) dX5_pushOrPull_124 ⟨Nat.le_of_ble_eq_true rfl, Nat.le_of_ble_eq_true rfl⟩) hS (fun q _ h => hFc q h) hFc (fun r22 u23 t H1 locs ht hvm hok hB hz1 hk1 hS => ?_)
    obtain ⟨hP, hD⟩ := cjoin_w ht hB hFc
    refine va_put (D := (dC, dI)) (ci := 4) (v := .int r22) (ty := .int) (C := RX5) (T := TX5) (N := 15) hx hb hts (fun w h => List.mem_cons_of_mem _ (in_X5 w h)) tyX5 tyX5_ok nmX5 hown hK hP hD hS 0 rfl rfl 2 (by decide) (hts _ (List.mem_cons_of_mem _ tw_1_151)) (fun _ h9 => h9) rfl (by decide +kernel) rfl rfl (Nat.le_of_ble_eq_true rfl) dX5_pushOrPull_127 (fun H locs hP hD hS => ?_)
    have hP : va_P (dC, dI) vwCl (w_Proc h cI cJ (upd u23.1 2 r22, u23.2.1, u23.2.2.1, u23.2.2.2)) _ := hP
    have hD : va_D A (w_Proc h cI cJ (upd u23.1 2 r22, u23.2.1, u23.2.2.1, u23.2.2.2)) := hD
    refine lv_goto (tgt := 144) hx hb dX5_pushOrPull_130 (by decide) ?_
    exact W.vret hx hb hr (fun t ht hW => ⟨⟨(upd u23.1 2 r22, u23.2.1, u23.2.2.1, u23.2.2.2), rfl, hok, by rw [ht]; exact hP, va_K.moved hW.alike hK, hD⟩, hS.F ht⟩) hS.2.2 dX5_pushOrPull_144
  have hok := hok.2
  have hok := hok ⟨c1, c3, c5, c7, c9, c14, c19⟩
  have kz23 : ∀ k ∈ ([80, 81, 82, 83, 84, 85, 86] : List Int), (a1).toInt ≠ k := List.forall_mem_cons.mpr ⟨tb_ne c1 rfl, List.forall_mem_cons.mpr ⟨tb_ne c3 rfl, List.forall_mem_cons.mpr ⟨tb_ne c5 rfl, List.forall_mem_cons.mpr ⟨tb_ne c7 rfl, List.forall_mem_cons.mpr ⟨tb_ne c9 rfl, List.forall_mem_cons.mpr ⟨tb_ne c14 rfl, List.forall_mem_cons.mpr ⟨tb_ne c19 rfl, fun k h => absurd h List.not_mem_nil⟩⟩⟩⟩⟩⟩⟩
  refine tb_def (tgt := 133) (keys := [80, 81, 82, 83, 84, 85, 86]) hx hb dX5_pushOrPull_1 kz23 (by decide) (by decide) ?_
  refine lv_aload_n hx hb dX5_pushOrPull_133 rfl (lv_at hl 0 rfl) ?_
  refine lv_aload_n hx hb dX5_pushOrPull_134 rfl (lv_at hl 0 rfl) ?_
  have hPc := hP
  have hDc := hD
  have hFc := va_free (wc := w_Proc h cI cJ σ) hD hS hA [0, 1, 2, 3, 4, 5, 6, 7, 8, 9] rfl
  refine va_calli (va_runV (As := []) (rest := [.ref (h 1)]) ⟨hx, hb, hml, hown, hts⟩ (c_X5_pull l dC dI cI cJ h _ hok) (cwV 0 hts (tb_gV tw_2_209 tw_2_211 tw_p_27 tw_1_6 tw_2_212) rfl rfl rfl (by decide +kernel) ⟨Nat.le_of_ble_eq_true rfl, Nat.le_of_ble_eq_true rfl⟩) (cpre_V (ci := 4) (q0 := 0) hK hPc hDc rfl rfl) rfl rfl hl.1 rfl (lv_room (Nat.le_of_ble_eq_true rfl)) dX5_pushOrPull_135 ⟨Nat.le_of_ble_eq_true rfl, Nat.le_of_ble_eq_true rfl⟩) hS (fun q _ h => hFc q h) hFc (fun r24 u25 t H1 locs ht hvm hok hB hz1 hk1 hS => ?_)
  obtain ⟨hP, hD⟩ := cjoin_w ht hB hFc
  refine lv_bipush (v := 48) hx hb dX5_pushOrPull_138 (by decide) ?_
  refine lv_ior hx hb dX5_pushOrPull_140 ?_
  refine va_put (D := (dC, dI)) (ci := 4) (v := .int (r24 ||| (48 : Int32))) (ty := .int) (C := RX5) (T := TX5) (N := 15) hx hb hts (fun w h => List.mem_cons_of_mem _ (in_X5 w h)) tyX5 tyX5_ok nmX5 hown hK hP hD hS 0 rfl rfl 4 (by decide) (hts _ (List.mem_cons_of_mem _ tw_1_155)) (fun _ h9 => h9) rfl (by decide +kernel) rfl rfl (Nat.le_of_ble_eq_true rfl) dX5_pushOrPull_141 (fun H locs hP hD hS => ?_)
  have hP : va_P (dC, dI) vwCl (w_Proc h cI cJ (upd u25.1 4 (r24 ||| (48 : Int32)), u25.2.1, u25.2.2.1, u25.2.2.2)) _ := hP
  have hD : va_D A (w_Proc h cI cJ (upd u25.1 4 (r24 ||| (48 : Int32)), u25.2.1, u25.2.2.1, u25.2.2.2)) := hD
  exact W.vret hx hb hr (fun t ht hW => ⟨⟨(upd u25.1 4 (r24 ||| (48 : Int32)), u25.2.1, u25.2.2.1, u25.2.2.2), rfl, hok, by rw [ht]; exact hP, va_K.moved hW.alike hK, hD⟩, hS.F ht⟩) hS.2.2 dX5_pushOrPull_144
def wp_X5_goIf (σ : S_Proc) (a1 : Int32) (a2 : Int32) (Φ : S_Proc → Prop) : Prop := ((a1 = 0 → (Φ σ)) ∧ (¬ a1 = 0 → (∀ v2 : Int32, v2 = ((σ.1 5) + a2.toInt8.toInt32) &&& (65535 : Int32) → (((v2 >>> ((8 : Int32) &&& 31)) = ((σ.1 5) >>> ((8 : Int32) &&& 31)) → (Φ (upd (upd σ.1 5 v2) 13 ((σ.1 13) + (1 : Int32)), σ.2.1, σ.2.2.1, σ.2.2.2))) ∧ (¬ (v2 >>> ((8 : Int32) &&& 31)) = ((σ.1 5) >>> ((8 : Int32) &&& 31)) → (Φ (upd (upd σ.1 5 v2) 13 ((σ.1 13) + (2 : Int32)), σ.2.1, σ.2.2.1, σ.2.2.2)))))))
set_option maxHeartbeats 4000000 in
set_option maxRecDepth 100000 in
theorem c_X5_goIf (l : Launch) (dC : Nat → ClassId) (dI : Nat → Nat → Nat) (cI cJ : ClassId) (h : Nat → Nat) (sz : Nat) {σ : S_Proc} {a1 : Int32} {a2 : Int32} {Φ : S_Proc → Prop} (hok : wp_X5_goIf σ a1 a2 Φ) : Met l yX5_goIf wsX5_goIf ({ frames := 0, cells := 0, slots := 0, locals := 0 }) (va_Pc [.ref (h 1), .int a1, .int a2] (cpre dC dI cI cJ (w_Proc h cI cJ σ) sz)) (va_Qv Φ (fun u => cpost dC dI cI cJ (va_A (w_Proc h cI cJ σ) sz) (w_Proc h cI cJ u)) (va_A (w_Proc h cI cJ σ) sz)) 0 0 (va_A (w_Proc h cI cJ σ) sz) := by
  refine Met.ofW (cc := cX5_goIf) (maxL := 4) (ret := none) (by decide) rfl ?_
  intro p e s m args below meth c s₁ B hml hv
  obtain ⟨rfl, hsz, hP, hK, hD0⟩ := hv
  have hx := B.exec
  have hb := B.bytes
  have hr := B.returns
  have hts := atoms_spec (ws := wsX5_goIf) B.pre
  have hown : s.vm.findClass RX5 = some m.cls := findClass_of_methodNamed B.named
  have hlocks := B.notSynchronized
  subst hsz
  have hD := hD0.self (sz := s.heap.size)
  generalize hAe : va_A (w_Proc h cI cJ σ) s.heap.size = A at hD ⊢
  have hA : ∀ q : Nat, s.heap.size ≤ q → A q := fun q h => by rw [← hAe]; exact Or.inr h
  clear hD0 hAe
  have hS : va_S A s.heap s.heap [] := va_S.rf
  have hl := lv_entry ([.ref (h 1), .int a1, .int a2]) (n := 4) (Nat.le_of_ble_eq_true rfl)
  rw [lg_entry_eq]
  generalize (lg_sl ([.ref (h 1), .int a1, .int a2]) ++ List.replicate (4 - (lg_sl ([.ref (h 1), .int a1, .int a2])).length) Slot.unset).toArray = ls at hl ⊢
  have hl : lv_has ls 4 [(0, .ref (h 1)), (1, .int a1), (2, .int a2)] := hl
  unfold wp_X5_goIf at hok
  refine lv_iload_n hx hb dX5_goIf_0 rfl (lv_at hl 1 rfl) ?_
  refine lv_if_ne (tgt := 5) hx hb dX5_goIf_1 (by decide) (fun c1 => ?_) (fun c1 => ?_)
  · have hok := hok.2 c1
    refine lv_aload_n hx hb dX5_goIf_5 rfl (lv_at hl 0 rfl) ?_
    refine va_get (D := (dC, dI)) (ci := 4) (v := .int (σ.1 5)) (C := RX5) (T := TX5) (N := 15) hx hb hts (fun w h => List.mem_cons_of_mem _ (in_X5 w h)) hown hK hP 0 rfl rfl 5 (by decide) (hts _ (List.mem_cons_of_mem _ tw_1_157)) (fun _ h9 => h9) rfl dX5_goIf_6 ?_
    refine lv_istore_n (lv' := [(3, .int (σ.1 5)), (0, .ref (h 1)), (1, .int a1), (2, .int a2)]) hx hb dX5_goIf_9 rfl hl (by decide) rfl (fun ls hl => ?_)
    refine lv_aload_n hx hb dX5_goIf_10 rfl (lv_at hl 1 rfl) ?_
    refine lv_aload_n hx hb dX5_goIf_11 rfl (lv_at hl 1 rfl) ?_
    refine va_get (D := (dC, dI)) (ci := 4) (v := .int (σ.1 5)) (C := RX5) (T := TX5) (N := 15) hx hb hts (fun w h => List.mem_cons_of_mem _ (in_X5 w h)) hown hK hP 0 rfl rfl 5 (by decide) (hts _ (List.mem_cons_of_mem _ tw_1_157)) (fun _ h9 => h9) rfl dX5_goIf_12 ?_
    refine lv_iload_n hx hb dX5_goIf_15 rfl (lv_at hl 3 rfl) ?_
    refine lv_i2b hx hb dX5_goIf_16 rfl ?_
    refine lv_iadd hx hb dX5_goIf_17 ?_
    refine lv_ldc (v := 65535) hx hb hown (hts _ (List.mem_cons_of_mem _ tw_2_60)) dX5_goIf_18 ?_
    refine lv_iand hx hb dX5_goIf_20 ?_
    refine lv_topi (fun v2 ev2 => ?_)
    have hok := hok v2 ev2
    refine va_put (D := (dC, dI)) (ci := 4) (v := .int v2) (ty := .int) (C := RX5) (T := TX5) (N := 15) hx hb hts (fun w h => List.mem_cons_of_mem _ (in_X5 w h)) tyX5 tyX5_ok nmX5 hown hK hP hD hS 0 rfl rfl 5 (by decide) (hts _ (List.mem_cons_of_mem _ tw_1_157)) (fun _ h9 => h9) rfl (by decide +kernel) rfl rfl (Nat.le_of_ble_eq_true rfl) dX5_goIf_21 (fun H locs hP hD hS => ?_)
    have hP : va_P (dC, dI) vwCl (w_Proc h cI cJ (upd σ.1 5 v2, σ.2.1, σ.2.2.1, σ.2.2.2)) _ := hP
    have hD : va_D A (w_Proc h cI cJ (upd σ.1 5 v2, σ.2.1, σ.2.2.1, σ.2.2.2)) := hD
    refine lv_aload_n hx hb dX5_goIf_24 rfl (lv_at hl 1 rfl) ?_
    refine lv_dup hx hb dX5_goIf_25 rfl ?_
    refine va_get (D := (dC, dI)) (ci := 4) (v := .int (σ.1 13)) (C := RX5) (T := TX5) (N := 15) hx hb hts (fun w h => List.mem_cons_of_mem _ (in_X5 w h)) hown hK hP 0 rfl rfl 13 (by decide) (hts _ (List.mem_cons_of_mem _ tw_1_172)) (fun _ h9 => h9) rfl dX5_goIf_26 ?_
    refine lv_aload_n hx hb dX5_goIf_29 rfl (lv_at hl 1 rfl) ?_
    refine va_get (D := (dC, dI)) (ci := 4) (v := .int v2) (C := RX5) (T := TX5) (N := 15) hx hb hts (fun w h => List.mem_cons_of_mem _ (in_X5 w h)) hown hK hP 0 rfl rfl 5 (by decide) (hts _ (List.mem_cons_of_mem _ tw_1_157)) (fun _ h9 => h9) rfl dX5_goIf_30 ?_
    refine lv_bipush (v := 8) hx hb dX5_goIf_33 (by decide) ?_
    refine lv_ishr hx hb dX5_goIf_35 ?_
    refine lv_iload_n hx hb dX5_goIf_36 rfl (lv_at hl 0 rfl) ?_
    refine lv_bipush (v := 8) hx hb dX5_goIf_37 (by decide) ?_
    refine lv_ishr hx hb dX5_goIf_39 ?_
    refine lv_icmp_ne (tgt := 47) hx hb dX5_goIf_40 (by decide) (fun c3 => ?_) (fun c3 => ?_)
    · have hok := hok.2 c3
      refine lv_iconst (v := 2) hx hb dX5_goIf_47 (by decide) ?_
      refine lv_iadd hx hb dX5_goIf_48 ?_
      refine va_put (D := (dC, dI)) (ci := 4) (v := .int ((σ.1 13) + (2 : Int32))) (ty := .int) (C := RX5) (T := TX5) (N := 15) hx hb hts (fun w h => List.mem_cons_of_mem _ (in_X5 w h)) tyX5 tyX5_ok nmX5 hown hK hP hD hS 0 rfl rfl 13 (by decide) (hts _ (List.mem_cons_of_mem _ tw_1_172)) (fun _ h9 => h9) rfl (by decide +kernel) rfl rfl (Nat.le_of_ble_eq_true rfl) dX5_goIf_49 (fun H locs hP hD hS => ?_)
      have hP : va_P (dC, dI) vwCl (w_Proc h cI cJ (upd (upd σ.1 5 v2) 13 ((σ.1 13) + (2 : Int32)), σ.2.1, σ.2.2.1, σ.2.2.2)) _ := hP
      have hD : va_D A (w_Proc h cI cJ (upd (upd σ.1 5 v2) 13 ((σ.1 13) + (2 : Int32)), σ.2.1, σ.2.2.1, σ.2.2.2)) := hD
      exact W.vret hx hb hr (fun t ht hW => ⟨⟨(upd (upd σ.1 5 v2) 13 ((σ.1 13) + (2 : Int32)), σ.2.1, σ.2.2.1, σ.2.2.2), rfl, hok, by rw [ht]; exact hP, va_K.moved hW.alike hK, hD⟩, hS.F ht⟩) hS.2.2 dX5_goIf_52
    · have hok := hok.1 c3
      refine lv_iconst (v := 1) hx hb dX5_goIf_43 (by decide) ?_
      refine lv_goto (tgt := 48) hx hb dX5_goIf_44 (by decide) ?_
      refine lv_iadd hx hb dX5_goIf_48 ?_
      refine va_put (D := (dC, dI)) (ci := 4) (v := .int ((σ.1 13) + (1 : Int32))) (ty := .int) (C := RX5) (T := TX5) (N := 15) hx hb hts (fun w h => List.mem_cons_of_mem _ (in_X5 w h)) tyX5 tyX5_ok nmX5 hown hK hP hD hS 0 rfl rfl 13 (by decide) (hts _ (List.mem_cons_of_mem _ tw_1_172)) (fun _ h9 => h9) rfl (by decide +kernel) rfl rfl (Nat.le_of_ble_eq_true rfl) dX5_goIf_49 (fun H locs hP hD hS => ?_)
      have hP : va_P (dC, dI) vwCl (w_Proc h cI cJ (upd (upd σ.1 5 v2) 13 ((σ.1 13) + (1 : Int32)), σ.2.1, σ.2.2.1, σ.2.2.2)) _ := hP
      have hD : va_D A (w_Proc h cI cJ (upd (upd σ.1 5 v2) 13 ((σ.1 13) + (1 : Int32)), σ.2.1, σ.2.2.1, σ.2.2.2)) := hD
      exact W.vret hx hb hr (fun t ht hW => ⟨⟨(upd (upd σ.1 5 v2) 13 ((σ.1 13) + (1 : Int32)), σ.2.1, σ.2.2.1, σ.2.2.2), rfl, hok, by rw [ht]; exact hP, va_K.moved hW.alike hK, hD⟩, hS.F ht⟩) hS.2.2 dX5_goIf_52
  · have hok := hok.1 c1
    exact W.vret hx hb hr (fun t ht hW => ⟨⟨σ, rfl, hok, by rw [ht]; exact hP, va_K.moved hW.alike hK, hD⟩, hS.F ht⟩) hS.2.2 dX5_goIf_4
def wp_X5_branch (σ : S_Proc) (a1 : Int32) (a2 : Int32) (a3 : Int32) (Φ : S_Proc → Prop) : Prop := ((a1 = 96 → (((((σ.1 4) &&& (128 : Int32)) = 0 → (wp_X5_goIf σ 1 a3 (fun u4 => Φ u4))) ∧ (¬ ((σ.1 4) &&& (128 : Int32)) = 0 → (wp_X5_goIf σ 0 a3 (fun u3 => Φ u3)))))) ∧ (a1 = 97 → (((((σ.1 4) &&& (128 : Int32)) = 0 → (wp_X5_goIf σ 0 a3 (fun u7 => Φ u7))) ∧ (¬ ((σ.1 4) &&& (128 : Int32)) = 0 → (wp_X5_goIf σ 1 a3 (fun u8 => Φ u8)))))) ∧ (a1 = 98 → (((((σ.1 4) &&& (64 : Int32)) = 0 → (wp_X5_goIf σ 1 a3 (fun u12 => Φ u12))) ∧ (¬ ((σ.1 4) &&& (64 : Int32)) = 0 → (wp_X5_goIf σ 0 a3 (fun u11 => Φ u11)))))) ∧ (a1 = 99 → (((((σ.1 4) &&& (64 : Int32)) = 0 → (wp_X5_goIf σ 0 a3 (fun u15 => Φ u15))) ∧ (¬ ((σ.1 4) &&& (64 : Int32)) = 0 → (wp_X5_goIf σ 1 a3 (fun u16 => Φ u16)))))) ∧ (a1 = 100 → (((((σ.1 4) &&& (1 : Int32)) = 0 → (wp_X5_goIf σ 1 a3 (fun u20 => Φ u20))) ∧ (¬ ((σ.1 4) &&& (1 : Int32)) = 0 → (wp_X5_goIf σ 0 a3 (fun u19 => Φ u19)))))) ∧ (a1 = 101 → (((((σ.1 4) &&& (1 : Int32)) = 0 → (wp_X5_goIf σ 0 a3 (fun u23 => Φ u23))) ∧ (¬ ((σ.1 4) &&& (1 : Int32)) = 0 → (wp_X5_goIf σ 1 a3 (fun u24 => Φ u24)))))) ∧ (a1 = 102 → (((((σ.1 4) &&& (2 : Int32)) = 0 → (wp_X5_goIf σ 1 a3 (fun u28 => Φ u28))) ∧ (¬ ((σ.1 4) &&& (2 : Int32)) = 0 → (wp_X5_goIf σ 0 a3 (fun u27 => Φ u27)))))) ∧ (a1 = 103 → (((((σ.1 4) &&& (2 : Int32)) = 0 → (wp_X5_goIf σ 0 a3 (fun u31 => Φ u31))) ∧ (¬ ((σ.1 4) &&& (2 : Int32)) = 0 → (wp_X5_goIf σ 1 a3 (fun u32 => Φ u32)))))) ∧ (a1 = 105 → (wp_X0_read σ.2.2.2 (a3 &&& (255 : Int32)) (fun r34 u35 => ((((r34 >>> (a2 &&& 31)) &&& (1 : Int32)) = 0 → (wp_X5_goIf (σ.1, σ.2.1, σ.2.2.1, u35) 1 (a3 >>> ((8 : Int32) &&& 31)) (fun u38 => Φ u38))) ∧ (¬ ((r34 >>> (a2 &&& 31)) &&& (1 : Int32)) = 0 → (wp_X5_goIf (σ.1, σ.2.1, σ.2.2.1, u35) 0 (a3 >>> ((8 : Int32) &&& 31)) (fun u37 => Φ u37))))))) ∧ (a1 = 106 → (wp_X0_read σ.2.2.2 (a3 &&& (255 : Int32)) (fun r40 u41 => ((((r40 >>> (a2 &&& 31)) &&& (1 : Int32)) = 0 → (wp_X5_goIf (σ.1, σ.2.1, σ.2.2.1, u41) 0 (a3 >>> ((8 : Int32) &&& 31)) (fun u43 => Φ u43))) ∧ (¬ ((r40 >>> (a2 &&& 31)) &&& (1 : Int32)) = 0 → (wp_X5_goIf (σ.1, σ.2.1, σ.2.2.1, u41) 1 (a3 >>> ((8 : Int32) &&& 31)) (fun u44 => Φ u44))))))) ∧ ((¬ a1 = 96 ∧ ¬ a1 = 97 ∧ ¬ a1 = 98 ∧ ¬ a1 = 99 ∧ ¬ a1 = 100 ∧ ¬ a1 = 101 ∧ ¬ a1 = 102 ∧ ¬ a1 = 103 ∧ ¬ a1 = 105 ∧ ¬ a1 = 106) → (wp_X5_goIf σ 1 a3 (fun u45 => Φ u45))))
set_option maxHeartbeats 4000000 in
set_option maxRecDepth 100000 in
theorem c_X5_branch (l : Launch) (dC : Nat → ClassId) (dI : Nat → Nat → Nat) (cI cJ : ClassId) (h : Nat → Nat) (sz : Nat) {σ : S_Proc} {a1 : Int32} {a2 : Int32} {a3 : Int32} {Φ : S_Proc → Prop} (hok : wp_X5_branch σ a1 a2 a3 Φ) : Met l yX5_branch wsX5_branch ({ frames := 3, cells := 0, slots := 0, locals := 64 }) (va_Pc [.ref (h 1), .int a1, .int a2, .int a3] (cpre dC dI cI cJ (w_Proc h cI cJ σ) sz)) (va_Qv Φ (fun u => cpost dC dI cI cJ (va_A (w_Proc h cI cJ σ) sz) (w_Proc h cI cJ u)) (va_A (w_Proc h cI cJ σ) sz)) 0 0 (va_A (w_Proc h cI cJ σ) sz) := by
  refine Met.ofW (cc := cX5_branch) (maxL := 4) (ret := none) (by decide) rfl ?_
  intro p e s m args below meth c s₁ B hml hv
  obtain ⟨rfl, hsz, hP, hK, hD0⟩ := hv
  have hx := B.exec
  have hb := B.bytes
  have hr := B.returns
  have hts := atoms_spec (ws := wsX5_branch) B.pre
  have hown : s.vm.findClass RX5 = some m.cls := findClass_of_methodNamed B.named
  have hlocks := B.notSynchronized
  subst hsz
  have hD := hD0.self (sz := s.heap.size)
  generalize hAe : va_A (w_Proc h cI cJ σ) s.heap.size = A at hD ⊢
  have hA : ∀ q : Nat, s.heap.size ≤ q → A q := fun q h => by rw [← hAe]; exact Or.inr h
  clear hD0 hAe
  have hS : va_S A s.heap s.heap [] := va_S.rf
  have hl := lv_entry ([.ref (h 1), .int a1, .int a2, .int a3]) (n := 4) (Nat.le_of_ble_eq_true rfl)
  rw [lg_entry_eq]
  generalize (lg_sl ([.ref (h 1), .int a1, .int a2, .int a3]) ++ List.replicate (4 - (lg_sl ([.ref (h 1), .int a1, .int a2, .int a3])).length) Slot.unset).toArray = ls at hl ⊢
  have hl : lv_has ls 4 [(0, .ref (h 1)), (1, .int a1), (2, .int a2), (3, .int a3)] := hl
  unfold wp_X5_branch at hok
  refine lv_iload_n hx hb dX5_branch_0 rfl (lv_at hl 1 rfl) ?_
  by_cases c1 : a1 = 96
  · have hok := hok.1 c1
    refine lv_tableIn (tgt := 60) (off := 59) hx hb dX5_branch_1 (by rw [c1]; decide) (by rw [c1]; decide) (by rw [c1]; decide) (by decide) ?_
    refine lv_aload_n hx hb dX5_branch_60 rfl (lv_at hl 0 rfl) ?_
    refine lv_aload_n hx hb dX5_branch_61 rfl (lv_at hl 0 rfl) ?_
    refine va_get (D := (dC, dI)) (ci := 4) (v := .int (σ.1 4)) (C := RX5) (T := TX5) (N := 15) hx hb hts (fun w h => List.mem_cons_of_mem _ (in_X5 w h)) hown hK hP 0 rfl rfl 4 (by decide) (hts _ (List.mem_cons_of_mem _ tw_1_155)) (fun _ h9 => h9) rfl dX5_branch_62 ?_
    refine lv_sipush (v := 128) hx hb dX5_branch_65 (by decide) ?_
    refine lv_iand hx hb dX5_branch_68 ?_
    refine lv_if_ne (tgt := 76) hx hb dX5_branch_69 (by decide) (fun c2 => ?_) (fun c2 => ?_)
    · have hok := hok.2 c2
      refine lv_iconst (v := 0) hx hb dX5_branch_76 (by decide) ?_
      refine lv_iload_n hx hb dX5_branch_77 rfl (lv_at hl 3 rfl) ?_
      have hPc := hP
      have hDc := hD
      have hFc := va_free (wc := w_Proc h cI cJ σ) hD hS hA [0, 1, 2, 3, 4, 5, 6, 7, 8, 9] rfl
      refine va_callv (va_runV (As := [.int 0, .int a3]) (rest := []) ⟨hx, hb, hml, hown, hts⟩ (c_X5_goIf l dC dI cI cJ h _ hok) (cwV 2 hts (tb_gV tw_2_217 tw_2_219 tw_p_29 tw_1_6 tw_2_220) rfl rfl rfl (by decide +kernel) ⟨Nat.le_of_ble_eq_true rfl, Nat.le_of_ble_eq_true rfl⟩) (cpre_V (ci := 4) (q0 := 0) hK hPc hDc rfl rfl) rfl rfl hl.1 rfl (lv_room (Nat.le_of_ble_eq_true rfl)) dX5_branch_78 ⟨Nat.le_of_ble_eq_true rfl, Nat.le_of_ble_eq_true rfl⟩) hS (fun q _ h => hFc q h) hFc (fun u3 t H1 locs ht hvm hok hB hz1 hk1 hS => ?_)
      obtain ⟨hP, hD⟩ := cjoin_w ht hB hFc
      refine lv_goto (tgt := 318) hx hb dX5_branch_81 (by decide) ?_
      exact W.vret hx hb hr (fun t ht hW => ⟨⟨u3, rfl, hok, by rw [ht]; exact hP, va_K.moved hW.alike hK, hD⟩, hS.F ht⟩) hS.2.2 dX5_branch_318
    · have hok := hok.1 c2
      refine lv_iconst (v := 1) hx hb dX5_branch_72 (by decide) ?_
      refine lv_goto (tgt := 77) hx hb dX5_branch_73 (by decide) ?_
      refine lv_iload_n hx hb dX5_branch_77 rfl (lv_at hl 3 rfl) ?_
      have hPc := hP
      have hDc := hD
      have hFc := va_free (wc := w_Proc h cI cJ σ) hD hS hA [0, 1, 2, 3, 4, 5, 6, 7, 8, 9] rfl
      refine va_callv (va_runV (As := [.int 1, .int a3]) (rest := []) ⟨hx, hb, hml, hown, hts⟩ (c_X5_goIf l dC dI cI cJ h _ hok) (cwV 2 hts (tb_gV tw_2_217 tw_2_219 tw_p_29 tw_1_6 tw_2_220) rfl rfl rfl (by decide +kernel) ⟨Nat.le_of_ble_eq_true rfl, Nat.le_of_ble_eq_true rfl⟩) (cpre_V (ci := 4) (q0 := 0) hK hPc hDc rfl rfl) rfl rfl hl.1 rfl (lv_room (Nat.le_of_ble_eq_true rfl)) dX5_branch_78 ⟨Nat.le_of_ble_eq_true rfl, Nat.le_of_ble_eq_true rfl⟩) hS (fun q _ h => hFc q h) hFc (fun u4 t H1 locs ht hvm hok hB hz1 hk1 hS => ?_)
      obtain ⟨hP, hD⟩ := cjoin_w ht hB hFc
      refine lv_goto (tgt := 318) hx hb dX5_branch_81 (by decide) ?_
      exact W.vret hx hb hr (fun t ht hW => ⟨⟨u4, rfl, hok, by rw [ht]; exact hP, va_K.moved hW.alike hK, hD⟩, hS.F ht⟩) hS.2.2 dX5_branch_318
  have hok := hok.2
  by_cases c5 : a1 = 97
  · have hok := hok.1 c5
    refine lv_tableIn (tgt := 84) (off := 83) hx hb dX5_branch_1 (by rw [c5]; decide) (by rw [c5]; decide) (by rw [c5]; decide) (by decide) ?_
    refine lv_aload_n hx hb dX5_branch_84 rfl (lv_at hl 0 rfl) ?_
    refine lv_aload_n hx hb dX5_branch_85 rfl (lv_at hl 0 rfl) ?_
    refine va_get (D := (dC, dI)) (ci := 4) (v := .int (σ.1 4)) (C := RX5) (T := TX5) (N := 15) hx hb hts (fun w h => List.mem_cons_of_mem _ (in_X5 w h)) hown hK hP 0 rfl rfl 4 (by decide) (hts _ (List.mem_cons_of_mem _ tw_1_155)) (fun _ h9 => h9) rfl dX5_branch_86 ?_
    refine lv_sipush (v := 128) hx hb dX5_branch_89 (by decide) ?_
    refine lv_iand hx hb dX5_branch_92 ?_
    refine lv_if_eq (tgt := 100) hx hb dX5_branch_93 (by decide) (fun c6 => ?_) (fun c6 => ?_)
    · have hok := hok.1 c6
      refine lv_iconst (v := 0) hx hb dX5_branch_100 (by decide) ?_
      refine lv_iload_n hx hb dX5_branch_101 rfl (lv_at hl 3 rfl) ?_
      have hPc := hP
      have hDc := hD
      have hFc := va_free (wc := w_Proc h cI cJ σ) hD hS hA [0, 1, 2, 3, 4, 5, 6, 7, 8, 9] rfl
      refine va_callv (va_runV (As := [.int 0, .int a3]) (rest := []) ⟨hx, hb, hml, hown, hts⟩ (c_X5_goIf l dC dI cI cJ h _ hok) (cwV 2 hts (tb_gV tw_2_217 tw_2_219 tw_p_29 tw_1_6 tw_2_220) rfl rfl rfl (by decide +kernel) ⟨Nat.le_of_ble_eq_true rfl, Nat.le_of_ble_eq_true rfl⟩) (cpre_V (ci := 4) (q0 := 0) hK hPc hDc rfl rfl) rfl rfl hl.1 rfl (lv_room (Nat.le_of_ble_eq_true rfl)) dX5_branch_102 ⟨Nat.le_of_ble_eq_true rfl, Nat.le_of_ble_eq_true rfl⟩) hS (fun q _ h => hFc q h) hFc (fun u7 t H1 locs ht hvm hok hB hz1 hk1 hS => ?_)
      obtain ⟨hP, hD⟩ := cjoin_w ht hB hFc
      refine lv_goto (tgt := 318) hx hb dX5_branch_105 (by decide) ?_
      exact W.vret hx hb hr (fun t ht hW => ⟨⟨u7, rfl, hok, by rw [ht]; exact hP, va_K.moved hW.alike hK, hD⟩, hS.F ht⟩) hS.2.2 dX5_branch_318
    · have hok := hok.2 c6
      refine lv_iconst (v := 1) hx hb dX5_branch_96 (by decide) ?_
      refine lv_goto (tgt := 101) hx hb dX5_branch_97 (by decide) ?_
      refine lv_iload_n hx hb dX5_branch_101 rfl (lv_at hl 3 rfl) ?_
      have hPc := hP
      have hDc := hD
      have hFc := va_free (wc := w_Proc h cI cJ σ) hD hS hA [0, 1, 2, 3, 4, 5, 6, 7, 8, 9] rfl
      refine va_callv (va_runV (As := [.int 1, .int a3]) (rest := []) ⟨hx, hb, hml, hown, hts⟩ (c_X5_goIf l dC dI cI cJ h _ hok) (cwV 2 hts (tb_gV tw_2_217 tw_2_219 tw_p_29 tw_1_6 tw_2_220) rfl rfl rfl (by decide +kernel) ⟨Nat.le_of_ble_eq_true rfl, Nat.le_of_ble_eq_true rfl⟩) (cpre_V (ci := 4) (q0 := 0) hK hPc hDc rfl rfl) rfl rfl hl.1 rfl (lv_room (Nat.le_of_ble_eq_true rfl)) dX5_branch_102 ⟨Nat.le_of_ble_eq_true rfl, Nat.le_of_ble_eq_true rfl⟩) hS (fun q _ h => hFc q h) hFc (fun u8 t H1 locs ht hvm hok hB hz1 hk1 hS => ?_)
      obtain ⟨hP, hD⟩ := cjoin_w ht hB hFc
      refine lv_goto (tgt := 318) hx hb dX5_branch_105 (by decide) ?_
      exact W.vret hx hb hr (fun t ht hW => ⟨⟨u8, rfl, hok, by rw [ht]; exact hP, va_K.moved hW.alike hK, hD⟩, hS.F ht⟩) hS.2.2 dX5_branch_318
  have hok := hok.2
  by_cases c9 : a1 = 98
  · have hok := hok.1 c9
    refine lv_tableIn (tgt := 108) (off := 107) hx hb dX5_branch_1 (by rw [c9]; decide) (by rw [c9]; decide) (by rw [c9]; decide) (by decide) ?_
    refine lv_aload_n hx hb dX5_branch_108 rfl (lv_at hl 0 rfl) ?_
    refine lv_aload_n hx hb dX5_branch_109 rfl (lv_at hl 0 rfl) ?_
    refine va_get (D := (dC, dI)) (ci := 4) (v := .int (σ.1 4)) (C := RX5) (T := TX5) (N := 15) hx hb hts (fun w h => List.mem_cons_of_mem _ (in_X5 w h)) hown hK hP 0 rfl rfl 4 (by decide) (hts _ (List.mem_cons_of_mem _ tw_1_155)) (fun _ h9 => h9) rfl dX5_branch_110 ?_
    refine lv_bipush (v := 64) hx hb dX5_branch_113 (by decide) ?_
    refine lv_iand hx hb dX5_branch_115 ?_
    refine lv_if_ne (tgt := 123) hx hb dX5_branch_116 (by decide) (fun c10 => ?_) (fun c10 => ?_)
    · have hok := hok.2 c10
      refine lv_iconst (v := 0) hx hb dX5_branch_123 (by decide) ?_
      refine lv_iload_n hx hb dX5_branch_124 rfl (lv_at hl 3 rfl) ?_
      have hPc := hP
      have hDc := hD
      have hFc := va_free (wc := w_Proc h cI cJ σ) hD hS hA [0, 1, 2, 3, 4, 5, 6, 7, 8, 9] rfl
      refine va_callv (va_runV (As := [.int 0, .int a3]) (rest := []) ⟨hx, hb, hml, hown, hts⟩ (c_X5_goIf l dC dI cI cJ h _ hok) (cwV 2 hts (tb_gV tw_2_217 tw_2_219 tw_p_29 tw_1_6 tw_2_220) rfl rfl rfl (by decide +kernel) ⟨Nat.le_of_ble_eq_true rfl, Nat.le_of_ble_eq_true rfl⟩) (cpre_V (ci := 4) (q0 := 0) hK hPc hDc rfl rfl) rfl rfl hl.1 rfl (lv_room (Nat.le_of_ble_eq_true rfl)) dX5_branch_125 ⟨Nat.le_of_ble_eq_true rfl, Nat.le_of_ble_eq_true rfl⟩) hS (fun q _ h => hFc q h) hFc (fun u11 t H1 locs ht hvm hok hB hz1 hk1 hS => ?_)
      obtain ⟨hP, hD⟩ := cjoin_w ht hB hFc
      refine lv_goto (tgt := 318) hx hb dX5_branch_128 (by decide) ?_
      exact W.vret hx hb hr (fun t ht hW => ⟨⟨u11, rfl, hok, by rw [ht]; exact hP, va_K.moved hW.alike hK, hD⟩, hS.F ht⟩) hS.2.2 dX5_branch_318
    · have hok := hok.1 c10
      refine lv_iconst (v := 1) hx hb dX5_branch_119 (by decide) ?_
      refine lv_goto (tgt := 124) hx hb dX5_branch_120 (by decide) ?_
      refine lv_iload_n hx hb dX5_branch_124 rfl (lv_at hl 3 rfl) ?_
      have hPc := hP
      have hDc := hD
      have hFc := va_free (wc := w_Proc h cI cJ σ) hD hS hA [0, 1, 2, 3, 4, 5, 6, 7, 8, 9] rfl
      refine va_callv (va_runV (As := [.int 1, .int a3]) (rest := []) ⟨hx, hb, hml, hown, hts⟩ (c_X5_goIf l dC dI cI cJ h _ hok) (cwV 2 hts (tb_gV tw_2_217 tw_2_219 tw_p_29 tw_1_6 tw_2_220) rfl rfl rfl (by decide +kernel) ⟨Nat.le_of_ble_eq_true rfl, Nat.le_of_ble_eq_true rfl⟩) (cpre_V (ci := 4) (q0 := 0) hK hPc hDc rfl rfl) rfl rfl hl.1 rfl (lv_room (Nat.le_of_ble_eq_true rfl)) dX5_branch_125 ⟨Nat.le_of_ble_eq_true rfl, Nat.le_of_ble_eq_true rfl⟩) hS (fun q _ h => hFc q h) hFc (fun u12 t H1 locs ht hvm hok hB hz1 hk1 hS => ?_)
      obtain ⟨hP, hD⟩ := cjoin_w ht hB hFc
      refine lv_goto (tgt := 318) hx hb dX5_branch_128 (by decide) ?_
      exact W.vret hx hb hr (fun t ht hW => ⟨⟨u12, rfl, hok, by rw [ht]; exact hP, va_K.moved hW.alike hK, hD⟩, hS.F ht⟩) hS.2.2 dX5_branch_318
  have hok := hok.2
  by_cases c13 : a1 = 99
  · have hok := hok.1 c13
    refine lv_tableIn (tgt := 131) (off := 130) hx hb dX5_branch_1 (by rw [c13]; decide) (by rw [c13]; decide) (by rw [c13]; decide) (by decide) ?_
    refine lv_aload_n hx hb dX5_branch_131 rfl (lv_at hl 0 rfl) ?_
    refine lv_aload_n hx hb dX5_branch_132 rfl (lv_at hl 0 rfl) ?_
    refine va_get (D := (dC, dI)) (ci := 4) (v := .int (σ.1 4)) (C := RX5) (T := TX5) (N := 15) hx hb hts (fun w h => List.mem_cons_of_mem _ (in_X5 w h)) hown hK hP 0 rfl rfl 4 (by decide) (hts _ (List.mem_cons_of_mem _ tw_1_155)) (fun _ h9 => h9) rfl dX5_branch_133 ?_
    refine lv_bipush (v := 64) hx hb dX5_branch_136 (by decide) ?_
    refine lv_iand hx hb dX5_branch_138 ?_
    refine lv_if_eq (tgt := 146) hx hb dX5_branch_139 (by decide) (fun c14 => ?_) (fun c14 => ?_)
    · have hok := hok.1 c14
      refine lv_iconst (v := 0) hx hb dX5_branch_146 (by decide) ?_
      refine lv_iload_n hx hb dX5_branch_147 rfl (lv_at hl 3 rfl) ?_
      have hPc := hP
      have hDc := hD
      have hFc := va_free (wc := w_Proc h cI cJ σ) hD hS hA [0, 1, 2, 3, 4, 5, 6, 7, 8, 9] rfl
      refine va_callv (va_runV (As := [.int 0, .int a3]) (rest := []) ⟨hx, hb, hml, hown, hts⟩ (c_X5_goIf l dC dI cI cJ h _ hok) (cwV 2 hts (tb_gV tw_2_217 tw_2_219 tw_p_29 tw_1_6 tw_2_220) rfl rfl rfl (by decide +kernel) ⟨Nat.le_of_ble_eq_true rfl, Nat.le_of_ble_eq_true rfl⟩) (cpre_V (ci := 4) (q0 := 0) hK hPc hDc rfl rfl) rfl rfl hl.1 rfl (lv_room (Nat.le_of_ble_eq_true rfl)) dX5_branch_148 ⟨Nat.le_of_ble_eq_true rfl, Nat.le_of_ble_eq_true rfl⟩) hS (fun q _ h => hFc q h) hFc (fun u15 t H1 locs ht hvm hok hB hz1 hk1 hS => ?_)
      obtain ⟨hP, hD⟩ := cjoin_w ht hB hFc
      refine lv_goto (tgt := 318) hx hb dX5_branch_151 (by decide) ?_
      exact W.vret hx hb hr (fun t ht hW => ⟨⟨u15, rfl, hok, by rw [ht]; exact hP, va_K.moved hW.alike hK, hD⟩, hS.F ht⟩) hS.2.2 dX5_branch_318
    · have hok := hok.2 c14
      refine lv_iconst (v := 1) hx hb dX5_branch_142 (by decide) ?_
      refine lv_goto (tgt := 147) hx hb dX5_branch_143 (by decide) ?_
      refine lv_iload_n hx hb dX5_branch_147 rfl (lv_at hl 3 rfl) ?_
      have hPc := hP
      have hDc := hD
      have hFc := va_free (wc := w_Proc h cI cJ σ) hD hS hA [0, 1, 2, 3, 4, 5, 6, 7, 8, 9] rfl
      refine va_callv (va_runV (As := [.int 1, .int a3]) (rest := []) ⟨hx, hb, hml, hown, hts⟩ (c_X5_goIf l dC dI cI cJ h _ hok) (cwV 2 hts (tb_gV tw_2_217 tw_2_219 tw_p_29 tw_1_6 tw_2_220) rfl rfl rfl (by decide +kernel) ⟨Nat.le_of_ble_eq_true rfl, Nat.le_of_ble_eq_true rfl⟩) (cpre_V (ci := 4) (q0 := 0) hK hPc hDc rfl rfl) rfl rfl hl.1 rfl (lv_room (Nat.le_of_ble_eq_true rfl)) dX5_branch_148 ⟨Nat.le_of_ble_eq_true rfl, Nat.le_of_ble_eq_true rfl⟩) hS (fun q _ h => hFc q h) hFc (fun u16 t H1 locs ht hvm hok hB hz1 hk1 hS => ?_)
      obtain ⟨hP, hD⟩ := cjoin_w ht hB hFc
      refine lv_goto (tgt := 318) hx hb dX5_branch_151 (by decide) ?_
      exact W.vret hx hb hr (fun t ht hW => ⟨⟨u16, rfl, hok, by rw [ht]; exact hP, va_K.moved hW.alike hK, hD⟩, hS.F ht⟩) hS.2.2 dX5_branch_318
  have hok := hok.2
  by_cases c17 : a1 = 100
  · have hok := hok.1 c17
    refine lv_tableIn (tgt := 154) (off := 153) hx hb dX5_branch_1 (by rw [c17]; decide) (by rw [c17]; decide) (by rw [c17]; decide) (by decide) ?_
    refine lv_aload_n hx hb dX5_branch_154 rfl (lv_at hl 0 rfl) ?_
    refine lv_aload_n hx hb dX5_branch_155 rfl (lv_at hl 0 rfl) ?_
    refine va_get (D := (dC, dI)) (ci := 4) (v := .int (σ.1 4)) (C := RX5) (T := TX5) (N := 15) hx hb hts (fun w h => List.mem_cons_of_mem _ (in_X5 w h)) hown hK hP 0 rfl rfl 4 (by decide) (hts _ (List.mem_cons_of_mem _ tw_1_155)) (fun _ h9 => h9) rfl dX5_branch_156 ?_
    refine lv_iconst (v := 1) hx hb dX5_branch_159 (by decide) ?_
    refine lv_iand hx hb dX5_branch_160 ?_
    refine lv_if_ne (tgt := 168) hx hb dX5_branch_161 (by decide) (fun c18 => ?_) (fun c18 => ?_)
    · have hok := hok.2 c18
      refine lv_iconst (v := 0) hx hb dX5_branch_168 (by decide) ?_
      refine lv_iload_n hx hb dX5_branch_169 rfl (lv_at hl 3 rfl) ?_
      have hPc := hP
      have hDc := hD
      have hFc := va_free (wc := w_Proc h cI cJ σ) hD hS hA [0, 1, 2, 3, 4, 5, 6, 7, 8, 9] rfl
      refine va_callv (va_runV (As := [.int 0, .int a3]) (rest := []) ⟨hx, hb, hml, hown, hts⟩ (c_X5_goIf l dC dI cI cJ h _ hok) (cwV 2 hts (tb_gV tw_2_217 tw_2_219 tw_p_29 tw_1_6 tw_2_220) rfl rfl rfl (by decide +kernel) ⟨Nat.le_of_ble_eq_true rfl, Nat.le_of_ble_eq_true rfl⟩) (cpre_V (ci := 4) (q0 := 0) hK hPc hDc rfl rfl) rfl rfl hl.1 rfl (lv_room (Nat.le_of_ble_eq_true rfl)) dX5_branch_170 ⟨Nat.le_of_ble_eq_true rfl, Nat.le_of_ble_eq_true rfl⟩) hS (fun q _ h => hFc q h) hFc (fun u19 t H1 locs ht hvm hok hB hz1 hk1 hS => ?_)
      obtain ⟨hP, hD⟩ := cjoin_w ht hB hFc
      refine lv_goto (tgt := 318) hx hb dX5_branch_173 (by decide) ?_
      exact W.vret hx hb hr (fun t ht hW => ⟨⟨u19, rfl, hok, by rw [ht]; exact hP, va_K.moved hW.alike hK, hD⟩, hS.F ht⟩) hS.2.2 dX5_branch_318
    · have hok := hok.1 c18
      refine lv_iconst (v := 1) hx hb dX5_branch_164 (by decide) ?_
      refine lv_goto (tgt := 169) hx hb dX5_branch_165 (by decide) ?_
      refine lv_iload_n hx hb dX5_branch_169 rfl (lv_at hl 3 rfl) ?_
      have hPc := hP
      have hDc := hD
      have hFc := va_free (wc := w_Proc h cI cJ σ) hD hS hA [0, 1, 2, 3, 4, 5, 6, 7, 8, 9] rfl
      refine va_callv (va_runV (As := [.int 1, .int a3]) (rest := []) ⟨hx, hb, hml, hown, hts⟩ (c_X5_goIf l dC dI cI cJ h _ hok) (cwV 2 hts (tb_gV tw_2_217 tw_2_219 tw_p_29 tw_1_6 tw_2_220) rfl rfl rfl (by decide +kernel) ⟨Nat.le_of_ble_eq_true rfl, Nat.le_of_ble_eq_true rfl⟩) (cpre_V (ci := 4) (q0 := 0) hK hPc hDc rfl rfl) rfl rfl hl.1 rfl (lv_room (Nat.le_of_ble_eq_true rfl)) dX5_branch_170 ⟨Nat.le_of_ble_eq_true rfl, Nat.le_of_ble_eq_true rfl⟩) hS (fun q _ h => hFc q h) hFc (fun u20 t H1 locs ht hvm hok hB hz1 hk1 hS => ?_)
      obtain ⟨hP, hD⟩ := cjoin_w ht hB hFc
      refine lv_goto (tgt := 318) hx hb dX5_branch_173 (by decide) ?_
      exact W.vret hx hb hr (fun t ht hW => ⟨⟨u20, rfl, hok, by rw [ht]; exact hP, va_K.moved hW.alike hK, hD⟩, hS.F ht⟩) hS.2.2 dX5_branch_318
  have hok := hok.2
  by_cases c21 : a1 = 101
  · have hok := hok.1 c21
    refine lv_tableIn (tgt := 176) (off := 175) hx hb dX5_branch_1 (by rw [c21]; decide) (by rw [c21]; decide) (by rw [c21]; decide) (by decide) ?_
    refine lv_aload_n hx hb dX5_branch_176 rfl (lv_at hl 0 rfl) ?_
    refine lv_aload_n hx hb dX5_branch_177 rfl (lv_at hl 0 rfl) ?_
    refine va_get (D := (dC, dI)) (ci := 4) (v := .int (σ.1 4)) (C := RX5) (T := TX5) (N := 15) hx hb hts (fun w h => List.mem_cons_of_mem _ (in_X5 w h)) hown hK hP 0 rfl rfl 4 (by decide) (hts _ (List.mem_cons_of_mem _ tw_1_155)) (fun _ h9 => h9) rfl dX5_branch_178 ?_
    refine lv_iconst (v := 1) hx hb dX5_branch_181 (by decide) ?_
    refine lv_iand hx hb dX5_branch_182 ?_
    refine lv_if_eq (tgt := 190) hx hb dX5_branch_183 (by decide) (fun c22 => ?_) (fun c22 => ?_)
    · have hok := hok.1 c22
      refine lv_iconst (v := 0) hx hb dX5_branch_190 (by decide) ?_
      refine lv_iload_n hx hb dX5_branch_191 rfl (lv_at hl 3 rfl) ?_
      have hPc := hP
      have hDc := hD
      have hFc := va_free (wc := w_Proc h cI cJ σ) hD hS hA [0, 1, 2, 3, 4, 5, 6, 7, 8, 9] rfl
      refine va_callv (va_runV (As := [.int 0, .int a3]) (rest := []) ⟨hx, hb, hml, hown, hts⟩ (c_X5_goIf l dC dI cI cJ h _ hok) (cwV 2 hts (tb_gV tw_2_217 tw_2_219 tw_p_29 tw_1_6 tw_2_220) rfl rfl rfl (by decide +kernel) ⟨Nat.le_of_ble_eq_true rfl, Nat.le_of_ble_eq_true rfl⟩) (cpre_V (ci := 4) (q0 := 0) hK hPc hDc rfl rfl) rfl rfl hl.1 rfl (lv_room (Nat.le_of_ble_eq_true rfl)) dX5_branch_192 ⟨Nat.le_of_ble_eq_true rfl, Nat.le_of_ble_eq_true rfl⟩) hS (fun q _ h => hFc q h) hFc (fun u23 t H1 locs ht hvm hok hB hz1 hk1 hS => ?_)
      obtain ⟨hP, hD⟩ := cjoin_w ht hB hFc
      refine lv_goto (tgt := 318) hx hb dX5_branch_195 (by decide) ?_
      exact W.vret hx hb hr (fun t ht hW => ⟨⟨u23, rfl, hok, by rw [ht]; exact hP, va_K.moved hW.alike hK, hD⟩, hS.F ht⟩) hS.2.2 dX5_branch_318
    · have hok := hok.2 c22
      refine lv_iconst (v := 1) hx hb dX5_branch_186 (by decide) ?_
      refine lv_goto (tgt := 191) hx hb dX5_branch_187 (by decide) ?_
      refine lv_iload_n hx hb dX5_branch_191 rfl (lv_at hl 3 rfl) ?_
      have hPc := hP
      have hDc := hD
      have hFc := va_free (wc := w_Proc h cI cJ σ) hD hS hA [0, 1, 2, 3, 4, 5, 6, 7, 8, 9] rfl
      refine va_callv (va_runV (As := [.int 1, .int a3]) (rest := []) ⟨hx, hb, hml, hown, hts⟩ (c_X5_goIf l dC dI cI cJ h _ hok) (cwV 2 hts (tb_gV tw_2_217 tw_2_219 tw_p_29 tw_1_6 tw_2_220) rfl rfl rfl (by decide +kernel) ⟨Nat.le_of_ble_eq_true rfl, Nat.le_of_ble_eq_true rfl⟩) (cpre_V (ci := 4) (q0 := 0) hK hPc hDc rfl rfl) rfl rfl hl.1 rfl (lv_room (Nat.le_of_ble_eq_true rfl)) dX5_branch_192 ⟨Nat.le_of_ble_eq_true rfl, Nat.le_of_ble_eq_true rfl⟩) hS (fun q _ h => hFc q h) hFc (fun u24 t H1 locs ht hvm hok hB hz1 hk1 hS => ?_)
      obtain ⟨hP, hD⟩ := cjoin_w ht hB hFc
      refine lv_goto (tgt := 318) hx hb dX5_branch_195 (by decide) ?_
      exact W.vret hx hb hr (fun t ht hW => ⟨⟨u24, rfl, hok, by rw [ht]; exact hP, va_K.moved hW.alike hK, hD⟩, hS.F ht⟩) hS.2.2 dX5_branch_318
  have hok := hok.2
  by_cases c25 : a1 = 102
  · have hok := hok.1 c25
    refine lv_tableIn (tgt := 198) (off := 197) hx hb dX5_branch_1 (by rw [c25]; decide) (by rw [c25]; decide) (by rw [c25]; decide) (by decide) ?_
    refine lv_aload_n hx hb dX5_branch_198 rfl (lv_at hl 0 rfl) ?_
    refine lv_aload_n hx hb dX5_branch_199 rfl (lv_at hl 0 rfl) ?_
    refine va_get (D := (dC, dI)) (ci := 4) (v := .int (σ.1 4)) (C := RX5) (T := TX5) (N := 15) hx hb hts (fun w h => List.mem_cons_of_mem _ (in_X5 w h)) hown hK hP 0 rfl rfl 4 (by decide) (hts _ (List.mem_cons_of_mem _ tw_1_155)) (fun _ h9 => h9) rfl dX5_branch_200 ?_
    refine lv_iconst (v := 2) hx hb dX5_branch_203 (by decide) ?_
    refine lv_iand hx hb dX5_branch_204 ?_
    refine lv_if_ne (tgt := 212) hx hb dX5_branch_205 (by decide) (fun c26 => ?_) (fun c26 => ?_)
    · have hok := hok.2 c26
      refine lv_iconst (v := 0) hx hb dX5_branch_212 (by decide) ?_
      refine lv_iload_n hx hb dX5_branch_213 rfl (lv_at hl 3 rfl) ?_
      have hPc := hP
      have hDc := hD
      have hFc := va_free (wc := w_Proc h cI cJ σ) hD hS hA [0, 1, 2, 3, 4, 5, 6, 7, 8, 9] rfl
      refine va_callv (va_runV (As := [.int 0, .int a3]) (rest := []) ⟨hx, hb, hml, hown, hts⟩ (c_X5_goIf l dC dI cI cJ h _ hok) (cwV 2 hts (tb_gV tw_2_217 tw_2_219 tw_p_29 tw_1_6 tw_2_220) rfl rfl rfl (by decide +kernel) ⟨Nat.le_of_ble_eq_true rfl, Nat.le_of_ble_eq_true rfl⟩) (cpre_V (ci := 4) (q0 := 0) hK hPc hDc rfl rfl) rfl rfl hl.1 rfl (lv_room (Nat.le_of_ble_eq_true rfl)) dX5_branch_214 ⟨Nat.le_of_ble_eq_true rfl, Nat.le_of_ble_eq_true rfl⟩) hS (fun q _ h => hFc q h) hFc (fun u27 t H1 locs ht hvm hok hB hz1 hk1 hS => ?_)
      obtain ⟨hP, hD⟩ := cjoin_w ht hB hFc
      refine lv_goto (tgt := 318) hx hb dX5_branch_217 (by decide) ?_
      exact W.vret hx hb hr (fun t ht hW => ⟨⟨u27, rfl, hok, by rw [ht]; exact hP, va_K.moved hW.alike hK, hD⟩, hS.F ht⟩) hS.2.2 dX5_branch_318
    · have hok := hok.1 c26
      refine lv_iconst (v := 1) hx hb dX5_branch_208 (by decide) ?_
      refine lv_goto (tgt := 213) hx hb dX5_branch_209 (by decide) ?_
      refine lv_iload_n hx hb dX5_branch_213 rfl (lv_at hl 3 rfl) ?_
      have hPc := hP
      have hDc := hD
      have hFc := va_free (wc := w_Proc h cI cJ σ) hD hS hA [0, 1, 2, 3, 4, 5, 6, 7, 8, 9] rfl
      refine va_callv (va_runV (As := [.int 1, .int a3]) (rest := []) ⟨hx, hb, hml, hown, hts⟩ (c_X5_goIf l dC dI cI cJ h _ hok) (cwV 2 hts (tb_gV tw_2_217 tw_2_219 tw_p_29 tw_1_6 tw_2_220) rfl rfl rfl (by decide +kernel) ⟨Nat.le_of_ble_eq_true rfl, Nat.le_of_ble_eq_true rfl⟩) (cpre_V (ci := 4) (q0 := 0) hK hPc hDc rfl rfl) rfl rfl hl.1 rfl (lv_room (Nat.le_of_ble_eq_true rfl)) dX5_branch_214 ⟨Nat.le_of_ble_eq_true rfl, Nat.le_of_ble_eq_true rfl⟩) hS (fun q _ h => hFc q h) hFc (fun u28 t H1 locs ht hvm hok hB hz1 hk1 hS => ?_)
      obtain ⟨hP, hD⟩ := cjoin_w ht hB hFc
      refine lv_goto (tgt := 318) hx hb dX5_branch_217 (by decide) ?_
      exact W.vret hx hb hr (fun t ht hW => ⟨⟨u28, rfl, hok, by rw [ht]; exact hP, va_K.moved hW.alike hK, hD⟩, hS.F ht⟩) hS.2.2 dX5_branch_318
  have hok := hok.2
  by_cases c29 : a1 = 103
  · have hok := hok.1 c29
    refine lv_tableIn (tgt := 220) (off := 219) hx hb dX5_branch_1 (by rw [c29]; decide) (by rw [c29]; decide) (by rw [c29]; decide) (by decide) ?_
    refine lv_aload_n hx hb dX5_branch_220 rfl (lv_at hl 0 rfl) ?_
    refine lv_aload_n hx hb dX5_branch_221 rfl (lv_at hl 0 rfl) ?_
    refine va_get (D := (dC, dI)) (ci := 4) (v := .int (σ.1 4)) (C := RX5) (T := TX5) (N := 15) hx hb hts (fun w h => List.mem_cons_of_mem _ (in_X5 w h)) hown hK hP 0 rfl rfl 4 (by decide) (hts _ (List.mem_cons_of_mem _ tw_1_155)) (fun _ h9 => h9) rfl dX5_branch_222 ?_
    refine lv_iconst (v := 2) hx hb dX5_branch_225 (by decide) ?_
    refine lv_iand hx hb dX5_branch_226 ?_
    refine lv_if_eq (tgt := 234) hx hb dX5_branch_227 (by decide) (fun c30 => ?_) (fun c30 => ?_)
    · have hok := hok.1 c30
      refine lv_iconst (v := 0) hx hb dX5_branch_234 (by decide) ?_
      refine lv_iload_n hx hb dX5_branch_235 rfl (lv_at hl 3 rfl) ?_
      have hPc := hP
      have hDc := hD
      have hFc := va_free (wc := w_Proc h cI cJ σ) hD hS hA [0, 1, 2, 3, 4, 5, 6, 7, 8, 9] rfl
      refine va_callv (va_runV (As := [.int 0, .int a3]) (rest := []) ⟨hx, hb, hml, hown, hts⟩ (c_X5_goIf l dC dI cI cJ h _ hok) (cwV 2 hts (tb_gV tw_2_217 tw_2_219 tw_p_29 tw_1_6 tw_2_220) rfl rfl rfl (by decide +kernel) ⟨Nat.le_of_ble_eq_true rfl, Nat.le_of_ble_eq_true rfl⟩) (cpre_V (ci := 4) (q0 := 0) hK hPc hDc rfl rfl) rfl rfl hl.1 rfl (lv_room (Nat.le_of_ble_eq_true rfl)) dX5_branch_236 ⟨Nat.le_of_ble_eq_true rfl, Nat.le_of_ble_eq_true rfl⟩) hS (fun q _ h => hFc q h) hFc (fun u31 t H1 locs ht hvm hok hB hz1 hk1 hS => ?_)
      obtain ⟨hP, hD⟩ := cjoin_w ht hB hFc
      refine lv_goto (tgt := 318) hx hb dX5_branch_239 (by decide) ?_
      exact W.vret hx hb hr (fun t ht hW => ⟨⟨u31, rfl, hok, by rw [ht]; exact hP, va_K.moved hW.alike hK, hD⟩, hS.F ht⟩) hS.2.2 dX5_branch_318
    · have hok := hok.2 c30
      refine lv_iconst (v := 1) hx hb dX5_branch_230 (by decide) ?_
      refine lv_goto (tgt := 235) hx hb dX5_branch_231 (by decide) ?_
      refine lv_iload_n hx hb dX5_branch_235 rfl (lv_at hl 3 rfl) ?_
      have hPc := hP
      have hDc := hD
      have hFc := va_free (wc := w_Proc h cI cJ σ) hD hS hA [0, 1, 2, 3, 4, 5, 6, 7, 8, 9] rfl
      refine va_callv (va_runV (As := [.int 1, .int a3]) (rest := []) ⟨hx, hb, hml, hown, hts⟩ (c_X5_goIf l dC dI cI cJ h _ hok) (cwV 2 hts (tb_gV tw_2_217 tw_2_219 tw_p_29 tw_1_6 tw_2_220) rfl rfl rfl (by decide +kernel) ⟨Nat.le_of_ble_eq_true rfl, Nat.le_of_ble_eq_true rfl⟩) (cpre_V (ci := 4) (q0 := 0) hK hPc hDc rfl rfl) rfl rfl hl.1 rfl (lv_room (Nat.le_of_ble_eq_true rfl)) dX5_branch_236 ⟨Nat.le_of_ble_eq_true rfl, Nat.le_of_ble_eq_true rfl⟩) hS (fun q _ h => hFc q h) hFc (fun u32 t H1 locs ht hvm hok hB hz1 hk1 hS => ?_)
      obtain ⟨hP, hD⟩ := cjoin_w ht hB hFc
      refine lv_goto (tgt := 318) hx hb dX5_branch_239 (by decide) ?_
      exact W.vret hx hb hr (fun t ht hW => ⟨⟨u32, rfl, hok, by rw [ht]; exact hP, va_K.moved hW.alike hK, hD⟩, hS.F ht⟩) hS.2.2 dX5_branch_318
  have hok := hok.2
  by_cases c33 : a1 = 105
  · have hok := hok.1 c33
    refine lv_tableIn (tgt := 242) (off := 241) hx hb dX5_branch_1 (by rw [c33]; decide) (by rw [c33]; decide) (by rw [c33]; decide) (by decide) ?_
    refine lv_aload_n hx hb dX5_branch_242 rfl (lv_at hl 0 rfl) ?_
    refine lv_aload_n hx hb dX5_branch_243 rfl (lv_at hl 0 rfl) ?_
    refine va_get (D := (dC, dI)) (ci := 4) (v := .ref (h 4)) (C := RX5) (T := TX5) (N := 15) hx hb hts (fun w h => List.mem_cons_of_mem _ (in_X5 w h)) hown hK hP 0 rfl rfl 12 (by decide) (hts _ (List.mem_cons_of_mem _ tw_1_171)) (fun _ h9 => h9) rfl dX5_branch_244 ?_
    refine lv_iload_n hx hb dX5_branch_247 rfl (lv_at hl 3 rfl) ?_
    refine lv_sipush (v := 255) hx hb dX5_branch_248 (by decide) ?_
    refine lv_iand hx hb dX5_branch_251 ?_
    have hPc := hP.sub (ws' := w_Board h cI cJ σ.2.2.2) [3, 4, 5, 6, 7, 8, 9] rfl
    have hDc := hD.sub (ws' := w_Board h cI cJ σ.2.2.2) [3, 4, 5, 6, 7, 8, 9] (by decide) rfl
    have hFc := va_free (wc := w_Board h cI cJ σ.2.2.2) hD hS hA [3, 4, 5, 6, 7, 8, 9] rfl
    refine va_calli (va_runV (As := [.int (a3 &&& (255 : Int32))]) (rest := [.ref (h 1)]) ⟨hx, hb, hml, hown, hts⟩ (c_X0_read l dC dI cI cJ h _ hok) (cwV 1 hts (tb_gV tw_2_14 tw_2_15 tw_2_16 tw_1_2 tw_2_17) rfl rfl rfl (by decide +kernel) ⟨Nat.le_of_ble_eq_true rfl, Nat.le_of_ble_eq_true rfl⟩) (cpre_V (ci := 0) (q0 := 0) hK hPc hDc rfl rfl) rfl rfl hl.1 rfl (lv_room (Nat.le_of_ble_eq_true rfl)) dX5_branch_252 ⟨Nat.le_of_ble_eq_true rfl, Nat.le_of_ble_eq_true rfl⟩) hS (fun q _ h => hFc q h) hFc (fun r34 u35 t H1 locs ht hvm hok hB hz1 hk1 hS => ?_)
    obtain ⟨hP, hD⟩ := cjoin ht hP hD [3, 4, 5, 6, 7, 8, 9] [0, 1, 2] rfl rfl (by decide) (by decide) hk1 hFc hB
    have hP := hP.sub (ws' := w_Proc h cI cJ (σ.1, σ.2.1, σ.2.2.1, u35)) [0, 1, 2, 3, 4, 5, 6, 7, 8, 9] rfl
    have hD := hD.sub (ws' := w_Proc h cI cJ (σ.1, σ.2.1, σ.2.2.1, u35)) [0, 1, 2, 3, 4, 5, 6, 7, 8, 9] (by decide) rfl
    refine lv_iload_n hx hb dX5_branch_255 rfl (lv_at hl 2 rfl) ?_
    refine lv_ishr hx hb dX5_branch_256 ?_
    refine lv_iconst (v := 1) hx hb dX5_branch_257 (by decide) ?_
    refine lv_iand hx hb dX5_branch_258 ?_
    refine lv_if_ne (tgt := 266) hx hb dX5_branch_259 (by decide) (fun c36 => ?_) (fun c36 => ?_)
    · have hok := hok.2 c36
      refine lv_iconst (v := 0) hx hb dX5_branch_266 (by decide) ?_
      refine lv_iload_n hx hb dX5_branch_267 rfl (lv_at hl 3 rfl) ?_
      refine lv_bipush (v := 8) hx hb dX5_branch_268 (by decide) ?_
      refine lv_ishr hx hb dX5_branch_270 ?_
      have hPc := hP
      have hDc := hD
      have hFc := va_free (wc := w_Proc h cI cJ (σ.1, σ.2.1, σ.2.2.1, u35)) hD hS hA [0, 1, 2, 3, 4, 5, 6, 7, 8, 9] rfl
      refine va_callv (va_runV (As := [.int 0, .int (a3 >>> ((8 : Int32) &&& 31))]) (rest := []) ⟨hx, hb, hml, hown, hts⟩ (c_X5_goIf l dC dI cI cJ h _ hok) (cwV 2 hts (tb_gV tw_2_217 tw_2_219 tw_p_29 tw_1_6 tw_2_220) rfl rfl rfl (by decide +kernel) ⟨Nat.le_of_ble_eq_true rfl, Nat.le_of_ble_eq_true rfl⟩) (cpre_V (ci := 4) (q0 := 0) hK hPc hDc rfl rfl) rfl rfl hl.1 rfl (lv_room (Nat.le_of_ble_eq_true rfl)) dX5_branch_271 ⟨Nat.le_of_ble_eq_true rfl, Nat.le_of_ble_eq_true rfl⟩) hS (fun q _ h => hFc q h) hFc (fun u37 t H1 locs ht hvm hok hB hz1 hk1 hS => ?_)
      obtain ⟨hP, hD⟩ := cjoin_w ht hB hFc
      refine lv_goto (tgt := 318) hx hb dX5_branch_274 (by decide) ?_
      exact W.vret hx hb hr (fun t ht hW => ⟨⟨u37, rfl, hok, by rw [ht]; exact hP, va_K.moved hW.alike hK, hD⟩, hS.F ht⟩) hS.2.2 dX5_branch_318
    · have hok := hok.1 c36
      refine lv_iconst (v := 1) hx hb dX5_branch_262 (by decide) ?_
      refine lv_goto (tgt := 267) hx hb dX5_branch_263 (by decide) ?_
      refine lv_iload_n hx hb dX5_branch_267 rfl (lv_at hl 3 rfl) ?_
      refine lv_bipush (v := 8) hx hb dX5_branch_268 (by decide) ?_
      refine lv_ishr hx hb dX5_branch_270 ?_
      have hPc := hP
      have hDc := hD
      have hFc := va_free (wc := w_Proc h cI cJ (σ.1, σ.2.1, σ.2.2.1, u35)) hD hS hA [0, 1, 2, 3, 4, 5, 6, 7, 8, 9] rfl
      refine va_callv (va_runV (As := [.int 1, .int (a3 >>> ((8 : Int32) &&& 31))]) (rest := []) ⟨hx, hb, hml, hown, hts⟩ (c_X5_goIf l dC dI cI cJ h _ hok) (cwV 2 hts (tb_gV tw_2_217 tw_2_219 tw_p_29 tw_1_6 tw_2_220) rfl rfl rfl (by decide +kernel) ⟨Nat.le_of_ble_eq_true rfl, Nat.le_of_ble_eq_true rfl⟩) (cpre_V (ci := 4) (q0 := 0) hK hPc hDc rfl rfl) rfl rfl hl.1 rfl (lv_room (Nat.le_of_ble_eq_true rfl)) dX5_branch_271 ⟨Nat.le_of_ble_eq_true rfl, Nat.le_of_ble_eq_true rfl⟩) hS (fun q _ h => hFc q h) hFc (fun u38 t H1 locs ht hvm hok hB hz1 hk1 hS => ?_)
      obtain ⟨hP, hD⟩ := cjoin_w ht hB hFc
      refine lv_goto (tgt := 318) hx hb dX5_branch_274 (by decide) ?_
      exact W.vret hx hb hr (fun t ht hW => ⟨⟨u38, rfl, hok, by rw [ht]; exact hP, va_K.moved hW.alike hK, hD⟩, hS.F ht⟩) hS.2.2 dX5_branch_318
  have hok := hok.2
  by_cases c39 : a1 = 106
  · have hok := hok.1 c39
    refine lv_tableIn (tgt := 277) (off := 276) hx hb dX5_branch_1 (by rw [c39]; decide) (by rw [c39]; decide) (by rw [c39]; decide) (by decide) ?_
    refine lv_aload_n hx hb dX5_branch_277 rfl (lv_at hl 0 rfl) ?_
    refine lv_aload_n hx hb dX5_branch_278 rfl (lv_at hl 0 rfl) ?_
    refine va_get (D := (dC, dI)) (ci := 4) (v := .ref (h 4)) (C := RX5) (T := TX5) (N := 15) hx hb hts (fun w h => List.mem_cons_of_mem _ (in_X5 w h)) hown hK hP 0 rfl rfl 12 (by decide) (hts _ (List.mem_cons_of_mem _ tw_1_171)) (fun _ h9 => h9) rfl dX5_branch_279 ?_
    refine lv_iload_n hx hb dX5_branch_282 rfl (lv_at hl 3 rfl) ?_
    refine lv_sipush (v := 255) hx hb dX5_branch_283 (by decide) ?_
    refine lv_iand hx hb dX5_branch_286 ?_
    have hPc := hP.sub (ws' := w_Board h cI cJ σ.2.2.2) [3, 4, 5, 6, 7, 8, 9] rfl
    have hDc := hD.sub (ws' := w_Board h cI cJ σ.2.2.2) [3, 4, 5, 6, 7, 8, 9] (by decide) rfl
    have hFc := va_free (wc := w_Board h cI cJ σ.2.2.2) hD hS hA [3, 4, 5, 6, 7, 8, 9] rfl
    refine va_calli (va_runV (As := [.int (a3 &&& (255 : Int32))]) (rest := [.ref (h 1)]) ⟨hx, hb, hml, hown, hts⟩ (c_X0_read l dC dI cI cJ h _ hok) (cwV 1 hts (tb_gV tw_2_14 tw_2_15 tw_2_16 tw_1_2 tw_2_17) rfl rfl rfl (by decide +kernel) ⟨Nat.le_of_ble_eq_true rfl, Nat.le_of_ble_eq_true rfl⟩) (cpre_V (ci := 0) (q0 := 0) hK hPc hDc rfl rfl) rfl rfl hl.1 rfl (lv_room (Nat.le_of_ble_eq_true rfl)) dX5_branch_287 ⟨Nat.le_of_ble_eq_true rfl, Nat.le_of_ble_eq_true rfl⟩) hS (fun q _ h => hFc q h) hFc (fun r40 u41 t H1 locs ht hvm hok hB hz1 hk1 hS => ?_)
    obtain ⟨hP, hD⟩ := cjoin ht hP hD [3, 4, 5, 6, 7, 8, 9] [0, 1, 2] rfl rfl (by decide) (by decide) hk1 hFc hB
    have hP := hP.sub (ws' := w_Proc h cI cJ (σ.1, σ.2.1, σ.2.2.1, u41)) [0, 1, 2, 3, 4, 5, 6, 7, 8, 9] rfl
    have hD := hD.sub (ws' := w_Proc h cI cJ (σ.1, σ.2.1, σ.2.2.1, u41)) [0, 1, 2, 3, 4, 5, 6, 7, 8, 9] (by decide) rfl
    refine lv_iload_n hx hb dX5_branch_290 rfl (lv_at hl 2 rfl) ?_
    refine lv_ishr hx hb dX5_branch_291 ?_
    refine lv_iconst (v := 1) hx hb dX5_branch_292 (by decide) ?_
    refine lv_iand hx hb dX5_branch_293 ?_
    refine lv_if_eq (tgt := 301) hx hb dX5_branch_294 (by decide) (fun c42 => ?_) (fun c42 => ?_)
    · have hok := hok.1 c42
      refine lv_iconst (v := 0) hx hb dX5_branch_301 (by decide) ?_
      refine lv_iload_n hx hb dX5_branch_302 rfl (lv_at hl 3 rfl) ?_
      refine lv_bipush (v := 8) hx hb dX5_branch_303 (by decide) ?_
      refine lv_ishr hx hb dX5_branch_305 ?_
      have hPc := hP
      have hDc := hD
      have hFc := va_free (wc := w_Proc h cI cJ (σ.1, σ.2.1, σ.2.2.1, u41)) hD hS hA [0, 1, 2, 3, 4, 5, 6, 7, 8, 9] rfl
      refine va_callv (va_runV (As := [.int 0, .int (a3 >>> ((8 : Int32) &&& 31))]) (rest := []) ⟨hx, hb, hml, hown, hts⟩ (c_X5_goIf l dC dI cI cJ h _ hok) (cwV 2 hts (tb_gV tw_2_217 tw_2_219 tw_p_29 tw_1_6 tw_2_220) rfl rfl rfl (by decide +kernel) ⟨Nat.le_of_ble_eq_true rfl, Nat.le_of_ble_eq_true rfl⟩) (cpre_V (ci := 4) (q0 := 0) hK hPc hDc rfl rfl) rfl rfl hl.1 rfl (lv_room (Nat.le_of_ble_eq_true rfl)) dX5_branch_306 ⟨Nat.le_of_ble_eq_true rfl, Nat.le_of_ble_eq_true rfl⟩) hS (fun q _ h => hFc q h) hFc (fun u43 t H1 locs ht hvm hok hB hz1 hk1 hS => ?_)
      obtain ⟨hP, hD⟩ := cjoin_w ht hB hFc
      refine lv_goto (tgt := 318) hx hb dX5_branch_309 (by decide) ?_
      exact W.vret hx hb hr (fun t ht hW => ⟨⟨u43, rfl, hok, by rw [ht]; exact hP, va_K.moved hW.alike hK, hD⟩, hS.F ht⟩) hS.2.2 dX5_branch_318
    · have hok := hok.2 c42
      refine lv_iconst (v := 1) hx hb dX5_branch_297 (by decide) ?_
      refine lv_goto (tgt := 302) hx hb dX5_branch_298 (by decide) ?_
      refine lv_iload_n hx hb dX5_branch_302 rfl (lv_at hl 3 rfl) ?_
      refine lv_bipush (v := 8) hx hb dX5_branch_303 (by decide) ?_
      refine lv_ishr hx hb dX5_branch_305 ?_
      have hPc := hP
      have hDc := hD
      have hFc := va_free (wc := w_Proc h cI cJ (σ.1, σ.2.1, σ.2.2.1, u41)) hD hS hA [0, 1, 2, 3, 4, 5, 6, 7, 8, 9] rfl
      refine va_callv (va_runV (As := [.int 1, .int (a3 >>> ((8 : Int32) &&& 31))]) (rest := []) ⟨hx, hb, hml, hown, hts⟩ (c_X5_goIf l dC dI cI cJ h _ hok) (cwV 2 hts (tb_gV tw_2_217 tw_2_219 tw_p_29 tw_1_6 tw_2_220) rfl rfl rfl (by decide +kernel) ⟨Nat.le_of_ble_eq_true rfl, Nat.le_of_ble_eq_true rfl⟩) (cpre_V (ci := 4) (q0 := 0) hK hPc hDc rfl rfl) rfl rfl hl.1 rfl (lv_room (Nat.le_of_ble_eq_true rfl)) dX5_branch_306 ⟨Nat.le_of_ble_eq_true rfl, Nat.le_of_ble_eq_true rfl⟩) hS (fun q _ h => hFc q h) hFc (fun u44 t H1 locs ht hvm hok hB hz1 hk1 hS => ?_)
      obtain ⟨hP, hD⟩ := cjoin_w ht hB hFc
      refine lv_goto (tgt := 318) hx hb dX5_branch_309 (by decide) ?_
      exact W.vret hx hb hr (fun t ht hW => ⟨⟨u44, rfl, hok, by rw [ht]; exact hP, va_K.moved hW.alike hK, hD⟩, hS.F ht⟩) hS.2.2 dX5_branch_318
  have hok := hok.2
  have hok := hok ⟨c1, c5, c9, c13, c17, c21, c25, c29, c33, c39⟩
  have kz44 : ∀ k ∈ ([96, 97, 98, 99, 100, 101, 102, 103, 105, 106] : List Int), (a1).toInt ≠ k := List.forall_mem_cons.mpr ⟨tb_ne c1 rfl, List.forall_mem_cons.mpr ⟨tb_ne c5 rfl, List.forall_mem_cons.mpr ⟨tb_ne c9 rfl, List.forall_mem_cons.mpr ⟨tb_ne c13 rfl, List.forall_mem_cons.mpr ⟨tb_ne c17 rfl, List.forall_mem_cons.mpr ⟨tb_ne c21 rfl, List.forall_mem_cons.mpr ⟨tb_ne c25 rfl, List.forall_mem_cons.mpr ⟨tb_ne c29 rfl, List.forall_mem_cons.mpr ⟨tb_ne c33 rfl, List.forall_mem_cons.mpr ⟨tb_ne c39 rfl, fun k h => absurd h List.not_mem_nil⟩⟩⟩⟩⟩⟩⟩⟩⟩⟩
  refine tb_def (tgt := 312) (keys := [96, 97, 98, 99, 100, 101, 102, 103, 105, 106]) hx hb dX5_branch_1 kz44 (by decide) (by decide) ?_
  refine lv_aload_n hx hb dX5_branch_312 rfl (lv_at hl 0 rfl) ?_
  refine lv_iconst (v := 1) hx hb dX5_branch_313 (by decide) ?_
  refine lv_iload_n hx hb dX5_branch_314 rfl (lv_at hl 3 rfl) ?_
  have hPc := hP
  have hDc := hD
  have hFc := va_free (wc := w_Proc h cI cJ σ) hD hS hA [0, 1, 2, 3, 4, 5, 6, 7, 8, 9] rfl
  refine va_callv (va_runV (As := [.int 1, .int a3]) (rest := []) ⟨hx, hb, hml, hown, hts⟩ (c_X5_goIf l dC dI cI cJ h _ hok) (cwV 2 hts (tb_gV tw_2_217 tw_2_219 tw_p_29 tw_1_6 tw_2_220) rfl rfl rfl (by decide +kernel) ⟨Nat.le_of_ble_eq_true rfl, Nat.le_of_ble_eq_true rfl⟩) (cpre_V (ci := 4) (q0 := 0) hK hPc hDc rfl rfl) rfl rfl hl.1 rfl (lv_room (Nat.le_of_ble_eq_true rfl)) dX5_branch_315 ⟨Nat.le_of_ble_eq_true rfl, Nat.le_of_ble_eq_true rfl⟩) hS (fun q _ h => hFc q h) hFc (fun u45 t H1 locs ht hvm hok hB hz1 hk1 hS => ?_)
  obtain ⟨hP, hD⟩ := cjoin_w ht hB hFc
  exact W.vret hx hb hr (fun t ht hW => ⟨⟨u45, rfl, hok, by rw [ht]; exact hP, va_K.moved hW.alike hK, hD⟩, hS.F ht⟩) hS.2.2 dX5_branch_318
