def wp_X9_count (σ : S_Model) (a1 : Int32) (Φ : Int64 → S_Model → Prop) : Prop := ((a1 = 0 → (Φ (σ.2.1 26) (upd σ.1 0 0, σ.2.1, σ.2.2))) ∧ (a1 = 1 → (Φ (σ.2.1 27) (upd σ.1 0 0, σ.2.1, σ.2.2))) ∧ (a1 = 2 → (Φ ((σ.1 23).toInt64) (upd σ.1 0 0, σ.2.1, σ.2.2))) ∧ (a1 = 3 → (Φ ((σ.1 22).toInt64) (upd σ.1 0 0, σ.2.1, σ.2.2))) ∧ (a1 = 4 → (Φ ((σ.1 5).toInt64) (upd σ.1 0 0, σ.2.1, σ.2.2))) ∧ (a1 = 5 → (Φ ((σ.1 12).toInt64) (upd σ.1 0 0, σ.2.1, σ.2.2))) ∧ (a1 = 6 → (Φ ((σ.1 13).toInt64) (upd σ.1 0 0, σ.2.1, σ.2.2))) ∧ (a1 = 7 → (Φ ((σ.1 14).toInt64) (upd σ.1 0 0, σ.2.1, σ.2.2))) ∧ (a1 = 8 → (Φ ((σ.1 17).toInt64) (upd σ.1 0 0, σ.2.1, σ.2.2))) ∧ (a1 = 9 → (Φ ((σ.1 18).toInt64) (upd σ.1 0 0, σ.2.1, σ.2.2))) ∧ (a1 = 10 → ((((σ.1 6) = 0 → (Φ 0 (upd σ.1 0 0, σ.2.1, σ.2.2))) ∧ (¬ (σ.1 6) = 0 → (Φ 1 (upd σ.1 0 0, σ.2.1, σ.2.2)))))) ∧ (a1 = 11 → ((((σ.1 7) = 0 → (Φ 0 (upd σ.1 0 0, σ.2.1, σ.2.2))) ∧ (¬ (σ.1 7) = 0 → (Φ 1 (upd σ.1 0 0, σ.2.1, σ.2.2)))))) ∧ (a1 = 12 → ((((σ.1 8) = 0 → (Φ 0 (upd σ.1 0 0, σ.2.1, σ.2.2))) ∧ (¬ (σ.1 8) = 0 → (Φ 1 (upd σ.1 0 0, σ.2.1, σ.2.2)))))) ∧ (a1 = 13 → (Φ ((σ.1 29).toInt64) (upd σ.1 0 0, σ.2.1, σ.2.2))) ∧ (a1 = 14 → (Φ (σ.2.1 28) (upd σ.1 0 0, σ.2.1, σ.2.2))) ∧ ((¬ a1 = 0 ∧ ¬ a1 = 1 ∧ ¬ a1 = 2 ∧ ¬ a1 = 3 ∧ ¬ a1 = 4 ∧ ¬ a1 = 5 ∧ ¬ a1 = 6 ∧ ¬ a1 = 7 ∧ ¬ a1 = 8 ∧ ¬ a1 = 9 ∧ ¬ a1 = 10 ∧ ¬ a1 = 11 ∧ ¬ a1 = 12 ∧ ¬ a1 = 13 ∧ ¬ a1 = 14) → (Φ (-1) (upd σ.1 0 0, σ.2.1, σ.2.2))))
set_option maxHeartbeats 4000000 in
set_option maxRecDepth 100000 in
theorem c_X9_count (l : Launch) (dC : Nat → ClassId) (dI : Nat → Nat → Nat) (cI cJ : ClassId) (h : Nat → Nat) (sz : Nat) {σ : S_Model} {a1 : Int32} {Φ : Int64 → S_Model → Prop} (hok : wp_X9_count σ a1 Φ) : Met l yX9_count wsX9_count ({ frames := 0, cells := 0, slots := 0, locals := 0 }) (va_Pc [.ref (h 13), .int a1] (cpre dC dI cI cJ (w_Model h cI cJ σ) sz)) (va_Ql Φ (fun u => cpost dC dI cI cJ (va_A (w_Model h cI cJ σ) sz) (w_Model h cI cJ u)) (va_A (w_Model h cI cJ σ) sz)) 0 0 (va_A (w_Model h cI cJ σ) sz) := by
  refine Met.ofW (cc := cX9_count) (maxL := 2) (ret := (some .long)) (by decide) rfl ?_
  intro p e s m args below meth c s₁ B hml hv
  obtain ⟨rfl, hsz, hP, hK, hD0⟩ := hv
  have hx := B.exec
  have hb := B.bytes
  have hr := B.returns
  have hts := atoms_spec (ws := wsX9_count) B.pre
  have hown : s.vm.findClass RX9 = some m.cls := findClass_of_methodNamed B.named
  have hlocks := B.notSynchronized
  subst hsz
  have hD := hD0.self (sz := s.heap.size)
  generalize hAe : va_A (w_Model h cI cJ σ) s.heap.size = A at hD ⊢
  have hA : ∀ q : Nat, s.heap.size ≤ q → A q := fun q h => by rw [← hAe]; exact Or.inr h
  clear hD0 hAe
  have hS : va_S A s.heap s.heap [] := va_S.rf
  have hl := lv_entry ([.ref (h 13), .int a1]) (n := 2) (Nat.le_of_ble_eq_true rfl)
  rw [lg_entry_eq]
  generalize (lg_sl ([.ref (h 13), .int a1]) ++ List.replicate (2 - (lg_sl ([.ref (h 13), .int a1])).length) Slot.unset).toArray = ls at hl ⊢
  have hl : lv_has ls 2 [(0, .ref (h 13)), (1, .int a1)] := hl
  unfold wp_X9_count at hok
  refine lv_aload_n hx hb dX9_count_0 rfl (lv_at hl 0 rfl) ?_
  refine lv_iconst (v := 0) hx hb dX9_count_1 (by decide) ?_
  refine va_put (D := (dC, dI)) (ci := 8) (v := .int 0) (ty := .int) (C := RX9) (T := TX9) (N := 33) hx hb hts (fun w h => List.mem_cons_of_mem _ (in_X9 w h)) tyX9 tyX9_ok nmX9 hown hK hP hD hS 0 rfl rfl 0 (by decide) (hts _ (List.mem_cons_of_mem _ tw_3_187)) (fun _ h9 => h9) rfl (by decide +kernel) rfl rfl (Nat.le_of_ble_eq_true rfl) dX9_count_2 (fun H locs hP hD hS => ?_)
  have hP : va_P (dC, dI) vwCl (w_Model h cI cJ (upd σ.1 0 0, σ.2.1, σ.2.2)) _ := hP
  have hD : va_D A (w_Model h cI cJ (upd σ.1 0 0, σ.2.1, σ.2.2)) := hD
  refine lv_iload_n hx hb dX9_count_5 rfl (lv_at hl 1 rfl) ?_
  by_cases c1 : a1 = 0
  · have hok := hok.1 c1
    refine lv_tableIn (tgt := 80) (off := 74) hx hb dX9_count_6 (by rw [c1]; decide) (by rw [c1]; decide) (by rw [c1]; decide) (by decide) ?_
    refine lv_aload_n hx hb dX9_count_80 rfl (lv_at hl 0 rfl) ?_
    refine va_get (D := (dC, dI)) (ci := 8) (v := .long (σ.2.1 26)) (C := RX9) (T := TX9) (N := 33) hx hb hts (fun w h => List.mem_cons_of_mem _ (in_X9 w h)) hown hK hP 0 rfl rfl 26 (by decide) (hts _ (List.mem_cons_of_mem _ tw_3_213)) (fun _ h9 => h9) rfl dX9_count_81 ?_
    exact W.lret (v := σ.2.1 26) hx hb hr (fun t ht hW => ⟨⟨σ.2.1 26, (upd σ.1 0 0, σ.2.1, σ.2.2), rfl, hok, by rw [ht]; exact hP, va_K.moved hW.alike hK, hD⟩, hS.F ht⟩) hS.2.2 dX9_count_84
  have hok := hok.2
  by_cases c2 : a1 = 1
  · have hok := hok.1 c2
    refine lv_tableIn (tgt := 85) (off := 79) hx hb dX9_count_6 (by rw [c2]; decide) (by rw [c2]; decide) (by rw [c2]; decide) (by decide) ?_
    refine lv_aload_n hx hb dX9_count_85 rfl (lv_at hl 0 rfl) ?_
    refine va_get (D := (dC, dI)) (ci := 8) (v := .long (σ.2.1 27)) (C := RX9) (T := TX9) (N := 33) hx hb hts (fun w h => List.mem_cons_of_mem _ (in_X9 w h)) hown hK hP 0 rfl rfl 27 (by decide) (hts _ (List.mem_cons_of_mem _ tw_3_214)) (fun _ h9 => h9) rfl dX9_count_86 ?_
    exact W.lret (v := σ.2.1 27) hx hb hr (fun t ht hW => ⟨⟨σ.2.1 27, (upd σ.1 0 0, σ.2.1, σ.2.2), rfl, hok, by rw [ht]; exact hP, va_K.moved hW.alike hK, hD⟩, hS.F ht⟩) hS.2.2 dX9_count_89
  have hok := hok.2
  by_cases c3 : a1 = 2
  · have hok := hok.1 c3
    refine lv_tableIn (tgt := 90) (off := 84) hx hb dX9_count_6 (by rw [c3]; decide) (by rw [c3]; decide) (by rw [c3]; decide) (by decide) ?_
    refine lv_aload_n hx hb dX9_count_90 rfl (lv_at hl 0 rfl) ?_
    refine va_get (D := (dC, dI)) (ci := 8) (v := .int (σ.1 23)) (C := RX9) (T := TX9) (N := 33) hx hb hts (fun w h => List.mem_cons_of_mem _ (in_X9 w h)) hown hK hP 0 rfl rfl 23 (by decide) (hts _ (List.mem_cons_of_mem _ tw_3_210)) (fun _ h9 => h9) rfl dX9_count_91 ?_
    refine lv_i2l hx hb dX9_count_94 rfl ?_
    exact W.lret (v := (σ.1 23).toInt64) hx hb hr (fun t ht hW => ⟨⟨(σ.1 23).toInt64, (upd σ.1 0 0, σ.2.1, σ.2.2), rfl, hok, by rw [ht]; exact hP, va_K.moved hW.alike hK, hD⟩, hS.F ht⟩) hS.2.2 dX9_count_95
  have hok := hok.2
  by_cases c4 : a1 = 3
  · have hok := hok.1 c4
    refine lv_tableIn (tgt := 96) (off := 90) hx hb dX9_count_6 (by rw [c4]; decide) (by rw [c4]; decide) (by rw [c4]; decide) (by decide) ?_
    refine lv_aload_n hx hb dX9_count_96 rfl (lv_at hl 0 rfl) ?_
    refine va_get (D := (dC, dI)) (ci := 8) (v := .int (σ.1 22)) (C := RX9) (T := TX9) (N := 33) hx hb hts (fun w h => List.mem_cons_of_mem _ (in_X9 w h)) hown hK hP 0 rfl rfl 22 (by decide) (hts _ (List.mem_cons_of_mem _ tw_3_209)) (fun _ h9 => h9) rfl dX9_count_97 ?_
    refine lv_i2l hx hb dX9_count_100 rfl ?_
    exact W.lret (v := (σ.1 22).toInt64) hx hb hr (fun t ht hW => ⟨⟨(σ.1 22).toInt64, (upd σ.1 0 0, σ.2.1, σ.2.2), rfl, hok, by rw [ht]; exact hP, va_K.moved hW.alike hK, hD⟩, hS.F ht⟩) hS.2.2 dX9_count_101
  have hok := hok.2
  by_cases c5 : a1 = 4
  · have hok := hok.1 c5
    refine lv_tableIn (tgt := 102) (off := 96) hx hb dX9_count_6 (by rw [c5]; decide) (by rw [c5]; decide) (by rw [c5]; decide) (by decide) ?_
    refine lv_aload_n hx hb dX9_count_102 rfl (lv_at hl 0 rfl) ?_
    refine va_get (D := (dC, dI)) (ci := 8) (v := .int (σ.1 5)) (C := RX9) (T := TX9) (N := 33) hx hb hts (fun w h => List.mem_cons_of_mem _ (in_X9 w h)) hown hK hP 0 rfl rfl 5 (by decide) (hts _ (List.mem_cons_of_mem _ tw_3_192)) (fun _ h9 => h9) rfl dX9_count_103 ?_
    refine lv_i2l hx hb dX9_count_106 rfl ?_
    exact W.lret (v := (σ.1 5).toInt64) hx hb hr (fun t ht hW => ⟨⟨(σ.1 5).toInt64, (upd σ.1 0 0, σ.2.1, σ.2.2), rfl, hok, by rw [ht]; exact hP, va_K.moved hW.alike hK, hD⟩, hS.F ht⟩) hS.2.2 dX9_count_107
  have hok := hok.2
  by_cases c6 : a1 = 5
  · have hok := hok.1 c6
    refine lv_tableIn (tgt := 108) (off := 102) hx hb dX9_count_6 (by rw [c6]; decide) (by rw [c6]; decide) (by rw [c6]; decide) (by decide) ?_
    refine lv_aload_n hx hb dX9_count_108 rfl (lv_at hl 0 rfl) ?_
    refine va_get (D := (dC, dI)) (ci := 8) (v := .int (σ.1 12)) (C := RX9) (T := TX9) (N := 33) hx hb hts (fun w h => List.mem_cons_of_mem _ (in_X9 w h)) hown hK hP 0 rfl rfl 12 (by decide) (hts _ (List.mem_cons_of_mem _ tw_3_199)) (fun _ h9 => h9) rfl dX9_count_109 ?_
    refine lv_i2l hx hb dX9_count_112 rfl ?_
    exact W.lret (v := (σ.1 12).toInt64) hx hb hr (fun t ht hW => ⟨⟨(σ.1 12).toInt64, (upd σ.1 0 0, σ.2.1, σ.2.2), rfl, hok, by rw [ht]; exact hP, va_K.moved hW.alike hK, hD⟩, hS.F ht⟩) hS.2.2 dX9_count_113
  have hok := hok.2
  by_cases c7 : a1 = 6
  · have hok := hok.1 c7
    refine lv_tableIn (tgt := 114) (off := 108) hx hb dX9_count_6 (by rw [c7]; decide) (by rw [c7]; decide) (by rw [c7]; decide) (by decide) ?_
    refine lv_aload_n hx hb dX9_count_114 rfl (lv_at hl 0 rfl) ?_
    refine va_get (D := (dC, dI)) (ci := 8) (v := .int (σ.1 13)) (C := RX9) (T := TX9) (N := 33) hx hb hts (fun w h => List.mem_cons_of_mem _ (in_X9 w h)) hown hK hP 0 rfl rfl 13 (by decide) (hts _ (List.mem_cons_of_mem _ tw_3_200)) (fun _ h9 => h9) rfl dX9_count_115 ?_
    refine lv_i2l hx hb dX9_count_118 rfl ?_
    exact W.lret (v := (σ.1 13).toInt64) hx hb hr (fun t ht hW => ⟨⟨(σ.1 13).toInt64, (upd σ.1 0 0, σ.2.1, σ.2.2), rfl, hok, by rw [ht]; exact hP, va_K.moved hW.alike hK, hD⟩, hS.F ht⟩) hS.2.2 dX9_count_119
  have hok := hok.2
  by_cases c8 : a1 = 7
  · have hok := hok.1 c8
    refine lv_tableIn (tgt := 120) (off := 114) hx hb dX9_count_6 (by rw [c8]; decide) (by rw [c8]; decide) (by rw [c8]; decide) (by decide) ?_
    refine lv_aload_n hx hb dX9_count_120 rfl (lv_at hl 0 rfl) ?_
    refine va_get (D := (dC, dI)) (ci := 8) (v := .int (σ.1 14)) (C := RX9) (T := TX9) (N := 33) hx hb hts (fun w h => List.mem_cons_of_mem _ (in_X9 w h)) hown hK hP 0 rfl rfl 14 (by decide) (hts _ (List.mem_cons_of_mem _ tw_3_201)) (fun _ h9 => h9) rfl dX9_count_121 ?_
    refine lv_i2l hx hb dX9_count_124 rfl ?_
    exact W.lret (v := (σ.1 14).toInt64) hx hb hr (fun t ht hW => ⟨⟨(σ.1 14).toInt64, (upd σ.1 0 0, σ.2.1, σ.2.2), rfl, hok, by rw [ht]; exact hP, va_K.moved hW.alike hK, hD⟩, hS.F ht⟩) hS.2.2 dX9_count_125
  have hok := hok.2
  by_cases c9 : a1 = 8
  · have hok := hok.1 c9
    refine lv_tableIn (tgt := 126) (off := 120) hx hb dX9_count_6 (by rw [c9]; decide) (by rw [c9]; decide) (by rw [c9]; decide) (by decide) ?_
    refine lv_aload_n hx hb dX9_count_126 rfl (lv_at hl 0 rfl) ?_
    refine va_get (D := (dC, dI)) (ci := 8) (v := .int (σ.1 17)) (C := RX9) (T := TX9) (N := 33) hx hb hts (fun w h => List.mem_cons_of_mem _ (in_X9 w h)) hown hK hP 0 rfl rfl 17 (by decide) (hts _ (List.mem_cons_of_mem _ tw_3_204)) (fun _ h9 => h9) rfl dX9_count_127 ?_
    refine lv_i2l hx hb dX9_count_130 rfl ?_
    exact W.lret (v := (σ.1 17).toInt64) hx hb hr (fun t ht hW => ⟨⟨(σ.1 17).toInt64, (upd σ.1 0 0, σ.2.1, σ.2.2), rfl, hok, by rw [ht]; exact hP, va_K.moved hW.alike hK, hD⟩, hS.F ht⟩) hS.2.2 dX9_count_131
  have hok := hok.2
  by_cases c10 : a1 = 9
  · have hok := hok.1 c10
    refine lv_tableIn (tgt := 132) (off := 126) hx hb dX9_count_6 (by rw [c10]; decide) (by rw [c10]; decide) (by rw [c10]; decide) (by decide) ?_
    refine lv_aload_n hx hb dX9_count_132 rfl (lv_at hl 0 rfl) ?_
    refine va_get (D := (dC, dI)) (ci := 8) (v := .int (σ.1 18)) (C := RX9) (T := TX9) (N := 33) hx hb hts (fun w h => List.mem_cons_of_mem _ (in_X9 w h)) hown hK hP 0 rfl rfl 18 (by decide) (hts _ (List.mem_cons_of_mem _ tw_3_205)) (fun _ h9 => h9) rfl dX9_count_133 ?_
    refine lv_i2l hx hb dX9_count_136 rfl ?_
    exact W.lret (v := (σ.1 18).toInt64) hx hb hr (fun t ht hW => ⟨⟨(σ.1 18).toInt64, (upd σ.1 0 0, σ.2.1, σ.2.2), rfl, hok, by rw [ht]; exact hP, va_K.moved hW.alike hK, hD⟩, hS.F ht⟩) hS.2.2 dX9_count_137
  have hok := hok.2
  by_cases c11 : a1 = 10
  · have hok := hok.1 c11
    refine lv_tableIn (tgt := 138) (off := 132) hx hb dX9_count_6 (by rw [c11]; decide) (by rw [c11]; decide) (by rw [c11]; decide) (by decide) ?_
    refine lv_aload_n hx hb dX9_count_138 rfl (lv_at hl 0 rfl) ?_
    refine va_get (D := (dC, dI)) (ci := 8) (v := .int (σ.1 6)) (C := RX9) (T := TX9) (N := 33) hx hb hts (fun w h => List.mem_cons_of_mem _ (in_X9 w h)) hown hK hP 0 rfl rfl 6 (by decide) (hts _ (List.mem_cons_of_mem _ tw_3_193)) (fun _ h9 => h9) rfl dX9_count_139 ?_
    refine lv_if_eq (tgt := 149) hx hb dX9_count_142 (by decide) (fun c12 => ?_) (fun c12 => ?_)
    · have hok := hok.1 c12
      refine lv_lconst (v := 0) hx hb dX9_count_149 (by decide) ?_
      exact W.lret (v := 0) hx hb hr (fun t ht hW => ⟨⟨0, (upd σ.1 0 0, σ.2.1, σ.2.2), rfl, hok, by rw [ht]; exact hP, va_K.moved hW.alike hK, hD⟩, hS.F ht⟩) hS.2.2 dX9_count_150
    · have hok := hok.2 c12
      refine lv_lconst (v := 1) hx hb dX9_count_145 (by decide) ?_
      refine lv_goto (tgt := 150) hx hb dX9_count_146 (by decide) ?_
      exact W.lret (v := 1) hx hb hr (fun t ht hW => ⟨⟨1, (upd σ.1 0 0, σ.2.1, σ.2.2), rfl, hok, by rw [ht]; exact hP, va_K.moved hW.alike hK, hD⟩, hS.F ht⟩) hS.2.2 dX9_count_150
  have hok := hok.2
  by_cases c13 : a1 = 11
  · have hok := hok.1 c13
    refine lv_tableIn (tgt := 151) (off := 145) hx hb dX9_count_6 (by rw [c13]; decide) (by rw [c13]; decide) (by rw [c13]; decide) (by decide) ?_
    refine lv_aload_n hx hb dX9_count_151 rfl (lv_at hl 0 rfl) ?_
    refine va_get (D := (dC, dI)) (ci := 8) (v := .int (σ.1 7)) (C := RX9) (T := TX9) (N := 33) hx hb hts (fun w h => List.mem_cons_of_mem _ (in_X9 w h)) hown hK hP 0 rfl rfl 7 (by decide) (hts _ (List.mem_cons_of_mem _ tw_3_194)) (fun _ h9 => h9) rfl dX9_count_152 ?_
    refine lv_if_eq (tgt := 162) hx hb dX9_count_155 (by decide) (fun c14 => ?_) (fun c14 => ?_)
    · have hok := hok.1 c14
      refine lv_lconst (v := 0) hx hb dX9_count_162 (by decide) ?_
      exact W.lret (v := 0) hx hb hr (fun t ht hW => ⟨⟨0, (upd σ.1 0 0, σ.2.1, σ.2.2), rfl, hok, by rw [ht]; exact hP, va_K.moved hW.alike hK, hD⟩, hS.F ht⟩) hS.2.2 dX9_count_163
    · have hok := hok.2 c14
      refine lv_lconst (v := 1) hx hb dX9_count_158 (by decide) ?_
      refine lv_goto (tgt := 163) hx hb dX9_count_159 (by decide) ?_
      exact W.lret (v := 1) hx hb hr (fun t ht hW => ⟨⟨1, (upd σ.1 0 0, σ.2.1, σ.2.2), rfl, hok, by rw [ht]; exact hP, va_K.moved hW.alike hK, hD⟩, hS.F ht⟩) hS.2.2 dX9_count_163
  have hok := hok.2
  by_cases c15 : a1 = 12
  · have hok := hok.1 c15
    refine lv_tableIn (tgt := 164) (off := 158) hx hb dX9_count_6 (by rw [c15]; decide) (by rw [c15]; decide) (by rw [c15]; decide) (by decide) ?_
    refine lv_aload_n hx hb dX9_count_164 rfl (lv_at hl 0 rfl) ?_
    refine va_get (D := (dC, dI)) (ci := 8) (v := .int (σ.1 8)) (C := RX9) (T := TX9) (N := 33) hx hb hts (fun w h => List.mem_cons_of_mem _ (in_X9 w h)) hown hK hP 0 rfl rfl 8 (by decide) (hts _ (List.mem_cons_of_mem _ tw_3_195)) (fun _ h9 => h9) rfl dX9_count_165 ?_
    refine lv_if_eq (tgt := 175) hx hb dX9_count_168 (by decide) (fun c16 => ?_) (fun c16 => ?_)
    · have hok := hok.1 c16
      refine lv_lconst (v := 0) hx hb dX9_count_175 (by decide) ?_
      exact W.lret (v := 0) hx hb hr (fun t ht hW => ⟨⟨0, (upd σ.1 0 0, σ.2.1, σ.2.2), rfl, hok, by rw [ht]; exact hP, va_K.moved hW.alike hK, hD⟩, hS.F ht⟩) hS.2.2 dX9_count_176
    · have hok := hok.2 c16
      refine lv_lconst (v := 1) hx hb dX9_count_171 (by decide) ?_
      refine lv_goto (tgt := 176) hx hb dX9_count_172 (by decide) ?_
      exact W.lret (v := 1) hx hb hr (fun t ht hW => ⟨⟨1, (upd σ.1 0 0, σ.2.1, σ.2.2), rfl, hok, by rw [ht]; exact hP, va_K.moved hW.alike hK, hD⟩, hS.F ht⟩) hS.2.2 dX9_count_176
  have hok := hok.2
  by_cases c17 : a1 = 13
  · have hok := hok.1 c17
    refine lv_tableIn (tgt := 177) (off := 171) hx hb dX9_count_6 (by rw [c17]; decide) (by rw [c17]; decide) (by rw [c17]; decide) (by decide) ?_
    refine lv_aload_n hx hb dX9_count_177 rfl (lv_at hl 0 rfl) ?_
    refine va_get (D := (dC, dI)) (ci := 8) (v := .int (σ.1 29)) (C := RX9) (T := TX9) (N := 33) hx hb hts (fun w h => List.mem_cons_of_mem _ (in_X9 w h)) hown hK hP 0 rfl rfl 29 (by decide) (hts _ (List.mem_cons_of_mem _ tw_3_216)) (fun _ h9 => h9) rfl dX9_count_178 ?_
    refine lv_i2l hx hb dX9_count_181 rfl ?_
    exact W.lret (v := (σ.1 29).toInt64) hx hb hr (fun t ht hW => ⟨⟨(σ.1 29).toInt64, (upd σ.1 0 0, σ.2.1, σ.2.2), rfl, hok, by rw [ht]; exact hP, va_K.moved hW.alike hK, hD⟩, hS.F ht⟩) hS.2.2 dX9_count_182
  have hok := hok.2
  by_cases c18 : a1 = 14
  · have hok := hok.1 c18
    refine lv_tableIn (tgt := 183) (off := 177) hx hb dX9_count_6 (by rw [c18]; decide) (by rw [c18]; decide) (by rw [c18]; decide) (by decide) ?_
    refine lv_aload_n hx hb dX9_count_183 rfl (lv_at hl 0 rfl) ?_
    refine va_get (D := (dC, dI)) (ci := 8) (v := .long (σ.2.1 28)) (C := RX9) (T := TX9) (N := 33) hx hb hts (fun w h => List.mem_cons_of_mem _ (in_X9 w h)) hown hK hP 0 rfl rfl 28 (by decide) (hts _ (List.mem_cons_of_mem _ tw_3_215)) (fun _ h9 => h9) rfl dX9_count_184 ?_
    exact W.lret (v := σ.2.1 28) hx hb hr (fun t ht hW => ⟨⟨σ.2.1 28, (upd σ.1 0 0, σ.2.1, σ.2.2), rfl, hok, by rw [ht]; exact hP, va_K.moved hW.alike hK, hD⟩, hS.F ht⟩) hS.2.2 dX9_count_187
  have hok := hok.2
  have hok := hok ⟨c1, c2, c3, c4, c5, c6, c7, c8, c9, c10, c11, c13, c15, c17, c18⟩
  have kz18 : ∀ k ∈ ([0, 1, 2, 3, 4, 5, 6, 7, 8, 9, 10, 11, 12, 13, 14] : List Int), (a1).toInt ≠ k := List.forall_mem_cons.mpr ⟨tb_ne c1 rfl, List.forall_mem_cons.mpr ⟨tb_ne c2 rfl, List.forall_mem_cons.mpr ⟨tb_ne c3 rfl, List.forall_mem_cons.mpr ⟨tb_ne c4 rfl, List.forall_mem_cons.mpr ⟨tb_ne c5 rfl, List.forall_mem_cons.mpr ⟨tb_ne c6 rfl, List.forall_mem_cons.mpr ⟨tb_ne c7 rfl, List.forall_mem_cons.mpr ⟨tb_ne c8 rfl, List.forall_mem_cons.mpr ⟨tb_ne c9 rfl, List.forall_mem_cons.mpr ⟨tb_ne c10 rfl, List.forall_mem_cons.mpr ⟨tb_ne c11 rfl, List.forall_mem_cons.mpr ⟨tb_ne c13 rfl, List.forall_mem_cons.mpr ⟨tb_ne c15 rfl, List.forall_mem_cons.mpr ⟨tb_ne c17 rfl, List.forall_mem_cons.mpr ⟨tb_ne c18 rfl, fun k h => absurd h List.not_mem_nil⟩⟩⟩⟩⟩⟩⟩⟩⟩⟩⟩⟩⟩⟩⟩
  refine tb_def (tgt := 188) (keys := [0, 1, 2, 3, 4, 5, 6, 7, 8, 9, 10, 11, 12, 13, 14]) hx hb dX9_count_6 kz18 (by decide) (by decide) ?_
  refine lv_ldc2 (v := (-1)) hx hb hown (hts _ (List.mem_cons_of_mem _ tw_5_89)) dX9_count_188 ?_
  exact W.lret (v := (-1)) hx hb hr (fun t ht hW => ⟨⟨(-1), (upd σ.1 0 0, σ.2.1, σ.2.2), rfl, hok, by rw [ht]; exact hP, va_K.moved hW.alike hK, hD⟩, hS.F ht⟩) hS.2.2 dX9_count_191
