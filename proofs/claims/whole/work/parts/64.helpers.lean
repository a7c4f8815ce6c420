theorem tw_3_68 : Cond.classLink RL 13 "java/lang/IllegalArgumentException" ∈ tbl := tbl_3 (i := 68) rfl rfl
theorem tw_3_69 : Cond.methodLink RL 7 yX8_load ∈ tbl := tbl_3 (i := 69) rfl rfl
theorem tw_3_70 : Cond.instanceMethod yX8_load ∈ tbl := tbl_3 (i := 70) rfl rfl
theorem tw_3_71 : Cond.selects RX8 yX8_load yX8_load ∈ tbl := tbl_3 (i := 71) rfl rfl
theorem tw_3_72 : Cond.code yX8_load cX8_load 6 none ∈ tbl := tbl_3 (i := 72) rfl rfl
theorem tw_3_147 : Cond.methodLink RL 15 yX8_run ∈ tbl := tbl_3 (i := 147) rfl rfl
theorem tw_3_148 : Cond.instanceMethod yX8_run ∈ tbl := tbl_3 (i := 148) rfl rfl
theorem tw_3_149 : Cond.selects RX8 yX8_run yX8_run ∈ tbl := tbl_3 (i := 149) rfl rfl
theorem tw_3_150 : Cond.code yX8_run cX8_run 3 (some .int) ∈ tbl := tbl_3 (i := 150) rfl rfl
theorem tw_3_157 : Cond.methodLink RL 19 yX8_look ∈ tbl := tbl_3 (i := 157) rfl rfl
theorem tw_3_158 : Cond.instanceMethod yX8_look ∈ tbl := tbl_3 (i := 158) rfl rfl
theorem tw_3_159 : Cond.selects RX8 yX8_look yX8_look ∈ tbl := tbl_3 (i := 159) rfl rfl
theorem tw_3_160 : Cond.code yX8_look cX8_look 2 (some .int) ∈ tbl := tbl_3 (i := 160) rfl rfl
theorem tw_3_169 : Cond.methodLink RL 22 yX8_set ∈ tbl := tbl_3 (i := 169) rfl rfl
theorem tw_3_170 : Cond.instanceMethod yX8_set ∈ tbl := tbl_3 (i := 170) rfl rfl
theorem tw_3_171 : Cond.selects RX8 yX8_set yX8_set ∈ tbl := tbl_3 (i := 171) rfl rfl
theorem tw_3_172 : Cond.code yX8_set cX8_set 3 none ∈ tbl := tbl_3 (i := 172) rfl rfl
/-! the law's helpers -/
abbrev w_BF (h : Nat → Nat) (cI cJ : ClassId) (x : S_BM × (Nat → Int64)) : va_W := w_BM h cI cJ x.1 ++ [(h 20, .inl (cJ, 1, .inr (.inl x.2)))]
theorem tb_gW {own : String} {idx n : Nat} {y : MethodName} {b : ByteArray} {r : Option FieldType} {hh : List (Nat × Nat × Nat × Nat)} {hd : Cond} (h1 : Cond.methodLink own idx y ∈ tbl) (h2 : Cond.static y ∈ tbl) (h3 : Cond.initialized y.cls ∈ tbl) (h5 : Cond.codeWith y b n r hh ∈ tbl) : GoodIn (hd :: tbl) (va_wsS own idx y (Cond.codeWith y b n r hh :: tbl)) := by
  intro w hw
  have hm : w ∈ tbl := by
    rcases List.mem_append.mp hw with h | h
    · rcases List.mem_cons.mp h with rfl | h
      · exact h1
      · rcases List.mem_cons.mp h with rfl | h
        · exact h2
        · rcases List.mem_cons.mp h with rfl | h
          · exact h3
          · exact absurd h List.not_mem_nil
    · rcases List.mem_cons.mp h with rfl | h
      · exact h5
      · exact h
  exact ⟨List.mem_cons_of_mem _ hm, good_of_word (tbl_good hm)⟩
abbrev wsL_load : List Cond := .codeWith yL_load cL_load 6 (some .int) [(0, 8, 11, 13)] :: tbl
set_option maxHeartbeats 4000000 in
set_option maxRecDepth 100000 in
theorem c_L_load (l : Launch) (hl9 : l.stackTraces = false) (dC : Nat → ClassId) (dI : Nat → Nat → Nat) (cI cJ : ClassId) (h : Nat → Nat) (tt zs : Nat → Nat) (sz : Nat) {σ : S_BM} {a1 : Int32} {a2 : Int64} {a3 : Int32} {Φ : Int32 → S_BM → Prop} (hok : wp_X8_load σ a1 a2 a3 (Φ 0) (Φ 1 σ)) : Met l yL_load wsL_load ({ frames := 7, cells := 1, slots := 6, locals := 107 }) (va_Pc [.ref (h 0), .int a1, .long a2, .int a3] (cpreX dC dI cI cJ tt zs (w_BM h cI cJ σ) sz)) (va_Qi Φ (fun u => cpost dC dI cI cJ (va_A (w_BM h cI cJ σ) sz) (w_BM h cI cJ u)) (va_A (w_BM h cI cJ σ) sz)) 1 6 (va_A (w_BM h cI cJ σ) sz) := by
  refine va_MetW (cc := cL_load) (maxL := 6) (ret := some .int) (hh := [(0, 8, 11, 13)]) (by decide) rfl ?_
  intro p e s m args below meth c s₁ B hml hv
  obtain ⟨rfl, ⟨⟨hsz, hP, hK, hD0⟩, hT⟩, hZ⟩ := hv
  have hx := B.exec
  have hb := B.bytes
  have hr := B.returns
  have hts := atoms_spec (ws := wsL_load) B.pre
  have hown : s.vm.findClass RL = some m.cls := findClass_of_methodNamed B.named
  have hlocks := B.notSynchronized
  have htab : c.exceptionTable.toList = [] ++ (⟨0, 8, 11, 13⟩ : ExceptionTableEntry) :: [] := (vx_table (x := yL_load) B (hts _ List.mem_cons_self)).trans rfl
  subst hsz
  have hD := hD0.self (sz := s.heap.size)
  generalize hAe : va_A (w_BM h cI cJ σ) s.heap.size = A at hD hT hZ ⊢
  have hA : ∀ q : Nat, s.heap.size ≤ q → A q := fun q h => by rw [← hAe]; exact Or.inr h
  clear hD0 hAe
  have hS : va_S A s.heap s.heap [] := va_S.rf
  have hl := lv_entry ([.ref (h 0), .int a1, .long a2, .int a3]) (n := 6) (Nat.le_of_ble_eq_true rfl)
  rw [lg_entry_eq]
  generalize (lg_sl ([.ref (h 0), .int a1, .long a2, .int a3]) ++ List.replicate (6 - (lg_sl ([.ref (h 0), .int a1, .long a2, .int a3])).length) Slot.unset).toArray = ls at hl ⊢
  have hl : lv_has ls 6 [(0, .ref (h 0)), (1, .int a1), (2, .long a2), (4, .int a3)] := hl
  refine lv_aload_n hx hb dL_load_0 rfl (lv_at hl 0 rfl) ?_
  refine lv_iload_n hx hb dL_load_1 rfl (lv_at hl 1 rfl) ?_
  refine lv_lload_n hx hb dL_load_2 rfl (lv_at hl 2 rfl) ?_
  refine lv_iload hx hb dL_load_3 (lv_at hl 3 rfl) ?_
  have hPc := hP
  have hDc := hD
  have hFc := va_free (wc := w_BM h cI cJ σ) hD hS hA [0, 1, 2, 3, 4, 5, 6, 7, 8, 9, 10, 11, 12] rfl
  refine vx_callv (vx_runV (As := [.int a1, .long a2, .int a3]) (rest := []) ⟨hx, hb, hml, hown, hts⟩ (c_X8_load l hl9 dC dI cI cJ h tt zs _ hok) (cwV 3 hts (tb_gV tw_3_69 tw_3_70 tw_3_71 tw_1_1 tw_3_72) rfl rfl rfl (by decide +kernel) ⟨Nat.le_of_ble_eq_true rfl, Nat.le_of_ble_eq_true rfl⟩) (cpre_VX (ci := 7) (q0 := 0) hK hPc hDc hT hZ hS hFc rfl rfl) rfl rfl hl.1 rfl (lv_room (Nat.le_of_ble_eq_true rfl)) dL_load_5 ⟨Nat.le_of_ble_eq_true rfl, Nat.le_of_ble_eq_true rfl⟩) hS (fun q _ h => hFc q h) hFc (fun q _ h => hFc q h) (fun E ce q9 u9 t H1 locs ht hvm hok hB hz1 hk1 hS hce hcv hcl => ?_) (fun u9 t H1 locs ht hvm hok hB hz1 hk1 hS => ?_)
  · obtain ⟨rfl, hB⟩ := hB
    obtain ⟨hP, hD⟩ := cjoin_w ht hB hFc
    refine vx_catch (own := RL) (name := "java/lang/IllegalArgumentException") hown [] ⟨0, 8, 11, 13⟩ [] htab (fun z hz => absurd hz List.not_mem_nil) (by decide) (by decide) (hts _ (List.mem_cons_of_mem _ tw_3_68)) (va_Nw.use rfl hZ.2.2.2.2.2.2.2.1) hce hcv hcl ?_
    refine lv_astore (lv' := [(5, .ref q9), (0, .ref (h 0)), (1, .int a1), (2, .long a2), (4, .int a3)]) hx hb dL_load_11 hl (by decide) rfl (fun ls hl => ?_)
    refine lv_iconst (v := 1) hx hb dL_load_13 (by decide) ?_
    refine W.widen (k := 1) (n := 6) (Nat.le_of_ble_eq_true rfl) (Nat.le_of_ble_eq_true rfl) ?_
    exact W.iret (v := 1) hx hb hr (fun t ht hW => ⟨⟨1, σ, rfl, hok, by rw [ht]; exact hP, va_K.moved hW.alike hK, hD⟩, hS.F ht⟩) hS.2.2 dL_load_14
  · obtain ⟨hP, hD⟩ := cjoin_w ht hB hFc
    refine lv_goto (tgt := 15) hx hb dL_load_8 (by decide) ?_
    refine lv_iconst (v := 0) hx hb dL_load_15 (by decide) ?_
    refine W.widen (k := 1) (n := 6) (Nat.le_of_ble_eq_true rfl) (Nat.le_of_ble_eq_true rfl) ?_
    exact W.iret (v := 0) hx hb hr (fun t ht hW => ⟨⟨0, u9, rfl, hok, by rw [ht]; exact hP, va_K.moved hW.alike hK, hD⟩, hS.F ht⟩) hS.2.2 dL_load_16
abbrev wsL_run : List Cond := .codeWith yL_run cL_run 4 (some .int) [(0, 9, 12, 13)] :: tbl
set_option maxHeartbeats 4000000 in
set_option maxRecDepth 100000 in
theorem c_L_run (l : Launch) (hl9 : l.stackTraces = false) (dC : Nat → ClassId) (dI : Nat → Nat → Nat) (cI cJ : ClassId) (h : Nat → Nat) (tt zs : Nat → Nat) (sz : Nat) {σ : S_BM} {f : Nat → Int64} {a1 : Int32} {Φ : Int32 → (S_BM × (Nat → Int64)) → Prop} (hok : wp_X8_run σ a1 (fun r u => Φ 0 (u, vp_updL f 0 r.toInt64)) (Φ 1 (σ, f))) : Met l yL_run wsL_run ({ frames := 8, cells := 1, slots := 6, locals := 181 }) (va_Pc [.ref (h 0), .int a1, .ref (h 20)] (cpreX dC dI cI cJ tt zs (w_BF h cI cJ (σ, f)) sz)) (va_Qi Φ (fun u => cpost dC dI cI cJ (va_A (w_BF h cI cJ (σ, f)) sz) (w_BF h cI cJ u)) (va_A (w_BF h cI cJ (σ, f)) sz)) 1 6 (va_A (w_BF h cI cJ (σ, f)) sz) := by
  refine va_MetW (cc := cL_run) (maxL := 4) (ret := some .int) (hh := [(0, 9, 12, 13)]) (by decide) rfl ?_
  intro p e s m args below meth c s₁ B hml hv
  obtain ⟨rfl, ⟨⟨hsz, hP, hK, hD0⟩, hT⟩, hZ⟩ := hv
  have hx := B.exec
  have hb := B.bytes
  have hr := B.returns
  have hts := atoms_spec (ws := wsL_run) B.pre
  have hown : s.vm.findClass RL = some m.cls := findClass_of_methodNamed B.named
  have hlocks := B.notSynchronized
  have htab : c.exceptionTable.toList = [] ++ (⟨0, 9, 12, 13⟩ : ExceptionTableEntry) :: [] := (vx_table (x := yL_run) B (hts _ List.mem_cons_self)).trans rfl
  subst hsz
  have hD := hD0.self (sz := s.heap.size)
  generalize hAe : va_A (w_BF h cI cJ (σ, f)) s.heap.size = A at hD hT hZ ⊢
  have hA : ∀ q : Nat, s.heap.size ≤ q → A q := fun q h => by rw [← hAe]; exact Or.inr h
  clear hD0 hAe
  have hS : va_S A s.heap s.heap [] := va_S.rf
  have hl := lv_entry ([.ref (h 0), .int a1, .ref (h 20)]) (n := 4) (Nat.le_of_ble_eq_true rfl)
  rw [lg_entry_eq]
  generalize (lg_sl ([.ref (h 0), .int a1, .ref (h 20)]) ++ List.replicate (4 - (lg_sl ([.ref (h 0), .int a1, .ref (h 20)])).length) Slot.unset).toArray = ls at hl ⊢
  have hl : lv_has ls 4 [(0, .ref (h 0)), (1, .int a1), (2, .ref (h 20))] := hl
  refine lv_aload_n hx hb dL_run_0 rfl (lv_at hl 2 rfl) ?_
  refine lv_iconst (v := 0) hx hb dL_run_1 (by decide) ?_
  refine lv_aload_n hx hb dL_run_2 rfl (lv_at hl 0 rfl) ?_
  refine lv_iload_n hx hb dL_run_3 rfl (lv_at hl 1 rfl) ?_
  have hPc := hP.sub (ws' := w_BM h cI cJ σ) [0, 1, 2, 3, 4, 5, 6, 7, 8, 9, 10, 11, 12] rfl
  have hDc := hD.sub (ws' := w_BM h cI cJ σ) [0, 1, 2, 3, 4, 5, 6, 7, 8, 9, 10, 11, 12] (by decide) rfl
  have hFc := va_free (wc := w_BM h cI cJ σ) hD hS hA [0, 1, 2, 3, 4, 5, 6, 7, 8, 9, 10, 11, 12] rfl
  refine vx_calli (vx_runV (As := [.int a1]) (rest := [.int 0, .ref (h 20)]) ⟨hx, hb, hml, hown, hts⟩ (c_X8_run l hl9 dC dI cI cJ h tt zs _ hok) (cwV 1 hts (tb_gV tw_3_147 tw_3_148 tw_3_149 tw_1_1 tw_3_150) rfl rfl rfl (by decide +kernel) ⟨Nat.le_of_ble_eq_true rfl, Nat.le_of_ble_eq_true rfl⟩) (cpre_VX (ci := 7) (q0 := 0) hK hPc hDc hT hZ hS hFc rfl rfl) rfl rfl hl.1 rfl (lv_room (Nat.le_of_ble_eq_true rfl)) dL_run_4 ⟨Nat.le_of_ble_eq_true rfl, Nat.le_of_ble_eq_true rfl⟩) hS (fun q _ h => hFc q h) hFc (fun q _ h => hFc q h) (fun E ce q9 u9 t H1 locs ht hvm hok hB hz1 hk1 hS hce hcv hcl => ?_) (fun r9 u9 t H1 locs ht hvm hok hB hz1 hk1 hS => ?_)
  · obtain ⟨rfl, hB⟩ := hB
    obtain ⟨hP, hD⟩ := cjoin ht hP hD [0, 1, 2, 3, 4, 5, 6, 7, 8, 9, 10, 11, 12] [13] rfl rfl (by decide) (by decide) hk1 hFc hB
    have hP := hP.sub (ws' := w_BF h cI cJ (σ, f)) [1, 2, 3, 4, 5, 6, 7, 8, 9, 10, 11, 12, 13, 0] rfl
    have hD := hD.sub (ws' := w_BF h cI cJ (σ, f)) [1, 2, 3, 4, 5, 6, 7, 8, 9, 10, 11, 12, 13, 0] (by decide) rfl
    refine vx_catch (own := RL) (name := "java/lang/IllegalArgumentException") hown [] ⟨0, 9, 12, 13⟩ [] htab (fun z hz => absurd hz List.not_mem_nil) (by decide) (by decide) (hts _ (List.mem_cons_of_mem _ tw_3_68)) (va_Nw.use rfl hZ.2.2.2.2.2.2.2.1) hce hcv hcl ?_
    refine lv_astore_n (lv' := [(3, .ref q9), (0, .ref (h 0)), (1, .int a1), (2, .ref (h 20))]) hx hb dL_run_12 rfl hl (by decide) rfl (fun ls hl => ?_)
    refine lv_iconst (v := 1) hx hb dL_run_13 (by decide) ?_
    refine W.widen (k := 1) (n := 6) (Nat.le_of_ble_eq_true rfl) (Nat.le_of_ble_eq_true rfl) ?_
    exact W.iret (v := 1) hx hb hr (fun t ht hW => ⟨⟨1, (σ, f), rfl, hok, by rw [ht]; exact hP, va_K.moved hW.alike hK, hD⟩, hS.F ht⟩) hS.2.2 dL_run_14
  · obtain ⟨hP, hD⟩ := cjoin ht hP hD [0, 1, 2, 3, 4, 5, 6, 7, 8, 9, 10, 11, 12] [13] rfl rfl (by decide) (by decide) hk1 hFc hB
    have hP := hP.sub (ws' := w_BF h cI cJ (u9, f)) [1, 2, 3, 4, 5, 6, 7, 8, 9, 10, 11, 12, 13, 0] rfl
    have hD := hD.sub (ws' := w_BF h cI cJ (u9, f)) [1, 2, 3, 4, 5, 6, 7, 8, 9, 10, 11, 12, 13, 0] (by decide) rfl
    refine lv_i2l hx hb dL_run_7 rfl ?_
    refine va_last hx hb hK hP hD hS 13 1 rfl rfl (vp_in_nI (n := 0) (by omega) (by omega)) dL_run_8 (fun H locs hP hD hS => ?_)
    have hP : va_P (dC, dI) vwCl (w_BF h cI cJ (u9, vp_updL f 0 r9.toInt64)) H := hP
    have hD : va_D A (w_BF h cI cJ (u9, vp_updL f 0 r9.toInt64)) := hD
    refine lv_goto (tgt := 15) hx hb dL_run_9 (by decide) ?_
    refine lv_iconst (v := 0) hx hb dL_run_15 (by decide) ?_
    refine W.widen (k := 1) (n := 6) (Nat.le_of_ble_eq_true rfl) (Nat.le_of_ble_eq_true rfl) ?_
    exact W.iret (v := 0) hx hb hr (fun t ht hW => ⟨⟨0, (u9, vp_updL f 0 r9.toInt64), rfl, hok, by rw [ht]; exact hP, va_K.moved hW.alike hK, hD⟩, hS.F ht⟩) hS.2.2 dL_run_16
abbrev wsL_look : List Cond := .codeWith yL_look cL_look 4 (some .int) [(0, 9, 12, 13)] :: tbl
set_option maxHeartbeats 4000000 in
set_option maxRecDepth 100000 in
theorem c_L_look (l : Launch) (hl9 : l.stackTraces = false) (dC : Nat → ClassId) (dI : Nat → Nat → Nat) (cI cJ : ClassId) (h : Nat → Nat) (tt zs : Nat → Nat) (sz : Nat) {σ : S_BM} {f : Nat → Int64} {a1 : Int32} {Φ : Int32 → (S_BM × (Nat → Int64)) → Prop} (hok : wp_X8_look σ a1 (fun r u => Φ 0 (u, vp_updL f 0 r.toInt64)) (Φ 1 (σ, f))) : Met l yL_look wsL_look ({ frames := 7, cells := 1, slots := 6, locals := 103 }) (va_Pc [.ref (h 0), .int a1, .ref (h 20)] (cpreX dC dI cI cJ tt zs (w_BF h cI cJ (σ, f)) sz)) (va_Qi Φ (fun u => cpost dC dI cI cJ (va_A (w_BF h cI cJ (σ, f)) sz) (w_BF h cI cJ u)) (va_A (w_BF h cI cJ (σ, f)) sz)) 1 6 (va_A (w_BF h cI cJ (σ, f)) sz) := by
  refine va_MetW (cc := cL_look) (maxL := 4) (ret := some .int) (hh := [(0, 9, 12, 13)]) (by decide) rfl ?_
  intro p e s m args below meth c s₁ B hml hv
  obtain ⟨rfl, ⟨⟨hsz, hP, hK, hD0⟩, hT⟩, hZ⟩ := hv
  have hx := B.exec
  have hb := B.bytes
  have hr := B.returns
  have hts := atoms_spec (ws := wsL_look) B.pre
  have hown : s.vm.findClass RL = some m.cls := findClass_of_methodNamed B.named
  have hlocks := B.notSynchronized
  have htab : c.exceptionTable.toList = [] ++ (⟨0, 9, 12, 13⟩ : ExceptionTableEntry) :: [] := (vx_table (x := yL_look) B (hts _ List.mem_cons_self)).trans rfl
  subst hsz
  have hD := hD0.self (sz := s.heap.size)
  generalize hAe : va_A (w_BF h cI cJ (σ, f)) s.heap.size = A at hD hT hZ ⊢
  have hA : ∀ q : Nat, s.heap.size ≤ q → A q := fun q h => by rw [← hAe]; exact Or.inr h
  clear hD0 hAe
  have hS : va_S A s.heap s.heap [] := va_S.rf
  have hl := lv_entry ([.ref (h 0), .int a1, .ref (h 20)]) (n := 4) (Nat.le_of_ble_eq_true rfl)
  rw [lg_entry_eq]
  generalize (lg_sl ([.ref (h 0), .int a1, .ref (h 20)]) ++ List.replicate (4 - (lg_sl ([.ref (h 0), .int a1, .ref (h 20)])).length) Slot.unset).toArray = ls at hl ⊢
  have hl : lv_has ls 4 [(0, .ref (h 0)), (1, .int a1), (2, .ref (h 20))] := hl
  refine lv_aload_n hx hb dL_look_0 rfl (lv_at hl 2 rfl) ?_
  refine lv_iconst (v := 0) hx hb dL_look_1 (by decide) ?_
  refine lv_aload_n hx hb dL_look_2 rfl (lv_at hl 0 rfl) ?_
  refine lv_iload_n hx hb dL_look_3 rfl (lv_at hl 1 rfl) ?_
  have hPc := hP.sub (ws' := w_BM h cI cJ σ) [0, 1, 2, 3, 4, 5, 6, 7, 8, 9, 10, 11, 12] rfl
  have hDc := hD.sub (ws' := w_BM h cI cJ σ) [0, 1, 2, 3, 4, 5, 6, 7, 8, 9, 10, 11, 12] (by decide) rfl
  have hFc := va_free (wc := w_BM h cI cJ σ) hD hS hA [0, 1, 2, 3, 4, 5, 6, 7, 8, 9, 10, 11, 12] rfl
  refine vx_calli (vx_runV (As := [.int a1]) (rest := [.int 0, .ref (h 20)]) ⟨hx, hb, hml, hown, hts⟩ (c_X8_look l hl9 dC dI cI cJ h tt zs _ hok) (cwV 1 hts (tb_gV tw_3_157 tw_3_158 tw_3_159 tw_1_1 tw_3_160) rfl rfl rfl (by decide +kernel) ⟨Nat.le_of_ble_eq_true rfl, Nat.le_of_ble_eq_true rfl⟩) (cpre_VX (ci := 7) (q0 := 0) hK hPc hDc hT hZ hS hFc rfl rfl) rfl rfl hl.1 rfl (lv_room (Nat.le_of_ble_eq_true rfl)) dL_look_4 ⟨Nat.le_of_ble_eq_true rfl, Nat.le_of_ble_eq_true rfl⟩) hS (fun q _ h => hFc q h) hFc (fun q _ h => hFc q h) (fun E ce q9 u9 t H1 locs ht hvm hok hB hz1 hk1 hS hce hcv hcl => ?_) (fun r9 u9 t H1 locs ht hvm hok hB hz1 hk1 hS => ?_)
  · obtain ⟨rfl, hB⟩ := hB
    obtain ⟨hP, hD⟩ := cjoin ht hP hD [0, 1, 2, 3, 4, 5, 6, 7, 8, 9, 10, 11, 12] [13] rfl rfl (by decide) (by decide) hk1 hFc hB
    have hP := hP.sub (ws' := w_BF h cI cJ (σ, f)) [1, 2, 3, 4, 5, 6, 7, 8, 9, 10, 11, 12, 13, 0] rfl
    have hD := hD.sub (ws' := w_BF h cI cJ (σ, f)) [1, 2, 3, 4, 5, 6, 7, 8, 9, 10, 11, 12, 13, 0] (by decide) rfl
    refine vx_catch (own := RL) (name := "java/lang/IllegalArgumentException") hown [] ⟨0, 9, 12, 13⟩ [] htab (fun z hz => absurd hz List.not_mem_nil) (by decide) (by decide) (hts _ (List.mem_cons_of_mem _ tw_3_68)) (va_Nw.use rfl hZ.2.2.2.2.2.2.2.1) hce hcv hcl ?_
    refine lv_astore_n (lv' := [(3, .ref q9), (0, .ref (h 0)), (1, .int a1), (2, .ref (h 20))]) hx hb dL_look_12 rfl hl (by decide) rfl (fun ls hl => ?_)
    refine lv_iconst (v := 1) hx hb dL_look_13 (by decide) ?_
    refine W.widen (k := 1) (n := 6) (Nat.le_of_ble_eq_true rfl) (Nat.le_of_ble_eq_true rfl) ?_
    exact W.iret (v := 1) hx hb hr (fun t ht hW => ⟨⟨1, (σ, f), rfl, hok, by rw [ht]; exact hP, va_K.moved hW.alike hK, hD⟩, hS.F ht⟩) hS.2.2 dL_look_14
  · obtain ⟨hP, hD⟩ := cjoin ht hP hD [0, 1, 2, 3, 4, 5, 6, 7, 8, 9, 10, 11, 12] [13] rfl rfl (by decide) (by decide) hk1 hFc hB
    have hP := hP.sub (ws' := w_BF h cI cJ (u9, f)) [1, 2, 3, 4, 5, 6, 7, 8, 9, 10, 11, 12, 13, 0] rfl
    have hD := hD.sub (ws' := w_BF h cI cJ (u9, f)) [1, 2, 3, 4, 5, 6, 7, 8, 9, 10, 11, 12, 13, 0] (by decide) rfl
    refine lv_i2l hx hb dL_look_7 rfl ?_
    refine va_last hx hb hK hP hD hS 13 1 rfl rfl (vp_in_nI (n := 0) (by omega) (by omega)) dL_look_8 (fun H locs hP hD hS => ?_)
    have hP : va_P (dC, dI) vwCl (w_BF h cI cJ (u9, vp_updL f 0 r9.toInt64)) H := hP
    have hD : va_D A (w_BF h cI cJ (u9, vp_updL f 0 r9.toInt64)) := hD
    refine lv_goto (tgt := 15) hx hb dL_look_9 (by decide) ?_
    refine lv_iconst (v := 0) hx hb dL_look_15 (by decide) ?_
    refine W.widen (k := 1) (n := 6) (Nat.le_of_ble_eq_true rfl) (Nat.le_of_ble_eq_true rfl) ?_
    exact W.iret (v := 0) hx hb hr (fun t ht hW => ⟨⟨0, (u9, vp_updL f 0 r9.toInt64), rfl, hok, by rw [ht]; exact hP, va_K.moved hW.alike hK, hD⟩, hS.F ht⟩) hS.2.2 dL_look_16
abbrev wsL_set : List Cond := .codeWith yL_set cL_set 4 (some .int) [(0, 6, 9, 13)] :: tbl
set_option maxHeartbeats 4000000 in
set_option maxRecDepth 100000 in
theorem c_L_set (l : Launch) (hl9 : l.stackTraces = false) (dC : Nat → ClassId) (dI : Nat → Nat → Nat) (cI cJ : ClassId) (h : Nat → Nat) (tt zs : Nat → Nat) (sz : Nat) {σ : S_BM} {a1 : Int32} {a2 : Int32} {Φ : Int32 → S_BM → Prop} (hok : wp_X8_set σ a1 a2 (Φ 0) (Φ 1 σ)) : Met l yL_set wsL_set ({ frames := 7, cells := 1, slots := 6, locals := 104 }) (va_Pc [.ref (h 0), .int a1, .int a2] (cpreX dC dI cI cJ tt zs (w_BM h cI cJ σ) sz)) (va_Qi Φ (fun u => cpost dC dI cI cJ (va_A (w_BM h cI cJ σ) sz) (w_BM h cI cJ u)) (va_A (w_BM h cI cJ σ) sz)) 1 6 (va_A (w_BM h cI cJ σ) sz) := by
  refine va_MetW (cc := cL_set) (maxL := 4) (ret := some .int) (hh := [(0, 6, 9, 13)]) (by decide) rfl ?_
  intro p e s m args below meth c s₁ B hml hv
  obtain ⟨rfl, ⟨⟨hsz, hP, hK, hD0⟩, hT⟩, hZ⟩ := hv
  have hx := B.exec
  have hb := B.bytes
  have hr := B.returns
  have hts := atoms_spec (ws := wsL_set) B.pre
  have hown : s.vm.findClass RL = some m.cls := findClass_of_methodNamed B.named
  have hlocks := B.notSynchronized
  have htab : c.exceptionTable.toList = [] ++ (⟨0, 6, 9, 13⟩ : ExceptionTableEntry) :: [] := (vx_table (x := yL_set) B (hts _ List.mem_cons_self)).trans rfl
  subst hsz
  have hD := hD0.self (sz := s.heap.size)
  generalize hAe : va_A (w_BM h cI cJ σ) s.heap.size = A at hD hT hZ ⊢
  have hA : ∀ q : Nat, s.heap.size ≤ q → A q := fun q h => by rw [← hAe]; exact Or.inr h
  clear hD0 hAe
  have hS : va_S A s.heap s.heap [] := va_S.rf
  have hl := lv_entry ([.ref (h 0), .int a1, .int a2]) (n := 4) (Nat.le_of_ble_eq_true rfl)
  rw [lg_entry_eq]
  generalize (lg_sl ([.ref (h 0), .int a1, .int a2]) ++ List.replicate (4 - (lg_sl ([.ref (h 0), .int a1, .int a2])).length) Slot.unset).toArray = ls at hl ⊢
  have hl : lv_has ls 4 [(0, .ref (h 0)), (1, .int a1), (2, .int a2)] := hl
  refine lv_aload_n hx hb dL_set_0 rfl (lv_at hl 0 rfl) ?_
  refine lv_iload_n hx hb dL_set_1 rfl (lv_at hl 1 rfl) ?_
  refine lv_iload_n hx hb dL_set_2 rfl (lv_at hl 2 rfl) ?_
  have hPc := hP
  have hDc := hD
  have hFc := va_free (wc := w_BM h cI cJ σ) hD hS hA [0, 1, 2, 3, 4, 5, 6, 7, 8, 9, 10, 11, 12] rfl
  refine vx_callv (vx_runV (As := [.int a1, .int a2]) (rest := []) ⟨hx, hb, hml, hown, hts⟩ (c_X8_set l hl9 dC dI cI cJ h tt zs _ hok) (cwV 2 hts (tb_gV tw_3_169 tw_3_170 tw_3_171 tw_1_1 tw_3_172) rfl rfl rfl (by decide +kernel) ⟨Nat.le_of_ble_eq_true rfl, Nat.le_of_ble_eq_true rfl⟩) (cpre_VX (ci := 7) (q0 := 0) hK hPc hDc hT hZ hS hFc rfl rfl) rfl rfl hl.1 rfl (lv_room (Nat.le_of_ble_eq_true rfl)) dL_set_3 ⟨Nat.le_of_ble_eq_true rfl, Nat.le_of_ble_eq_true rfl⟩) hS (fun q _ h => hFc q h) hFc (fun q _ h => hFc q h) (fun E ce q9 u9 t H1 locs ht hvm hok hB hz1 hk1 hS hce hcv hcl => ?_) (fun u9 t H1 locs ht hvm hok hB hz1 hk1 hS => ?_)
  · obtain ⟨rfl, hB⟩ := hB
    obtain ⟨hP, hD⟩ := cjoin_w ht hB hFc
    refine vx_catch (own := RL) (name := "java/lang/IllegalArgumentException") hown [] ⟨0, 6, 9, 13⟩ [] htab (fun z hz => absurd hz List.not_mem_nil) (by decide) (by decide) (hts _ (List.mem_cons_of_mem _ tw_3_68)) (va_Nw.use rfl hZ.2.2.2.2.2.2.2.1) hce hcv hcl ?_
    refine lv_astore_n (lv' := [(3, .ref q9), (0, .ref (h 0)), (1, .int a1), (2, .int a2)]) hx hb dL_set_9 rfl hl (by decide) rfl (fun ls hl => ?_)
    refine lv_iconst (v := 1) hx hb dL_set_10 (by decide) ?_
    refine W.widen (k := 1) (n := 6) (Nat.le_of_ble_eq_true rfl) (Nat.le_of_ble_eq_true rfl) ?_
    exact W.iret (v := 1) hx hb hr (fun t ht hW => ⟨⟨1, σ, rfl, hok, by rw [ht]; exact hP, va_K.moved hW.alike hK, hD⟩, hS.F ht⟩) hS.2.2 dL_set_11
  · obtain ⟨hP, hD⟩ := cjoin_w ht hB hFc
    refine lv_goto (tgt := 12) hx hb dL_set_6 (by decide) ?_
    refine lv_iconst (v := 0) hx hb dL_set_12 (by decide) ?_
    refine W.widen (k := 1) (n := 6) (Nat.le_of_ble_eq_true rfl) (Nat.le_of_ble_eq_true rfl) ?_
    exact W.iret (v := 0) hx hb hr (fun t ht hW => ⟨⟨0, u9, rfl, hok, by rw [ht]; exact hP, va_K.moved hW.alike hK, hD⟩, hS.F ht⟩) hS.2.2 dL_set_13
