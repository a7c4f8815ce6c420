theorem tw_1_16 : Cond.classLink RL 8 RX8 ∈ tbl := tbl_1 (i := 16) rfl rfl
theorem tw_1_17 : Cond.instantiable RX8 3 ∈ tbl := tbl_1 (i := 17) rfl rfl
theorem tw_1_18 : Cond.methodLink RL 26 yX8_init ∈ tbl := tbl_1 (i := 18) rfl rfl
theorem tw_1_19 : Cond.instanceMethod yX8_init ∈ tbl := tbl_1 (i := 19) rfl rfl
theorem tw_1_20 : Cond.code yX8_init cX8_init 1 none ∈ tbl := tbl_1 (i := 20) rfl rfl
theorem tw_3_175 : Cond.classLink RL 27 RX9 ∈ tbl := tbl_3 (i := 175) rfl rfl
theorem tw_3_176 : Cond.instantiable RX9 33 ∈ tbl := tbl_3 (i := 176) rfl rfl
theorem tw_3_177 : Cond.methodLink RL 29 yX9_init ∈ tbl := tbl_3 (i := 177) rfl rfl
theorem tw_3_178 : Cond.instanceMethod yX9_init ∈ tbl := tbl_3 (i := 178) rfl rfl
theorem tw_3_179 : Cond.code yX9_init cX9_init 1 none ∈ tbl := tbl_3 (i := 179) rfl rfl
theorem lwt_1 {w : Cond} {i : Nat} (h : tables_1_1[i]? = some w) : w ∈ lw_tbl := List.mem_append_right _ (List.mem_append_left _ (List.mem_of_getElem? h))
theorem lwt_2 {w : Cond} {i : Nat} (h : tables_1_2[i]? = some w) : w ∈ lw_tbl := List.mem_append_right _ (List.mem_append_right _ (List.mem_append_left _ (List.mem_of_getElem? h)))
theorem lwt_3 {w : Cond} {i : Nat} (h : tables_1_3[i]? = some w) : w ∈ lw_tbl := List.mem_append_right _ (List.mem_append_right _ (List.mem_append_right _ (List.mem_append_left _ (List.mem_of_getElem? h))))
theorem lwt_4 {w : Cond} {i : Nat} (h : tables_1_4[i]? = some w) : w ∈ lw_tbl := List.mem_append_right _ (List.mem_append_right _ (List.mem_append_right _ (List.mem_append_right _ (List.mem_append_left _ (List.mem_of_getElem? h)))))
theorem lwt_5 {w : Cond} {i : Nat} (h : tables_1_5[i]? = some w) : w ∈ lw_tbl := List.mem_append_right _ (List.mem_append_right _ (List.mem_append_right _ (List.mem_append_right _ (List.mem_append_right _ (List.mem_of_getElem? h)))))
theorem lq_1_10 : Cond.initialized "java/lang/Throwable" ∈ lw_tbl := lwt_1 (i := 10) rfl
theorem lq_1_14 : Cond.initialized RX2 ∈ lw_tbl := lwt_1 (i := 14) rfl
theorem lq_1_17 : Cond.instantiable RX8 3 ∈ lw_tbl := lwt_1 (i := 17) rfl
theorem lq_1_26 : Cond.methodLinkNest RX8 9 yX0_init RX8 ∈ lw_tbl := lwt_1 (i := 26) rfl
theorem lq_1_32 : Cond.methodLinkNest RX0 13 yX6_init RX8 ∈ lw_tbl := lwt_1 (i := 32) rfl
theorem lq_1_72 : Cond.methodLinkNest RX0 20 yX4_init RX8 ∈ lw_tbl := lwt_1 (i := 72) rfl
theorem lq_1_135 : Cond.methodLinkNest RX5 15 yX7_init RX8 ∈ lw_tbl := lwt_1 (i := 135) rfl
theorem lq_1_207 : Cond.methodLinkNest RX8 27 yX1_init RX8 ∈ lw_tbl := lwt_1 (i := 207) rfl
theorem lq_2_129 : Cond.laysStatic RX2 "OPERATIONS" "[I" ∈ lw_tbl := lwt_2 (i := 129) rfl
theorem lq_2_131 : Cond.laysStatic RX2 "MODES" "[I" ∈ lw_tbl := lwt_2 (i := 131) rfl
theorem lq_2_145 : Cond.laysStatic RX2 "CYCLES" "[I" ∈ lw_tbl := lwt_2 (i := 145) rfl
theorem lq_3_75 : Cond.castable "java/lang/IllegalArgumentException" "java/lang/IllegalArgumentException" ∈ lw_tbl := lwt_3 (i := 75) rfl
theorem lq_3_77 : Cond.declares ⟨"java/lang/RuntimeException", "<init>", "(Ljava/lang/String;)V"⟩ ∈ lw_tbl := lwt_3 (i := 77) rfl
theorem lq_3_79 : Cond.declares ⟨"java/lang/Exception", "<init>", "(Ljava/lang/String;)V"⟩ ∈ lw_tbl := lwt_3 (i := 79) rfl
theorem lq_3_81 : Cond.declares ⟨"java/lang/Throwable", "<init>", "(Ljava/lang/String;)V"⟩ ∈ lw_tbl := lwt_3 (i := 81) rfl
theorem lq_3_100 : Cond.laysStatic "java/lang/Throwable" "UNASSIGNED_STACK" "[Ljava/lang/StackTraceElement;" ∈ lw_tbl := lwt_3 (i := 100) rfl
theorem lq_3_102 : Cond.laysStatic "java/lang/Throwable" "SUPPRESSED_SENTINEL" "Ljava/util/List;" ∈ lw_tbl := lwt_3 (i := 102) rfl
theorem lq_3_112 : Cond.stringRef RX8 34 "n is not 1 .. 8" ∈ lw_tbl := lwt_3 (i := 112) rfl
theorem lq_3_139 : Cond.stringRef RX8 40 "not all addresses are 0 .. 65535" ∈ lw_tbl := lwt_3 (i := 139) rfl
theorem lq_3_152 : Cond.stringRef RX8 55 "n is not 0 .. 100000" ∈ lw_tbl := lwt_3 (i := 152) rfl
theorem lq_3_161 : Cond.stringRef RX8 88 "the address is not 0 .. 65535" ∈ lw_tbl := lwt_3 (i := 161) rfl
theorem lq_3_174 : Cond.stringRef RX8 109 "i is not 0 .. 5" ∈ lw_tbl := lwt_3 (i := 174) rfl
theorem lw_runs {L : List Cond} {N p : Nat} {f : Nat → Cond} (h : (List.range N).map f = (L.drop p).take N) (j : Nat) (hj : j < N) : f j ∈ L := List.mem_of_mem_drop (List.mem_of_mem_take (h ▸ List.mem_map.mpr ⟨j, List.mem_range.mpr hj, rfl⟩))
set_option maxHeartbeats 4000000 in
set_option maxRecDepth 100000 in
theorem law_cstat {b : Nat} {s : State} (hts0 : ∀ w ∈ lw_tbl, w.before #[Value.ref b] s = true) (hgv : (Jvm.Cond.and given_1 narrow_1).before #[Value.ref b] s = true) : ∃ tt : Nat → Nat, cstat tt (fun q : Nat => s.heap.size ≤ q) s s.heap := by
  have hs := flat_of_before _ hgv
  have hA : ∀ a : Nat, a < s.heap.size → ¬ (fun q : Nat => s.heap.size ≤ q) a := fun a h9 => Nat.not_le.mpr h9
  have ha0 : (Cond.arrayOf (Jvm.Term.static "BoardMachine$Codes" "OPERATIONS" "[I") .int).before #[Value.ref b] s = true := hs _ (by decide +kernel)
  have hl0 : (Cond.eq (.length (Jvm.Term.static "BoardMachine$Codes" "OPERATIONS" "[I")) (.int (Int32.ofNat 256))).before #[Value.ref b] s = true := hs _ (by decide +kernel)
  have he0 : ∀ j : Nat, j < 256 → (Jvm.Cond.eq (Jvm.Term.elem (Jvm.Term.static "BoardMachine$Codes" "OPERATIONS" "[I") (Jvm.Term.int (Int32.ofNat j))) (Jvm.Term.int (tab 0 j))).before #[Value.ref b] s = true := fun j hj => hs _ (lw_runs (p := 7) (N := 256) (f := fun j => Jvm.Cond.eq (Jvm.Term.elem (Jvm.Term.static "BoardMachine$Codes" "OPERATIONS" "[I") (Jvm.Term.int (Int32.ofNat j))) (Jvm.Term.int (tab 0 j))) (by decide +kernel) j hj)
  obtain ⟨t0, ht0, hT0⟩ := va_Tof (f := fun j => .int (tab 0 j)) (N := 256) (A := (fun q : Nat => s.heap.size ≤ q)) (by decide) ha0 (va_eqt hl0) (fun j hj => va_eqt (he0 j hj)) hA
  have ha1 : (Cond.arrayOf (Jvm.Term.static "BoardMachine$Codes" "MODES" "[I") .int).before #[Value.ref b] s = true := hs _ (by decide +kernel)
  have hl1 : (Cond.eq (.length (Jvm.Term.static "BoardMachine$Codes" "MODES" "[I")) (.int (Int32.ofNat 256))).before #[Value.ref b] s = true := hs _ (by decide +kernel)
  have he1 : ∀ j : Nat, j < 256 → (Jvm.Cond.eq (Jvm.Term.elem (Jvm.Term.static "BoardMachine$Codes" "MODES" "[I") (Jvm.Term.int (Int32.ofNat j))) (Jvm.Term.int (tab 1 j))).before #[Value.ref b] s = true := fun j hj => hs _ (lw_runs (p := 266) (N := 256) (f := fun j => Jvm.Cond.eq (Jvm.Term.elem (Jvm.Term.static "BoardMachine$Codes" "MODES" "[I") (Jvm.Term.int (Int32.ofNat j))) (Jvm.Term.int (tab 1 j))) (by decide +kernel) j hj)
  obtain ⟨t1, ht1, hT1⟩ := va_Tof (f := fun j => .int (tab 1 j)) (N := 256) (A := (fun q : Nat => s.heap.size ≤ q)) (by decide) ha1 (va_eqt hl1) (fun j hj => va_eqt (he1 j hj)) hA
  have ha2 : (Cond.arrayOf (Jvm.Term.static "BoardMachine$Codes" "CYCLES" "[I") .int).before #[Value.ref b] s = true := hs _ (by decide +kernel)
  have hl2 : (Cond.eq (.length (Jvm.Term.static "BoardMachine$Codes" "CYCLES" "[I")) (.int (Int32.ofNat 256))).before #[Value.ref b] s = true := hs _ (by decide +kernel)
  have he2 : ∀ j : Nat, j < 256 → (Jvm.Cond.eq (Jvm.Term.elem (Jvm.Term.static "BoardMachine$Codes" "CYCLES" "[I") (Jvm.Term.int (Int32.ofNat j))) (Jvm.Term.int (tab 2 j))).before #[Value.ref b] s = true := fun j hj => hs _ (lw_runs (p := 525) (N := 256) (f := fun j => Jvm.Cond.eq (Jvm.Term.elem (Jvm.Term.static "BoardMachine$Codes" "CYCLES" "[I") (Jvm.Term.int (Int32.ofNat j))) (Jvm.Term.int (tab 2 j))) (by decide +kernel) j hj)
  obtain ⟨t2, ht2, hT2⟩ := va_Tof (f := fun j => .int (tab 2 j)) (N := 256) (A := (fun q : Nat => s.heap.size ≤ q)) (by decide) ha2 (va_eqt hl2) (fun j hj => va_eqt (he2 j hj)) hA
  exact ⟨fun i => match i with | 0 => t0 | 1 => t1 | _ => t2, ⟨va_Zref (hts0 _ lq_2_129) (hts0 _ lq_1_14) ht0 hA, hT0⟩, ⟨va_Zref (hts0 _ lq_2_131) (hts0 _ lq_1_14) ht1 hA, hT1⟩, ⟨va_Zref (hts0 _ lq_2_145) (hts0 _ lq_1_14) ht2 hA, hT2⟩⟩
set_option maxHeartbeats 4000000 in
set_option maxRecDepth 100000 in
theorem law_zxx {b : Nat} {s : State} (hts0 : ∀ w ∈ lw_tbl, w.before #[Value.ref b] s = true) (hgv : (Jvm.Cond.and given_1 narrow_1).before #[Value.ref b] s = true) : ∃ zs : Nat → Nat, zxx zs (fun q : Nat => s.heap.size ≤ q) s s.heap := by
  have hs := flat_of_before _ hgv
  have hA : ∀ a : Nat, a < s.heap.size → ¬ (fun q : Nat => s.heap.size ≤ q) a := fun a h9 => Nat.not_le.mpr h9
  obtain ⟨c9, k9, hc, -⟩ := Cond.instantiable_spec (hts0 _ lq_1_17)
  obtain ⟨-, -, -, a0, -, -, -, -, -, e0⟩ := Cond.stringRef_spec hc (hts0 _ lq_3_112)
  obtain ⟨-, -, -, a1, -, -, -, -, -, e1⟩ := Cond.stringRef_spec hc (hts0 _ lq_3_139)
  obtain ⟨-, -, -, a2, -, -, -, -, -, e2⟩ := Cond.stringRef_spec hc (hts0 _ lq_3_152)
  obtain ⟨-, -, -, a3, -, -, -, -, -, e3⟩ := Cond.stringRef_spec hc (hts0 _ lq_3_161)
  obtain ⟨-, -, -, a4, -, -, -, -, -, e4⟩ := Cond.stringRef_spec hc (hts0 _ lq_3_174)
  exact ⟨fun i => match i with | 0 => a0 | 1 => a1 | 2 => a2 | 3 => a3 | _ => a4, vx_Zqof (hts0 _ lq_3_100) (hts0 _ lq_1_10) (hs _ (by decide +kernel)) hA, vx_Zqof (hts0 _ lq_3_102) (hts0 _ lq_1_10) (hs _ (by decide +kernel)) hA, vk_R.of (hts0 _ lq_3_112) e0, vk_R.of (hts0 _ lq_3_139) e1, vk_R.of (hts0 _ lq_3_152) e2, vk_R.of (hts0 _ lq_3_161) e3, vk_R.of (hts0 _ lq_3_174) e4, va_Nw.of rfl (hts0 _ lq_3_75), va_Nw.of rfl (hts0 _ lq_3_77), va_Nw.of rfl (hts0 _ lq_3_79), va_Nw.of rfl (hts0 _ lq_3_81)⟩
theorem law_nst {b : Nat} {s : State} (hts0 : ∀ w ∈ lw_tbl, w.before #[Value.ref b] s = true) : nst s := ⟨va_Nw.of rfl (hts0 _ lq_1_26), va_Nw.of rfl (hts0 _ lq_1_32), va_Nw.of rfl (hts0 _ lq_1_72), va_Nw.of rfl (hts0 _ lq_1_135), va_Nw.of rfl (hts0 _ lq_1_207)⟩
set_option maxHeartbeats 4000000 in
set_option maxRecDepth 100000 in
theorem law_known {b : Nat} {s : State} (hts0 : ∀ w ∈ lw_tbl, w.before #[Value.ref b] s = true) : ∃ (dC : Nat → ClassId) (dI : Nat → Nat → Nat) (cI cJ : ClassId), va_K (dC, dI) vwCl [(cI, .int), (cJ, .long)] s := by
  have hts := law_hts hts0
  obtain ⟨c0, iS0, hKn0⟩ := u_known (C := RX0) (T := TX0) (N := 4) hts (fun w h => List.mem_cons_of_mem _ (in_X0 w h)) (hts _ (List.mem_cons_of_mem _ tw_1_25))
  obtain ⟨c1, iS1, hKn1⟩ := u_known (C := RX1) (T := TX1) (N := 2) hts (fun w h => List.mem_cons_of_mem _ (in_X1 w h)) (hts _ (List.mem_cons_of_mem _ tw_1_206))
  obtain ⟨c2, iS2, hKn2⟩ := u_known (C := RX3) (T := TX3) (N := 1) hts (fun w h => List.mem_cons_of_mem _ (in_X3 w h)) (hts _ (List.mem_cons_of_mem _ tw_1_99))
  obtain ⟨c3, iS3, hKn3⟩ := u_known (C := RX4) (T := TX4) (N := 6) hts (fun w h => List.mem_cons_of_mem _ (in_X4 w h)) (hts _ (List.mem_cons_of_mem _ tw_1_71))
  obtain ⟨c4, iS4, hKn4⟩ := u_known (C := RX5) (T := TX5) (N := 15) hts (fun w h => List.mem_cons_of_mem _ (in_X5 w h)) (hts _ (List.mem_cons_of_mem _ tw_1_128))
  obtain ⟨c5, iS5, hKn5⟩ := u_known (C := RX6) (T := TX6) (N := 9) hts (fun w h => List.mem_cons_of_mem _ (in_X6 w h)) (hts _ (List.mem_cons_of_mem _ tw_1_31))
  obtain ⟨c6, iS6, hKn6⟩ := u_known (C := RX7) (T := TX7) (N := 2) hts (fun w h => List.mem_cons_of_mem _ (in_X7 w h)) (hts _ (List.mem_cons_of_mem _ tw_1_134))
  obtain ⟨c7, iS7, hKn7⟩ := u_known (C := RX8) (T := TX8) (N := 3) hts (fun w h => List.mem_cons_of_mem _ (in_X8 w h)) (hts _ (List.mem_cons_of_mem _ tw_1_17))
  obtain ⟨c8, iS8, hKn8⟩ := u_known (C := RX9) (T := TX9) (N := 33) hts (fun w h => List.mem_cons_of_mem _ (in_X9 w h)) (hts _ (List.mem_cons_of_mem _ tw_3_176))
  obtain ⟨cI, kI, pI, h1, h2, h3⟩ := Cond.arrayClass_spec (hts _ (List.mem_cons_of_mem _ tw_1_97))
  obtain ⟨cJ, kJ, pJ, h4, h5, h6⟩ := Cond.arrayClass_spec (hts _ (List.mem_cons_of_mem _ tw_1_109))
  refine ⟨fun k => match k with | 0 => c0 | 1 => c1 | 2 => c2 | 3 => c3 | 4 => c4 | 5 => c5 | 6 => c6 | 7 => c7 | _ => c8, fun k => match k with | 0 => iS0 | 1 => iS1 | 2 => iS2 | 3 => iS3 | 4 => iS4 | 5 => iS5 | 6 => iS6 | 7 => iS7 | _ => iS8, cI, cJ, fun k q hq => ?_, fun k q hq => ?_⟩
  · match k, hq with
    | 0, hq => cases hq; exact hKn0
    | 1, hq => cases hq; exact hKn1
    | 2, hq => cases hq; exact hKn2
    | 3, hq => cases hq; exact hKn3
    | 4, hq => cases hq; exact hKn4
    | 5, hq => cases hq; exact hKn5
    | 6, hq => cases hq; exact hKn6
    | 7, hq => cases hq; exact hKn7
    | 8, hq => cases hq; exact hKn8
    | k + 9, hq => simp [vwCl] at hq
  · match k, hq with
    | 0, hq => cases hq; exact ⟨fun n z => ⟨fun k h => (by cases h), kI, h2, pI, h3⟩, h1⟩
    | 1, hq => cases hq; exact ⟨fun n z => ⟨fun k h => (by cases h), kJ, h5, pJ, h6⟩, h4⟩
    | k + 2, hq => simp at hq
set_option maxHeartbeats 4000000 in
set_option maxRecDepth 100000 in
theorem whole_start {p : Program} {e : Env} {s : State} {m : MethodId} {below : List Frame} {meth : Method} {c : Code} (l : Launch) (hl9 : l.stackTraces = false) {b L : Nat} {xs : Nat → Int32} (hL : L ≤ 2560) (C0 : lw_At p s m meth c b L xs) : W p l e room_1 s m #[Value.ref b] below meth c s.heap [] 0 0 (lw_Z below #[Value.ref b] s) (entryFrame m ([Value.ref b] : List Value).toArray 7) := by
  obtain ⟨hx, hb, hr, hml, hown, hts0, hX, hbl, hlocks, hgv⟩ := id C0
  have hts := law_hts hts0
  have hown : s.vm.findClass RL = some m.cls := hown
  have hA : ∀ q : Nat, s.heap.size ≤ q → (fun q : Nat => s.heap.size ≤ q) q := fun _ h => h
  obtain ⟨dC, dI, cI, cJ, hK⟩ := law_known hts0
  obtain ⟨tt, hT⟩ := law_cstat hts0 hgv
  obtain ⟨zs, hZ⟩ := law_zxx hts0 hgv
  have hN := law_nst hts0
  have hS : va_S (fun q : Nat => s.heap.size ≤ q) s.heap s.heap [] := va_S.rf
  have hP : va_P (dC, dI) vwCl [] s.heap := fun k q h => by simp at h
  have hD : va_D (fun q : Nat => s.heap.size ≤ q) [] := ⟨fun i j p q h => by simp at h, fun k q h => by simp at h⟩
  have hl := lv_entry ([.ref b]) (n := 7) (Nat.le_of_ble_eq_true rfl)
  rw [lg_entry_eq]
  generalize (lg_sl ([.ref b]) ++ List.replicate (7 - (lg_sl ([.ref b])).length) Slot.unset).toArray = ls at hl ⊢
  have hl : lv_has ls 7 [(0, .ref b)] := hl
  refine va_new (ci := 7) (fs := [.null, .null, .null]) (C := RX8) (T := TX8) (N := 3) hx hb hts (fun w h => List.mem_cons_of_mem _ (in_X8 w h)) tyX8 tyX8_ok hown (hts _ (List.mem_cons_of_mem _ tw_1_16)) (hts _ (List.mem_cons_of_mem _ tw_1_17)) (hts _ (List.mem_cons_of_mem _ tw_1_1)) hK hP hD hS hA rfl (fun j hj => match j, hj with | 0, _ => rfl | 1, _ => rfl | 2, _ => rfl | j + 3, h9 => absurd h9 (by omega)) (Nat.le_of_ble_eq_true rfl) (Nat.le_of_ble_eq_true rfl) dL_law_0 (fun q0 H hP hD hS => ?_)
  have hP : va_P (dC, dI) vwCl [(q0, .inr (7, [.null, .null, .null]))] H := hP
  have hD : va_D (fun q : Nat => s.heap.size ≤ q) [(q0, .inr (7, [.null, .null, .null]))] := hD
  refine W.widen (k := 1) (n := 3) (Nat.le_of_ble_eq_true rfl) (Nat.le_of_ble_eq_true rfl) ?_
  refine lv_dup hx hb dL_law_3 rfl ?_
  have hFc := va_free (wc := [(q0, .inr (7, [.null, .null, .null]))]) hD hS hA [0] rfl
  refine va_callv (va_runI (As := []) (rest := [.ref q0]) ⟨hx, hb, hml, hown, hts⟩ (c_X8_init l dC dI cI cJ q0 _) (cwI 0 hts (tb_gI tw_1_20) rfl rfl rfl (hts _ (List.mem_cons_of_mem _ tw_1_1)) (hts _ (List.mem_cons_of_mem _ tw_1_18)) (hts _ (List.mem_cons_of_mem _ tw_1_19)) rfl (by decide +kernel) ⟨Nat.le_of_ble_eq_true rfl, Nat.le_of_ble_eq_true rfl⟩) (cpre_SK hK hP hD hN) rfl rfl hl.1 rfl (lv_room (Nat.le_of_ble_eq_true rfl)) dL_law_4 ⟨Nat.le_of_ble_eq_true rfl, Nat.le_of_ble_eq_true rfl⟩) hS (fun q _ h => hFc q h) hFc (fun u4 t H1 locs ht hvm hu hB hz1 hk1 hS => ?_)
  obtain ⟨hP9, hD9⟩ := cjoin_w (w1 := w_BM u4 cI cJ K0) ht hB hFc
  generalize H1 = H at hP9 hS ⊢
  have hu : u4 0 = q0 := hu
  clear hz1 hk1 hB ht hvm hFc hP hD
  subst hu
  have hP := hP9
  have hD := hD9
  clear hP9 hD9
  refine W.widen (k := 13) (n := 10650) (Nat.le_of_ble_eq_true rfl) (Nat.le_of_ble_eq_true rfl) ?_
  refine lv_astore_n (lv' := [(1, .ref (u4 0)), (0, .ref b)]) hx hb dL_law_7 rfl hl (by decide) rfl (fun ls hl => ?_)
  refine va_new (ci := 8) (fs := [.int 0, .null, .null, .int 0, .int 0, .int 0, .int 0, .int 0, .int 0, .int 0, .int 0, .int 0, .int 0, .int 0, .int 0, .int 0, .int 0, .int 0, .int 0, .int 0, .int 0, .int 0, .int 0, .int 0, .null, .null, .long 0, .long 0, .long 0, .int 0, .int 0, .null, .null]) (C := RX9) (T := TX9) (N := 33) hx hb hts (fun w h => List.mem_cons_of_mem _ (in_X9 w h)) tyX9 tyX9_ok hown (hts _ (List.mem_cons_of_mem _ tw_3_175)) (hts _ (List.mem_cons_of_mem _ tw_3_176)) (hts _ (List.mem_cons_of_mem _ tw_1_9)) hK hP hD hS hA rfl (fun j hj => match j, hj with | 0, _ => rfl | 1, _ => rfl | 2, _ => rfl | 3, _ => rfl | 4, _ => rfl | 5, _ => rfl | 6, _ => rfl | 7, _ => rfl | 8, _ => rfl | 9, _ => rfl | 10, _ => rfl | 11, _ => rfl | 12, _ => rfl | 13, _ => rfl | 14, _ => rfl | 15, _ => rfl | 16, _ => rfl | 17, _ => rfl | 18, _ => rfl | 19, _ => rfl | 20, _ => rfl | 21, _ => rfl | 22, _ => rfl | 23, _ => rfl | 24, _ => rfl | 25, _ => rfl | 26, _ => rfl | 27, _ => rfl | 28, _ => rfl | 29, _ => rfl | 30, _ => rfl | 31, _ => rfl | 32, _ => rfl | j + 33, h9 => absurd h9 (by omega)) (Nat.le_of_ble_eq_true rfl) (Nat.le_of_ble_eq_true rfl) dL_law_8 (fun q8 H hP hD hS => ?_)
  refine W.widen (k := 14) (n := 10683) (Nat.le_of_ble_eq_true rfl) (Nat.le_of_ble_eq_true rfl) ?_
  refine lv_dup hx hb dL_law_11 rfl ?_
  have hPc := hP.sub (ws' := [(q8, .inr (8, [.int 0, .null, .null, .int 0, .int 0, .int 0, .int 0, .int 0, .int 0, .int 0, .int 0, .int 0, .int 0, .int 0, .int 0, .int 0, .int 0, .int 0, .int 0, .int 0, .int 0, .int 0, .int 0, .int 0, .null, .null, .long 0, .long 0, .long 0, .int 0, .int 0, .null, .null]))]) [13] rfl
  have hDc := hD.sub (ws' := [(q8, .inr (8, [.int 0, .null, .null, .int 0, .int 0, .int 0, .int 0, .int 0, .int 0, .int 0, .int 0, .int 0, .int 0, .int 0, .int 0, .int 0, .int 0, .int 0, .int 0, .int 0, .int 0, .int 0, .int 0, .int 0, .null, .null, .long 0, .long 0, .long 0, .int 0, .int 0, .null, .null]))]) [13] (by decide) rfl
  have hFc := va_free (wc := [(q8, .inr (8, [.int 0, .null, .null, .int 0, .int 0, .int 0, .int 0, .int 0, .int 0, .int 0, .int 0, .int 0, .int 0, .int 0, .int 0, .int 0, .int 0, .int 0, .int 0, .int 0, .int 0, .int 0, .int 0, .int 0, .null, .null, .long 0, .long 0, .long 0, .int 0, .int 0, .null, .null]))]) hD hS hA [13] rfl
  refine va_callv (va_runI (As := []) (rest := [.ref q8]) ⟨hx, hb, hml, hown, hts⟩ (c_X9_init l dC dI cI cJ q8 _) (cwI 0 hts (tb_gI tw_3_179) rfl rfl rfl (hts _ (List.mem_cons_of_mem _ tw_1_9)) (hts _ (List.mem_cons_of_mem _ tw_3_177)) (hts _ (List.mem_cons_of_mem _ tw_3_178)) rfl (by decide +kernel) ⟨Nat.le_of_ble_eq_true rfl, Nat.le_of_ble_eq_true rfl⟩) (cpre_S hK hPc hDc) rfl rfl hl.1 rfl (lv_room (Nat.le_of_ble_eq_true rfl)) dL_law_12 ⟨Nat.le_of_ble_eq_true rfl, Nat.le_of_ble_eq_true rfl⟩) hS (fun q _ h => hFc q h) hFc (fun u12 t H1 locs ht hvm hu hB hz1 hk1 hS => ?_)
  obtain ⟨hP9, hD9⟩ := cjoin (w1 := w_Model u12 cI cJ U0) ht hP hD [13] [0, 1, 2, 3, 4, 5, 6, 7, 8, 9, 10, 11, 12] rfl rfl (by decide) (by decide) hk1 hFc hB
  generalize H1 = H at hP9 hS ⊢
  have hP9 := hP9.sub (ws' := w_BM u4 cI cJ K0 ++ w_Model u12 cI cJ U0) [0, 1, 2, 3, 4, 5, 6, 7, 8, 9, 10, 11, 12, 13, 14, 15, 16, 17, 18, 19] rfl
  have hD9 := hD9.sub (ws' := w_BM u4 cI cJ K0 ++ w_Model u12 cI cJ U0) [0, 1, 2, 3, 4, 5, 6, 7, 8, 9, 10, 11, 12, 13, 14, 15, 16, 17, 18, 19] (by decide) rfl
  have hu : u12 13 = q8 := hu
  clear hz1 hk1 hB ht hvm hFc hPc hDc hP hD
  subst hu
  have hP := hP9
  have hD := hD9
  clear hP9 hD9
  refine W.widen (k := 20) (n := 92975) (Nat.le_of_ble_eq_true rfl) (Nat.le_of_ble_eq_true rfl) ?_
  refine lv_astore_n (lv' := [(2, .ref (u12 13)), (1, .ref (u4 0)), (0, .ref b)]) hx hb dL_law_15 rfl hl (by decide) rfl (fun ls hl => ?_)
  refine lv_iconst (v := 1) hx hb dL_law_16 (by decide) ?_
  refine va_newa (N' := 1) (a0 := (1, .inr (.inl (fun _ => 0)))) (atype := .long) (ty := .long) hx hb (hts _ (List.mem_cons_of_mem _ tw_1_109)) rfl hK hP hD hS hA (vc_J 1) (by decide) (by decide) (Nat.le_of_ble_eq_true rfl) (Nat.le_of_ble_eq_true rfl) (Nat.le_of_ble_eq_true rfl) dL_law_17 (fun q17 cA H hK9 hP hD hS => ?_)
  have hq9 : cA = cJ := Option.some.inj ((hK9.2 2 _ rfl).2.symm.trans (hK.2 1 _ rfl).2)
  rw [hq9] at hP hD
  clear hq9 hK9
  refine W.widen (k := 21) (n := 92976) (Nat.le_of_ble_eq_true rfl) (Nat.le_of_ble_eq_true rfl) ?_
  have hP := hP.sub (ws' := w_Law (fun i : Nat => match i with | 0 => u4 0 | 1 => u4 1 | 2 => u4 2 | 3 => u4 3 | 4 => u4 4 | 5 => u4 5 | 6 => u4 6 | 7 => u4 7 | 8 => u4 8 | 9 => u4 9 | 10 => u4 10 | 11 => u4 11 | 12 => u4 12 | 13 => u12 13 | 14 => u12 14 | 15 => u12 15 | 16 => u12 16 | 17 => u12 17 | 18 => u12 18 | 19 => u12 19 | _ => q17) cI cJ (K0, U0, fun _ => 0)) [0, 1, 2, 3, 4, 5, 6, 7, 8, 9, 10, 11, 12, 13, 14, 15, 16, 17, 18, 19, 20] rfl
  have hD := hD.sub (ws' := w_Law (fun i : Nat => match i with | 0 => u4 0 | 1 => u4 1 | 2 => u4 2 | 3 => u4 3 | 4 => u4 4 | 5 => u4 5 | 6 => u4 6 | 7 => u4 7 | 8 => u4 8 | 9 => u4 9 | 10 => u4 10 | 11 => u4 11 | 12 => u4 12 | 13 => u12 13 | 14 => u12 14 | 15 => u12 15 | 16 => u12 16 | 17 => u12 17 | 18 => u12 18 | 19 => u12 19 | _ => q17) cI cJ (K0, U0, fun _ => 0)) [0, 1, 2, 3, 4, 5, 6, 7, 8, 9, 10, 11, 12, 13, 14, 15, 16, 17, 18, 19, 20] (by decide) rfl
  refine lv_astore_n (lv' := [(3, .ref q17), (2, .ref (u12 13)), (1, .ref (u4 0)), (0, .ref b)]) hx hb dL_law_19 rfl hl (by decide) rfl (fun ls hl => ?_)
  refine lv_iconst (v := 0) hx hb dL_law_20 (by decide) ?_
  refine lv_istore (lv' := [(4, .int 0), (3, .ref q17), (2, .ref (u12 13)), (1, .ref (u4 0)), (0, .ref b)]) hx hb dL_law_21 hl (by decide) rfl (fun ls hl => ?_)
  exact law_loop hl9 hL C0 hK hT hZ 512 0 0 (by omega) (by omega) nI_0.symm K0 U0 (fun _ => 0) 0 _ _ _ init_RM hP hD hS (lv_sub hl [4, 3, 2, 1, 0] rfl)
