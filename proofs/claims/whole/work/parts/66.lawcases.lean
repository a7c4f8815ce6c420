set_option maxHeartbeats 4000000 in
set_option maxRecDepth 100000 in
theorem law_load {p : Program} {e : Env} {s : State} {m : MethodId} {below : List Frame} {meth : Method} {c : Code} {l : Launch} (hl9 : l.stackTraces = false) {b L : Nat} {xs : Nat → Int32} (hL : L ≤ 2560) (C0 : lw_At p s m meth c b L xs) {dC : Nat → ClassId} {dI : Nat → Nat → Nat} {cI cJ : ClassId} {h tt zs : Nat → Nat} (hK : va_K (dC, dI) vwCl [(cI, .int), (cJ, .long)] s) (hT : cstat tt (fun q : Nat => s.heap.size ≤ q) s s.heap) (hZ : zxx zs (fun q : Nat => s.heap.size ≤ q) s s.heap) {j : Nat} {x4 : Int32} (hj : 5 * j + 5 ≤ L) (ex4 : x4 = nI (5 * j)) (kont : Kont p l e s m below meth c b dC dI cI cJ h x4 j) {k : S_BM} {u : S_Model} {f : Nat → Int64} {tq : Int32} (hR : RM tq (600000 * j) k u) {H : Heap} {locs : List Loc} (hP : va_P (dC, dI) vwCl (w_Law h cI cJ (k, u, f)) H) (hD : va_D (fun q : Nat => s.heap.size ≤ q) (w_Law h cI cJ (k, u, f))) (hS : va_S (fun q : Nat => s.heap.size ≤ q) s.heap H locs) {ls : Array Slot} (hl : lv_has ls 7 [(0, .ref b), (1, .ref (h 0)), (2, .ref (h 13)), (3, .ref (h 20)), (4, .int x4)]) : W p l e room_1 s m #[Value.ref b] below meth c H locs (21 + j) (92976 + 6 * j) (lw_Z below #[Value.ref b] s) (F0 m 108 ls []) := by
  obtain ⟨hx, hb, hr, hml, hown, hts0, hX, hbl, hlocks, hgv⟩ := id C0
  have hts := law_hts hts0
  have hown : s.vm.findClass RL = some m.cls := hown
  have hA : ∀ q : Nat, s.heap.size ≤ q → (fun q : Nat => s.heap.size ≤ q) q := fun _ h => h
  have hbA : ¬ (fun q : Nat => s.heap.size ≤ q) b := Nat.not_le.mpr hbl
  obtain ⟨hv1, hv2, hv3, hv4⟩ := law_ix hL hj ex4
  have hj9 : j ≤ 511 := by omega
  refine lv_aload_n hx hb dL_law_108 rfl (lv_at hl 1 rfl) ?_
  refine lv_aload_n hx hb dL_law_109 rfl (lv_at hl 0 rfl) ?_
  refine lv_iload hx hb dL_law_110 (lv_at hl 4 rfl) ?_
  refine lv_iconst (v := 1) hx hb dL_law_112 (by decide) ?_
  refine lv_iadd hx hb dL_law_113 ?_
  refine va_sld hx hb hX hbl hbA hS hv1 dL_law_114 ?_
  refine lv_aload_n hx hb dL_law_115 rfl (lv_at hl 0 rfl) ?_
  refine lv_iload hx hb dL_law_116 (lv_at hl 4 rfl) ?_
  refine lv_iconst (v := 2) hx hb dL_law_118 (by decide) ?_
  refine lv_iadd hx hb dL_law_119 ?_
  refine va_sld hx hb hX hbl hbA hS hv2 dL_law_120 ?_
  refine lv_i2l hx hb dL_law_121 rfl ?_
  refine lv_bipush (v := 32) hx hb dL_law_122 (by decide) ?_
  refine lv_lshl hx hb dL_law_124 rfl ?_
  refine lv_aload_n hx hb dL_law_125 rfl (lv_at hl 0 rfl) ?_
  refine lv_iload hx hb dL_law_126 (lv_at hl 4 rfl) ?_
  refine lv_iconst (v := 3) hx hb dL_law_128 (by decide) ?_
  refine lv_iadd hx hb dL_law_129 ?_
  refine va_sld hx hb hX hbl hbA hS hv3 dL_law_130 ?_
  refine lv_i2l hx hb dL_law_131 rfl ?_
  refine lv_ldc2 (v := 4294967295) hx hb hown (hts _ (List.mem_cons_of_mem _ tw_5_90)) dL_law_132 ?_
  refine lv_land hx hb dL_law_135 ?_
  refine lv_lor hx hb dL_law_136 ?_
  refine lv_topl (fun y1 ey1 => ?_)
  refine lv_aload_n hx hb dL_law_137 rfl (lv_at hl 0 rfl) ?_
  refine lv_iload hx hb dL_law_138 (lv_at hl 4 rfl) ?_
  refine lv_iconst (v := 4) hx hb dL_law_140 (by decide) ?_
  refine lv_iadd hx hb dL_law_141 ?_
  refine va_sld hx hb hX hbl hbA hS hv4 dL_law_142 ?_
  obtain ⟨r0, k', u', c1, c2, hR'⟩ := (call_load hR (xs (x4 + 1).toNatClampNeg) y1 (xs (x4 + 4).toNatClampNeg)).one
  have hPc := hP.sub (ws' := w_BM h cI cJ k) [0, 1, 2, 3, 4, 5, 6, 7, 8, 9, 10, 11, 12] rfl
  have hDc := hD.sub (ws' := w_BM h cI cJ k) [0, 1, 2, 3, 4, 5, 6, 7, 8, 9, 10, 11, 12] (by decide) rfl
  have hFc := va_free (wc := w_BM h cI cJ k) hD hS hA [0, 1, 2, 3, 4, 5, 6, 7, 8, 9, 10, 11, 12] rfl
  refine va_calli (vx_runSW (As := [.ref (h 0), .int (xs (x4 + 1).toNatClampNeg), .long y1, .int (xs (x4 + 4).toNatClampNeg)]) (rest := []) ⟨hx, hb, hml, hown, hts⟩ (c_L_load (Φ := fun (r : Int32) (x : S_BM) => r = r0 ∧ x = k') l hl9 dC dI cI cJ h tt zs _ (c1)) (vx_cwSW 4 hts (tb_gW tw_3_65 tw_3_66 tw_1_0 tw_3_67) rfl rfl rfl (by decide +kernel) ⟨Nat.le_of_ble_eq_true rfl, Nat.le_of_ble_eq_true rfl⟩) (cpre_SX hK hPc hDc hT hZ hS hFc) rfl rfl hl.1 rfl (lv_room (Nat.le_of_ble_eq_true rfl)) dL_law_143 ⟨by show _ ≤ 601024; omega, by show _ ≤ 7293034; omega⟩) hS (fun q _ h => hFc q h) hFc (fun r9 u9 t9 H1 locs ht hvm hw hB hz1 hk1 hS => ?_)
  obtain ⟨hw1, hw2⟩ := hw
  have hw1 := Eq.symm hw1
  have hw2 := Eq.symm hw2
  subst hw1
  subst hw2
  obtain ⟨hP, hD⟩ := cjoin ht hP hD [0, 1, 2, 3, 4, 5, 6, 7, 8, 9, 10, 11, 12] [13, 14, 15, 16, 17, 18, 19, 20] rfl rfl (by decide) (by decide) hk1 hFc hB
  have hP := hP.sub (ws' := w_Law h cI cJ (k', u, f)) [8, 9, 10, 11, 12, 13, 14, 15, 16, 17, 18, 19, 20, 0, 1, 2, 3, 4, 5, 6, 7] rfl
  have hD := hD.sub (ws' := w_Law h cI cJ (k', u, f)) [8, 9, 10, 11, 12, 13, 14, 15, 16, 17, 18, 19, 20, 0, 1, 2, 3, 4, 5, 6, 7] (by decide) rfl
  refine lv_istore (lv' := [(5, .int r0), (0, .ref b), (1, .ref (h 0)), (2, .ref (h 13)), (3, .ref (h 20)), (4, .int x4)]) hx hb dL_law_146 hl (by decide) rfl (fun ls hl => ?_)
  refine lv_aload_n hx hb dL_law_148 rfl (lv_at hl 3 rfl) ?_
  refine lv_aload_n hx hb dL_law_149 rfl (lv_at hl 1 rfl) ?_
  refine lv_iload hx hb dL_law_150 (lv_at hl 5 rfl) ?_
  refine lv_iconst (v := 1) hx hb dL_law_152 (by decide) ?_
  refine lv_iadd hx hb dL_law_153 ?_
  refine va_sld hx hb hX hbl hbA hS hv1 dL_law_154 ?_
  refine lv_aload_n hx hb dL_law_155 rfl (lv_at hl 1 rfl) ?_
  refine lv_iload hx hb dL_law_156 (lv_at hl 5 rfl) ?_
  refine lv_iconst (v := 2) hx hb dL_law_158 (by decide) ?_
  refine lv_iadd hx hb dL_law_159 ?_
  refine va_sld hx hb hX hbl hbA hS hv2 dL_law_160 ?_
  refine lv_i2l hx hb dL_law_161 rfl ?_
  refine lv_bipush (v := 32) hx hb dL_law_162 (by decide) ?_
  refine lv_lshl hx hb dL_law_164 rfl ?_
  refine lv_aload_n hx hb dL_law_165 rfl (lv_at hl 1 rfl) ?_
  refine lv_iload hx hb dL_law_166 (lv_at hl 5 rfl) ?_
  refine lv_iconst (v := 3) hx hb dL_law_168 (by decide) ?_
  refine lv_iadd hx hb dL_law_169 ?_
  refine va_sld hx hb hX hbl hbA hS hv3 dL_law_170 ?_
  refine lv_i2l hx hb dL_law_171 rfl ?_
  refine lv_ldc2 (v := 4294967295) hx hb hown (hts _ (List.mem_cons_of_mem _ tw_5_90)) dL_law_172 ?_
  refine lv_land hx hb dL_law_175 ?_
  refine lv_lor hx hb dL_law_176 ?_
  refine lv_topl (fun y2 ey2 => ?_)
  obtain rfl : y1 = y2 := ey1.trans ey2.symm
  refine lv_aload_n hx hb dL_law_177 rfl (lv_at hl 1 rfl) ?_
  refine lv_iload hx hb dL_law_178 (lv_at hl 5 rfl) ?_
  refine lv_iconst (v := 4) hx hb dL_law_180 (by decide) ?_
  refine lv_iadd hx hb dL_law_181 ?_
  refine va_sld hx hb hX hbl hbA hS hv4 dL_law_182 ?_
  have hPc := hP.sub (ws' := w_Model h cI cJ u) [13, 14, 15, 16, 17, 18, 19] rfl
  have hDc := hD.sub (ws' := w_Model h cI cJ u) [13, 14, 15, 16, 17, 18, 19] (by decide) rfl
  have hFc := va_free (wc := w_Model h cI cJ u) hD hS hA [13, 14, 15, 16, 17, 18, 19] rfl
  refine va_callv (va_runV (As := [.int (xs (x4 + 1).toNatClampNeg), .long y1, .int (xs (x4 + 4).toNatClampNeg)]) (rest := []) ⟨hx, hb, hml, hown, hts⟩ (c_X9_load l dC dI cI cJ h _ (c2 (fun u2 => u2 = u') rfl)) (cwV 3 hts (tb_gV tw_5_39 tw_5_40 tw_5_41 tw_1_9 tw_5_42) rfl rfl rfl (by decide +kernel) ⟨Nat.le_of_ble_eq_true rfl, Nat.le_of_ble_eq_true rfl⟩) (cpre_V (ci := 8) (q0 := 0) hK hPc hDc rfl rfl) rfl rfl hl.1 rfl (lv_room (Nat.le_of_ble_eq_true rfl)) dL_law_183 ⟨by show _ ≤ 601024; omega, by show _ ≤ 7293034; omega⟩) hS (fun q _ h => hFc q h) hFc (fun u9 t9 H1 locs ht hvm hw hB hz1 hk1 hS => ?_)
  have hw : u' = u9 := Eq.symm hw
  subst hw
  obtain ⟨hP, hD⟩ := cjoin ht hP hD [13, 14, 15, 16, 17, 18, 19] [0, 1, 2, 3, 4, 5, 6, 7, 8, 9, 10, 11, 12, 20] rfl rfl (by decide) (by decide) hk1 hFc hB
  have hP := hP.sub (ws' := w_Law h cI cJ (k', u', f)) [0, 1, 2, 3, 4, 5, 6, 7, 8, 9, 10, 11, 12, 14, 15, 16, 17, 18, 19, 20, 13] rfl
  have hD := hD.sub (ws' := w_Law h cI cJ (k', u', f)) [0, 1, 2, 3, 4, 5, 6, 7, 8, 9, 10, 11, 12, 14, 15, 16, 17, 18, 19, 20, 13] (by decide) rfl
  refine lv_aload_n hx hb dL_law_186 rfl (lv_at hl 3 rfl) ?_
  have hPc := hP.sub (ws' := w_Model h cI cJ u') [13, 14, 15, 16, 17, 18, 19] rfl
  have hDc := hD.sub (ws' := w_Model h cI cJ u') [13, 14, 15, 16, 17, 18, 19] (by decide) rfl
  have hFc := va_free (wc := w_Model h cI cJ u') hD hS hA [13, 14, 15, 16, 17, 18, 19] rfl
  refine va_calli (va_runV (As := []) (rest := []) ⟨hx, hb, hml, hown, hts⟩ (c_X9_thrown l dC dI cI cJ h _ (show wp_X9_thrown u' (fun r2 => r2 = u'.1 0) from rfl)) (cwV 0 hts (tb_gV tw_4_47 tw_4_48 tw_4_49 tw_1_9 tw_4_50) rfl rfl rfl (by decide +kernel) ⟨Nat.le_of_ble_eq_true rfl, Nat.le_of_ble_eq_true rfl⟩) (cpre_V (ci := 8) (q0 := 0) hK hPc hDc rfl rfl) rfl rfl hl.1 rfl (lv_room (Nat.le_of_ble_eq_true rfl)) dL_law_187 ⟨by show _ ≤ 601024; omega, by show _ ≤ 7293034; omega⟩) hS (fun q _ h => hFc q h) hFc (fun r9 u9 t9 H1 locs ht hvm hw hB hz1 hk1 hS => ?_)
  have hw : u'.1 0 = r9 := Eq.symm hw
  subst hw
  obtain ⟨hP, hD⟩ := cjoin ht hP hD [13, 14, 15, 16, 17, 18, 19] [0, 1, 2, 3, 4, 5, 6, 7, 8, 9, 10, 11, 12, 20] rfl rfl (by decide) (by decide) hk1 hFc hB
  have hP := hP.sub (ws' := w_Law h cI cJ (k', u', f)) [0, 1, 2, 3, 4, 5, 6, 7, 8, 9, 10, 11, 12, 14, 15, 16, 17, 18, 19, 20, 13] rfl
  have hD := hD.sub (ws' := w_Law h cI cJ (k', u', f)) [0, 1, 2, 3, 4, 5, 6, 7, 8, 9, 10, 11, 12, 14, 15, 16, 17, 18, 19, 20, 13] (by decide) rfl
  refine lv_iload hx hb dL_law_190 (lv_at hl 0 rfl) ?_
  refine lv_icmp_eq (tgt := 197) hx hb dL_law_192 (by decide) (fun c9 => ?_) (fun c9 => absurd hR'.thrown c9)
  refine lv_goto (tgt := 571) hx hb dL_law_197 (by decide) ?_
  refine W.widen (k := 21 + (j + 1)) (n := 92976 + 6 * (j + 1)) (by omega) (by omega) ?_
  exact kont k' u' f _ _ _ _ (hR'.mono (by omega)) hP hD hS (lv_sub hl [1, 2, 3, 4, 5] rfl)
set_option maxHeartbeats 4000000 in
set_option maxRecDepth 100000 in
theorem law_reset {p : Program} {e : Env} {s : State} {m : MethodId} {below : List Frame} {meth : Method} {c : Code} {l : Launch} (hl9 : l.stackTraces = false) {b L : Nat} {xs : Nat → Int32} (hL : L ≤ 2560) (C0 : lw_At p s m meth c b L xs) {dC : Nat → ClassId} {dI : Nat → Nat → Nat} {cI cJ : ClassId} {h tt zs : Nat → Nat} (hK : va_K (dC, dI) vwCl [(cI, .int), (cJ, .long)] s) (hT : cstat tt (fun q : Nat => s.heap.size ≤ q) s s.heap) (hZ : zxx zs (fun q : Nat => s.heap.size ≤ q) s s.heap) {j : Nat} {x4 : Int32} (hj : 5 * j + 5 ≤ L) (ex4 : x4 = nI (5 * j)) (kont : Kont p l e s m below meth c b dC dI cI cJ h x4 j) {k : S_BM} {u : S_Model} {f : Nat → Int64} {tq : Int32} (hR : RM tq (600000 * j) k u) {H : Heap} {locs : List Loc} (hP : va_P (dC, dI) vwCl (w_Law h cI cJ (k, u, f)) H) (hD : va_D (fun q : Nat => s.heap.size ≤ q) (w_Law h cI cJ (k, u, f))) (hS : va_S (fun q : Nat => s.heap.size ≤ q) s.heap H locs) {ls : Array Slot} (hl : lv_has ls 7 [(0, .ref b), (1, .ref (h 0)), (2, .ref (h 13)), (3, .ref (h 20)), (4, .int x4)]) : W p l e room_1 s m #[Value.ref b] below meth c H locs (21 + j) (92976 + 6 * j) (lw_Z below #[Value.ref b] s) (F0 m 200 ls []) := by
  obtain ⟨hx, hb, hr, hml, hown, hts0, hX, hbl, hlocks, hgv⟩ := id C0
  have hts := law_hts hts0
  have hown : s.vm.findClass RL = some m.cls := hown
  have hA : ∀ q : Nat, s.heap.size ≤ q → (fun q : Nat => s.heap.size ≤ q) q := fun _ h => h
  have hbA : ¬ (fun q : Nat => s.heap.size ≤ q) b := Nat.not_le.mpr hbl
  obtain ⟨hv1, hv2, hv3, hv4⟩ := law_ix hL hj ex4
  have hj9 : j ≤ 511 := by omega
  obtain ⟨k', u', c1, c2, hR'⟩ := call_reset hR
  refine lv_aload_n hx hb dL_law_200 rfl (lv_at hl 1 rfl) ?_
  have hPc := hP.sub (ws' := w_BM h cI cJ k) [0, 1, 2, 3, 4, 5, 6, 7, 8, 9, 10, 11, 12] rfl
  have hDc := hD.sub (ws' := w_BM h cI cJ k) [0, 1, 2, 3, 4, 5, 6, 7, 8, 9, 10, 11, 12] (by decide) rfl
  have hFc := va_free (wc := w_BM h cI cJ k) hD hS hA [0, 1, 2, 3, 4, 5, 6, 7, 8, 9, 10, 11, 12] rfl
  refine va_callv (va_runV (As := []) (rest := []) ⟨hx, hb, hml, hown, hts⟩ (c_X8_reset l dC dI cI cJ h _ (c1 (fun k2 => k2 = k') rfl)) (cwV 0 hts (tb_gV tw_1_229 tw_1_230 tw_1_231 tw_1_1 tw_1_232) rfl rfl rfl (by decide +kernel) ⟨Nat.le_of_ble_eq_true rfl, Nat.le_of_ble_eq_true rfl⟩) (cpre_V (ci := 7) (q0 := 0) hK hPc hDc rfl rfl) rfl rfl hl.1 rfl (lv_room (Nat.le_of_ble_eq_true rfl)) dL_law_201 ⟨by show _ ≤ 601024; omega, by show _ ≤ 7293034; omega⟩) hS (fun q _ h => hFc q h) hFc (fun u9 t9 H1 locs ht hvm hw hB hz1 hk1 hS => ?_)
  have hw : k' = u9 := Eq.symm hw
  subst hw
  obtain ⟨hP, hD⟩ := cjoin ht hP hD [0, 1, 2, 3, 4, 5, 6, 7, 8, 9, 10, 11, 12] [13, 14, 15, 16, 17, 18, 19, 20] rfl rfl (by decide) (by decide) hk1 hFc hB
  have hP := hP.sub (ws' := w_Law h cI cJ (k', u, f)) [8, 9, 10, 11, 12, 13, 14, 15, 16, 17, 18, 19, 20, 0, 1, 2, 3, 4, 5, 6, 7] rfl
  have hD := hD.sub (ws' := w_Law h cI cJ (k', u, f)) [8, 9, 10, 11, 12, 13, 14, 15, 16, 17, 18, 19, 20, 0, 1, 2, 3, 4, 5, 6, 7] (by decide) rfl
  refine lv_aload_n hx hb dL_law_204 rfl (lv_at hl 2 rfl) ?_
  have hPc := hP.sub (ws' := w_Model h cI cJ u) [13, 14, 15, 16, 17, 18, 19] rfl
  have hDc := hD.sub (ws' := w_Model h cI cJ u) [13, 14, 15, 16, 17, 18, 19] (by decide) rfl
  have hFc := va_free (wc := w_Model h cI cJ u) hD hS hA [13, 14, 15, 16, 17, 18, 19] rfl
  refine va_callv (va_runV (As := []) (rest := []) ⟨hx, hb, hml, hown, hts⟩ (c_X9_reset l dC dI cI cJ h _ (c2 (fun u2 => u2 = u') rfl)) (cwV 0 hts (tb_gV tw_5_44 tw_5_45 tw_5_46 tw_1_9 tw_5_47) rfl rfl rfl (by decide +kernel) ⟨Nat.le_of_ble_eq_true rfl, Nat.le_of_ble_eq_true rfl⟩) (cpre_V (ci := 8) (q0 := 0) hK hPc hDc rfl rfl) rfl rfl hl.1 rfl (lv_room (Nat.le_of_ble_eq_true rfl)) dL_law_205 ⟨by show _ ≤ 601024; omega, by show _ ≤ 7293034; omega⟩) hS (fun q _ h => hFc q h) hFc (fun u9 t9 H1 locs ht hvm hw hB hz1 hk1 hS => ?_)
  have hw : u' = u9 := Eq.symm hw
  subst hw
  obtain ⟨hP, hD⟩ := cjoin ht hP hD [13, 14, 15, 16, 17, 18, 19] [0, 1, 2, 3, 4, 5, 6, 7, 8, 9, 10, 11, 12, 20] rfl rfl (by decide) (by decide) hk1 hFc hB
  have hP := hP.sub (ws' := w_Law h cI cJ (k', u', f)) [0, 1, 2, 3, 4, 5, 6, 7, 8, 9, 10, 11, 12, 14, 15, 16, 17, 18, 19, 20, 13] rfl
  have hD := hD.sub (ws' := w_Law h cI cJ (k', u', f)) [0, 1, 2, 3, 4, 5, 6, 7, 8, 9, 10, 11, 12, 14, 15, 16, 17, 18, 19, 20, 13] (by decide) rfl
  refine lv_goto (tgt := 571) hx hb dL_law_208 (by decide) ?_
  refine W.widen (k := 21 + (j + 1)) (n := 92976 + 6 * (j + 1)) (by omega) (by omega) ?_
  exact kont k' u' f _ _ _ _ (hR'.mono (by omega)) hP hD hS (lv_sub hl [0, 1, 2, 3, 4] rfl)
set_option maxHeartbeats 4000000 in
set_option maxRecDepth 100000 in
theorem law_step {p : Program} {e : Env} {s : State} {m : MethodId} {below : List Frame} {meth : Method} {c : Code} {l : Launch} (hl9 : l.stackTraces = false) {b L : Nat} {xs : Nat → Int32} (hL : L ≤ 2560) (C0 : lw_At p s m meth c b L xs) {dC : Nat → ClassId} {dI : Nat → Nat → Nat} {cI cJ : ClassId} {h tt zs : Nat → Nat} (hK : va_K (dC, dI) vwCl [(cI, .int), (cJ, .long)] s) (hT : cstat tt (fun q : Nat => s.heap.size ≤ q) s s.heap) (hZ : zxx zs (fun q : Nat => s.heap.size ≤ q) s s.heap) {j : Nat} {x4 : Int32} (hj : 5 * j + 5 ≤ L) (ex4 : x4 = nI (5 * j)) (kont : Kont p l e s m below meth c b dC dI cI cJ h x4 j) {k : S_BM} {u : S_Model} {f : Nat → Int64} {tq : Int32} (hR : RM tq (600000 * j) k u) {H : Heap} {locs : List Loc} (hP : va_P (dC, dI) vwCl (w_Law h cI cJ (k, u, f)) H) (hD : va_D (fun q : Nat => s.heap.size ≤ q) (w_Law h cI cJ (k, u, f))) (hS : va_S (fun q : Nat => s.heap.size ≤ q) s.heap H locs) {ls : Array Slot} (hl : lv_has ls 7 [(0, .ref b), (1, .ref (h 0)), (2, .ref (h 13)), (3, .ref (h 20)), (4, .int x4)]) : W p l e room_1 s m #[Value.ref b] below meth c H locs (21 + j) (92976 + 6 * j) (lw_Z below #[Value.ref b] s) (F0 m 211 ls []) := by
  obtain ⟨hx, hb, hr, hml, hown, hts0, hX, hbl, hlocks, hgv⟩ := id C0
  have hts := law_hts hts0
  have hown : s.vm.findClass RL = some m.cls := hown
  have hA : ∀ q : Nat, s.heap.size ≤ q → (fun q : Nat => s.heap.size ≤ q) q := fun _ h => h
  have hbA : ¬ (fun q : Nat => s.heap.size ≤ q) b := Nat.not_le.mpr hbl
  obtain ⟨hv1, hv2, hv3, hv4⟩ := law_ix hL hj ex4
  have hj9 : j ≤ 511 := by omega
  obtain ⟨r0, k', u', c1, c2, hR'⟩ := call_step (by omega) hR
  refine lv_aload_n hx hb dL_law_211 rfl (lv_at hl 1 rfl) ?_
  have hPc := hP.sub (ws' := w_BM h cI cJ k) [0, 1, 2, 3, 4, 5, 6, 7, 8, 9, 10, 11, 12] rfl
  have hDc := hD.sub (ws' := w_BM h cI cJ k) [0, 1, 2, 3, 4, 5, 6, 7, 8, 9, 10, 11, 12] (by decide) rfl
  have hFc := va_free (wc := w_BM h cI cJ k) hD hS hA [0, 1, 2, 3, 4, 5, 6, 7, 8, 9, 10, 11, 12] rfl
  refine va_calli (va_runV (As := []) (rest := []) ⟨hx, hb, hml, hown, hts⟩ (c_X8_step l dC dI cI cJ h tt _ (c1 (fun r2 k2 => r2 = r0 ∧ k2 = k') ⟨rfl, rfl⟩)) (cwV 0 hts (tb_gV tw_2_61 tw_2_62 tw_2_63 tw_1_1 tw_2_64) rfl rfl rfl (by decide +kernel) ⟨Nat.le_of_ble_eq_true rfl, Nat.le_of_ble_eq_true rfl⟩) (cpre_VT (ci := 7) (q0 := 0) hK hPc hDc hT hS hFc rfl rfl) rfl rfl hl.1 rfl (lv_room (Nat.le_of_ble_eq_true rfl)) dL_law_212 ⟨by show _ ≤ 601024; omega, by show _ ≤ 7293034; omega⟩) hS (fun q _ h => hFc q h) hFc (fun r9 u9 t9 H1 locs ht hvm hw hB hz1 hk1 hS => ?_)
  obtain ⟨hw1, hw2⟩ := hw
  have hw1 := Eq.symm hw1
  have hw2 := Eq.symm hw2
  subst hw1
  subst hw2
  obtain ⟨hP, hD⟩ := cjoin ht hP hD [0, 1, 2, 3, 4, 5, 6, 7, 8, 9, 10, 11, 12] [13, 14, 15, 16, 17, 18, 19, 20] rfl rfl (by decide) (by decide) hk1 hFc hB
  have hP := hP.sub (ws' := w_Law h cI cJ (k', u, f)) [8, 9, 10, 11, 12, 13, 14, 15, 16, 17, 18, 19, 20, 0, 1, 2, 3, 4, 5, 6, 7] rfl
  have hD := hD.sub (ws' := w_Law h cI cJ (k', u, f)) [8, 9, 10, 11, 12, 13, 14, 15, 16, 17, 18, 19, 20, 0, 1, 2, 3, 4, 5, 6, 7] (by decide) rfl
  refine lv_aload_n hx hb dL_law_215 rfl (lv_at hl 2 rfl) ?_
  have hPc := hP.sub (ws' := w_Model h cI cJ u) [13, 14, 15, 16, 17, 18, 19] rfl
  have hDc := hD.sub (ws' := w_Model h cI cJ u) [13, 14, 15, 16, 17, 18, 19] (by decide) rfl
  have hFc := va_free (wc := w_Model h cI cJ u) hD hS hA [13, 14, 15, 16, 17, 18, 19] rfl
  refine va_calli (va_runV (As := []) (rest := [.int r0]) ⟨hx, hb, hml, hown, hts⟩ (c_X9_step l dC dI cI cJ h _ (c2 (fun r2 u2 => r2 = r0 ∧ u2 = u') ⟨rfl, rfl⟩)) (cwV 0 hts (tb_gV tw_4_51 tw_4_52 tw_4_53 tw_1_9 tw_4_54) rfl rfl rfl (by decide +kernel) ⟨Nat.le_of_ble_eq_true rfl, Nat.le_of_ble_eq_true rfl⟩) (cpre_V (ci := 8) (q0 := 0) hK hPc hDc rfl rfl) rfl rfl hl.1 rfl (lv_room (Nat.le_of_ble_eq_true rfl)) dL_law_216 ⟨by show _ ≤ 601024; omega, by show _ ≤ 7293034; omega⟩) hS (fun q _ h => hFc q h) hFc (fun r9 u9 t9 H1 locs ht hvm hw hB hz1 hk1 hS => ?_)
  obtain ⟨hw1, hw2⟩ := hw
  have hw1 := Eq.symm hw1
  have hw2 := Eq.symm hw2
  subst hw1
  subst hw2
  obtain ⟨hP, hD⟩ := cjoin ht hP hD [13, 14, 15, 16, 17, 18, 19] [0, 1, 2, 3, 4, 5, 6, 7, 8, 9, 10, 11, 12, 20] rfl rfl (by decide) (by decide) hk1 hFc hB
  have hP := hP.sub (ws' := w_Law h cI cJ (k', u', f)) [0, 1, 2, 3, 4, 5, 6, 7, 8, 9, 10, 11, 12, 14, 15, 16, 17, 18, 19, 20, 13] rfl
  have hD := hD.sub (ws' := w_Law h cI cJ (k', u', f)) [0, 1, 2, 3, 4, 5, 6, 7, 8, 9, 10, 11, 12, 14, 15, 16, 17, 18, 19, 20, 13] (by decide) rfl
  refine lv_icmp_eq (tgt := 571) hx hb dL_law_219 (by decide) (fun c9 => ?_) (fun c9 => absurd rfl c9)
  refine W.widen (k := 21 + (j + 1)) (n := 92976 + 6 * (j + 1)) (by omega) (by omega) ?_
  exact kont k' u' f _ _ _ _ (hR'.mono (by omega)) hP hD hS (lv_sub hl [0, 1, 2, 3, 4] rfl)
set_option maxHeartbeats 4000000 in
set_option maxRecDepth 100000 in
theorem law_run {p : Program} {e : Env} {s : State} {m : MethodId} {below : List Frame} {meth : Method} {c : Code} {l : Launch} (hl9 : l.stackTraces = false) {b L : Nat} {xs : Nat → Int32} (hL : L ≤ 2560) (C0 : lw_At p s m meth c b L xs) {dC : Nat → ClassId} {dI : Nat → Nat → Nat} {cI cJ : ClassId} {h tt zs : Nat → Nat} (hK : va_K (dC, dI) vwCl [(cI, .int), (cJ, .long)] s) (hT : cstat tt (fun q : Nat => s.heap.size ≤ q) s s.heap) (hZ : zxx zs (fun q : Nat => s.heap.size ≤ q) s s.heap) {j : Nat} {x4 : Int32} (hj : 5 * j + 5 ≤ L) (ex4 : x4 = nI (5 * j)) (kont : Kont p l e s m below meth c b dC dI cI cJ h x4 j) {k : S_BM} {u : S_Model} {f : Nat → Int64} {tq : Int32} (hR : RM tq (600000 * j) k u) {H : Heap} {locs : List Loc} (hP : va_P (dC, dI) vwCl (w_Law h cI cJ (k, u, f)) H) (hD : va_D (fun q : Nat => s.heap.size ≤ q) (w_Law h cI cJ (k, u, f))) (hS : va_S (fun q : Nat => s.heap.size ≤ q) s.heap H locs) {ls : Array Slot} (hl : lv_has ls 7 [(0, .ref b), (1, .ref (h 0)), (2, .ref (h 13)), (3, .ref (h 20)), (4, .int x4)]) : W p l e room_1 s m #[Value.ref b] below meth c H locs (21 + j) (92976 + 6 * j) (lw_Z below #[Value.ref b] s) (F0 m 224 ls []) := by
  obtain ⟨hx, hb, hr, hml, hown, hts0, hX, hbl, hlocks, hgv⟩ := id C0
  have hts := law_hts hts0
  have hown : s.vm.findClass RL = some m.cls := hown
  have hA : ∀ q : Nat, s.heap.size ≤ q → (fun q : Nat => s.heap.size ≤ q) q := fun _ h => h
  have hbA : ¬ (fun q : Nat => s.heap.size ≤ q) b := Nat.not_le.mpr hbl
  obtain ⟨hv1, hv2, hv3, hv4⟩ := law_ix hL hj ex4
  have hj9 : j ≤ 511 := by omega
  obtain ⟨r0, b0, k', f', u', c1, c2, hR', hf'⟩ := (call_run (by omega) hR (xs (x4 + 1).toNatClampNeg)).one f
  refine lv_aload_n hx hb dL_law_224 rfl (lv_at hl 1 rfl) ?_
  refine lv_aload_n hx hb dL_law_225 rfl (lv_at hl 0 rfl) ?_
  refine lv_iload hx hb dL_law_226 (lv_at hl 4 rfl) ?_
  refine lv_iconst (v := 1) hx hb dL_law_228 (by decide) ?_
  refine lv_iadd hx hb dL_law_229 ?_
  refine va_sld hx hb hX hbl hbA hS hv1 dL_law_230 ?_
  refine lv_aload_n hx hb dL_law_231 rfl (lv_at hl 3 rfl) ?_
  have hPc := hP.sub (ws' := w_BF h cI cJ (k, f)) [0, 1, 2, 3, 4, 5, 6, 7, 8, 9, 10, 11, 12, 20] rfl
  have hDc := hD.sub (ws' := w_BF h cI cJ (k, f)) [0, 1, 2, 3, 4, 5, 6, 7, 8, 9, 10, 11, 12, 20] (by decide) rfl
  have hFc := va_free (wc := w_BF h cI cJ (k, f)) hD hS hA [0, 1, 2, 3, 4, 5, 6, 7, 8, 9, 10, 11, 12, 20] rfl
  refine va_calli (vx_runSW (As := [.ref (h 0), .int (xs (x4 + 1).toNatClampNeg), .ref (h 20)]) (rest := []) ⟨hx, hb, hml, hown, hts⟩ (c_L_run (Φ := fun (r : Int32) (x : S_BM × (Nat → Int64)) => r = r0 ∧ x = (k', f')) l hl9 dC dI cI cJ h tt zs _ (c1)) (vx_cwSW 3 hts (tb_gW tw_3_144 tw_3_145 tw_1_0 tw_3_146) rfl rfl rfl (by decide +kernel) ⟨Nat.le_of_ble_eq_true rfl, Nat.le_of_ble_eq_true rfl⟩) (cpre_SX hK hPc hDc hT hZ hS hFc) rfl rfl hl.1 rfl (lv_room (Nat.le_of_ble_eq_true rfl)) dL_law_232 ⟨by show _ ≤ 601024; omega, by show _ ≤ 7293034; omega⟩) hS (fun q _ h => hFc q h) hFc (fun r9 u9 t9 H1 locs ht hvm hw hB hz1 hk1 hS => ?_)
  obtain ⟨hw1, hw2⟩ := hw
  have hw1 := Eq.symm hw1
  have hw2 := Eq.symm hw2
  subst hw1
  subst hw2
  obtain ⟨hP, hD⟩ := cjoin ht hP hD [0, 1, 2, 3, 4, 5, 6, 7, 8, 9, 10, 11, 12, 20] [13, 14, 15, 16, 17, 18, 19] rfl rfl (by decide) (by decide) hk1 hFc hB
  have hP := hP.sub (ws' := w_Law h cI cJ (k', u, f')) [7, 8, 9, 10, 11, 12, 13, 14, 15, 16, 17, 18, 19, 0, 1, 2, 3, 4, 5, 6, 20] rfl
  have hD := hD.sub (ws' := w_Law h cI cJ (k', u, f')) [7, 8, 9, 10, 11, 12, 13, 14, 15, 16, 17, 18, 19, 0, 1, 2, 3, 4, 5, 6, 20] (by decide) rfl
  refine lv_istore (lv' := [(5, .int r0), (0, .ref b), (1, .ref (h 0)), (2, .ref (h 13)), (3, .ref (h 20)), (4, .int x4)]) hx hb dL_law_235 hl (by decide) rfl (fun ls hl => ?_)
  refine lv_aload_n hx hb dL_law_237 rfl (lv_at hl 3 rfl) ?_
  refine lv_aload_n hx hb dL_law_238 rfl (lv_at hl 1 rfl) ?_
  refine lv_iload hx hb dL_law_239 (lv_at hl 5 rfl) ?_
  refine lv_iconst (v := 1) hx hb dL_law_241 (by decide) ?_
  refine lv_iadd hx hb dL_law_242 ?_
  refine va_sld hx hb hX hbl hbA hS hv1 dL_law_243 ?_
  have hPc := hP.sub (ws' := w_Model h cI cJ u) [13, 14, 15, 16, 17, 18, 19] rfl
  have hDc := hD.sub (ws' := w_Model h cI cJ u) [13, 14, 15, 16, 17, 18, 19] (by decide) rfl
  have hFc := va_free (wc := w_Model h cI cJ u) hD hS hA [13, 14, 15, 16, 17, 18, 19] rfl
  refine va_calli (va_runV (As := [.int (xs (x4 + 1).toNatClampNeg)]) (rest := []) ⟨hx, hb, hml, hown, hts⟩ (c_X9_run l dC dI cI cJ h _ (c2 (fun r2 u2 => r2 = b0 ∧ u2 = u') ⟨rfl, rfl⟩)) (cwV 1 hts (tb_gV tw_5_25 tw_5_26 tw_5_27 tw_1_9 tw_5_28) rfl rfl rfl (by decide +kernel) ⟨Nat.le_of_ble_eq_true rfl, Nat.le_of_ble_eq_true rfl⟩) (cpre_V (ci := 8) (q0 := 0) hK hPc hDc rfl rfl) rfl rfl hl.1 rfl (lv_room (Nat.le_of_ble_eq_true rfl)) dL_law_244 ⟨by show _ ≤ 601024; omega, by show _ ≤ 7293034; omega⟩) hS (fun q _ h => hFc q h) hFc (fun r9 u9 t9 H1 locs ht hvm hw hB hz1 hk1 hS => ?_)
  obtain ⟨hw1, hw2⟩ := hw
  have hw1 := Eq.symm hw1
  have hw2 := Eq.symm hw2
  subst hw1
  subst hw2
  obtain ⟨hP, hD⟩ := cjoin ht hP hD [13, 14, 15, 16, 17, 18, 19] [0, 1, 2, 3, 4, 5, 6, 7, 8, 9, 10, 11, 12, 20] rfl rfl (by decide) (by decide) hk1 hFc hB
  have hP := hP.sub (ws' := w_Law h cI cJ (k', u', f')) [0, 1, 2, 3, 4, 5, 6, 7, 8, 9, 10, 11, 12, 14, 15, 16, 17, 18, 19, 20, 13] rfl
  have hD := hD.sub (ws' := w_Law h cI cJ (k', u', f')) [0, 1, 2, 3, 4, 5, 6, 7, 8, 9, 10, 11, 12, 14, 15, 16, 17, 18, 19, 20, 13] (by decide) rfl
  refine lv_istore (lv' := [(6, .int b0), (5, .int r0), (0, .ref b), (1, .ref (h 0)), (2, .ref (h 13)), (3, .ref (h 20)), (4, .int x4)]) hx hb dL_law_247 hl (by decide) rfl (fun ls hl => ?_)
  refine lv_aload_n hx hb dL_law_249 rfl (lv_at hl 4 rfl) ?_
  have hPc := hP.sub (ws' := w_Model h cI cJ u') [13, 14, 15, 16, 17, 18, 19] rfl
  have hDc := hD.sub (ws' := w_Model h cI cJ u') [13, 14, 15, 16, 17, 18, 19] (by decide) rfl
  have hFc := va_free (wc := w_Model h cI cJ u') hD hS hA [13, 14, 15, 16, 17, 18, 19] rfl
  refine va_calli (va_runV (As := []) (rest := []) ⟨hx, hb, hml, hown, hts⟩ (c_X9_thrown l dC dI cI cJ h _ (show wp_X9_thrown u' (fun r2 => r2 = u'.1 0) from rfl)) (cwV 0 hts (tb_gV tw_4_47 tw_4_48 tw_4_49 tw_1_9 tw_4_50) rfl rfl rfl (by decide +kernel) ⟨Nat.le_of_ble_eq_true rfl, Nat.le_of_ble_eq_true rfl⟩) (cpre_V (ci := 8) (q0 := 0) hK hPc hDc rfl rfl) rfl rfl hl.1 rfl (lv_room (Nat.le_of_ble_eq_true rfl)) dL_law_250 ⟨by show _ ≤ 601024; omega, by show _ ≤ 7293034; omega⟩) hS (fun q _ h => hFc q h) hFc (fun r9 u9 t9 H1 locs ht hvm hw hB hz1 hk1 hS => ?_)
  have hw : u'.1 0 = r9 := Eq.symm hw
  subst hw
  obtain ⟨hP, hD⟩ := cjoin ht hP hD [13, 14, 15, 16, 17, 18, 19] [0, 1, 2, 3, 4, 5, 6, 7, 8, 9, 10, 11, 12, 20] rfl rfl (by decide) (by decide) hk1 hFc hB
  have hP := hP.sub (ws' := w_Law h cI cJ (k', u', f')) [0, 1, 2, 3, 4, 5, 6, 7, 8, 9, 10, 11, 12, 14, 15, 16, 17, 18, 19, 20, 13] rfl
  have hD := hD.sub (ws' := w_Law h cI cJ (k', u', f')) [0, 1, 2, 3, 4, 5, 6, 7, 8, 9, 10, 11, 12, 14, 15, 16, 17, 18, 19, 20, 13] (by decide) rfl
  refine lv_iload hx hb dL_law_253 (lv_at hl 1 rfl) ?_
  refine lv_icmp_eq (tgt := 260) hx hb dL_law_255 (by decide) (fun c9 => ?_) (fun c9 => absurd hR'.thrown c9)
  refine lv_iload hx hb dL_law_260 (lv_at hl 1 rfl) ?_
  refine lv_if_ne (tgt := 277) hx hb dL_law_262 (by decide) (fun c8 => ?_) (fun c8 => ?_)
  · refine lv_goto (tgt := 571) hx hb dL_law_277 (by decide) ?_
    refine W.widen (k := 21 + (j + 1)) (n := 92976 + 6 * (j + 1)) (by omega) (by omega) ?_
    exact kont k' u' f' _ _ _ _ (hR'.mono (by omega)) hP hD hS (lv_sub hl [2, 3, 4, 5, 6] rfl)
  · refine lv_aload_n hx hb dL_law_265 rfl (lv_at hl 5 rfl) ?_
    refine lv_iconst (v := 0) hx hb dL_law_266 (by decide) ?_
    refine va_lald hx hb hK hP 20 1 rfl rfl (vp_in_nI (n := 0) (by omega) (by omega)) dL_law_267 ?_
    refine lv_iload hx hb dL_law_268 (lv_at hl 0 rfl) ?_
    refine lv_i2l hx hb dL_law_270 rfl ?_
    refine W.lcmp hx hb dL_law_271 ?_
    refine lv_if_eq (tgt := 277) hx hb dL_law_272 (by decide) (fun c9 => ?_) (fun c9 => absurd (lg_same (hf' c8)) c9)
    refine lv_goto (tgt := 571) hx hb dL_law_277 (by decide) ?_
    refine W.widen (k := 21 + (j + 1)) (n := 92976 + 6 * (j + 1)) (by omega) (by omega) ?_
    exact kont k' u' f' _ _ _ _ (hR'.mono (by omega)) hP hD hS (lv_sub hl [2, 3, 4, 5, 6] rfl)
set_option maxHeartbeats 4000000 in
set_option maxRecDepth 100000 in
theorem law_nmi {p : Program} {e : Env} {s : State} {m : MethodId} {below : List Frame} {meth : Method} {c : Code} {l : Launch} (hl9 : l.stackTraces = false) {b L : Nat} {xs : Nat → Int32} (hL : L ≤ 2560) (C0 : lw_At p s m meth c b L xs) {dC : Nat → ClassId} {dI : Nat → Nat → Nat} {cI cJ : ClassId} {h tt zs : Nat → Nat} (hK : va_K (dC, dI) vwCl [(cI, .int), (cJ, .long)] s) (hT : cstat tt (fun q : Nat => s.heap.size ≤ q) s s.heap) (hZ : zxx zs (fun q : Nat => s.heap.size ≤ q) s s.heap) {j : Nat} {x4 : Int32} (hj : 5 * j + 5 ≤ L) (ex4 : x4 = nI (5 * j)) (kont : Kont p l e s m below meth c b dC dI cI cJ h x4 j) {k : S_BM} {u : S_Model} {f : Nat → Int64} {tq : Int32} (hR : RM tq (600000 * j) k u) {H : Heap} {locs : List Loc} (hP : va_P (dC, dI) vwCl (w_Law h cI cJ (k, u, f)) H) (hD : va_D (fun q : Nat => s.heap.size ≤ q) (w_Law h cI cJ (k, u, f))) (hS : va_S (fun q : Nat => s.heap.size ≤ q) s.heap H locs) {ls : Array Slot} (hl : lv_has ls 7 [(0, .ref b), (1, .ref (h 0)), (2, .ref (h 13)), (3, .ref (h 20)), (4, .int x4)]) : W p l e room_1 s m #[Value.ref b] below meth c H locs (21 + j) (92976 + 6 * j) (lw_Z below #[Value.ref b] s) (F0 m 280 ls []) := by
  obtain ⟨hx, hb, hr, hml, hown, hts0, hX, hbl, hlocks, hgv⟩ := id C0
  have hts := law_hts hts0
  have hown : s.vm.findClass RL = some m.cls := hown
  have hA : ∀ q : Nat, s.heap.size ≤ q → (fun q : Nat => s.heap.size ≤ q) q := fun _ h => h
  have hbA : ¬ (fun q : Nat => s.heap.size ≤ q) b := Nat.not_le.mpr hbl
  obtain ⟨hv1, hv2, hv3, hv4⟩ := law_ix hL hj ex4
  have hj9 : j ≤ 511 := by omega
  obtain ⟨k', u', c1, c2, hR'⟩ := call_nmi hR
  refine lv_aload_n hx hb dL_law_280 rfl (lv_at hl 1 rfl) ?_
  have hPc := hP.sub (ws' := w_BM h cI cJ k) [0, 1, 2, 3, 4, 5, 6, 7, 8, 9, 10, 11, 12] rfl
  have hDc := hD.sub (ws' := w_BM h cI cJ k) [0, 1, 2, 3, 4, 5, 6, 7, 8, 9, 10, 11, 12] (by decide) rfl
  have hFc := va_free (wc := w_BM h cI cJ k) hD hS hA [0, 1, 2, 3, 4, 5, 6, 7, 8, 9, 10, 11, 12] rfl
  refine va_callv (va_runV (As := []) (rest := []) ⟨hx, hb, hml, hown, hts⟩ (c_X8_nmi l dC dI cI cJ h _ (c1 (fun k2 => k2 = k') rfl)) (cwV 0 hts (tb_gV tw_2_237 tw_2_238 tw_2_239 tw_1_1 tw_3_0) rfl rfl rfl (by decide +kernel) ⟨Nat.le_of_ble_eq_true rfl, Nat.le_of_ble_eq_true rfl⟩) (cpre_V (ci := 7) (q0 := 0) hK hPc hDc rfl rfl) rfl rfl hl.1 rfl (lv_room (Nat.le_of_ble_eq_true rfl)) dL_law_281 ⟨by show _ ≤ 601024; omega, by show _ ≤ 7293034; omega⟩) hS (fun q _ h => hFc q h) hFc (fun u9 t9 H1 locs ht hvm hw hB hz1 hk1 hS => ?_)
  have hw : k' = u9 := Eq.symm hw
  subst hw
  obtain ⟨hP, hD⟩ := cjoin ht hP hD [0, 1, 2, 3, 4, 5, 6, 7, 8, 9, 10, 11, 12] [13, 14, 15, 16, 17, 18, 19, 20] rfl rfl (by decide) (by decide) hk1 hFc hB
  have hP := hP.sub (ws' := w_Law h cI cJ (k', u, f)) [8, 9, 10, 11, 12, 13, 14, 15, 16, 17, 18, 19, 20, 0, 1, 2, 3, 4, 5, 6, 7] rfl
  have hD := hD.sub (ws' := w_Law h cI cJ (k', u, f)) [8, 9, 10, 11, 12, 13, 14, 15, 16, 17, 18, 19, 20, 0, 1, 2, 3, 4, 5, 6, 7] (by decide) rfl
  refine lv_aload_n hx hb dL_law_284 rfl (lv_at hl 2 rfl) ?_
  have hPc := hP.sub (ws' := w_Model h cI cJ u) [13, 14, 15, 16, 17, 18, 19] rfl
  have hDc := hD.sub (ws' := w_Model h cI cJ u) [13, 14, 15, 16, 17, 18, 19] (by decide) rfl
  have hFc := va_free (wc := w_Model h cI cJ u) hD hS hA [13, 14, 15, 16, 17, 18, 19] rfl
  refine va_callv (va_runV (As := []) (rest := []) ⟨hx, hb, hml, hown, hts⟩ (c_X9_nmi l dC dI cI cJ h _ (c2 (fun u2 => u2 = u') rfl)) (cwV 0 hts (tb_gV tw_5_49 tw_5_50 tw_5_51 tw_1_9 tw_5_52) rfl rfl rfl (by decide +kernel) ⟨Nat.le_of_ble_eq_true rfl, Nat.le_of_ble_eq_true rfl⟩) (cpre_V (ci := 8) (q0 := 0) hK hPc hDc rfl rfl) rfl rfl hl.1 rfl (lv_room (Nat.le_of_ble_eq_true rfl)) dL_law_285 ⟨by show _ ≤ 601024; omega, by show _ ≤ 7293034; omega⟩) hS (fun q _ h => hFc q h) hFc (fun u9 t9 H1 locs ht hvm hw hB hz1 hk1 hS => ?_)
  have hw : u' = u9 := Eq.symm hw
  subst hw
  obtain ⟨hP, hD⟩ := cjoin ht hP hD [13, 14, 15, 16, 17, 18, 19] [0, 1, 2, 3, 4, 5, 6, 7, 8, 9, 10, 11, 12, 20] rfl rfl (by decide) (by decide) hk1 hFc hB
  have hP := hP.sub (ws' := w_Law h cI cJ (k', u', f)) [0, 1, 2, 3, 4, 5, 6, 7, 8, 9, 10, 11, 12, 14, 15, 16, 17, 18, 19, 20, 13] rfl
  have hD := hD.sub (ws' := w_Law h cI cJ (k', u', f)) [0, 1, 2, 3, 4, 5, 6, 7, 8, 9, 10, 11, 12, 14, 15, 16, 17, 18, 19, 20, 13] (by decide) rfl
  refine lv_goto (tgt := 571) hx hb dL_law_288 (by decide) ?_
  refine W.widen (k := 21 + (j + 1)) (n := 92976 + 6 * (j + 1)) (by omega) (by omega) ?_
  exact kont k' u' f _ _ _ _ (hR'.mono (by omega)) hP hD hS (lv_sub hl [0, 1, 2, 3, 4] rfl)
set_option maxHeartbeats 4000000 in
set_option maxRecDepth 100000 in
theorem law_receive {p : Program} {e : Env} {s : State} {m : MethodId} {below : List Frame} {meth : Method} {c : Code} {l : Launch} (hl9 : l.stackTraces = false) {b L : Nat} {xs : Nat → Int32} (hL : L ≤ 2560) (C0 : lw_At p s m meth c b L xs) {dC : Nat → ClassId} {dI : Nat → Nat → Nat} {cI cJ : ClassId} {h tt zs : Nat → Nat} (hK : va_K (dC, dI) vwCl [(cI, .int), (cJ, .long)] s) (hT : cstat tt (fun q : Nat => s.heap.size ≤ q) s s.heap) (hZ : zxx zs (fun q : Nat => s.heap.size ≤ q) s s.heap) {j : Nat} {x4 : Int32} (hj : 5 * j + 5 ≤ L) (ex4 : x4 = nI (5 * j)) (kont : Kont p l e s m below meth c b dC dI cI cJ h x4 j) {k : S_BM} {u : S_Model} {f : Nat → Int64} {tq : Int32} (hR : RM tq (600000 * j) k u) {H : Heap} {locs : List Loc} (hP : va_P (dC, dI) vwCl (w_Law h cI cJ (k, u, f)) H) (hD : va_D (fun q : Nat => s.heap.size ≤ q) (w_Law h cI cJ (k, u, f))) (hS : va_S (fun q : Nat => s.heap.size ≤ q) s.heap H locs) {ls : Array Slot} (hl : lv_has ls 7 [(0, .ref b), (1, .ref (h 0)), (2, .ref (h 13)), (3, .ref (h 20)), (4, .int x4)]) : W p l e room_1 s m #[Value.ref b] below meth c H locs (21 + j) (92976 + 6 * j) (lw_Z below #[Value.ref b] s) (F0 m 291 ls []) := by
  obtain ⟨hx, hb, hr, hml, hown, hts0, hX, hbl, hlocks, hgv⟩ := id C0
  have hts := law_hts hts0
  have hown : s.vm.findClass RL = some m.cls := hown
  have hA : ∀ q : Nat, s.heap.size ≤ q → (fun q : Nat => s.heap.size ≤ q) q := fun _ h => h
  have hbA : ¬ (fun q : Nat => s.heap.size ≤ q) b := Nat.not_le.mpr hbl
  obtain ⟨hv1, hv2, hv3, hv4⟩ := law_ix hL hj ex4
  have hj9 : j ≤ 511 := by omega
  obtain ⟨r0, k', u', c1, c2, hR'⟩ := call_receive hR (xs (x4 + 1).toNatClampNeg)
  refine lv_aload_n hx hb dL_law_291 rfl (lv_at hl 1 rfl) ?_
  refine lv_aload_n hx hb dL_law_292 rfl (lv_at hl 0 rfl) ?_
  refine lv_iload hx hb dL_law_293 (lv_at hl 4 rfl) ?_
  refine lv_iconst (v := 1) hx hb dL_law_295 (by decide) ?_
  refine lv_iadd hx hb dL_law_296 ?_
  refine va_sld hx hb hX hbl hbA hS hv1 dL_law_297 ?_
  have hPc := hP.sub (ws' := w_BM h cI cJ k) [0, 1, 2, 3, 4, 5, 6, 7, 8, 9, 10, 11, 12] rfl
  have hDc := hD.sub (ws' := w_BM h cI cJ k) [0, 1, 2, 3, 4, 5, 6, 7, 8, 9, 10, 11, 12] (by decide) rfl
  have hFc := va_free (wc := w_BM h cI cJ k) hD hS hA [0, 1, 2, 3, 4, 5, 6, 7, 8, 9, 10, 11, 12] rfl
  refine va_calli (va_runV (As := [.int (xs (x4 + 1).toNatClampNeg)]) (rest := []) ⟨hx, hb, hml, hown, hts⟩ (c_X8_receive l dC dI cI cJ h _ (c1 (fun r2 k2 => r2 = r0 ∧ k2 = k') ⟨rfl, rfl⟩)) (cwV 1 hts (tb_gV tw_3_1 tw_3_2 tw_3_3 tw_1_1 tw_3_4) rfl rfl rfl (by decide +kernel) ⟨Nat.le_of_ble_eq_true rfl, Nat.le_of_ble_eq_true rfl⟩) (cpre_V (ci := 7) (q0 := 0) hK hPc hDc rfl rfl) rfl rfl hl.1 rfl (lv_room (Nat.le_of_ble_eq_true rfl)) dL_law_298 ⟨by show _ ≤ 601024; omega, by show _ ≤ 7293034; omega⟩) hS (fun q _ h => hFc q h) hFc (fun r9 u9 t9 H1 locs ht hvm hw hB hz1 hk1 hS => ?_)
  obtain ⟨hw1, hw2⟩ := hw
  have hw1 := Eq.symm hw1
  have hw2 := Eq.symm hw2
  subst hw1
  subst hw2
  obtain ⟨hP, hD⟩ := cjoin ht hP hD [0, 1, 2, 3, 4, 5, 6, 7, 8, 9, 10, 11, 12] [13, 14, 15, 16, 17, 18, 19, 20] rfl rfl (by decide) (by decide) hk1 hFc hB
  have hP := hP.sub (ws' := w_Law h cI cJ (k', u, f)) [8, 9, 10, 11, 12, 13, 14, 15, 16, 17, 18, 19, 20, 0, 1, 2, 3, 4, 5, 6, 7] rfl
  have hD := hD.sub (ws' := w_Law h cI cJ (k', u, f)) [8, 9, 10, 11, 12, 13, 14, 15, 16, 17, 18, 19, 20, 0, 1, 2, 3, 4, 5, 6, 7] (by decide) rfl
  refine lv_aload_n hx hb dL_law_301 rfl (lv_at hl 2 rfl) ?_
  refine lv_aload_n hx hb dL_law_302 rfl (lv_at hl 0 rfl) ?_
  refine lv_iload hx hb dL_law_303 (lv_at hl 4 rfl) ?_
  refine lv_iconst (v := 1) hx hb dL_law_305 (by decide) ?_
  refine lv_iadd hx hb dL_law_306 ?_
  refine va_sld hx hb hX hbl hbA hS hv1 dL_law_307 ?_
  have hPc := hP.sub (ws' := w_Model h cI cJ u) [13, 14, 15, 16, 17, 18, 19] rfl
  have hDc := hD.sub (ws' := w_Model h cI cJ u) [13, 14, 15, 16, 17, 18, 19] (by decide) rfl
  have hFc := va_free (wc := w_Model h cI cJ u) hD hS hA [13, 14, 15, 16, 17, 18, 19] rfl
  refine va_calli (va_runV (As := [.int (xs (x4 + 1).toNatClampNeg)]) (rest := [.int r0]) ⟨hx, hb, hml, hown, hts⟩ (c_X9_receive l dC dI cI cJ h _ (c2 (fun r2 u2 => r2 = r0 ∧ u2 = u') ⟨rfl, rfl⟩)) (cwV 1 hts (tb_gV tw_5_53 tw_5_54 tw_5_55 tw_1_9 tw_5_56) rfl rfl rfl (by decide +kernel) ⟨Nat.le_of_ble_eq_true rfl, Nat.le_of_ble_eq_true rfl⟩) (cpre_V (ci := 8) (q0 := 0) hK hPc hDc rfl rfl) rfl rfl hl.1 rfl (lv_room (Nat.le_of_ble_eq_true rfl)) dL_law_308 ⟨by show _ ≤ 601024; omega, by show _ ≤ 7293034; omega⟩) hS (fun q _ h => hFc q h) hFc (fun r9 u9 t9 H1 locs ht hvm hw hB hz1 hk1 hS => ?_)
  obtain ⟨hw1, hw2⟩ := hw
  have hw1 := Eq.symm hw1
  have hw2 := Eq.symm hw2
  subst hw1
  subst hw2
  obtain ⟨hP, hD⟩ := cjoin ht hP hD [13, 14, 15, 16, 17, 18, 19] [0, 1, 2, 3, 4, 5, 6, 7, 8, 9, 10, 11, 12, 20] rfl rfl (by decide) (by decide) hk1 hFc hB
  have hP := hP.sub (ws' := w_Law h cI cJ (k', u', f)) [0, 1, 2, 3, 4, 5, 6, 7, 8, 9, 10, 11, 12, 14, 15, 16, 17, 18, 19, 20, 13] rfl
  have hD := hD.sub (ws' := w_Law h cI cJ (k', u', f)) [0, 1, 2, 3, 4, 5, 6, 7, 8, 9, 10, 11, 12, 14, 15, 16, 17, 18, 19, 20, 13] (by decide) rfl
  refine lv_icmp_eq (tgt := 571) hx hb dL_law_311 (by decide) (fun c9 => ?_) (fun c9 => absurd rfl c9)
  refine W.widen (k := 21 + (j + 1)) (n := 92976 + 6 * (j + 1)) (by omega) (by omega) ?_
  exact kont k' u' f _ _ _ _ (hR'.mono (by omega)) hP hD hS (lv_sub hl [0, 1, 2, 3, 4] rfl)
set_option maxHeartbeats 4000000 in
set_option maxRecDepth 100000 in
theorem law_sent {p : Program} {e : Env} {s : State} {m : MethodId} {below : List Frame} {meth : Method} {c : Code} {l : Launch} (hl9 : l.stackTraces = false) {b L : Nat} {xs : Nat → Int32} (hL : L ≤ 2560) (C0 : lw_At p s m meth c b L xs) {dC : Nat → ClassId} {dI : Nat → Nat → Nat} {cI cJ : ClassId} {h tt zs : Nat → Nat} (hK : va_K (dC, dI) vwCl [(cI, .int), (cJ, .long)] s) (hT : cstat tt (fun q : Nat => s.heap.size ≤ q) s s.heap) (hZ : zxx zs (fun q : Nat => s.heap.size ≤ q) s s.heap) {j : Nat} {x4 : Int32} (hj : 5 * j + 5 ≤ L) (ex4 : x4 = nI (5 * j)) (kont : Kont p l e s m below meth c b dC dI cI cJ h x4 j) {k : S_BM} {u : S_Model} {f : Nat → Int64} {tq : Int32} (hR : RM tq (600000 * j) k u) {H : Heap} {locs : List Loc} (hP : va_P (dC, dI) vwCl (w_Law h cI cJ (k, u, f)) H) (hD : va_D (fun q : Nat => s.heap.size ≤ q) (w_Law h cI cJ (k, u, f))) (hS : va_S (fun q : Nat => s.heap.size ≤ q) s.heap H locs) {ls : Array Slot} (hl : lv_has ls 7 [(0, .ref b), (1, .ref (h 0)), (2, .ref (h 13)), (3, .ref (h 20)), (4, .int x4)]) : W p l e room_1 s m #[Value.ref b] below meth c H locs (21 + j) (92976 + 6 * j) (lw_Z below #[Value.ref b] s) (F0 m 316 ls []) := by
  obtain ⟨hx, hb, hr, hml, hown, hts0, hX, hbl, hlocks, hgv⟩ := id C0
  have hts := law_hts hts0
  have hown : s.vm.findClass RL = some m.cls := hown
  have hA : ∀ q : Nat, s.heap.size ≤ q → (fun q : Nat => s.heap.size ≤ q) q := fun _ h => h
  have hbA : ¬ (fun q : Nat => s.heap.size ≤ q) b := Nat.not_le.mpr hbl
  obtain ⟨hv1, hv2, hv3, hv4⟩ := law_ix hL hj ex4
  have hj9 : j ≤ 511 := by omega
  obtain ⟨r0, u', c1, c2, hR'⟩ := call_sent (by omega) hR (xs (x4 + 1).toNatClampNeg)
  refine lv_aload_n hx hb dL_law_316 rfl (lv_at hl 1 rfl) ?_
  refine lv_aload_n hx hb dL_law_317 rfl (lv_at hl 0 rfl) ?_
  refine lv_iload hx hb dL_law_318 (lv_at hl 4 rfl) ?_
  refine lv_iconst (v := 1) hx hb dL_law_320 (by decide) ?_
  refine lv_iadd hx hb dL_law_321 ?_
  refine va_sld hx hb hX hbl hbA hS hv1 dL_law_322 ?_
  have hPc := hP.sub (ws' := w_BM h cI cJ k) [0, 1, 2, 3, 4, 5, 6, 7, 8, 9, 10, 11, 12] rfl
  have hDc := hD.sub (ws' := w_BM h cI cJ k) [0, 1, 2, 3, 4, 5, 6, 7, 8, 9, 10, 11, 12] (by decide) rfl
  have hFc := va_free (wc := w_BM h cI cJ k) hD hS hA [0, 1, 2, 3, 4, 5, 6, 7, 8, 9, 10, 11, 12] rfl
  refine va_calli (va_runV (As := [.int (xs (x4 + 1).toNatClampNeg)]) (rest := []) ⟨hx, hb, hml, hown, hts⟩ (c_X8_sent l dC dI cI cJ h _ (c1 (fun r2 => r2 = r0) rfl)) (cwV 1 hts (tb_gV tw_3_9 tw_3_10 tw_3_11 tw_1_1 tw_3_12) rfl rfl rfl (by decide +kernel) ⟨Nat.le_of_ble_eq_true rfl, Nat.le_of_ble_eq_true rfl⟩) (cpre_V (ci := 7) (q0 := 0) hK hPc hDc rfl rfl) rfl rfl hl.1 rfl (lv_room (Nat.le_of_ble_eq_true rfl)) dL_law_323 ⟨by show _ ≤ 601024; omega, by show _ ≤ 7293034; omega⟩) hS (fun q _ h => hFc q h) hFc (fun r9 u9 t9 H1 locs ht hvm hw hB hz1 hk1 hS => ?_)
  have hw : r0 = r9 := Eq.symm hw
  subst hw
  obtain ⟨hP, hD⟩ := cjoin ht hP hD [0, 1, 2, 3, 4, 5, 6, 7, 8, 9, 10, 11, 12] [13, 14, 15, 16, 17, 18, 19, 20] rfl rfl (by decide) (by decide) hk1 hFc hB
  have hP := hP.sub (ws' := w_Law h cI cJ (k, u, f)) [8, 9, 10, 11, 12, 13, 14, 15, 16, 17, 18, 19, 20, 0, 1, 2, 3, 4, 5, 6, 7] rfl
  have hD := hD.sub (ws' := w_Law h cI cJ (k, u, f)) [8, 9, 10, 11, 12, 13, 14, 15, 16, 17, 18, 19, 20, 0, 1, 2, 3, 4, 5, 6, 7] (by decide) rfl
  refine lv_aload_n hx hb dL_law_326 rfl (lv_at hl 2 rfl) ?_
  refine lv_aload_n hx hb dL_law_327 rfl (lv_at hl 0 rfl) ?_
  refine lv_iload hx hb dL_law_328 (lv_at hl 4 rfl) ?_
  refine lv_iconst (v := 1) hx hb dL_law_330 (by decide) ?_
  refine lv_iadd hx hb dL_law_331 ?_
  refine va_sld hx hb hX hbl hbA hS hv1 dL_law_332 ?_
  have hPc := hP.sub (ws' := w_Model h cI cJ u) [13, 14, 15, 16, 17, 18, 19] rfl
  have hDc := hD.sub (ws' := w_Model h cI cJ u) [13, 14, 15, 16, 17, 18, 19] (by decide) rfl
  have hFc := va_free (wc := w_Model h cI cJ u) hD hS hA [13, 14, 15, 16, 17, 18, 19] rfl
  refine va_calli (va_runV (As := [.int (xs (x4 + 1).toNatClampNeg)]) (rest := [.int r0]) ⟨hx, hb, hml, hown, hts⟩ (c_X9_sent l dC dI cI cJ h _ (c2 (fun r2 u2 => r2 = r0 ∧ u2 = u') ⟨rfl, rfl⟩)) (cwV 1 hts (tb_gV tw_5_57 tw_5_58 tw_5_59 tw_1_9 tw_5_60) rfl rfl rfl (by decide +kernel) ⟨Nat.le_of_ble_eq_true rfl, Nat.le_of_ble_eq_true rfl⟩) (cpre_V (ci := 8) (q0 := 0) hK hPc hDc rfl rfl) rfl rfl hl.1 rfl (lv_room (Nat.le_of_ble_eq_true rfl)) dL_law_333 ⟨by show _ ≤ 601024; omega, by show _ ≤ 7293034; omega⟩) hS (fun q _ h => hFc q h) hFc (fun r9 u9 t9 H1 locs ht hvm hw hB hz1 hk1 hS => ?_)
  obtain ⟨hw1, hw2⟩ := hw
  have hw1 := Eq.symm hw1
  have hw2 := Eq.symm hw2
  subst hw1
  subst hw2
  obtain ⟨hP, hD⟩ := cjoin ht hP hD [13, 14, 15, 16, 17, 18, 19] [0, 1, 2, 3, 4, 5, 6, 7, 8, 9, 10, 11, 12, 20] rfl rfl (by decide) (by decide) hk1 hFc hB
  have hP := hP.sub (ws' := w_Law h cI cJ (k, u', f)) [0, 1, 2, 3, 4, 5, 6, 7, 8, 9, 10, 11, 12, 14, 15, 16, 17, 18, 19, 20, 13] rfl
  have hD := hD.sub (ws' := w_Law h cI cJ (k, u', f)) [0, 1, 2, 3, 4, 5, 6, 7, 8, 9, 10, 11, 12, 14, 15, 16, 17, 18, 19, 20, 13] (by decide) rfl
  refine lv_icmp_eq (tgt := 571) hx hb dL_law_336 (by decide) (fun c9 => ?_) (fun c9 => absurd rfl c9)
  refine W.widen (k := 21 + (j + 1)) (n := 92976 + 6 * (j + 1)) (by omega) (by omega) ?_
  exact kont k u' f _ _ _ _ (hR'.mono (by omega)) hP hD hS (lv_sub hl [0, 1, 2, 3, 4] rfl)
set_option maxHeartbeats 4000000 in
set_option maxRecDepth 100000 in
theorem law_look {p : Program} {e : Env} {s : State} {m : MethodId} {below : List Frame} {meth : Method} {c : Code} {l : Launch} (hl9 : l.stackTraces = false) {b L : Nat} {xs : Nat → Int32} (hL : L ≤ 2560) (C0 : lw_At p s m meth c b L xs) {dC : Nat → ClassId} {dI : Nat → Nat → Nat} {cI cJ : ClassId} {h tt zs : Nat → Nat} (hK : va_K (dC, dI) vwCl [(cI, .int), (cJ, .long)] s) (hT : cstat tt (fun q : Nat => s.heap.size ≤ q) s s.heap) (hZ : zxx zs (fun q : Nat => s.heap.size ≤ q) s s.heap) {j : Nat} {x4 : Int32} (hj : 5 * j + 5 ≤ L) (ex4 : x4 = nI (5 * j)) (kont : Kont p l e s m below meth c b dC dI cI cJ h x4 j) {k : S_BM} {u : S_Model} {f : Nat → Int64} {tq : Int32} (hR : RM tq (600000 * j) k u) {H : Heap} {locs : List Loc} (hP : va_P (dC, dI) vwCl (w_Law h cI cJ (k, u, f)) H) (hD : va_D (fun q : Nat => s.heap.size ≤ q) (w_Law h cI cJ (k, u, f))) (hS : va_S (fun q : Nat => s.heap.size ≤ q) s.heap H locs) {ls : Array Slot} (hl : lv_has ls 7 [(0, .ref b), (1, .ref (h 0)), (2, .ref (h 13)), (3, .ref (h 20)), (4, .int x4)]) : W p l e room_1 s m #[Value.ref b] below meth c H locs (21 + j) (92976 + 6 * j) (lw_Z below #[Value.ref b] s) (F0 m 341 ls []) := by
  obtain ⟨hx, hb, hr, hml, hown, hts0, hX, hbl, hlocks, hgv⟩ := id C0
  have hts := law_hts hts0
  have hown : s.vm.findClass RL = some m.cls := hown
  have hA : ∀ q : Nat, s.heap.size ≤ q → (fun q : Nat => s.heap.size ≤ q) q := fun _ h => h
  have hbA : ¬ (fun q : Nat => s.heap.size ≤ q) b := Nat.not_le.mpr hbl
  obtain ⟨hv1, hv2, hv3, hv4⟩ := law_ix hL hj ex4
  have hj9 : j ≤ 511 := by omega
  obtain ⟨r0, b0, k', f', u', c1, c2, hR', hf'⟩ := (call_look hR (xs (x4 + 1).toNatClampNeg)).one f
  refine lv_aload_n hx hb dL_law_341 rfl (lv_at hl 1 rfl) ?_
  refine lv_aload_n hx hb dL_law_342 rfl (lv_at hl 0 rfl) ?_
  refine lv_iload hx hb dL_law_343 (lv_at hl 4 rfl) ?_
  refine lv_iconst (v := 1) hx hb dL_law_345 (by decide) ?_
  refine lv_iadd hx hb dL_law_346 ?_
  refine va_sld hx hb hX hbl hbA hS hv1 dL_law_347 ?_
  refine lv_aload_n hx hb dL_law_348 rfl (lv_at hl 3 rfl) ?_
  have hPc := hP.sub (ws' := w_BF h cI cJ (k, f)) [0, 1, 2, 3, 4, 5, 6, 7, 8, 9, 10, 11, 12, 20] rfl
  have hDc := hD.sub (ws' := w_BF h cI cJ (k, f)) [0, 1, 2, 3, 4, 5, 6, 7, 8, 9, 10, 11, 12, 20] (by decide) rfl
  have hFc := va_free (wc := w_BF h cI cJ (k, f)) hD hS hA [0, 1, 2, 3, 4, 5, 6, 7, 8, 9, 10, 11, 12, 20] rfl
  refine va_calli (vx_runSW (As := [.ref (h 0), .int (xs (x4 + 1).toNatClampNeg), .ref (h 20)]) (rest := []) ⟨hx, hb, hml, hown, hts⟩ (c_L_look (Φ := fun (r : Int32) (x : S_BM × (Nat → Int64)) => r = r0 ∧ x = (k', f')) l hl9 dC dI cI cJ h tt zs _ (c1)) (vx_cwSW 3 hts (tb_gW tw_3_154 tw_3_155 tw_1_0 tw_3_156) rfl rfl rfl (by decide +kernel) ⟨Nat.le_of_ble_eq_true rfl, Nat.le_of_ble_eq_true rfl⟩) (cpre_SX hK hPc hDc hT hZ hS hFc) rfl rfl hl.1 rfl (lv_room (Nat.le_of_ble_eq_true rfl)) dL_law_349 ⟨by show _ ≤ 601024; omega, by show _ ≤ 7293034; omega⟩) hS (fun q _ h => hFc q h) hFc (fun r9 u9 t9 H1 locs ht hvm hw hB hz1 hk1 hS => ?_)
  obtain ⟨hw1, hw2⟩ := hw
  have hw1 := Eq.symm hw1
  have hw2 := Eq.symm hw2
  subst hw1
  subst hw2
  obtain ⟨hP, hD⟩ := cjoin ht hP hD [0, 1, 2, 3, 4, 5, 6, 7, 8, 9, 10, 11, 12, 20] [13, 14, 15, 16, 17, 18, 19] rfl rfl (by decide) (by decide) hk1 hFc hB
  have hP := hP.sub (ws' := w_Law h cI cJ (k', u, f')) [7, 8, 9, 10, 11, 12, 13, 14, 15, 16, 17, 18, 19, 0, 1, 2, 3, 4, 5, 6, 20] rfl
  have hD := hD.sub (ws' := w_Law h cI cJ (k', u, f')) [7, 8, 9, 10, 11, 12, 13, 14, 15, 16, 17, 18, 19, 0, 1, 2, 3, 4, 5, 6, 20] (by decide) rfl
  refine lv_istore (lv' := [(5, .int r0), (0, .ref b), (1, .ref (h 0)), (2, .ref (h 13)), (3, .ref (h 20)), (4, .int x4)]) hx hb dL_law_352 hl (by decide) rfl (fun ls hl => ?_)
  refine lv_aload_n hx hb dL_law_354 rfl (lv_at hl 3 rfl) ?_
  refine lv_aload_n hx hb dL_law_355 rfl (lv_at hl 1 rfl) ?_
  refine lv_iload hx hb dL_law_356 (lv_at hl 5 rfl) ?_
  refine lv_iconst (v := 1) hx hb dL_law_358 (by decide) ?_
  refine lv_iadd hx hb dL_law_359 ?_
  refine va_sld hx hb hX hbl hbA hS hv1 dL_law_360 ?_
  have hPc := hP.sub (ws' := w_Model h cI cJ u) [13, 14, 15, 16, 17, 18, 19] rfl
  have hDc := hD.sub (ws' := w_Model h cI cJ u) [13, 14, 15, 16, 17, 18, 19] (by decide) rfl
  have hFc := va_free (wc := w_Model h cI cJ u) hD hS hA [13, 14, 15, 16, 17, 18, 19] rfl
  refine va_calli (va_runV (As := [.int (xs (x4 + 1).toNatClampNeg)]) (rest := []) ⟨hx, hb, hml, hown, hts⟩ (c_X9_look l dC dI cI cJ h _ (c2 (fun r2 u2 => r2 = b0 ∧ u2 = u') ⟨rfl, rfl⟩)) (cwV 1 hts (tb_gV tw_5_61 tw_5_62 tw_5_63 tw_1_9 tw_5_64) rfl rfl rfl (by decide +kernel) ⟨Nat.le_of_ble_eq_true rfl, Nat.le_of_ble_eq_true rfl⟩) (cpre_V (ci := 8) (q0 := 0) hK hPc hDc rfl rfl) rfl rfl hl.1 rfl (lv_room (Nat.le_of_ble_eq_true rfl)) dL_law_361 ⟨by show _ ≤ 601024; omega, by show _ ≤ 7293034; omega⟩) hS (fun q _ h => hFc q h) hFc (fun r9 u9 t9 H1 locs ht hvm hw hB hz1 hk1 hS => ?_)
  obtain ⟨hw1, hw2⟩ := hw
  have hw1 := Eq.symm hw1
  have hw2 := Eq.symm hw2
  subst hw1
  subst hw2
  obtain ⟨hP, hD⟩ := cjoin ht hP hD [13, 14, 15, 16, 17, 18, 19] [0, 1, 2, 3, 4, 5, 6, 7, 8, 9, 10, 11, 12, 20] rfl rfl (by decide) (by decide) hk1 hFc hB
  have hP := hP.sub (ws' := w_Law h cI cJ (k', u', f')) [0, 1, 2, 3, 4, 5, 6, 7, 8, 9, 10, 11, 12, 14, 15, 16, 17, 18, 19, 20, 13] rfl
  have hD := hD.sub (ws' := w_Law h cI cJ (k', u', f')) [0, 1, 2, 3, 4, 5, 6, 7, 8, 9, 10, 11, 12, 14, 15, 16, 17, 18, 19, 20, 13] (by decide) rfl
  refine lv_istore (lv' := [(6, .int b0), (5, .int r0), (0, .ref b), (1, .ref (h 0)), (2, .ref (h 13)), (3, .ref (h 20)), (4, .int x4)]) hx hb dL_law_364 hl (by decide) rfl (fun ls hl => ?_)
  refine lv_aload_n hx hb dL_law_366 rfl (lv_at hl 4 rfl) ?_
  have hPc := hP.sub (ws' := w_Model h cI cJ u') [13, 14, 15, 16, 17, 18, 19] rfl
  have hDc := hD.sub (ws' := w_Model h cI cJ u') [13, 14, 15, 16, 17, 18, 19] (by decide) rfl
  have hFc := va_free (wc := w_Model h cI cJ u') hD hS hA [13, 14, 15, 16, 17, 18, 19] rfl
  refine va_calli (va_runV (As := []) (rest := []) ⟨hx, hb, hml, hown, hts⟩ (c_X9_thrown l dC dI cI cJ h _ (show wp_X9_thrown u' (fun r2 => r2 = u'.1 0) from rfl)) (cwV 0 hts (tb_gV tw_4_47 tw_4_48 tw_4_49 tw_1_9 tw_4_50) rfl rfl rfl (by decide +kernel) ⟨Nat.le_of_ble_eq_true rfl, Nat.le_of_ble_eq_true rfl⟩) (cpre_V (ci := 8) (q0 := 0) hK hPc hDc rfl rfl) rfl rfl hl.1 rfl (lv_room (Nat.le_of_ble_eq_true rfl)) dL_law_367 ⟨by show _ ≤ 601024; omega, by show _ ≤ 7293034; omega⟩) hS (fun q _ h => hFc q h) hFc (fun r9 u9 t9 H1 locs ht hvm hw hB hz1 hk1 hS => ?_)
  have hw : u'.1 0 = r9 := Eq.symm hw
  subst hw
  obtain ⟨hP, hD⟩ := cjoin ht hP hD [13, 14, 15, 16, 17, 18, 19] [0, 1, 2, 3, 4, 5, 6, 7, 8, 9, 10, 11, 12, 20] rfl rfl (by decide) (by decide) hk1 hFc hB
  have hP := hP.sub (ws' := w_Law h cI cJ (k', u', f')) [0, 1, 2, 3, 4, 5, 6, 7, 8, 9, 10, 11, 12, 14, 15, 16, 17, 18, 19, 20, 13] rfl
  have hD := hD.sub (ws' := w_Law h cI cJ (k', u', f')) [0, 1, 2, 3, 4, 5, 6, 7, 8, 9, 10, 11, 12, 14, 15, 16, 17, 18, 19, 20, 13] (by decide) rfl
  refine lv_iload hx hb dL_law_370 (lv_at hl 1 rfl) ?_
  refine lv_icmp_eq (tgt := 377) hx hb dL_law_372 (by decide) (fun c9 => ?_) (fun c9 => absurd hR'.thrown c9)
  refine lv_iload hx hb dL_law_377 (lv_at hl 1 rfl) ?_
  refine lv_if_ne (tgt := 394) hx hb dL_law_379 (by decide) (fun c8 => ?_) (fun c8 => ?_)
  · refine lv_goto (tgt := 571) hx hb dL_law_394 (by decide) ?_
    refine W.widen (k := 21 + (j + 1)) (n := 92976 + 6 * (j + 1)) (by omega) (by omega) ?_
    exact kont k' u' f' _ _ _ _ (hR'.mono (by omega)) hP hD hS (lv_sub hl [2, 3, 4, 5, 6] rfl)
  · refine lv_aload_n hx hb dL_law_382 rfl (lv_at hl 5 rfl) ?_
    refine lv_iconst (v := 0) hx hb dL_law_383 (by decide) ?_
    refine va_lald hx hb hK hP 20 1 rfl rfl (vp_in_nI (n := 0) (by omega) (by omega)) dL_law_384 ?_
    refine lv_iload hx hb dL_law_385 (lv_at hl 0 rfl) ?_
    refine lv_i2l hx hb dL_law_387 rfl ?_
    refine W.lcmp hx hb dL_law_388 ?_
    refine lv_if_eq (tgt := 394) hx hb dL_law_389 (by decide) (fun c9 => ?_) (fun c9 => absurd (lg_same (hf' c8)) c9)
    refine lv_goto (tgt := 571) hx hb dL_law_394 (by decide) ?_
    refine W.widen (k := 21 + (j + 1)) (n := 92976 + 6 * (j + 1)) (by omega) (by omega) ?_
    exact kont k' u' f' _ _ _ _ (hR'.mono (by omega)) hP hD hS (lv_sub hl [2, 3, 4, 5, 6] rfl)
set_option maxHeartbeats 4000000 in
set_option maxRecDepth 100000 in
theorem law_register {p : Program} {e : Env} {s : State} {m : MethodId} {below : List Frame} {meth : Method} {c : Code} {l : Launch} (hl9 : l.stackTraces = false) {b L : Nat} {xs : Nat → Int32} (hL : L ≤ 2560) (C0 : lw_At p s m meth c b L xs) {dC : Nat → ClassId} {dI : Nat → Nat → Nat} {cI cJ : ClassId} {h tt zs : Nat → Nat} (hK : va_K (dC, dI) vwCl [(cI, .int), (cJ, .long)] s) (hT : cstat tt (fun q : Nat => s.heap.size ≤ q) s s.heap) (hZ : zxx zs (fun q : Nat => s.heap.size ≤ q) s s.heap) {j : Nat} {x4 : Int32} (hj : 5 * j + 5 ≤ L) (ex4 : x4 = nI (5 * j)) (kont : Kont p l e s m below meth c b dC dI cI cJ h x4 j) {k : S_BM} {u : S_Model} {f : Nat → Int64} {tq : Int32} (hR : RM tq (600000 * j) k u) {H : Heap} {locs : List Loc} (hP : va_P (dC, dI) vwCl (w_Law h cI cJ (k, u, f)) H) (hD : va_D (fun q : Nat => s.heap.size ≤ q) (w_Law h cI cJ (k, u, f))) (hS : va_S (fun q : Nat => s.heap.size ≤ q) s.heap H locs) {ls : Array Slot} (hl : lv_has ls 7 [(0, .ref b), (1, .ref (h 0)), (2, .ref (h 13)), (3, .ref (h 20)), (4, .int x4)]) : W p l e room_1 s m #[Value.ref b] below meth c H locs (21 + j) (92976 + 6 * j) (lw_Z below #[Value.ref b] s) (F0 m 397 ls []) := by
  obtain ⟨hx, hb, hr, hml, hown, hts0, hX, hbl, hlocks, hgv⟩ := id C0
  have hts := law_hts hts0
  have hown : s.vm.findClass RL = some m.cls := hown
  have hA : ∀ q : Nat, s.heap.size ≤ q → (fun q : Nat => s.heap.size ≤ q) q := fun _ h => h
  have hbA : ¬ (fun q : Nat => s.heap.size ≤ q) b := Nat.not_le.mpr hbl
  obtain ⟨hv1, hv2, hv3, hv4⟩ := law_ix hL hj ex4
  have hj9 : j ≤ 511 := by omega
  obtain ⟨r0, u', c1, c2, hR'⟩ := call_register hR (xs (x4 + 1).toNatClampNeg)
  refine lv_aload_n hx hb dL_law_397 rfl (lv_at hl 1 rfl) ?_
  refine lv_aload_n hx hb dL_law_398 rfl (lv_at hl 0 rfl) ?_
  refine lv_iload hx hb dL_law_399 (lv_at hl 4 rfl) ?_
  refine lv_iconst (v := 1) hx hb dL_law_401 (by decide) ?_
  refine lv_iadd hx hb dL_law_402 ?_
  refine va_sld hx hb hX hbl hbA hS hv1 dL_law_403 ?_
  have hPc := hP.sub (ws' := w_BM h cI cJ k) [0, 1, 2, 3, 4, 5, 6, 7, 8, 9, 10, 11, 12] rfl
  have hDc := hD.sub (ws' := w_BM h cI cJ k) [0, 1, 2, 3, 4, 5, 6, 7, 8, 9, 10, 11, 12] (by decide) rfl
  have hFc := va_free (wc := w_BM h cI cJ k) hD hS hA [0, 1, 2, 3, 4, 5, 6, 7, 8, 9, 10, 11, 12] rfl
  refine va_calli (va_runV (As := [.int (xs (x4 + 1).toNatClampNeg)]) (rest := []) ⟨hx, hb, hml, hown, hts⟩ (c_X8_register l dC dI cI cJ h _ (c1 (fun r2 => r2 = r0) rfl)) (cwV 1 hts (tb_gV tw_3_17 tw_3_18 tw_3_19 tw_1_1 tw_3_20) rfl rfl rfl (by decide +kernel) ⟨Nat.le_of_ble_eq_true rfl, Nat.le_of_ble_eq_true rfl⟩) (cpre_V (ci := 7) (q0 := 0) hK hPc hDc rfl rfl) rfl rfl hl.1 rfl (lv_room (Nat.le_of_ble_eq_true rfl)) dL_law_404 ⟨by show _ ≤ 601024; omega, by show _ ≤ 7293034; omega⟩) hS (fun q _ h => hFc q h) hFc (fun r9 u9 t9 H1 locs ht hvm hw hB hz1 hk1 hS => ?_)
  have hw : r0 = r9 := Eq.symm hw
  subst hw
  obtain ⟨hP, hD⟩ := cjoin ht hP hD [0, 1, 2, 3, 4, 5, 6, 7, 8, 9, 10, 11, 12] [13, 14, 15, 16, 17, 18, 19, 20] rfl rfl (by decide) (by decide) hk1 hFc hB
  have hP := hP.sub (ws' := w_Law h cI cJ (k, u, f)) [8, 9, 10, 11, 12, 13, 14, 15, 16, 17, 18, 19, 20, 0, 1, 2, 3, 4, 5, 6, 7] rfl
  have hD := hD.sub (ws' := w_Law h cI cJ (k, u, f)) [8, 9, 10, 11, 12, 13, 14, 15, 16, 17, 18, 19, 20, 0, 1, 2, 3, 4, 5, 6, 7] (by decide) rfl
  refine lv_aload_n hx hb dL_law_407 rfl (lv_at hl 2 rfl) ?_
  refine lv_aload_n hx hb dL_law_408 rfl (lv_at hl 0 rfl) ?_
  refine lv_iload hx hb dL_law_409 (lv_at hl 4 rfl) ?_
  refine lv_iconst (v := 1) hx hb dL_law_411 (by decide) ?_
  refine lv_iadd hx hb dL_law_412 ?_
  refine va_sld hx hb hX hbl hbA hS hv1 dL_law_413 ?_
  have hPc := hP.sub (ws' := w_Model h cI cJ u) [13, 14, 15, 16, 17, 18, 19] rfl
  have hDc := hD.sub (ws' := w_Model h cI cJ u) [13, 14, 15, 16, 17, 18, 19] (by decide) rfl
  have hFc := va_free (wc := w_Model h cI cJ u) hD hS hA [13, 14, 15, 16, 17, 18, 19] rfl
  refine va_calli (va_runV (As := [.int (xs (x4 + 1).toNatClampNeg)]) (rest := [.int r0]) ⟨hx, hb, hml, hown, hts⟩ (c_X9_register l dC dI cI cJ h _ (c2 (fun r2 u2 => r2 = r0 ∧ u2 = u') ⟨rfl, rfl⟩)) (cwV 1 hts (tb_gV tw_5_65 tw_5_66 tw_5_67 tw_1_9 tw_5_68) rfl rfl rfl (by decide +kernel) ⟨Nat.le_of_ble_eq_true rfl, Nat.le_of_ble_eq_true rfl⟩) (cpre_V (ci := 8) (q0 := 0) hK hPc hDc rfl rfl) rfl rfl hl.1 rfl (lv_room (Nat.le_of_ble_eq_true rfl)) dL_law_414 ⟨by show _ ≤ 601024; omega, by show _ ≤ 7293034; omega⟩) hS (fun q _ h => hFc q h) hFc (fun r9 u9 t9 H1 locs ht hvm hw hB hz1 hk1 hS => ?_)
  obtain ⟨hw1, hw2⟩ := hw
  have hw1 := Eq.symm hw1
  have hw2 := Eq.symm hw2
  subst hw1
  subst hw2
  obtain ⟨hP, hD⟩ := cjoin ht hP hD [13, 14, 15, 16, 17, 18, 19] [0, 1, 2, 3, 4, 5, 6, 7, 8, 9, 10, 11, 12, 20] rfl rfl (by decide) (by decide) hk1 hFc hB
  have hP := hP.sub (ws' := w_Law h cI cJ (k, u', f)) [0, 1, 2, 3, 4, 5, 6, 7, 8, 9, 10, 11, 12, 14, 15, 16, 17, 18, 19, 20, 13] rfl
  have hD := hD.sub (ws' := w_Law h cI cJ (k, u', f)) [0, 1, 2, 3, 4, 5, 6, 7, 8, 9, 10, 11, 12, 14, 15, 16, 17, 18, 19, 20, 13] (by decide) rfl
  refine lv_icmp_eq (tgt := 571) hx hb dL_law_417 (by decide) (fun c9 => ?_) (fun c9 => absurd rfl c9)
  refine W.widen (k := 21 + (j + 1)) (n := 92976 + 6 * (j + 1)) (by omega) (by omega) ?_
  exact kont k u' f _ _ _ _ (hR'.mono (by omega)) hP hD hS (lv_sub hl [0, 1, 2, 3, 4] rfl)
set_option maxHeartbeats 4000000 in
set_option maxRecDepth 100000 in
theorem law_set {p : Program} {e : Env} {s : State} {m : MethodId} {below : List Frame} {meth : Method} {c : Code} {l : Launch} (hl9 : l.stackTraces = false) {b L : Nat} {xs : Nat → Int32} (hL : L ≤ 2560) (C0 : lw_At p s m meth c b L xs) {dC : Nat → ClassId} {dI : Nat → Nat → Nat} {cI cJ : ClassId} {h tt zs : Nat → Nat} (hK : va_K (dC, dI) vwCl [(cI, .int), (cJ, .long)] s) (hT : cstat tt (fun q : Nat => s.heap.size ≤ q) s s.heap) (hZ : zxx zs (fun q : Nat => s.heap.size ≤ q) s s.heap) {j : Nat} {x4 : Int32} (hj : 5 * j + 5 ≤ L) (ex4 : x4 = nI (5 * j)) (kont : Kont p l e s m below meth c b dC dI cI cJ h x4 j) {k : S_BM} {u : S_Model} {f : Nat → Int64} {tq : Int32} (hR : RM tq (600000 * j) k u) {H : Heap} {locs : List Loc} (hP : va_P (dC, dI) vwCl (w_Law h cI cJ (k, u, f)) H) (hD : va_D (fun q : Nat => s.heap.size ≤ q) (w_Law h cI cJ (k, u, f))) (hS : va_S (fun q : Nat => s.heap.size ≤ q) s.heap H locs) {ls : Array Slot} (hl : lv_has ls 7 [(0, .ref b), (1, .ref (h 0)), (2, .ref (h 13)), (3, .ref (h 20)), (4, .int x4)]) : W p l e room_1 s m #[Value.ref b] below meth c H locs (21 + j) (92976 + 6 * j) (lw_Z below #[Value.ref b] s) (F0 m 422 ls []) := by
  obtain ⟨hx, hb, hr, hml, hown, hts0, hX, hbl, hlocks, hgv⟩ := id C0
  have hts := law_hts hts0
  have hown : s.vm.findClass RL = some m.cls := hown
  have hA : ∀ q : Nat, s.heap.size ≤ q → (fun q : Nat => s.heap.size ≤ q) q := fun _ h => h
  have hbA : ¬ (fun q : Nat => s.heap.size ≤ q) b := Nat.not_le.mpr hbl
  obtain ⟨hv1, hv2, hv3, hv4⟩ := law_ix hL hj ex4
  have hj9 : j ≤ 511 := by omega
  obtain ⟨r0, k', u', c1, c2, hR'⟩ := (call_set hR (xs (x4 + 1).toNatClampNeg) (xs (x4 + 2).toNatClampNeg)).one
  refine lv_aload_n hx hb dL_law_422 rfl (lv_at hl 1 rfl) ?_
  refine lv_aload_n hx hb dL_law_423 rfl (lv_at hl 0 rfl) ?_
  refine lv_iload hx hb dL_law_424 (lv_at hl 4 rfl) ?_
  refine lv_iconst (v := 1) hx hb dL_law_426 (by decide) ?_
  refine lv_iadd hx hb dL_law_427 ?_
  refine va_sld hx hb hX hbl hbA hS hv1 dL_law_428 ?_
  refine lv_aload_n hx hb dL_law_429 rfl (lv_at hl 0 rfl) ?_
  refine lv_iload hx hb dL_law_430 (lv_at hl 4 rfl) ?_
  refine lv_iconst (v := 2) hx hb dL_law_432 (by decide) ?_
  refine lv_iadd hx hb dL_law_433 ?_
  refine va_sld hx hb hX hbl hbA hS hv2 dL_law_434 ?_
  have hPc := hP.sub (ws' := w_BM h cI cJ k) [0, 1, 2, 3, 4, 5, 6, 7, 8, 9, 10, 11, 12] rfl
  have hDc := hD.sub (ws' := w_BM h cI cJ k) [0, 1, 2, 3, 4, 5, 6, 7, 8, 9, 10, 11, 12] (by decide) rfl
  have hFc := va_free (wc := w_BM h cI cJ k) hD hS hA [0, 1, 2, 3, 4, 5, 6, 7, 8, 9, 10, 11, 12] rfl
  refine va_calli (vx_runSW (As := [.ref (h 0), .int (xs (x4 + 1).toNatClampNeg), .int (xs (x4 + 2).toNatClampNeg)]) (rest := []) ⟨hx, hb, hml, hown, hts⟩ (c_L_set (Φ := fun (r : Int32) (x : S_BM) => r = r0 ∧ x = k') l hl9 dC dI cI cJ h tt zs _ (c1)) (vx_cwSW 3 hts (tb_gW tw_3_166 tw_3_167 tw_1_0 tw_3_168) rfl rfl rfl (by decide +kernel) ⟨Nat.le_of_ble_eq_true rfl, Nat.le_of_ble_eq_true rfl⟩) (cpre_SX hK hPc hDc hT hZ hS hFc) rfl rfl hl.1 rfl (lv_room (Nat.le_of_ble_eq_true rfl)) dL_law_435 ⟨by show _ ≤ 601024; omega, by show _ ≤ 7293034; omega⟩) hS (fun q _ h => hFc q h) hFc (fun r9 u9 t9 H1 locs ht hvm hw hB hz1 hk1 hS => ?_)
  obtain ⟨hw1, hw2⟩ := hw
  have hw1 := Eq.symm hw1
  have hw2 := Eq.symm hw2
  subst hw1
  subst hw2
  obtain ⟨hP, hD⟩ := cjoin ht hP hD [0, 1, 2, 3, 4, 5, 6, 7, 8, 9, 10, 11, 12] [13, 14, 15, 16, 17, 18, 19, 20] rfl rfl (by decide) (by decide) hk1 hFc hB
  have hP := hP.sub (ws' := w_Law h cI cJ (k', u, f)) [8, 9, 10, 11, 12, 13, 14, 15, 16, 17, 18, 19, 20, 0, 1, 2, 3, 4, 5, 6, 7] rfl
  have hD := hD.sub (ws' := w_Law h cI cJ (k', u, f)) [8, 9, 10, 11, 12, 13, 14, 15, 16, 17, 18, 19, 20, 0, 1, 2, 3, 4, 5, 6, 7] (by decide) rfl
  refine lv_istore (lv' := [(5, .int r0), (0, .ref b), (1, .ref (h 0)), (2, .ref (h 13)), (3, .ref (h 20)), (4, .int x4)]) hx hb dL_law_438 hl (by decide) rfl (fun ls hl => ?_)
  refine lv_aload_n hx hb dL_law_440 rfl (lv_at hl 3 rfl) ?_
  refine lv_aload_n hx hb dL_law_441 rfl (lv_at hl 1 rfl) ?_
  refine lv_iload hx hb dL_law_442 (lv_at hl 5 rfl) ?_
  refine lv_iconst (v := 1) hx hb dL_law_444 (by decide) ?_
  refine lv_iadd hx hb dL_law_445 ?_
  refine va_sld hx hb hX hbl hbA hS hv1 dL_law_446 ?_
  refine lv_aload_n hx hb dL_law_447 rfl (lv_at hl 1 rfl) ?_
  refine lv_iload hx hb dL_law_448 (lv_at hl 5 rfl) ?_
  refine lv_iconst (v := 2) hx hb dL_law_450 (by decide) ?_
  refine lv_iadd hx hb dL_law_451 ?_
  refine va_sld hx hb hX hbl hbA hS hv2 dL_law_452 ?_
  have hPc := hP.sub (ws' := w_Model h cI cJ u) [13, 14, 15, 16, 17, 18, 19] rfl
  have hDc := hD.sub (ws' := w_Model h cI cJ u) [13, 14, 15, 16, 17, 18, 19] (by decide) rfl
  have hFc := va_free (wc := w_Model h cI cJ u) hD hS hA [13, 14, 15, 16, 17, 18, 19] rfl
  refine va_callv (va_runV (As := [.int (xs (x4 + 1).toNatClampNeg), .int (xs (x4 + 2).toNatClampNeg)]) (rest := []) ⟨hx, hb, hml, hown, hts⟩ (c_X9_set l dC dI cI cJ h _ (c2 (fun u2 => u2 = u') rfl)) (cwV 2 hts (tb_gV tw_5_69 tw_5_70 tw_5_71 tw_1_9 tw_5_72) rfl rfl rfl (by decide +kernel) ⟨Nat.le_of_ble_eq_true rfl, Nat.le_of_ble_eq_true rfl⟩) (cpre_V (ci := 8) (q0 := 0) hK hPc hDc rfl rfl) rfl rfl hl.1 rfl (lv_room (Nat.le_of_ble_eq_true rfl)) dL_law_453 ⟨by show _ ≤ 601024; omega, by show _ ≤ 7293034; omega⟩) hS (fun q _ h => hFc q h) hFc (fun u9 t9 H1 locs ht hvm hw hB hz1 hk1 hS => ?_)
  have hw : u' = u9 := Eq.symm hw
  subst hw
  obtain ⟨hP, hD⟩ := cjoin ht hP hD [13, 14, 15, 16, 17, 18, 19] [0, 1, 2, 3, 4, 5, 6, 7, 8, 9, 10, 11, 12, 20] rfl rfl (by decide) (by decide) hk1 hFc hB
  have hP := hP.sub (ws' := w_Law h cI cJ (k', u', f)) [0, 1, 2, 3, 4, 5, 6, 7, 8, 9, 10, 11, 12, 14, 15, 16, 17, 18, 19, 20, 13] rfl
  have hD := hD.sub (ws' := w_Law h cI cJ (k', u', f)) [0, 1, 2, 3, 4, 5, 6, 7, 8, 9, 10, 11, 12, 14, 15, 16, 17, 18, 19, 20, 13] (by decide) rfl
  refine lv_aload_n hx hb dL_law_456 rfl (lv_at hl 3 rfl) ?_
  have hPc := hP.sub (ws' := w_Model h cI cJ u') [13, 14, 15, 16, 17, 18, 19] rfl
  have hDc := hD.sub (ws' := w_Model h cI cJ u') [13, 14, 15, 16, 17, 18, 19] (by decide) rfl
  have hFc := va_free (wc := w_Model h cI cJ u') hD hS hA [13, 14, 15, 16, 17, 18, 19] rfl
  refine va_calli (va_runV (As := []) (rest := []) ⟨hx, hb, hml, hown, hts⟩ (c_X9_thrown l dC dI cI cJ h _ (show wp_X9_thrown u' (fun r2 => r2 = u'.1 0) from rfl)) (cwV 0 hts (tb_gV tw_4_47 tw_4_48 tw_4_49 tw_1_9 tw_4_50) rfl rfl rfl (by decide +kernel) ⟨Nat.le_of_ble_eq_true rfl, Nat.le_of_ble_eq_true rfl⟩) (cpre_V (ci := 8) (q0 := 0) hK hPc hDc rfl rfl) rfl rfl hl.1 rfl (lv_room (Nat.le_of_ble_eq_true rfl)) dL_law_457 ⟨by show _ ≤ 601024; omega, by show _ ≤ 7293034; omega⟩) hS (fun q _ h => hFc q h) hFc (fun r9 u9 t9 H1 locs ht hvm hw hB hz1 hk1 hS => ?_)
  have hw : u'.1 0 = r9 := Eq.symm hw
  subst hw
  obtain ⟨hP, hD⟩ := cjoin ht hP hD [13, 14, 15, 16, 17, 18, 19] [0, 1, 2, 3, 4, 5, 6, 7, 8, 9, 10, 11, 12, 20] rfl rfl (by decide) (by decide) hk1 hFc hB
  have hP := hP.sub (ws' := w_Law h cI cJ (k', u', f)) [0, 1, 2, 3, 4, 5, 6, 7, 8, 9, 10, 11, 12, 14, 15, 16, 17, 18, 19, 20, 13] rfl
  have hD := hD.sub (ws' := w_Law h cI cJ (k', u', f)) [0, 1, 2, 3, 4, 5, 6, 7, 8, 9, 10, 11, 12, 14, 15, 16, 17, 18, 19, 20, 13] (by decide) rfl
  refine lv_iload hx hb dL_law_460 (lv_at hl 0 rfl) ?_
  refine lv_icmp_eq (tgt := 467) hx hb dL_law_462 (by decide) (fun c9 => ?_) (fun c9 => absurd hR'.thrown c9)
  refine lv_goto (tgt := 571) hx hb dL_law_467 (by decide) ?_
  refine W.widen (k := 21 + (j + 1)) (n := 92976 + 6 * (j + 1)) (by omega) (by omega) ?_
  exact kont k' u' f _ _ _ _ (hR'.mono (by omega)) hP hD hS (lv_sub hl [1, 2, 3, 4, 5] rfl)
set_option maxHeartbeats 4000000 in
set_option maxRecDepth 100000 in
theorem law_setBreak {p : Program} {e : Env} {s : State} {m : MethodId} {below : List Frame} {meth : Method} {c : Code} {l : Launch} (hl9 : l.stackTraces = false) {b L : Nat} {xs : Nat → Int32} (hL : L ≤ 2560) (C0 : lw_At p s m meth c b L xs) {dC : Nat → ClassId} {dI : Nat → Nat → Nat} {cI cJ : ClassId} {h tt zs : Nat → Nat} (hK : va_K (dC, dI) vwCl [(cI, .int), (cJ, .long)] s) (hT : cstat tt (fun q : Nat => s.heap.size ≤ q) s s.heap) (hZ : zxx zs (fun q : Nat => s.heap.size ≤ q) s s.heap) {j : Nat} {x4 : Int32} (hj : 5 * j + 5 ≤ L) (ex4 : x4 = nI (5 * j)) (kont : Kont p l e s m below meth c b dC dI cI cJ h x4 j) {k : S_BM} {u : S_Model} {f : Nat → Int64} {tq : Int32} (hR : RM tq (600000 * j) k u) {H : Heap} {locs : List Loc} (hP : va_P (dC, dI) vwCl (w_Law h cI cJ (k, u, f)) H) (hD : va_D (fun q : Nat => s.heap.size ≤ q) (w_Law h cI cJ (k, u, f))) (hS : va_S (fun q : Nat => s.heap.size ≤ q) s.heap H locs) {ls : Array Slot} (hl : lv_has ls 7 [(0, .ref b), (1, .ref (h 0)), (2, .ref (h 13)), (3, .ref (h 20)), (4, .int x4)]) : W p l e room_1 s m #[Value.ref b] below meth c H locs (21 + j) (92976 + 6 * j) (lw_Z below #[Value.ref b] s) (F0 m 470 ls []) := by
  obtain ⟨hx, hb, hr, hml, hown, hts0, hX, hbl, hlocks, hgv⟩ := id C0
  have hts := law_hts hts0
  have hown : s.vm.findClass RL = some m.cls := hown
  have hA : ∀ q : Nat, s.heap.size ≤ q → (fun q : Nat => s.heap.size ≤ q) q := fun _ h => h
  have hbA : ¬ (fun q : Nat => s.heap.size ≤ q) b := Nat.not_le.mpr hbl
  obtain ⟨hv1, hv2, hv3, hv4⟩ := law_ix hL hj ex4
  have hj9 : j ≤ 511 := by omega
  obtain ⟨r0, k', u', hr0, c1, c2, hR'⟩ := call_setBreak hR (xs (x4 + 1).toNatClampNeg)
  refine lv_aload_n hx hb dL_law_470 rfl (lv_at hl 1 rfl) ?_
  refine lv_aload_n hx hb dL_law_471 rfl (lv_at hl 0 rfl) ?_
  refine lv_iload hx hb dL_law_472 (lv_at hl 4 rfl) ?_
  refine lv_iconst (v := 1) hx hb dL_law_474 (by decide) ?_
  refine lv_iadd hx hb dL_law_475 ?_
  refine va_sld hx hb hX hbl hbA hS hv1 dL_law_476 ?_
  have hPc := hP.sub (ws' := w_BM h cI cJ k) [0, 1, 2, 3, 4, 5, 6, 7, 8, 9, 10, 11, 12] rfl
  have hDc := hD.sub (ws' := w_BM h cI cJ k) [0, 1, 2, 3, 4, 5, 6, 7, 8, 9, 10, 11, 12] (by decide) rfl
  have hFc := va_free (wc := w_BM h cI cJ k) hD hS hA [0, 1, 2, 3, 4, 5, 6, 7, 8, 9, 10, 11, 12] rfl
  refine va_calli (va_runV (As := [.int (xs (x4 + 1).toNatClampNeg)]) (rest := []) ⟨hx, hb, hml, hown, hts⟩ (c_X8_setBreak l dC dI cI cJ h _ (c1 (fun r2 k2 => r2 = r0 ∧ k2 = k') ⟨rfl, rfl⟩)) (cwV 1 hts (tb_gV tw_3_21 tw_3_22 tw_3_23 tw_1_1 tw_3_24) rfl rfl rfl (by decide +kernel) ⟨Nat.le_of_ble_eq_true rfl, Nat.le_of_ble_eq_true rfl⟩) (cpre_V (ci := 7) (q0 := 0) hK hPc hDc rfl rfl) rfl rfl hl.1 rfl (lv_room (Nat.le_of_ble_eq_true rfl)) dL_law_477 ⟨by show _ ≤ 601024; omega, by show _ ≤ 7293034; omega⟩) hS (fun q _ h => hFc q h) hFc (fun r9 u9 t9 H1 locs ht hvm hw hB hz1 hk1 hS => ?_)
  obtain ⟨hw1, hw2⟩ := hw
  have hw1 := Eq.symm hw1
  have hw2 := Eq.symm hw2
  subst hw1
  subst hw2
  obtain ⟨hP, hD⟩ := cjoin ht hP hD [0, 1, 2, 3, 4, 5, 6, 7, 8, 9, 10, 11, 12] [13, 14, 15, 16, 17, 18, 19, 20] rfl rfl (by decide) (by decide) hk1 hFc hB
  have hP := hP.sub (ws' := w_Law h cI cJ (k', u, f)) [8, 9, 10, 11, 12, 13, 14, 15, 16, 17, 18, 19, 20, 0, 1, 2, 3, 4, 5, 6, 7] rfl
  have hD := hD.sub (ws' := w_Law h cI cJ (k', u, f)) [8, 9, 10, 11, 12, 13, 14, 15, 16, 17, 18, 19, 20, 0, 1, 2, 3, 4, 5, 6, 7] (by decide) rfl
  refine lv_aload_n hx hb dL_law_480 rfl (lv_at hl 2 rfl) ?_
  refine lv_aload_n hx hb dL_law_481 rfl (lv_at hl 0 rfl) ?_
  refine lv_iload hx hb dL_law_482 (lv_at hl 4 rfl) ?_
  refine lv_iconst (v := 1) hx hb dL_law_484 (by decide) ?_
  refine lv_iadd hx hb dL_law_485 ?_
  refine va_sld hx hb hX hbl hbA hS hv1 dL_law_486 ?_
  have hPc := hP.sub (ws' := w_Model h cI cJ u) [13, 14, 15, 16, 17, 18, 19] rfl
  have hDc := hD.sub (ws' := w_Model h cI cJ u) [13, 14, 15, 16, 17, 18, 19] (by decide) rfl
  have hFc := va_free (wc := w_Model h cI cJ u) hD hS hA [13, 14, 15, 16, 17, 18, 19] rfl
  refine va_calli (va_runV (As := [.int (xs (x4 + 1).toNatClampNeg)]) (rest := [.int r0]) ⟨hx, hb, hml, hown, hts⟩ (c_X9_setBreak l dC dI cI cJ h _ (c2 (fun r2 u2 => r2 = r0 ∧ u2 = u') ⟨rfl, rfl⟩)) (cwV 1 hts (tb_gV tw_5_73 tw_5_74 tw_5_75 tw_1_9 tw_5_76) rfl rfl rfl (by decide +kernel) ⟨Nat.le_of_ble_eq_true rfl, Nat.le_of_ble_eq_true rfl⟩) (cpre_V (ci := 8) (q0 := 0) hK hPc hDc rfl rfl) rfl rfl hl.1 rfl (lv_room (Nat.le_of_ble_eq_true rfl)) dL_law_487 ⟨by show _ ≤ 601024; omega, by show _ ≤ 7293034; omega⟩) hS (fun q _ h => hFc q h) hFc (fun r9 u9 t9 H1 locs ht hvm hw hB hz1 hk1 hS => ?_)
  obtain ⟨hw1, hw2⟩ := hw
  have hw1 := Eq.symm hw1
  have hw2 := Eq.symm hw2
  subst hw1
  subst hw2
  obtain ⟨hP, hD⟩ := cjoin ht hP hD [13, 14, 15, 16, 17, 18, 19] [0, 1, 2, 3, 4, 5, 6, 7, 8, 9, 10, 11, 12, 20] rfl rfl (by decide) (by decide) hk1 hFc hB
  have hP := hP.sub (ws' := w_Law h cI cJ (k', u', f)) [0, 1, 2, 3, 4, 5, 6, 7, 8, 9, 10, 11, 12, 14, 15, 16, 17, 18, 19, 20, 13] rfl
  have hD := hD.sub (ws' := w_Law h cI cJ (k', u', f)) [0, 1, 2, 3, 4, 5, 6, 7, 8, 9, 10, 11, 12, 14, 15, 16, 17, 18, 19, 20, 13] (by decide) rfl
  refine lv_icmp_eq (tgt := 571) hx hb dL_law_490 (by decide) (fun c9 => ?_) (fun c9 => absurd rfl c9)
  refine W.widen (k := 21 + (j + 1)) (n := 92976 + 6 * (j + 1)) (by omega) (by omega) ?_
  exact kont k' u' f _ _ _ _ (hR'.mono (by omega)) hP hD hS (lv_sub hl [0, 1, 2, 3, 4] rfl)
set_option maxHeartbeats 4000000 in
set_option maxRecDepth 100000 in
theorem law_clearBreak {p : Program} {e : Env} {s : State} {m : MethodId} {below : List Frame} {meth : Method} {c : Code} {l : Launch} (hl9 : l.stackTraces = false) {b L : Nat} {xs : Nat → Int32} (hL : L ≤ 2560) (C0 : lw_At p s m meth c b L xs) {dC : Nat → ClassId} {dI : Nat → Nat → Nat} {cI cJ : ClassId} {h tt zs : Nat → Nat} (hK : va_K (dC, dI) vwCl [(cI, .int), (cJ, .long)] s) (hT : cstat tt (fun q : Nat => s.heap.size ≤ q) s s.heap) (hZ : zxx zs (fun q : Nat => s.heap.size ≤ q) s s.heap) {j : Nat} {x4 : Int32} (hj : 5 * j + 5 ≤ L) (ex4 : x4 = nI (5 * j)) (kont : Kont p l e s m below meth c b dC dI cI cJ h x4 j) {k : S_BM} {u : S_Model} {f : Nat → Int64} {tq : Int32} (hR : RM tq (600000 * j) k u) {H : Heap} {locs : List Loc} (hP : va_P (dC, dI) vwCl (w_Law h cI cJ (k, u, f)) H) (hD : va_D (fun q : Nat => s.heap.size ≤ q) (w_Law h cI cJ (k, u, f))) (hS : va_S (fun q : Nat => s.heap.size ≤ q) s.heap H locs) {ls : Array Slot} (hl : lv_has ls 7 [(0, .ref b), (1, .ref (h 0)), (2, .ref (h 13)), (3, .ref (h 20)), (4, .int x4)]) : W p l e room_1 s m #[Value.ref b] below meth c H locs (21 + j) (92976 + 6 * j) (lw_Z below #[Value.ref b] s) (F0 m 495 ls []) := by
  obtain ⟨hx, hb, hr, hml, hown, hts0, hX, hbl, hlocks, hgv⟩ := id C0
  have hts := law_hts hts0
  have hown : s.vm.findClass RL = some m.cls := hown
  have hA : ∀ q : Nat, s.heap.size ≤ q → (fun q : Nat => s.heap.size ≤ q) q := fun _ h => h
  have hbA : ¬ (fun q : Nat => s.heap.size ≤ q) b := Nat.not_le.mpr hbl
  obtain ⟨hv1, hv2, hv3, hv4⟩ := law_ix hL hj ex4
  have hj9 : j ≤ 511 := by omega
  obtain ⟨r0, k', u', hr0, c1, c2, hR'⟩ := call_clearBreak hR (xs (x4 + 1).toNatClampNeg)
  refine lv_aload_n hx hb dL_law_495 rfl (lv_at hl 1 rfl) ?_
  refine lv_aload_n hx hb dL_law_496 rfl (lv_at hl 0 rfl) ?_
  refine lv_iload hx hb dL_law_497 (lv_at hl 4 rfl) ?_
  refine lv_iconst (v := 1) hx hb dL_law_499 (by decide) ?_
  refine lv_iadd hx hb dL_law_500 ?_
  refine va_sld hx hb hX hbl hbA hS hv1 dL_law_501 ?_
  have hPc := hP.sub (ws' := w_BM h cI cJ k) [0, 1, 2, 3, 4, 5, 6, 7, 8, 9, 10, 11, 12] rfl
  have hDc := hD.sub (ws' := w_BM h cI cJ k) [0, 1, 2, 3, 4, 5, 6, 7, 8, 9, 10, 11, 12] (by decide) rfl
  have hFc := va_free (wc := w_BM h cI cJ k) hD hS hA [0, 1, 2, 3, 4, 5, 6, 7, 8, 9, 10, 11, 12] rfl
  refine va_calli (va_runV (As := [.int (xs (x4 + 1).toNatClampNeg)]) (rest := []) ⟨hx, hb, hml, hown, hts⟩ (c_X8_clearBreak l dC dI cI cJ h _ (c1 (fun r2 k2 => r2 = r0 ∧ k2 = k') ⟨rfl, rfl⟩)) (cwV 1 hts (tb_gV tw_3_41 tw_3_42 tw_3_43 tw_1_1 tw_3_44) rfl rfl rfl (by decide +kernel) ⟨Nat.le_of_ble_eq_true rfl, Nat.le_of_ble_eq_true rfl⟩) (cpre_V (ci := 7) (q0 := 0) hK hPc hDc rfl rfl) rfl rfl hl.1 rfl (lv_room (Nat.le_of_ble_eq_true rfl)) dL_law_502 ⟨by show _ ≤ 601024; omega, by show _ ≤ 7293034; omega⟩) hS (fun q _ h => hFc q h) hFc (fun r9 u9 t9 H1 locs ht hvm hw hB hz1 hk1 hS => ?_)
  obtain ⟨hw1, hw2⟩ := hw
  have hw1 := Eq.symm hw1
  have hw2 := Eq.symm hw2
  subst hw1
  subst hw2
  obtain ⟨hP, hD⟩ := cjoin ht hP hD [0, 1, 2, 3, 4, 5, 6, 7, 8, 9, 10, 11, 12] [13, 14, 15, 16, 17, 18, 19, 20] rfl rfl (by decide) (by decide) hk1 hFc hB
  have hP := hP.sub (ws' := w_Law h cI cJ (k', u, f)) [8, 9, 10, 11, 12, 13, 14, 15, 16, 17, 18, 19, 20, 0, 1, 2, 3, 4, 5, 6, 7] rfl
  have hD := hD.sub (ws' := w_Law h cI cJ (k', u, f)) [8, 9, 10, 11, 12, 13, 14, 15, 16, 17, 18, 19, 20, 0, 1, 2, 3, 4, 5, 6, 7] (by decide) rfl
  refine lv_aload_n hx hb dL_law_505 rfl (lv_at hl 2 rfl) ?_
  refine lv_aload_n hx hb dL_law_506 rfl (lv_at hl 0 rfl) ?_
  refine lv_iload hx hb dL_law_507 (lv_at hl 4 rfl) ?_
  refine lv_iconst (v := 1) hx hb dL_law_509 (by decide) ?_
  refine lv_iadd hx hb dL_law_510 ?_
  refine va_sld hx hb hX hbl hbA hS hv1 dL_law_511 ?_
  have hPc := hP.sub (ws' := w_Model h cI cJ u) [13, 14, 15, 16, 17, 18, 19] rfl
  have hDc := hD.sub (ws' := w_Model h cI cJ u) [13, 14, 15, 16, 17, 18, 19] (by decide) rfl
  have hFc := va_free (wc := w_Model h cI cJ u) hD hS hA [13, 14, 15, 16, 17, 18, 19] rfl
  refine va_calli (va_runV (As := [.int (xs (x4 + 1).toNatClampNeg)]) (rest := [.int r0]) ⟨hx, hb, hml, hown, hts⟩ (c_X9_clearBreak l dC dI cI cJ h _ (c2 (fun r2 u2 => r2 = r0 ∧ u2 = u') ⟨rfl, rfl⟩)) (cwV 1 hts (tb_gV tw_5_77 tw_5_78 tw_5_79 tw_1_9 tw_5_80) rfl rfl rfl (by decide +kernel) ⟨Nat.le_of_ble_eq_true rfl, Nat.le_of_ble_eq_true rfl⟩) (cpre_V (ci := 8) (q0 := 0) hK hPc hDc rfl rfl) rfl rfl hl.1 rfl (lv_room (Nat.le_of_ble_eq_true rfl)) dL_law_512 ⟨by show _ ≤ 601024; omega, by show _ ≤ 7293034; omega⟩) hS (fun q _ h => hFc q h) hFc (fun r9 u9 t9 H1 locs ht hvm hw hB hz1 hk1 hS => ?_)
  obtain ⟨hw1, hw2⟩ := hw
  have hw1 := Eq.symm hw1
  have hw2 := Eq.symm hw2
  subst hw1
  subst hw2
  obtain ⟨hP, hD⟩ := cjoin ht hP hD [13, 14, 15, 16, 17, 18, 19] [0, 1, 2, 3, 4, 5, 6, 7, 8, 9, 10, 11, 12, 20] rfl rfl (by decide) (by decide) hk1 hFc hB
  have hP := hP.sub (ws' := w_Law h cI cJ (k', u', f)) [0, 1, 2, 3, 4, 5, 6, 7, 8, 9, 10, 11, 12, 14, 15, 16, 17, 18, 19, 20, 13] rfl
  have hD := hD.sub (ws' := w_Law h cI cJ (k', u', f)) [0, 1, 2, 3, 4, 5, 6, 7, 8, 9, 10, 11, 12, 14, 15, 16, 17, 18, 19, 20, 13] (by decide) rfl
  refine lv_icmp_eq (tgt := 571) hx hb dL_law_515 (by decide) (fun c9 => ?_) (fun c9 => absurd rfl c9)
  refine W.widen (k := 21 + (j + 1)) (n := 92976 + 6 * (j + 1)) (by omega) (by omega) ?_
  exact kont k' u' f _ _ _ _ (hR'.mono (by omega)) hP hD hS (lv_sub hl [0, 1, 2, 3, 4] rfl)
set_option maxHeartbeats 4000000 in
set_option maxRecDepth 100000 in
theorem law_trace {p : Program} {e : Env} {s : State} {m : MethodId} {below : List Frame} {meth : Method} {c : Code} {l : Launch} (hl9 : l.stackTraces = false) {b L : Nat} {xs : Nat → Int32} (hL : L ≤ 2560) (C0 : lw_At p s m meth c b L xs) {dC : Nat → ClassId} {dI : Nat → Nat → Nat} {cI cJ : ClassId} {h tt zs : Nat → Nat} (hK : va_K (dC, dI) vwCl [(cI, .int), (cJ, .long)] s) (hT : cstat tt (fun q : Nat => s.heap.size ≤ q) s s.heap) (hZ : zxx zs (fun q : Nat => s.heap.size ≤ q) s s.heap) {j : Nat} {x4 : Int32} (hj : 5 * j + 5 ≤ L) (ex4 : x4 = nI (5 * j)) (kont : Kont p l e s m below meth c b dC dI cI cJ h x4 j) {k : S_BM} {u : S_Model} {f : Nat → Int64} {tq : Int32} (hR : RM tq (600000 * j) k u) {H : Heap} {locs : List Loc} (hP : va_P (dC, dI) vwCl (w_Law h cI cJ (k, u, f)) H) (hD : va_D (fun q : Nat => s.heap.size ≤ q) (w_Law h cI cJ (k, u, f))) (hS : va_S (fun q : Nat => s.heap.size ≤ q) s.heap H locs) {ls : Array Slot} (hl : lv_has ls 7 [(0, .ref b), (1, .ref (h 0)), (2, .ref (h 13)), (3, .ref (h 20)), (4, .int x4)]) : W p l e room_1 s m #[Value.ref b] below meth c H locs (21 + j) (92976 + 6 * j) (lw_Z below #[Value.ref b] s) (F0 m 520 ls []) := by
  obtain ⟨hx, hb, hr, hml, hown, hts0, hX, hbl, hlocks, hgv⟩ := id C0
  have hts := law_hts hts0
  have hown : s.vm.findClass RL = some m.cls := hown
  have hA : ∀ q : Nat, s.heap.size ≤ q → (fun q : Nat => s.heap.size ≤ q) q := fun _ h => h
  have hbA : ¬ (fun q : Nat => s.heap.size ≤ q) b := Nat.not_le.mpr hbl
  obtain ⟨hv1, hv2, hv3, hv4⟩ := law_ix hL hj ex4
  have hj9 : j ≤ 511 := by omega
  obtain ⟨r0, u', c1, c2, hR'⟩ := call_trace (by omega) hR (xs (x4 + 1).toNatClampNeg)
  refine lv_aload_n hx hb dL_law_520 rfl (lv_at hl 1 rfl) ?_
  refine lv_aload_n hx hb dL_law_521 rfl (lv_at hl 0 rfl) ?_
  refine lv_iload hx hb dL_law_522 (lv_at hl 4 rfl) ?_
  refine lv_iconst (v := 1) hx hb dL_law_524 (by decide) ?_
  refine lv_iadd hx hb dL_law_525 ?_
  refine va_sld hx hb hX hbl hbA hS hv1 dL_law_526 ?_
  have hPc := hP.sub (ws' := w_BM h cI cJ k) [0, 1, 2, 3, 4, 5, 6, 7, 8, 9, 10, 11, 12] rfl
  have hDc := hD.sub (ws' := w_BM h cI cJ k) [0, 1, 2, 3, 4, 5, 6, 7, 8, 9, 10, 11, 12] (by decide) rfl
  have hFc := va_free (wc := w_BM h cI cJ k) hD hS hA [0, 1, 2, 3, 4, 5, 6, 7, 8, 9, 10, 11, 12] rfl
  refine va_calli (va_runV (As := [.int (xs (x4 + 1).toNatClampNeg)]) (rest := []) ⟨hx, hb, hml, hown, hts⟩ (c_X8_trace l dC dI cI cJ h _ (c1 (fun r2 => r2 = r0) rfl)) (cwV 1 hts (tb_gV tw_3_49 tw_3_50 tw_3_51 tw_1_1 tw_3_52) rfl rfl rfl (by decide +kernel) ⟨Nat.le_of_ble_eq_true rfl, Nat.le_of_ble_eq_true rfl⟩) (cpre_V (ci := 7) (q0 := 0) hK hPc hDc rfl rfl) rfl rfl hl.1 rfl (lv_room (Nat.le_of_ble_eq_true rfl)) dL_law_527 ⟨by show _ ≤ 601024; omega, by show _ ≤ 7293034; omega⟩) hS (fun q _ h => hFc q h) hFc (fun r9 u9 t9 H1 locs ht hvm hw hB hz1 hk1 hS => ?_)
  have hw : r0 = r9 := Eq.symm hw
  subst hw
  obtain ⟨hP, hD⟩ := cjoin ht hP hD [0, 1, 2, 3, 4, 5, 6, 7, 8, 9, 10, 11, 12] [13, 14, 15, 16, 17, 18, 19, 20] rfl rfl (by decide) (by decide) hk1 hFc hB
  have hP := hP.sub (ws' := w_Law h cI cJ (k, u, f)) [8, 9, 10, 11, 12, 13, 14, 15, 16, 17, 18, 19, 20, 0, 1, 2, 3, 4, 5, 6, 7] rfl
  have hD := hD.sub (ws' := w_Law h cI cJ (k, u, f)) [8, 9, 10, 11, 12, 13, 14, 15, 16, 17, 18, 19, 20, 0, 1, 2, 3, 4, 5, 6, 7] (by decide) rfl
  refine lv_aload_n hx hb dL_law_530 rfl (lv_at hl 2 rfl) ?_
  refine lv_aload_n hx hb dL_law_531 rfl (lv_at hl 0 rfl) ?_
  refine lv_iload hx hb dL_law_532 (lv_at hl 4 rfl) ?_
  refine lv_iconst (v := 1) hx hb dL_law_534 (by decide) ?_
  refine lv_iadd hx hb dL_law_535 ?_
  refine va_sld hx hb hX hbl hbA hS hv1 dL_law_536 ?_
  have hPc := hP.sub (ws' := w_Model h cI cJ u) [13, 14, 15, 16, 17, 18, 19] rfl
  have hDc := hD.sub (ws' := w_Model h cI cJ u) [13, 14, 15, 16, 17, 18, 19] (by decide) rfl
  have hFc := va_free (wc := w_Model h cI cJ u) hD hS hA [13, 14, 15, 16, 17, 18, 19] rfl
  refine va_calli (va_runV (As := [.int (xs (x4 + 1).toNatClampNeg)]) (rest := [.int r0]) ⟨hx, hb, hml, hown, hts⟩ (c_X9_trace l dC dI cI cJ h _ (c2 (fun r2 u2 => r2 = r0 ∧ u2 = u') ⟨rfl, rfl⟩)) (cwV 1 hts (tb_gV tw_5_81 tw_5_82 tw_5_83 tw_1_9 tw_5_84) rfl rfl rfl (by decide +kernel) ⟨Nat.le_of_ble_eq_true rfl, Nat.le_of_ble_eq_true rfl⟩) (cpre_V (ci := 8) (q0 := 0) hK hPc hDc rfl rfl) rfl rfl hl.1 rfl (lv_room (Nat.le_of_ble_eq_true rfl)) dL_law_537 ⟨by show _ ≤ 601024; omega, by show _ ≤ 7293034; omega⟩) hS (fun q _ h => hFc q h) hFc (fun r9 u9 t9 H1 locs ht hvm hw hB hz1 hk1 hS => ?_)
  obtain ⟨hw1, hw2⟩ := hw
  have hw1 := Eq.symm hw1
  have hw2 := Eq.symm hw2
  subst hw1
  subst hw2
  obtain ⟨hP, hD⟩ := cjoin ht hP hD [13, 14, 15, 16, 17, 18, 19] [0, 1, 2, 3, 4, 5, 6, 7, 8, 9, 10, 11, 12, 20] rfl rfl (by decide) (by decide) hk1 hFc hB
  have hP := hP.sub (ws' := w_Law h cI cJ (k, u', f)) [0, 1, 2, 3, 4, 5, 6, 7, 8, 9, 10, 11, 12, 14, 15, 16, 17, 18, 19, 20, 13] rfl
  have hD := hD.sub (ws' := w_Law h cI cJ (k, u', f)) [0, 1, 2, 3, 4, 5, 6, 7, 8, 9, 10, 11, 12, 14, 15, 16, 17, 18, 19, 20, 13] (by decide) rfl
  refine lv_icmp_eq (tgt := 571) hx hb dL_law_540 (by decide) (fun c9 => ?_) (fun c9 => absurd rfl c9)
  refine W.widen (k := 21 + (j + 1)) (n := 92976 + 6 * (j + 1)) (by omega) (by omega) ?_
  exact kont k u' f _ _ _ _ (hR'.mono (by omega)) hP hD hS (lv_sub hl [0, 1, 2, 3, 4] rfl)
set_option maxHeartbeats 4000000 in
set_option maxRecDepth 100000 in
theorem law_count {p : Program} {e : Env} {s : State} {m : MethodId} {below : List Frame} {meth : Method} {c : Code} {l : Launch} (hl9 : l.stackTraces = false) {b L : Nat} {xs : Nat → Int32} (hL : L ≤ 2560) (C0 : lw_At p s m meth c b L xs) {dC : Nat → ClassId} {dI : Nat → Nat → Nat} {cI cJ : ClassId} {h tt zs : Nat → Nat} (hK : va_K (dC, dI) vwCl [(cI, .int), (cJ, .long)] s) (hT : cstat tt (fun q : Nat => s.heap.size ≤ q) s s.heap) (hZ : zxx zs (fun q : Nat => s.heap.size ≤ q) s s.heap) {j : Nat} {x4 : Int32} (hj : 5 * j + 5 ≤ L) (ex4 : x4 = nI (5 * j)) (kont : Kont p l e s m below meth c b dC dI cI cJ h x4 j) {k : S_BM} {u : S_Model} {f : Nat → Int64} {tq : Int32} (hR : RM tq (600000 * j) k u) {H : Heap} {locs : List Loc} (hP : va_P (dC, dI) vwCl (w_Law h cI cJ (k, u, f)) H) (hD : va_D (fun q : Nat => s.heap.size ≤ q) (w_Law h cI cJ (k, u, f))) (hS : va_S (fun q : Nat => s.heap.size ≤ q) s.heap H locs) {ls : Array Slot} (hl : lv_has ls 7 [(0, .ref b), (1, .ref (h 0)), (2, .ref (h 13)), (3, .ref (h 20)), (4, .int x4)]) : W p l e room_1 s m #[Value.ref b] below meth c H locs (21 + j) (92976 + 6 * j) (lw_Z below #[Value.ref b] s) (F0 m 545 ls []) := by
  obtain ⟨hx, hb, hr, hml, hown, hts0, hX, hbl, hlocks, hgv⟩ := id C0
  have hts := law_hts hts0
  have hown : s.vm.findClass RL = some m.cls := hown
  have hA : ∀ q : Nat, s.heap.size ≤ q → (fun q : Nat => s.heap.size ≤ q) q := fun _ h => h
  have hbA : ¬ (fun q : Nat => s.heap.size ≤ q) b := Nat.not_le.mpr hbl
  obtain ⟨hv1, hv2, hv3, hv4⟩ := law_ix hL hj ex4
  have hj9 : j ≤ 511 := by omega
  obtain ⟨r0, u', c1, c2, hR'⟩ := call_count (by omega) hR (xs (x4 + 1).toNatClampNeg)
  refine lv_aload_n hx hb dL_law_545 rfl (lv_at hl 1 rfl) ?_
  refine lv_aload_n hx hb dL_law_546 rfl (lv_at hl 0 rfl) ?_
  refine lv_iload hx hb dL_law_547 (lv_at hl 4 rfl) ?_
  refine lv_iconst (v := 1) hx hb dL_law_549 (by decide) ?_
  refine lv_iadd hx hb dL_law_550 ?_
  refine va_sld hx hb hX hbl hbA hS hv1 dL_law_551 ?_
  have hPc := hP.sub (ws' := w_BM h cI cJ k) [0, 1, 2, 3, 4, 5, 6, 7, 8, 9, 10, 11, 12] rfl
  have hDc := hD.sub (ws' := w_BM h cI cJ k) [0, 1, 2, 3, 4, 5, 6, 7, 8, 9, 10, 11, 12] (by decide) rfl
  have hFc := va_free (wc := w_BM h cI cJ k) hD hS hA [0, 1, 2, 3, 4, 5, 6, 7, 8, 9, 10, 11, 12] rfl
  refine va_calll (va_runV (As := [.int (xs (x4 + 1).toNatClampNeg)]) (rest := []) ⟨hx, hb, hml, hown, hts⟩ (c_X8_count l dC dI cI cJ h _ (c1 (fun r2 => r2 = r0) rfl)) (cwV 1 hts (tb_gV tw_3_60 tw_3_61 tw_3_62 tw_1_1 tw_3_63) rfl rfl rfl (by decide +kernel) ⟨Nat.le_of_ble_eq_true rfl, Nat.le_of_ble_eq_true rfl⟩) (cpre_V (ci := 7) (q0 := 0) hK hPc hDc rfl rfl) rfl rfl hl.1 rfl (lv_room (Nat.le_of_ble_eq_true rfl)) dL_law_552 ⟨by show _ ≤ 601024; omega, by show _ ≤ 7293034; omega⟩) hS (fun q _ h => hFc q h) hFc (fun r9 u9 t9 H1 locs ht hvm hw hB hz1 hk1 hS => ?_)
  have hw : r0 = r9 := Eq.symm hw
  subst hw
  obtain ⟨hP, hD⟩ := cjoin ht hP hD [0, 1, 2, 3, 4, 5, 6, 7, 8, 9, 10, 11, 12] [13, 14, 15, 16, 17, 18, 19, 20] rfl rfl (by decide) (by decide) hk1 hFc hB
  have hP := hP.sub (ws' := w_Law h cI cJ (k, u, f)) [8, 9, 10, 11, 12, 13, 14, 15, 16, 17, 18, 19, 20, 0, 1, 2, 3, 4, 5, 6, 7] rfl
  have hD := hD.sub (ws' := w_Law h cI cJ (k, u, f)) [8, 9, 10, 11, 12, 13, 14, 15, 16, 17, 18, 19, 20, 0, 1, 2, 3, 4, 5, 6, 7] (by decide) rfl
  refine lv_aload_n hx hb dL_law_555 rfl (lv_at hl 2 rfl) ?_
  refine lv_aload_n hx hb dL_law_556 rfl (lv_at hl 0 rfl) ?_
  refine lv_iload hx hb dL_law_557 (lv_at hl 4 rfl) ?_
  refine lv_iconst (v := 1) hx hb dL_law_559 (by decide) ?_
  refine lv_iadd hx hb dL_law_560 ?_
  refine va_sld hx hb hX hbl hbA hS hv1 dL_law_561 ?_
  have hPc := hP.sub (ws' := w_Model h cI cJ u) [13, 14, 15, 16, 17, 18, 19] rfl
  have hDc := hD.sub (ws' := w_Model h cI cJ u) [13, 14, 15, 16, 17, 18, 19] (by decide) rfl
  have hFc := va_free (wc := w_Model h cI cJ u) hD hS hA [13, 14, 15, 16, 17, 18, 19] rfl
  refine va_calll (va_runV (As := [.int (xs (x4 + 1).toNatClampNeg)]) (rest := [.long r0]) ⟨hx, hb, hml, hown, hts⟩ (c_X9_count l dC dI cI cJ h _ (c2 (fun r2 u2 => r2 = r0 ∧ u2 = u') ⟨rfl, rfl⟩)) (cwV 1 hts (tb_gV tw_5_85 tw_5_86 tw_5_87 tw_1_9 tw_5_88) rfl rfl rfl (by decide +kernel) ⟨Nat.le_of_ble_eq_true rfl, Nat.le_of_ble_eq_true rfl⟩) (cpre_V (ci := 8) (q0 := 0) hK hPc hDc rfl rfl) rfl rfl hl.1 rfl (lv_room (Nat.le_of_ble_eq_true rfl)) dL_law_562 ⟨by show _ ≤ 601024; omega, by show _ ≤ 7293034; omega⟩) hS (fun q _ h => hFc q h) hFc (fun r9 u9 t9 H1 locs ht hvm hw hB hz1 hk1 hS => ?_)
  obtain ⟨hw1, hw2⟩ := hw
  have hw1 := Eq.symm hw1
  have hw2 := Eq.symm hw2
  subst hw1
  subst hw2
  obtain ⟨hP, hD⟩ := cjoin ht hP hD [13, 14, 15, 16, 17, 18, 19] [0, 1, 2, 3, 4, 5, 6, 7, 8, 9, 10, 11, 12, 20] rfl rfl (by decide) (by decide) hk1 hFc hB
  have hP := hP.sub (ws' := w_Law h cI cJ (k, u', f)) [0, 1, 2, 3, 4, 5, 6, 7, 8, 9, 10, 11, 12, 14, 15, 16, 17, 18, 19, 20, 13] rfl
  have hD := hD.sub (ws' := w_Law h cI cJ (k, u', f)) [0, 1, 2, 3, 4, 5, 6, 7, 8, 9, 10, 11, 12, 14, 15, 16, 17, 18, 19, 20, 13] (by decide) rfl
  refine W.lcmp hx hb dL_law_565 ?_
  refine lv_if_eq (tgt := 571) hx hb dL_law_566 (by decide) (fun c9 => ?_) (fun c9 => absurd (lg_same rfl) c9)
  refine W.widen (k := 21 + (j + 1)) (n := 92976 + 6 * (j + 1)) (by omega) (by omega) ?_
  exact kont k u' f _ _ _ _ (hR'.mono (by omega)) hP hD hS (lv_sub hl [0, 1, 2, 3, 4] rfl)
