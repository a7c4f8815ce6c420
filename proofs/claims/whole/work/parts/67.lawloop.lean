set_option maxHeartbeats 4000000 in
set_option maxRecDepth 100000 in
theorem law_pass {p : Program} {e : Env} {s : State} {m : MethodId} {below : List Frame} {meth : Method} {c : Code} {l : Launch} (hl9 : l.stackTraces = false) {b L : Nat} {xs : Nat → Int32} (hL : L ≤ 2560) (C0 : lw_At p s m meth c b L xs) {dC : Nat → ClassId} {dI : Nat → Nat → Nat} {cI cJ : ClassId} {h tt zs : Nat → Nat} (hK : va_K (dC, dI) vwCl [(cI, .int), (cJ, .long)] s) (hT : cstat tt (fun q : Nat => s.heap.size ≤ q) s s.heap) (hZ : zxx zs (fun q : Nat => s.heap.size ≤ q) s s.heap) {j : Nat} {x4 : Int32} (hj : 5 * j ≤ L) (ex4 : x4 = nI (5 * j)) (kk : 5 * j + 5 ≤ L → Kont p l e s m below meth c b dC dI cI cJ h x4 j) {k : S_BM} {u : S_Model} {f : Nat → Int64} {tq : Int32} (hR : RM tq (600000 * j) k u) {H : Heap} {locs : List Loc} (hP : va_P (dC, dI) vwCl (w_Law h cI cJ (k, u, f)) H) (hD : va_D (fun q : Nat => s.heap.size ≤ q) (w_Law h cI cJ (k, u, f))) (hS : va_S (fun q : Nat => s.heap.size ≤ q) s.heap H locs) {ls : Array Slot} (hl : lv_has ls 7 [(0, .ref b), (1, .ref (h 0)), (2, .ref (h 13)), (3, .ref (h 20)), (4, .int x4)]) : W p l e room_1 s m #[Value.ref b] below meth c H locs (21 + j) (92976 + 6 * j) (lw_Z below #[Value.ref b] s) (F0 m 23 ls []) := by
  obtain ⟨hx, hb, hr, hml, hown, hts0, hX, hbl, hlocks, hgv⟩ := id C0
  have hbA : ¬ (fun q : Nat => s.heap.size ≤ q) b := Nat.not_le.mpr hbl
  refine lv_iload hx hb dL_law_23 (lv_at hl 4 rfl) ?_
  refine lv_aload_n hx hb dL_law_25 rfl (lv_at hl 0 rfl) ?_
  refine va_slen hx hb hX hbl hbA hS dL_law_26 ?_
  refine lv_iconst (v := 5) hx hb dL_law_27 (by decide) ?_
  refine lv_isub hx hb dL_law_28 ?_
  refine lv_icmp_gt (tgt := 577) hx hb dL_law_29 (by decide) (fun c9 => ?_) (fun c9 => ?_)
  · refine lv_iconst (v := 1) hx hb dL_law_577 (by decide) ?_
    refine va_forget hS.2.2 ?_
    refine W.widen (k := 601024) (n := 7293034) (by omega) (by omega) ?_
    exact lw_ret hx hb hr hlocks dL_law_578
  · have hj5 : 5 * j + 5 ≤ L := by
      have h1 : (nI L - nI 5).toInt = (L : Int) - ((5 : Nat) : Int) := pk_sub_toInt (by omega) (by omega)
      have h2 : (nI (5 * j)).toInt = ((5 * j : Nat) : Int) := nI_toInt (by omega)
      have h3 : ¬ (nI L - nI 5 < nI (5 * j)) := by rw [← ex4]; exact c9
      rw [Int32.lt_iff_toInt_lt, h1, h2] at h3
      omega
    have kont := kk hj5
    refine lv_aload_n hx hb dL_law_32 rfl (lv_at hl 0 rfl) ?_
    refine lv_iload hx hb dL_law_33 (lv_at hl 4 rfl) ?_
    refine va_sld hx hb hX hbl hbA hS (by rw [ex4]; exact vp_in_nI (by omega) (by omega)) dL_law_35 ?_
    refine lv_bipush (v := 15) hx hb dL_law_36 (by decide) ?_
    refine lv_iand hx hb dL_law_38 ?_
    refine lv_topi (fun w ew => ?_)
    clear ew
    by_cases c0 : w = 0
    · refine lv_tableIn (tgt := 108) (off := 69) hx hb dL_law_39 (by rw [c0]; decide) (by rw [c0]; decide) (by rw [c0]; decide) (by decide) ?_
      exact law_load hl9 hL C0 hK hT hZ hj5 ex4 kont hR hP hD hS hl
    by_cases c1 : w = 1
    · refine lv_tableIn (tgt := 200) (off := 161) hx hb dL_law_39 (by rw [c1]; decide) (by rw [c1]; decide) (by rw [c1]; decide) (by decide) ?_
      exact law_reset hl9 hL C0 hK hT hZ hj5 ex4 kont hR hP hD hS hl
    by_cases c2 : w = 2
    · refine lv_tableIn (tgt := 211) (off := 172) hx hb dL_law_39 (by rw [c2]; decide) (by rw [c2]; decide) (by rw [c2]; decide) (by decide) ?_
      exact law_step hl9 hL C0 hK hT hZ hj5 ex4 kont hR hP hD hS hl
    by_cases c3 : w = 3
    · refine lv_tableIn (tgt := 224) (off := 185) hx hb dL_law_39 (by rw [c3]; decide) (by rw [c3]; decide) (by rw [c3]; decide) (by decide) ?_
      exact law_run hl9 hL C0 hK hT hZ hj5 ex4 kont hR hP hD hS hl
    by_cases c4 : w = 4
    · refine lv_tableIn (tgt := 280) (off := 241) hx hb dL_law_39 (by rw [c4]; decide) (by rw [c4]; decide) (by rw [c4]; decide) (by decide) ?_
      exact law_nmi hl9 hL C0 hK hT hZ hj5 ex4 kont hR hP hD hS hl
    by_cases c5 : w = 5
    · refine lv_tableIn (tgt := 291) (off := 252) hx hb dL_law_39 (by rw [c5]; decide) (by rw [c5]; decide) (by rw [c5]; decide) (by decide) ?_
      exact law_receive hl9 hL C0 hK hT hZ hj5 ex4 kont hR hP hD hS hl
    by_cases c6 : w = 6
    · refine lv_tableIn (tgt := 316) (off := 277) hx hb dL_law_39 (by rw [c6]; decide) (by rw [c6]; decide) (by rw [c6]; decide) (by decide) ?_
      exact law_sent hl9 hL C0 hK hT hZ hj5 ex4 kont hR hP hD hS hl
    by_cases c7 : w = 7
    · refine lv_tableIn (tgt := 341) (off := 302) hx hb dL_law_39 (by rw [c7]; decide) (by rw [c7]; decide) (by rw [c7]; decide) (by decide) ?_
      exact law_look hl9 hL C0 hK hT hZ hj5 ex4 kont hR hP hD hS hl
    by_cases c8 : w = 8
    · refine lv_tableIn (tgt := 397) (off := 358) hx hb dL_law_39 (by rw [c8]; decide) (by rw [c8]; decide) (by rw [c8]; decide) (by decide) ?_
      exact law_register hl9 hL C0 hK hT hZ hj5 ex4 kont hR hP hD hS hl
    by_cases c9 : w = 9
    · refine lv_tableIn (tgt := 422) (off := 383) hx hb dL_law_39 (by rw [c9]; decide) (by rw [c9]; decide) (by rw [c9]; decide) (by decide) ?_
      exact law_set hl9 hL C0 hK hT hZ hj5 ex4 kont hR hP hD hS hl
    by_cases c10 : w = 10
    · refine lv_tableIn (tgt := 470) (off := 431) hx hb dL_law_39 (by rw [c10]; decide) (by rw [c10]; decide) (by rw [c10]; decide) (by decide) ?_
      exact law_setBreak hl9 hL C0 hK hT hZ hj5 ex4 kont hR hP hD hS hl
    by_cases c11 : w = 11
    · refine lv_tableIn (tgt := 495) (off := 456) hx hb dL_law_39 (by rw [c11]; decide) (by rw [c11]; decide) (by rw [c11]; decide) (by decide) ?_
      exact law_clearBreak hl9 hL C0 hK hT hZ hj5 ex4 kont hR hP hD hS hl
    by_cases c12 : w = 12
    · refine lv_tableIn (tgt := 520) (off := 481) hx hb dL_law_39 (by rw [c12]; decide) (by rw [c12]; decide) (by rw [c12]; decide) (by decide) ?_
      exact law_trace hl9 hL C0 hK hT hZ hj5 ex4 kont hR hP hD hS hl
    by_cases c13 : w = 13
    · refine lv_tableIn (tgt := 545) (off := 506) hx hb dL_law_39 (by rw [c13]; decide) (by rw [c13]; decide) (by rw [c13]; decide) (by decide) ?_
      exact law_count hl9 hL C0 hK hT hZ hj5 ex4 kont hR hP hD hS hl
    have kz : ∀ k ∈ ([0, 1, 2, 3, 4, 5, 6, 7, 8, 9, 10, 11, 12, 13] : List Int), w.toInt ≠ k := List.forall_mem_cons.mpr ⟨tb_ne c0 rfl, List.forall_mem_cons.mpr ⟨tb_ne c1 rfl, List.forall_mem_cons.mpr ⟨tb_ne c2 rfl, List.forall_mem_cons.mpr ⟨tb_ne c3 rfl, List.forall_mem_cons.mpr ⟨tb_ne c4 rfl, List.forall_mem_cons.mpr ⟨tb_ne c5 rfl, List.forall_mem_cons.mpr ⟨tb_ne c6 rfl, List.forall_mem_cons.mpr ⟨tb_ne c7 rfl, List.forall_mem_cons.mpr ⟨tb_ne c8 rfl, List.forall_mem_cons.mpr ⟨tb_ne c9 rfl, List.forall_mem_cons.mpr ⟨tb_ne c10 rfl, List.forall_mem_cons.mpr ⟨tb_ne c11 rfl, List.forall_mem_cons.mpr ⟨tb_ne c12 rfl, List.forall_mem_cons.mpr ⟨tb_ne c13 rfl, fun k h => absurd h List.not_mem_nil⟩⟩⟩⟩⟩⟩⟩⟩⟩⟩⟩⟩⟩⟩
    refine tb_def (tgt := 571) (keys := [0, 1, 2, 3, 4, 5, 6, 7, 8, 9, 10, 11, 12, 13]) hx hb dL_law_39 kz (by decide) (by decide) ?_
    refine W.widen (k := 21 + (j + 1)) (n := 92976 + 6 * (j + 1)) (by omega) (by omega) ?_
    exact kont k u f tq _ _ _ (hR.mono (by omega)) hP hD hS hl
set_option maxHeartbeats 4000000 in
set_option maxRecDepth 100000 in
theorem law_loop {p : Program} {e : Env} {s : State} {m : MethodId} {below : List Frame} {meth : Method} {c : Code} {l : Launch} (hl9 : l.stackTraces = false) {b L : Nat} {xs : Nat → Int32} (hL : L ≤ 2560) (C0 : lw_At p s m meth c b L xs) {dC : Nat → ClassId} {dI : Nat → Nat → Nat} {cI cJ : ClassId} {h tt zs : Nat → Nat} (hK : va_K (dC, dI) vwCl [(cI, .int), (cJ, .long)] s) (hT : cstat tt (fun q : Nat => s.heap.size ≤ q) s s.heap) (hZ : zxx zs (fun q : Nat => s.heap.size ≤ q) s s.heap) : ∀ (n j : Nat) (x4 : Int32), j + n = 512 → 5 * j ≤ L → x4 = nI (5 * j) → ∀ (k : S_BM) (u : S_Model) (f : Nat → Int64) (tq : Int32) (H : Heap) (locs : List Loc) (ls : Array Slot), RM tq (600000 * j) k u → va_P (dC, dI) vwCl (w_Law h cI cJ (k, u, f)) H → va_D (fun q : Nat => s.heap.size ≤ q) (w_Law h cI cJ (k, u, f)) → va_S (fun q : Nat => s.heap.size ≤ q) s.heap H locs → lv_has ls 7 [(0, .ref b), (1, .ref (h 0)), (2, .ref (h 13)), (3, .ref (h 20)), (4, .int x4)] → W p l e room_1 s m #[Value.ref b] below meth c H locs (21 + j) (92976 + 6 * j) (lw_Z below #[Value.ref b] s) (F0 m 23 ls []) := by
  intro n
  induction n with
  | zero =>
    intro j x4 hn hj ex4 k u f tq H locs ls hR hP hD hS hl
    exact law_pass hl9 hL C0 hK hT hZ hj ex4 (fun h5 => absurd h5 (by omega)) hR hP hD hS hl
  | succ n ih =>
    intro j x4 hn hj ex4 k u f tq H locs ls hR hP hD hS hl
    refine law_pass hl9 hL C0 hK hT hZ hj ex4 (fun h5 => ?_) hR hP hD hS hl
    intro k u f tq H locs ls hR hP hD hS hl
    obtain ⟨hx, hb, -⟩ := id C0
    refine lv_iinc (v := nI (5 * (j + 1))) (lv' := [(4, .int (nI (5 * (j + 1)))), (0, .ref b), (1, .ref (h 0)), (2, .ref (h 13)), (3, .ref (h 20))]) hx hb dL_law_571 hl (k := 4) rfl (by rw [ex4, show 5 * (j + 1) = 5 * j + 5 by omega]; exact nI_add (5 * j) 5) (by decide) rfl (fun ls hl => ?_)
    refine lv_goto (tgt := 23) hx hb dL_law_574 (by decide) ?_
    exact ih (j + 1) _ (by omega) (by omega) rfl k u f tq _ _ _ hR hP hD hS (lv_sub hl [1, 2, 3, 4, 0] rfl)
