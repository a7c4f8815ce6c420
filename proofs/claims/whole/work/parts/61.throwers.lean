theorem tw_1_13 : Cond.initialized "java/lang/IllegalArgumentException" ∈ tbl := tbl_1 (i := 13) rfl rfl
theorem tw_3_73 : Cond.classLink RX8 32 "java/lang/IllegalArgumentException" ∈ tbl := tbl_3 (i := 73) rfl rfl
theorem tw_3_140 : Cond.methodLink RX8 42 yX0_place ∈ tbl := tbl_3 (i := 140) rfl rfl
theorem tw_3_141 : Cond.instanceMethod yX0_place ∈ tbl := tbl_3 (i := 141) rfl rfl
theorem tw_3_142 : Cond.selects RX0 yX0_place yX0_place ∈ tbl := tbl_3 (i := 142) rfl rfl
theorem tw_3_143 : Cond.code yX0_place cX0_place 3 none ∈ tbl := tbl_3 (i := 143) rfl rfl
theorem tw_3_151 : Cond.constant RX8 54 100000 ∈ tbl := tbl_3 (i := 151) rfl rfl
theorem tw_3_153 : Cond.methodLink RX8 65 yX1_has ∈ tbl := tbl_3 (i := 153) rfl rfl
theorem tw_3_162 : Cond.methodLink RX8 90 yX0_peek ∈ tbl := tbl_3 (i := 162) rfl rfl
theorem tw_3_163 : Cond.instanceMethod yX0_peek ∈ tbl := tbl_3 (i := 163) rfl rfl
theorem tw_3_164 : Cond.selects RX0 yX0_peek yX0_peek ∈ tbl := tbl_3 (i := 164) rfl rfl
theorem tw_3_165 : Cond.code yX0_peek cX0_peek 2 (some .int) ∈ tbl := tbl_3 (i := 165) rfl rfl
theorem tw_3_173 : Cond.constant RX8 108 65535 ∈ tbl := tbl_3 (i := 173) rfl rfl
/-! what a throw wants of the state -/
theorem at_in : ∀ w ∈ (vx_atS RX8 36 "java/lang/IllegalArgumentException" ["java/lang/RuntimeException", "java/lang/Exception"]).filter goodWord, w ∈ tbl := by decide +kernel
theorem at_bad : ∀ w ∈ (vx_atS RX8 36 "java/lang/IllegalArgumentException" ["java/lang/RuntimeException", "java/lang/Exception"]).filter (fun w => !goodWord w), w ∈ ([.castable "java/lang/IllegalArgumentException" "java/lang/IllegalArgumentException", .declares ⟨"java/lang/RuntimeException", "<init>", "(Ljava/lang/String;)V"⟩, .declares ⟨"java/lang/Exception", "<init>", "(Ljava/lang/String;)V"⟩, .declares ⟨"java/lang/Throwable", "<init>", "(Ljava/lang/String;)V"⟩] : List Cond) := by decide +kernel
theorem at_fit : Bundle.fit "java/lang/IllegalArgumentException" = true := by decide +kernel
theorem at_fits : ∀ n ∈ ["java/lang/RuntimeException", "java/lang/Exception"], Bundle.fit n = true := by decide +kernel
theorem at_good : ∀ w ∈ Cond.classLink RX8 32 "java/lang/IllegalArgumentException" :: Cond.initialized "java/lang/IllegalArgumentException" :: vx_atS RX8 36 "java/lang/IllegalArgumentException" ["java/lang/RuntimeException", "java/lang/Exception"], vx_ot w = true := by decide +kernel
def zxx (zs : Nat → Nat) (A : Nat → Prop) (U : State) (H : Heap) : Prop := vx_Zq Bundle.tN "UNASSIGNED_STACK" Bundle.steD A U H ∧ vx_Zq Bundle.tN "SUPPRESSED_SENTINEL" Bundle.listD A U H ∧ vk_R RX8 34 "n is not 1 .. 8" (zs 0) U ∧ vk_R RX8 40 "not all addresses are 0 .. 65535" (zs 1) U ∧ vk_R RX8 55 "n is not 0 .. 100000" (zs 2) U ∧ vk_R RX8 88 "the address is not 0 .. 65535" (zs 3) U ∧ vk_R RX8 109 "i is not 0 .. 5" (zs 4) U ∧ va_Nw (.castable "java/lang/IllegalArgumentException" "java/lang/IllegalArgumentException") U ∧ va_Nw (.declares ⟨"java/lang/RuntimeException", "<init>", "(Ljava/lang/String;)V"⟩) U ∧ va_Nw (.declares ⟨"java/lang/Exception", "<init>", "(Ljava/lang/String;)V"⟩) U ∧ va_Nw (.declares ⟨"java/lang/Throwable", "<init>", "(Ljava/lang/String;)V"⟩) U
theorem zxx.warm {zs : Nat → Nat} {A : Nat → Prop} {s U : State} {H : Heap} (hW : s.WarmedH U.vm) (h : zxx zs A s H) : zxx zs A U H := by
  obtain ⟨h1, h2, h3, h4, h5, h6, h7, h8, h9, h10, h11⟩ := h
  exact ⟨h1.moved hW.alike, h2.moved hW.alike, h3.warm hW, h4.warm hW, h5.warm hW, h6.warm hW, h7.warm hW, va_Nw.warmC hW h8, va_Nw.warmD hW h9, va_Nw.warmD hW h10, va_Nw.warmD hW h11⟩
theorem zxx.same {zs : Nat → Nat} {A : Nat → Prop} {s U : State} {H : Heap} (hv : U.vm = s.vm) (h : zxx zs A s H) : zxx zs A U H := by
  obtain ⟨h1, h2, h3, h4, h5, h6, h7, h8, h9, h10, h11⟩ := h
  exact ⟨h1.moved (by rw [hv]; exact Vm.Alike.refl _), h2.moved (by rw [hv]; exact Vm.Alike.refl _), h3.same hv, h4.same hv, h5.same hv, h6.same hv, h7.same hv, h8.same rfl hv.symm, h9.same rfl hv.symm, h10.same rfl hv.symm, h11.same rfl hv.symm⟩
theorem zxx.kept {zs : Nat → Nat} {A : Nat → Prop} {U : State} {H H1 : Heap} (h : zxx zs A U H) (hq : ∀ a : Nat, a < H.size → ¬ A a → H1[a]? = H[a]?) : zxx zs A U H1 := ⟨h.1.kept hq, h.2.1.kept hq, h.2.2⟩
theorem zxx.narrow {zs : Nat → Nat} {A B : Nat → Prop} {U : State} {H : Heap} (h : zxx zs A U H) (hAB : ∀ q, B q → A q) : zxx zs B U H := ⟨h.1.narrow hAB, h.2.1.narrow hAB, h.2.2⟩
abbrev cpreX (dC : Nat → ClassId) (dI : Nat → Nat → Nat) (cI cJ : ClassId) (tt zs : Nat → Nat) (w : va_W) (sz : Nat) (U : State) : Prop := cpreT dC dI cI cJ tt w sz U ∧ zxx zs (va_A w sz) U U.heap
theorem cpreX_blind {av : List Value} {dC : Nat → ClassId} {dI : Nat → Nat → Nat} {cI cJ : ClassId} {tt zs : Nat → Nat} {w : va_W} {sz : Nat} : FrameBlind (va_Pc av (cpreX dC dI cI cJ tt zs w sz)) := fun a U g mk q => by
  obtain ⟨q0, ⟨⟨q1, qP, qK, qD⟩, qT⟩, qZ⟩ := q
  exact ⟨q0, ⟨⟨q1, qP, va_K.moved (u := U) (U := U.calling g mk a) (Vm.Alike.refl U.vm) qK, qD⟩, cstat.moved (u := U) (U := U.calling g mk a) (Vm.Alike.refl U.vm) qT⟩, zxx.same (s := U) (U := U.calling g mk a) rfl qZ⟩
theorem cpre_VX {s : State} {H : Heap} {dC : Nat → ClassId} {dI : Nat → Nat → Nat} {cI cJ : ClassId} {tt zs : Nat → Nat} {w : va_W} {A : Nat → Prop} {ci q0 b : Nat} {q : vw_C} {fs As : List Value} {locs : List Loc} (hK : va_K (dC, dI) vwCl [(cI, .int), (cJ, .long)] s) (hP : va_P (dC, dI) vwCl w H) (hD : va_D A w) (hT : cstat tt A s s.heap) (hZ : zxx zs A s s.heap) (hS : va_S A s.heap H locs) (hF : ∀ q, va_A w H.size q → A q) (hc : vwCl[ci]? = some q) (he : w[q0]? = some (b, .inr (ci, fs))) : PreV s H q.1 b (va_Pc (.ref b :: As) (cpreX dC dI cI cJ tt zs w H.size)) As :=
  ⟨cpreX_blind, va_recv hK hP hc he, fun U hU hW => ⟨rfl, ⟨⟨by rw [hU], by rw [hU]; exact hP, va_K.moved hW.alike hK, hD.weaken (fun _ _ _ _ => trivial)⟩, by rw [hU]; exact ((hT.kept hS.2.1).narrow hF).moved hW.alike⟩, by rw [hU]; exact ((hZ.kept hS.2.1).narrow hF).warm hW⟩⟩
def wp_X8_load_49 : Nat → S_BM → Int32 → Int64 → Int32 → Int32 → (S_BM → Prop) → Prop
  | 0, _, _, _, _, _, _ => False
  | n + 1, σ, x1, x2, x4, x5, Φ => ((x4 ≤ x5 → (Φ σ)) ∧ (¬ x4 ≤ x5 → (∀ v2 : Int64, v2 = (x2.toUInt64 >>> (((8 : Int32) * ((x4 - (1 : Int32)) - x5)).toInt64.toUInt64 &&& Int64.toUInt64 63)).toInt64 → wp_X0_place σ.1.2.2.2 (x1 + x5) (v2.toInt32 &&& (255 : Int32)) (fun u3 => ∀ v4 : Int32, v4 = x5 + 1 → wp_X8_load_49 n ((σ.1.1, σ.1.2.1, σ.1.2.2.1, u3), σ.2) x1 x2 x4 v4 Φ))))
def wp_X8_load (σ : S_BM) (a1 : Int32) (a2 : Int64) (a3 : Int32) (Φ : S_BM → Prop) (Ψ : Prop) : Prop := ((a3 < (1 : Int32) → (Ψ)) ∧ (¬ a3 < (1 : Int32) → (((a3 ≤ (8 : Int32) → (((a1 < 0 → (Ψ)) ∧ (¬ a1 < 0 → (((a1 ≤ ((65536 : Int32) - a3) → ((∃ n, wp_X8_load_49 n σ a1 a2 a3 0 Φ))) ∧ (¬ a1 ≤ ((65536 : Int32) - a3) → (Ψ)))))))) ∧ (¬ a3 ≤ (8 : Int32) → (Ψ))))))
set_option maxHeartbeats 4000000 in
set_option maxRecDepth 100000 in
theorem c_X8_load (l : Launch) (hl9 : l.stackTraces = false) (dC : Nat → ClassId) (dI : Nat → Nat → Nat) (cI cJ : ClassId) (h : Nat → Nat) (tt zs : Nat → Nat) (sz : Nat) {σ : S_BM} {a1 : Int32} {a2 : Int64} {a3 : Int32} {Φ : S_BM → Prop} {Ψ : Prop} (hok : wp_X8_load σ a1 a2 a3 Φ Ψ) : vx_Met l yX8_load wsX8_load ({ frames := 6, cells := 1, slots := 6, locals := 82 }) (va_Pc [.ref (h 0), .int a1, .long a2, .int a3] (cpreX dC dI cI cJ tt zs (w_BM h cI cJ σ) sz)) (va_Qv Φ (fun u => cpost dC dI cI cJ (va_A (w_BM h cI cJ σ) sz) (w_BM h cI cJ u)) (va_A (w_BM h cI cJ σ) sz)) (vx_X (fun _ : Unit => Ψ) (fun E _ t => E = "java/lang/IllegalArgumentException" ∧ cpost dC dI cI cJ (va_A (w_BM h cI cJ σ) sz) (w_BM h cI cJ σ) t) (va_A (w_BM h cI cJ σ) sz)) 1 6 (va_A (w_BM h cI cJ σ) sz) := by
  refine vx_ofW (cc := cX8_load) (maxL := 6) (ret := none) (by decide) rfl ?_
  intro p e s m args below meth c s₁ B hml hte hv
  obtain ⟨rfl, ⟨⟨hsz, hP, hK, hD0⟩, hT⟩, hZ⟩ := hv
  have hx := B.exec
  have hb := B.bytes
  have hr := B.returns
  have hts := atoms_spec (ws := wsX8_load) B.pre
  have hown : s.vm.findClass RX8 = some m.cls := findClass_of_methodNamed B.named
  have hlocks := B.notSynchronized
  subst hsz
  have hD := hD0.self (sz := s.heap.size)
  generalize hAe : va_A (w_BM h cI cJ σ) s.heap.size = A at hD hT hZ ⊢
  have hA : ∀ q : Nat, s.heap.size ≤ q → A q := fun q h => by rw [← hAe]; exact Or.inr h
  clear hD0 hAe
  have hS : va_S A s.heap s.heap [] := va_S.rf
  have b49 : ∀ (n : Nat) (σ : S_BM) (x1 : Int32) (x2 : Int64) (x4 : Int32) (x5 : Int32), wp_X8_load_49 n σ x1 x2 x4 x5 Φ → ∀ (H : Heap) (locs : List Loc), va_P (dC, dI) vwCl (w_BM h cI cJ σ) H → va_D A (w_BM h cI cJ σ) → va_S A s.heap H locs → ∀ ls : Array Slot, lv_has ls 6 [(0, .ref (h 0)), (1, .int x1), (2, .long x2), (4, .int x4), (5, .int x5)] → W p l e (headSpec wsX8_load { frames := 6, cells := 1, slots := 6, locals := 82 }).room s m ([.ref (h 0), .int a1, .long a2, .int a3] : List Value).toArray below meth c H locs 0 0 (MQ below (va_Qv Φ (fun u => cpost dC dI cI cJ A (w_BM h cI cJ u)) A) ([.ref (h 0), .int a1, .long a2, .int a3] : List Value).toArray s 1 6 A) (F0 m 49 ls []) := by
    intro n
    induction n with
    | zero =>
      intro σ x1 x2 x4 x5 hok
      exact hok.elim
    | succ n ih =>
      intro σ x1 x2 x4 x5 hok H locs hP hD hS ls hl
      rw [wp_X8_load_49] at hok
      refine lv_iload hx hb dX8_load_49 (lv_at hl 4 rfl) ?_
      refine lv_iload hx hb dX8_load_51 (lv_at hl 3 rfl) ?_
      refine lv_icmp_ge (tgt := 90) hx hb dX8_load_53 (by decide) (fun c1 => ?_) (fun c1 => ?_)
      · have hok := hok.1 c1
        refine W.widen (k := 1) (n := 6) (Nat.le_of_ble_eq_true rfl) (Nat.le_of_ble_eq_true rfl) ?_
        exact W.vret hx hb hr (fun t ht hW => ⟨⟨σ, rfl, hok, by rw [ht]; exact hP, va_K.moved hW.alike hK, hD⟩, hS.F ht⟩) hS.2.2 dX8_load_90
      · have hok := hok.2 c1
        refine lv_aload_n hx hb dX8_load_56 rfl (lv_at hl 0 rfl) ?_
        refine va_get (D := (dC, dI)) (ci := 7) (v := .ref (h 4)) (C := RX8) (T := TX8) (N := 3) hx hb hts (fun w h => List.mem_cons_of_mem _ (in_X8 w h)) hown hK hP 0 rfl rfl 0 (by decide) (hts _ (List.mem_cons_of_mem _ tw_1_219)) (fun _ h9 => h9) rfl dX8_load_57 ?_
        refine lv_iload_n hx hb dX8_load_60 rfl (lv_at hl 1 rfl) ?_
        refine lv_iload hx hb dX8_load_61 (lv_at hl 4 rfl) ?_
        refine lv_iadd hx hb dX8_load_63 ?_
        refine lv_lload_n hx hb dX8_load_64 rfl (lv_at hl 2 rfl) ?_
        refine lv_bipush (v := 8) hx hb dX8_load_65 (by decide) ?_
        refine lv_iload hx hb dX8_load_67 (lv_at hl 3 rfl) ?_
        refine lv_iconst (v := 1) hx hb dX8_load_69 (by decide) ?_
        refine lv_isub hx hb dX8_load_70 ?_
        refine lv_iload hx hb dX8_load_71 (lv_at hl 4 rfl) ?_
        refine lv_isub hx hb dX8_load_73 ?_
        refine lv_imul hx hb dX8_load_74 ?_
        refine lv_lushr hx hb dX8_load_75 rfl ?_
        refine lv_topl (fun v2 ev2 => ?_)
        have hok := hok v2 ev2
        refine lv_l2i hx hb dX8_load_76 rfl ?_
        refine lv_sipush (v := 255) hx hb dX8_load_77 (by decide) ?_
        refine lv_iand hx hb dX8_load_80 ?_
        have hPc := hP.sub (ws' := w_Board h cI cJ σ.1.2.2.2) [4, 5, 6, 7, 8, 9, 10] rfl
        have hDc := hD.sub (ws' := w_Board h cI cJ σ.1.2.2.2) [4, 5, 6, 7, 8, 9, 10] (by decide) rfl
        have hFc := va_free (wc := w_Board h cI cJ σ.1.2.2.2) hD hS hA [4, 5, 6, 7, 8, 9, 10] rfl
        refine va_callv (va_runV (As := [.int (x1 + x5), .int (v2.toInt32 &&& (255 : Int32))]) (rest := []) ⟨hx, hb, hml, hown, hts⟩ (c_X0_place l dC dI cI cJ h _ hok) (cwV 2 hts (tb_gV tw_3_140 tw_3_141 tw_3_142 tw_1_2 tw_3_143) rfl rfl rfl (by decide +kernel) ⟨Nat.le_of_ble_eq_true rfl, Nat.le_of_ble_eq_true rfl⟩) (cpre_V (ci := 0) (q0 := 0) hK hPc hDc rfl rfl) rfl rfl hl.1 rfl (lv_room (Nat.le_of_ble_eq_true rfl)) dX8_load_81 ⟨Nat.le_of_ble_eq_true rfl, Nat.le_of_ble_eq_true rfl⟩) hS (fun q _ h => hFc q h) hFc (fun u3 t H1 locs ht hvm hok hB hz1 hk1 hS => ?_)
        obtain ⟨hP, hD⟩ := cjoin ht hP hD [4, 5, 6, 7, 8, 9, 10] [0, 1, 2, 3, 11, 12] rfl rfl (by decide) (by decide) hk1 hFc hB
        have hP := hP.sub (ws' := w_BM h cI cJ ((σ.1.1, σ.1.2.1, σ.1.2.2.1, u3), σ.2)) [0, 1, 2, 3, 6, 7, 8, 9, 10, 11, 12, 4, 5] rfl
        have hD := hD.sub (ws' := w_BM h cI cJ ((σ.1.1, σ.1.2.1, σ.1.2.2.1, u3), σ.2)) [0, 1, 2, 3, 6, 7, 8, 9, 10, 11, 12, 4, 5] (by decide) rfl
        obtain ⟨v4, ev4⟩ : ∃ y : Int32, y = x5 + 1 := ⟨_, rfl⟩
        have hok := hok v4 ev4
        refine lv_iinc (v := v4) (lv' := [(5, .int v4), (0, .ref (h 0)), (1, .int x1), (2, .long x2), (4, .int x4)]) hx hb dX8_load_84 hl (k := 4) rfl (by rw [ev4]; rfl) (by decide) rfl (fun ls hl => ?_)
        refine lv_goto (tgt := 49) hx hb dX8_load_87 (by decide) ?_
        exact ih ((σ.1.1, σ.1.2.1, σ.1.2.2.1, u3), σ.2) x1 x2 x4 v4 hok _ _ hP hD hS _ (lv_sub hl [1, 2, 3, 4, 0] rfl)
  have hl := lv_entry ([.ref (h 0), .int a1, .long a2, .int a3]) (n := 6) (Nat.le_of_ble_eq_true rfl)
  rw [lg_entry_eq]
  generalize (lg_sl ([.ref (h 0), .int a1, .long a2, .int a3]) ++ List.replicate (6 - (lg_sl ([.ref (h 0), .int a1, .long a2, .int a3])).length) Slot.unset).toArray = ls at hl ⊢
  have hl : lv_has ls 6 [(0, .ref (h 0)), (1, .int a1), (2, .long a2), (4, .int a3)] := hl
  unfold wp_X8_load at hok
  refine lv_iload hx hb dX8_load_0 (lv_at hl 3 rfl) ?_
  refine lv_iconst (v := 1) hx hb dX8_load_2 (by decide) ?_
  refine lv_icmp_lt (tgt := 13) hx hb dX8_load_3 (by decide) (fun c5 => ?_) (fun c5 => ?_)
  · have hok := hok.1 c5
    exact vx_throwS (own := RX8) (cls := "java/lang/IllegalArgumentException") (names := ["java/lang/RuntimeException", "java/lang/Exception"]) hx hb hl9 hown at_fit at_fits (hts _ (List.mem_cons_of_mem _ tw_3_73)) (hts _ (List.mem_cons_of_mem _ tw_1_13)) hZ.2.2.1 (vx_hat (L := vx_atS RX8 36 "java/lang/IllegalArgumentException" ["java/lang/RuntimeException", "java/lang/Exception"]) (B := [.castable "java/lang/IllegalArgumentException" "java/lang/IllegalArgumentException", .declares ⟨"java/lang/RuntimeException", "<init>", "(Ljava/lang/String;)V"⟩, .declares ⟨"java/lang/Exception", "<init>", "(Ljava/lang/String;)V"⟩, .declares ⟨"java/lang/Throwable", "<init>", "(Ljava/lang/String;)V"⟩]) (fun w hw => hts w (List.mem_cons_of_mem _ (at_in w hw))) at_bad (vx_c (va_Nw.use rfl hZ.2.2.2.2.2.2.2.1) (vx_c (va_Nw.use rfl hZ.2.2.2.2.2.2.2.2.1) (vx_c (va_Nw.use rfl hZ.2.2.2.2.2.2.2.2.2.1) (vx_c (va_Nw.use rfl hZ.2.2.2.2.2.2.2.2.2.2) vx_n))))) at_good hZ.1 hZ.2.1 hS (hl.1.trans hml.symm) dX8_load_13 dX8_load_16 dX8_load_17 dX8_load_19 dX8_load_22 (fun x hx => (hte x hx).elim) (Nat.le_of_ble_eq_true rfl) (Nat.le_of_ble_eq_true rfl) (Nat.le_of_ble_eq_true rfl) (Nat.le_of_ble_eq_true rfl) hlocks (fun t ha hsz hk => ⟨(), hok, ⟨rfl, hP.kept (fun k q hq => hk q.1 (hP k q hq).lt), va_K.moved ha hK, hD⟩, Nat.le_trans hS.1 hsz, fun q h1 h2 => (hk q (Nat.lt_of_lt_of_le h1 hS.1)).trans (hS.2.1 q h1 h2)⟩) hS.2.2 (Nat.le_of_ble_eq_true rfl) (Nat.le_of_ble_eq_true rfl)
  · have hok := hok.2 c5
    refine lv_iload hx hb dX8_load_6 (lv_at hl 3 rfl) ?_
    refine lv_bipush (v := 8) hx hb dX8_load_8 (by decide) ?_
    refine lv_icmp_le (tgt := 23) hx hb dX8_load_10 (by decide) (fun c6 => ?_) (fun c6 => ?_)
    · have hok := hok.1 c6
      refine lv_iload_n hx hb dX8_load_23 rfl (lv_at hl 1 rfl) ?_
      refine lv_if_lt (tgt := 36) hx hb dX8_load_24 (by decide) (fun c7 => ?_) (fun c7 => ?_)
      · have hok := hok.1 c7
        exact vx_throwS (own := RX8) (cls := "java/lang/IllegalArgumentException") (names := ["java/lang/RuntimeException", "java/lang/Exception"]) hx hb hl9 hown at_fit at_fits (hts _ (List.mem_cons_of_mem _ tw_3_73)) (hts _ (List.mem_cons_of_mem _ tw_1_13)) hZ.2.2.2.1 (vx_hat (L := vx_atS RX8 36 "java/lang/IllegalArgumentException" ["java/lang/RuntimeException", "java/lang/Exception"]) (B := [.castable "java/lang/IllegalArgumentException" "java/lang/IllegalArgumentException", .declares ⟨"java/lang/RuntimeException", "<init>", "(Ljava/lang/String;)V"⟩, .declares ⟨"java/lang/Exception", "<init>", "(Ljava/lang/String;)V"⟩, .declares ⟨"java/lang/Throwable", "<init>", "(Ljava/lang/String;)V"⟩]) (fun w hw => hts w (List.mem_cons_of_mem _ (at_in w hw))) at_bad (vx_c (va_Nw.use rfl hZ.2.2.2.2.2.2.2.1) (vx_c (va_Nw.use rfl hZ.2.2.2.2.2.2.2.2.1) (vx_c (va_Nw.use rfl hZ.2.2.2.2.2.2.2.2.2.1) (vx_c (va_Nw.use rfl hZ.2.2.2.2.2.2.2.2.2.2) vx_n))))) at_good hZ.1 hZ.2.1 hS (hl.1.trans hml.symm) dX8_load_36 dX8_load_39 dX8_load_40 dX8_load_42 dX8_load_45 (fun x hx => (hte x hx).elim) (Nat.le_of_ble_eq_true rfl) (Nat.le_of_ble_eq_true rfl) (Nat.le_of_ble_eq_true rfl) (Nat.le_of_ble_eq_true rfl) hlocks (fun t ha hsz hk => ⟨(), hok, ⟨rfl, hP.kept (fun k q hq => hk q.1 (hP k q hq).lt), va_K.moved ha hK, hD⟩, Nat.le_trans hS.1 hsz, fun q h1 h2 => (hk q (Nat.lt_of_lt_of_le h1 hS.1)).trans (hS.2.1 q h1 h2)⟩) hS.2.2 (Nat.le_of_ble_eq_true rfl) (Nat.le_of_ble_eq_true rfl)
      · have hok := hok.2 c7
        refine lv_iload_n hx hb dX8_load_27 rfl (lv_at hl 1 rfl) ?_
        refine lv_ldc (v := 65536) hx hb hown (hts _ (List.mem_cons_of_mem _ tw_3_28)) dX8_load_28 ?_
        refine lv_iload hx hb dX8_load_30 (lv_at hl 3 rfl) ?_
        refine lv_isub hx hb dX8_load_32 ?_
        refine lv_icmp_le (tgt := 46) hx hb dX8_load_33 (by decide) (fun c8 => ?_) (fun c8 => ?_)
        · have hok := hok.1 c8
          refine lv_iconst (v := 0) hx hb dX8_load_46 (by decide) ?_
          refine lv_istore (lv' := [(5, .int 0), (0, .ref (h 0)), (1, .int a1), (2, .long a2), (4, .int a3)]) hx hb dX8_load_47 hl (by decide) rfl (fun ls hl => ?_)
          obtain ⟨n, hok⟩ := hok
          exact vx_ret (b49 n σ a1 a2 a3 0 hok _ _ hP hD hS _ (lv_sub hl [1, 2, 3, 4, 0] rfl))
        · have hok := hok.2 c8
          exact vx_throwS (own := RX8) (cls := "java/lang/IllegalArgumentException") (names := ["java/lang/RuntimeException", "java/lang/Exception"]) hx hb hl9 hown at_fit at_fits (hts _ (List.mem_cons_of_mem _ tw_3_73)) (hts _ (List.mem_cons_of_mem _ tw_1_13)) hZ.2.2.2.1 (vx_hat (L := vx_atS RX8 36 "java/lang/IllegalArgumentException" ["java/lang/RuntimeException", "java/lang/Exception"]) (B := [.castable "java/lang/IllegalArgumentException" "java/lang/IllegalArgumentException", .declares ⟨"java/lang/RuntimeException", "<init>", "(Ljava/lang/String;)V"⟩, .declares ⟨"java/lang/Exception", "<init>", "(Ljava/lang/String;)V"⟩, .declares ⟨"java/lang/Throwable", "<init>", "(Ljava/lang/String;)V"⟩]) (fun w hw => hts w (List.mem_cons_of_mem _ (at_in w hw))) at_bad (vx_c (va_Nw.use rfl hZ.2.2.2.2.2.2.2.1) (vx_c (va_Nw.use rfl hZ.2.2.2.2.2.2.2.2.1) (vx_c (va_Nw.use rfl hZ.2.2.2.2.2.2.2.2.2.1) (vx_c (va_Nw.use rfl hZ.2.2.2.2.2.2.2.2.2.2) vx_n))))) at_good hZ.1 hZ.2.1 hS (hl.1.trans hml.symm) dX8_load_36 dX8_load_39 dX8_load_40 dX8_load_42 dX8_load_45 (fun x hx => (hte x hx).elim) (Nat.le_of_ble_eq_true rfl) (Nat.le_of_ble_eq_true rfl) (Nat.le_of_ble_eq_true rfl) (Nat.le_of_ble_eq_true rfl) hlocks (fun t ha hsz hk => ⟨(), hok, ⟨rfl, hP.kept (fun k q hq => hk q.1 (hP k q hq).lt), va_K.moved ha hK, hD⟩, Nat.le_trans hS.1 hsz, fun q h1 h2 => (hk q (Nat.lt_of_lt_of_le h1 hS.1)).trans (hS.2.1 q h1 h2)⟩) hS.2.2 (Nat.le_of_ble_eq_true rfl) (Nat.le_of_ble_eq_true rfl)
    · have hok := hok.2 c6
      exact vx_throwS (own := RX8) (cls := "java/lang/IllegalArgumentException") (names := ["java/lang/RuntimeException", "java/lang/Exception"]) hx hb hl9 hown at_fit at_fits (hts _ (List.mem_cons_of_mem _ tw_3_73)) (hts _ (List.mem_cons_of_mem _ tw_1_13)) hZ.2.2.1 (vx_hat (L := vx_atS RX8 36 "java/lang/IllegalArgumentException" ["java/lang/RuntimeException", "java/lang/Exception"]) (B := [.castable "java/lang/IllegalArgumentException" "java/lang/IllegalArgumentException", .declares ⟨"java/lang/RuntimeException", "<init>", "(Ljava/lang/String;)V"⟩, .declares ⟨"java/lang/Exception", "<init>", "(Ljava/lang/String;)V"⟩, .declares ⟨"java/lang/Throwable", "<init>", "(Ljava/lang/String;)V"⟩]) (fun w hw => hts w (List.mem_cons_of_mem _ (at_in w hw))) at_bad (vx_c (va_Nw.use rfl hZ.2.2.2.2.2.2.2.1) (vx_c (va_Nw.use rfl hZ.2.2.2.2.2.2.2.2.1) (vx_c (va_Nw.use rfl hZ.2.2.2.2.2.2.2.2.2.1) (vx_c (va_Nw.use rfl hZ.2.2.2.2.2.2.2.2.2.2) vx_n))))) at_good hZ.1 hZ.2.1 hS (hl.1.trans hml.symm) dX8_load_13 dX8_load_16 dX8_load_17 dX8_load_19 dX8_load_22 (fun x hx => (hte x hx).elim) (Nat.le_of_ble_eq_true rfl) (Nat.le_of_ble_eq_true rfl) (Nat.le_of_ble_eq_true rfl) (Nat.le_of_ble_eq_true rfl) hlocks (fun t ha hsz hk => ⟨(), hok, ⟨rfl, hP.kept (fun k q hq => hk q.1 (hP k q hq).lt), va_K.moved ha hK, hD⟩, Nat.le_trans hS.1 hsz, fun q h1 h2 => (hk q (Nat.lt_of_lt_of_le h1 hS.1)).trans (hS.2.1 q h1 h2)⟩) hS.2.2 (Nat.le_of_ble_eq_true rfl) (Nat.le_of_ble_eq_true rfl)
def wp_X8_run_34 : Nat → S_BM → Int32 → Int32 → (Int32 → S_BM → Prop) → Prop
  | 0, _, _, _, _ => False
  | n + 1, σ, x1, x2, Φ => ((x1 ≤ x2 → (Φ 0 σ)) ∧ (¬ x1 ≤ x2 → (wp_X5_advance σ.1 (fun r2 u3 => (((u3.1 7) = 0 → (wp_X1_has σ.2 (u3.1 5) (fun r5 => ((r5 = 0 → (∀ v7 : Int32, v7 = x2 + 1 → wp_X8_run_34 n (u3, σ.2) x1 v7 Φ)) ∧ (¬ r5 = 0 → (Φ 1 (u3, σ.2))))))) ∧ (¬ (u3.1 7) = 0 → (Φ 2 (u3, σ.2))))))))
def wp_X8_run (σ : S_BM) (a1 : Int32) (Φ : Int32 → S_BM → Prop) (Ψ : Prop) : Prop := ((a1 < 0 → (Ψ)) ∧ (¬ a1 < 0 → (((a1 ≤ (100000 : Int32) → ((((σ.1.1 7) = 0 → ((∃ n, wp_X8_run_34 n σ a1 0 Φ))) ∧ (¬ (σ.1.1 7) = 0 → (Φ 2 σ))))) ∧ (¬ a1 ≤ (100000 : Int32) → (Ψ))))))
set_option maxHeartbeats 4000000 in
set_option maxRecDepth 100000 in
theorem c_X8_run (l : Launch) (hl9 : l.stackTraces = false) (dC : Nat → ClassId) (dI : Nat → Nat → Nat) (cI cJ : ClassId) (h : Nat → Nat) (tt zs : Nat → Nat) (sz : Nat) {σ : S_BM} {a1 : Int32} {Φ : Int32 → S_BM → Prop} {Ψ : Prop} (hok : wp_X8_run σ a1 Φ Ψ) : vx_Met l yX8_run wsX8_run ({ frames := 7, cells := 1, slots := 6, locals := 159 }) (va_Pc [.ref (h 0), .int a1] (cpreX dC dI cI cJ tt zs (w_BM h cI cJ σ) sz)) (va_Qi Φ (fun u => cpost dC dI cI cJ (va_A (w_BM h cI cJ σ) sz) (w_BM h cI cJ u)) (va_A (w_BM h cI cJ σ) sz)) (vx_X (fun _ : Unit => Ψ) (fun E _ t => E = "java/lang/IllegalArgumentException" ∧ cpost dC dI cI cJ (va_A (w_BM h cI cJ σ) sz) (w_BM h cI cJ σ) t) (va_A (w_BM h cI cJ σ) sz)) 1 6 (va_A (w_BM h cI cJ σ) sz) := by
  refine vx_ofW (cc := cX8_run) (maxL := 3) (ret := (some .int)) (by decide) rfl ?_
  intro p e s m args below meth c s₁ B hml hte hv
  obtain ⟨rfl, ⟨⟨hsz, hP, hK, hD0⟩, hT⟩, hZ⟩ := hv
  have hx := B.exec
  have hb := B.bytes
  have hr := B.returns
  have hts := atoms_spec (ws := wsX8_run) B.pre
  have hown : s.vm.findClass RX8 = some m.cls := findClass_of_methodNamed B.named
  have hlocks := B.notSynchronized
  subst hsz
  have hD := hD0.self (sz := s.heap.size)
  generalize hAe : va_A (w_BM h cI cJ σ) s.heap.size = A at hD hT hZ ⊢
  have hA : ∀ q : Nat, s.heap.size ≤ q → A q := fun q h => by rw [← hAe]; exact Or.inr h
  clear hD0 hAe
  have hS : va_S A s.heap s.heap [] := va_S.rf
  have b34 : ∀ (n : Nat) (σ : S_BM) (x1 : Int32) (x2 : Int32), wp_X8_run_34 n σ x1 x2 Φ → ∀ (H : Heap) (locs : List Loc), va_P (dC, dI) vwCl (w_BM h cI cJ σ) H → va_D A (w_BM h cI cJ σ) → va_S A s.heap H locs → ∀ ls : Array Slot, lv_has ls 3 [(0, .ref (h 0)), (1, .int x1), (2, .int x2)] → W p l e (headSpec wsX8_run { frames := 7, cells := 1, slots := 6, locals := 159 }).room s m ([.ref (h 0), .int a1] : List Value).toArray below meth c H locs 0 0 (MQ below (va_Qi Φ (fun u => cpost dC dI cI cJ A (w_BM h cI cJ u)) A) ([.ref (h 0), .int a1] : List Value).toArray s 1 6 A) (F0 m 34 ls []) := by
    intro n
    induction n with
    | zero =>
      intro σ x1 x2 hok
      exact hok.elim
    | succ n ih =>
      intro σ x1 x2 hok H locs hP hD hS ls hl
      rw [wp_X8_run_34] at hok
      refine lv_iload_n hx hb dX8_run_34 rfl (lv_at hl 2 rfl) ?_
      refine lv_iload_n hx hb dX8_run_35 rfl (lv_at hl 1 rfl) ?_
      refine lv_icmp_ge (tgt := 84) hx hb dX8_run_36 (by decide) (fun c1 => ?_) (fun c1 => ?_)
      · have hok := hok.1 c1
        refine lv_iconst (v := 0) hx hb dX8_run_84 (by decide) ?_
        refine W.widen (k := 1) (n := 6) (Nat.le_of_ble_eq_true rfl) (Nat.le_of_ble_eq_true rfl) ?_
        exact W.iret (v := 0) hx hb hr (fun t ht hW => ⟨⟨0, σ, rfl, hok, by rw [ht]; exact hP, va_K.moved hW.alike hK, hD⟩, hS.F ht⟩) hS.2.2 dX8_run_85
      · have hok := hok.2 c1
        refine lv_aload_n hx hb dX8_run_39 rfl (lv_at hl 0 rfl) ?_
        refine va_get (D := (dC, dI)) (ci := 7) (v := .ref (h 1)) (C := RX8) (T := TX8) (N := 3) hx hb hts (fun w h => List.mem_cons_of_mem _ (in_X8 w h)) hown hK hP 0 rfl rfl 1 (by decide) (hts _ (List.mem_cons_of_mem _ tw_1_220)) (fun _ h9 => h9) rfl dX8_run_40 ?_
        have hPc := hP.sub (ws' := w_Proc h cI cJ σ.1) [1, 2, 3, 4, 5, 6, 7, 8, 9, 10] rfl
        have hDc := hD.sub (ws' := w_Proc h cI cJ σ.1) [1, 2, 3, 4, 5, 6, 7, 8, 9, 10] (by decide) rfl
        have hFc := va_free (wc := w_Proc h cI cJ σ.1) hD hS hA [1, 2, 3, 4, 5, 6, 7, 8, 9, 10] rfl
        refine va_calli (va_runV (As := []) (rest := []) ⟨hx, hb, hml, hown, hts⟩ (c_X5_advance l dC dI cI cJ h tt _ hok) (cwV 0 hts (tb_gV tw_2_65 tw_2_66 tw_2_67 tw_1_6 tw_2_68) rfl rfl rfl (by decide +kernel) ⟨Nat.le_of_ble_eq_true rfl, Nat.le_of_ble_eq_true rfl⟩) (cpre_VT (ci := 4) (q0 := 0) hK hPc hDc hT hS hFc rfl rfl) rfl rfl hl.1 rfl (lv_room (Nat.le_of_ble_eq_true rfl)) dX8_run_43 ⟨Nat.le_of_ble_eq_true rfl, Nat.le_of_ble_eq_true rfl⟩) hS (fun q _ h => hFc q h) hFc (fun r2 u3 t H1 locs ht hvm hok hB hz1 hk1 hS => ?_)
        obtain ⟨hP, hD⟩ := cjoin ht hP hD [1, 2, 3, 4, 5, 6, 7, 8, 9, 10] [0, 11, 12] rfl rfl (by decide) (by decide) hk1 hFc hB
        have hP := hP.sub (ws' := w_BM h cI cJ (u3, σ.2)) [0, 3, 4, 5, 6, 7, 8, 9, 10, 11, 12, 1, 2] rfl
        have hD := hD.sub (ws' := w_BM h cI cJ (u3, σ.2)) [0, 3, 4, 5, 6, 7, 8, 9, 10, 11, 12, 1, 2] (by decide) rfl
        refine lv_pop hx hb dX8_run_46 rfl ?_
        refine lv_aload_n hx hb dX8_run_47 rfl (lv_at hl 0 rfl) ?_
        refine va_get (D := (dC, dI)) (ci := 7) (v := .ref (h 1)) (C := RX8) (T := TX8) (N := 3) hx hb hts (fun w h => List.mem_cons_of_mem _ (in_X8 w h)) hown hK hP 0 rfl rfl 1 (by decide) (hts _ (List.mem_cons_of_mem _ tw_1_220)) (fun _ h9 => h9) rfl dX8_run_48 ?_
        refine va_get (D := (dC, dI)) (ci := 4) (v := .int (u3.1 7)) (C := RX5) (T := TX5) (N := 15) hx hb hts (fun w h => List.mem_cons_of_mem _ (in_X5 w h)) hown hK hP 1 rfl rfl 7 (by decide) (hts _ (List.mem_cons_of_mem _ tw_1_162)) (fun _ h9 => h9) rfl dX8_run_51 ?_
        refine lv_if_eq (tgt := 59) hx hb dX8_run_54 (by decide) (fun c4 => ?_) (fun c4 => ?_)
        · have hok := hok.1 c4
          refine lv_aload_n hx hb dX8_run_59 rfl (lv_at hl 0 rfl) ?_
          refine va_get (D := (dC, dI)) (ci := 7) (v := .ref (h 11)) (C := RX8) (T := TX8) (N := 3) hx hb hts (fun w h => List.mem_cons_of_mem _ (in_X8 w h)) hown hK hP 0 rfl rfl 2 (by decide) (hts _ (List.mem_cons_of_mem _ tw_1_221)) (fun _ h9 => h9) rfl dX8_run_60 ?_
          refine lv_aload_n hx hb dX8_run_63 rfl (lv_at hl 0 rfl) ?_
          refine va_get (D := (dC, dI)) (ci := 7) (v := .ref (h 1)) (C := RX8) (T := TX8) (N := 3) hx hb hts (fun w h => List.mem_cons_of_mem _ (in_X8 w h)) hown hK hP 0 rfl rfl 1 (by decide) (hts _ (List.mem_cons_of_mem _ tw_1_220)) (fun _ h9 => h9) rfl dX8_run_64 ?_
          refine va_get (D := (dC, dI)) (ci := 4) (v := .int (u3.1 5)) (C := RX5) (T := TX5) (N := 15) hx hb hts (fun w h => List.mem_cons_of_mem _ (in_X5 w h)) hown hK hP 1 rfl rfl 5 (by decide) (hts _ (List.mem_cons_of_mem _ tw_1_158)) (fun _ h9 => h9) rfl dX8_run_67 ?_
          have hPc := hP.sub (ws' := w_Breaks h cI cJ σ.2) [11, 12] rfl
          have hDc := hD.sub (ws' := w_Breaks h cI cJ σ.2) [11, 12] (by decide) rfl
          have hFc := va_free (wc := w_Breaks h cI cJ σ.2) hD hS hA [11, 12] rfl
          refine va_calli (va_runV (As := [.int (u3.1 5)]) (rest := []) ⟨hx, hb, hml, hown, hts⟩ (c_X1_has l dC dI cI cJ h _ hok) (cwV 1 hts (tb_gV tw_3_153 tw_3_34 tw_3_35 tw_1_8 tw_3_36) rfl rfl rfl (by decide +kernel) ⟨Nat.le_of_ble_eq_true rfl, Nat.le_of_ble_eq_true rfl⟩) (cpre_V (ci := 1) (q0 := 0) hK hPc hDc rfl rfl) rfl rfl hl.1 rfl (lv_room (Nat.le_of_ble_eq_true rfl)) dX8_run_70 ⟨Nat.le_of_ble_eq_true rfl, Nat.le_of_ble_eq_true rfl⟩) hS (fun q _ h => hFc q h) hFc (fun r5 _ t H1 locs ht hvm hok hB hz1 hk1 hS => ?_)
          obtain ⟨hP, hD⟩ := cjoin ht hP hD [11, 12] [0, 1, 2, 3, 4, 5, 6, 7, 8, 9, 10] rfl rfl (by decide) (by decide) hk1 hFc hB
          have hP := hP.sub (ws' := w_BM h cI cJ (u3, σ.2)) [0, 1, 2, 3, 4, 5, 6, 7, 8, 9, 10, 11, 12] rfl
          have hD := hD.sub (ws' := w_BM h cI cJ (u3, σ.2)) [0, 1, 2, 3, 4, 5, 6, 7, 8, 9, 10, 11, 12] (by decide) rfl
          refine lv_if_eq (tgt := 78) hx hb dX8_run_73 (by decide) (fun c6 => ?_) (fun c6 => ?_)
          · have hok := hok.1 c6
            obtain ⟨v7, ev7⟩ : ∃ y : Int32, y = x2 + 1 := ⟨_, rfl⟩
            have hok := hok v7 ev7
            refine lv_iinc (v := v7) (lv' := [(2, .int v7), (0, .ref (h 0)), (1, .int x1)]) hx hb dX8_run_78 hl (k := 2) rfl (by rw [ev7]; rfl) (by decide) rfl (fun ls hl => ?_)
            refine lv_goto (tgt := 34) hx hb dX8_run_81 (by decide) ?_
            exact ih (u3, σ.2) x1 v7 hok _ _ hP hD hS _ (lv_sub hl [1, 2, 0] rfl)
          · have hok := hok.2 c6
            refine lv_iconst (v := 1) hx hb dX8_run_76 (by decide) ?_
            refine W.widen (k := 1) (n := 6) (Nat.le_of_ble_eq_true rfl) (Nat.le_of_ble_eq_true rfl) ?_
            exact W.iret (v := 1) hx hb hr (fun t ht hW => ⟨⟨1, (u3, σ.2), rfl, hok, by rw [ht]; exact hP, va_K.moved hW.alike hK, hD⟩, hS.F ht⟩) hS.2.2 dX8_run_77
        · have hok := hok.2 c4
          refine lv_iconst (v := 2) hx hb dX8_run_57 (by decide) ?_
          refine W.widen (k := 1) (n := 6) (Nat.le_of_ble_eq_true rfl) (Nat.le_of_ble_eq_true rfl) ?_
          exact W.iret (v := 2) hx hb hr (fun t ht hW => ⟨⟨2, (u3, σ.2), rfl, hok, by rw [ht]; exact hP, va_K.moved hW.alike hK, hD⟩, hS.F ht⟩) hS.2.2 dX8_run_58
  have hl := lv_entry ([.ref (h 0), .int a1]) (n := 3) (Nat.le_of_ble_eq_true rfl)
  rw [lg_entry_eq]
  generalize (lg_sl ([.ref (h 0), .int a1]) ++ List.replicate (3 - (lg_sl ([.ref (h 0), .int a1])).length) Slot.unset).toArray = ls at hl ⊢
  have hl : lv_has ls 3 [(0, .ref (h 0)), (1, .int a1)] := hl
  unfold wp_X8_run at hok
  refine lv_iload_n hx hb dX8_run_0 rfl (lv_at hl 1 rfl) ?_
  refine lv_if_lt (tgt := 10) hx hb dX8_run_1 (by decide) (fun c8 => ?_) (fun c8 => ?_)
  · have hok := hok.1 c8
    exact vx_throwS (own := RX8) (cls := "java/lang/IllegalArgumentException") (names := ["java/lang/RuntimeException", "java/lang/Exception"]) hx hb hl9 hown at_fit at_fits (hts _ (List.mem_cons_of_mem _ tw_3_73)) (hts _ (List.mem_cons_of_mem _ tw_1_13)) hZ.2.2.2.2.1 (vx_hat (L := vx_atS RX8 36 "java/lang/IllegalArgumentException" ["java/lang/RuntimeException", "java/lang/Exception"]) (B := [.castable "java/lang/IllegalArgumentException" "java/lang/IllegalArgumentException", .declares ⟨"java/lang/RuntimeException", "<init>", "(Ljava/lang/String;)V"⟩, .declares ⟨"java/lang/Exception", "<init>", "(Ljava/lang/String;)V"⟩, .declares ⟨"java/lang/Throwable", "<init>", "(Ljava/lang/String;)V"⟩]) (fun w hw => hts w (List.mem_cons_of_mem _ (at_in w hw))) at_bad (vx_c (va_Nw.use rfl hZ.2.2.2.2.2.2.2.1) (vx_c (va_Nw.use rfl hZ.2.2.2.2.2.2.2.2.1) (vx_c (va_Nw.use rfl hZ.2.2.2.2.2.2.2.2.2.1) (vx_c (va_Nw.use rfl hZ.2.2.2.2.2.2.2.2.2.2) vx_n))))) at_good hZ.1 hZ.2.1 hS (hl.1.trans hml.symm) dX8_run_10 dX8_run_13 dX8_run_14 dX8_run_16 dX8_run_19 (fun x hx => (hte x hx).elim) (Nat.le_of_ble_eq_true rfl) (Nat.le_of_ble_eq_true rfl) (Nat.le_of_ble_eq_true rfl) (Nat.le_of_ble_eq_true rfl) hlocks (fun t ha hsz hk => ⟨(), hok, ⟨rfl, hP.kept (fun k q hq => hk q.1 (hP k q hq).lt), va_K.moved ha hK, hD⟩, Nat.le_trans hS.1 hsz, fun q h1 h2 => (hk q (Nat.lt_of_lt_of_le h1 hS.1)).trans (hS.2.1 q h1 h2)⟩) hS.2.2 (Nat.le_of_ble_eq_true rfl) (Nat.le_of_ble_eq_true rfl)
  · have hok := hok.2 c8
    refine lv_iload_n hx hb dX8_run_4 rfl (lv_at hl 1 rfl) ?_
    refine lv_ldc (v := 100000) hx hb hown (hts _ (List.mem_cons_of_mem _ tw_3_151)) dX8_run_5 ?_
    refine lv_icmp_le (tgt := 20) hx hb dX8_run_7 (by decide) (fun c9 => ?_) (fun c9 => ?_)
    · have hok := hok.1 c9
      refine lv_aload_n hx hb dX8_run_20 rfl (lv_at hl 0 rfl) ?_
      refine va_get (D := (dC, dI)) (ci := 7) (v := .ref (h 1)) (C := RX8) (T := TX8) (N := 3) hx hb hts (fun w h => List.mem_cons_of_mem _ (in_X8 w h)) hown hK hP 0 rfl rfl 1 (by decide) (hts _ (List.mem_cons_of_mem _ tw_1_220)) (fun _ h9 => h9) rfl dX8_run_21 ?_
      refine va_get (D := (dC, dI)) (ci := 4) (v := .int (σ.1.1 7)) (C := RX5) (T := TX5) (N := 15) hx hb hts (fun w h => List.mem_cons_of_mem _ (in_X5 w h)) hown hK hP 1 rfl rfl 7 (by decide) (hts _ (List.mem_cons_of_mem _ tw_1_162)) (fun _ h9 => h9) rfl dX8_run_24 ?_
      refine lv_if_eq (tgt := 32) hx hb dX8_run_27 (by decide) (fun c10 => ?_) (fun c10 => ?_)
      · have hok := hok.1 c10
        refine lv_iconst (v := 0) hx hb dX8_run_32 (by decide) ?_
        refine lv_istore_n (lv' := [(2, .int 0), (0, .ref (h 0)), (1, .int a1)]) hx hb dX8_run_33 rfl hl (by decide) rfl (fun ls hl => ?_)
        obtain ⟨n, hok⟩ := hok
        exact vx_ret (b34 n σ a1 0 hok _ _ hP hD hS _ (lv_sub hl [1, 2, 0] rfl))
      · have hok := hok.2 c10
        refine lv_iconst (v := 2) hx hb dX8_run_30 (by decide) ?_
        refine vx_ret (W.widen (k := 1) (n := 6) (Nat.le_of_ble_eq_true rfl) (Nat.le_of_ble_eq_true rfl) ?_)
        exact W.iret (v := 2) hx hb hr (fun t ht hW => ⟨⟨2, σ, rfl, hok, by rw [ht]; exact hP, va_K.moved hW.alike hK, hD⟩, hS.F ht⟩) hS.2.2 dX8_run_31
    · have hok := hok.2 c9
      exact vx_throwS (own := RX8) (cls := "java/lang/IllegalArgumentException") (names := ["java/lang/RuntimeException", "java/lang/Exception"]) hx hb hl9 hown at_fit at_fits (hts _ (List.mem_cons_of_mem _ tw_3_73)) (hts _ (List.mem_cons_of_mem _ tw_1_13)) hZ.2.2.2.2.1 (vx_hat (L := vx_atS RX8 36 "java/lang/IllegalArgumentException" ["java/lang/RuntimeException", "java/lang/Exception"]) (B := [.castable "java/lang/IllegalArgumentException" "java/lang/IllegalArgumentException", .declares ⟨"java/lang/RuntimeException", "<init>", "(Ljava/lang/String;)V"⟩, .declares ⟨"java/lang/Exception", "<init>", "(Ljava/lang/String;)V"⟩, .declares ⟨"java/lang/Throwable", "<init>", "(Ljava/lang/String;)V"⟩]) (fun w hw => hts w (List.mem_cons_of_mem _ (at_in w hw))) at_bad (vx_c (va_Nw.use rfl hZ.2.2.2.2.2.2.2.1) (vx_c (va_Nw.use rfl hZ.2.2.2.2.2.2.2.2.1) (vx_c (va_Nw.use rfl hZ.2.2.2.2.2.2.2.2.2.1) (vx_c (va_Nw.use rfl hZ.2.2.2.2.2.2.2.2.2.2) vx_n))))) at_good hZ.1 hZ.2.1 hS (hl.1.trans hml.symm) dX8_run_10 dX8_run_13 dX8_run_14 dX8_run_16 dX8_run_19 (fun x hx => (hte x hx).elim) (Nat.le_of_ble_eq_true rfl) (Nat.le_of_ble_eq_true rfl) (Nat.le_of_ble_eq_true rfl) (Nat.le_of_ble_eq_true rfl) hlocks (fun t ha hsz hk => ⟨(), hok, ⟨rfl, hP.kept (fun k q hq => hk q.1 (hP k q hq).lt), va_K.moved ha hK, hD⟩, Nat.le_trans hS.1 hsz, fun q h1 h2 => (hk q (Nat.lt_of_lt_of_le h1 hS.1)).trans (hS.2.1 q h1 h2)⟩) hS.2.2 (Nat.le_of_ble_eq_true rfl) (Nat.le_of_ble_eq_true rfl)
def wp_X8_look (σ : S_BM) (a1 : Int32) (Φ : Int32 → S_BM → Prop) (Ψ : Prop) : Prop := wp_X8_isAddress a1 (fun r1 => ((r1 = 0 → (Ψ)) ∧ (¬ r1 = 0 → (wp_X0_peek σ.1.2.2.2 a1 (fun r3 => Φ r3 σ)))))
set_option maxHeartbeats 4000000 in
set_option maxRecDepth 100000 in
theorem c_X8_look (l : Launch) (hl9 : l.stackTraces = false) (dC : Nat → ClassId) (dI : Nat → Nat → Nat) (cI cJ : ClassId) (h : Nat → Nat) (tt zs : Nat → Nat) (sz : Nat) {σ : S_BM} {a1 : Int32} {Φ : Int32 → S_BM → Prop} {Ψ : Prop} (hok : wp_X8_look σ a1 Φ Ψ) : vx_Met l yX8_look wsX8_look ({ frames := 6, cells := 1, slots := 6, locals := 82 }) (va_Pc [.ref (h 0), .int a1] (cpreX dC dI cI cJ tt zs (w_BM h cI cJ σ) sz)) (va_Qi Φ (fun u => cpost dC dI cI cJ (va_A (w_BM h cI cJ σ) sz) (w_BM h cI cJ u)) (va_A (w_BM h cI cJ σ) sz)) (vx_X (fun _ : Unit => Ψ) (fun E _ t => E = "java/lang/IllegalArgumentException" ∧ cpost dC dI cI cJ (va_A (w_BM h cI cJ σ) sz) (w_BM h cI cJ σ) t) (va_A (w_BM h cI cJ σ) sz)) 1 6 (va_A (w_BM h cI cJ σ) sz) := by
  refine vx_ofW (cc := cX8_look) (maxL := 2) (ret := (some .int)) (by decide) rfl ?_
  intro p e s m args below meth c s₁ B hml hte hv
  obtain ⟨rfl, ⟨⟨hsz, hP, hK, hD0⟩, hT⟩, hZ⟩ := hv
  have hx := B.exec
  have hb := B.bytes
  have hr := B.returns
  have hts := atoms_spec (ws := wsX8_look) B.pre
  have hown : s.vm.findClass RX8 = some m.cls := findClass_of_methodNamed B.named
  have hlocks := B.notSynchronized
  subst hsz
  have hD := hD0.self (sz := s.heap.size)
  generalize hAe : va_A (w_BM h cI cJ σ) s.heap.size = A at hD hT hZ ⊢
  have hA : ∀ q : Nat, s.heap.size ≤ q → A q := fun q h => by rw [← hAe]; exact Or.inr h
  clear hD0 hAe
  have hS : va_S A s.heap s.heap [] := va_S.rf
  have hl := lv_entry ([.ref (h 0), .int a1]) (n := 2) (Nat.le_of_ble_eq_true rfl)
  rw [lg_entry_eq]
  generalize (lg_sl ([.ref (h 0), .int a1]) ++ List.replicate (2 - (lg_sl ([.ref (h 0), .int a1])).length) Slot.unset).toArray = ls at hl ⊢
  have hl : lv_has ls 2 [(0, .ref (h 0)), (1, .int a1)] := hl
  unfold wp_X8_look at hok
  refine lv_iload_n hx hb dX8_look_0 rfl (lv_at hl 1 rfl) ?_
  have hPc := hP.sub (ws' := []) [] rfl
  have hDc := hD.sub (ws' := []) [] (by decide) rfl
  have hFc := va_free (wc := []) hD hS hA [] rfl
  refine va_calli (va_runS (As := [.int a1]) (rest := []) ⟨hx, hb, hml, hown, hts⟩ (c_X8_isAddress l dC dI cI cJ h _ hok) (va_cwS 1 hts (tb_gS tw_3_25 tw_3_26 tw_1_1 tw_3_27) rfl rfl rfl (by decide +kernel) ⟨Nat.le_of_ble_eq_true rfl, Nat.le_of_ble_eq_true rfl⟩) (cpre_S hK hPc hDc) rfl rfl hl.1 rfl (lv_room (Nat.le_of_ble_eq_true rfl)) dX8_look_1 ⟨Nat.le_of_ble_eq_true rfl, Nat.le_of_ble_eq_true rfl⟩) hS (fun q _ h => hFc q h) hFc (fun r1 _ t H1 locs ht hvm hok hB hz1 hk1 hS => ?_)
  obtain ⟨hP, hD⟩ := cjoin ht hP hD [] [0, 1, 2, 3, 4, 5, 6, 7, 8, 9, 10, 11, 12] rfl rfl (by decide) (by decide) hk1 hFc hB
  have hP := hP.sub (ws' := w_BM h cI cJ σ) [0, 1, 2, 3, 4, 5, 6, 7, 8, 9, 10, 11, 12] rfl
  have hD := hD.sub (ws' := w_BM h cI cJ σ) [0, 1, 2, 3, 4, 5, 6, 7, 8, 9, 10, 11, 12] (by decide) rfl
  refine lv_if_ne (tgt := 17) hx hb dX8_look_4 (by decide) (fun c2 => ?_) (fun c2 => ?_)
  · have hok := hok.2 c2
    refine lv_aload_n hx hb dX8_look_17 rfl (lv_at hl 0 rfl) ?_
    refine va_get (D := (dC, dI)) (ci := 7) (v := .ref (h 4)) (C := RX8) (T := TX8) (N := 3) hx hb hts (fun w h => List.mem_cons_of_mem _ (in_X8 w h)) hown hK hP 0 rfl rfl 0 (by decide) (hts _ (List.mem_cons_of_mem _ tw_1_219)) (fun _ h9 => h9) rfl dX8_look_18 ?_
    refine lv_iload_n hx hb dX8_look_21 rfl (lv_at hl 1 rfl) ?_
    have hPc := hP.sub (ws' := w_Board h cI cJ σ.1.2.2.2) [4, 5, 6, 7, 8, 9, 10] rfl
    have hDc := hD.sub (ws' := w_Board h cI cJ σ.1.2.2.2) [4, 5, 6, 7, 8, 9, 10] (by decide) rfl
    have hFc := va_free (wc := w_Board h cI cJ σ.1.2.2.2) hD hS hA [4, 5, 6, 7, 8, 9, 10] rfl
    refine va_calli (va_runV (As := [.int a1]) (rest := []) ⟨hx, hb, hml, hown, hts⟩ (c_X0_peek l dC dI cI cJ h _ hok) (cwV 1 hts (tb_gV tw_3_162 tw_3_163 tw_3_164 tw_1_2 tw_3_165) rfl rfl rfl (by decide +kernel) ⟨Nat.le_of_ble_eq_true rfl, Nat.le_of_ble_eq_true rfl⟩) (cpre_V (ci := 0) (q0 := 0) hK hPc hDc rfl rfl) rfl rfl hl.1 rfl (lv_room (Nat.le_of_ble_eq_true rfl)) dX8_look_22 ⟨Nat.le_of_ble_eq_true rfl, Nat.le_of_ble_eq_true rfl⟩) hS (fun q _ h => hFc q h) hFc (fun r3 _ t H1 locs ht hvm hok hB hz1 hk1 hS => ?_)
    obtain ⟨hP, hD⟩ := cjoin ht hP hD [4, 5, 6, 7, 8, 9, 10] [0, 1, 2, 3, 11, 12] rfl rfl (by decide) (by decide) hk1 hFc hB
    have hP := hP.sub (ws' := w_BM h cI cJ σ) [0, 1, 2, 3, 6, 7, 8, 9, 10, 11, 12, 4, 5] rfl
    have hD := hD.sub (ws' := w_BM h cI cJ σ) [0, 1, 2, 3, 6, 7, 8, 9, 10, 11, 12, 4, 5] (by decide) rfl
    refine vx_ret (W.widen (k := 1) (n := 6) (Nat.le_of_ble_eq_true rfl) (Nat.le_of_ble_eq_true rfl) ?_)
    exact W.iret (v := r3) hx hb hr (fun t ht hW => ⟨⟨r3, σ, rfl, hok, by rw [ht]; exact hP, va_K.moved hW.alike hK, hD⟩, hS.F ht⟩) hS.2.2 dX8_look_25
  · have hok := hok.1 c2
    exact vx_throwS (own := RX8) (cls := "java/lang/IllegalArgumentException") (names := ["java/lang/RuntimeException", "java/lang/Exception"]) hx hb hl9 hown at_fit at_fits (hts _ (List.mem_cons_of_mem _ tw_3_73)) (hts _ (List.mem_cons_of_mem _ tw_1_13)) hZ.2.2.2.2.2.1 (vx_hat (L := vx_atS RX8 36 "java/lang/IllegalArgumentException" ["java/lang/RuntimeException", "java/lang/Exception"]) (B := [.castable "java/lang/IllegalArgumentException" "java/lang/IllegalArgumentException", .declares ⟨"java/lang/RuntimeException", "<init>", "(Ljava/lang/String;)V"⟩, .declares ⟨"java/lang/Exception", "<init>", "(Ljava/lang/String;)V"⟩, .declares ⟨"java/lang/Throwable", "<init>", "(Ljava/lang/String;)V"⟩]) (fun w hw => hts w (List.mem_cons_of_mem _ (at_in w hw))) at_bad (vx_c (va_Nw.use rfl hZ.2.2.2.2.2.2.2.1) (vx_c (va_Nw.use rfl hZ.2.2.2.2.2.2.2.2.1) (vx_c (va_Nw.use rfl hZ.2.2.2.2.2.2.2.2.2.1) (vx_c (va_Nw.use rfl hZ.2.2.2.2.2.2.2.2.2.2) vx_n))))) at_good hZ.1 hZ.2.1 hS (hl.1.trans hml.symm) dX8_look_7 dX8_look_10 dX8_look_11 dX8_look_13 dX8_look_16 (fun x hx => (hte x hx).elim) (Nat.le_of_ble_eq_true rfl) (Nat.le_of_ble_eq_true rfl) (Nat.le_of_ble_eq_true rfl) (Nat.le_of_ble_eq_true rfl) hlocks (fun t ha hsz hk => ⟨(), hok, ⟨rfl, hP.kept (fun k q hq => hk q.1 (hP k q hq).lt), va_K.moved ha hK, hD⟩, Nat.le_trans hS.1 hsz, fun q h1 h2 => (hk q (Nat.lt_of_lt_of_le h1 hS.1)).trans (hS.2.1 q h1 h2)⟩) hS.2.2 (Nat.le_of_ble_eq_true rfl) (Nat.le_of_ble_eq_true rfl)
def wp_X8_set (σ : S_BM) (a1 : Int32) (a2 : Int32) (Φ : S_BM → Prop) (Ψ : Prop) : Prop := ((a1 = 0 → (Φ ((upd σ.1.1 0 (a2 &&& (255 : Int32)), σ.1.2.1, σ.1.2.2.1, σ.1.2.2.2), σ.2))) ∧ (a1 = 1 → (Φ ((upd σ.1.1 1 (a2 &&& (255 : Int32)), σ.1.2.1, σ.1.2.2.1, σ.1.2.2.2), σ.2))) ∧ (a1 = 2 → (Φ ((upd σ.1.1 2 (a2 &&& (255 : Int32)), σ.1.2.1, σ.1.2.2.1, σ.1.2.2.2), σ.2))) ∧ (a1 = 3 → (Φ ((upd σ.1.1 3 (a2 &&& (255 : Int32)), σ.1.2.1, σ.1.2.2.1, σ.1.2.2.2), σ.2))) ∧ (a1 = 4 → (Φ ((upd σ.1.1 4 ((a2 &&& (255 : Int32)) ||| (48 : Int32)), σ.1.2.1, σ.1.2.2.1, σ.1.2.2.2), σ.2))) ∧ (a1 = 5 → (Φ ((upd σ.1.1 5 (a2 &&& (65535 : Int32)), σ.1.2.1, σ.1.2.2.1, σ.1.2.2.2), σ.2))) ∧ ((¬ a1 = 0 ∧ ¬ a1 = 1 ∧ ¬ a1 = 2 ∧ ¬ a1 = 3 ∧ ¬ a1 = 4 ∧ ¬ a1 = 5) → (Ψ)))
set_option maxHeartbeats 4000000 in
set_option maxRecDepth 100000 in
theorem c_X8_set (l : Launch) (hl9 : l.stackTraces = false) (dC : Nat → ClassId) (dI : Nat → Nat → Nat) (cI cJ : ClassId) (h : Nat → Nat) (tt zs : Nat → Nat) (sz : Nat) {σ : S_BM} {a1 : Int32} {a2 : Int32} {Φ : S_BM → Prop} {Ψ : Prop} (hok : wp_X8_set σ a1 a2 Φ Ψ) : vx_Met l yX8_set wsX8_set ({ frames := 6, cells := 1, slots := 6, locals := 82 }) (va_Pc [.ref (h 0), .int a1, .int a2] (cpreX dC dI cI cJ tt zs (w_BM h cI cJ σ) sz)) (va_Qv Φ (fun u => cpost dC dI cI cJ (va_A (w_BM h cI cJ σ) sz) (w_BM h cI cJ u)) (va_A (w_BM h cI cJ σ) sz)) (vx_X (fun _ : Unit => Ψ) (fun E _ t => E = "java/lang/IllegalArgumentException" ∧ cpost dC dI cI cJ (va_A (w_BM h cI cJ σ) sz) (w_BM h cI cJ σ) t) (va_A (w_BM h cI cJ σ) sz)) 1 6 (va_A (w_BM h cI cJ σ) sz) := by
  refine vx_ofW (cc := cX8_set) (maxL := 3) (ret := none) (by decide) rfl ?_
  intro p e s m args below meth c s₁ B hml hte hv
  obtain ⟨rfl, ⟨⟨hsz, hP, hK, hD0⟩, hT⟩, hZ⟩ := hv
  have hx := B.exec
  have hb := B.bytes
  have hr := B.returns
  have hts := atoms_spec (ws := wsX8_set) B.pre
  have hown : s.vm.findClass RX8 = some m.cls := findClass_of_methodNamed B.named
  have hlocks := B.notSynchronized
  subst hsz
  have hD := hD0.self (sz := s.heap.size)
  generalize hAe : va_A (w_BM h cI cJ σ) s.heap.size = A at hD hT hZ ⊢
  have hA : ∀ q : Nat, s.heap.size ≤ q → A q := fun q h => by rw [← hAe]; exact Or.inr h
  clear hD0 hAe
  have hS : va_S A s.heap s.heap [] := va_S.rf
  have hl := lv_entry ([.ref (h 0), .int a1, .int a2]) (n := 3) (Nat.le_of_ble_eq_true rfl)
  rw [lg_entry_eq]
  generalize (lg_sl ([.ref (h 0), .int a1, .int a2]) ++ List.replicate (3 - (lg_sl ([.ref (h 0), .int a1, .int a2])).length) Slot.unset).toArray = ls at hl ⊢
  have hl : lv_has ls 3 [(0, .ref (h 0)), (1, .int a1), (2, .int a2)] := hl
  unfold wp_X8_set at hok
  refine lv_iload_n hx hb dX8_set_0 rfl (lv_at hl 1 rfl) ?_
  by_cases c1 : a1 = 0
  · have hok := hok.1 c1
    refine lv_tableIn (tgt := 40) (off := 39) hx hb dX8_set_1 (by rw [c1]; decide) (by rw [c1]; decide) (by rw [c1]; decide) (by decide) ?_
    refine lv_aload_n hx hb dX8_set_40 rfl (lv_at hl 0 rfl) ?_
    refine va_get (D := (dC, dI)) (ci := 7) (v := .ref (h 1)) (C := RX8) (T := TX8) (N := 3) hx hb hts (fun w h => List.mem_cons_of_mem _ (in_X8 w h)) hown hK hP 0 rfl rfl 1 (by decide) (hts _ (List.mem_cons_of_mem _ tw_1_220)) (fun _ h9 => h9) rfl dX8_set_41 ?_
    refine lv_iload_n hx hb dX8_set_44 rfl (lv_at hl 2 rfl) ?_
    refine lv_sipush (v := 255) hx hb dX8_set_45 (by decide) ?_
    refine lv_iand hx hb dX8_set_48 ?_
    refine va_put (D := (dC, dI)) (ci := 4) (v := .int (a2 &&& (255 : Int32))) (ty := .int) (C := RX5) (T := TX5) (N := 15) hx hb hts (fun w h => List.mem_cons_of_mem _ (in_X5 w h)) tyX5 tyX5_ok nmX5 hown hK hP hD hS 1 rfl rfl 0 (by decide) (hts _ (List.mem_cons_of_mem _ tw_1_147)) (fun _ h9 => h9) rfl (by decide +kernel) rfl rfl (Nat.le_of_ble_eq_true rfl) dX8_set_49 (fun H locs hP hD hS => ?_)
    have hP : va_P (dC, dI) vwCl (w_BM h cI cJ ((upd σ.1.1 0 (a2 &&& (255 : Int32)), σ.1.2.1, σ.1.2.2.1, σ.1.2.2.2), σ.2)) _ := hP
    have hD : va_D A (w_BM h cI cJ ((upd σ.1.1 0 (a2 &&& (255 : Int32)), σ.1.2.1, σ.1.2.2.1, σ.1.2.2.2), σ.2)) := hD
    refine lv_goto (tgt := 142) hx hb dX8_set_52 (by decide) ?_
    refine vx_ret (W.widen (k := 1) (n := 6) (Nat.le_of_ble_eq_true rfl) (Nat.le_of_ble_eq_true rfl) ?_)
    exact W.vret hx hb hr (fun t ht hW => ⟨⟨((upd σ.1.1 0 (a2 &&& (255 : Int32)), σ.1.2.1, σ.1.2.2.1, σ.1.2.2.2), σ.2), rfl, hok, by rw [ht]; exact hP, va_K.moved hW.alike hK, hD⟩, hS.F ht⟩) hS.2.2 dX8_set_142
  have hok := hok.2
  by_cases c2 : a1 = 1
  · have hok := hok.1 c2
    refine lv_tableIn (tgt := 55) (off := 54) hx hb dX8_set_1 (by rw [c2]; decide) (by rw [c2]; decide) (by rw [c2]; decide) (by decide) ?_
    refine lv_aload_n hx hb dX8_set_55 rfl (lv_at hl 0 rfl) ?_
    refine va_get (D := (dC, dI)) (ci := 7) (v := .ref (h 1)) (C := RX8) (T := TX8) (N := 3) hx hb hts (fun w h => List.mem_cons_of_mem _ (in_X8 w h)) hown hK hP 0 rfl rfl 1 (by decide) (hts _ (List.mem_cons_of_mem _ tw_1_220)) (fun _ h9 => h9) rfl dX8_set_56 ?_
    refine lv_iload_n hx hb dX8_set_59 rfl (lv_at hl 2 rfl) ?_
    refine lv_sipush (v := 255) hx hb dX8_set_60 (by decide) ?_
    refine lv_iand hx hb dX8_set_63 ?_
    refine va_put (D := (dC, dI)) (ci := 4) (v := .int (a2 &&& (255 : Int32))) (ty := .int) (C := RX5) (T := TX5) (N := 15) hx hb hts (fun w h => List.mem_cons_of_mem _ (in_X5 w h)) tyX5 tyX5_ok nmX5 hown hK hP hD hS 1 rfl rfl 1 (by decide) (hts _ (List.mem_cons_of_mem _ tw_1_150)) (fun _ h9 => h9) rfl (by decide +kernel) rfl rfl (Nat.le_of_ble_eq_true rfl) dX8_set_64 (fun H locs hP hD hS => ?_)
    have hP : va_P (dC, dI) vwCl (w_BM h cI cJ ((upd σ.1.1 1 (a2 &&& (255 : Int32)), σ.1.2.1, σ.1.2.2.1, σ.1.2.2.2), σ.2)) _ := hP
    have hD : va_D A (w_BM h cI cJ ((upd σ.1.1 1 (a2 &&& (255 : Int32)), σ.1.2.1, σ.1.2.2.1, σ.1.2.2.2), σ.2)) := hD
    refine lv_goto (tgt := 142) hx hb dX8_set_67 (by decide) ?_
    refine vx_ret (W.widen (k := 1) (n := 6) (Nat.le_of_ble_eq_true rfl) (Nat.le_of_ble_eq_true rfl) ?_)
    exact W.vret hx hb hr (fun t ht hW => ⟨⟨((upd σ.1.1 1 (a2 &&& (255 : Int32)), σ.1.2.1, σ.1.2.2.1, σ.1.2.2.2), σ.2), rfl, hok, by rw [ht]; exact hP, va_K.moved hW.alike hK, hD⟩, hS.F ht⟩) hS.2.2 dX8_set_142
  have hok := hok.2
  by_cases c3 : a1 = 2
  · have hok := hok.1 c3
    refine lv_tableIn (tgt := 70) (off := 69) hx hb dX8_set_1 (by rw [c3]; decide) (by rw [c3]; decide) (by rw [c3]; decide) (by decide) ?_
    refine lv_aload_n hx hb dX8_set_70 rfl (lv_at hl 0 rfl) ?_
    refine va_get (D := (dC, dI)) (ci := 7) (v := .ref (h 1)) (C := RX8) (T := TX8) (N := 3) hx hb hts (fun w h => List.mem_cons_of_mem _ (in_X8 w h)) hown hK hP 0 rfl rfl 1 (by decide) (hts _ (List.mem_cons_of_mem _ tw_1_220)) (fun _ h9 => h9) rfl dX8_set_71 ?_
    refine lv_iload_n hx hb dX8_set_74 rfl (lv_at hl 2 rfl) ?_
    refine lv_sipush (v := 255) hx hb dX8_set_75 (by decide) ?_
    refine lv_iand hx hb dX8_set_78 ?_
    refine va_put (D := (dC, dI)) (ci := 4) (v := .int (a2 &&& (255 : Int32))) (ty := .int) (C := RX5) (T := TX5) (N := 15) hx hb hts (fun w h => List.mem_cons_of_mem _ (in_X5 w h)) tyX5 tyX5_ok nmX5 hown hK hP hD hS 1 rfl rfl 2 (by decide) (hts _ (List.mem_cons_of_mem _ tw_1_152)) (fun _ h9 => h9) rfl (by decide +kernel) rfl rfl (Nat.le_of_ble_eq_true rfl) dX8_set_79 (fun H locs hP hD hS => ?_)
    have hP : va_P (dC, dI) vwCl (w_BM h cI cJ ((upd σ.1.1 2 (a2 &&& (255 : Int32)), σ.1.2.1, σ.1.2.2.1, σ.1.2.2.2), σ.2)) _ := hP
    have hD : va_D A (w_BM h cI cJ ((upd σ.1.1 2 (a2 &&& (255 : Int32)), σ.1.2.1, σ.1.2.2.1, σ.1.2.2.2), σ.2)) := hD
    refine lv_goto (tgt := 142) hx hb dX8_set_82 (by decide) ?_
    refine vx_ret (W.widen (k := 1) (n := 6) (Nat.le_of_ble_eq_true rfl) (Nat.le_of_ble_eq_true rfl) ?_)
    exact W.vret hx hb hr (fun t ht hW => ⟨⟨((upd σ.1.1 2 (a2 &&& (255 : Int32)), σ.1.2.1, σ.1.2.2.1, σ.1.2.2.2), σ.2), rfl, hok, by rw [ht]; exact hP, va_K.moved hW.alike hK, hD⟩, hS.F ht⟩) hS.2.2 dX8_set_142
  have hok := hok.2
  by_cases c4 : a1 = 3
  · have hok := hok.1 c4
    refine lv_tableIn (tgt := 85) (off := 84) hx hb dX8_set_1 (by rw [c4]; decide) (by rw [c4]; decide) (by rw [c4]; decide) (by decide) ?_
    refine lv_aload_n hx hb dX8_set_85 rfl (lv_at hl 0 rfl) ?_
    refine va_get (D := (dC, dI)) (ci := 7) (v := .ref (h 1)) (C := RX8) (T := TX8) (N := 3) hx hb hts (fun w h => List.mem_cons_of_mem _ (in_X8 w h)) hown hK hP 0 rfl rfl 1 (by decide) (hts _ (List.mem_cons_of_mem _ tw_1_220)) (fun _ h9 => h9) rfl dX8_set_86 ?_
    refine lv_iload_n hx hb dX8_set_89 rfl (lv_at hl 2 rfl) ?_
    refine lv_sipush (v := 255) hx hb dX8_set_90 (by decide) ?_
    refine lv_iand hx hb dX8_set_93 ?_
    refine va_put (D := (dC, dI)) (ci := 4) (v := .int (a2 &&& (255 : Int32))) (ty := .int) (C := RX5) (T := TX5) (N := 15) hx hb hts (fun w h => List.mem_cons_of_mem _ (in_X5 w h)) tyX5 tyX5_ok nmX5 hown hK hP hD hS 1 rfl rfl 3 (by decide) (hts _ (List.mem_cons_of_mem _ tw_1_154)) (fun _ h9 => h9) rfl (by decide +kernel) rfl rfl (Nat.le_of_ble_eq_true rfl) dX8_set_94 (fun H locs hP hD hS => ?_)
    have hP : va_P (dC, dI) vwCl (w_BM h cI cJ ((upd σ.1.1 3 (a2 &&& (255 : Int32)), σ.1.2.1, σ.1.2.2.1, σ.1.2.2.2), σ.2)) _ := hP
    have hD : va_D A (w_BM h cI cJ ((upd σ.1.1 3 (a2 &&& (255 : Int32)), σ.1.2.1, σ.1.2.2.1, σ.1.2.2.2), σ.2)) := hD
    refine lv_goto (tgt := 142) hx hb dX8_set_97 (by decide) ?_
    refine vx_ret (W.widen (k := 1) (n := 6) (Nat.le_of_ble_eq_true rfl) (Nat.le_of_ble_eq_true rfl) ?_)
    exact W.vret hx hb hr (fun t ht hW => ⟨⟨((upd σ.1.1 3 (a2 &&& (255 : Int32)), σ.1.2.1, σ.1.2.2.1, σ.1.2.2.2), σ.2), rfl, hok, by rw [ht]; exact hP, va_K.moved hW.alike hK, hD⟩, hS.F ht⟩) hS.2.2 dX8_set_142
  have hok := hok.2
  by_cases c5 : a1 = 4
  · have hok := hok.1 c5
    refine lv_tableIn (tgt := 100) (off := 99) hx hb dX8_set_1 (by rw [c5]; decide) (by rw [c5]; decide) (by rw [c5]; decide) (by decide) ?_
    refine lv_aload_n hx hb dX8_set_100 rfl (lv_at hl 0 rfl) ?_
    refine va_get (D := (dC, dI)) (ci := 7) (v := .ref (h 1)) (C := RX8) (T := TX8) (N := 3) hx hb hts (fun w h => List.mem_cons_of_mem _ (in_X8 w h)) hown hK hP 0 rfl rfl 1 (by decide) (hts _ (List.mem_cons_of_mem _ tw_1_220)) (fun _ h9 => h9) rfl dX8_set_101 ?_
    refine lv_iload_n hx hb dX8_set_104 rfl (lv_at hl 2 rfl) ?_
    refine lv_sipush (v := 255) hx hb dX8_set_105 (by decide) ?_
    refine lv_iand hx hb dX8_set_108 ?_
    refine lv_bipush (v := 48) hx hb dX8_set_109 (by decide) ?_
    refine lv_ior hx hb dX8_set_111 ?_
    refine va_put (D := (dC, dI)) (ci := 4) (v := .int ((a2 &&& (255 : Int32)) ||| (48 : Int32))) (ty := .int) (C := RX5) (T := TX5) (N := 15) hx hb hts (fun w h => List.mem_cons_of_mem _ (in_X5 w h)) tyX5 tyX5_ok nmX5 hown hK hP hD hS 1 rfl rfl 4 (by decide) (hts _ (List.mem_cons_of_mem _ tw_1_156)) (fun _ h9 => h9) rfl (by decide +kernel) rfl rfl (Nat.le_of_ble_eq_true rfl) dX8_set_112 (fun H locs hP hD hS => ?_)
    have hP : va_P (dC, dI) vwCl (w_BM h cI cJ ((upd σ.1.1 4 ((a2 &&& (255 : Int32)) ||| (48 : Int32)), σ.1.2.1, σ.1.2.2.1, σ.1.2.2.2), σ.2)) _ := hP
    have hD : va_D A (w_BM h cI cJ ((upd σ.1.1 4 ((a2 &&& (255 : Int32)) ||| (48 : Int32)), σ.1.2.1, σ.1.2.2.1, σ.1.2.2.2), σ.2)) := hD
    refine lv_goto (tgt := 142) hx hb dX8_set_115 (by decide) ?_
    refine vx_ret (W.widen (k := 1) (n := 6) (Nat.le_of_ble_eq_true rfl) (Nat.le_of_ble_eq_true rfl) ?_)
    exact W.vret hx hb hr (fun t ht hW => ⟨⟨((upd σ.1.1 4 ((a2 &&& (255 : Int32)) ||| (48 : Int32)), σ.1.2.1, σ.1.2.2.1, σ.1.2.2.2), σ.2), rfl, hok, by rw [ht]; exact hP, va_K.moved hW.alike hK, hD⟩, hS.F ht⟩) hS.2.2 dX8_set_142
  have hok := hok.2
  by_cases c6 : a1 = 5
  · have hok := hok.1 c6
    refine lv_tableIn (tgt := 118) (off := 117) hx hb dX8_set_1 (by rw [c6]; decide) (by rw [c6]; decide) (by rw [c6]; decide) (by decide) ?_
    refine lv_aload_n hx hb dX8_set_118 rfl (lv_at hl 0 rfl) ?_
    refine va_get (D := (dC, dI)) (ci := 7) (v := .ref (h 1)) (C := RX8) (T := TX8) (N := 3) hx hb hts (fun w h => List.mem_cons_of_mem _ (in_X8 w h)) hown hK hP 0 rfl rfl 1 (by decide) (hts _ (List.mem_cons_of_mem _ tw_1_220)) (fun _ h9 => h9) rfl dX8_set_119 ?_
    refine lv_iload_n hx hb dX8_set_122 rfl (lv_at hl 2 rfl) ?_
    refine lv_ldc (v := 65535) hx hb hown (hts _ (List.mem_cons_of_mem _ tw_3_173)) dX8_set_123 ?_
    refine lv_iand hx hb dX8_set_125 ?_
    refine va_put (D := (dC, dI)) (ci := 4) (v := .int (a2 &&& (65535 : Int32))) (ty := .int) (C := RX5) (T := TX5) (N := 15) hx hb hts (fun w h => List.mem_cons_of_mem _ (in_X5 w h)) tyX5 tyX5_ok nmX5 hown hK hP hD hS 1 rfl rfl 5 (by decide) (hts _ (List.mem_cons_of_mem _ tw_1_158)) (fun _ h9 => h9) rfl (by decide +kernel) rfl rfl (Nat.le_of_ble_eq_true rfl) dX8_set_126 (fun H locs hP hD hS => ?_)
    have hP : va_P (dC, dI) vwCl (w_BM h cI cJ ((upd σ.1.1 5 (a2 &&& (65535 : Int32)), σ.1.2.1, σ.1.2.2.1, σ.1.2.2.2), σ.2)) _ := hP
    have hD : va_D A (w_BM h cI cJ ((upd σ.1.1 5 (a2 &&& (65535 : Int32)), σ.1.2.1, σ.1.2.2.1, σ.1.2.2.2), σ.2)) := hD
    refine lv_goto (tgt := 142) hx hb dX8_set_129 (by decide) ?_
    refine vx_ret (W.widen (k := 1) (n := 6) (Nat.le_of_ble_eq_true rfl) (Nat.le_of_ble_eq_true rfl) ?_)
    exact W.vret hx hb hr (fun t ht hW => ⟨⟨((upd σ.1.1 5 (a2 &&& (65535 : Int32)), σ.1.2.1, σ.1.2.2.1, σ.1.2.2.2), σ.2), rfl, hok, by rw [ht]; exact hP, va_K.moved hW.alike hK, hD⟩, hS.F ht⟩) hS.2.2 dX8_set_142
  have hok := hok.2
  have hok := hok ⟨c1, c2, c3, c4, c5, c6⟩
  have kz6 : ∀ k ∈ ([0, 1, 2, 3, 4, 5] : List Int), (a1).toInt ≠ k := List.forall_mem_cons.mpr ⟨tb_ne c1 rfl, List.forall_mem_cons.mpr ⟨tb_ne c2 rfl, List.forall_mem_cons.mpr ⟨tb_ne c3 rfl, List.forall_mem_cons.mpr ⟨tb_ne c4 rfl, List.forall_mem_cons.mpr ⟨tb_ne c5 rfl, List.forall_mem_cons.mpr ⟨tb_ne c6 rfl, fun k h => absurd h List.not_mem_nil⟩⟩⟩⟩⟩⟩
  refine tb_def (tgt := 132) (keys := [0, 1, 2, 3, 4, 5]) hx hb dX8_set_1 kz6 (by decide) (by decide) ?_
  exact vx_throwS (own := RX8) (cls := "java/lang/IllegalArgumentException") (names := ["java/lang/RuntimeException", "java/lang/Exception"]) hx hb hl9 hown at_fit at_fits (hts _ (List.mem_cons_of_mem _ tw_3_73)) (hts _ (List.mem_cons_of_mem _ tw_1_13)) hZ.2.2.2.2.2.2.1 (vx_hat (L := vx_atS RX8 36 "java/lang/IllegalArgumentException" ["java/lang/RuntimeException", "java/lang/Exception"]) (B := [.castable "java/lang/IllegalArgumentException" "java/lang/IllegalArgumentException", .declares ⟨"java/lang/RuntimeException", "<init>", "(Ljava/lang/String;)V"⟩, .declares ⟨"java/lang/Exception", "<init>", "(Ljava/lang/String;)V"⟩, .declares ⟨"java/lang/Throwable", "<init>", "(Ljava/lang/String;)V"⟩]) (fun w hw => hts w (List.mem_cons_of_mem _ (at_in w hw))) at_bad (vx_c (va_Nw.use rfl hZ.2.2.2.2.2.2.2.1) (vx_c (va_Nw.use rfl hZ.2.2.2.2.2.2.2.2.1) (vx_c (va_Nw.use rfl hZ.2.2.2.2.2.2.2.2.2.1) (vx_c (va_Nw.use rfl hZ.2.2.2.2.2.2.2.2.2.2) vx_n))))) at_good hZ.1 hZ.2.1 hS (hl.1.trans hml.symm) dX8_set_132 dX8_set_135 dX8_set_136 dX8_set_138 dX8_set_141 (fun x hx => (hte x hx).elim) (Nat.le_of_ble_eq_true rfl) (Nat.le_of_ble_eq_true rfl) (Nat.le_of_ble_eq_true rfl) (Nat.le_of_ble_eq_true rfl) hlocks (fun t ha hsz hk => ⟨(), hok, ⟨rfl, hP.kept (fun k q hq => hk q.1 (hP k q hq).lt), va_K.moved ha hK, hD⟩, Nat.le_trans hS.1 hsz, fun q h1 h2 => (hk q (Nat.lt_of_lt_of_le h1 hS.1)).trans (hS.2.1 q h1 h2)⟩) hS.2.2 (Nat.le_of_ble_eq_true rfl) (Nat.le_of_ble_eq_true rfl)
