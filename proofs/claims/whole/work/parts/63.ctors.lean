theorem tw_1_21 : Cond.methodLink RX8 1 ⟨"java/lang/Object", "<init>", "()V"⟩ ∈ tbl := tbl_1 (i := 21) rfl rfl
theorem tw_1_22 : Cond.instanceMethod ⟨"java/lang/Object", "<init>", "()V"⟩ ∈ tbl := tbl_1 (i := 22) rfl rfl
theorem tw_1_23 : Cond.code ⟨"java/lang/Object", "<init>", "()V"⟩ object_method_1_code 1 none ∈ tbl := tbl_1 (i := 23) rfl rfl
theorem tw_1_24 : Cond.classLink RX8 7 RX0 ∈ tbl := tbl_1 (i := 24) rfl rfl
theorem tw_1_25 : Cond.instantiable RX0 4 ∈ tbl := tbl_1 (i := 25) rfl rfl
theorem tw_1_27 : Cond.instanceMethod yX0_init ∈ tbl := tbl_1 (i := 27) rfl rfl
theorem tw_1_28 : Cond.code yX0_init cX0_init 1 none ∈ tbl := tbl_1 (i := 28) rfl rfl
theorem tw_1_29 : Cond.methodLink RX0 5 ⟨"java/lang/Object", "<init>", "()V"⟩ ∈ tbl := tbl_1 (i := 29) rfl rfl
theorem tw_1_30 : Cond.classLink RX0 11 RX6 ∈ tbl := tbl_1 (i := 30) rfl rfl
theorem tw_1_31 : Cond.instantiable RX6 9 ∈ tbl := tbl_1 (i := 31) rfl rfl
theorem tw_1_33 : Cond.instanceMethod yX6_init ∈ tbl := tbl_1 (i := 33) rfl rfl
theorem tw_1_34 : Cond.code yX6_init cX6_init 1 none ∈ tbl := tbl_1 (i := 34) rfl rfl
theorem tw_1_35 : Cond.methodLink RX6 1 ⟨"java/lang/Object", "<init>", "()V"⟩ ∈ tbl := tbl_1 (i := 35) rfl rfl
theorem tw_1_70 : Cond.classLink RX0 18 RX4 ∈ tbl := tbl_1 (i := 70) rfl rfl
theorem tw_1_71 : Cond.instantiable RX4 6 ∈ tbl := tbl_1 (i := 71) rfl rfl
theorem tw_1_73 : Cond.instanceMethod yX4_init ∈ tbl := tbl_1 (i := 73) rfl rfl
theorem tw_1_74 : Cond.code yX4_init cX4_init 1 none ∈ tbl := tbl_1 (i := 74) rfl rfl
theorem tw_1_75 : Cond.methodLink RX4 3 ⟨"java/lang/Object", "<init>", "()V"⟩ ∈ tbl := tbl_1 (i := 75) rfl rfl
theorem tw_1_97 : Cond.arrayClass .int ∈ tbl := tbl_1 (i := 97) rfl rfl
theorem tw_1_98 : Cond.classLink RX0 25 RX3 ∈ tbl := tbl_1 (i := 98) rfl rfl
theorem tw_1_99 : Cond.instantiable RX3 1 ∈ tbl := tbl_1 (i := 99) rfl rfl
theorem tw_1_100 : Cond.constant RX0 27 81920 ∈ tbl := tbl_1 (i := 100) rfl rfl
theorem tw_1_101 : Cond.methodLink RX0 28 yX3_init ∈ tbl := tbl_1 (i := 101) rfl rfl
theorem tw_1_102 : Cond.instanceMethod yX3_init ∈ tbl := tbl_1 (i := 102) rfl rfl
theorem tw_1_103 : Cond.code yX3_init cX3_init 2 none ∈ tbl := tbl_1 (i := 103) rfl rfl
theorem tw_1_104 : Cond.methodLink RX3 1 ⟨"java/lang/Object", "<init>", "()V"⟩ ∈ tbl := tbl_1 (i := 104) rfl rfl
theorem tw_1_109 : Cond.arrayClass .long ∈ tbl := tbl_1 (i := 109) rfl rfl
theorem tw_1_127 : Cond.classLink RX8 16 RX5 ∈ tbl := tbl_1 (i := 127) rfl rfl
theorem tw_1_128 : Cond.instantiable RX5 15 ∈ tbl := tbl_1 (i := 128) rfl rfl
theorem tw_1_129 : Cond.methodLink RX8 18 yX5_init ∈ tbl := tbl_1 (i := 129) rfl rfl
theorem tw_1_130 : Cond.instanceMethod yX5_init ∈ tbl := tbl_1 (i := 130) rfl rfl
theorem tw_1_131 : Cond.code yX5_init cX5_init 2 none ∈ tbl := tbl_1 (i := 131) rfl rfl
theorem tw_1_132 : Cond.methodLink RX5 1 ⟨"java/lang/Object", "<init>", "()V"⟩ ∈ tbl := tbl_1 (i := 132) rfl rfl
theorem tw_1_133 : Cond.classLink RX5 13 RX7 ∈ tbl := tbl_1 (i := 133) rfl rfl
theorem tw_1_134 : Cond.instantiable RX7 2 ∈ tbl := tbl_1 (i := 134) rfl rfl
theorem tw_1_136 : Cond.instanceMethod yX7_init ∈ tbl := tbl_1 (i := 136) rfl rfl
theorem tw_1_137 : Cond.code yX7_init cX7_init 1 none ∈ tbl := tbl_1 (i := 137) rfl rfl
theorem tw_1_138 : Cond.methodLink RX7 3 ⟨"java/lang/Object", "<init>", "()V"⟩ ∈ tbl := tbl_1 (i := 138) rfl rfl
theorem tw_1_205 : Cond.classLink RX8 25 RX1 ∈ tbl := tbl_1 (i := 205) rfl rfl
theorem tw_1_206 : Cond.instantiable RX1 2 ∈ tbl := tbl_1 (i := 206) rfl rfl
theorem tw_1_208 : Cond.instanceMethod yX1_init ∈ tbl := tbl_1 (i := 208) rfl rfl
theorem tw_1_209 : Cond.code yX1_init cX1_init 1 none ∈ tbl := tbl_1 (i := 209) rfl rfl
theorem tw_1_210 : Cond.methodLink RX1 3 ⟨"java/lang/Object", "<init>", "()V"⟩ ∈ tbl := tbl_1 (i := 210) rfl rfl
theorem tw_3_180 : Cond.methodLink RX9 1 ⟨"java/lang/Object", "<init>", "()V"⟩ ∈ tbl := tbl_3 (i := 180) rfl rfl
theorem tw_3_181 : Cond.constant RX9 7 81920 ∈ tbl := tbl_3 (i := 181) rfl rfl
/-! constructors -/
theorem vc_I (n : Nat) : ∀ cA : ClassId, vp_cell cA (n, .inl (fun _ => 0)) = arrV cA n (fun _ => defaultValue .int) := fun _ => rfl
theorem vc_J (n : Nat) : ∀ cA : ClassId, vp_cell cA (n, .inr (.inl (fun _ => 0))) = arrV cA n (fun _ => defaultValue .long) := fun _ => rfl
theorem tb_gI {n : Nat} {y : MethodName} {b : ByteArray} {r : Option FieldType} {hd : Cond} (h5 : Cond.code y b n r ∈ tbl) : GoodIn (hd :: tbl) (Cond.code y b n r :: tbl) := by
  intro w hw
  have hm : w ∈ tbl := by
    rcases List.mem_cons.mp hw with rfl | h
    · exact h5
    · exact h
  exact ⟨List.mem_cons_of_mem _ hm, good_of_word (tbl_good hm)⟩
def nst (U : State) : Prop := va_Nw (Cond.methodLinkNest RX8 9 yX0_init RX8) U ∧ va_Nw (Cond.methodLinkNest RX0 13 yX6_init RX8) U ∧ va_Nw (Cond.methodLinkNest RX0 20 yX4_init RX8) U ∧ va_Nw (Cond.methodLinkNest RX5 15 yX7_init RX8) U ∧ va_Nw (Cond.methodLinkNest RX8 27 yX1_init RX8) U
theorem nst.warm {s U : State} (hW : s.WarmedH U.vm) (h : nst s) : nst U := ⟨va_Nw.warmM hW h.1, va_Nw.warmM hW h.2.1, va_Nw.warmM hW h.2.2.1, va_Nw.warmM hW h.2.2.2.1, va_Nw.warmM hW h.2.2.2.2⟩
theorem nst.same {s U : State} (hv : U.vm = s.vm) (h : nst s) : nst U := ⟨h.1.same rfl hv.symm, h.2.1.same rfl hv.symm, h.2.2.1.same rfl hv.symm, h.2.2.2.1.same rfl hv.symm, h.2.2.2.2.same rfl hv.symm⟩
abbrev cpreK (dC : Nat → ClassId) (dI : Nat → Nat → Nat) (cI cJ : ClassId) (w : va_W) (sz : Nat) (U : State) : Prop := cpre dC dI cI cJ w sz U ∧ nst U
theorem cpreK_blind {av : List Value} {dC : Nat → ClassId} {dI : Nat → Nat → Nat} {cI cJ : ClassId} {w : va_W} {sz : Nat} : FrameBlind (va_Pc av (cpreK dC dI cI cJ w sz)) := fun a U g mk q => by
  obtain ⟨q0, ⟨q1, qP, qK, qD⟩, qN⟩ := q
  exact ⟨q0, ⟨q1, qP, va_K.moved (u := U) (U := U.calling g mk a) (Vm.Alike.refl U.vm) qK, qD⟩, nst.same (s := U) (U := U.calling g mk a) rfl qN⟩
theorem cpre_SK {s : State} {H : Heap} {dC : Nat → ClassId} {dI : Nat → Nat → Nat} {cI cJ : ClassId} {w : va_W} {A : Nat → Prop} {As : List Value} (hK : va_K (dC, dI) vwCl [(cI, .int), (cJ, .long)] s) (hP : va_P (dC, dI) vwCl w H) (hD : va_D A w) (hN : nst s) : PreS s H (va_Pc As (cpreK dC dI cI cJ w H.size)) As :=
  ⟨cpreK_blind, fun U hU hW => ⟨rfl, ⟨by rw [hU], by rw [hU]; exact hP, va_K.moved hW.alike hK, hD.weaken (fun _ _ _ _ => trivial)⟩, nst.warm hW hN⟩⟩
set_option maxHeartbeats 4000000 in
set_option maxRecDepth 100000 in
theorem c_X6_init (l : Launch) (dC : Nat → ClassId) (dI : Nat → Nat → Nat) (cI cJ : ClassId) (a : Nat) (sz : Nat) : Met l yX6_init wsX6_init ({ frames := 1, cells := 0, slots := 0, locals := 12 }) (va_Pc [.ref a] (cpre dC dI cI cJ [(a, .inr (5, [.int 0, .int 0, .int 0, .int 0, .int 0, .int 0, .int 0, .int 0, .int 0]))] sz)) (va_Qv (fun u : Nat → Nat => u 5 = a) (fun u => cpost dC dI cI cJ (va_A [(a, .inr (5, [.int 0, .int 0, .int 0, .int 0, .int 0, .int 0, .int 0, .int 0, .int 0]))] sz) (w_Timers u cI cJ (upd (upd (fun _ => 0) 0 65535) 1 65535))) (va_A [(a, .inr (5, [.int 0, .int 0, .int 0, .int 0, .int 0, .int 0, .int 0, .int 0, .int 0]))] sz)) 0 0 (va_A [(a, .inr (5, [.int 0, .int 0, .int 0, .int 0, .int 0, .int 0, .int 0, .int 0, .int 0]))] sz) := by
  refine Met.ofW (cc := cX6_init) (maxL := 1) (ret := none) (by decide) rfl ?_
  intro p e s m args below meth c s₁ B hml hv
  obtain ⟨rfl, hsz, hP, hK, hD0⟩ := hv
  have hx := B.exec
  have hb := B.bytes
  have hr := B.returns
  have hts := atoms_spec (ws := wsX6_init) B.pre
  have hown : s.vm.findClass RX6 = some m.cls := findClass_of_methodNamed B.named
  have hlocks := B.notSynchronized
  have hin : meth.name = "<init>" := (name_of_methodNamed B.named B.method).1
  subst hsz
  have hD := hD0.self (sz := s.heap.size)
  generalize hAe : va_A [(a, .inr (5, [.int 0, .int 0, .int 0, .int 0, .int 0, .int 0, .int 0, .int 0, .int 0]))] s.heap.size = A at hD ⊢
  have hA : ∀ q : Nat, s.heap.size ≤ q → A q := fun q h => by rw [← hAe]; exact Or.inr h
  clear hD0 hAe
  have hS : va_S A s.heap s.heap [] := va_S.rf
  have hl := lv_entry ([.ref a]) (n := 1) (Nat.le_of_ble_eq_true rfl)
  rw [lg_entry_eq]
  generalize (lg_sl ([.ref a]) ++ List.replicate (1 - (lg_sl ([.ref a])).length) Slot.unset).toArray = ls at hl ⊢
  have hl : lv_has ls 1 [(0, .ref a)] := hl
  have H := s.heap
  clear H
  refine lv_aload_n hx hb dX6_init_0 rfl (lv_at hl 0 rfl) ?_
  refine W.objInit hx hb hown (hts _ (List.mem_cons_of_mem _ tw_1_35)) (hts _ (List.mem_cons_of_mem _ tw_1_22)) (hts _ (List.mem_cons_of_mem _ tw_1_23)) rfl (by rw [hml]; exact hl.1) rfl dX6_init_1 (Nat.le_of_ble_eq_true rfl) (Nat.le_of_ble_eq_true rfl) ?_
  refine W.eq (g2 := F0 m 4 ls []) rfl ?_
  refine lv_aload_n hx hb dX6_init_4 rfl (lv_at hl 0 rfl) ?_
  refine lv_ldc (v := 65535) hx hb hown (hts _ (List.mem_cons_of_mem _ tw_1_36)) dX6_init_5 ?_
  refine va_put (D := (dC, dI)) (ci := 5) (v := .int 65535) (ty := .int) (C := RX6) (T := TX6) (N := 9) hx hb hts (fun w h => List.mem_cons_of_mem _ (in_X6 w h)) tyX6 tyX6_ok nmX6 hown hK hP hD hS 0 rfl rfl 0 (by decide) (hts _ (List.mem_cons_of_mem _ tw_1_37)) (fun _ h9 => h9) rfl (by decide +kernel) rfl rfl (Nat.le_of_ble_eq_true rfl) dX6_init_7 (fun H locs hP hD hS => ?_)
  have hP : va_P (dC, dI) vwCl [(a, .inr (5, [.int 65535, .int 0, .int 0, .int 0, .int 0, .int 0, .int 0, .int 0, .int 0]))] H := hP
  have hD : va_D A [(a, .inr (5, [.int 65535, .int 0, .int 0, .int 0, .int 0, .int 0, .int 0, .int 0, .int 0]))] := hD
  refine lv_aload_n hx hb dX6_init_10 rfl (lv_at hl 0 rfl) ?_
  refine lv_ldc (v := 65535) hx hb hown (hts _ (List.mem_cons_of_mem _ tw_1_36)) dX6_init_11 ?_
  refine va_put (D := (dC, dI)) (ci := 5) (v := .int 65535) (ty := .int) (C := RX6) (T := TX6) (N := 9) hx hb hts (fun w h => List.mem_cons_of_mem _ (in_X6 w h)) tyX6 tyX6_ok nmX6 hown hK hP hD hS 0 rfl rfl 1 (by decide) (hts _ (List.mem_cons_of_mem _ tw_1_39)) (fun _ h9 => h9) rfl (by decide +kernel) rfl rfl (Nat.le_of_ble_eq_true rfl) dX6_init_13 (fun H locs hP hD hS => ?_)
  have hP : va_P (dC, dI) vwCl [(a, .inr (5, [.int 65535, .int 65535, .int 0, .int 0, .int 0, .int 0, .int 0, .int 0, .int 0]))] H := hP
  have hD : va_D A [(a, .inr (5, [.int 65535, .int 65535, .int 0, .int 0, .int 0, .int 0, .int 0, .int 0, .int 0]))] := hD
  have hP9 := hP.sub (ws' := w_Timers (fun i : Nat => match i with | 5 => a | _ => 0) cI cJ (upd (upd (fun _ => 0) 0 65535) 1 65535)) [0] rfl
  have hD9 := hD.sub (ws' := w_Timers (fun i : Nat => match i with | 5 => a | _ => 0) cI cJ (upd (upd (fun _ => 0) 0 65535) 1 65535)) [0] (by decide) rfl
  exact W.vret hx hb hr (fun t ht hW => ⟨⟨(fun i : Nat => match i with | 5 => a | _ => 0), rfl, rfl, by rw [ht]; exact hP9, va_K.moved hW.alike hK, hD9⟩, hS.F ht⟩) hS.2.2 dX6_init_16
set_option maxHeartbeats 4000000 in
set_option maxRecDepth 100000 in
theorem c_X4_init (l : Launch) (dC : Nat → ClassId) (dI : Nat → Nat → Nat) (cI cJ : ClassId) (a : Nat) (sz : Nat) : Met l yX4_init wsX4_init ({ frames := 1, cells := 2, slots := 320, locals := 12 }) (va_Pc [.ref a] (cpre dC dI cI cJ [(a, .inr (3, [.int 0, .int 0, .null, .null, .int 0, .int 0]))] sz)) (va_Qv (fun u : Nat → Nat => u 6 = a) (fun u => cpost dC dI cI cJ (va_A [(a, .inr (3, [.int 0, .int 0, .null, .null, .int 0, .int 0]))] sz) (w_Port u cI cJ ((fun _ => 0), (fun _ => 0), (fun _ => 0)))) (va_A [(a, .inr (3, [.int 0, .int 0, .null, .null, .int 0, .int 0]))] sz)) 2 320 (va_A [(a, .inr (3, [.int 0, .int 0, .null, .null, .int 0, .int 0]))] sz) := by
  refine Met.ofW (cc := cX4_init) (maxL := 1) (ret := none) (by decide) rfl ?_
  intro p e s m args below meth c s₁ B hml hv
  obtain ⟨rfl, hsz, hP, hK, hD0⟩ := hv
  have hx := B.exec
  have hb := B.bytes
  have hr := B.returns
  have hts := atoms_spec (ws := wsX4_init) B.pre
  have hown : s.vm.findClass RX4 = some m.cls := findClass_of_methodNamed B.named
  have hlocks := B.notSynchronized
  have hin : meth.name = "<init>" := (name_of_methodNamed B.named B.method).1
  subst hsz
  have hD := hD0.self (sz := s.heap.size)
  generalize hAe : va_A [(a, .inr (3, [.int 0, .int 0, .null, .null, .int 0, .int 0]))] s.heap.size = A at hD ⊢
  have hA : ∀ q : Nat, s.heap.size ≤ q → A q := fun q h => by rw [← hAe]; exact Or.inr h
  clear hD0 hAe
  have hS : va_S A s.heap s.heap [] := va_S.rf
  have hl := lv_entry ([.ref a]) (n := 1) (Nat.le_of_ble_eq_true rfl)
  rw [lg_entry_eq]
  generalize (lg_sl ([.ref a]) ++ List.replicate (1 - (lg_sl ([.ref a])).length) Slot.unset).toArray = ls at hl ⊢
  have hl : lv_has ls 1 [(0, .ref a)] := hl
  have H := s.heap
  clear H
  refine lv_aload_n hx hb dX4_init_0 rfl (lv_at hl 0 rfl) ?_
  refine W.objInit hx hb hown (hts _ (List.mem_cons_of_mem _ tw_1_75)) (hts _ (List.mem_cons_of_mem _ tw_1_22)) (hts _ (List.mem_cons_of_mem _ tw_1_23)) rfl (by rw [hml]; exact hl.1) rfl dX4_init_1 (Nat.le_of_ble_eq_true rfl) (Nat.le_of_ble_eq_true rfl) ?_
  refine W.eq (g2 := F0 m 4 ls []) rfl ?_
  refine lv_aload_n hx hb dX4_init_4 rfl (lv_at hl 0 rfl) ?_
  refine lv_bipush (v := 64) hx hb dX4_init_5 (by decide) ?_
  refine va_newa (N' := 64) (a0 := (64, .inl (fun _ => 0))) (atype := .int) (ty := .int) hx hb (hts _ (List.mem_cons_of_mem _ tw_1_97)) rfl hK hP hD hS hA (vc_I 64) (by decide) (by decide) (Nat.le_of_ble_eq_true rfl) (Nat.le_of_ble_eq_true rfl) (Nat.le_of_ble_eq_true rfl) dX4_init_7 (fun q7 cA H hK9 hP hD hS => ?_)
  have hq9 : cA = cI := Option.some.inj ((hK9.2 2 _ rfl).2.symm.trans (hK.2 0 _ rfl).2)
  rw [hq9] at hP hD
  clear hq9 hK9
  have hP : va_P (dC, dI) vwCl [(a, .inr (3, [.int 0, .int 0, .null, .null, .int 0, .int 0])), (q7, .inl (cI, 64, .inl (fun _ => 0)))] H := hP
  have hD : va_D A [(a, .inr (3, [.int 0, .int 0, .null, .null, .int 0, .int 0])), (q7, .inl (cI, 64, .inl (fun _ => 0)))] := hD
  refine W.widen (k := 1) (n := 64) (Nat.le_of_ble_eq_true rfl) (Nat.le_of_ble_eq_true rfl) ?_
  refine va_putF (D := (dC, dI)) (ci := 3) (v := .ref q7) (ty := (.array .int)) (C := RX4) (T := TX4) (N := 6) hx hb hts (fun w h => List.mem_cons_of_mem _ (in_X4 w h)) tyX4 tyX4_ok nmX4 hown hK hP hD hS 0 rfl rfl 2 (by decide) (hts _ (List.mem_cons_of_mem _ tw_1_80)) (fun _ h9 => h9) rfl hin rfl (by decide +kernel) rfl rfl (Nat.le_of_ble_eq_true rfl) dX4_init_9 (fun H locs hP hD hS => ?_)
  have hP : va_P (dC, dI) vwCl [(a, .inr (3, [.int 0, .int 0, .ref q7, .null, .int 0, .int 0])), (q7, .inl (cI, 64, .inl (fun _ => 0)))] H := hP
  have hD : va_D A [(a, .inr (3, [.int 0, .int 0, .ref q7, .null, .int 0, .int 0])), (q7, .inl (cI, 64, .inl (fun _ => 0)))] := hD
  refine lv_aload_n hx hb dX4_init_12 rfl (lv_at hl 0 rfl) ?_
  refine lv_sipush (v := 256) hx hb dX4_init_13 (by decide) ?_
  refine va_newa (N' := 256) (a0 := (256, .inl (fun _ => 0))) (atype := .int) (ty := .int) hx hb (hts _ (List.mem_cons_of_mem _ tw_1_97)) rfl hK hP hD hS hA (vc_I 256) (by decide) (by decide) (Nat.le_of_ble_eq_true rfl) (Nat.le_of_ble_eq_true rfl) (Nat.le_of_ble_eq_true rfl) dX4_init_16 (fun q16 cA H hK9 hP hD hS => ?_)
  have hq9 : cA = cI := Option.some.inj ((hK9.2 2 _ rfl).2.symm.trans (hK.2 0 _ rfl).2)
  rw [hq9] at hP hD
  clear hq9 hK9
  have hP : va_P (dC, dI) vwCl [(a, .inr (3, [.int 0, .int 0, .ref q7, .null, .int 0, .int 0])), (q7, .inl (cI, 64, .inl (fun _ => 0))), (q16, .inl (cI, 256, .inl (fun _ => 0)))] H := hP
  have hD : va_D A [(a, .inr (3, [.int 0, .int 0, .ref q7, .null, .int 0, .int 0])), (q7, .inl (cI, 64, .inl (fun _ => 0))), (q16, .inl (cI, 256, .inl (fun _ => 0)))] := hD
  refine W.widen (k := 2) (n := 320) (Nat.le_of_ble_eq_true rfl) (Nat.le_of_ble_eq_true rfl) ?_
  refine va_putF (D := (dC, dI)) (ci := 3) (v := .ref q16) (ty := (.array .int)) (C := RX4) (T := TX4) (N := 6) hx hb hts (fun w h => List.mem_cons_of_mem _ (in_X4 w h)) tyX4 tyX4_ok nmX4 hown hK hP hD hS 0 rfl rfl 3 (by decide) (hts _ (List.mem_cons_of_mem _ tw_1_81)) (fun _ h9 => h9) rfl hin rfl (by decide +kernel) rfl rfl (Nat.le_of_ble_eq_true rfl) dX4_init_18 (fun H locs hP hD hS => ?_)
  have hP : va_P (dC, dI) vwCl [(a, .inr (3, [.int 0, .int 0, .ref q7, .ref q16, .int 0, .int 0])), (q7, .inl (cI, 64, .inl (fun _ => 0))), (q16, .inl (cI, 256, .inl (fun _ => 0)))] H := hP
  have hD : va_D A [(a, .inr (3, [.int 0, .int 0, .ref q7, .ref q16, .int 0, .int 0])), (q7, .inl (cI, 64, .inl (fun _ => 0))), (q16, .inl (cI, 256, .inl (fun _ => 0)))] := hD
  have hP9 := hP.sub (ws' := w_Port (fun i : Nat => match i with | 6 => a | 7 => q7 | 8 => q16 | _ => 0) cI cJ ((fun _ => 0), (fun _ => 0), (fun _ => 0))) [0, 1, 2] rfl
  have hD9 := hD.sub (ws' := w_Port (fun i : Nat => match i with | 6 => a | 7 => q7 | 8 => q16 | _ => 0) cI cJ ((fun _ => 0), (fun _ => 0), (fun _ => 0))) [0, 1, 2] (by decide) rfl
  exact W.vret hx hb hr (fun t ht hW => ⟨⟨(fun i : Nat => match i with | 6 => a | 7 => q7 | 8 => q16 | _ => 0), rfl, rfl, by rw [ht]; exact hP9, va_K.moved hW.alike hK, hD9⟩, hS.F ht⟩) hS.2.2 dX4_init_21
set_option maxHeartbeats 4000000 in
set_option maxRecDepth 100000 in
theorem c_X3_init (l : Launch) (dC : Nat → ClassId) (dI : Nat → Nat → Nat) (cI cJ : ClassId) (a : Nat) (sz : Nat) : Met l yX3_init wsX3_init ({ frames := 1, cells := 1, slots := 10240, locals := 12 }) (va_Pc [.ref a, .int 81920] (cpre dC dI cI cJ [(a, .inr (2, [.null]))] sz)) (va_Qv (fun u : Nat → Nat => u 9 = a) (fun u => cpost dC dI cI cJ (va_A [(a, .inr (2, [.null]))] sz) (w_Memory u cI cJ (fun _ => 0))) (va_A [(a, .inr (2, [.null]))] sz)) 1 10240 (va_A [(a, .inr (2, [.null]))] sz) := by
  refine Met.ofW (cc := cX3_init) (maxL := 2) (ret := none) (by decide) rfl ?_
  intro p e s m args below meth c s₁ B hml hv
  obtain ⟨rfl, hsz, hP, hK, hD0⟩ := hv
  have hx := B.exec
  have hb := B.bytes
  have hr := B.returns
  have hts := atoms_spec (ws := wsX3_init) B.pre
  have hown : s.vm.findClass RX3 = some m.cls := findClass_of_methodNamed B.named
  have hlocks := B.notSynchronized
  have hin : meth.name = "<init>" := (name_of_methodNamed B.named B.method).1
  subst hsz
  have hD := hD0.self (sz := s.heap.size)
  generalize hAe : va_A [(a, .inr (2, [.null]))] s.heap.size = A at hD ⊢
  have hA : ∀ q : Nat, s.heap.size ≤ q → A q := fun q h => by rw [← hAe]; exact Or.inr h
  clear hD0 hAe
  have hS : va_S A s.heap s.heap [] := va_S.rf
  have hl := lv_entry ([.ref a, .int 81920]) (n := 2) (Nat.le_of_ble_eq_true rfl)
  rw [lg_entry_eq]
  generalize (lg_sl ([.ref a, .int 81920]) ++ List.replicate (2 - (lg_sl ([.ref a, .int 81920])).length) Slot.unset).toArray = ls at hl ⊢
  have hl : lv_has ls 2 [(0, .ref a), (1, .int 81920)] := hl
  have H := s.heap
  clear H
  refine lv_aload_n hx hb dX3_init_0 rfl (lv_at hl 0 rfl) ?_
  refine W.objInit hx hb hown (hts _ (List.mem_cons_of_mem _ tw_1_104)) (hts _ (List.mem_cons_of_mem _ tw_1_22)) (hts _ (List.mem_cons_of_mem _ tw_1_23)) rfl (by rw [hml]; exact hl.1) rfl dX3_init_1 (Nat.le_of_ble_eq_true rfl) (Nat.le_of_ble_eq_true rfl) ?_
  refine W.eq (g2 := F0 m 4 ls []) rfl ?_
  refine lv_aload_n hx hb dX3_init_4 rfl (lv_at hl 0 rfl) ?_
  refine lv_iload_n hx hb dX3_init_5 rfl (lv_at hl 1 rfl) ?_
  refine lv_iconst (v := 3) hx hb dX3_init_6 (by decide) ?_
  refine lv_ishr hx hb dX3_init_7 ?_
  refine va_newa (N' := 10240) (a0 := (10240, .inr (.inl (fun _ => 0)))) (atype := .long) (ty := .long) hx hb (hts _ (List.mem_cons_of_mem _ tw_1_109)) rfl hK hP hD hS hA (vc_J 10240) (by decide) (by decide) (Nat.le_of_ble_eq_true rfl) (Nat.le_of_ble_eq_true rfl) (Nat.le_of_ble_eq_true rfl) dX3_init_8 (fun q8 cA H hK9 hP hD hS => ?_)
  have hq9 : cA = cJ := Option.some.inj ((hK9.2 2 _ rfl).2.symm.trans (hK.2 1 _ rfl).2)
  rw [hq9] at hP hD
  clear hq9 hK9
  have hP : va_P (dC, dI) vwCl [(a, .inr (2, [.null])), (q8, .inl (cJ, 10240, .inr (.inl (fun _ => 0))))] H := hP
  have hD : va_D A [(a, .inr (2, [.null])), (q8, .inl (cJ, 10240, .inr (.inl (fun _ => 0))))] := hD
  refine W.widen (k := 1) (n := 10240) (Nat.le_of_ble_eq_true rfl) (Nat.le_of_ble_eq_true rfl) ?_
  refine va_putF (D := (dC, dI)) (ci := 2) (v := .ref q8) (ty := (.array .long)) (C := RX3) (T := TX3) (N := 1) hx hb hts (fun w h => List.mem_cons_of_mem _ (in_X3 w h)) tyX3 tyX3_ok nmX3 hown hK hP hD hS 0 rfl rfl 0 (by decide) (hts _ (List.mem_cons_of_mem _ tw_1_105)) (fun _ h9 => h9) rfl hin rfl (by decide +kernel) rfl rfl (Nat.le_of_ble_eq_true rfl) dX3_init_10 (fun H locs hP hD hS => ?_)
  have hP : va_P (dC, dI) vwCl [(a, .inr (2, [.ref q8])), (q8, .inl (cJ, 10240, .inr (.inl (fun _ => 0))))] H := hP
  have hD : va_D A [(a, .inr (2, [.ref q8])), (q8, .inl (cJ, 10240, .inr (.inl (fun _ => 0))))] := hD
  have hP9 := hP.sub (ws' := w_Memory (fun i : Nat => match i with | 9 => a | 10 => q8 | _ => 0) cI cJ (fun _ => 0)) [0, 1] rfl
  have hD9 := hD.sub (ws' := w_Memory (fun i : Nat => match i with | 9 => a | 10 => q8 | _ => 0) cI cJ (fun _ => 0)) [0, 1] (by decide) rfl
  exact W.vret hx hb hr (fun t ht hW => ⟨⟨(fun i : Nat => match i with | 9 => a | 10 => q8 | _ => 0), rfl, rfl, by rw [ht]; exact hP9, va_K.moved hW.alike hK, hD9⟩, hS.F ht⟩) hS.2.2 dX3_init_13
set_option maxHeartbeats 4000000 in
set_option maxRecDepth 100000 in
theorem c_X0_init (l : Launch) (dC : Nat → ClassId) (dI : Nat → Nat → Nat) (cI cJ : ClassId) (a : Nat) (sz : Nat) : Met l yX0_init wsX0_init ({ frames := 2, cells := 6, slots := 10576, locals := 33 }) (va_Pc [.ref a] (cpreK dC dI cI cJ [(a, .inr (0, [.null, .null, .int 0, .null]))] sz)) (va_Qv (fun u : Nat → Nat => u 4 = a) (fun u => cpost dC dI cI cJ (va_A [(a, .inr (0, [.null, .null, .int 0, .null]))] sz) (w_Board u cI cJ ((fun _ => 0), (upd (upd (fun _ => 0) 0 65535) 1 65535), ((fun _ => 0), (fun _ => 0), (fun _ => 0)), (fun _ => 0)))) (va_A [(a, .inr (0, [.null, .null, .int 0, .null]))] sz)) 6 10576 (va_A [(a, .inr (0, [.null, .null, .int 0, .null]))] sz) := by
  refine Met.ofW (cc := cX0_init) (maxL := 1) (ret := none) (by decide) rfl ?_
  intro p e s m args below meth c s₁ B hml hv
  obtain ⟨rfl, ⟨hsz, hP, hK, hD0⟩, hN⟩ := hv
  have hx := B.exec
  have hb := B.bytes
  have hr := B.returns
  have hts := atoms_spec (ws := wsX0_init) B.pre
  have hown : s.vm.findClass RX0 = some m.cls := findClass_of_methodNamed B.named
  have hlocks := B.notSynchronized
  have hin : meth.name = "<init>" := (name_of_methodNamed B.named B.method).1
  subst hsz
  have hD := hD0.self (sz := s.heap.size)
  generalize hAe : va_A [(a, .inr (0, [.null, .null, .int 0, .null]))] s.heap.size = A at hD ⊢
  have hA : ∀ q : Nat, s.heap.size ≤ q → A q := fun q h => by rw [← hAe]; exact Or.inr h
  clear hD0 hAe
  have hS : va_S A s.heap s.heap [] := va_S.rf
  have hl := lv_entry ([.ref a]) (n := 1) (Nat.le_of_ble_eq_true rfl)
  rw [lg_entry_eq]
  generalize (lg_sl ([.ref a]) ++ List.replicate (1 - (lg_sl ([.ref a])).length) Slot.unset).toArray = ls at hl ⊢
  have hl : lv_has ls 1 [(0, .ref a)] := hl
  have H := s.heap
  clear H
  refine lv_aload_n hx hb dX0_init_0 rfl (lv_at hl 0 rfl) ?_
  refine W.objInit hx hb hown (hts _ (List.mem_cons_of_mem _ tw_1_29)) (hts _ (List.mem_cons_of_mem _ tw_1_22)) (hts _ (List.mem_cons_of_mem _ tw_1_23)) rfl (by rw [hml]; exact hl.1) rfl dX0_init_1 (Nat.le_of_ble_eq_true rfl) (Nat.le_of_ble_eq_true rfl) ?_
  refine W.eq (g2 := F0 m 4 ls []) rfl ?_
  refine lv_aload_n hx hb dX0_init_4 rfl (lv_at hl 0 rfl) ?_
  refine va_new (ci := 5) (fs := [.int 0, .int 0, .int 0, .int 0, .int 0, .int 0, .int 0, .int 0, .int 0]) (C := RX6) (T := TX6) (N := 9) hx hb hts (fun w h => List.mem_cons_of_mem _ (in_X6 w h)) tyX6 tyX6_ok hown (hts _ (List.mem_cons_of_mem _ tw_1_30)) (hts _ (List.mem_cons_of_mem _ tw_1_31)) (hts _ (List.mem_cons_of_mem _ tw_1_3)) hK hP hD hS hA rfl (fun j hj => match j, hj with | 0, _ => rfl | 1, _ => rfl | 2, _ => rfl | 3, _ => rfl | 4, _ => rfl | 5, _ => rfl | 6, _ => rfl | 7, _ => rfl | 8, _ => rfl | j + 9, h9 => absurd h9 (by omega)) (Nat.le_of_ble_eq_true rfl) (Nat.le_of_ble_eq_true rfl) dX0_init_5 (fun q5 H hP hD hS => ?_)
  have hP : va_P (dC, dI) vwCl [(a, .inr (0, [.null, .null, .int 0, .null])), (q5, .inr (5, [.int 0, .int 0, .int 0, .int 0, .int 0, .int 0, .int 0, .int 0, .int 0]))] H := hP
  have hD : va_D A [(a, .inr (0, [.null, .null, .int 0, .null])), (q5, .inr (5, [.int 0, .int 0, .int 0, .int 0, .int 0, .int 0, .int 0, .int 0, .int 0]))] := hD
  refine W.widen (k := 1) (n := 9) (Nat.le_of_ble_eq_true rfl) (Nat.le_of_ble_eq_true rfl) ?_
  refine lv_dup hx hb dX0_init_8 rfl ?_
  have hPc := hP.sub (ws' := [(q5, .inr (5, [.int 0, .int 0, .int 0, .int 0, .int 0, .int 0, .int 0, .int 0, .int 0]))]) [1] rfl
  have hDc := hD.sub (ws' := [(q5, .inr (5, [.int 0, .int 0, .int 0, .int 0, .int 0, .int 0, .int 0, .int 0, .int 0]))]) [1] (by decide) rfl
  have hFc := va_free (wc := [(q5, .inr (5, [.int 0, .int 0, .int 0, .int 0, .int 0, .int 0, .int 0, .int 0, .int 0]))]) hD hS hA [1] rfl
  refine va_callv (va_runIN (As := []) (rest := [.ref q5, .ref a]) ⟨hx, hb, hml, hown, hts⟩ (c_X6_init l dC dI cI cJ q5 _) ⟨va_cnB 0 hts (tb_gI tw_1_34) rfl rfl rfl hN.2.1 (hts _ (List.mem_cons_of_mem _ tw_1_3)) (by decide +kernel) ⟨Nat.le_of_ble_eq_true rfl, Nat.le_of_ble_eq_true rfl⟩, rfl, (hts _ (List.mem_cons_of_mem _ tw_1_33))⟩ (cpre_S hK hPc hDc) rfl rfl hl.1 rfl (lv_room (Nat.le_of_ble_eq_true rfl)) dX0_init_9 ⟨Nat.le_of_ble_eq_true rfl, Nat.le_of_ble_eq_true rfl⟩) hS (fun q _ h => hFc q h) hFc (fun u9 t H1 locs ht hvm hu hB hz1 hk1 hS => ?_)
  obtain ⟨hP, hD⟩ := cjoin (w1 := [((u9 5), .inr (5, [.int 65535, .int 65535, .int 0, .int 0, .int 0, .int 0, .int 0, .int 0, .int 0]))]) ht hP hD [1] [0] rfl rfl (by decide) (by decide) hk1 hFc hB
  generalize H1 = H at hP hS ⊢
  have hP : va_P (dC, dI) vwCl [(a, .inr (0, [.null, .null, .int 0, .null])), ((u9 5), .inr (5, [.int 65535, .int 65535, .int 0, .int 0, .int 0, .int 0, .int 0, .int 0, .int 0]))] H := hP
  have hD : va_D A [(a, .inr (0, [.null, .null, .int 0, .null])), ((u9 5), .inr (5, [.int 65535, .int 65535, .int 0, .int 0, .int 0, .int 0, .int 0, .int 0, .int 0]))] := hD
  subst hu
  have hP : va_P (dC, dI) vwCl [(a, .inr (0, [.null, .null, .int 0, .null])), ((u9 5), .inr (5, [.int 65535, .int 65535, .int 0, .int 0, .int 0, .int 0, .int 0, .int 0, .int 0]))] H := hP
  have hD : va_D A [(a, .inr (0, [.null, .null, .int 0, .null])), ((u9 5), .inr (5, [.int 65535, .int 65535, .int 0, .int 0, .int 0, .int 0, .int 0, .int 0, .int 0]))] := hD
  refine W.widen (k := 1) (n := 9) (Nat.le_of_ble_eq_true rfl) (Nat.le_of_ble_eq_true rfl) ?_
  refine va_putF (D := (dC, dI)) (ci := 0) (v := .ref (u9 5)) (ty := (.object "BoardMachine$Timers")) (C := RX0) (T := TX0) (N := 4) hx hb hts (fun w h => List.mem_cons_of_mem _ (in_X0 w h)) tyX0 tyX0_ok nmX0 hown hK hP hD hS 0 rfl rfl 0 (by decide) (hts _ (List.mem_cons_of_mem _ tw_1_110)) (fun _ h9 => h9) rfl hin rfl (by decide +kernel) rfl rfl (Nat.le_of_ble_eq_true rfl) dX0_init_12 (fun H locs hP hD hS => ?_)
  have hP : va_P (dC, dI) vwCl [(a, .inr (0, [.ref (u9 5), .null, .int 0, .null])), ((u9 5), .inr (5, [.int 65535, .int 65535, .int 0, .int 0, .int 0, .int 0, .int 0, .int 0, .int 0]))] H := hP
  have hD : va_D A [(a, .inr (0, [.ref (u9 5), .null, .int 0, .null])), ((u9 5), .inr (5, [.int 65535, .int 65535, .int 0, .int 0, .int 0, .int 0, .int 0, .int 0, .int 0]))] := hD
  refine lv_aload_n hx hb dX0_init_15 rfl (lv_at hl 0 rfl) ?_
  refine va_new (ci := 3) (fs := [.int 0, .int 0, .null, .null, .int 0, .int 0]) (C := RX4) (T := TX4) (N := 6) hx hb hts (fun w h => List.mem_cons_of_mem _ (in_X4 w h)) tyX4 tyX4_ok hown (hts _ (List.mem_cons_of_mem _ tw_1_70)) (hts _ (List.mem_cons_of_mem _ tw_1_71)) (hts _ (List.mem_cons_of_mem _ tw_1_4)) hK hP hD hS hA rfl (fun j hj => match j, hj with | 0, _ => rfl | 1, _ => rfl | 2, _ => rfl | 3, _ => rfl | 4, _ => rfl | 5, _ => rfl | j + 6, h9 => absurd h9 (by omega)) (Nat.le_of_ble_eq_true rfl) (Nat.le_of_ble_eq_true rfl) dX0_init_16 (fun q16 H hP hD hS => ?_)
  have hP : va_P (dC, dI) vwCl [(a, .inr (0, [.ref (u9 5), .null, .int 0, .null])), ((u9 5), .inr (5, [.int 65535, .int 65535, .int 0, .int 0, .int 0, .int 0, .int 0, .int 0, .int 0])), (q16, .inr (3, [.int 0, .int 0, .null, .null, .int 0, .int 0]))] H := hP
  have hD : va_D A [(a, .inr (0, [.ref (u9 5), .null, .int 0, .null])), ((u9 5), .inr (5, [.int 65535, .int 65535, .int 0, .int 0, .int 0, .int 0, .int 0, .int 0, .int 0])), (q16, .inr (3, [.int 0, .int 0, .null, .null, .int 0, .int 0]))] := hD
  refine W.widen (k := 2) (n := 15) (Nat.le_of_ble_eq_true rfl) (Nat.le_of_ble_eq_true rfl) ?_
  refine lv_dup hx hb dX0_init_19 rfl ?_
  have hPc := hP.sub (ws' := [(q16, .inr (3, [.int 0, .int 0, .null, .null, .int 0, .int 0]))]) [2] rfl
  have hDc := hD.sub (ws' := [(q16, .inr (3, [.int 0, .int 0, .null, .null, .int 0, .int 0]))]) [2] (by decide) rfl
  have hFc := va_free (wc := [(q16, .inr (3, [.int 0, .int 0, .null, .null, .int 0, .int 0]))]) hD hS hA [2] rfl
  refine va_callv (va_runIN (As := []) (rest := [.ref q16, .ref a]) ⟨hx, hb, hml, hown, hts⟩ (c_X4_init l dC dI cI cJ q16 _) ⟨va_cnB 0 hts (tb_gI tw_1_74) rfl rfl rfl hN.2.2.1 (hts _ (List.mem_cons_of_mem _ tw_1_4)) (by decide +kernel) ⟨Nat.le_of_ble_eq_true rfl, Nat.le_of_ble_eq_true rfl⟩, rfl, (hts _ (List.mem_cons_of_mem _ tw_1_73))⟩ (cpre_S hK hPc hDc) rfl rfl hl.1 rfl (lv_room (Nat.le_of_ble_eq_true rfl)) dX0_init_20 ⟨Nat.le_of_ble_eq_true rfl, Nat.le_of_ble_eq_true rfl⟩) hS (fun q _ h => hFc q h) hFc (fun u20 t H1 locs ht hvm hu hB hz1 hk1 hS => ?_)
  obtain ⟨hP, hD⟩ := cjoin (w1 := [((u20 6), .inr (3, [.int 0, .int 0, .ref (u20 7), .ref (u20 8), .int 0, .int 0])), ((u20 7), .inl (cI, 64, .inl (fun _ => 0))), ((u20 8), .inl (cI, 256, .inl (fun _ => 0)))]) ht hP hD [2] [0, 1] rfl rfl (by decide) (by decide) hk1 hFc hB
  generalize H1 = H at hP hS ⊢
  have hP : va_P (dC, dI) vwCl [(a, .inr (0, [.ref (u9 5), .null, .int 0, .null])), ((u9 5), .inr (5, [.int 65535, .int 65535, .int 0, .int 0, .int 0, .int 0, .int 0, .int 0, .int 0])), ((u20 6), .inr (3, [.int 0, .int 0, .ref (u20 7), .ref (u20 8), .int 0, .int 0])), ((u20 7), .inl (cI, 64, .inl (fun _ => 0))), ((u20 8), .inl (cI, 256, .inl (fun _ => 0)))] H := hP
  have hD : va_D A [(a, .inr (0, [.ref (u9 5), .null, .int 0, .null])), ((u9 5), .inr (5, [.int 65535, .int 65535, .int 0, .int 0, .int 0, .int 0, .int 0, .int 0, .int 0])), ((u20 6), .inr (3, [.int 0, .int 0, .ref (u20 7), .ref (u20 8), .int 0, .int 0])), ((u20 7), .inl (cI, 64, .inl (fun _ => 0))), ((u20 8), .inl (cI, 256, .inl (fun _ => 0)))] := hD
  subst hu
  have hP : va_P (dC, dI) vwCl [(a, .inr (0, [.ref (u9 5), .null, .int 0, .null])), ((u9 5), .inr (5, [.int 65535, .int 65535, .int 0, .int 0, .int 0, .int 0, .int 0, .int 0, .int 0])), ((u20 6), .inr (3, [.int 0, .int 0, .ref (u20 7), .ref (u20 8), .int 0, .int 0])), ((u20 7), .inl (cI, 64, .inl (fun _ => 0))), ((u20 8), .inl (cI, 256, .inl (fun _ => 0)))] H := hP
  have hD : va_D A [(a, .inr (0, [.ref (u9 5), .null, .int 0, .null])), ((u9 5), .inr (5, [.int 65535, .int 65535, .int 0, .int 0, .int 0, .int 0, .int 0, .int 0, .int 0])), ((u20 6), .inr (3, [.int 0, .int 0, .ref (u20 7), .ref (u20 8), .int 0, .int 0])), ((u20 7), .inl (cI, 64, .inl (fun _ => 0))), ((u20 8), .inl (cI, 256, .inl (fun _ => 0)))] := hD
  refine W.widen (k := 4) (n := 335) (Nat.le_of_ble_eq_true rfl) (Nat.le_of_ble_eq_true rfl) ?_
  refine va_putF (D := (dC, dI)) (ci := 0) (v := .ref (u20 6)) (ty := (.object "BoardMachine$Port")) (C := RX0) (T := TX0) (N := 4) hx hb hts (fun w h => List.mem_cons_of_mem _ (in_X0 w h)) tyX0 tyX0_ok nmX0 hown hK hP hD hS 0 rfl rfl 1 (by decide) (hts _ (List.mem_cons_of_mem _ tw_1_113)) (fun _ h9 => h9) rfl hin rfl (by decide +kernel) rfl rfl (Nat.le_of_ble_eq_true rfl) dX0_init_23 (fun H locs hP hD hS => ?_)
  have hP : va_P (dC, dI) vwCl [(a, .inr (0, [.ref (u9 5), .ref (u20 6), .int 0, .null])), ((u9 5), .inr (5, [.int 65535, .int 65535, .int 0, .int 0, .int 0, .int 0, .int 0, .int 0, .int 0])), ((u20 6), .inr (3, [.int 0, .int 0, .ref (u20 7), .ref (u20 8), .int 0, .int 0])), ((u20 7), .inl (cI, 64, .inl (fun _ => 0))), ((u20 8), .inl (cI, 256, .inl (fun _ => 0)))] H := hP
  have hD : va_D A [(a, .inr (0, [.ref (u9 5), .ref (u20 6), .int 0, .null])), ((u9 5), .inr (5, [.int 65535, .int 65535, .int 0, .int 0, .int 0, .int 0, .int 0, .int 0, .int 0])), ((u20 6), .inr (3, [.int 0, .int 0, .ref (u20 7), .ref (u20 8), .int 0, .int 0])), ((u20 7), .inl (cI, 64, .inl (fun _ => 0))), ((u20 8), .inl (cI, 256, .inl (fun _ => 0)))] := hD
  refine lv_aload_n hx hb dX0_init_26 rfl (lv_at hl 0 rfl) ?_
  refine va_new (ci := 2) (fs := [.null]) (C := RX3) (T := TX3) (N := 1) hx hb hts (fun w h => List.mem_cons_of_mem _ (in_X3 w h)) tyX3 tyX3_ok hown (hts _ (List.mem_cons_of_mem _ tw_1_98)) (hts _ (List.mem_cons_of_mem _ tw_1_99)) (hts _ (List.mem_cons_of_mem _ tw_1_5)) hK hP hD hS hA rfl (fun j hj => match j, hj with | 0, _ => rfl | j + 1, h9 => absurd h9 (by omega)) (Nat.le_of_ble_eq_true rfl) (Nat.le_of_ble_eq_true rfl) dX0_init_27 (fun q27 H hP hD hS => ?_)
  have hP : va_P (dC, dI) vwCl [(a, .inr (0, [.ref (u9 5), .ref (u20 6), .int 0, .null])), ((u9 5), .inr (5, [.int 65535, .int 65535, .int 0, .int 0, .int 0, .int 0, .int 0, .int 0, .int 0])), ((u20 6), .inr (3, [.int 0, .int 0, .ref (u20 7), .ref (u20 8), .int 0, .int 0])), ((u20 7), .inl (cI, 64, .inl (fun _ => 0))), ((u20 8), .inl (cI, 256, .inl (fun _ => 0))), (q27, .inr (2, [.null]))] H := hP
  have hD : va_D A [(a, .inr (0, [.ref (u9 5), .ref (u20 6), .int 0, .null])), ((u9 5), .inr (5, [.int 65535, .int 65535, .int 0, .int 0, .int 0, .int 0, .int 0, .int 0, .int 0])), ((u20 6), .inr (3, [.int 0, .int 0, .ref (u20 7), .ref (u20 8), .int 0, .int 0])), ((u20 7), .inl (cI, 64, .inl (fun _ => 0))), ((u20 8), .inl (cI, 256, .inl (fun _ => 0))), (q27, .inr (2, [.null]))] := hD
  refine W.widen (k := 5) (n := 336) (Nat.le_of_ble_eq_true rfl) (Nat.le_of_ble_eq_true rfl) ?_
  refine lv_dup hx hb dX0_init_30 rfl ?_
  refine lv_ldc (v := 81920) hx hb hown (hts _ (List.mem_cons_of_mem _ tw_1_100)) dX0_init_31 ?_
  have hPc := hP.sub (ws' := [(q27, .inr (2, [.null]))]) [5] rfl
  have hDc := hD.sub (ws' := [(q27, .inr (2, [.null]))]) [5] (by decide) rfl
  have hFc := va_free (wc := [(q27, .inr (2, [.null]))]) hD hS hA [5] rfl
  refine va_callv (va_runI (As := [.int 81920]) (rest := [.ref q27, .ref a]) ⟨hx, hb, hml, hown, hts⟩ (c_X3_init l dC dI cI cJ q27 _) (cwI 1 hts (tb_gI tw_1_103) rfl rfl rfl (hts _ (List.mem_cons_of_mem _ tw_1_5)) (hts _ (List.mem_cons_of_mem _ tw_1_101)) (hts _ (List.mem_cons_of_mem _ tw_1_102)) rfl (by decide +kernel) ⟨Nat.le_of_ble_eq_true rfl, Nat.le_of_ble_eq_true rfl⟩) (cpre_S hK hPc hDc) rfl rfl hl.1 rfl (lv_room (Nat.le_of_ble_eq_true rfl)) dX0_init_33 ⟨Nat.le_of_ble_eq_true rfl, Nat.le_of_ble_eq_true rfl⟩) hS (fun q _ h => hFc q h) hFc (fun u33 t H1 locs ht hvm hu hB hz1 hk1 hS => ?_)
  obtain ⟨hP, hD⟩ := cjoin (w1 := [((u33 9), .inr (2, [.ref (u33 10)])), ((u33 10), .inl (cJ, 10240, .inr (.inl (fun _ => 0))))]) ht hP hD [5] [0, 1, 2, 3, 4] rfl rfl (by decide) (by decide) hk1 hFc hB
  generalize H1 = H at hP hS ⊢
  have hP : va_P (dC, dI) vwCl [(a, .inr (0, [.ref (u9 5), .ref (u20 6), .int 0, .null])), ((u9 5), .inr (5, [.int 65535, .int 65535, .int 0, .int 0, .int 0, .int 0, .int 0, .int 0, .int 0])), ((u20 6), .inr (3, [.int 0, .int 0, .ref (u20 7), .ref (u20 8), .int 0, .int 0])), ((u20 7), .inl (cI, 64, .inl (fun _ => 0))), ((u20 8), .inl (cI, 256, .inl (fun _ => 0))), ((u33 9), .inr (2, [.ref (u33 10)])), ((u33 10), .inl (cJ, 10240, .inr (.inl (fun _ => 0))))] H := hP
  have hD : va_D A [(a, .inr (0, [.ref (u9 5), .ref (u20 6), .int 0, .null])), ((u9 5), .inr (5, [.int 65535, .int 65535, .int 0, .int 0, .int 0, .int 0, .int 0, .int 0, .int 0])), ((u20 6), .inr (3, [.int 0, .int 0, .ref (u20 7), .ref (u20 8), .int 0, .int 0])), ((u20 7), .inl (cI, 64, .inl (fun _ => 0))), ((u20 8), .inl (cI, 256, .inl (fun _ => 0))), ((u33 9), .inr (2, [.ref (u33 10)])), ((u33 10), .inl (cJ, 10240, .inr (.inl (fun _ => 0))))] := hD
  subst hu
  have hP : va_P (dC, dI) vwCl [(a, .inr (0, [.ref (u9 5), .ref (u20 6), .int 0, .null])), ((u9 5), .inr (5, [.int 65535, .int 65535, .int 0, .int 0, .int 0, .int 0, .int 0, .int 0, .int 0])), ((u20 6), .inr (3, [.int 0, .int 0, .ref (u20 7), .ref (u20 8), .int 0, .int 0])), ((u20 7), .inl (cI, 64, .inl (fun _ => 0))), ((u20 8), .inl (cI, 256, .inl (fun _ => 0))), ((u33 9), .inr (2, [.ref (u33 10)])), ((u33 10), .inl (cJ, 10240, .inr (.inl (fun _ => 0))))] H := hP
  have hD : va_D A [(a, .inr (0, [.ref (u9 5), .ref (u20 6), .int 0, .null])), ((u9 5), .inr (5, [.int 65535, .int 65535, .int 0, .int 0, .int 0, .int 0, .int 0, .int 0, .int 0])), ((u20 6), .inr (3, [.int 0, .int 0, .ref (u20 7), .ref (u20 8), .int 0, .int 0])), ((u20 7), .inl (cI, 64, .inl (fun _ => 0))), ((u20 8), .inl (cI, 256, .inl (fun _ => 0))), ((u33 9), .inr (2, [.ref (u33 10)])), ((u33 10), .inl (cJ, 10240, .inr (.inl (fun _ => 0))))] := hD
  refine W.widen (k := 6) (n := 10576) (Nat.le_of_ble_eq_true rfl) (Nat.le_of_ble_eq_true rfl) ?_
  refine va_putF (D := (dC, dI)) (ci := 0) (v := .ref (u33 9)) (ty := (.object "BoardMachine$Memory")) (C := RX0) (T := TX0) (N := 4) hx hb hts (fun w h => List.mem_cons_of_mem _ (in_X0 w h)) tyX0 tyX0_ok nmX0 hown hK hP hD hS 0 rfl rfl 3 (by decide) (hts _ (List.mem_cons_of_mem _ tw_1_117)) (fun _ h9 => h9) rfl hin rfl (by decide +kernel) rfl rfl (Nat.le_of_ble_eq_true rfl) dX0_init_36 (fun H locs hP hD hS => ?_)
  have hP : va_P (dC, dI) vwCl [(a, .inr (0, [.ref (u9 5), .ref (u20 6), .int 0, .ref (u33 9)])), ((u9 5), .inr (5, [.int 65535, .int 65535, .int 0, .int 0, .int 0, .int 0, .int 0, .int 0, .int 0])), ((u20 6), .inr (3, [.int 0, .int 0, .ref (u20 7), .ref (u20 8), .int 0, .int 0])), ((u20 7), .inl (cI, 64, .inl (fun _ => 0))), ((u20 8), .inl (cI, 256, .inl (fun _ => 0))), ((u33 9), .inr (2, [.ref (u33 10)])), ((u33 10), .inl (cJ, 10240, .inr (.inl (fun _ => 0))))] H := hP
  have hD : va_D A [(a, .inr (0, [.ref (u9 5), .ref (u20 6), .int 0, .ref (u33 9)])), ((u9 5), .inr (5, [.int 65535, .int 65535, .int 0, .int 0, .int 0, .int 0, .int 0, .int 0, .int 0])), ((u20 6), .inr (3, [.int 0, .int 0, .ref (u20 7), .ref (u20 8), .int 0, .int 0])), ((u20 7), .inl (cI, 64, .inl (fun _ => 0))), ((u20 8), .inl (cI, 256, .inl (fun _ => 0))), ((u33 9), .inr (2, [.ref (u33 10)])), ((u33 10), .inl (cJ, 10240, .inr (.inl (fun _ => 0))))] := hD
  have hP9 := hP.sub (ws' := w_Board (fun i : Nat => match i with | 4 => a | 5 => (u9 5) | 6 => (u20 6) | 7 => (u20 7) | 8 => (u20 8) | 9 => (u33 9) | 10 => (u33 10) | _ => 0) cI cJ ((fun _ => 0), (upd (upd (fun _ => 0) 0 65535) 1 65535), ((fun _ => 0), (fun _ => 0), (fun _ => 0)), (fun _ => 0))) [0, 1, 2, 3, 4, 5, 6] rfl
  have hD9 := hD.sub (ws' := w_Board (fun i : Nat => match i with | 4 => a | 5 => (u9 5) | 6 => (u20 6) | 7 => (u20 7) | 8 => (u20 8) | 9 => (u33 9) | 10 => (u33 10) | _ => 0) cI cJ ((fun _ => 0), (upd (upd (fun _ => 0) 0 65535) 1 65535), ((fun _ => 0), (fun _ => 0), (fun _ => 0)), (fun _ => 0))) [0, 1, 2, 3, 4, 5, 6] (by decide) rfl
  exact W.vret hx hb hr (fun t ht hW => ⟨⟨(fun i : Nat => match i with | 4 => a | 5 => (u9 5) | 6 => (u20 6) | 7 => (u20 7) | 8 => (u20 8) | 9 => (u33 9) | 10 => (u33 10) | _ => 0), rfl, rfl, by rw [ht]; exact hP9, va_K.moved hW.alike hK, hD9⟩, hS.F ht⟩) hS.2.2 dX0_init_39
set_option maxHeartbeats 4000000 in
set_option maxRecDepth 100000 in
theorem c_X7_init (l : Launch) (dC : Nat → ClassId) (dI : Nat → Nat → Nat) (cI cJ : ClassId) (a : Nat) (sz : Nat) : Met l yX7_init wsX7_init ({ frames := 1, cells := 1, slots := 32, locals := 12 }) (va_Pc [.ref a] (cpre dC dI cI cJ [(a, .inr (6, [.int 0, .null]))] sz)) (va_Qv (fun u : Nat → Nat => u 2 = a) (fun u => cpost dC dI cI cJ (va_A [(a, .inr (6, [.int 0, .null]))] sz) (w_Trace u cI cJ ((fun _ => 0), (fun _ => 0)))) (va_A [(a, .inr (6, [.int 0, .null]))] sz)) 1 32 (va_A [(a, .inr (6, [.int 0, .null]))] sz) := by
  refine Met.ofW (cc := cX7_init) (maxL := 1) (ret := none) (by decide) rfl ?_
  intro p e s m args below meth c s₁ B hml hv
  obtain ⟨rfl, hsz, hP, hK, hD0⟩ := hv
  have hx := B.exec
  have hb := B.bytes
  have hr := B.returns
  have hts := atoms_spec (ws := wsX7_init) B.pre
  have hown : s.vm.findClass RX7 = some m.cls := findClass_of_methodNamed B.named
  have hlocks := B.notSynchronized
  have hin : meth.name = "<init>" := (name_of_methodNamed B.named B.method).1
  subst hsz
  have hD := hD0.self (sz := s.heap.size)
  generalize hAe : va_A [(a, .inr (6, [.int 0, .null]))] s.heap.size = A at hD ⊢
  have hA : ∀ q : Nat, s.heap.size ≤ q → A q := fun q h => by rw [← hAe]; exact Or.inr h
  clear hD0 hAe
  have hS : va_S A s.heap s.heap [] := va_S.rf
  have hl := lv_entry ([.ref a]) (n := 1) (Nat.le_of_ble_eq_true rfl)
  rw [lg_entry_eq]
  generalize (lg_sl ([.ref a]) ++ List.replicate (1 - (lg_sl ([.ref a])).length) Slot.unset).toArray = ls at hl ⊢
  have hl : lv_has ls 1 [(0, .ref a)] := hl
  have H := s.heap
  clear H
  refine lv_aload_n hx hb dX7_init_0 rfl (lv_at hl 0 rfl) ?_
  refine W.objInit hx hb hown (hts _ (List.mem_cons_of_mem _ tw_1_138)) (hts _ (List.mem_cons_of_mem _ tw_1_22)) (hts _ (List.mem_cons_of_mem _ tw_1_23)) rfl (by rw [hml]; exact hl.1) rfl dX7_init_1 (Nat.le_of_ble_eq_true rfl) (Nat.le_of_ble_eq_true rfl) ?_
  refine W.eq (g2 := F0 m 4 ls []) rfl ?_
  refine lv_aload_n hx hb dX7_init_4 rfl (lv_at hl 0 rfl) ?_
  refine lv_bipush (v := 32) hx hb dX7_init_5 (by decide) ?_
  refine va_newa (N' := 32) (a0 := (32, .inl (fun _ => 0))) (atype := .int) (ty := .int) hx hb (hts _ (List.mem_cons_of_mem _ tw_1_97)) rfl hK hP hD hS hA (vc_I 32) (by decide) (by decide) (Nat.le_of_ble_eq_true rfl) (Nat.le_of_ble_eq_true rfl) (Nat.le_of_ble_eq_true rfl) dX7_init_7 (fun q7 cA H hK9 hP hD hS => ?_)
  have hq9 : cA = cI := Option.some.inj ((hK9.2 2 _ rfl).2.symm.trans (hK.2 0 _ rfl).2)
  rw [hq9] at hP hD
  clear hq9 hK9
  have hP : va_P (dC, dI) vwCl [(a, .inr (6, [.int 0, .null])), (q7, .inl (cI, 32, .inl (fun _ => 0)))] H := hP
  have hD : va_D A [(a, .inr (6, [.int 0, .null])), (q7, .inl (cI, 32, .inl (fun _ => 0)))] := hD
  refine W.widen (k := 1) (n := 32) (Nat.le_of_ble_eq_true rfl) (Nat.le_of_ble_eq_true rfl) ?_
  refine va_putF (D := (dC, dI)) (ci := 6) (v := .ref q7) (ty := (.array .int)) (C := RX7) (T := TX7) (N := 2) hx hb hts (fun w h => List.mem_cons_of_mem _ (in_X7 w h)) tyX7 tyX7_ok nmX7 hown hK hP hD hS 0 rfl rfl 1 (by decide) (hts _ (List.mem_cons_of_mem _ tw_1_141)) (fun _ h9 => h9) rfl hin rfl (by decide +kernel) rfl rfl (Nat.le_of_ble_eq_true rfl) dX7_init_9 (fun H locs hP hD hS => ?_)
  have hP : va_P (dC, dI) vwCl [(a, .inr (6, [.int 0, .ref q7])), (q7, .inl (cI, 32, .inl (fun _ => 0)))] H := hP
  have hD : va_D A [(a, .inr (6, [.int 0, .ref q7])), (q7, .inl (cI, 32, .inl (fun _ => 0)))] := hD
  have hP9 := hP.sub (ws' := w_Trace (fun i : Nat => match i with | 2 => a | 3 => q7 | _ => 0) cI cJ ((fun _ => 0), (fun _ => 0))) [0, 1] rfl
  have hD9 := hD.sub (ws' := w_Trace (fun i : Nat => match i with | 2 => a | 3 => q7 | _ => 0) cI cJ ((fun _ => 0), (fun _ => 0))) [0, 1] (by decide) rfl
  exact W.vret hx hb hr (fun t ht hW => ⟨⟨(fun i : Nat => match i with | 2 => a | 3 => q7 | _ => 0), rfl, rfl, by rw [ht]; exact hP9, va_K.moved hW.alike hK, hD9⟩, hS.F ht⟩) hS.2.2 dX7_init_12
set_option maxHeartbeats 4000000 in
set_option maxRecDepth 100000 in
theorem c_X5_init (l : Launch) (dC : Nat → ClassId) (dI : Nat → Nat → Nat) (cI cJ : ClassId) (a : Nat) (b : Nat) (sz : Nat) : Met l yX5_init wsX5_init ({ frames := 2, cells := 2, slots := 34, locals := 32 }) (va_Pc [.ref a, .ref b] (cpreK dC dI cI cJ [(a, .inr (4, [.int 0, .int 0, .int 0, .int 0, .int 0, .int 0, .int 0, .int 0, .int 0, .long 0, .int 0, .null, .null, .int 0, .int 0]))] sz)) (va_Qv (fun u : Nat → Nat => u 1 = a) (fun u => cpost dC dI cI cJ (va_A [(a, .inr (4, [.int 0, .int 0, .int 0, .int 0, .int 0, .int 0, .int 0, .int 0, .int 0, .long 0, .int 0, .null, .null, .int 0, .int 0]))] sz) ([(u 1, .inr (4, [.int 0, .int 0, .int 0, .int 0, .int 48, .int 0, .int 0, .int 0, .int 0, .long 0, .int 0, .ref (u 2), .ref b, .int 0, .int 0])), (u 2, .inr (6, [.int 0, .ref (u 3)])), (u 3, .inl (cI, 32, .inl (fun _ => 0)))])) (va_A [(a, .inr (4, [.int 0, .int 0, .int 0, .int 0, .int 0, .int 0, .int 0, .int 0, .int 0, .long 0, .int 0, .null, .null, .int 0, .int 0]))] sz)) 2 34 (va_A [(a, .inr (4, [.int 0, .int 0, .int 0, .int 0, .int 0, .int 0, .int 0, .int 0, .int 0, .long 0, .int 0, .null, .null, .int 0, .int 0]))] sz) := by
  refine Met.ofW (cc := cX5_init) (maxL := 2) (ret := none) (by decide) rfl ?_
  intro p e s m args below meth c s₁ B hml hv
  obtain ⟨rfl, ⟨hsz, hP, hK, hD0⟩, hN⟩ := hv
  have hx := B.exec
  have hb := B.bytes
  have hr := B.returns
  have hts := atoms_spec (ws := wsX5_init) B.pre
  have hown : s.vm.findClass RX5 = some m.cls := findClass_of_methodNamed B.named
  have hlocks := B.notSynchronized
  have hin : meth.name = "<init>" := (name_of_methodNamed B.named B.method).1
  subst hsz
  have hD := hD0.self (sz := s.heap.size)
  generalize hAe : va_A [(a, .inr (4, [.int 0, .int 0, .int 0, .int 0, .int 0, .int 0, .int 0, .int 0, .int 0, .long 0, .int 0, .null, .null, .int 0, .int 0]))] s.heap.size = A at hD ⊢
  have hA : ∀ q : Nat, s.heap.size ≤ q → A q := fun q h => by rw [← hAe]; exact Or.inr h
  clear hD0 hAe
  have hS : va_S A s.heap s.heap [] := va_S.rf
  have hl := lv_entry ([.ref a, .ref b]) (n := 2) (Nat.le_of_ble_eq_true rfl)
  rw [lg_entry_eq]
  generalize (lg_sl ([.ref a, .ref b]) ++ List.replicate (2 - (lg_sl ([.ref a, .ref b])).length) Slot.unset).toArray = ls at hl ⊢
  have hl : lv_has ls 2 [(0, .ref a), (1, .ref b)] := hl
  have H := s.heap
  clear H
  refine lv_aload_n hx hb dX5_init_0 rfl (lv_at hl 0 rfl) ?_
  refine W.objInit hx hb hown (hts _ (List.mem_cons_of_mem _ tw_1_132)) (hts _ (List.mem_cons_of_mem _ tw_1_22)) (hts _ (List.mem_cons_of_mem _ tw_1_23)) rfl (by rw [hml]; exact hl.1) rfl dX5_init_1 (Nat.le_of_ble_eq_true rfl) (Nat.le_of_ble_eq_true rfl) ?_
  refine W.eq (g2 := F0 m 4 ls []) rfl ?_
  refine lv_aload_n hx hb dX5_init_4 rfl (lv_at hl 0 rfl) ?_
  refine lv_bipush (v := 48) hx hb dX5_init_5 (by decide) ?_
  refine va_put (D := (dC, dI)) (ci := 4) (v := .int 48) (ty := .int) (C := RX5) (T := TX5) (N := 15) hx hb hts (fun w h => List.mem_cons_of_mem _ (in_X5 w h)) tyX5 tyX5_ok nmX5 hown hK hP hD hS 0 rfl rfl 4 (by decide) (hts _ (List.mem_cons_of_mem _ tw_1_155)) (fun _ h9 => h9) rfl (by decide +kernel) rfl rfl (Nat.le_of_ble_eq_true rfl) dX5_init_7 (fun H locs hP hD hS => ?_)
  have hP : va_P (dC, dI) vwCl [(a, .inr (4, [.int 0, .int 0, .int 0, .int 0, .int 48, .int 0, .int 0, .int 0, .int 0, .long 0, .int 0, .null, .null, .int 0, .int 0]))] H := hP
  have hD : va_D A [(a, .inr (4, [.int 0, .int 0, .int 0, .int 0, .int 48, .int 0, .int 0, .int 0, .int 0, .long 0, .int 0, .null, .null, .int 0, .int 0]))] := hD
  refine lv_aload_n hx hb dX5_init_10 rfl (lv_at hl 0 rfl) ?_
  refine va_new (ci := 6) (fs := [.int 0, .null]) (C := RX7) (T := TX7) (N := 2) hx hb hts (fun w h => List.mem_cons_of_mem _ (in_X7 w h)) tyX7 tyX7_ok hown (hts _ (List.mem_cons_of_mem _ tw_1_133)) (hts _ (List.mem_cons_of_mem _ tw_1_134)) (hts _ (List.mem_cons_of_mem _ tw_1_7)) hK hP hD hS hA rfl (fun j hj => match j, hj with | 0, _ => rfl | 1, _ => rfl | j + 2, h9 => absurd h9 (by omega)) (Nat.le_of_ble_eq_true rfl) (Nat.le_of_ble_eq_true rfl) dX5_init_11 (fun q11 H hP hD hS => ?_)
  have hP : va_P (dC, dI) vwCl [(a, .inr (4, [.int 0, .int 0, .int 0, .int 0, .int 48, .int 0, .int 0, .int 0, .int 0, .long 0, .int 0, .null, .null, .int 0, .int 0])), (q11, .inr (6, [.int 0, .null]))] H := hP
  have hD : va_D A [(a, .inr (4, [.int 0, .int 0, .int 0, .int 0, .int 48, .int 0, .int 0, .int 0, .int 0, .long 0, .int 0, .null, .null, .int 0, .int 0])), (q11, .inr (6, [.int 0, .null]))] := hD
  refine W.widen (k := 1) (n := 2) (Nat.le_of_ble_eq_true rfl) (Nat.le_of_ble_eq_true rfl) ?_
  refine lv_dup hx hb dX5_init_14 rfl ?_
  have hPc := hP.sub (ws' := [(q11, .inr (6, [.int 0, .null]))]) [1] rfl
  have hDc := hD.sub (ws' := [(q11, .inr (6, [.int 0, .null]))]) [1] (by decide) rfl
  have hFc := va_free (wc := [(q11, .inr (6, [.int 0, .null]))]) hD hS hA [1] rfl
  refine va_callv (va_runIN (As := []) (rest := [.ref q11, .ref a]) ⟨hx, hb, hml, hown, hts⟩ (c_X7_init l dC dI cI cJ q11 _) ⟨va_cnB 0 hts (tb_gI tw_1_137) rfl rfl rfl hN.2.2.2.1 (hts _ (List.mem_cons_of_mem _ tw_1_7)) (by decide +kernel) ⟨Nat.le_of_ble_eq_true rfl, Nat.le_of_ble_eq_true rfl⟩, rfl, (hts _ (List.mem_cons_of_mem _ tw_1_136))⟩ (cpre_S hK hPc hDc) rfl rfl hl.1 rfl (lv_room (Nat.le_of_ble_eq_true rfl)) dX5_init_15 ⟨Nat.le_of_ble_eq_true rfl, Nat.le_of_ble_eq_true rfl⟩) hS (fun q _ h => hFc q h) hFc (fun u15 t H1 locs ht hvm hu hB hz1 hk1 hS => ?_)
  obtain ⟨hP, hD⟩ := cjoin (w1 := [((u15 2), .inr (6, [.int 0, .ref (u15 3)])), ((u15 3), .inl (cI, 32, .inl (fun _ => 0)))]) ht hP hD [1] [0] rfl rfl (by decide) (by decide) hk1 hFc hB
  generalize H1 = H at hP hS ⊢
  have hP : va_P (dC, dI) vwCl [(a, .inr (4, [.int 0, .int 0, .int 0, .int 0, .int 48, .int 0, .int 0, .int 0, .int 0, .long 0, .int 0, .null, .null, .int 0, .int 0])), ((u15 2), .inr (6, [.int 0, .ref (u15 3)])), ((u15 3), .inl (cI, 32, .inl (fun _ => 0)))] H := hP
  have hD : va_D A [(a, .inr (4, [.int 0, .int 0, .int 0, .int 0, .int 48, .int 0, .int 0, .int 0, .int 0, .long 0, .int 0, .null, .null, .int 0, .int 0])), ((u15 2), .inr (6, [.int 0, .ref (u15 3)])), ((u15 3), .inl (cI, 32, .inl (fun _ => 0)))] := hD
  subst hu
  have hP : va_P (dC, dI) vwCl [(a, .inr (4, [.int 0, .int 0, .int 0, .int 0, .int 48, .int 0, .int 0, .int 0, .int 0, .long 0, .int 0, .null, .null, .int 0, .int 0])), ((u15 2), .inr (6, [.int 0, .ref (u15 3)])), ((u15 3), .inl (cI, 32, .inl (fun _ => 0)))] H := hP
  have hD : va_D A [(a, .inr (4, [.int 0, .int 0, .int 0, .int 0, .int 48, .int 0, .int 0, .int 0, .int 0, .long 0, .int 0, .null, .null, .int 0, .int 0])), ((u15 2), .inr (6, [.int 0, .ref (u15 3)])), ((u15 3), .inl (cI, 32, .inl (fun _ => 0)))] := hD
  refine W.widen (k := 2) (n := 34) (Nat.le_of_ble_eq_true rfl) (Nat.le_of_ble_eq_true rfl) ?_
  refine va_putF (D := (dC, dI)) (ci := 4) (v := .ref (u15 2)) (ty := (.object "BoardMachine$Trace")) (C := RX5) (T := TX5) (N := 15) hx hb hts (fun w h => List.mem_cons_of_mem _ (in_X5 w h)) tyX5 tyX5_ok nmX5 hown hK hP hD hS 0 rfl rfl 11 (by decide) (hts _ (List.mem_cons_of_mem _ tw_1_169)) (fun _ h9 => h9) rfl hin rfl (by decide +kernel) rfl rfl (Nat.le_of_ble_eq_true rfl) dX5_init_18 (fun H locs hP hD hS => ?_)
  have hP : va_P (dC, dI) vwCl [(a, .inr (4, [.int 0, .int 0, .int 0, .int 0, .int 48, .int 0, .int 0, .int 0, .int 0, .long 0, .int 0, .ref (u15 2), .null, .int 0, .int 0])), ((u15 2), .inr (6, [.int 0, .ref (u15 3)])), ((u15 3), .inl (cI, 32, .inl (fun _ => 0)))] H := hP
  have hD : va_D A [(a, .inr (4, [.int 0, .int 0, .int 0, .int 0, .int 48, .int 0, .int 0, .int 0, .int 0, .long 0, .int 0, .ref (u15 2), .null, .int 0, .int 0])), ((u15 2), .inr (6, [.int 0, .ref (u15 3)])), ((u15 3), .inl (cI, 32, .inl (fun _ => 0)))] := hD
  refine lv_aload_n hx hb dX5_init_21 rfl (lv_at hl 0 rfl) ?_
  refine lv_aload_n hx hb dX5_init_22 rfl (lv_at hl 1 rfl) ?_
  refine va_putF (D := (dC, dI)) (ci := 4) (v := .ref b) (ty := (.object "BoardMachine$Board")) (C := RX5) (T := TX5) (N := 15) hx hb hts (fun w h => List.mem_cons_of_mem _ (in_X5 w h)) tyX5 tyX5_ok nmX5 hown hK hP hD hS 0 rfl rfl 12 (by decide) (hts _ (List.mem_cons_of_mem _ tw_1_171)) (fun _ h9 => h9) rfl hin rfl (by decide +kernel) rfl rfl (Nat.le_of_ble_eq_true rfl) dX5_init_23 (fun H locs hP hD hS => ?_)
  have hP : va_P (dC, dI) vwCl [(a, .inr (4, [.int 0, .int 0, .int 0, .int 0, .int 48, .int 0, .int 0, .int 0, .int 0, .long 0, .int 0, .ref (u15 2), .ref b, .int 0, .int 0])), ((u15 2), .inr (6, [.int 0, .ref (u15 3)])), ((u15 3), .inl (cI, 32, .inl (fun _ => 0)))] H := hP
  have hD : va_D A [(a, .inr (4, [.int 0, .int 0, .int 0, .int 0, .int 48, .int 0, .int 0, .int 0, .int 0, .long 0, .int 0, .ref (u15 2), .ref b, .int 0, .int 0])), ((u15 2), .inr (6, [.int 0, .ref (u15 3)])), ((u15 3), .inl (cI, 32, .inl (fun _ => 0)))] := hD
  have hP9 := hP.sub (ws' := [(a, .inr (4, [.int 0, .int 0, .int 0, .int 0, .int 48, .int 0, .int 0, .int 0, .int 0, .long 0, .int 0, .ref (u15 2), .ref b, .int 0, .int 0])), ((u15 2), .inr (6, [.int 0, .ref (u15 3)])), ((u15 3), .inl (cI, 32, .inl (fun _ => 0)))]) [0, 1, 2] rfl
  have hD9 := hD.sub (ws' := [(a, .inr (4, [.int 0, .int 0, .int 0, .int 0, .int 48, .int 0, .int 0, .int 0, .int 0, .long 0, .int 0, .ref (u15 2), .ref b, .int 0, .int 0])), ((u15 2), .inr (6, [.int 0, .ref (u15 3)])), ((u15 3), .inl (cI, 32, .inl (fun _ => 0)))]) [0, 1, 2] (by decide) rfl
  exact W.vret hx hb hr (fun t ht hW => ⟨⟨(fun i : Nat => match i with | 1 => a | 2 => (u15 2) | 3 => (u15 3) | _ => 0), rfl, rfl, by rw [ht]; exact hP9, va_K.moved hW.alike hK, hD9⟩, hS.F ht⟩) hS.2.2 dX5_init_26
set_option maxHeartbeats 4000000 in
set_option maxRecDepth 100000 in
theorem c_X1_init (l : Launch) (dC : Nat → ClassId) (dI : Nat → Nat → Nat) (cI cJ : ClassId) (a : Nat) (sz : Nat) : Met l yX1_init wsX1_init ({ frames := 1, cells := 1, slots := 16, locals := 12 }) (va_Pc [.ref a] (cpre dC dI cI cJ [(a, .inr (1, [.int 0, .null]))] sz)) (va_Qv (fun u : Nat → Nat => u 11 = a) (fun u => cpost dC dI cI cJ (va_A [(a, .inr (1, [.int 0, .null]))] sz) (w_Breaks u cI cJ ((fun _ => 0), (fun _ => 0)))) (va_A [(a, .inr (1, [.int 0, .null]))] sz)) 1 16 (va_A [(a, .inr (1, [.int 0, .null]))] sz) := by
  refine Met.ofW (cc := cX1_init) (maxL := 1) (ret := none) (by decide) rfl ?_
  intro p e s m args below meth c s₁ B hml hv
  obtain ⟨rfl, hsz, hP, hK, hD0⟩ := hv
  have hx := B.exec
  have hb := B.bytes
  have hr := B.returns
  have hts := atoms_spec (ws := wsX1_init) B.pre
  have hown : s.vm.findClass RX1 = some m.cls := findClass_of_methodNamed B.named
  have hlocks := B.notSynchronized
  have hin : meth.name = "<init>" := (name_of_methodNamed B.named B.method).1
  subst hsz
  have hD := hD0.self (sz := s.heap.size)
  generalize hAe : va_A [(a, .inr (1, [.int 0, .null]))] s.heap.size = A at hD ⊢
  have hA : ∀ q : Nat, s.heap.size ≤ q → A q := fun q h => by rw [← hAe]; exact Or.inr h
  clear hD0 hAe
  have hS : va_S A s.heap s.heap [] := va_S.rf
  have hl := lv_entry ([.ref a]) (n := 1) (Nat.le_of_ble_eq_true rfl)
  rw [lg_entry_eq]
  generalize (lg_sl ([.ref a]) ++ List.replicate (1 - (lg_sl ([.ref a])).length) Slot.unset).toArray = ls at hl ⊢
  have hl : lv_has ls 1 [(0, .ref a)] := hl
  have H := s.heap
  clear H
  refine lv_aload_n hx hb dX1_init_0 rfl (lv_at hl 0 rfl) ?_
  refine W.objInit hx hb hown (hts _ (List.mem_cons_of_mem _ tw_1_210)) (hts _ (List.mem_cons_of_mem _ tw_1_22)) (hts _ (List.mem_cons_of_mem _ tw_1_23)) rfl (by rw [hml]; exact hl.1) rfl dX1_init_1 (Nat.le_of_ble_eq_true rfl) (Nat.le_of_ble_eq_true rfl) ?_
  refine W.eq (g2 := F0 m 4 ls []) rfl ?_
  refine lv_aload_n hx hb dX1_init_4 rfl (lv_at hl 0 rfl) ?_
  refine lv_bipush (v := 16) hx hb dX1_init_5 (by decide) ?_
  refine va_newa (N' := 16) (a0 := (16, .inl (fun _ => 0))) (atype := .int) (ty := .int) hx hb (hts _ (List.mem_cons_of_mem _ tw_1_97)) rfl hK hP hD hS hA (vc_I 16) (by decide) (by decide) (Nat.le_of_ble_eq_true rfl) (Nat.le_of_ble_eq_true rfl) (Nat.le_of_ble_eq_true rfl) dX1_init_7 (fun q7 cA H hK9 hP hD hS => ?_)
  have hq9 : cA = cI := Option.some.inj ((hK9.2 2 _ rfl).2.symm.trans (hK.2 0 _ rfl).2)
  rw [hq9] at hP hD
  clear hq9 hK9
  have hP : va_P (dC, dI) vwCl [(a, .inr (1, [.int 0, .null])), (q7, .inl (cI, 16, .inl (fun _ => 0)))] H := hP
  have hD : va_D A [(a, .inr (1, [.int 0, .null])), (q7, .inl (cI, 16, .inl (fun _ => 0)))] := hD
  refine W.widen (k := 1) (n := 16) (Nat.le_of_ble_eq_true rfl) (Nat.le_of_ble_eq_true rfl) ?_
  refine va_putF (D := (dC, dI)) (ci := 1) (v := .ref q7) (ty := (.array .int)) (C := RX1) (T := TX1) (N := 2) hx hb hts (fun w h => List.mem_cons_of_mem _ (in_X1 w h)) tyX1 tyX1_ok nmX1 hown hK hP hD hS 0 rfl rfl 1 (by decide) (hts _ (List.mem_cons_of_mem _ tw_1_213)) (fun _ h9 => h9) rfl hin rfl (by decide +kernel) rfl rfl (Nat.le_of_ble_eq_true rfl) dX1_init_9 (fun H locs hP hD hS => ?_)
  have hP : va_P (dC, dI) vwCl [(a, .inr (1, [.int 0, .ref q7])), (q7, .inl (cI, 16, .inl (fun _ => 0)))] H := hP
  have hD : va_D A [(a, .inr (1, [.int 0, .ref q7])), (q7, .inl (cI, 16, .inl (fun _ => 0)))] := hD
  have hP9 := hP.sub (ws' := w_Breaks (fun i : Nat => match i with | 11 => a | 12 => q7 | _ => 0) cI cJ ((fun _ => 0), (fun _ => 0))) [0, 1] rfl
  have hD9 := hD.sub (ws' := w_Breaks (fun i : Nat => match i with | 11 => a | 12 => q7 | _ => 0) cI cJ ((fun _ => 0), (fun _ => 0))) [0, 1] (by decide) rfl
  exact W.vret hx hb hr (fun t ht hW => ⟨⟨(fun i : Nat => match i with | 11 => a | 12 => q7 | _ => 0), rfl, rfl, by rw [ht]; exact hP9, va_K.moved hW.alike hK, hD9⟩, hS.F ht⟩) hS.2.2 dX1_init_12
set_option maxHeartbeats 4000000 in
set_option maxRecDepth 100000 in
theorem c_X8_init (l : Launch) (dC : Nat → ClassId) (dI : Nat → Nat → Nat) (cI cJ : ClassId) (a : Nat) (sz : Nat) : Met l yX8_init wsX8_init ({ frames := 3, cells := 12, slots := 10647, locals := 53 }) (va_Pc [.ref a] (cpreK dC dI cI cJ [(a, .inr (7, [.null, .null, .null]))] sz)) (va_Qv (fun u : Nat → Nat => u 0 = a) (fun u => cpost dC dI cI cJ (va_A [(a, .inr (7, [.null, .null, .null]))] sz) (w_BM u cI cJ ((upd (fun _ => 0) 4 48, 0, ((fun _ => 0), (fun _ => 0)), ((fun _ => 0), (upd (upd (fun _ => 0) 0 65535) 1 65535), ((fun _ => 0), (fun _ => 0), (fun _ => 0)), (fun _ => 0))), ((fun _ => 0), (fun _ => 0))))) (va_A [(a, .inr (7, [.null, .null, .null]))] sz)) 12 10647 (va_A [(a, .inr (7, [.null, .null, .null]))] sz) := by
  refine Met.ofW (cc := cX8_init) (maxL := 1) (ret := none) (by decide) rfl ?_
  intro p e s m args below meth c s₁ B hml hv
  obtain ⟨rfl, ⟨hsz, hP, hK, hD0⟩, hN⟩ := hv
  have hx := B.exec
  have hb := B.bytes
  have hr := B.returns
  have hts := atoms_spec (ws := wsX8_init) B.pre
  have hown : s.vm.findClass RX8 = some m.cls := findClass_of_methodNamed B.named
  have hlocks := B.notSynchronized
  have hin : meth.name = "<init>" := (name_of_methodNamed B.named B.method).1
  subst hsz
  have hD := hD0.self (sz := s.heap.size)
  generalize hAe : va_A [(a, .inr (7, [.null, .null, .null]))] s.heap.size = A at hD ⊢
  have hA : ∀ q : Nat, s.heap.size ≤ q → A q := fun q h => by rw [← hAe]; exact Or.inr h
  clear hD0 hAe
  have hS : va_S A s.heap s.heap [] := va_S.rf
  have hl := lv_entry ([.ref a]) (n := 1) (Nat.le_of_ble_eq_true rfl)
  rw [lg_entry_eq]
  generalize (lg_sl ([.ref a]) ++ List.replicate (1 - (lg_sl ([.ref a])).length) Slot.unset).toArray = ls at hl ⊢
  have hl : lv_has ls 1 [(0, .ref a)] := hl
  have H := s.heap
  clear H
  refine lv_aload_n hx hb dX8_init_0 rfl (lv_at hl 0 rfl) ?_
  refine W.objInit hx hb hown (hts _ (List.mem_cons_of_mem _ tw_1_21)) (hts _ (List.mem_cons_of_mem _ tw_1_22)) (hts _ (List.mem_cons_of_mem _ tw_1_23)) rfl (by rw [hml]; exact hl.1) rfl dX8_init_1 (Nat.le_of_ble_eq_true rfl) (Nat.le_of_ble_eq_true rfl) ?_
  refine W.eq (g2 := F0 m 4 ls []) rfl ?_
  refine lv_aload_n hx hb dX8_init_4 rfl (lv_at hl 0 rfl) ?_
  refine va_new (ci := 0) (fs := [.null, .null, .int 0, .null]) (C := RX0) (T := TX0) (N := 4) hx hb hts (fun w h => List.mem_cons_of_mem _ (in_X0 w h)) tyX0 tyX0_ok hown (hts _ (List.mem_cons_of_mem _ tw_1_24)) (hts _ (List.mem_cons_of_mem _ tw_1_25)) (hts _ (List.mem_cons_of_mem _ tw_1_2)) hK hP hD hS hA rfl (fun j hj => match j, hj with | 0, _ => rfl | 1, _ => rfl | 2, _ => rfl | 3, _ => rfl | j + 4, h9 => absurd h9 (by omega)) (Nat.le_of_ble_eq_true rfl) (Nat.le_of_ble_eq_true rfl) dX8_init_5 (fun q5 H hP hD hS => ?_)
  have hP : va_P (dC, dI) vwCl [(a, .inr (7, [.null, .null, .null])), (q5, .inr (0, [.null, .null, .int 0, .null]))] H := hP
  have hD : va_D A [(a, .inr (7, [.null, .null, .null])), (q5, .inr (0, [.null, .null, .int 0, .null]))] := hD
  refine W.widen (k := 1) (n := 4) (Nat.le_of_ble_eq_true rfl) (Nat.le_of_ble_eq_true rfl) ?_
  refine lv_dup hx hb dX8_init_8 rfl ?_
  have hPc := hP.sub (ws' := [(q5, .inr (0, [.null, .null, .int 0, .null]))]) [1] rfl
  have hDc := hD.sub (ws' := [(q5, .inr (0, [.null, .null, .int 0, .null]))]) [1] (by decide) rfl
  have hFc := va_free (wc := [(q5, .inr (0, [.null, .null, .int 0, .null]))]) hD hS hA [1] rfl
  refine va_callv (va_runIN (As := []) (rest := [.ref q5, .ref a]) ⟨hx, hb, hml, hown, hts⟩ (c_X0_init l dC dI cI cJ q5 _) ⟨va_cnB 0 hts (tb_gI tw_1_28) rfl rfl rfl hN.1 (hts _ (List.mem_cons_of_mem _ tw_1_2)) (by decide +kernel) ⟨Nat.le_of_ble_eq_true rfl, Nat.le_of_ble_eq_true rfl⟩, rfl, (hts _ (List.mem_cons_of_mem _ tw_1_27))⟩ (cpre_SK hK hPc hDc hN) rfl rfl hl.1 rfl (lv_room (Nat.le_of_ble_eq_true rfl)) dX8_init_9 ⟨Nat.le_of_ble_eq_true rfl, Nat.le_of_ble_eq_true rfl⟩) hS (fun q _ h => hFc q h) hFc (fun u9 t H1 locs ht hvm hu hB hz1 hk1 hS => ?_)
  obtain ⟨hP, hD⟩ := cjoin (w1 := [((u9 4), .inr (0, [.ref (u9 5), .ref (u9 6), .int 0, .ref (u9 9)])), ((u9 5), .inr (5, [.int 65535, .int 65535, .int 0, .int 0, .int 0, .int 0, .int 0, .int 0, .int 0])), ((u9 6), .inr (3, [.int 0, .int 0, .ref (u9 7), .ref (u9 8), .int 0, .int 0])), ((u9 7), .inl (cI, 64, .inl (fun _ => 0))), ((u9 8), .inl (cI, 256, .inl (fun _ => 0))), ((u9 9), .inr (2, [.ref (u9 10)])), ((u9 10), .inl (cJ, 10240, .inr (.inl (fun _ => 0))))]) ht hP hD [1] [0] rfl rfl (by decide) (by decide) hk1 hFc hB
  generalize H1 = H at hP hS ⊢
  have hP : va_P (dC, dI) vwCl [(a, .inr (7, [.null, .null, .null])), ((u9 4), .inr (0, [.ref (u9 5), .ref (u9 6), .int 0, .ref (u9 9)])), ((u9 5), .inr (5, [.int 65535, .int 65535, .int 0, .int 0, .int 0, .int 0, .int 0, .int 0, .int 0])), ((u9 6), .inr (3, [.int 0, .int 0, .ref (u9 7), .ref (u9 8), .int 0, .int 0])), ((u9 7), .inl (cI, 64, .inl (fun _ => 0))), ((u9 8), .inl (cI, 256, .inl (fun _ => 0))), ((u9 9), .inr (2, [.ref (u9 10)])), ((u9 10), .inl (cJ, 10240, .inr (.inl (fun _ => 0))))] H := hP
  have hD : va_D A [(a, .inr (7, [.null, .null, .null])), ((u9 4), .inr (0, [.ref (u9 5), .ref (u9 6), .int 0, .ref (u9 9)])), ((u9 5), .inr (5, [.int 65535, .int 65535, .int 0, .int 0, .int 0, .int 0, .int 0, .int 0, .int 0])), ((u9 6), .inr (3, [.int 0, .int 0, .ref (u9 7), .ref (u9 8), .int 0, .int 0])), ((u9 7), .inl (cI, 64, .inl (fun _ => 0))), ((u9 8), .inl (cI, 256, .inl (fun _ => 0))), ((u9 9), .inr (2, [.ref (u9 10)])), ((u9 10), .inl (cJ, 10240, .inr (.inl (fun _ => 0))))] := hD
  subst hu
  have hP : va_P (dC, dI) vwCl [(a, .inr (7, [.null, .null, .null])), ((u9 4), .inr (0, [.ref (u9 5), .ref (u9 6), .int 0, .ref (u9 9)])), ((u9 5), .inr (5, [.int 65535, .int 65535, .int 0, .int 0, .int 0, .int 0, .int 0, .int 0, .int 0])), ((u9 6), .inr (3, [.int 0, .int 0, .ref (u9 7), .ref (u9 8), .int 0, .int 0])), ((u9 7), .inl (cI, 64, .inl (fun _ => 0))), ((u9 8), .inl (cI, 256, .inl (fun _ => 0))), ((u9 9), .inr (2, [.ref (u9 10)])), ((u9 10), .inl (cJ, 10240, .inr (.inl (fun _ => 0))))] H := hP
  have hD : va_D A [(a, .inr (7, [.null, .null, .null])), ((u9 4), .inr (0, [.ref (u9 5), .ref (u9 6), .int 0, .ref (u9 9)])), ((u9 5), .inr (5, [.int 65535, .int 65535, .int 0, .int 0, .int 0, .int 0, .int 0, .int 0, .int 0])), ((u9 6), .inr (3, [.int 0, .int 0, .ref (u9 7), .ref (u9 8), .int 0, .int 0])), ((u9 7), .inl (cI, 64, .inl (fun _ => 0))), ((u9 8), .inl (cI, 256, .inl (fun _ => 0))), ((u9 9), .inr (2, [.ref (u9 10)])), ((u9 10), .inl (cJ, 10240, .inr (.inl (fun _ => 0))))] := hD
  refine W.widen (k := 7) (n := 10580) (Nat.le_of_ble_eq_true rfl) (Nat.le_of_ble_eq_true rfl) ?_
  refine va_putF (D := (dC, dI)) (ci := 7) (v := .ref (u9 4)) (ty := (.object "BoardMachine$Board")) (C := RX8) (T := TX8) (N := 3) hx hb hts (fun w h => List.mem_cons_of_mem _ (in_X8 w h)) tyX8 tyX8_ok nmX8 hown hK hP hD hS 0 rfl rfl 0 (by decide) (hts _ (List.mem_cons_of_mem _ tw_1_219)) (fun _ h9 => h9) rfl hin rfl (by decide +kernel) rfl rfl (Nat.le_of_ble_eq_true rfl) dX8_init_12 (fun H locs hP hD hS => ?_)
  have hP : va_P (dC, dI) vwCl [(a, .inr (7, [.ref (u9 4), .null, .null])), ((u9 4), .inr (0, [.ref (u9 5), .ref (u9 6), .int 0, .ref (u9 9)])), ((u9 5), .inr (5, [.int 65535, .int 65535, .int 0, .int 0, .int 0, .int 0, .int 0, .int 0, .int 0])), ((u9 6), .inr (3, [.int 0, .int 0, .ref (u9 7), .ref (u9 8), .int 0, .int 0])), ((u9 7), .inl (cI, 64, .inl (fun _ => 0))), ((u9 8), .inl (cI, 256, .inl (fun _ => 0))), ((u9 9), .inr (2, [.ref (u9 10)])), ((u9 10), .inl (cJ, 10240, .inr (.inl (fun _ => 0))))] H := hP
  have hD : va_D A [(a, .inr (7, [.ref (u9 4), .null, .null])), ((u9 4), .inr (0, [.ref (u9 5), .ref (u9 6), .int 0, .ref (u9 9)])), ((u9 5), .inr (5, [.int 65535, .int 65535, .int 0, .int 0, .int 0, .int 0, .int 0, .int 0, .int 0])), ((u9 6), .inr (3, [.int 0, .int 0, .ref (u9 7), .ref (u9 8), .int 0, .int 0])), ((u9 7), .inl (cI, 64, .inl (fun _ => 0))), ((u9 8), .inl (cI, 256, .inl (fun _ => 0))), ((u9 9), .inr (2, [.ref (u9 10)])), ((u9 10), .inl (cJ, 10240, .inr (.inl (fun _ => 0))))] := hD
  refine lv_aload_n hx hb dX8_init_15 rfl (lv_at hl 0 rfl) ?_
  refine va_new (ci := 4) (fs := [.int 0, .int 0, .int 0, .int 0, .int 0, .int 0, .int 0, .int 0, .int 0, .long 0, .int 0, .null, .null, .int 0, .int 0]) (C := RX5) (T := TX5) (N := 15) hx hb hts (fun w h => List.mem_cons_of_mem _ (in_X5 w h)) tyX5 tyX5_ok hown (hts _ (List.mem_cons_of_mem _ tw_1_127)) (hts _ (List.mem_cons_of_mem _ tw_1_128)) (hts _ (List.mem_cons_of_mem _ tw_1_6)) hK hP hD hS hA rfl (fun j hj => match j, hj with | 0, _ => rfl | 1, _ => rfl | 2, _ => rfl | 3, _ => rfl | 4, _ => rfl | 5, _ => rfl | 6, _ => rfl | 7, _ => rfl | 8, _ => rfl | 9, _ => rfl | 10, _ => rfl | 11, _ => rfl | 12, _ => rfl | 13, _ => rfl | 14, _ => rfl | j + 15, h9 => absurd h9 (by omega)) (Nat.le_of_ble_eq_true rfl) (Nat.le_of_ble_eq_true rfl) dX8_init_16 (fun q16 H hP hD hS => ?_)
  have hP : va_P (dC, dI) vwCl [(a, .inr (7, [.ref (u9 4), .null, .null])), ((u9 4), .inr (0, [.ref (u9 5), .ref (u9 6), .int 0, .ref (u9 9)])), ((u9 5), .inr (5, [.int 65535, .int 65535, .int 0, .int 0, .int 0, .int 0, .int 0, .int 0, .int 0])), ((u9 6), .inr (3, [.int 0, .int 0, .ref (u9 7), .ref (u9 8), .int 0, .int 0])), ((u9 7), .inl (cI, 64, .inl (fun _ => 0))), ((u9 8), .inl (cI, 256, .inl (fun _ => 0))), ((u9 9), .inr (2, [.ref (u9 10)])), ((u9 10), .inl (cJ, 10240, .inr (.inl (fun _ => 0)))), (q16, .inr (4, [.int 0, .int 0, .int 0, .int 0, .int 0, .int 0, .int 0, .int 0, .int 0, .long 0, .int 0, .null, .null, .int 0, .int 0]))] H := hP
  have hD : va_D A [(a, .inr (7, [.ref (u9 4), .null, .null])), ((u9 4), .inr (0, [.ref (u9 5), .ref (u9 6), .int 0, .ref (u9 9)])), ((u9 5), .inr (5, [.int 65535, .int 65535, .int 0, .int 0, .int 0, .int 0, .int 0, .int 0, .int 0])), ((u9 6), .inr (3, [.int 0, .int 0, .ref (u9 7), .ref (u9 8), .int 0, .int 0])), ((u9 7), .inl (cI, 64, .inl (fun _ => 0))), ((u9 8), .inl (cI, 256, .inl (fun _ => 0))), ((u9 9), .inr (2, [.ref (u9 10)])), ((u9 10), .inl (cJ, 10240, .inr (.inl (fun _ => 0)))), (q16, .inr (4, [.int 0, .int 0, .int 0, .int 0, .int 0, .int 0, .int 0, .int 0, .int 0, .long 0, .int 0, .null, .null, .int 0, .int 0]))] := hD
  refine W.widen (k := 8) (n := 10595) (Nat.le_of_ble_eq_true rfl) (Nat.le_of_ble_eq_true rfl) ?_
  refine lv_dup hx hb dX8_init_19 rfl ?_
  refine lv_aload_n hx hb dX8_init_20 rfl (lv_at hl 0 rfl) ?_
  refine va_get (D := (dC, dI)) (ci := 7) (v := .ref (u9 4)) (C := RX8) (T := TX8) (N := 3) hx hb hts (fun w h => List.mem_cons_of_mem _ (in_X8 w h)) hown hK hP 0 rfl rfl 0 (by decide) (hts _ (List.mem_cons_of_mem _ tw_1_219)) (fun _ h9 => h9) rfl dX8_init_21 ?_
  have hPc := hP.sub (ws' := [(q16, .inr (4, [.int 0, .int 0, .int 0, .int 0, .int 0, .int 0, .int 0, .int 0, .int 0, .long 0, .int 0, .null, .null, .int 0, .int 0]))]) [8] rfl
  have hDc := hD.sub (ws' := [(q16, .inr (4, [.int 0, .int 0, .int 0, .int 0, .int 0, .int 0, .int 0, .int 0, .int 0, .long 0, .int 0, .null, .null, .int 0, .int 0]))]) [8] (by decide) rfl
  have hFc := va_free (wc := [(q16, .inr (4, [.int 0, .int 0, .int 0, .int 0, .int 0, .int 0, .int 0, .int 0, .int 0, .long 0, .int 0, .null, .null, .int 0, .int 0]))]) hD hS hA [8] rfl
  refine va_callv (va_runI (As := [.ref (u9 4)]) (rest := [.ref q16, .ref a]) ⟨hx, hb, hml, hown, hts⟩ (c_X5_init l dC dI cI cJ q16 (u9 4) _) (cwI 1 hts (tb_gI tw_1_131) rfl rfl rfl (hts _ (List.mem_cons_of_mem _ tw_1_6)) (hts _ (List.mem_cons_of_mem _ tw_1_129)) (hts _ (List.mem_cons_of_mem _ tw_1_130)) rfl (by decide +kernel) ⟨Nat.le_of_ble_eq_true rfl, Nat.le_of_ble_eq_true rfl⟩) (cpre_SK hK hPc hDc hN) rfl rfl hl.1 rfl (lv_room (Nat.le_of_ble_eq_true rfl)) dX8_init_24 ⟨Nat.le_of_ble_eq_true rfl, Nat.le_of_ble_eq_true rfl⟩) hS (fun q _ h => hFc q h) hFc (fun u24 t H1 locs ht hvm hu hB hz1 hk1 hS => ?_)
  obtain ⟨hP, hD⟩ := cjoin (w1 := [((u24 1), .inr (4, [.int 0, .int 0, .int 0, .int 0, .int 48, .int 0, .int 0, .int 0, .int 0, .long 0, .int 0, .ref (u24 2), .ref (u9 4), .int 0, .int 0])), ((u24 2), .inr (6, [.int 0, .ref (u24 3)])), ((u24 3), .inl (cI, 32, .inl (fun _ => 0)))]) ht hP hD [8] [0, 1, 2, 3, 4, 5, 6, 7] rfl rfl (by decide) (by decide) hk1 hFc hB
  generalize H1 = H at hP hS ⊢
  have hP : va_P (dC, dI) vwCl [(a, .inr (7, [.ref (u9 4), .null, .null])), ((u9 4), .inr (0, [.ref (u9 5), .ref (u9 6), .int 0, .ref (u9 9)])), ((u9 5), .inr (5, [.int 65535, .int 65535, .int 0, .int 0, .int 0, .int 0, .int 0, .int 0, .int 0])), ((u9 6), .inr (3, [.int 0, .int 0, .ref (u9 7), .ref (u9 8), .int 0, .int 0])), ((u9 7), .inl (cI, 64, .inl (fun _ => 0))), ((u9 8), .inl (cI, 256, .inl (fun _ => 0))), ((u9 9), .inr (2, [.ref (u9 10)])), ((u9 10), .inl (cJ, 10240, .inr (.inl (fun _ => 0)))), ((u24 1), .inr (4, [.int 0, .int 0, .int 0, .int 0, .int 48, .int 0, .int 0, .int 0, .int 0, .long 0, .int 0, .ref (u24 2), .ref (u9 4), .int 0, .int 0])), ((u24 2), .inr (6, [.int 0, .ref (u24 3)])), ((u24 3), .inl (cI, 32, .inl (fun _ => 0)))] H := hP
  have hD : va_D A [(a, .inr (7, [.ref (u9 4), .null, .null])), ((u9 4), .inr (0, [.ref (u9 5), .ref (u9 6), .int 0, .ref (u9 9)])), ((u9 5), .inr (5, [.int 65535, .int 65535, .int 0, .int 0, .int 0, .int 0, .int 0, .int 0, .int 0])), ((u9 6), .inr (3, [.int 0, .int 0, .ref (u9 7), .ref (u9 8), .int 0, .int 0])), ((u9 7), .inl (cI, 64, .inl (fun _ => 0))), ((u9 8), .inl (cI, 256, .inl (fun _ => 0))), ((u9 9), .inr (2, [.ref (u9 10)])), ((u9 10), .inl (cJ, 10240, .inr (.inl (fun _ => 0)))), ((u24 1), .inr (4, [.int 0, .int 0, .int 0, .int 0, .int 48, .int 0, .int 0, .int 0, .int 0, .long 0, .int 0, .ref (u24 2), .ref (u9 4), .int 0, .int 0])), ((u24 2), .inr (6, [.int 0, .ref (u24 3)])), ((u24 3), .inl (cI, 32, .inl (fun _ => 0)))] := hD
  subst hu
  have hP : va_P (dC, dI) vwCl [(a, .inr (7, [.ref (u9 4), .null, .null])), ((u9 4), .inr (0, [.ref (u9 5), .ref (u9 6), .int 0, .ref (u9 9)])), ((u9 5), .inr (5, [.int 65535, .int 65535, .int 0, .int 0, .int 0, .int 0, .int 0, .int 0, .int 0])), ((u9 6), .inr (3, [.int 0, .int 0, .ref (u9 7), .ref (u9 8), .int 0, .int 0])), ((u9 7), .inl (cI, 64, .inl (fun _ => 0))), ((u9 8), .inl (cI, 256, .inl (fun _ => 0))), ((u9 9), .inr (2, [.ref (u9 10)])), ((u9 10), .inl (cJ, 10240, .inr (.inl (fun _ => 0)))), ((u24 1), .inr (4, [.int 0, .int 0, .int 0, .int 0, .int 48, .int 0, .int 0, .int 0, .int 0, .long 0, .int 0, .ref (u24 2), .ref (u9 4), .int 0, .int 0])), ((u24 2), .inr (6, [.int 0, .ref (u24 3)])), ((u24 3), .inl (cI, 32, .inl (fun _ => 0)))] H := hP
  have hD : va_D A [(a, .inr (7, [.ref (u9 4), .null, .null])), ((u9 4), .inr (0, [.ref (u9 5), .ref (u9 6), .int 0, .ref (u9 9)])), ((u9 5), .inr (5, [.int 65535, .int 65535, .int 0, .int 0, .int 0, .int 0, .int 0, .int 0, .int 0])), ((u9 6), .inr (3, [.int 0, .int 0, .ref (u9 7), .ref (u9 8), .int 0, .int 0])), ((u9 7), .inl (cI, 64, .inl (fun _ => 0))), ((u9 8), .inl (cI, 256, .inl (fun _ => 0))), ((u9 9), .inr (2, [.ref (u9 10)])), ((u9 10), .inl (cJ, 10240, .inr (.inl (fun _ => 0)))), ((u24 1), .inr (4, [.int 0, .int 0, .int 0, .int 0, .int 48, .int 0, .int 0, .int 0, .int 0, .long 0, .int 0, .ref (u24 2), .ref (u9 4), .int 0, .int 0])), ((u24 2), .inr (6, [.int 0, .ref (u24 3)])), ((u24 3), .inl (cI, 32, .inl (fun _ => 0)))] := hD
  refine W.widen (k := 10) (n := 10629) (Nat.le_of_ble_eq_true rfl) (Nat.le_of_ble_eq_true rfl) ?_
  refine va_putF (D := (dC, dI)) (ci := 7) (v := .ref (u24 1)) (ty := (.object "BoardMachine$Processor")) (C := RX8) (T := TX8) (N := 3) hx hb hts (fun w h => List.mem_cons_of_mem _ (in_X8 w h)) tyX8 tyX8_ok nmX8 hown hK hP hD hS 0 rfl rfl 1 (by decide) (hts _ (List.mem_cons_of_mem _ tw_1_220)) (fun _ h9 => h9) rfl hin rfl (by decide +kernel) rfl rfl (Nat.le_of_ble_eq_true rfl) dX8_init_27 (fun H locs hP hD hS => ?_)
  have hP : va_P (dC, dI) vwCl [(a, .inr (7, [.ref (u9 4), .ref (u24 1), .null])), ((u9 4), .inr (0, [.ref (u9 5), .ref (u9 6), .int 0, .ref (u9 9)])), ((u9 5), .inr (5, [.int 65535, .int 65535, .int 0, .int 0, .int 0, .int 0, .int 0, .int 0, .int 0])), ((u9 6), .inr (3, [.int 0, .int 0, .ref (u9 7), .ref (u9 8), .int 0, .int 0])), ((u9 7), .inl (cI, 64, .inl (fun _ => 0))), ((u9 8), .inl (cI, 256, .inl (fun _ => 0))), ((u9 9), .inr (2, [.ref (u9 10)])), ((u9 10), .inl (cJ, 10240, .inr (.inl (fun _ => 0)))), ((u24 1), .inr (4, [.int 0, .int 0, .int 0, .int 0, .int 48, .int 0, .int 0, .int 0, .int 0, .long 0, .int 0, .ref (u24 2), .ref (u9 4), .int 0, .int 0])), ((u24 2), .inr (6, [.int 0, .ref (u24 3)])), ((u24 3), .inl (cI, 32, .inl (fun _ => 0)))] H := hP
  have hD : va_D A [(a, .inr (7, [.ref (u9 4), .ref (u24 1), .null])), ((u9 4), .inr (0, [.ref (u9 5), .ref (u9 6), .int 0, .ref (u9 9)])), ((u9 5), .inr (5, [.int 65535, .int 65535, .int 0, .int 0, .int 0, .int 0, .int 0, .int 0, .int 0])), ((u9 6), .inr (3, [.int 0, .int 0, .ref (u9 7), .ref (u9 8), .int 0, .int 0])), ((u9 7), .inl (cI, 64, .inl (fun _ => 0))), ((u9 8), .inl (cI, 256, .inl (fun _ => 0))), ((u9 9), .inr (2, [.ref (u9 10)])), ((u9 10), .inl (cJ, 10240, .inr (.inl (fun _ => 0)))), ((u24 1), .inr (4, [.int 0, .int 0, .int 0, .int 0, .int 48, .int 0, .int 0, .int 0, .int 0, .long 0, .int 0, .ref (u24 2), .ref (u9 4), .int 0, .int 0])), ((u24 2), .inr (6, [.int 0, .ref (u24 3)])), ((u24 3), .inl (cI, 32, .inl (fun _ => 0)))] := hD
  refine lv_aload_n hx hb dX8_init_30 rfl (lv_at hl 0 rfl) ?_
  refine va_new (ci := 1) (fs := [.int 0, .null]) (C := RX1) (T := TX1) (N := 2) hx hb hts (fun w h => List.mem_cons_of_mem _ (in_X1 w h)) tyX1 tyX1_ok hown (hts _ (List.mem_cons_of_mem _ tw_1_205)) (hts _ (List.mem_cons_of_mem _ tw_1_206)) (hts _ (List.mem_cons_of_mem _ tw_1_8)) hK hP hD hS hA rfl (fun j hj => match j, hj with | 0, _ => rfl | 1, _ => rfl | j + 2, h9 => absurd h9 (by omega)) (Nat.le_of_ble_eq_true rfl) (Nat.le_of_ble_eq_true rfl) dX8_init_31 (fun q31 H hP hD hS => ?_)
  have hP : va_P (dC, dI) vwCl [(a, .inr (7, [.ref (u9 4), .ref (u24 1), .null])), ((u9 4), .inr (0, [.ref (u9 5), .ref (u9 6), .int 0, .ref (u9 9)])), ((u9 5), .inr (5, [.int 65535, .int 65535, .int 0, .int 0, .int 0, .int 0, .int 0, .int 0, .int 0])), ((u9 6), .inr (3, [.int 0, .int 0, .ref (u9 7), .ref (u9 8), .int 0, .int 0])), ((u9 7), .inl (cI, 64, .inl (fun _ => 0))), ((u9 8), .inl (cI, 256, .inl (fun _ => 0))), ((u9 9), .inr (2, [.ref (u9 10)])), ((u9 10), .inl (cJ, 10240, .inr (.inl (fun _ => 0)))), ((u24 1), .inr (4, [.int 0, .int 0, .int 0, .int 0, .int 48, .int 0, .int 0, .int 0, .int 0, .long 0, .int 0, .ref (u24 2), .ref (u9 4), .int 0, .int 0])), ((u24 2), .inr (6, [.int 0, .ref (u24 3)])), ((u24 3), .inl (cI, 32, .inl (fun _ => 0))), (q31, .inr (1, [.int 0, .null]))] H := hP
  have hD : va_D A [(a, .inr (7, [.ref (u9 4), .ref (u24 1), .null])), ((u9 4), .inr (0, [.ref (u9 5), .ref (u9 6), .int 0, .ref (u9 9)])), ((u9 5), .inr (5, [.int 65535, .int 65535, .int 0, .int 0, .int 0, .int 0, .int 0, .int 0, .int 0])), ((u9 6), .inr (3, [.int 0, .int 0, .ref (u9 7), .ref (u9 8), .int 0, .int 0])), ((u9 7), .inl (cI, 64, .inl (fun _ => 0))), ((u9 8), .inl (cI, 256, .inl (fun _ => 0))), ((u9 9), .inr (2, [.ref (u9 10)])), ((u9 10), .inl (cJ, 10240, .inr (.inl (fun _ => 0)))), ((u24 1), .inr (4, [.int 0, .int 0, .int 0, .int 0, .int 48, .int 0, .int 0, .int 0, .int 0, .long 0, .int 0, .ref (u24 2), .ref (u9 4), .int 0, .int 0])), ((u24 2), .inr (6, [.int 0, .ref (u24 3)])), ((u24 3), .inl (cI, 32, .inl (fun _ => 0))), (q31, .inr (1, [.int 0, .null]))] := hD
  refine W.widen (k := 11) (n := 10631) (Nat.le_of_ble_eq_true rfl) (Nat.le_of_ble_eq_true rfl) ?_
  refine lv_dup hx hb dX8_init_34 rfl ?_
  have hPc := hP.sub (ws' := [(q31, .inr (1, [.int 0, .null]))]) [11] rfl
  have hDc := hD.sub (ws' := [(q31, .inr (1, [.int 0, .null]))]) [11] (by decide) rfl
  have hFc := va_free (wc := [(q31, .inr (1, [.int 0, .null]))]) hD hS hA [11] rfl
  refine va_callv (va_runIN (As := []) (rest := [.ref q31, .ref a]) ⟨hx, hb, hml, hown, hts⟩ (c_X1_init l dC dI cI cJ q31 _) ⟨va_cnB 0 hts (tb_gI tw_1_209) rfl rfl rfl hN.2.2.2.2 (hts _ (List.mem_cons_of_mem _ tw_1_8)) (by decide +kernel) ⟨Nat.le_of_ble_eq_true rfl, Nat.le_of_ble_eq_true rfl⟩, rfl, (hts _ (List.mem_cons_of_mem _ tw_1_208))⟩ (cpre_S hK hPc hDc) rfl rfl hl.1 rfl (lv_room (Nat.le_of_ble_eq_true rfl)) dX8_init_35 ⟨Nat.le_of_ble_eq_true rfl, Nat.le_of_ble_eq_true rfl⟩) hS (fun q _ h => hFc q h) hFc (fun u35 t H1 locs ht hvm hu hB hz1 hk1 hS => ?_)
  obtain ⟨hP, hD⟩ := cjoin (w1 := [((u35 11), .inr (1, [.int 0, .ref (u35 12)])), ((u35 12), .inl (cI, 16, .inl (fun _ => 0)))]) ht hP hD [11] [0, 1, 2, 3, 4, 5, 6, 7, 8, 9, 10] rfl rfl (by decide) (by decide) hk1 hFc hB
  generalize H1 = H at hP hS ⊢
  have hP : va_P (dC, dI) vwCl [(a, .inr (7, [.ref (u9 4), .ref (u24 1), .null])), ((u9 4), .inr (0, [.ref (u9 5), .ref (u9 6), .int 0, .ref (u9 9)])), ((u9 5), .inr (5, [.int 65535, .int 65535, .int 0, .int 0, .int 0, .int 0, .int 0, .int 0, .int 0])), ((u9 6), .inr (3, [.int 0, .int 0, .ref (u9 7), .ref (u9 8), .int 0, .int 0])), ((u9 7), .inl (cI, 64, .inl (fun _ => 0))), ((u9 8), .inl (cI, 256, .inl (fun _ => 0))), ((u9 9), .inr (2, [.ref (u9 10)])), ((u9 10), .inl (cJ, 10240, .inr (.inl (fun _ => 0)))), ((u24 1), .inr (4, [.int 0, .int 0, .int 0, .int 0, .int 48, .int 0, .int 0, .int 0, .int 0, .long 0, .int 0, .ref (u24 2), .ref (u9 4), .int 0, .int 0])), ((u24 2), .inr (6, [.int 0, .ref (u24 3)])), ((u24 3), .inl (cI, 32, .inl (fun _ => 0))), ((u35 11), .inr (1, [.int 0, .ref (u35 12)])), ((u35 12), .inl (cI, 16, .inl (fun _ => 0)))] H := hP
  have hD : va_D A [(a, .inr (7, [.ref (u9 4), .ref (u24 1), .null])), ((u9 4), .inr (0, [.ref (u9 5), .ref (u9 6), .int 0, .ref (u9 9)])), ((u9 5), .inr (5, [.int 65535, .int 65535, .int 0, .int 0, .int 0, .int 0, .int 0, .int 0, .int 0])), ((u9 6), .inr (3, [.int 0, .int 0, .ref (u9 7), .ref (u9 8), .int 0, .int 0])), ((u9 7), .inl (cI, 64, .inl (fun _ => 0))), ((u9 8), .inl (cI, 256, .inl (fun _ => 0))), ((u9 9), .inr (2, [.ref (u9 10)])), ((u9 10), .inl (cJ, 10240, .inr (.inl (fun _ => 0)))), ((u24 1), .inr (4, [.int 0, .int 0, .int 0, .int 0, .int 48, .int 0, .int 0, .int 0, .int 0, .long 0, .int 0, .ref (u24 2), .ref (u9 4), .int 0, .int 0])), ((u24 2), .inr (6, [.int 0, .ref (u24 3)])), ((u24 3), .inl (cI, 32, .inl (fun _ => 0))), ((u35 11), .inr (1, [.int 0, .ref (u35 12)])), ((u35 12), .inl (cI, 16, .inl (fun _ => 0)))] := hD
  subst hu
  have hP : va_P (dC, dI) vwCl [(a, .inr (7, [.ref (u9 4), .ref (u24 1), .null])), ((u9 4), .inr (0, [.ref (u9 5), .ref (u9 6), .int 0, .ref (u9 9)])), ((u9 5), .inr (5, [.int 65535, .int 65535, .int 0, .int 0, .int 0, .int 0, .int 0, .int 0, .int 0])), ((u9 6), .inr (3, [.int 0, .int 0, .ref (u9 7), .ref (u9 8), .int 0, .int 0])), ((u9 7), .inl (cI, 64, .inl (fun _ => 0))), ((u9 8), .inl (cI, 256, .inl (fun _ => 0))), ((u9 9), .inr (2, [.ref (u9 10)])), ((u9 10), .inl (cJ, 10240, .inr (.inl (fun _ => 0)))), ((u24 1), .inr (4, [.int 0, .int 0, .int 0, .int 0, .int 48, .int 0, .int 0, .int 0, .int 0, .long 0, .int 0, .ref (u24 2), .ref (u9 4), .int 0, .int 0])), ((u24 2), .inr (6, [.int 0, .ref (u24 3)])), ((u24 3), .inl (cI, 32, .inl (fun _ => 0))), ((u35 11), .inr (1, [.int 0, .ref (u35 12)])), ((u35 12), .inl (cI, 16, .inl (fun _ => 0)))] H := hP
  have hD : va_D A [(a, .inr (7, [.ref (u9 4), .ref (u24 1), .null])), ((u9 4), .inr (0, [.ref (u9 5), .ref (u9 6), .int 0, .ref (u9 9)])), ((u9 5), .inr (5, [.int 65535, .int 65535, .int 0, .int 0, .int 0, .int 0, .int 0, .int 0, .int 0])), ((u9 6), .inr (3, [.int 0, .int 0, .ref (u9 7), .ref (u9 8), .int 0, .int 0])), ((u9 7), .inl (cI, 64, .inl (fun _ => 0))), ((u9 8), .inl (cI, 256, .inl (fun _ => 0))), ((u9 9), .inr (2, [.ref (u9 10)])), ((u9 10), .inl (cJ, 10240, .inr (.inl (fun _ => 0)))), ((u24 1), .inr (4, [.int 0, .int 0, .int 0, .int 0, .int 48, .int 0, .int 0, .int 0, .int 0, .long 0, .int 0, .ref (u24 2), .ref (u9 4), .int 0, .int 0])), ((u24 2), .inr (6, [.int 0, .ref (u24 3)])), ((u24 3), .inl (cI, 32, .inl (fun _ => 0))), ((u35 11), .inr (1, [.int 0, .ref (u35 12)])), ((u35 12), .inl (cI, 16, .inl (fun _ => 0)))] := hD
  refine W.widen (k := 12) (n := 10647) (Nat.le_of_ble_eq_true rfl) (Nat.le_of_ble_eq_true rfl) ?_
  refine va_putF (D := (dC, dI)) (ci := 7) (v := .ref (u35 11)) (ty := (.object "BoardMachine$Breaks")) (C := RX8) (T := TX8) (N := 3) hx hb hts (fun w h => List.mem_cons_of_mem _ (in_X8 w h)) tyX8 tyX8_ok nmX8 hown hK hP hD hS 0 rfl rfl 2 (by decide) (hts _ (List.mem_cons_of_mem _ tw_1_221)) (fun _ h9 => h9) rfl hin rfl (by decide +kernel) rfl rfl (Nat.le_of_ble_eq_true rfl) dX8_init_38 (fun H locs hP hD hS => ?_)
  have hP : va_P (dC, dI) vwCl [(a, .inr (7, [.ref (u9 4), .ref (u24 1), .ref (u35 11)])), ((u9 4), .inr (0, [.ref (u9 5), .ref (u9 6), .int 0, .ref (u9 9)])), ((u9 5), .inr (5, [.int 65535, .int 65535, .int 0, .int 0, .int 0, .int 0, .int 0, .int 0, .int 0])), ((u9 6), .inr (3, [.int 0, .int 0, .ref (u9 7), .ref (u9 8), .int 0, .int 0])), ((u9 7), .inl (cI, 64, .inl (fun _ => 0))), ((u9 8), .inl (cI, 256, .inl (fun _ => 0))), ((u9 9), .inr (2, [.ref (u9 10)])), ((u9 10), .inl (cJ, 10240, .inr (.inl (fun _ => 0)))), ((u24 1), .inr (4, [.int 0, .int 0, .int 0, .int 0, .int 48, .int 0, .int 0, .int 0, .int 0, .long 0, .int 0, .ref (u24 2), .ref (u9 4), .int 0, .int 0])), ((u24 2), .inr (6, [.int 0, .ref (u24 3)])), ((u24 3), .inl (cI, 32, .inl (fun _ => 0))), ((u35 11), .inr (1, [.int 0, .ref (u35 12)])), ((u35 12), .inl (cI, 16, .inl (fun _ => 0)))] H := hP
  have hD : va_D A [(a, .inr (7, [.ref (u9 4), .ref (u24 1), .ref (u35 11)])), ((u9 4), .inr (0, [.ref (u9 5), .ref (u9 6), .int 0, .ref (u9 9)])), ((u9 5), .inr (5, [.int 65535, .int 65535, .int 0, .int 0, .int 0, .int 0, .int 0, .int 0, .int 0])), ((u9 6), .inr (3, [.int 0, .int 0, .ref (u9 7), .ref (u9 8), .int 0, .int 0])), ((u9 7), .inl (cI, 64, .inl (fun _ => 0))), ((u9 8), .inl (cI, 256, .inl (fun _ => 0))), ((u9 9), .inr (2, [.ref (u9 10)])), ((u9 10), .inl (cJ, 10240, .inr (.inl (fun _ => 0)))), ((u24 1), .inr (4, [.int 0, .int 0, .int 0, .int 0, .int 48, .int 0, .int 0, .int 0, .int 0, .long 0, .int 0, .ref (u24 2), .ref (u9 4), .int 0, .int 0])), ((u24 2), .inr (6, [.int 0, .ref (u24 3)])), ((u24 3), .inl (cI, 32, .inl (fun _ => 0))), ((u35 11), .inr (1, [.int 0, .ref (u35 12)])), ((u35 12), .inl (cI, 16, .inl (fun _ => 0)))] := hD
  have hP9 := hP.sub (ws' := w_BM (fun i : Nat => match i with | 0 => a | 1 => (u24 1) | 2 => (u24 2) | 3 => (u24 3) | 4 => (u9 4) | 5 => (u9 5) | 6 => (u9 6) | 7 => (u9 7) | 8 => (u9 8) | 9 => (u9 9) | 10 => (u9 10) | 11 => (u35 11) | 12 => (u35 12) | _ => 0) cI cJ ((upd (fun _ => 0) 4 48, 0, ((fun _ => 0), (fun _ => 0)), ((fun _ => 0), (upd (upd (fun _ => 0) 0 65535) 1 65535), ((fun _ => 0), (fun _ => 0), (fun _ => 0)), (fun _ => 0))), ((fun _ => 0), (fun _ => 0)))) [0, 8, 9, 10, 1, 2, 3, 4, 5, 6, 7, 11, 12] rfl
  have hD9 := hD.sub (ws' := w_BM (fun i : Nat => match i with | 0 => a | 1 => (u24 1) | 2 => (u24 2) | 3 => (u24 3) | 4 => (u9 4) | 5 => (u9 5) | 6 => (u9 6) | 7 => (u9 7) | 8 => (u9 8) | 9 => (u9 9) | 10 => (u9 10) | 11 => (u35 11) | 12 => (u35 12) | _ => 0) cI cJ ((upd (fun _ => 0) 4 48, 0, ((fun _ => 0), (fun _ => 0)), ((fun _ => 0), (upd (upd (fun _ => 0) 0 65535) 1 65535), ((fun _ => 0), (fun _ => 0), (fun _ => 0)), (fun _ => 0))), ((fun _ => 0), (fun _ => 0)))) [0, 8, 9, 10, 1, 2, 3, 4, 5, 6, 7, 11, 12] (by decide) rfl
  exact W.vret hx hb hr (fun t ht hW => ⟨⟨(fun i : Nat => match i with | 0 => a | 1 => (u24 1) | 2 => (u24 2) | 3 => (u24 3) | 4 => (u9 4) | 5 => (u9 5) | 6 => (u9 6) | 7 => (u9 7) | 8 => (u9 8) | 9 => (u9 9) | 10 => (u9 10) | 11 => (u35 11) | 12 => (u35 12) | _ => 0), rfl, rfl, by rw [ht]; exact hP9, va_K.moved hW.alike hK, hD9⟩, hS.F ht⟩) hS.2.2 dX8_init_41
set_option maxHeartbeats 4000000 in
set_option maxRecDepth 100000 in
theorem c_X9_init (l : Launch) (dC : Nat → ClassId) (dI : Nat → Nat → Nat) (cI cJ : ClassId) (a : Nat) (sz : Nat) : Met l yX9_init wsX9_init ({ frames := 1, cells := 6, slots := 82292, locals := 20 }) (va_Pc [.ref a] (cpre dC dI cI cJ [(a, .inr (8, [.int 0, .null, .null, .int 0, .int 0, .int 0, .int 0, .int 0, .int 0, .int 0, .int 0, .int 0, .int 0, .int 0, .int 0, .int 0, .int 0, .int 0, .int 0, .int 0, .int 0, .int 0, .int 0, .int 0, .null, .null, .long 0, .long 0, .long 0, .int 0, .int 0, .null, .null]))] sz)) (va_Qv (fun u : Nat → Nat => u 13 = a) (fun u => cpost dC dI cI cJ (va_A [(a, .inr (8, [.int 0, .null, .null, .int 0, .int 0, .int 0, .int 0, .int 0, .int 0, .int 0, .int 0, .int 0, .int 0, .int 0, .int 0, .int 0, .int 0, .int 0, .int 0, .int 0, .int 0, .int 0, .int 0, .int 0, .null, .null, .long 0, .long 0, .long 0, .int 0, .int 0, .null, .null]))] sz) (w_Model u cI cJ (upd (upd (upd (upd (upd (upd (upd (upd (upd (upd (upd (upd (fun _ => 0) 12 65535) 13 65535) 5 0) 22 0) 19 0) 18 0) 17 0) 16 0) 15 0) 14 0) 20 0) 21 0, (fun _ => 0), (fun _ _ => 0)))) (va_A [(a, .inr (8, [.int 0, .null, .null, .int 0, .int 0, .int 0, .int 0, .int 0, .int 0, .int 0, .int 0, .int 0, .int 0, .int 0, .int 0, .int 0, .int 0, .int 0, .int 0, .int 0, .int 0, .int 0, .int 0, .int 0, .null, .null, .long 0, .long 0, .long 0, .int 0, .int 0, .null, .null]))] sz)) 6 82292 (va_A [(a, .inr (8, [.int 0, .null, .null, .int 0, .int 0, .int 0, .int 0, .int 0, .int 0, .int 0, .int 0, .int 0, .int 0, .int 0, .int 0, .int 0, .int 0, .int 0, .int 0, .int 0, .int 0, .int 0, .int 0, .int 0, .null, .null, .long 0, .long 0, .long 0, .int 0, .int 0, .null, .null]))] sz) := by
  refine Met.ofW (cc := cX9_init) (maxL := 1) (ret := none) (by decide) rfl ?_
  intro p e s m args below meth c s₁ B hml hv
  obtain ⟨rfl, hsz, hP, hK, hD0⟩ := hv
  have hx := B.exec
  have hb := B.bytes
  have hr := B.returns
  have hts := atoms_spec (ws := wsX9_init) B.pre
  have hown : s.vm.findClass RX9 = some m.cls := findClass_of_methodNamed B.named
  have hlocks := B.notSynchronized
  have hin : meth.name = "<init>" := (name_of_methodNamed B.named B.method).1
  subst hsz
  have hD := hD0.self (sz := s.heap.size)
  generalize hAe : va_A [(a, .inr (8, [.int 0, .null, .null, .int 0, .int 0, .int 0, .int 0, .int 0, .int 0, .int 0, .int 0, .int 0, .int 0, .int 0, .int 0, .int 0, .int 0, .int 0, .int 0, .int 0, .int 0, .int 0, .int 0, .int 0, .null, .null, .long 0, .long 0, .long 0, .int 0, .int 0, .null, .null]))] s.heap.size = A at hD ⊢
  have hA : ∀ q : Nat, s.heap.size ≤ q → A q := fun q h => by rw [← hAe]; exact Or.inr h
  clear hD0 hAe
  have hS : va_S A s.heap s.heap [] := va_S.rf
  have hl := lv_entry ([.ref a]) (n := 1) (Nat.le_of_ble_eq_true rfl)
  rw [lg_entry_eq]
  generalize (lg_sl ([.ref a]) ++ List.replicate (1 - (lg_sl ([.ref a])).length) Slot.unset).toArray = ls at hl ⊢
  have hl : lv_has ls 1 [(0, .ref a)] := hl
  have H := s.heap
  clear H
  refine lv_aload_n hx hb dX9_init_0 rfl (lv_at hl 0 rfl) ?_
  refine W.objInit hx hb hown (hts _ (List.mem_cons_of_mem _ tw_3_180)) (hts _ (List.mem_cons_of_mem _ tw_1_22)) (hts _ (List.mem_cons_of_mem _ tw_1_23)) rfl (by rw [hml]; exact hl.1) rfl dX9_init_1 (Nat.le_of_ble_eq_true rfl) (Nat.le_of_ble_eq_true rfl) ?_
  refine W.eq (g2 := F0 m 4 ls []) rfl ?_
  refine lv_aload_n hx hb dX9_init_4 rfl (lv_at hl 0 rfl) ?_
  refine lv_ldc (v := 81920) hx hb hown (hts _ (List.mem_cons_of_mem _ tw_3_181)) dX9_init_5 ?_
  refine va_newa (N' := 81920) (a0 := (81920, .inl (fun _ => 0))) (atype := .int) (ty := .int) hx hb (hts _ (List.mem_cons_of_mem _ tw_1_97)) rfl hK hP hD hS hA (vc_I 81920) (by decide) (by decide) (Nat.le_of_ble_eq_true rfl) (Nat.le_of_ble_eq_true rfl) (Nat.le_of_ble_eq_true rfl) dX9_init_7 (fun q7 cA H hK9 hP hD hS => ?_)
  have hq9 : cA = cI := Option.some.inj ((hK9.2 2 _ rfl).2.symm.trans (hK.2 0 _ rfl).2)
  rw [hq9] at hP hD
  clear hq9 hK9
  have hP : va_P (dC, dI) vwCl [(a, .inr (8, [.int 0, .null, .null, .int 0, .int 0, .int 0, .int 0, .int 0, .int 0, .int 0, .int 0, .int 0, .int 0, .int 0, .int 0, .int 0, .int 0, .int 0, .int 0, .int 0, .int 0, .int 0, .int 0, .int 0, .null, .null, .long 0, .long 0, .long 0, .int 0, .int 0, .null, .null])), (q7, .inl (cI, 81920, .inl (fun _ => 0)))] H := hP
  have hD : va_D A [(a, .inr (8, [.int 0, .null, .null, .int 0, .int 0, .int 0, .int 0, .int 0, .int 0, .int 0, .int 0, .int 0, .int 0, .int 0, .int 0, .int 0, .int 0, .int 0, .int 0, .int 0, .int 0, .int 0, .int 0, .int 0, .null, .null, .long 0, .long 0, .long 0, .int 0, .int 0, .null, .null])), (q7, .inl (cI, 81920, .inl (fun _ => 0)))] := hD
  refine W.widen (k := 1) (n := 81920) (Nat.le_of_ble_eq_true rfl) (Nat.le_of_ble_eq_true rfl) ?_
  refine va_putF (D := (dC, dI)) (ci := 8) (v := .ref q7) (ty := (.array .int)) (C := RX9) (T := TX9) (N := 33) hx hb hts (fun w h => List.mem_cons_of_mem _ (in_X9 w h)) tyX9 tyX9_ok nmX9 hown hK hP hD hS 0 rfl rfl 1 (by decide) (hts _ (List.mem_cons_of_mem _ tw_3_188)) (fun _ h9 => h9) rfl hin rfl (by decide +kernel) rfl rfl (Nat.le_of_ble_eq_true rfl) dX9_init_9 (fun H locs hP hD hS => ?_)
  have hP : va_P (dC, dI) vwCl [(a, .inr (8, [.int 0, .ref q7, .null, .int 0, .int 0, .int 0, .int 0, .int 0, .int 0, .int 0, .int 0, .int 0, .int 0, .int 0, .int 0, .int 0, .int 0, .int 0, .int 0, .int 0, .int 0, .int 0, .int 0, .int 0, .null, .null, .long 0, .long 0, .long 0, .int 0, .int 0, .null, .null])), (q7, .inl (cI, 81920, .inl (fun _ => 0)))] H := hP
  have hD : va_D A [(a, .inr (8, [.int 0, .ref q7, .null, .int 0, .int 0, .int 0, .int 0, .int 0, .int 0, .int 0, .int 0, .int 0, .int 0, .int 0, .int 0, .int 0, .int 0, .int 0, .int 0, .int 0, .int 0, .int 0, .int 0, .int 0, .null, .null, .long 0, .long 0, .long 0, .int 0, .int 0, .null, .null])), (q7, .inl (cI, 81920, .inl (fun _ => 0)))] := hD
  refine lv_aload_n hx hb dX9_init_12 rfl (lv_at hl 0 rfl) ?_
  refine lv_iconst (v := 4) hx hb dX9_init_13 (by decide) ?_
  refine va_newa (N' := 4) (a0 := (4, .inl (fun _ => 0))) (atype := .int) (ty := .int) hx hb (hts _ (List.mem_cons_of_mem _ tw_1_97)) rfl hK hP hD hS hA (vc_I 4) (by decide) (by decide) (Nat.le_of_ble_eq_true rfl) (Nat.le_of_ble_eq_true rfl) (Nat.le_of_ble_eq_true rfl) dX9_init_14 (fun q14 cA H hK9 hP hD hS => ?_)
  have hq9 : cA = cI := Option.some.inj ((hK9.2 2 _ rfl).2.symm.trans (hK.2 0 _ rfl).2)
  rw [hq9] at hP hD
  clear hq9 hK9
  have hP : va_P (dC, dI) vwCl [(a, .inr (8, [.int 0, .ref q7, .null, .int 0, .int 0, .int 0, .int 0, .int 0, .int 0, .int 0, .int 0, .int 0, .int 0, .int 0, .int 0, .int 0, .int 0, .int 0, .int 0, .int 0, .int 0, .int 0, .int 0, .int 0, .null, .null, .long 0, .long 0, .long 0, .int 0, .int 0, .null, .null])), (q7, .inl (cI, 81920, .inl (fun _ => 0))), (q14, .inl (cI, 4, .inl (fun _ => 0)))] H := hP
  have hD : va_D A [(a, .inr (8, [.int 0, .ref q7, .null, .int 0, .int 0, .int 0, .int 0, .int 0, .int 0, .int 0, .int 0, .int 0, .int 0, .int 0, .int 0, .int 0, .int 0, .int 0, .int 0, .int 0, .int 0, .int 0, .int 0, .int 0, .null, .null, .long 0, .long 0, .long 0, .int 0, .int 0, .null, .null])), (q7, .inl (cI, 81920, .inl (fun _ => 0))), (q14, .inl (cI, 4, .inl (fun _ => 0)))] := hD
  refine W.widen (k := 2) (n := 81924) (Nat.le_of_ble_eq_true rfl) (Nat.le_of_ble_eq_true rfl) ?_
  refine va_putF (D := (dC, dI)) (ci := 8) (v := .ref q14) (ty := (.array .int)) (C := RX9) (T := TX9) (N := 33) hx hb hts (fun w h => List.mem_cons_of_mem _ (in_X9 w h)) tyX9 tyX9_ok nmX9 hown hK hP hD hS 0 rfl rfl 2 (by decide) (hts _ (List.mem_cons_of_mem _ tw_3_189)) (fun _ h9 => h9) rfl hin rfl (by decide +kernel) rfl rfl (Nat.le_of_ble_eq_true rfl) dX9_init_16 (fun H locs hP hD hS => ?_)
  have hP : va_P (dC, dI) vwCl [(a, .inr (8, [.int 0, .ref q7, .ref q14, .int 0, .int 0, .int 0, .int 0, .int 0, .int 0, .int 0, .int 0, .int 0, .int 0, .int 0, .int 0, .int 0, .int 0, .int 0, .int 0, .int 0, .int 0, .int 0, .int 0, .int 0, .null, .null, .long 0, .long 0, .long 0, .int 0, .int 0, .null, .null])), (q7, .inl (cI, 81920, .inl (fun _ => 0))), (q14, .inl (cI, 4, .inl (fun _ => 0)))] H := hP
  have hD : va_D A [(a, .inr (8, [.int 0, .ref q7, .ref q14, .int 0, .int 0, .int 0, .int 0, .int 0, .int 0, .int 0, .int 0, .int 0, .int 0, .int 0, .int 0, .int 0, .int 0, .int 0, .int 0, .int 0, .int 0, .int 0, .int 0, .int 0, .null, .null, .long 0, .long 0, .long 0, .int 0, .int 0, .null, .null])), (q7, .inl (cI, 81920, .inl (fun _ => 0))), (q14, .inl (cI, 4, .inl (fun _ => 0)))] := hD
  refine lv_aload_n hx hb dX9_init_19 rfl (lv_at hl 0 rfl) ?_
  refine lv_bipush (v := 64) hx hb dX9_init_20 (by decide) ?_
  refine va_newa (N' := 64) (a0 := (64, .inl (fun _ => 0))) (atype := .int) (ty := .int) hx hb (hts _ (List.mem_cons_of_mem _ tw_1_97)) rfl hK hP hD hS hA (vc_I 64) (by decide) (by decide) (Nat.le_of_ble_eq_true rfl) (Nat.le_of_ble_eq_true rfl) (Nat.le_of_ble_eq_true rfl) dX9_init_22 (fun q22 cA H hK9 hP hD hS => ?_)
  have hq9 : cA = cI := Option.some.inj ((hK9.2 2 _ rfl).2.symm.trans (hK.2 0 _ rfl).2)
  rw [hq9] at hP hD
  clear hq9 hK9
  have hP : va_P (dC, dI) vwCl [(a, .inr (8, [.int 0, .ref q7, .ref q14, .int 0, .int 0, .int 0, .int 0, .int 0, .int 0, .int 0, .int 0, .int 0, .int 0, .int 0, .int 0, .int 0, .int 0, .int 0, .int 0, .int 0, .int 0, .int 0, .int 0, .int 0, .null, .null, .long 0, .long 0, .long 0, .int 0, .int 0, .null, .null])), (q7, .inl (cI, 81920, .inl (fun _ => 0))), (q14, .inl (cI, 4, .inl (fun _ => 0))), (q22, .inl (cI, 64, .inl (fun _ => 0)))] H := hP
  have hD : va_D A [(a, .inr (8, [.int 0, .ref q7, .ref q14, .int 0, .int 0, .int 0, .int 0, .int 0, .int 0, .int 0, .int 0, .int 0, .int 0, .int 0, .int 0, .int 0, .int 0, .int 0, .int 0, .int 0, .int 0, .int 0, .int 0, .int 0, .null, .null, .long 0, .long 0, .long 0, .int 0, .int 0, .null, .null])), (q7, .inl (cI, 81920, .inl (fun _ => 0))), (q14, .inl (cI, 4, .inl (fun _ => 0))), (q22, .inl (cI, 64, .inl (fun _ => 0)))] := hD
  refine W.widen (k := 3) (n := 81988) (Nat.le_of_ble_eq_true rfl) (Nat.le_of_ble_eq_true rfl) ?_
  refine va_putF (D := (dC, dI)) (ci := 8) (v := .ref q22) (ty := (.array .int)) (C := RX9) (T := TX9) (N := 33) hx hb hts (fun w h => List.mem_cons_of_mem _ (in_X9 w h)) tyX9 tyX9_ok nmX9 hown hK hP hD hS 0 rfl rfl 24 (by decide) (hts _ (List.mem_cons_of_mem _ tw_3_211)) (fun _ h9 => h9) rfl hin rfl (by decide +kernel) rfl rfl (Nat.le_of_ble_eq_true rfl) dX9_init_24 (fun H locs hP hD hS => ?_)
  have hP : va_P (dC, dI) vwCl [(a, .inr (8, [.int 0, .ref q7, .ref q14, .int 0, .int 0, .int 0, .int 0, .int 0, .int 0, .int 0, .int 0, .int 0, .int 0, .int 0, .int 0, .int 0, .int 0, .int 0, .int 0, .int 0, .int 0, .int 0, .int 0, .int 0, .ref q22, .null, .long 0, .long 0, .long 0, .int 0, .int 0, .null, .null])), (q7, .inl (cI, 81920, .inl (fun _ => 0))), (q14, .inl (cI, 4, .inl (fun _ => 0))), (q22, .inl (cI, 64, .inl (fun _ => 0)))] H := hP
  have hD : va_D A [(a, .inr (8, [.int 0, .ref q7, .ref q14, .int 0, .int 0, .int 0, .int 0, .int 0, .int 0, .int 0, .int 0, .int 0, .int 0, .int 0, .int 0, .int 0, .int 0, .int 0, .int 0, .int 0, .int 0, .int 0, .int 0, .int 0, .ref q22, .null, .long 0, .long 0, .long 0, .int 0, .int 0, .null, .null])), (q7, .inl (cI, 81920, .inl (fun _ => 0))), (q14, .inl (cI, 4, .inl (fun _ => 0))), (q22, .inl (cI, 64, .inl (fun _ => 0)))] := hD
  refine lv_aload_n hx hb dX9_init_27 rfl (lv_at hl 0 rfl) ?_
  refine lv_sipush (v := 256) hx hb dX9_init_28 (by decide) ?_
  refine va_newa (N' := 256) (a0 := (256, .inl (fun _ => 0))) (atype := .int) (ty := .int) hx hb (hts _ (List.mem_cons_of_mem _ tw_1_97)) rfl hK hP hD hS hA (vc_I 256) (by decide) (by decide) (Nat.le_of_ble_eq_true rfl) (Nat.le_of_ble_eq_true rfl) (Nat.le_of_ble_eq_true rfl) dX9_init_31 (fun q31 cA H hK9 hP hD hS => ?_)
  have hq9 : cA = cI := Option.some.inj ((hK9.2 2 _ rfl).2.symm.trans (hK.2 0 _ rfl).2)
  rw [hq9] at hP hD
  clear hq9 hK9
  have hP : va_P (dC, dI) vwCl [(a, .inr (8, [.int 0, .ref q7, .ref q14, .int 0, .int 0, .int 0, .int 0, .int 0, .int 0, .int 0, .int 0, .int 0, .int 0, .int 0, .int 0, .int 0, .int 0, .int 0, .int 0, .int 0, .int 0, .int 0, .int 0, .int 0, .ref q22, .null, .long 0, .long 0, .long 0, .int 0, .int 0, .null, .null])), (q7, .inl (cI, 81920, .inl (fun _ => 0))), (q14, .inl (cI, 4, .inl (fun _ => 0))), (q22, .inl (cI, 64, .inl (fun _ => 0))), (q31, .inl (cI, 256, .inl (fun _ => 0)))] H := hP
  have hD : va_D A [(a, .inr (8, [.int 0, .ref q7, .ref q14, .int 0, .int 0, .int 0, .int 0, .int 0, .int 0, .int 0, .int 0, .int 0, .int 0, .int 0, .int 0, .int 0, .int 0, .int 0, .int 0, .int 0, .int 0, .int 0, .int 0, .int 0, .ref q22, .null, .long 0, .long 0, .long 0, .int 0, .int 0, .null, .null])), (q7, .inl (cI, 81920, .inl (fun _ => 0))), (q14, .inl (cI, 4, .inl (fun _ => 0))), (q22, .inl (cI, 64, .inl (fun _ => 0))), (q31, .inl (cI, 256, .inl (fun _ => 0)))] := hD
  refine W.widen (k := 4) (n := 82244) (Nat.le_of_ble_eq_true rfl) (Nat.le_of_ble_eq_true rfl) ?_
  refine va_putF (D := (dC, dI)) (ci := 8) (v := .ref q31) (ty := (.array .int)) (C := RX9) (T := TX9) (N := 33) hx hb hts (fun w h => List.mem_cons_of_mem _ (in_X9 w h)) tyX9 tyX9_ok nmX9 hown hK hP hD hS 0 rfl rfl 25 (by decide) (hts _ (List.mem_cons_of_mem _ tw_3_212)) (fun _ h9 => h9) rfl hin rfl (by decide +kernel) rfl rfl (Nat.le_of_ble_eq_true rfl) dX9_init_33 (fun H locs hP hD hS => ?_)
  have hP : va_P (dC, dI) vwCl [(a, .inr (8, [.int 0, .ref q7, .ref q14, .int 0, .int 0, .int 0, .int 0, .int 0, .int 0, .int 0, .int 0, .int 0, .int 0, .int 0, .int 0, .int 0, .int 0, .int 0, .int 0, .int 0, .int 0, .int 0, .int 0, .int 0, .ref q22, .ref q31, .long 0, .long 0, .long 0, .int 0, .int 0, .null, .null])), (q7, .inl (cI, 81920, .inl (fun _ => 0))), (q14, .inl (cI, 4, .inl (fun _ => 0))), (q22, .inl (cI, 64, .inl (fun _ => 0))), (q31, .inl (cI, 256, .inl (fun _ => 0)))] H := hP
  have hD : va_D A [(a, .inr (8, [.int 0, .ref q7, .ref q14, .int 0, .int 0, .int 0, .int 0, .int 0, .int 0, .int 0, .int 0, .int 0, .int 0, .int 0, .int 0, .int 0, .int 0, .int 0, .int 0, .int 0, .int 0, .int 0, .int 0, .int 0, .ref q22, .ref q31, .long 0, .long 0, .long 0, .int 0, .int 0, .null, .null])), (q7, .inl (cI, 81920, .inl (fun _ => 0))), (q14, .inl (cI, 4, .inl (fun _ => 0))), (q22, .inl (cI, 64, .inl (fun _ => 0))), (q31, .inl (cI, 256, .inl (fun _ => 0)))] := hD
  refine lv_aload_n hx hb dX9_init_36 rfl (lv_at hl 0 rfl) ?_
  refine lv_bipush (v := 16) hx hb dX9_init_37 (by decide) ?_
  refine va_newa (N' := 16) (a0 := (16, .inl (fun _ => 0))) (atype := .int) (ty := .int) hx hb (hts _ (List.mem_cons_of_mem _ tw_1_97)) rfl hK hP hD hS hA (vc_I 16) (by decide) (by decide) (Nat.le_of_ble_eq_true rfl) (Nat.le_of_ble_eq_true rfl) (Nat.le_of_ble_eq_true rfl) dX9_init_39 (fun q39 cA H hK9 hP hD hS => ?_)
  have hq9 : cA = cI := Option.some.inj ((hK9.2 2 _ rfl).2.symm.trans (hK.2 0 _ rfl).2)
  rw [hq9] at hP hD
  clear hq9 hK9
  have hP : va_P (dC, dI) vwCl [(a, .inr (8, [.int 0, .ref q7, .ref q14, .int 0, .int 0, .int 0, .int 0, .int 0, .int 0, .int 0, .int 0, .int 0, .int 0, .int 0, .int 0, .int 0, .int 0, .int 0, .int 0, .int 0, .int 0, .int 0, .int 0, .int 0, .ref q22, .ref q31, .long 0, .long 0, .long 0, .int 0, .int 0, .null, .null])), (q7, .inl (cI, 81920, .inl (fun _ => 0))), (q14, .inl (cI, 4, .inl (fun _ => 0))), (q22, .inl (cI, 64, .inl (fun _ => 0))), (q31, .inl (cI, 256, .inl (fun _ => 0))), (q39, .inl (cI, 16, .inl (fun _ => 0)))] H := hP
  have hD : va_D A [(a, .inr (8, [.int 0, .ref q7, .ref q14, .int 0, .int 0, .int 0, .int 0, .int 0, .int 0, .int 0, .int 0, .int 0, .int 0, .int 0, .int 0, .int 0, .int 0, .int 0, .int 0, .int 0, .int 0, .int 0, .int 0, .int 0, .ref q22, .ref q31, .long 0, .long 0, .long 0, .int 0, .int 0, .null, .null])), (q7, .inl (cI, 81920, .inl (fun _ => 0))), (q14, .inl (cI, 4, .inl (fun _ => 0))), (q22, .inl (cI, 64, .inl (fun _ => 0))), (q31, .inl (cI, 256, .inl (fun _ => 0))), (q39, .inl (cI, 16, .inl (fun _ => 0)))] := hD
  refine W.widen (k := 5) (n := 82260) (Nat.le_of_ble_eq_true rfl) (Nat.le_of_ble_eq_true rfl) ?_
  refine va_putF (D := (dC, dI)) (ci := 8) (v := .ref q39) (ty := (.array .int)) (C := RX9) (T := TX9) (N := 33) hx hb hts (fun w h => List.mem_cons_of_mem _ (in_X9 w h)) tyX9 tyX9_ok nmX9 hown hK hP hD hS 0 rfl rfl 31 (by decide) (hts _ (List.mem_cons_of_mem _ tw_3_218)) (fun _ h9 => h9) rfl hin rfl (by decide +kernel) rfl rfl (Nat.le_of_ble_eq_true rfl) dX9_init_41 (fun H locs hP hD hS => ?_)
  have hP : va_P (dC, dI) vwCl [(a, .inr (8, [.int 0, .ref q7, .ref q14, .int 0, .int 0, .int 0, .int 0, .int 0, .int 0, .int 0, .int 0, .int 0, .int 0, .int 0, .int 0, .int 0, .int 0, .int 0, .int 0, .int 0, .int 0, .int 0, .int 0, .int 0, .ref q22, .ref q31, .long 0, .long 0, .long 0, .int 0, .int 0, .ref q39, .null])), (q7, .inl (cI, 81920, .inl (fun _ => 0))), (q14, .inl (cI, 4, .inl (fun _ => 0))), (q22, .inl (cI, 64, .inl (fun _ => 0))), (q31, .inl (cI, 256, .inl (fun _ => 0))), (q39, .inl (cI, 16, .inl (fun _ => 0)))] H := hP
  have hD : va_D A [(a, .inr (8, [.int 0, .ref q7, .ref q14, .int 0, .int 0, .int 0, .int 0, .int 0, .int 0, .int 0, .int 0, .int 0, .int 0, .int 0, .int 0, .int 0, .int 0, .int 0, .int 0, .int 0, .int 0, .int 0, .int 0, .int 0, .ref q22, .ref q31, .long 0, .long 0, .long 0, .int 0, .int 0, .ref q39, .null])), (q7, .inl (cI, 81920, .inl (fun _ => 0))), (q14, .inl (cI, 4, .inl (fun _ => 0))), (q22, .inl (cI, 64, .inl (fun _ => 0))), (q31, .inl (cI, 256, .inl (fun _ => 0))), (q39, .inl (cI, 16, .inl (fun _ => 0)))] := hD
  refine lv_aload_n hx hb dX9_init_44 rfl (lv_at hl 0 rfl) ?_
  refine lv_bipush (v := 32) hx hb dX9_init_45 (by decide) ?_
  refine va_newa (N' := 32) (a0 := (32, .inl (fun _ => 0))) (atype := .int) (ty := .int) hx hb (hts _ (List.mem_cons_of_mem _ tw_1_97)) rfl hK hP hD hS hA (vc_I 32) (by decide) (by decide) (Nat.le_of_ble_eq_true rfl) (Nat.le_of_ble_eq_true rfl) (Nat.le_of_ble_eq_true rfl) dX9_init_47 (fun q47 cA H hK9 hP hD hS => ?_)
  have hq9 : cA = cI := Option.some.inj ((hK9.2 2 _ rfl).2.symm.trans (hK.2 0 _ rfl).2)
  rw [hq9] at hP hD
  clear hq9 hK9
  have hP : va_P (dC, dI) vwCl [(a, .inr (8, [.int 0, .ref q7, .ref q14, .int 0, .int 0, .int 0, .int 0, .int 0, .int 0, .int 0, .int 0, .int 0, .int 0, .int 0, .int 0, .int 0, .int 0, .int 0, .int 0, .int 0, .int 0, .int 0, .int 0, .int 0, .ref q22, .ref q31, .long 0, .long 0, .long 0, .int 0, .int 0, .ref q39, .null])), (q7, .inl (cI, 81920, .inl (fun _ => 0))), (q14, .inl (cI, 4, .inl (fun _ => 0))), (q22, .inl (cI, 64, .inl (fun _ => 0))), (q31, .inl (cI, 256, .inl (fun _ => 0))), (q39, .inl (cI, 16, .inl (fun _ => 0))), (q47, .inl (cI, 32, .inl (fun _ => 0)))] H := hP
  have hD : va_D A [(a, .inr (8, [.int 0, .ref q7, .ref q14, .int 0, .int 0, .int 0, .int 0, .int 0, .int 0, .int 0, .int 0, .int 0, .int 0, .int 0, .int 0, .int 0, .int 0, .int 0, .int 0, .int 0, .int 0, .int 0, .int 0, .int 0, .ref q22, .ref q31, .long 0, .long 0, .long 0, .int 0, .int 0, .ref q39, .null])), (q7, .inl (cI, 81920, .inl (fun _ => 0))), (q14, .inl (cI, 4, .inl (fun _ => 0))), (q22, .inl (cI, 64, .inl (fun _ => 0))), (q31, .inl (cI, 256, .inl (fun _ => 0))), (q39, .inl (cI, 16, .inl (fun _ => 0))), (q47, .inl (cI, 32, .inl (fun _ => 0)))] := hD
  refine W.widen (k := 6) (n := 82292) (Nat.le_of_ble_eq_true rfl) (Nat.le_of_ble_eq_true rfl) ?_
  refine va_putF (D := (dC, dI)) (ci := 8) (v := .ref q47) (ty := (.array .int)) (C := RX9) (T := TX9) (N := 33) hx hb hts (fun w h => List.mem_cons_of_mem _ (in_X9 w h)) tyX9 tyX9_ok nmX9 hown hK hP hD hS 0 rfl rfl 32 (by decide) (hts _ (List.mem_cons_of_mem _ tw_3_219)) (fun _ h9 => h9) rfl hin rfl (by decide +kernel) rfl rfl (Nat.le_of_ble_eq_true rfl) dX9_init_49 (fun H locs hP hD hS => ?_)
  have hP : va_P (dC, dI) vwCl [(a, .inr (8, [.int 0, .ref q7, .ref q14, .int 0, .int 0, .int 0, .int 0, .int 0, .int 0, .int 0, .int 0, .int 0, .int 0, .int 0, .int 0, .int 0, .int 0, .int 0, .int 0, .int 0, .int 0, .int 0, .int 0, .int 0, .ref q22, .ref q31, .long 0, .long 0, .long 0, .int 0, .int 0, .ref q39, .ref q47])), (q7, .inl (cI, 81920, .inl (fun _ => 0))), (q14, .inl (cI, 4, .inl (fun _ => 0))), (q22, .inl (cI, 64, .inl (fun _ => 0))), (q31, .inl (cI, 256, .inl (fun _ => 0))), (q39, .inl (cI, 16, .inl (fun _ => 0))), (q47, .inl (cI, 32, .inl (fun _ => 0)))] H := hP
  have hD : va_D A [(a, .inr (8, [.int 0, .ref q7, .ref q14, .int 0, .int 0, .int 0, .int 0, .int 0, .int 0, .int 0, .int 0, .int 0, .int 0, .int 0, .int 0, .int 0, .int 0, .int 0, .int 0, .int 0, .int 0, .int 0, .int 0, .int 0, .ref q22, .ref q31, .long 0, .long 0, .long 0, .int 0, .int 0, .ref q39, .ref q47])), (q7, .inl (cI, 81920, .inl (fun _ => 0))), (q14, .inl (cI, 4, .inl (fun _ => 0))), (q22, .inl (cI, 64, .inl (fun _ => 0))), (q31, .inl (cI, 256, .inl (fun _ => 0))), (q39, .inl (cI, 16, .inl (fun _ => 0))), (q47, .inl (cI, 32, .inl (fun _ => 0)))] := hD
  refine lv_aload_n hx hb dX9_init_52 rfl (lv_at hl 0 rfl) ?_
  have hP : va_P (dC, dI) vwCl (w_Model (fun i : Nat => match i with | 13 => a | 14 => q7 | 15 => q14 | 16 => q22 | 17 => q31 | 18 => q39 | 19 => q47 | _ => 0) cI cJ ((fun _ => 0), (fun _ => 0), (fun _ _ => 0))) H := hP
  have hD : va_D A (w_Model (fun i : Nat => match i with | 13 => a | 14 => q7 | 15 => q14 | 16 => q22 | 17 => q31 | 18 => q39 | 19 => q47 | _ => 0) cI cJ ((fun _ => 0), (fun _ => 0), (fun _ _ => 0))) := hD
  have hFc := va_free (wc := w_Model (fun i : Nat => match i with | 13 => a | 14 => q7 | 15 => q14 | 16 => q22 | 17 => q31 | 18 => q39 | 19 => q47 | _ => 0) cI cJ ((fun _ => 0), (fun _ => 0), (fun _ _ => 0))) hD hS hA [0, 1, 2, 3, 4, 5, 6] rfl
  have hok : wp_X9_clearDevices ((fun _ => 0), (fun _ => 0), (fun _ _ => 0)) (fun v => v = (upd (upd (upd (upd (upd (upd (upd (upd (upd (upd (upd (upd (fun _ => 0) 12 65535) 13 65535) 5 0) 22 0) 19 0) 18 0) 17 0) 16 0) 15 0) 14 0) 20 0) 21 0, (fun _ => 0), (fun _ _ => 0))) := rfl
  refine va_callv (va_runV (As := []) (rest := []) ⟨hx, hb, hml, hown, hts⟩ (c_X9_clearDevices l dC dI cI cJ (fun i : Nat => match i with | 13 => a | 14 => q7 | 15 => q14 | 16 => q22 | 17 => q31 | 18 => q39 | 19 => q47 | _ => 0) _ hok) (cwV 0 hts (tb_gV tw_3_182 tw_3_184 tw_p_35 tw_1_9 tw_3_185) rfl rfl rfl (by decide +kernel) ⟨Nat.le_of_ble_eq_true rfl, Nat.le_of_ble_eq_true rfl⟩) (cpre_V (ci := 8) (q0 := 0) hK hP hD rfl rfl) rfl rfl hl.1 rfl (lv_room (Nat.le_of_ble_eq_true rfl)) dX9_init_53 ⟨Nat.le_of_ble_eq_true rfl, Nat.le_of_ble_eq_true rfl⟩) hS (fun q _ h => hFc q h) hFc (fun u9 t H1 locs ht hvm hu hB hz1 hk1 hS => ?_)
  subst hu
  obtain ⟨hP, hD⟩ := cjoin_w ht hB hFc
  generalize H1 = H at hP hS ⊢
  refine W.widen (k := 6) (n := 82292) (Nat.le_of_ble_eq_true rfl) (Nat.le_of_ble_eq_true rfl) ?_
  have hP9 := hP
  have hD9 := hD
  exact W.vret hx hb hr (fun t ht hW => ⟨⟨(fun i : Nat => match i with | 13 => a | 14 => q7 | 15 => q14 | 16 => q22 | 17 => q31 | 18 => q39 | 19 => q47 | _ => 0), rfl, rfl, by rw [ht]; exact hP9, va_K.moved hW.alike hK, hD9⟩, hS.F ht⟩) hS.2.2 dX9_init_56
