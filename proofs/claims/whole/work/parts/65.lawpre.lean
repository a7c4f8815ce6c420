theorem tw_1_0 : Cond.initialized RL ∈ tbl := tbl_1 (i := 0) rfl rfl
theorem tw_1_229 : Cond.methodLink RL 42 yX8_reset ∈ tbl := tbl_1 (i := 229) rfl rfl
theorem tw_1_230 : Cond.instanceMethod yX8_reset ∈ tbl := tbl_1 (i := 230) rfl rfl
theorem tw_1_231 : Cond.selects RX8 yX8_reset yX8_reset ∈ tbl := tbl_1 (i := 231) rfl rfl
theorem tw_1_232 : Cond.code yX8_reset cX8_reset 1 none ∈ tbl := tbl_1 (i := 232) rfl rfl
theorem tw_2_61 : Cond.methodLink RL 46 yX8_step ∈ tbl := tbl_2 (i := 61) rfl rfl
theorem tw_2_62 : Cond.instanceMethod yX8_step ∈ tbl := tbl_2 (i := 62) rfl rfl
theorem tw_2_63 : Cond.selects RX8 yX8_step yX8_step ∈ tbl := tbl_2 (i := 63) rfl rfl
theorem tw_2_64 : Cond.code yX8_step cX8_step 1 (some .int) ∈ tbl := tbl_2 (i := 64) rfl rfl
theorem tw_2_237 : Cond.methodLink RL 54 yX8_nmi ∈ tbl := tbl_2 (i := 237) rfl rfl
theorem tw_2_238 : Cond.instanceMethod yX8_nmi ∈ tbl := tbl_2 (i := 238) rfl rfl
theorem tw_2_239 : Cond.selects RX8 yX8_nmi yX8_nmi ∈ tbl := tbl_2 (i := 239) rfl rfl
theorem tw_3_0 : Cond.code yX8_nmi cX8_nmi 1 none ∈ tbl := tbl_3 (i := 0) rfl rfl
theorem tw_3_1 : Cond.methodLink RL 58 yX8_receive ∈ tbl := tbl_3 (i := 1) rfl rfl
theorem tw_3_2 : Cond.instanceMethod yX8_receive ∈ tbl := tbl_3 (i := 2) rfl rfl
theorem tw_3_3 : Cond.selects RX8 yX8_receive yX8_receive ∈ tbl := tbl_3 (i := 3) rfl rfl
theorem tw_3_4 : Cond.code yX8_receive cX8_receive 2 (some .int) ∈ tbl := tbl_3 (i := 4) rfl rfl
theorem tw_3_9 : Cond.methodLink RL 62 yX8_sent ∈ tbl := tbl_3 (i := 9) rfl rfl
theorem tw_3_10 : Cond.instanceMethod yX8_sent ∈ tbl := tbl_3 (i := 10) rfl rfl
theorem tw_3_11 : Cond.selects RX8 yX8_sent yX8_sent ∈ tbl := tbl_3 (i := 11) rfl rfl
theorem tw_3_12 : Cond.code yX8_sent cX8_sent 2 (some .int) ∈ tbl := tbl_3 (i := 12) rfl rfl
theorem tw_3_17 : Cond.methodLink RL 69 yX8_register ∈ tbl := tbl_3 (i := 17) rfl rfl
theorem tw_3_18 : Cond.instanceMethod yX8_register ∈ tbl := tbl_3 (i := 18) rfl rfl
theorem tw_3_19 : Cond.selects RX8 yX8_register yX8_register ∈ tbl := tbl_3 (i := 19) rfl rfl
theorem tw_3_20 : Cond.code yX8_register cX8_register 2 (some .int) ∈ tbl := tbl_3 (i := 20) rfl rfl
theorem tw_3_21 : Cond.methodLink RL 77 yX8_setBreak ∈ tbl := tbl_3 (i := 21) rfl rfl
theorem tw_3_22 : Cond.instanceMethod yX8_setBreak ∈ tbl := tbl_3 (i := 22) rfl rfl
theorem tw_3_23 : Cond.selects RX8 yX8_setBreak yX8_setBreak ∈ tbl := tbl_3 (i := 23) rfl rfl
theorem tw_3_24 : Cond.code yX8_setBreak cX8_setBreak 2 (some .boolean) ∈ tbl := tbl_3 (i := 24) rfl rfl
theorem tw_3_41 : Cond.methodLink RL 82 yX8_clearBreak ∈ tbl := tbl_3 (i := 41) rfl rfl
theorem tw_3_42 : Cond.instanceMethod yX8_clearBreak ∈ tbl := tbl_3 (i := 42) rfl rfl
theorem tw_3_43 : Cond.selects RX8 yX8_clearBreak yX8_clearBreak ∈ tbl := tbl_3 (i := 43) rfl rfl
theorem tw_3_44 : Cond.code yX8_clearBreak cX8_clearBreak 2 (some .boolean) ∈ tbl := tbl_3 (i := 44) rfl rfl
theorem tw_3_49 : Cond.methodLink RL 86 yX8_trace ∈ tbl := tbl_3 (i := 49) rfl rfl
theorem tw_3_50 : Cond.instanceMethod yX8_trace ∈ tbl := tbl_3 (i := 50) rfl rfl
theorem tw_3_51 : Cond.selects RX8 yX8_trace yX8_trace ∈ tbl := tbl_3 (i := 51) rfl rfl
theorem tw_3_52 : Cond.code yX8_trace cX8_trace 2 (some .int) ∈ tbl := tbl_3 (i := 52) rfl rfl
theorem tw_3_60 : Cond.methodLink RL 90 yX8_count ∈ tbl := tbl_3 (i := 60) rfl rfl
theorem tw_3_61 : Cond.instanceMethod yX8_count ∈ tbl := tbl_3 (i := 61) rfl rfl
theorem tw_3_62 : Cond.selects RX8 yX8_count yX8_count ∈ tbl := tbl_3 (i := 62) rfl rfl
theorem tw_3_63 : Cond.code yX8_count cX8_count 2 (some .long) ∈ tbl := tbl_3 (i := 63) rfl rfl
theorem tw_3_65 : Cond.methodLink RL 32 yL_load ∈ tbl := tbl_3 (i := 65) rfl rfl
theorem tw_3_66 : Cond.static yL_load ∈ tbl := tbl_3 (i := 66) rfl rfl
theorem tw_3_67 : Cond.codeWith yL_load cL_load 6 (some .int) [((0 : Nat), (8 : Nat), (11 : Nat), (13 : Nat))] ∈ tbl := tbl_3 (i := 67) rfl rfl
theorem tw_3_144 : Cond.methodLink RL 50 yL_run ∈ tbl := tbl_3 (i := 144) rfl rfl
theorem tw_3_145 : Cond.static yL_run ∈ tbl := tbl_3 (i := 145) rfl rfl
theorem tw_3_146 : Cond.codeWith yL_run cL_run 4 (some .int) [((0 : Nat), (9 : Nat), (12 : Nat), (13 : Nat))] ∈ tbl := tbl_3 (i := 146) rfl rfl
theorem tw_3_154 : Cond.methodLink RL 66 yL_look ∈ tbl := tbl_3 (i := 154) rfl rfl
theorem tw_3_155 : Cond.static yL_look ∈ tbl := tbl_3 (i := 155) rfl rfl
theorem tw_3_156 : Cond.codeWith yL_look cL_look 4 (some .int) [((0 : Nat), (9 : Nat), (12 : Nat), (13 : Nat))] ∈ tbl := tbl_3 (i := 156) rfl rfl
theorem tw_3_166 : Cond.methodLink RL 73 yL_set ∈ tbl := tbl_3 (i := 166) rfl rfl
theorem tw_3_167 : Cond.static yL_set ∈ tbl := tbl_3 (i := 167) rfl rfl
theorem tw_3_168 : Cond.codeWith yL_set cL_set 4 (some .int) [((0 : Nat), (6 : Nat), (9 : Nat), (13 : Nat))] ∈ tbl := tbl_3 (i := 168) rfl rfl
theorem tw_4_47 : Cond.methodLink RL 38 yX9_thrown ∈ tbl := tbl_4 (i := 47) rfl rfl
theorem tw_4_48 : Cond.instanceMethod yX9_thrown ∈ tbl := tbl_4 (i := 48) rfl rfl
theorem tw_4_49 : Cond.selects RX9 yX9_thrown yX9_thrown ∈ tbl := tbl_4 (i := 49) rfl rfl
theorem tw_4_50 : Cond.code yX9_thrown cX9_thrown 1 (some .int) ∈ tbl := tbl_4 (i := 50) rfl rfl
theorem tw_4_51 : Cond.methodLink RL 49 yX9_step ∈ tbl := tbl_4 (i := 51) rfl rfl
theorem tw_5_25 : Cond.methodLink RL 53 yX9_run ∈ tbl := tbl_5 (i := 25) rfl rfl
theorem tw_5_26 : Cond.instanceMethod yX9_run ∈ tbl := tbl_5 (i := 26) rfl rfl
theorem tw_5_27 : Cond.selects RX9 yX9_run yX9_run ∈ tbl := tbl_5 (i := 27) rfl rfl
theorem tw_5_28 : Cond.code yX9_run cX9_run 3 (some .int) ∈ tbl := tbl_5 (i := 28) rfl rfl
theorem tw_5_39 : Cond.methodLink RL 37 yX9_load ∈ tbl := tbl_5 (i := 39) rfl rfl
theorem tw_5_40 : Cond.instanceMethod yX9_load ∈ tbl := tbl_5 (i := 40) rfl rfl
theorem tw_5_41 : Cond.selects RX9 yX9_load yX9_load ∈ tbl := tbl_5 (i := 41) rfl rfl
theorem tw_5_42 : Cond.code yX9_load cX9_load 7 none ∈ tbl := tbl_5 (i := 42) rfl rfl
theorem tw_5_44 : Cond.methodLink RL 45 yX9_reset ∈ tbl := tbl_5 (i := 44) rfl rfl
theorem tw_5_45 : Cond.instanceMethod yX9_reset ∈ tbl := tbl_5 (i := 45) rfl rfl
theorem tw_5_46 : Cond.selects RX9 yX9_reset yX9_reset ∈ tbl := tbl_5 (i := 46) rfl rfl
theorem tw_5_47 : Cond.code yX9_reset cX9_reset 1 none ∈ tbl := tbl_5 (i := 47) rfl rfl
theorem tw_5_49 : Cond.methodLink RL 57 yX9_nmi ∈ tbl := tbl_5 (i := 49) rfl rfl
theorem tw_5_50 : Cond.instanceMethod yX9_nmi ∈ tbl := tbl_5 (i := 50) rfl rfl
theorem tw_5_51 : Cond.selects RX9 yX9_nmi yX9_nmi ∈ tbl := tbl_5 (i := 51) rfl rfl
theorem tw_5_52 : Cond.code yX9_nmi cX9_nmi 1 none ∈ tbl := tbl_5 (i := 52) rfl rfl
theorem tw_5_53 : Cond.methodLink RL 61 yX9_receive ∈ tbl := tbl_5 (i := 53) rfl rfl
theorem tw_5_54 : Cond.instanceMethod yX9_receive ∈ tbl := tbl_5 (i := 54) rfl rfl
theorem tw_5_55 : Cond.selects RX9 yX9_receive yX9_receive ∈ tbl := tbl_5 (i := 55) rfl rfl
theorem tw_5_56 : Cond.code yX9_receive cX9_receive 2 (some .int) ∈ tbl := tbl_5 (i := 56) rfl rfl
theorem tw_5_57 : Cond.methodLink RL 65 yX9_sent ∈ tbl := tbl_5 (i := 57) rfl rfl
theorem tw_5_58 : Cond.instanceMethod yX9_sent ∈ tbl := tbl_5 (i := 58) rfl rfl
theorem tw_5_59 : Cond.selects RX9 yX9_sent yX9_sent ∈ tbl := tbl_5 (i := 59) rfl rfl
theorem tw_5_60 : Cond.code yX9_sent cX9_sent 2 (some .int) ∈ tbl := tbl_5 (i := 60) rfl rfl
theorem tw_5_61 : Cond.methodLink RL 68 yX9_look ∈ tbl := tbl_5 (i := 61) rfl rfl
theorem tw_5_62 : Cond.instanceMethod yX9_look ∈ tbl := tbl_5 (i := 62) rfl rfl
theorem tw_5_63 : Cond.selects RX9 yX9_look yX9_look ∈ tbl := tbl_5 (i := 63) rfl rfl
theorem tw_5_64 : Cond.code yX9_look cX9_look 2 (some .int) ∈ tbl := tbl_5 (i := 64) rfl rfl
theorem tw_5_65 : Cond.methodLink RL 72 yX9_register ∈ tbl := tbl_5 (i := 65) rfl rfl
theorem tw_5_66 : Cond.instanceMethod yX9_register ∈ tbl := tbl_5 (i := 66) rfl rfl
theorem tw_5_67 : Cond.selects RX9 yX9_register yX9_register ∈ tbl := tbl_5 (i := 67) rfl rfl
theorem tw_5_68 : Cond.code yX9_register cX9_register 2 (some .int) ∈ tbl := tbl_5 (i := 68) rfl rfl
theorem tw_5_69 : Cond.methodLink RL 76 yX9_set ∈ tbl := tbl_5 (i := 69) rfl rfl
theorem tw_5_70 : Cond.instanceMethod yX9_set ∈ tbl := tbl_5 (i := 70) rfl rfl
theorem tw_5_71 : Cond.selects RX9 yX9_set yX9_set ∈ tbl := tbl_5 (i := 71) rfl rfl
theorem tw_5_72 : Cond.code yX9_set cX9_set 3 none ∈ tbl := tbl_5 (i := 72) rfl rfl
theorem tw_5_73 : Cond.methodLink RL 81 yX9_setBreak ∈ tbl := tbl_5 (i := 73) rfl rfl
theorem tw_5_74 : Cond.instanceMethod yX9_setBreak ∈ tbl := tbl_5 (i := 74) rfl rfl
theorem tw_5_75 : Cond.selects RX9 yX9_setBreak yX9_setBreak ∈ tbl := tbl_5 (i := 75) rfl rfl
theorem tw_5_76 : Cond.code yX9_setBreak cX9_setBreak 2 (some .boolean) ∈ tbl := tbl_5 (i := 76) rfl rfl
theorem tw_5_77 : Cond.methodLink RL 85 yX9_clearBreak ∈ tbl := tbl_5 (i := 77) rfl rfl
theorem tw_5_78 : Cond.instanceMethod yX9_clearBreak ∈ tbl := tbl_5 (i := 78) rfl rfl
theorem tw_5_79 : Cond.selects RX9 yX9_clearBreak yX9_clearBreak ∈ tbl := tbl_5 (i := 79) rfl rfl
theorem tw_5_80 : Cond.code yX9_clearBreak cX9_clearBreak 3 (some .boolean) ∈ tbl := tbl_5 (i := 80) rfl rfl
theorem tw_5_81 : Cond.methodLink RL 89 yX9_trace ∈ tbl := tbl_5 (i := 81) rfl rfl
theorem tw_5_82 : Cond.instanceMethod yX9_trace ∈ tbl := tbl_5 (i := 82) rfl rfl
theorem tw_5_83 : Cond.selects RX9 yX9_trace yX9_trace ∈ tbl := tbl_5 (i := 83) rfl rfl
theorem tw_5_84 : Cond.code yX9_trace cX9_trace 3 (some .int) ∈ tbl := tbl_5 (i := 84) rfl rfl
theorem tw_5_85 : Cond.methodLink RL 94 yX9_count ∈ tbl := tbl_5 (i := 85) rfl rfl
theorem tw_5_86 : Cond.instanceMethod yX9_count ∈ tbl := tbl_5 (i := 86) rfl rfl
theorem tw_5_87 : Cond.selects RX9 yX9_count yX9_count ∈ tbl := tbl_5 (i := 87) rfl rfl
theorem tw_5_88 : Cond.code yX9_count cX9_count 2 (some .long) ∈ tbl := tbl_5 (i := 88) rfl rfl
theorem tw_5_90 : Cond.constantLong RL 30 4294967295 ∈ tbl := tbl_5 (i := 90) rfl rfl
/-! THE CLAIM OUT OF ONE WALK OF THE LAW'S BODY. Your part is whole_start (and what it stands on); all else here is the same for every law, but numbers. -/
def R_law : String := "BoardMachineLaw"
def lw_P (b : Addr) (xs : List Int32) (args : Array Value) (s : State) : Prop := args = #[.ref b] ∧ s.IntsAt b xs ∧ xs.length ≤ 2560 ∧ (Jvm.Cond.and given_1 narrow_1).before args s = true
def lw_Q (_ : Array Value) (s : State) (o : Outcome) (t : State) : Prop := o = .returned (some (.int 1)) ∧ Framed s o t [] 601024 7293034
def lw_Z (below : List Frame) (a : Array Value) (s : State) : State → Prop := fun t => ∃ o, t.status = .running ∧ Ended t below o ∧ lw_Q a s o t
/-- the law's own end, with 1 on the stack, nothing written that was there before, its room as the claim has it -/
theorem lw_ret {p : Program} {l : Launch} {e : Env} {s : State} {m : MethodId} {below : List Frame} {meth : Method} {c : Code} {b : Nat} (hx : p.tables.exec = Jvm.exec) (hb : c.code = code) (hr : meth.sig.returnType = ret) (hlocks : meth.locks = false) {pc : Nat} {H : Heap} {ls : Array Slot} (hdg : decode code pc = .ok (.ireturn, 1)) : W p l e room_1 s m #[Value.ref b] below meth c H [] 601024 7293034 (lw_Z below #[Value.ref b] s) (F0 m pc ls [.int 1]) := by
  intro T hT X
  obtain ⟨fs, hret, hrun, hended, hW, hframe⟩ := X.leave (v := some (.int 1)) (hlocks := hlocks) (fun h => by rw [hr] at h; cases h)
  have hmeth' : T.vm.method? m = some meth := X.method'
  refine ⟨T.setFrames fs, ?_, .returned (some (.int 1)), hrun, hended, rfl, ⟨_, rfl⟩, hW, hframe⟩
  jvm_step X.here [X.here.top, hx, hb, hdg, hmeth', hr, ret, narrow_b1]
  (try refine ⟨rfl, ?_⟩); (try refine ⟨rfl, ?_⟩)
  first | (intro acts; rw [hret _ acts rfl rfl rfl]) | rw [hret _ _ rfl rfl rfl]
  exact Steps.refl _
/-- what holds at the law's entry: the machine, the code, the tables' words (any of lw_tbl by 'hts w (by decide +kernel)'), the script of L ints xs at the cell b, what the Statement gives of the start (any of its parts by flat_of_before) -/
def lw_At (p : Program) (s : State) (m : MethodId) (meth : Method) (c : Code) (b L : Nat) (xs : Nat → Int32) : Prop :=
  p.tables.exec = Jvm.exec ∧ c.code = code ∧ meth.sig.returnType = ret ∧ c.maxLocals = 7 ∧ s.vm.findClass R_law = some m.cls ∧ (∀ w ∈ lw_tbl, w.before #[Value.ref b] s = true) ∧ va_X b L xs s s.heap ∧ b < s.heap.size ∧ meth.locks = false ∧ (Jvm.Cond.and given_1 narrow_1).before #[Value.ref b] s = true
/-! the law: what it stands on -/
abbrev K0 : S_BM := ((upd (fun _ => 0) 4 48, 0, ((fun _ => 0), (fun _ => 0)), ((fun _ => 0), (upd (upd (fun _ => 0) 0 65535) 1 65535), ((fun _ => 0), (fun _ => 0), (fun _ => 0)), (fun _ => 0))), ((fun _ => 0), (fun _ => 0)))
abbrev U0 : S_Model := (upd (upd (upd (upd (upd (upd (upd (upd (upd (upd (upd (upd (fun _ => 0) 12 65535) 13 65535) 5 0) 22 0) 19 0) 18 0) 17 0) 16 0) 15 0) 14 0) 20 0) 21 0, (fun _ => 0), (fun _ _ => 0))
theorem byte0 : ∀ i : Fin 8, byteOf 0 i.val = 0 := by decide +kernel
theorem init_RM : RM 0 0 K0 U0 := by
  refine ⟨(0, fun _ => 0), ⟨⟨⟨rfl, rfl, rfl, rfl, rfl, rfl, rfl, rfl, rfl⟩, ⟨by0, by0, by0, by0, by0, wd0, Or.inl rfl, Or.inl rfl, Or.inl rfl⟩, 0, Nat.le_refl 0, rfl, rfl⟩, rfl, ⟨⟨rfl, rfl, rfl⟩, ⟨0, Nat.le_refl 0, rfl, rfl, rfl⟩, fun _ _ => rfl⟩, ⟨rfl, Or.inl rfl⟩, ⟨⟨rfl, rfl, rfl, rfl, rfl, rfl, rfl, rfl, rfl⟩, wdT, wdT, wd0, by0, by0, lo0, by0, Or.inl rfl, Or.inl rfl⟩, ⟨⟨rfl, rfl, rfl, by0⟩, ⟨0, 0, by omega, rfl, by omega, rfl, fun q hq => absurd hq (by omega)⟩, ⟨0, Nat.le_refl 0, rfl⟩, fun _ _ => rfl⟩, fun q hq => ⟨by0, byte0 ⟨q % 8, by omega⟩⟩⟩, ⟨0, by omega, rfl, rfl⟩, fun _ _ => rfl⟩
theorem RM.thrown {t : Int32} {g : Nat} {k : S_BM} {u : S_Model} (h : RM t g k u) : u.1 0 = t := by
  obtain ⟨B, h1, -⟩ := h
  exact h1.2.2.1.1.1
theorem Ok1.one {C : (S_BM → Prop) → Prop → Prop} {Q : (S_Model → Prop) → Prop} {g : Nat} {k : S_BM} (h : Ok1 C Q g k) : ∃ (r0 : Int32) (k' : S_BM) (u' : S_Model), C (fun k2 => (fun (r : Int32) (k2 : S_BM) => r = r0 ∧ k2 = k') 0 k2) ((fun (r : Int32) (k2 : S_BM) => r = r0 ∧ k2 = k') 1 k) ∧ Cm1 Q u' ∧ RM r0 g k' u' := by
  rcases h with ⟨k', u', c1, c2, h⟩ | ⟨u', c1, c2, h⟩
  · exact ⟨0, k', u', c1 _ _ ⟨rfl, rfl⟩, c2, h⟩
  · exact ⟨1, k, u', c1 _ _ ⟨rfl, rfl⟩, c2, h⟩
theorem Ok2.one {C : (Int32 → S_BM → Prop) → Prop → Prop} {Q : (Int32 → S_Model → Prop) → Prop} {g : Nat} {k : S_BM} (h : Ok2 C Q g k) (f : Nat → Int64) : ∃ (r0 b0 : Int32) (k' : S_BM) (f' : Nat → Int64) (u' : S_Model), C (fun r k2 => (fun (r : Int32) (x : S_BM × (Nat → Int64)) => r = r0 ∧ x = (k', f')) 0 (k2, vp_updL f 0 r.toInt64)) ((fun (r : Int32) (x : S_BM × (Nat → Int64)) => r = r0 ∧ x = (k', f')) 1 (k, f)) ∧ Cm2 Q b0 u' ∧ RM r0 g k' u' ∧ (r0 = 0 → f' 0 = b0.toInt64) := by
  rcases h with ⟨r, k', u', c1, c2, h⟩ | ⟨r, u', c1, c2, h⟩
  · exact ⟨0, r, k', vp_updL f 0 r.toInt64, u', c1 _ _ ⟨rfl, rfl⟩, c2, h, fun _ => pk_uLs⟩
  · exact ⟨1, r, k, f, u', c1 _ _ ⟨rfl, rfl⟩, c2, h, fun q => absurd q (by decide)⟩
theorem lg_same {x y : Int64} (h : x = y) : lg_cmp x y = 0 := by
  subst h
  unfold lg_cmp
  rw [if_neg (by show ¬ x < x; exact Int64.lt_irrefl), if_pos rfl]
abbrev w_Law (h : Nat → Nat) (cI cJ : ClassId) (x : S_BM × S_Model × (Nat → Int64)) : va_W := w_BM h cI cJ x.1 ++ (w_Model h cI cJ x.2.1 ++ [(h 20, .inl (cJ, 1, .inr (.inl x.2.2)))])
theorem law_hts {b : Nat} {s : State} (hts : ∀ w ∈ lw_tbl, w.before #[Value.ref b] s = true) : ∀ w ∈ Cond.initialized RL :: tbl, w.before #[Value.ref b] s = true := by
  intro w hw
  rcases List.mem_cons.mp hw with rfl | h
  · exact hts _ (tbl_lw tw_1_0)
  · exact hts _ (tbl_lw h)
theorem law_ix {L j : Nat} {x4 : Int32} (hL : L ≤ 2560) (hj : 5 * j + 5 ≤ L) (ex4 : x4 = nI (5 * j)) : vp_in (x4 + 1) L ∧ vp_in (x4 + 2) L ∧ vp_in (x4 + 3) L ∧ vp_in (x4 + 4) L := by
  rw [ex4, show (1 : Int32) = nI 1 from rfl, show (2 : Int32) = nI 2 from rfl, show (3 : Int32) = nI 3 from rfl, show (4 : Int32) = nI 4 from rfl, nI_add, nI_add, nI_add, nI_add]
  exact ⟨vp_in_nI (by omega) (by omega), vp_in_nI (by omega) (by omega), vp_in_nI (by omega) (by omega), vp_in_nI (by omega) (by omega)⟩
theorem cpre_SX {s : State} {H : Heap} {dC : Nat → ClassId} {dI : Nat → Nat → Nat} {cI cJ : ClassId} {tt zs : Nat → Nat} {w : va_W} {A : Nat → Prop} {As : List Value} {locs : List Loc} (hK : va_K (dC, dI) vwCl [(cI, .int), (cJ, .long)] s) (hP : va_P (dC, dI) vwCl w H) (hD : va_D A w) (hT : cstat tt A s s.heap) (hZ : zxx zs A s s.heap) (hS : va_S A s.heap H locs) (hF : ∀ q, va_A w H.size q → A q) : PreS s H (va_Pc As (cpreX dC dI cI cJ tt zs w H.size)) As :=
  ⟨cpreX_blind, fun U hU hW => ⟨rfl, ⟨⟨by rw [hU], by rw [hU]; exact hP, va_K.moved hW.alike hK, hD.weaken (fun _ _ _ _ => trivial)⟩, by rw [hU]; exact ((hT.kept hS.2.1).narrow hF).moved hW.alike⟩, by rw [hU]; exact ((hZ.kept hS.2.1).narrow hF).warm hW⟩⟩
def Kont (p : Program) (l : Launch) (e : Env) (s : State) (m : MethodId) (below : List Frame) (meth : Method) (c : Code) (b : Nat) (dC : Nat → ClassId) (dI : Nat → Nat → Nat) (cI cJ : ClassId) (h : Nat → Nat) (x4 : Int32) (j : Nat) : Prop := ∀ (k : S_BM) (u : S_Model) (f : Nat → Int64) (tq : Int32) (H : Heap) (locs : List Loc) (ls : Array Slot), RM tq (600000 * (j + 1)) k u → va_P (dC, dI) vwCl (w_Law h cI cJ (k, u, f)) H → va_D (fun q : Nat => s.heap.size ≤ q) (w_Law h cI cJ (k, u, f)) → va_S (fun q : Nat => s.heap.size ≤ q) s.heap H locs → lv_has ls 7 [(0, .ref b), (1, .ref (h 0)), (2, .ref (h 13)), (3, .ref (h 20)), (4, .int x4)] → W p l e room_1 s m #[Value.ref b] below meth c H locs (21 + (j + 1)) (92976 + 6 * (j + 1)) (lw_Z below #[Value.ref b] s) (F0 m 571 ls [])
