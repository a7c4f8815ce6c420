section
-- ===== PART A: goes FIRST, ahead of the names: the tables' words, and 'selects' of the private methods out of them =====
/-- a private method of a class that the tables say can be made, by its rows of tables_1 -/
def lw_okq (q : MethodName × Nat) : Prop := (q.1.cls ≠ "java/lang/invoke/MethodHandle" ∧ q.1.cls ≠ "java/lang/invoke/VarHandle") ∧ Cond.instantiable q.1.cls q.2 ∈ tables_1 ∧ Cond.privateMethod q.1 ∈ tables_1 ∧ Cond.instanceMethod q.1 ∈ tables_1
theorem lw_p0 : lw_okq (⟨"BoardMachine$Processor", "wordAt", "(I)I"⟩, 15) := ⟨⟨by decide +kernel, by decide +kernel⟩, List.mem_of_getElem? (i := 128) (by decide +kernel), List.mem_of_getElem? (i := 251) (by decide +kernel), List.mem_of_getElem? (i := 252) (by decide +kernel)⟩
theorem lw_p1 : lw_okq (⟨"BoardMachine$Board", "cell", "(I)I"⟩, 4) := ⟨⟨by decide +kernel, by decide +kernel⟩, List.mem_of_getElem? (i := 25) (by decide +kernel), List.mem_of_getElem? (i := 264) (by decide +kernel), List.mem_of_getElem? (i := 265) (by decide +kernel)⟩
theorem lw_p2 : lw_okq (⟨"BoardMachine$Board", "peekDevice", "(I)I"⟩, 4) := ⟨⟨by decide +kernel, by decide +kernel⟩, List.mem_of_getElem? (i := 25) (by decide +kernel), List.mem_of_getElem? (i := 274) (by decide +kernel), List.mem_of_getElem? (i := 275) (by decide +kernel)⟩
theorem lw_p3 : lw_okq (⟨"BoardMachine$Board", "afterReading", "(I)V"⟩, 4) := ⟨⟨by decide +kernel, by decide +kernel⟩, List.mem_of_getElem? (i := 25) (by decide +kernel), List.mem_of_getElem? (i := 289) (by decide +kernel), List.mem_of_getElem? (i := 290) (by decide +kernel)⟩
theorem lw_p4 : lw_okq (⟨"BoardMachine$Processor", "takeInterrupt", "(I)V"⟩, 15) := ⟨⟨by decide +kernel, by decide +kernel⟩, List.mem_of_getElem? (i := 128) (by decide +kernel), List.mem_of_getElem? (i := 325) (by decide +kernel), List.mem_of_getElem? (i := 326) (by decide +kernel)⟩
theorem lw_p5 : lw_okq (⟨"BoardMachine$Processor", "interrupt", "(II)V"⟩, 15) := ⟨⟨by decide +kernel, by decide +kernel⟩, List.mem_of_getElem? (i := 128) (by decide +kernel), List.mem_of_getElem? (i := 329) (by decide +kernel), List.mem_of_getElem? (i := 330) (by decide +kernel)⟩
theorem lw_p6 : lw_okq (⟨"BoardMachine$Processor", "push", "(I)V"⟩, 15) := ⟨⟨by decide +kernel, by decide +kernel⟩, List.mem_of_getElem? (i := 128) (by decide +kernel), List.mem_of_getElem? (i := 333) (by decide +kernel), List.mem_of_getElem? (i := 334) (by decide +kernel)⟩
theorem lw_p7 : lw_okq (⟨"BoardMachine$Processor", "carryOut", "()V"⟩, 15) := ⟨⟨by decide +kernel, by decide +kernel⟩, List.mem_of_getElem? (i := 128) (by decide +kernel), List.mem_of_getElem? (i := 357) (by decide +kernel), List.mem_of_getElem? (i := 358) (by decide +kernel)⟩
theorem lw_p8 : lw_okq (⟨"BoardMachine$Processor", "fetch", "()I"⟩, 15) := ⟨⟨by decide +kernel, by decide +kernel⟩, List.mem_of_getElem? (i := 128) (by decide +kernel), List.mem_of_getElem? (i := 365) (by decide +kernel), List.mem_of_getElem? (i := 366) (by decide +kernel)⟩
theorem lw_p9 : lw_okq (⟨"BoardMachine$Processor", "addressOf", "(II)I"⟩, 15) := ⟨⟨by decide +kernel, by decide +kernel⟩, List.mem_of_getElem? (i := 128) (by decide +kernel), List.mem_of_getElem? (i := 373) (by decide +kernel), List.mem_of_getElem? (i := 374) (by decide +kernel)⟩
theorem lw_p10 : lw_okq (⟨"BoardMachine$Processor", "indexed", "(II)I"⟩, 15) := ⟨⟨by decide +kernel, by decide +kernel⟩, List.mem_of_getElem? (i := 128) (by decide +kernel), List.mem_of_getElem? (i := 377) (by decide +kernel), List.mem_of_getElem? (i := 378) (by decide +kernel)⟩
theorem lw_p11 : lw_okq (⟨"BoardMachine$Processor", "pointerAt", "(I)I"⟩, 15) := ⟨⟨by decide +kernel, by decide +kernel⟩, List.mem_of_getElem? (i := 128) (by decide +kernel), List.mem_of_getElem? (i := 381) (by decide +kernel), List.mem_of_getElem? (i := 382) (by decide +kernel)⟩
theorem lw_p12 : lw_okq (⟨"BoardMachine$Processor", "use", "(II)V"⟩, 15) := ⟨⟨by decide +kernel, by decide +kernel⟩, List.mem_of_getElem? (i := 128) (by decide +kernel), List.mem_of_getElem? (i := 390) (by decide +kernel), List.mem_of_getElem? (i := 391) (by decide +kernel)⟩
theorem lw_p13 : lw_okq (⟨"BoardMachine$Processor", "shown", "(I)I"⟩, 15) := ⟨⟨by decide +kernel, by decide +kernel⟩, List.mem_of_getElem? (i := 128) (by decide +kernel), List.mem_of_getElem? (i := 394) (by decide +kernel), List.mem_of_getElem? (i := 395) (by decide +kernel)⟩
theorem lw_p14 : lw_okq (⟨"BoardMachine$Processor", "compare", "(II)V"⟩, 15) := ⟨⟨by decide +kernel, by decide +kernel⟩, List.mem_of_getElem? (i := 128) (by decide +kernel), List.mem_of_getElem? (i := 398) (by decide +kernel), List.mem_of_getElem? (i := 399) (by decide +kernel)⟩
theorem lw_p15 : lw_okq (⟨"BoardMachine$Processor", "mark", "(IZ)V"⟩, 15) := ⟨⟨by decide +kernel, by decide +kernel⟩, List.mem_of_getElem? (i := 128) (by decide +kernel), List.mem_of_getElem? (i := 402) (by decide +kernel), List.mem_of_getElem? (i := 403) (by decide +kernel)⟩
def lw_privs_1 : List (MethodName × Nat) := [(⟨"BoardMachine$Processor", "wordAt", "(I)I"⟩, 15), (⟨"BoardMachine$Board", "cell", "(I)I"⟩, 4), (⟨"BoardMachine$Board", "peekDevice", "(I)I"⟩, 4), (⟨"BoardMachine$Board", "afterReading", "(I)V"⟩, 4), (⟨"BoardMachine$Processor", "takeInterrupt", "(I)V"⟩, 15), (⟨"BoardMachine$Processor", "interrupt", "(II)V"⟩, 15), (⟨"BoardMachine$Processor", "push", "(I)V"⟩, 15), (⟨"BoardMachine$Processor", "carryOut", "()V"⟩, 15), (⟨"BoardMachine$Processor", "fetch", "()I"⟩, 15), (⟨"BoardMachine$Processor", "addressOf", "(II)I"⟩, 15), (⟨"BoardMachine$Processor", "indexed", "(II)I"⟩, 15), (⟨"BoardMachine$Processor", "pointerAt", "(I)I"⟩, 15), (⟨"BoardMachine$Processor", "use", "(II)V"⟩, 15), (⟨"BoardMachine$Processor", "shown", "(I)I"⟩, 15), (⟨"BoardMachine$Processor", "compare", "(II)V"⟩, 15), (⟨"BoardMachine$Processor", "mark", "(IZ)V"⟩, 15)]
theorem lw_r1 : ∀ q ∈ lw_privs_1, lw_okq q := List.forall_mem_cons.mpr ⟨lw_p0, List.forall_mem_cons.mpr ⟨lw_p1, List.forall_mem_cons.mpr ⟨lw_p2, List.forall_mem_cons.mpr ⟨lw_p3, List.forall_mem_cons.mpr ⟨lw_p4, List.forall_mem_cons.mpr ⟨lw_p5, List.forall_mem_cons.mpr ⟨lw_p6, List.forall_mem_cons.mpr ⟨lw_p7, List.forall_mem_cons.mpr ⟨lw_p8, List.forall_mem_cons.mpr ⟨lw_p9, List.forall_mem_cons.mpr ⟨lw_p10, List.forall_mem_cons.mpr ⟨lw_p11, List.forall_mem_cons.mpr ⟨lw_p12, List.forall_mem_cons.mpr ⟨lw_p13, List.forall_mem_cons.mpr ⟨lw_p14, List.forall_mem_cons.mpr ⟨lw_p15, fun _ h => absurd h List.not_mem_nil⟩⟩⟩⟩⟩⟩⟩⟩⟩⟩⟩⟩⟩⟩⟩⟩
theorem lw_p16 : lw_okq (⟨"BoardMachine$Processor", "addDecimal", "(I)V"⟩, 15) := ⟨⟨by decide +kernel, by decide +kernel⟩, List.mem_of_getElem? (i := 128) (by decide +kernel), List.mem_of_getElem? (i := 406) (by decide +kernel), List.mem_of_getElem? (i := 407) (by decide +kernel)⟩
theorem lw_p17 : lw_okq (⟨"BoardMachine$Processor", "changesSign", "(II)Z"⟩, 15) := ⟨⟨by decide +kernel, by decide +kernel⟩, List.mem_of_getElem? (i := 128) (by decide +kernel), List.mem_of_getElem? (i := 410) (by decide +kernel), List.mem_of_getElem? (i := 411) (by decide +kernel)⟩
theorem lw_p18 : lw_okq (⟨"BoardMachine$Processor", "add", "(I)V"⟩, 15) := ⟨⟨by decide +kernel, by decide +kernel⟩, List.mem_of_getElem? (i := 128) (by decide +kernel), List.mem_of_getElem? (i := 414) (by decide +kernel), List.mem_of_getElem? (i := 415) (by decide +kernel)⟩
theorem lw_p19 : lw_okq (⟨"BoardMachine$Processor", "subtractDecimal", "(I)V"⟩, 15) := ⟨⟨by decide +kernel, by decide +kernel⟩, List.mem_of_getElem? (i := 128) (by decide +kernel), List.mem_of_getElem? (i := 418) (by decide +kernel), List.mem_of_getElem? (i := 419) (by decide +kernel)⟩
theorem lw_p20 : lw_okq (⟨"BoardMachine$Processor", "stored", "(I)I"⟩, 15) := ⟨⟨by decide +kernel, by decide +kernel⟩, List.mem_of_getElem? (i := 128) (by decide +kernel), List.mem_of_getElem? (i := 422) (by decide +kernel), List.mem_of_getElem? (i := 423) (by decide +kernel)⟩
theorem lw_p21 : lw_okq (⟨"BoardMachine$Processor", "change", "(IIII)V"⟩, 15) := ⟨⟨by decide +kernel, by decide +kernel⟩, List.mem_of_getElem? (i := 128) (by decide +kernel), List.mem_of_getElem? (i := 426) (by decide +kernel), List.mem_of_getElem? (i := 427) (by decide +kernel)⟩
theorem lw_p22 : lw_okq (⟨"BoardMachine$Processor", "changed", "(III)I"⟩, 15) := ⟨⟨by decide +kernel, by decide +kernel⟩, List.mem_of_getElem? (i := 128) (by decide +kernel), List.mem_of_getElem? (i := 430) (by decide +kernel), List.mem_of_getElem? (i := 431) (by decide +kernel)⟩
theorem lw_p23 : lw_okq (⟨"BoardMachine$Processor", "shifted", "(II)I"⟩, 15) := ⟨⟨by decide +kernel, by decide +kernel⟩, List.mem_of_getElem? (i := 128) (by decide +kernel), List.mem_of_getElem? (i := 434) (by decide +kernel), List.mem_of_getElem? (i := 435) (by decide +kernel)⟩
theorem lw_p24 : lw_okq (⟨"BoardMachine$Processor", "move", "(I)V"⟩, 15) := ⟨⟨by decide +kernel, by decide +kernel⟩, List.mem_of_getElem? (i := 128) (by decide +kernel), List.mem_of_getElem? (i := 438) (by decide +kernel), List.mem_of_getElem? (i := 439) (by decide +kernel)⟩
theorem lw_p25 : lw_okq (⟨"BoardMachine$Processor", "changeState", "(I)V"⟩, 15) := ⟨⟨by decide +kernel, by decide +kernel⟩, List.mem_of_getElem? (i := 128) (by decide +kernel), List.mem_of_getElem? (i := 442) (by decide +kernel), List.mem_of_getElem? (i := 443) (by decide +kernel)⟩
theorem lw_p26 : lw_okq (⟨"BoardMachine$Processor", "pushOrPull", "(I)V"⟩, 15) := ⟨⟨by decide +kernel, by decide +kernel⟩, List.mem_of_getElem? (i := 128) (by decide +kernel), List.mem_of_getElem? (i := 446) (by decide +kernel), List.mem_of_getElem? (i := 447) (by decide +kernel)⟩
theorem lw_p27 : lw_okq (⟨"BoardMachine$Processor", "pull", "()I"⟩, 15) := ⟨⟨by decide +kernel, by decide +kernel⟩, List.mem_of_getElem? (i := 128) (by decide +kernel), List.mem_of_getElem? (i := 450) (by decide +kernel), List.mem_of_getElem? (i := 451) (by decide +kernel)⟩
theorem lw_p28 : lw_okq (⟨"BoardMachine$Processor", "branch", "(III)V"⟩, 15) := ⟨⟨by decide +kernel, by decide +kernel⟩, List.mem_of_getElem? (i := 128) (by decide +kernel), List.mem_of_getElem? (i := 454) (by decide +kernel), List.mem_of_getElem? (i := 455) (by decide +kernel)⟩
theorem lw_p29 : lw_okq (⟨"BoardMachine$Processor", "goIf", "(ZI)V"⟩, 15) := ⟨⟨by decide +kernel, by decide +kernel⟩, List.mem_of_getElem? (i := 128) (by decide +kernel), List.mem_of_getElem? (i := 458) (by decide +kernel), List.mem_of_getElem? (i := 459) (by decide +kernel)⟩
theorem lw_p30 : lw_okq (⟨"BoardMachine$Processor", "jump", "(II)V"⟩, 15) := ⟨⟨by decide +kernel, by decide +kernel⟩, List.mem_of_getElem? (i := 128) (by decide +kernel), List.mem_of_getElem? (i := 462) (by decide +kernel), List.mem_of_getElem? (i := 463) (by decide +kernel)⟩
theorem lw_p31 : lw_okq (⟨"BoardMachine$Timers", "passOneOf1", "()V"⟩, 9) := ⟨⟨by decide +kernel, by decide +kernel⟩, List.mem_of_getElem? (i := 31) (by decide +kernel), List.mem_of_getElem? (i := 470) (by decide +kernel), List.mem_of_getElem? (i := 471) (by decide +kernel)⟩
def lw_privs_2 : List (MethodName × Nat) := [(⟨"BoardMachine$Processor", "addDecimal", "(I)V"⟩, 15), (⟨"BoardMachine$Processor", "changesSign", "(II)Z"⟩, 15), (⟨"BoardMachine$Processor", "add", "(I)V"⟩, 15), (⟨"BoardMachine$Processor", "subtractDecimal", "(I)V"⟩, 15), (⟨"BoardMachine$Processor", "stored", "(I)I"⟩, 15), (⟨"BoardMachine$Processor", "change", "(IIII)V"⟩, 15), (⟨"BoardMachine$Processor", "changed", "(III)I"⟩, 15), (⟨"BoardMachine$Processor", "shifted", "(II)I"⟩, 15), (⟨"BoardMachine$Processor", "move", "(I)V"⟩, 15), (⟨"BoardMachine$Processor", "changeState", "(I)V"⟩, 15), (⟨"BoardMachine$Processor", "pushOrPull", "(I)V"⟩, 15), (⟨"BoardMachine$Processor", "pull", "()I"⟩, 15), (⟨"BoardMachine$Processor", "branch", "(III)V"⟩, 15), (⟨"BoardMachine$Processor", "goIf", "(ZI)V"⟩, 15), (⟨"BoardMachine$Processor", "jump", "(II)V"⟩, 15), (⟨"BoardMachine$Timers", "passOneOf1", "()V"⟩, 9)]
theorem lw_r2 : ∀ q ∈ lw_privs_2, lw_okq q := List.forall_mem_cons.mpr ⟨lw_p16, List.forall_mem_cons.mpr ⟨lw_p17, List.forall_mem_cons.mpr ⟨lw_p18, List.forall_mem_cons.mpr ⟨lw_p19, List.forall_mem_cons.mpr ⟨lw_p20, List.forall_mem_cons.mpr ⟨lw_p21, List.forall_mem_cons.mpr ⟨lw_p22, List.forall_mem_cons.mpr ⟨lw_p23, List.forall_mem_cons.mpr ⟨lw_p24, List.forall_mem_cons.mpr ⟨lw_p25, List.forall_mem_cons.mpr ⟨lw_p26, List.forall_mem_cons.mpr ⟨lw_p27, List.forall_mem_cons.mpr ⟨lw_p28, List.forall_mem_cons.mpr ⟨lw_p29, List.forall_mem_cons.mpr ⟨lw_p30, List.forall_mem_cons.mpr ⟨lw_p31, fun _ h => absurd h List.not_mem_nil⟩⟩⟩⟩⟩⟩⟩⟩⟩⟩⟩⟩⟩⟩⟩⟩
theorem lw_p32 : lw_okq (⟨"BoardMachine$Timers", "passOneOf2", "()V"⟩, 9) := ⟨⟨by decide +kernel, by decide +kernel⟩, List.mem_of_getElem? (i := 31) (by decide +kernel), List.mem_of_getElem? (i := 474) (by decide +kernel), List.mem_of_getElem? (i := 475) (by decide +kernel)⟩
theorem lw_p33 : lw_okq (⟨"BoardMachine$Breaks", "find", "(I)I"⟩, 2) := ⟨⟨by decide +kernel, by decide +kernel⟩, List.mem_of_getElem? (i := 206) (by decide +kernel), List.mem_of_getElem? (i := 518) (by decide +kernel), List.mem_of_getElem? (i := 519) (by decide +kernel)⟩
theorem lw_p34 : lw_okq (⟨"java/lang/Throwable", "fillInStackTrace", "(I)Ljava/lang/Throwable;"⟩, 6) := ⟨⟨by decide +kernel, by decide +kernel⟩, List.mem_of_getElem? (i := 590) (by decide +kernel), List.mem_of_getElem? (i := 588) (by decide +kernel), List.mem_of_getElem? (i := 589) (by decide +kernel)⟩
theorem lw_p35 : lw_okq (⟨"BoardMachineModel", "clearDevices", "()V"⟩, 33) := ⟨⟨by decide +kernel, by decide +kernel⟩, List.mem_of_getElem? (i := 656) (by decide +kernel), List.mem_of_getElem? (i := 663) (by decide +kernel), List.mem_of_getElem? (i := 664) (by decide +kernel)⟩
theorem lw_p36 : lw_okq (⟨"BoardMachineModel", "once", "()I"⟩, 33) := ⟨⟨by decide +kernel, by decide +kernel⟩, List.mem_of_getElem? (i := 656) (by decide +kernel), List.mem_of_getElem? (i := 776) (by decide +kernel), List.mem_of_getElem? (i := 777) (by decide +kernel)⟩
theorem lw_p37 : lw_okq (⟨"BoardMachineModel", "taken2", "(I)I"⟩, 33) := ⟨⟨by decide +kernel, by decide +kernel⟩, List.mem_of_getElem? (i := 656) (by decide +kernel), List.mem_of_getElem? (i := 781) (by decide +kernel), List.mem_of_getElem? (i := 782) (by decide +kernel)⟩
theorem lw_p38 : lw_okq (⟨"BoardMachineModel", "interrupt", "(IZ)V"⟩, 33) := ⟨⟨by decide +kernel, by decide +kernel⟩, List.mem_of_getElem? (i := 656) (by decide +kernel), List.mem_of_getElem? (i := 785) (by decide +kernel), List.mem_of_getElem? (i := 786) (by decide +kernel)⟩
theorem lw_p39 : lw_okq (⟨"BoardMachineModel", "push", "(I)V"⟩, 33) := ⟨⟨by decide +kernel, by decide +kernel⟩, List.mem_of_getElem? (i := 656) (by decide +kernel), List.mem_of_getElem? (i := 789) (by decide +kernel), List.mem_of_getElem? (i := 790) (by decide +kernel)⟩
theorem lw_p40 : lw_okq (⟨"BoardMachineModel", "write", "(II)V"⟩, 33) := ⟨⟨by decide +kernel, by decide +kernel⟩, List.mem_of_getElem? (i := 656) (by decide +kernel), List.mem_of_getElem? (i := 793) (by decide +kernel), List.mem_of_getElem? (i := 794) (by decide +kernel)⟩
theorem lw_p41 : lw_okq (⟨"BoardMachineModel", "cell", "(I)I"⟩, 33) := ⟨⟨by decide +kernel, by decide +kernel⟩, List.mem_of_getElem? (i := 656) (by decide +kernel), List.mem_of_getElem? (i := 798) (by decide +kernel), List.mem_of_getElem? (i := 799) (by decide +kernel)⟩
theorem lw_p42 : lw_okq (⟨"BoardMachineModel", "flag", "(IZ)V"⟩, 33) := ⟨⟨by decide +kernel, by decide +kernel⟩, List.mem_of_getElem? (i := 656) (by decide +kernel), List.mem_of_getElem? (i := 806) (by decide +kernel), List.mem_of_getElem? (i := 807) (by decide +kernel)⟩
theorem lw_p43 : lw_okq (⟨"BoardMachineModel", "wordAt", "(I)I"⟩, 33) := ⟨⟨by decide +kernel, by decide +kernel⟩, List.mem_of_getElem? (i := 656) (by decide +kernel), List.mem_of_getElem? (i := 810) (by decide +kernel), List.mem_of_getElem? (i := 811) (by decide +kernel)⟩
theorem lw_p44 : lw_okq (⟨"BoardMachineModel", "read", "(I)I"⟩, 33) := ⟨⟨by decide +kernel, by decide +kernel⟩, List.mem_of_getElem? (i := 656) (by decide +kernel), List.mem_of_getElem? (i := 814) (by decide +kernel), List.mem_of_getElem? (i := 815) (by decide +kernel)⟩
theorem lw_p45 : lw_okq (⟨"BoardMachineModel", "see", "(I)I"⟩, 33) := ⟨⟨by decide +kernel, by decide +kernel⟩, List.mem_of_getElem? (i := 656) (by decide +kernel), List.mem_of_getElem? (i := 818) (by decide +kernel), List.mem_of_getElem? (i := 819) (by decide +kernel)⟩
theorem lw_p46 : lw_okq (⟨"BoardMachineModel", "flags", "()I"⟩, 33) := ⟨⟨by decide +kernel, by decide +kernel⟩, List.mem_of_getElem? (i := 656) (by decide +kernel), List.mem_of_getElem? (i := 822) (by decide +kernel), List.mem_of_getElem? (i := 823) (by decide +kernel)⟩
theorem lw_p47 : lw_okq (⟨"BoardMachineModel", "asks", "()Z"⟩, 33) := ⟨⟨by decide +kernel, by decide +kernel⟩, List.mem_of_getElem? (i := 656) (by decide +kernel), List.mem_of_getElem? (i := 826) (by decide +kernel), List.mem_of_getElem? (i := 827) (by decide +kernel)⟩
def lw_privs_3 : List (MethodName × Nat) := [(⟨"BoardMachine$Timers", "passOneOf2", "()V"⟩, 9), (⟨"BoardMachine$Breaks", "find", "(I)I"⟩, 2), (⟨"java/lang/Throwable", "fillInStackTrace", "(I)Ljava/lang/Throwable;"⟩, 6), (⟨"BoardMachineModel", "clearDevices", "()V"⟩, 33), (⟨"BoardMachineModel", "once", "()I"⟩, 33), (⟨"BoardMachineModel", "taken2", "(I)I"⟩, 33), (⟨"BoardMachineModel", "interrupt", "(IZ)V"⟩, 33), (⟨"BoardMachineModel", "push", "(I)V"⟩, 33), (⟨"BoardMachineModel", "write", "(II)V"⟩, 33), (⟨"BoardMachineModel", "cell", "(I)I"⟩, 33), (⟨"BoardMachineModel", "flag", "(IZ)V"⟩, 33), (⟨"BoardMachineModel", "wordAt", "(I)I"⟩, 33), (⟨"BoardMachineModel", "read", "(I)I"⟩, 33), (⟨"BoardMachineModel", "see", "(I)I"⟩, 33), (⟨"BoardMachineModel", "flags", "()I"⟩, 33), (⟨"BoardMachineModel", "asks", "()Z"⟩, 33)]
theorem lw_r3 : ∀ q ∈ lw_privs_3, lw_okq q := List.forall_mem_cons.mpr ⟨lw_p32, List.forall_mem_cons.mpr ⟨lw_p33, List.forall_mem_cons.mpr ⟨lw_p34, List.forall_mem_cons.mpr ⟨lw_p35, List.forall_mem_cons.mpr ⟨lw_p36, List.forall_mem_cons.mpr ⟨lw_p37, List.forall_mem_cons.mpr ⟨lw_p38, List.forall_mem_cons.mpr ⟨lw_p39, List.forall_mem_cons.mpr ⟨lw_p40, List.forall_mem_cons.mpr ⟨lw_p41, List.forall_mem_cons.mpr ⟨lw_p42, List.forall_mem_cons.mpr ⟨lw_p43, List.forall_mem_cons.mpr ⟨lw_p44, List.forall_mem_cons.mpr ⟨lw_p45, List.forall_mem_cons.mpr ⟨lw_p46, List.forall_mem_cons.mpr ⟨lw_p47, fun _ h => absurd h List.not_mem_nil⟩⟩⟩⟩⟩⟩⟩⟩⟩⟩⟩⟩⟩⟩⟩⟩
theorem lw_p48 : lw_okq (⟨"BoardMachineModel", "is", "(I)Z"⟩, 33) := ⟨⟨by decide +kernel, by decide +kernel⟩, List.mem_of_getElem? (i := 656) (by decide +kernel), List.mem_of_getElem? (i := 833) (by decide +kernel), List.mem_of_getElem? (i := 834) (by decide +kernel)⟩
theorem lw_p49 : lw_okq (⟨"BoardMachineModel", "instruction", "()I"⟩, 33) := ⟨⟨by decide +kernel, by decide +kernel⟩, List.mem_of_getElem? (i := 656) (by decide +kernel), List.mem_of_getElem? (i := 838) (by decide +kernel), List.mem_of_getElem? (i := 839) (by decide +kernel)⟩
theorem lw_p50 : lw_okq (⟨"BoardMachineModel", "branch", "(I)I"⟩, 33) := ⟨⟨by decide +kernel, by decide +kernel⟩, List.mem_of_getElem? (i := 656) (by decide +kernel), List.mem_of_getElem? (i := 845) (by decide +kernel), List.mem_of_getElem? (i := 846) (by decide +kernel)⟩
theorem lw_p51 : lw_okq (⟨"BoardMachineModel", "jump", "(ZII)I"⟩, 33) := ⟨⟨by decide +kernel, by decide +kernel⟩, List.mem_of_getElem? (i := 656) (by decide +kernel), List.mem_of_getElem? (i := 849) (by decide +kernel), List.mem_of_getElem? (i := 850) (by decide +kernel)⟩
theorem lw_p52 : lw_okq (⟨"BoardMachineModel", "calls", "(I)I"⟩, 33) := ⟨⟨by decide +kernel, by decide +kernel⟩, List.mem_of_getElem? (i := 656) (by decide +kernel), List.mem_of_getElem? (i := 853) (by decide +kernel), List.mem_of_getElem? (i := 854) (by decide +kernel)⟩
theorem lw_p53 : lw_okq (⟨"BoardMachineModel", "pull", "()I"⟩, 33) := ⟨⟨by decide +kernel, by decide +kernel⟩, List.mem_of_getElem? (i := 656) (by decide +kernel), List.mem_of_getElem? (i := 857) (by decide +kernel), List.mem_of_getElem? (i := 858) (by decide +kernel)⟩
theorem lw_p54 : lw_okq (⟨"BoardMachineModel", "loaded", "(II)I"⟩, 33) := ⟨⟨by decide +kernel, by decide +kernel⟩, List.mem_of_getElem? (i := 656) (by decide +kernel), List.mem_of_getElem? (i := 861) (by decide +kernel), List.mem_of_getElem? (i := 862) (by decide +kernel)⟩
theorem lw_p55 : lw_okq (⟨"BoardMachineModel", "taken", "(I)I"⟩, 33) := ⟨⟨by decide +kernel, by decide +kernel⟩, List.mem_of_getElem? (i := 656) (by decide +kernel), List.mem_of_getElem? (i := 865) (by decide +kernel), List.mem_of_getElem? (i := 866) (by decide +kernel)⟩
theorem lw_p56 : lw_okq (⟨"BoardMachineModel", "address", "(I)I"⟩, 33) := ⟨⟨by decide +kernel, by decide +kernel⟩, List.mem_of_getElem? (i := 656) (by decide +kernel), List.mem_of_getElem? (i := 869) (by decide +kernel), List.mem_of_getElem? (i := 870) (by decide +kernel)⟩
theorem lw_p57 : lw_okq (⟨"BoardMachineModel", "indexed", "(II)I"⟩, 33) := ⟨⟨by decide +kernel, by decide +kernel⟩, List.mem_of_getElem? (i := 656) (by decide +kernel), List.mem_of_getElem? (i := 873) (by decide +kernel), List.mem_of_getElem? (i := 874) (by decide +kernel)⟩
theorem lw_p58 : lw_okq (⟨"BoardMachineModel", "zeroWord", "(I)I"⟩, 33) := ⟨⟨by decide +kernel, by decide +kernel⟩, List.mem_of_getElem? (i := 656) (by decide +kernel), List.mem_of_getElem? (i := 877) (by decide +kernel), List.mem_of_getElem? (i := 878) (by decide +kernel)⟩
theorem lw_p59 : lw_okq (⟨"BoardMachineModel", "tested", "(I)I"⟩, 33) := ⟨⟨by decide +kernel, by decide +kernel⟩, List.mem_of_getElem? (i := 656) (by decide +kernel), List.mem_of_getElem? (i := 881) (by decide +kernel), List.mem_of_getElem? (i := 882) (by decide +kernel)⟩
theorem lw_p60 : lw_okq (⟨"BoardMachineModel", "compared", "(II)I"⟩, 33) := ⟨⟨by decide +kernel, by decide +kernel⟩, List.mem_of_getElem? (i := 656) (by decide +kernel), List.mem_of_getElem? (i := 888) (by decide +kernel), List.mem_of_getElem? (i := 889) (by decide +kernel)⟩
theorem lw_p61 : lw_okq (⟨"BoardMachineModel", "compare", "(II)V"⟩, 33) := ⟨⟨by decide +kernel, by decide +kernel⟩, List.mem_of_getElem? (i := 656) (by decide +kernel), List.mem_of_getElem? (i := 892) (by decide +kernel), List.mem_of_getElem? (i := 893) (by decide +kernel)⟩
theorem lw_p62 : lw_okq (⟨"BoardMachineModel", "alu", "(I)I"⟩, 33) := ⟨⟨by decide +kernel, by decide +kernel⟩, List.mem_of_getElem? (i := 656) (by decide +kernel), List.mem_of_getElem? (i := 896) (by decide +kernel), List.mem_of_getElem? (i := 897) (by decide +kernel)⟩
theorem lw_p63 : lw_okq (⟨"BoardMachineModel", "add", "(I)I"⟩, 33) := ⟨⟨by decide +kernel, by decide +kernel⟩, List.mem_of_getElem? (i := 656) (by decide +kernel), List.mem_of_getElem? (i := 903) (by decide +kernel), List.mem_of_getElem? (i := 904) (by decide +kernel)⟩
def lw_privs_4 : List (MethodName × Nat) := [(⟨"BoardMachineModel", "is", "(I)Z"⟩, 33), (⟨"BoardMachineModel", "instruction", "()I"⟩, 33), (⟨"BoardMachineModel", "branch", "(I)I"⟩, 33), (⟨"BoardMachineModel", "jump", "(ZII)I"⟩, 33), (⟨"BoardMachineModel", "calls", "(I)I"⟩, 33), (⟨"BoardMachineModel", "pull", "()I"⟩, 33), (⟨"BoardMachineModel", "loaded", "(II)I"⟩, 33), (⟨"BoardMachineModel", "taken", "(I)I"⟩, 33), (⟨"BoardMachineModel", "address", "(I)I"⟩, 33), (⟨"BoardMachineModel", "indexed", "(II)I"⟩, 33), (⟨"BoardMachineModel", "zeroWord", "(I)I"⟩, 33), (⟨"BoardMachineModel", "tested", "(I)I"⟩, 33), (⟨"BoardMachineModel", "compared", "(II)I"⟩, 33), (⟨"BoardMachineModel", "compare", "(II)V"⟩, 33), (⟨"BoardMachineModel", "alu", "(I)I"⟩, 33), (⟨"BoardMachineModel", "add", "(I)I"⟩, 33)]
theorem lw_r4 : ∀ q ∈ lw_privs_4, lw_okq q := List.forall_mem_cons.mpr ⟨lw_p48, List.forall_mem_cons.mpr ⟨lw_p49, List.forall_mem_cons.mpr ⟨lw_p50, List.forall_mem_cons.mpr ⟨lw_p51, List.forall_mem_cons.mpr ⟨lw_p52, List.forall_mem_cons.mpr ⟨lw_p53, List.forall_mem_cons.mpr ⟨lw_p54, List.forall_mem_cons.mpr ⟨lw_p55, List.forall_mem_cons.mpr ⟨lw_p56, List.forall_mem_cons.mpr ⟨lw_p57, List.forall_mem_cons.mpr ⟨lw_p58, List.forall_mem_cons.mpr ⟨lw_p59, List.forall_mem_cons.mpr ⟨lw_p60, List.forall_mem_cons.mpr ⟨lw_p61, List.forall_mem_cons.mpr ⟨lw_p62, List.forall_mem_cons.mpr ⟨lw_p63, fun _ h => absurd h List.not_mem_nil⟩⟩⟩⟩⟩⟩⟩⟩⟩⟩⟩⟩⟩⟩⟩⟩
theorem lw_p64 : lw_okq (⟨"BoardMachineModel", "carry", "()I"⟩, 33) := ⟨⟨by decide +kernel, by decide +kernel⟩, List.mem_of_getElem? (i := 656) (by decide +kernel), List.mem_of_getElem? (i := 907) (by decide +kernel), List.mem_of_getElem? (i := 908) (by decide +kernel)⟩
theorem lw_p65 : lw_okq (⟨"BoardMachineModel", "overflows", "(II)V"⟩, 33) := ⟨⟨by decide +kernel, by decide +kernel⟩, List.mem_of_getElem? (i := 656) (by decide +kernel), List.mem_of_getElem? (i := 911) (by decide +kernel), List.mem_of_getElem? (i := 912) (by decide +kernel)⟩
theorem lw_p66 : lw_okq (⟨"BoardMachineModel", "subtract", "(I)I"⟩, 33) := ⟨⟨by decide +kernel, by decide +kernel⟩, List.mem_of_getElem? (i := 656) (by decide +kernel), List.mem_of_getElem? (i := 915) (by decide +kernel), List.mem_of_getElem? (i := 916) (by decide +kernel)⟩
theorem lw_p67 : lw_okq (⟨"BoardMachineModel", "halts", "(I)I"⟩, 33) := ⟨⟨by decide +kernel, by decide +kernel⟩, List.mem_of_getElem? (i := 656) (by decide +kernel), List.mem_of_getElem? (i := 919) (by decide +kernel), List.mem_of_getElem? (i := 920) (by decide +kernel)⟩
theorem lw_p68 : lw_okq (⟨"BoardMachineModel", "fours", "(I)I"⟩, 33) := ⟨⟨by decide +kernel, by decide +kernel⟩, List.mem_of_getElem? (i := 656) (by decide +kernel), List.mem_of_getElem? (i := 923) (by decide +kernel), List.mem_of_getElem? (i := 924) (by decide +kernel)⟩
theorem lw_p69 : lw_okq (⟨"BoardMachineModel", "marks", "(ZI)I"⟩, 33) := ⟨⟨by decide +kernel, by decide +kernel⟩, List.mem_of_getElem? (i := 656) (by decide +kernel), List.mem_of_getElem? (i := 930) (by decide +kernel), List.mem_of_getElem? (i := 931) (by decide +kernel)⟩
theorem lw_p70 : lw_okq (⟨"BoardMachineModel", "bits", "(I)I"⟩, 33) := ⟨⟨by decide +kernel, by decide +kernel⟩, List.mem_of_getElem? (i := 656) (by decide +kernel), List.mem_of_getElem? (i := 934) (by decide +kernel), List.mem_of_getElem? (i := 935) (by decide +kernel)⟩
theorem lw_p71 : lw_okq (⟨"BoardMachineModel", "zeroed", "(I)I"⟩, 33) := ⟨⟨by decide +kernel, by decide +kernel⟩, List.mem_of_getElem? (i := 656) (by decide +kernel), List.mem_of_getElem? (i := 938) (by decide +kernel), List.mem_of_getElem? (i := 939) (by decide +kernel)⟩
theorem lw_p72 : lw_okq (⟨"BoardMachineModel", "shifts", "(I)I"⟩, 33) := ⟨⟨by decide +kernel, by decide +kernel⟩, List.mem_of_getElem? (i := 656) (by decide +kernel), List.mem_of_getElem? (i := 942) (by decide +kernel), List.mem_of_getElem? (i := 943) (by decide +kernel)⟩
theorem lw_p73 : lw_okq (⟨"BoardMachineModel", "change", "(II)I"⟩, 33) := ⟨⟨by decide +kernel, by decide +kernel⟩, List.mem_of_getElem? (i := 656) (by decide +kernel), List.mem_of_getElem? (i := 946) (by decide +kernel), List.mem_of_getElem? (i := 947) (by decide +kernel)⟩
theorem lw_p74 : lw_okq (⟨"BoardMachineModel", "changed", "(II)I"⟩, 33) := ⟨⟨by decide +kernel, by decide +kernel⟩, List.mem_of_getElem? (i := 656) (by decide +kernel), List.mem_of_getElem? (i := 950) (by decide +kernel), List.mem_of_getElem? (i := 951) (by decide +kernel)⟩
theorem lw_p75 : lw_okq (⟨"BoardMachineModel", "single", "(I)I"⟩, 33) := ⟨⟨by decide +kernel, by decide +kernel⟩, List.mem_of_getElem? (i := 656) (by decide +kernel), List.mem_of_getElem? (i := 954) (by decide +kernel), List.mem_of_getElem? (i := 955) (by decide +kernel)⟩
theorem lw_p76 : lw_okq (⟨"BoardMachineModel", "eights", "(I)I"⟩, 33) := ⟨⟨by decide +kernel, by decide +kernel⟩, List.mem_of_getElem? (i := 656) (by decide +kernel), List.mem_of_getElem? (i := 958) (by decide +kernel), List.mem_of_getElem? (i := 959) (by decide +kernel)⟩
theorem lw_p77 : lw_okq (⟨"BoardMachineModel", "stacks", "(IZ)I"⟩, 33) := ⟨⟨by decide +kernel, by decide +kernel⟩, List.mem_of_getElem? (i := 656) (by decide +kernel), List.mem_of_getElem? (i := 962) (by decide +kernel), List.mem_of_getElem? (i := 963) (by decide +kernel)⟩
theorem lw_p78 : lw_okq (⟨"BoardMachineModel", "flagged", "(IZ)I"⟩, 33) := ⟨⟨by decide +kernel, by decide +kernel⟩, List.mem_of_getElem? (i := 656) (by decide +kernel), List.mem_of_getElem? (i := 966) (by decide +kernel), List.mem_of_getElem? (i := 967) (by decide +kernel)⟩
theorem lw_p79 : lw_okq (⟨"BoardMachineModel", "counted", "(II)I"⟩, 33) := ⟨⟨by decide +kernel, by decide +kernel⟩, List.mem_of_getElem? (i := 656) (by decide +kernel), List.mem_of_getElem? (i := 970) (by decide +kernel), List.mem_of_getElem? (i := 971) (by decide +kernel)⟩
def lw_privs_5 : List (MethodName × Nat) := [(⟨"BoardMachineModel", "carry", "()I"⟩, 33), (⟨"BoardMachineModel", "overflows", "(II)V"⟩, 33), (⟨"BoardMachineModel", "subtract", "(I)I"⟩, 33), (⟨"BoardMachineModel", "halts", "(I)I"⟩, 33), (⟨"BoardMachineModel", "fours", "(I)I"⟩, 33), (⟨"BoardMachineModel", "marks", "(ZI)I"⟩, 33), (⟨"BoardMachineModel", "bits", "(I)I"⟩, 33), (⟨"BoardMachineModel", "zeroed", "(I)I"⟩, 33), (⟨"BoardMachineModel", "shifts", "(I)I"⟩, 33), (⟨"BoardMachineModel", "change", "(II)I"⟩, 33), (⟨"BoardMachineModel", "changed", "(II)I"⟩, 33), (⟨"BoardMachineModel", "single", "(I)I"⟩, 33), (⟨"BoardMachineModel", "eights", "(I)I"⟩, 33), (⟨"BoardMachineModel", "stacks", "(IZ)I"⟩, 33), (⟨"BoardMachineModel", "flagged", "(IZ)I"⟩, 33), (⟨"BoardMachineModel", "counted", "(II)I"⟩, 33)]
theorem lw_r5 : ∀ q ∈ lw_privs_5, lw_okq q := List.forall_mem_cons.mpr ⟨lw_p64, List.forall_mem_cons.mpr ⟨lw_p65, List.forall_mem_cons.mpr ⟨lw_p66, List.forall_mem_cons.mpr ⟨lw_p67, List.forall_mem_cons.mpr ⟨lw_p68, List.forall_mem_cons.mpr ⟨lw_p69, List.forall_mem_cons.mpr ⟨lw_p70, List.forall_mem_cons.mpr ⟨lw_p71, List.forall_mem_cons.mpr ⟨lw_p72, List.forall_mem_cons.mpr ⟨lw_p73, List.forall_mem_cons.mpr ⟨lw_p74, List.forall_mem_cons.mpr ⟨lw_p75, List.forall_mem_cons.mpr ⟨lw_p76, List.forall_mem_cons.mpr ⟨lw_p77, List.forall_mem_cons.mpr ⟨lw_p78, List.forall_mem_cons.mpr ⟨lw_p79, fun _ h => absurd h List.not_mem_nil⟩⟩⟩⟩⟩⟩⟩⟩⟩⟩⟩⟩⟩⟩⟩⟩
theorem lw_p80 : lw_okq (⟨"BoardMachineModel", "moved", "(II)I"⟩, 33) := ⟨⟨by decide +kernel, by decide +kernel⟩, List.mem_of_getElem? (i := 656) (by decide +kernel), List.mem_of_getElem? (i := 974) (by decide +kernel), List.mem_of_getElem? (i := 975) (by decide +kernel)⟩
theorem lw_p81 : lw_okq (⟨"BoardMachineModel", "tens", "(I)I"⟩, 33) := ⟨⟨by decide +kernel, by decide +kernel⟩, List.mem_of_getElem? (i := 656) (by decide +kernel), List.mem_of_getElem? (i := 978) (by decide +kernel), List.mem_of_getElem? (i := 979) (by decide +kernel)⟩
theorem lw_p82 : lw_okq (⟨"BoardMachineModel", "clock", "()V"⟩, 33) := ⟨⟨by decide +kernel, by decide +kernel⟩, List.mem_of_getElem? (i := 656) (by decide +kernel), List.mem_of_getElem? (i := 982) (by decide +kernel), List.mem_of_getElem? (i := 983) (by decide +kernel)⟩
theorem lw_p83 : lw_okq (⟨"BoardMachineModel", "fails", "(Z)Z"⟩, 33) := ⟨⟨by decide +kernel, by decide +kernel⟩, List.mem_of_getElem? (i := 656) (by decide +kernel), List.mem_of_getElem? (i := 991) (by decide +kernel), List.mem_of_getElem? (i := 992) (by decide +kernel)⟩
theorem lw_p84 : lw_okq (⟨"BoardMachineModel", "find", "(I)I"⟩, 33) := ⟨⟨by decide +kernel, by decide +kernel⟩, List.mem_of_getElem? (i := 656) (by decide +kernel), List.mem_of_getElem? (i := 996) (by decide +kernel), List.mem_of_getElem? (i := 997) (by decide +kernel)⟩
def lw_privs_6 : List (MethodName × Nat) := [(⟨"BoardMachineModel", "moved", "(II)I"⟩, 33), (⟨"BoardMachineModel", "tens", "(I)I"⟩, 33), (⟨"BoardMachineModel", "clock", "()V"⟩, 33), (⟨"BoardMachineModel", "fails", "(Z)Z"⟩, 33), (⟨"BoardMachineModel", "find", "(I)I"⟩, 33)]
theorem lw_r6 : ∀ q ∈ lw_privs_6, lw_okq q := List.forall_mem_cons.mpr ⟨lw_p80, List.forall_mem_cons.mpr ⟨lw_p81, List.forall_mem_cons.mpr ⟨lw_p82, List.forall_mem_cons.mpr ⟨lw_p83, List.forall_mem_cons.mpr ⟨lw_p84, fun _ h => absurd h List.not_mem_nil⟩⟩⟩⟩⟩
def lw_privs : List (MethodName × Nat) := lw_privs_1 ++ (lw_privs_2 ++ (lw_privs_3 ++ (lw_privs_4 ++ (lw_privs_5 ++ (lw_privs_6)))))
def lw_tbl : List Cond := k2_sels lw_privs ++ tables_1
theorem lw_privs_ok : ∀ q ∈ lw_privs, lw_okq q := by
  show ∀ q ∈ lw_privs_1 ++ (lw_privs_2 ++ (lw_privs_3 ++ (lw_privs_4 ++ (lw_privs_5 ++ (lw_privs_6))))), lw_okq q
  exact List.forall_mem_append.mpr ⟨lw_r1, List.forall_mem_append.mpr ⟨lw_r2, List.forall_mem_append.mpr ⟨lw_r3, List.forall_mem_append.mpr ⟨lw_r4, List.forall_mem_append.mpr ⟨lw_r5, lw_r6⟩⟩⟩⟩⟩
end
section
def RX0 : String := "BoardMachine$Board"
def TX0 : u_T := fun k => match k with
  | 0 => ("BoardMachine$Board", "timers", "LBoardMachine$Timers;", true)
  | 1 => ("BoardMachine$Board", "port", "LBoardMachine$Port;", true)
  | 2 => ("BoardMachine$Board", "bank", "I", false)
  | _ => ("BoardMachine$Board", "memory", "LBoardMachine$Memory;", true)
def tyX0 : Nat → FieldType := fun k => match k with
  | 0 => .object "BoardMachine$Timers"
  | 1 => .object "BoardMachine$Port"
  | 2 => .int
  | _ => .object "BoardMachine$Memory"
abbrev wsX00 : List Cond := u_ws RX0 TX0 4
theorem nmX0 : ∀ a, a < 4 → ∀ b, b < 4 → a ≠ b → (TX0 a).2.1 ≠ (TX0 b).2.1 := by decide +kernel
theorem tyX0_ok : ∀ k, k < 4 → parseFieldDescriptor (TX0 k).2.2.1 = some (tyX0 k) := by decide +kernel
abbrev cX0_init : ByteArray := prog_2_method_1_code
def yX0_init : MethodName := ⟨RX0, "<init>", "()V"⟩
abbrev cX0_restart : ByteArray := prog_2_method_2_code
def yX0_restart : MethodName := ⟨RX0, "restart", "()V"⟩
abbrev cX0_asks : ByteArray := prog_2_method_3_code
def yX0_asks : MethodName := ⟨RX0, "asks", "()Z"⟩
abbrev cX0_read : ByteArray := prog_2_method_4_code
def yX0_read : MethodName := ⟨RX0, "read", "(I)I"⟩
abbrev cX0_peek : ByteArray := prog_2_method_5_code
def yX0_peek : MethodName := ⟨RX0, "peek", "(I)I"⟩
abbrev cX0_write : ByteArray := prog_2_method_6_code
def yX0_write : MethodName := ⟨RX0, "write", "(II)V"⟩
abbrev cX0_place : ByteArray := prog_2_method_7_code
def yX0_place : MethodName := ⟨RX0, "place", "(II)V"⟩
abbrev cX0_peekDevice : ByteArray := prog_2_method_8_code
def yX0_peekDevice : MethodName := ⟨RX0, "peekDevice", "(I)I"⟩
abbrev cX0_afterReading : ByteArray := prog_2_method_9_code
def yX0_afterReading : MethodName := ⟨RX0, "afterReading", "(I)V"⟩
abbrev cX0_cell : ByteArray := prog_2_method_10_code
def yX0_cell : MethodName := ⟨RX0, "cell", "(I)I"⟩
abbrev cX0_isDevice : ByteArray := prog_2_method_11_code
def yX0_isDevice : MethodName := ⟨RX0, "isDevice", "(I)Z"⟩
def RX1 : String := "BoardMachine$Breaks"
def TX1 : u_T := fun k => match k with
  | 0 => ("BoardMachine$Breaks", "size", "I", false)
  | _ => ("BoardMachine$Breaks", "addresses", "[I", true)
def tyX1 : Nat → FieldType := fun k => match k with
  | 0 => .int
  | _ => .array .int
abbrev wsX10 : List Cond := u_ws RX1 TX1 2
theorem nmX1 : ∀ a, a < 2 → ∀ b, b < 2 → a ≠ b → (TX1 a).2.1 ≠ (TX1 b).2.1 := by decide +kernel
theorem tyX1_ok : ∀ k, k < 2 → parseFieldDescriptor (TX1 k).2.2.1 = some (tyX1 k) := by decide +kernel
abbrev cX1_init : ByteArray := prog_3_method_1_code
def yX1_init : MethodName := ⟨RX1, "<init>", "()V"⟩
abbrev cX1_has : ByteArray := prog_3_method_2_code
def yX1_has : MethodName := ⟨RX1, "has", "(I)Z"⟩
abbrev cX1_add : ByteArray := prog_3_method_3_code
def yX1_add : MethodName := ⟨RX1, "add", "(I)Z"⟩
abbrev cX1_remove : ByteArray := prog_3_method_4_code
def yX1_remove : MethodName := ⟨RX1, "remove", "(I)Z"⟩
abbrev cX1_find : ByteArray := prog_3_method_5_code
def yX1_find : MethodName := ⟨RX1, "find", "(I)I"⟩
def RX2 : String := "BoardMachine$Codes"
def TX2 : u_T := fun k => match k with
  | _ => ("", "", "", false)
def tyX2 : Nat → FieldType := fun k => match k with
  | _ => .int
abbrev wsX20 : List Cond := u_ws RX2 TX2 0
theorem nmX2 : ∀ a, a < 0 → ∀ b, b < 0 → a ≠ b → (TX2 a).2.1 ≠ (TX2 b).2.1 := by decide +kernel
theorem tyX2_ok : ∀ k, k < 0 → parseFieldDescriptor (TX2 k).2.2.1 = some (tyX2 k) := by decide +kernel
abbrev cX2_paysForCrossing : ByteArray := prog_4_method_2_code
def yX2_paysForCrossing : MethodName := ⟨RX2, "paysForCrossing", "(I)Z"⟩
def RX3 : String := "BoardMachine$Memory"
def TX3 : u_T := fun k => match k with
  | _ => ("BoardMachine$Memory", "words", "[J", true)
def tyX3 : Nat → FieldType := fun k => match k with
  | _ => .array .long
abbrev wsX30 : List Cond := u_ws RX3 TX3 1
theorem nmX3 : ∀ a, a < 1 → ∀ b, b < 1 → a ≠ b → (TX3 a).2.1 ≠ (TX3 b).2.1 := by decide +kernel
theorem tyX3_ok : ∀ k, k < 1 → parseFieldDescriptor (TX3 k).2.2.1 = some (tyX3 k) := by decide +kernel
abbrev cX3_init : ByteArray := prog_5_method_1_code
def yX3_init : MethodName := ⟨RX3, "<init>", "(I)V"⟩
abbrev cX3_byteAt : ByteArray := prog_5_method_2_code
def yX3_byteAt : MethodName := ⟨RX3, "byteAt", "(I)I"⟩
abbrev cX3_store : ByteArray := prog_5_method_3_code
def yX3_store : MethodName := ⟨RX3, "store", "(II)V"⟩
def RX4 : String := "BoardMachine$Port"
def TX4 : u_T := fun k => match k with
  | 0 => ("BoardMachine$Port", "waiting", "I", false)
  | 1 => ("BoardMachine$Port", "sentInAll", "I", false)
  | 2 => ("BoardMachine$Port", "came", "[I", true)
  | 3 => ("BoardMachine$Port", "sentBytes", "[I", true)
  | 4 => ("BoardMachine$Port", "oldest", "I", false)
  | _ => ("BoardMachine$Port", "command", "I", false)
def tyX4 : Nat → FieldType := fun k => match k with
  | 0 => .int
  | 1 => .int
  | 2 => .array .int
  | 3 => .array .int
  | 4 => .int
  | _ => .int
abbrev wsX40 : List Cond := u_ws RX4 TX4 6
theorem nmX4 : ∀ a, a < 6 → ∀ b, b < 6 → a ≠ b → (TX4 a).2.1 ≠ (TX4 b).2.1 := by decide +kernel
theorem tyX4_ok : ∀ k, k < 6 → parseFieldDescriptor (TX4 k).2.2.1 = some (tyX4 k) := by decide +kernel
abbrev cX4_init : ByteArray := prog_6_method_1_code
def yX4_init : MethodName := ⟨RX4, "<init>", "()V"⟩
abbrev cX4_restart : ByteArray := prog_6_method_2_code
def yX4_restart : MethodName := ⟨RX4, "restart", "()V"⟩
abbrev cX4_accept : ByteArray := prog_6_method_3_code
def yX4_accept : MethodName := ⟨RX4, "accept", "(I)I"⟩
abbrev cX4_sentByte : ByteArray := prog_6_method_4_code
def yX4_sentByte : MethodName := ⟨RX4, "sentByte", "(I)I"⟩
abbrev cX4_asks : ByteArray := prog_6_method_5_code
def yX4_asks : MethodName := ⟨RX4, "asks", "()Z"⟩
abbrev cX4_peek : ByteArray := prog_6_method_6_code
def yX4_peek : MethodName := ⟨RX4, "peek", "(I)I"⟩
abbrev cX4_afterReading : ByteArray := prog_6_method_7_code
def yX4_afterReading : MethodName := ⟨RX4, "afterReading", "(I)V"⟩
abbrev cX4_write : ByteArray := prog_6_method_8_code
def yX4_write : MethodName := ⟨RX4, "write", "(II)V"⟩
def RX5 : String := "BoardMachine$Processor"
def TX5 : u_T := fun k => match k with
  | 0 => ("BoardMachine$Processor", "a", "I", false)
  | 1 => ("BoardMachine$Processor", "x", "I", false)
  | 2 => ("BoardMachine$Processor", "y", "I", false)
  | 3 => ("BoardMachine$Processor", "s", "I", false)
  | 4 => ("BoardMachine$Processor", "p", "I", false)
  | 5 => ("BoardMachine$Processor", "pc", "I", false)
  | 6 => ("BoardMachine$Processor", "waits", "Z", false)
  | 7 => ("BoardMachine$Processor", "stopped", "Z", false)
  | 8 => ("BoardMachine$Processor", "edge", "Z", false)
  | 9 => ("BoardMachine$Processor", "cycles", "J", false)
  | 10 => ("BoardMachine$Processor", "interrupts", "I", false)
  | 11 => ("BoardMachine$Processor", "carried", "LBoardMachine$Trace;", true)
  | 12 => ("BoardMachine$Processor", "board", "LBoardMachine$Board;", true)
  | 13 => ("BoardMachine$Processor", "spent", "I", false)
  | _ => ("BoardMachine$Processor", "crossed", "Z", false)
def tyX5 : Nat → FieldType := fun k => match k with
  | 0 => .int
  | 1 => .int
  | 2 => .int
  | 3 => .int
  | 4 => .int
  | 5 => .int
  | 6 => .boolean
  | 7 => .boolean
  | 8 => .boolean
  | 9 => .long
  | 10 => .int
  | 11 => .object "BoardMachine$Trace"
  | 12 => .object "BoardMachine$Board"
  | 13 => .int
  | _ => .boolean
abbrev wsX50 : List Cond := u_ws RX5 TX5 15
theorem nmX5 : ∀ a, a < 15 → ∀ b, b < 15 → a ≠ b → (TX5 a).2.1 ≠ (TX5 b).2.1 := by decide +kernel
theorem tyX5_ok : ∀ k, k < 15 → parseFieldDescriptor (TX5 k).2.2.1 = some (tyX5 k) := by decide +kernel
abbrev cX5_init : ByteArray := prog_7_method_1_code
def yX5_init : MethodName := ⟨RX5, "<init>", "(LBoardMachine$Board;)V"⟩
abbrev cX5_restart : ByteArray := prog_7_method_2_code
def yX5_restart : MethodName := ⟨RX5, "restart", "()V"⟩
abbrev cX5_advance : ByteArray := prog_7_method_3_code
def yX5_advance : MethodName := ⟨RX5, "advance", "()I"⟩
abbrev cX5_takeInterrupt : ByteArray := prog_7_method_4_code
def yX5_takeInterrupt : MethodName := ⟨RX5, "takeInterrupt", "(I)V"⟩
abbrev cX5_interrupt : ByteArray := prog_7_method_5_code
def yX5_interrupt : MethodName := ⟨RX5, "interrupt", "(II)V"⟩
abbrev cX5_carryOut : ByteArray := prog_7_method_6_code
def yX5_carryOut : MethodName := ⟨RX5, "carryOut", "()V"⟩
abbrev cX5_fetch : ByteArray := prog_7_method_7_code
def yX5_fetch : MethodName := ⟨RX5, "fetch", "()I"⟩
abbrev cX5_addressOf : ByteArray := prog_7_method_8_code
def yX5_addressOf : MethodName := ⟨RX5, "addressOf", "(II)I"⟩
abbrev cX5_indexed : ByteArray := prog_7_method_9_code
def yX5_indexed : MethodName := ⟨RX5, "indexed", "(II)I"⟩
abbrev cX5_pointerAt : ByteArray := prog_7_method_10_code
def yX5_pointerAt : MethodName := ⟨RX5, "pointerAt", "(I)I"⟩
abbrev cX5_wordAt : ByteArray := prog_7_method_11_code
def yX5_wordAt : MethodName := ⟨RX5, "wordAt", "(I)I"⟩
abbrev cX5_use : ByteArray := prog_7_method_12_code
def yX5_use : MethodName := ⟨RX5, "use", "(II)V"⟩
abbrev cX5_add : ByteArray := prog_7_method_13_code
def yX5_add : MethodName := ⟨RX5, "add", "(I)V"⟩
abbrev cX5_addDecimal : ByteArray := prog_7_method_14_code
def yX5_addDecimal : MethodName := ⟨RX5, "addDecimal", "(I)V"⟩
abbrev cX5_subtractDecimal : ByteArray := prog_7_method_15_code
def yX5_subtractDecimal : MethodName := ⟨RX5, "subtractDecimal", "(I)V"⟩
abbrev cX5_changesSign : ByteArray := prog_7_method_16_code
def yX5_changesSign : MethodName := ⟨RX5, "changesSign", "(II)Z"⟩
abbrev cX5_compare : ByteArray := prog_7_method_17_code
def yX5_compare : MethodName := ⟨RX5, "compare", "(II)V"⟩
abbrev cX5_stored : ByteArray := prog_7_method_18_code
def yX5_stored : MethodName := ⟨RX5, "stored", "(I)I"⟩
abbrev cX5_change : ByteArray := prog_7_method_19_code
def yX5_change : MethodName := ⟨RX5, "change", "(IIII)V"⟩
abbrev cX5_changed : ByteArray := prog_7_method_20_code
def yX5_changed : MethodName := ⟨RX5, "changed", "(III)I"⟩
abbrev cX5_shifted : ByteArray := prog_7_method_21_code
def yX5_shifted : MethodName := ⟨RX5, "shifted", "(II)I"⟩
abbrev cX5_move : ByteArray := prog_7_method_22_code
def yX5_move : MethodName := ⟨RX5, "move", "(I)V"⟩
abbrev cX5_changeState : ByteArray := prog_7_method_23_code
def yX5_changeState : MethodName := ⟨RX5, "changeState", "(I)V"⟩
abbrev cX5_pushOrPull : ByteArray := prog_7_method_24_code
def yX5_pushOrPull : MethodName := ⟨RX5, "pushOrPull", "(I)V"⟩
abbrev cX5_branch : ByteArray := prog_7_method_25_code
def yX5_branch : MethodName := ⟨RX5, "branch", "(III)V"⟩
abbrev cX5_goIf : ByteArray := prog_7_method_26_code
def yX5_goIf : MethodName := ⟨RX5, "goIf", "(ZI)V"⟩
abbrev cX5_jump : ByteArray := prog_7_method_27_code
def yX5_jump : MethodName := ⟨RX5, "jump", "(II)V"⟩
abbrev cX5_push : ByteArray := prog_7_method_28_code
def yX5_push : MethodName := ⟨RX5, "push", "(I)V"⟩
abbrev cX5_pull : ByteArray := prog_7_method_29_code
def yX5_pull : MethodName := ⟨RX5, "pull", "()I"⟩
abbrev cX5_mark : ByteArray := prog_7_method_30_code
def yX5_mark : MethodName := ⟨RX5, "mark", "(IZ)V"⟩
abbrev cX5_shown : ByteArray := prog_7_method_31_code
def yX5_shown : MethodName := ⟨RX5, "shown", "(I)I"⟩
def RX6 : String := "BoardMachine$Timers"
def TX6 : u_T := fun k => match k with
  | 0 => ("BoardMachine$Timers", "counter1", "I", false)
  | 1 => ("BoardMachine$Timers", "counter2", "I", false)
  | 2 => ("BoardMachine$Timers", "latch1", "I", false)
  | 3 => ("BoardMachine$Timers", "ifr", "I", false)
  | 4 => ("BoardMachine$Timers", "ier", "I", false)
  | 5 => ("BoardMachine$Timers", "latch2Low", "I", false)
  | 6 => ("BoardMachine$Timers", "acr", "I", false)
  | 7 => ("BoardMachine$Timers", "armed1", "Z", false)
  | _ => ("BoardMachine$Timers", "armed2", "Z", false)
def tyX6 : Nat → FieldType := fun k => match k with
  | 0 => .int
  | 1 => .int
  | 2 => .int
  | 3 => .int
  | 4 => .int
  | 5 => .int
  | 6 => .int
  | 7 => .boolean
  | _ => .boolean
abbrev wsX60 : List Cond := u_ws RX6 TX6 9
theorem nmX6 : ∀ a, a < 9 → ∀ b, b < 9 → a ≠ b → (TX6 a).2.1 ≠ (TX6 b).2.1 := by decide +kernel
theorem tyX6_ok : ∀ k, k < 9 → parseFieldDescriptor (TX6 k).2.2.1 = some (tyX6 k) := by decide +kernel
abbrev cX6_init : ByteArray := prog_8_method_1_code
def yX6_init : MethodName := ⟨RX6, "<init>", "()V"⟩
abbrev cX6_restart : ByteArray := prog_8_method_2_code
def yX6_restart : MethodName := ⟨RX6, "restart", "()V"⟩
abbrev cX6_asks : ByteArray := prog_8_method_3_code
def yX6_asks : MethodName := ⟨RX6, "asks", "()Z"⟩
abbrev cX6_peek : ByteArray := prog_8_method_4_code
def yX6_peek : MethodName := ⟨RX6, "peek", "(I)I"⟩
abbrev cX6_afterReading : ByteArray := prog_8_method_5_code
def yX6_afterReading : MethodName := ⟨RX6, "afterReading", "(I)V"⟩
abbrev cX6_write : ByteArray := prog_8_method_6_code
def yX6_write : MethodName := ⟨RX6, "write", "(II)V"⟩
abbrev cX6_pass : ByteArray := prog_8_method_7_code
def yX6_pass : MethodName := ⟨RX6, "pass", "(I)V"⟩
abbrev cX6_passOneOf1 : ByteArray := prog_8_method_8_code
def yX6_passOneOf1 : MethodName := ⟨RX6, "passOneOf1", "()V"⟩
abbrev cX6_passOneOf2 : ByteArray := prog_8_method_9_code
def yX6_passOneOf2 : MethodName := ⟨RX6, "passOneOf2", "()V"⟩
def RX7 : String := "BoardMachine$Trace"
def TX7 : u_T := fun k => match k with
  | 0 => ("BoardMachine$Trace", "noted", "I", false)
  | _ => ("BoardMachine$Trace", "addresses", "[I", true)
def tyX7 : Nat → FieldType := fun k => match k with
  | 0 => .int
  | _ => .array .int
abbrev wsX70 : List Cond := u_ws RX7 TX7 2
theorem nmX7 : ∀ a, a < 2 → ∀ b, b < 2 → a ≠ b → (TX7 a).2.1 ≠ (TX7 b).2.1 := by decide +kernel
theorem tyX7_ok : ∀ k, k < 2 → parseFieldDescriptor (TX7 k).2.2.1 = some (tyX7 k) := by decide +kernel
abbrev cX7_init : ByteArray := prog_9_method_1_code
def yX7_init : MethodName := ⟨RX7, "<init>", "()V"⟩
abbrev cX7_note : ByteArray := prog_9_method_2_code
def yX7_note : MethodName := ⟨RX7, "note", "(I)V"⟩
abbrev cX7_kept : ByteArray := prog_9_method_3_code
def yX7_kept : MethodName := ⟨RX7, "kept", "(I)I"⟩
def RX8 : String := "BoardMachine"
def TX8 : u_T := fun k => match k with
  | 0 => ("BoardMachine", "board", "LBoardMachine$Board;", true)
  | 1 => ("BoardMachine", "processor", "LBoardMachine$Processor;", true)
  | _ => ("BoardMachine", "breaks", "LBoardMachine$Breaks;", true)
def tyX8 : Nat → FieldType := fun k => match k with
  | 0 => .object "BoardMachine$Board"
  | 1 => .object "BoardMachine$Processor"
  | _ => .object "BoardMachine$Breaks"
abbrev wsX80 : List Cond := u_ws RX8 TX8 3
theorem nmX8 : ∀ a, a < 3 → ∀ b, b < 3 → a ≠ b → (TX8 a).2.1 ≠ (TX8 b).2.1 := by decide +kernel
theorem tyX8_ok : ∀ k, k < 3 → parseFieldDescriptor (TX8 k).2.2.1 = some (tyX8 k) := by decide +kernel
abbrev cX8_init : ByteArray := prog_1_method_1_code
def yX8_init : MethodName := ⟨RX8, "<init>", "()V"⟩
abbrev cX8_load : ByteArray := prog_1_method_2_code
def yX8_load : MethodName := ⟨RX8, "load", "(IJI)V"⟩
abbrev cX8_reset : ByteArray := prog_1_method_3_code
def yX8_reset : MethodName := ⟨RX8, "reset", "()V"⟩
abbrev cX8_step : ByteArray := prog_1_method_4_code
def yX8_step : MethodName := ⟨RX8, "step", "()I"⟩
abbrev cX8_run : ByteArray := prog_1_method_5_code
def yX8_run : MethodName := ⟨RX8, "run", "(I)I"⟩
abbrev cX8_nmi : ByteArray := prog_1_method_6_code
def yX8_nmi : MethodName := ⟨RX8, "nmi", "()V"⟩
abbrev cX8_receive : ByteArray := prog_1_method_7_code
def yX8_receive : MethodName := ⟨RX8, "receive", "(I)I"⟩
abbrev cX8_sent : ByteArray := prog_1_method_8_code
def yX8_sent : MethodName := ⟨RX8, "sent", "(I)I"⟩
abbrev cX8_look : ByteArray := prog_1_method_9_code
def yX8_look : MethodName := ⟨RX8, "look", "(I)I"⟩
abbrev cX8_register : ByteArray := prog_1_method_10_code
def yX8_register : MethodName := ⟨RX8, "register", "(I)I"⟩
abbrev cX8_set : ByteArray := prog_1_method_11_code
def yX8_set : MethodName := ⟨RX8, "set", "(II)V"⟩
abbrev cX8_setBreak : ByteArray := prog_1_method_12_code
def yX8_setBreak : MethodName := ⟨RX8, "setBreak", "(I)Z"⟩
abbrev cX8_clearBreak : ByteArray := prog_1_method_13_code
def yX8_clearBreak : MethodName := ⟨RX8, "clearBreak", "(I)Z"⟩
abbrev cX8_trace : ByteArray := prog_1_method_14_code
def yX8_trace : MethodName := ⟨RX8, "trace", "(I)I"⟩
abbrev cX8_count : ByteArray := prog_1_method_15_code
def yX8_count : MethodName := ⟨RX8, "count", "(I)J"⟩
abbrev cX8_isAddress : ByteArray := prog_1_method_16_code
def yX8_isAddress : MethodName := ⟨RX8, "isAddress", "(I)Z"⟩
def RX9 : String := "BoardMachineModel"
def TX9 : u_T := fun k => match k with
  | 0 => ("BoardMachineModel", "thrown", "I", false)
  | 1 => ("BoardMachineModel", "memory", "[I", true)
  | 2 => ("BoardMachineModel", "\x72", "[I", true)
  | 3 => ("BoardMachineModel", "p", "I", false)
  | 4 => ("BoardMachineModel", "pc", "I", false)
  | 5 => ("BoardMachineModel", "bank", "I", false)
  | 6 => ("BoardMachineModel", "waits", "Z", false)
  | 7 => ("BoardMachineModel", "stops", "Z", false)
  | 8 => ("BoardMachineModel", "edge", "Z", false)
  | 9 => ("BoardMachineModel", "b", "I", false)
  | 10 => ("BoardMachineModel", "w", "I", false)
  | 11 => ("BoardMachineModel", "left", "Z", false)
  | 12 => ("BoardMachineModel", "counter1", "I", false)
  | 13 => ("BoardMachineModel", "counter2", "I", false)
  | 14 => ("BoardMachineModel", "latch1", "I", false)
  | 15 => ("BoardMachineModel", "latch2", "I", false)
  | 16 => ("BoardMachineModel", "acr", "I", false)
  | 17 => ("BoardMachineModel", "ifr", "I", false)
  | 18 => ("BoardMachineModel", "ier", "I", false)
  | 19 => ("BoardMachineModel", "command", "I", false)
  | 20 => ("BoardMachineModel", "armed1", "Z", false)
  | 21 => ("BoardMachineModel", "armed2", "Z", false)
  | 22 => ("BoardMachineModel", "waiting", "I", false)
  | 23 => ("BoardMachineModel", "sent", "I", false)
  | 24 => ("BoardMachineModel", "queue", "[I", true)
  | 25 => ("BoardMachineModel", "out", "[I", true)
  | 26 => ("BoardMachineModel", "cycles", "J", false)
  | 27 => ("BoardMachineModel", "steps", "J", false)
  | 28 => ("BoardMachineModel", "interrupts", "J", false)
  | 29 => ("BoardMachineModel", "breaks", "I", false)
  | 30 => ("BoardMachineModel", "traced", "I", false)
  | 31 => ("BoardMachineModel", "breakAt", "[I", true)
  | _ => ("BoardMachineModel", "trace", "[I", true)
def tyX9 : Nat → FieldType := fun k => match k with
  | 0 => .int
  | 1 => .array .int
  | 2 => .array .int
  | 3 => .int
  | 4 => .int
  | 5 => .int
  | 6 => .boolean
  | 7 => .boolean
  | 8 => .boolean
  | 9 => .int
  | 10 => .int
  | 11 => .boolean
  | 12 => .int
  | 13 => .int
  | 14 => .int
  | 15 => .int
  | 16 => .int
  | 17 => .int
  | 18 => .int
  | 19 => .int
  | 20 => .boolean
  | 21 => .boolean
  | 22 => .int
  | 23 => .int
  | 24 => .array .int
  | 25 => .array .int
  | 26 => .long
  | 27 => .long
  | 28 => .long
  | 29 => .int
  | 30 => .int
  | 31 => .array .int
  | _ => .array .int
abbrev wsX90 : List Cond := u_ws RX9 TX9 33
theorem nmX9 : ∀ a, a < 33 → ∀ b, b < 33 → a ≠ b → (TX9 a).2.1 ≠ (TX9 b).2.1 := by decide +kernel
theorem tyX9_ok : ∀ k, k < 33 → parseFieldDescriptor (TX9 k).2.2.1 = some (tyX9 k) := by decide +kernel
abbrev cX9_init : ByteArray := prog_11_method_1_code
def yX9_init : MethodName := ⟨RX9, "<init>", "()V"⟩
abbrev cX9_thrown : ByteArray := prog_11_method_2_code
def yX9_thrown : MethodName := ⟨RX9, "thrown", "()I"⟩
abbrev cX9_fails : ByteArray := prog_11_method_3_code
def yX9_fails : MethodName := ⟨RX9, "fails", "(Z)Z"⟩
abbrev cX9_clearDevices : ByteArray := prog_11_method_4_code
def yX9_clearDevices : MethodName := ⟨RX9, "clearDevices", "()V"⟩
abbrev cX9_cell : ByteArray := prog_11_method_5_code
def yX9_cell : MethodName := ⟨RX9, "cell", "(I)I"⟩
abbrev cX9_asks : ByteArray := prog_11_method_6_code
def yX9_asks : MethodName := ⟨RX9, "asks", "()Z"⟩
abbrev cX9_flags : ByteArray := prog_11_method_7_code
def yX9_flags : MethodName := ⟨RX9, "flags", "()I"⟩
abbrev cX9_see : ByteArray := prog_11_method_8_code
def yX9_see : MethodName := ⟨RX9, "see", "(I)I"⟩
abbrev cX9_read : ByteArray := prog_11_method_9_code
def yX9_read : MethodName := ⟨RX9, "read", "(I)I"⟩
abbrev cX9_write : ByteArray := prog_11_method_10_code
def yX9_write : MethodName := ⟨RX9, "write", "(II)V"⟩
abbrev cX9_wordAt : ByteArray := prog_11_method_11_code
def yX9_wordAt : MethodName := ⟨RX9, "wordAt", "(I)I"⟩
abbrev cX9_zeroWord : ByteArray := prog_11_method_12_code
def yX9_zeroWord : MethodName := ⟨RX9, "zeroWord", "(I)I"⟩
abbrev cX9_push : ByteArray := prog_11_method_13_code
def yX9_push : MethodName := ⟨RX9, "push", "(I)V"⟩
abbrev cX9_pull : ByteArray := prog_11_method_14_code
def yX9_pull : MethodName := ⟨RX9, "pull", "()I"⟩
abbrev cX9_flag : ByteArray := prog_11_method_15_code
def yX9_flag : MethodName := ⟨RX9, "flag", "(IZ)V"⟩
abbrev cX9_is : ByteArray := prog_11_method_16_code
def yX9_is : MethodName := ⟨RX9, "is", "(I)Z"⟩
abbrev cX9_carry : ByteArray := prog_11_method_17_code
def yX9_carry : MethodName := ⟨RX9, "carry", "()I"⟩
abbrev cX9_tested : ByteArray := prog_11_method_18_code
def yX9_tested : MethodName := ⟨RX9, "tested", "(I)I"⟩
abbrev cX9_size : ByteArray := prog_11_method_19_code
def yX9_size : MethodName := ⟨RX9, "size", "(I)I"⟩
abbrev cX9_indexed : ByteArray := prog_11_method_20_code
def yX9_indexed : MethodName := ⟨RX9, "indexed", "(II)I"⟩
abbrev cX9_address : ByteArray := prog_11_method_21_code
def yX9_address : MethodName := ⟨RX9, "address", "(I)I"⟩
abbrev cX9_time : ByteArray := prog_11_method_22_code
def yX9_time : MethodName := ⟨RX9, "time", "(I)I"⟩
abbrev cX9_wide : ByteArray := prog_11_method_23_code
def yX9_wide : MethodName := ⟨RX9, "wide", "(I)I"⟩
abbrev cX9_narrow : ByteArray := prog_11_method_24_code
def yX9_narrow : MethodName := ⟨RX9, "narrow", "(I)I"⟩
abbrev cX9_taken : ByteArray := prog_11_method_25_code
def yX9_taken : MethodName := ⟨RX9, "taken", "(I)I"⟩
abbrev cX9_alu : ByteArray := prog_11_method_26_code
def yX9_alu : MethodName := ⟨RX9, "alu", "(I)I"⟩
abbrev cX9_compare : ByteArray := prog_11_method_27_code
def yX9_compare : MethodName := ⟨RX9, "compare", "(II)V"⟩
abbrev cX9_overflows : ByteArray := prog_11_method_28_code
def yX9_overflows : MethodName := ⟨RX9, "overflows", "(II)V"⟩
abbrev cX9_add : ByteArray := prog_11_method_29_code
def yX9_add : MethodName := ⟨RX9, "add", "(I)I"⟩
abbrev cX9_subtract : ByteArray := prog_11_method_30_code
def yX9_subtract : MethodName := ⟨RX9, "subtract", "(I)I"⟩
abbrev cX9_changed : ByteArray := prog_11_method_31_code
def yX9_changed : MethodName := ⟨RX9, "changed", "(II)I"⟩
abbrev cX9_change : ByteArray := prog_11_method_32_code
def yX9_change : MethodName := ⟨RX9, "change", "(II)I"⟩
abbrev cX9_shifts : ByteArray := prog_11_method_33_code
def yX9_shifts : MethodName := ⟨RX9, "shifts", "(I)I"⟩
abbrev cX9_loaded : ByteArray := prog_11_method_34_code
def yX9_loaded : MethodName := ⟨RX9, "loaded", "(II)I"⟩
abbrev cX9_compared : ByteArray := prog_11_method_35_code
def yX9_compared : MethodName := ⟨RX9, "compared", "(II)I"⟩
abbrev cX9_zeroed : ByteArray := prog_11_method_36_code
def yX9_zeroed : MethodName := ⟨RX9, "zeroed", "(I)I"⟩
abbrev cX9_bits : ByteArray := prog_11_method_37_code
def yX9_bits : MethodName := ⟨RX9, "bits", "(I)I"⟩
abbrev cX9_marks : ByteArray := prog_11_method_38_code
def yX9_marks : MethodName := ⟨RX9, "marks", "(ZI)I"⟩
abbrev cX9_fours : ByteArray := prog_11_method_39_code
def yX9_fours : MethodName := ⟨RX9, "fours", "(I)I"⟩
abbrev cX9_jump : ByteArray := prog_11_method_40_code
def yX9_jump : MethodName := ⟨RX9, "jump", "(ZII)I"⟩
abbrev cX9_branch : ByteArray := prog_11_method_41_code
def yX9_branch : MethodName := ⟨RX9, "branch", "(I)I"⟩
abbrev cX9_single : ByteArray := prog_11_method_42_code
def yX9_single : MethodName := ⟨RX9, "single", "(I)I"⟩
abbrev cX9_interrupt : ByteArray := prog_11_method_43_code
def yX9_interrupt : MethodName := ⟨RX9, "interrupt", "(IZ)V"⟩
abbrev cX9_calls : ByteArray := prog_11_method_44_code
def yX9_calls : MethodName := ⟨RX9, "calls", "(I)I"⟩
abbrev cX9_stacks : ByteArray := prog_11_method_45_code
def yX9_stacks : MethodName := ⟨RX9, "stacks", "(IZ)I"⟩
abbrev cX9_moved : ByteArray := prog_11_method_46_code
def yX9_moved : MethodName := ⟨RX9, "moved", "(II)I"⟩
abbrev cX9_counted : ByteArray := prog_11_method_47_code
def yX9_counted : MethodName := ⟨RX9, "counted", "(II)I"⟩
abbrev cX9_flagged : ByteArray := prog_11_method_48_code
def yX9_flagged : MethodName := ⟨RX9, "flagged", "(IZ)I"⟩
abbrev cX9_eights : ByteArray := prog_11_method_49_code
def yX9_eights : MethodName := ⟨RX9, "eights", "(I)I"⟩
abbrev cX9_tens : ByteArray := prog_11_method_50_code
def yX9_tens : MethodName := ⟨RX9, "tens", "(I)I"⟩
abbrev cX9_halts : ByteArray := prog_11_method_51_code
def yX9_halts : MethodName := ⟨RX9, "halts", "(I)I"⟩
abbrev cX9_instruction : ByteArray := prog_11_method_52_code
def yX9_instruction : MethodName := ⟨RX9, "instruction", "()I"⟩
abbrev cX9_clock : ByteArray := prog_11_method_53_code
def yX9_clock : MethodName := ⟨RX9, "clock", "()V"⟩
abbrev cX9_taken2 : ByteArray := prog_11_method_54_code
def yX9_taken2 : MethodName := ⟨RX9, "taken2", "(I)I"⟩
abbrev cX9_once : ByteArray := prog_11_method_55_code
def yX9_once : MethodName := ⟨RX9, "once", "()I"⟩
abbrev cX9_step : ByteArray := prog_11_method_56_code
def yX9_step : MethodName := ⟨RX9, "step", "()I"⟩
abbrev cX9_find : ByteArray := prog_11_method_57_code
def yX9_find : MethodName := ⟨RX9, "find", "(I)I"⟩
abbrev cX9_run : ByteArray := prog_11_method_58_code
def yX9_run : MethodName := ⟨RX9, "run", "(I)I"⟩
abbrev cX9_load : ByteArray := prog_11_method_59_code
def yX9_load : MethodName := ⟨RX9, "load", "(IJI)V"⟩
abbrev cX9_reset : ByteArray := prog_11_method_60_code
def yX9_reset : MethodName := ⟨RX9, "reset", "()V"⟩
abbrev cX9_nmi : ByteArray := prog_11_method_61_code
def yX9_nmi : MethodName := ⟨RX9, "nmi", "()V"⟩
abbrev cX9_receive : ByteArray := prog_11_method_62_code
def yX9_receive : MethodName := ⟨RX9, "receive", "(I)I"⟩
abbrev cX9_sent : ByteArray := prog_11_method_63_code
def yX9_sent : MethodName := ⟨RX9, "sent", "(I)I"⟩
abbrev cX9_look : ByteArray := prog_11_method_64_code
def yX9_look : MethodName := ⟨RX9, "look", "(I)I"⟩
abbrev cX9_register : ByteArray := prog_11_method_65_code
def yX9_register : MethodName := ⟨RX9, "register", "(I)I"⟩
abbrev cX9_set : ByteArray := prog_11_method_66_code
def yX9_set : MethodName := ⟨RX9, "set", "(II)V"⟩
abbrev cX9_setBreak : ByteArray := prog_11_method_67_code
def yX9_setBreak : MethodName := ⟨RX9, "setBreak", "(I)Z"⟩
abbrev cX9_clearBreak : ByteArray := prog_11_method_68_code
def yX9_clearBreak : MethodName := ⟨RX9, "clearBreak", "(I)Z"⟩
abbrev cX9_trace : ByteArray := prog_11_method_69_code
def yX9_trace : MethodName := ⟨RX9, "trace", "(I)I"⟩
abbrev cX9_count : ByteArray := prog_11_method_70_code
def yX9_count : MethodName := ⟨RX9, "count", "(I)J"⟩
def RJ9 : String := "java/lang/Math"
def TJ9 : u_T := fun k => match k with
  | _ => ("", "", "", false)
def tyJ9 : Nat → FieldType := fun k => match k with
  | _ => .int
abbrev wsJ90 : List Cond := u_ws RJ9 TJ9 0
theorem nmJ9 : ∀ a, a < 0 → ∀ b, b < 0 → a ≠ b → (TJ9 a).2.1 ≠ (TJ9 b).2.1 := by decide +kernel
theorem tyJ9_ok : ∀ k, k < 0 → parseFieldDescriptor (TJ9 k).2.2.1 = some (tyJ9 k) := by decide +kernel
abbrev cJ9_min_7cf53 : ByteArray := prog_14_method_69_code
def yJ9_min_7cf53 : MethodName := ⟨RJ9, "min", "(II)I"⟩
def RJ0 : String := "java/lang/String"
def TJ0 : u_T := fun k => match k with
  | _ => ("", "", "", false)
def tyJ0 : Nat → FieldType := fun k => match k with
  | _ => .int
abbrev wsJ00 : List Cond := u_ws RJ0 TJ0 0
theorem nmJ0 : ∀ a, a < 0 → ∀ b, b < 0 → a ≠ b → (TJ0 a).2.1 ≠ (TJ0 b).2.1 := by decide +kernel
theorem tyJ0_ok : ∀ k, k < 0 → parseFieldDescriptor (TJ0 k).2.2.1 = some (tyJ0 k) := by decide +kernel
def RL : String := "BoardMachineLaw"
abbrev cL_load : ByteArray := method_3_code
def yL_load : MethodName := ⟨RL, "load", "(LBoardMachine;IJI)I"⟩
abbrev cL_run : ByteArray := method_4_code
def yL_run : MethodName := ⟨RL, "run", "(LBoardMachine;I[J)I"⟩
abbrev cL_look : ByteArray := method_5_code
def yL_look : MethodName := ⟨RL, "look", "(LBoardMachine;I[J)I"⟩
abbrev cL_set : ByteArray := method_6_code
def yL_set : MethodName := ⟨RL, "set", "(LBoardMachine;II)I"⟩
abbrev cL_law : ByteArray := code
def yL_law : MethodName := ⟨RL, "law", "([I)Z"⟩
abbrev vwCl : List vw_C := [(RX0, TX0, 4), (RX1, TX1, 2), (RX3, TX3, 1), (RX4, TX4, 6), (RX5, TX5, 15), (RX6, TX6, 9), (RX7, TX7, 2), (RX8, TX8, 3), (RX9, TX9, 33)]
end
section
theorem dX0_init_0 : decode cX0_init 0 = .ok (.aload_n 0, 1) := by decide +kernel
theorem dX0_init_1 : decode cX0_init 1 = .ok (.invokespecial 5, 3) := by decide +kernel
theorem dX0_init_4 : decode cX0_init 4 = .ok (.aload_n 0, 1) := by decide +kernel
theorem dX0_init_5 : decode cX0_init 5 = .ok (.new 11, 3) := by decide +kernel
theorem dX0_init_8 : decode cX0_init 8 = .ok (.dup, 1) := by decide +kernel
theorem dX0_init_9 : decode cX0_init 9 = .ok (.invokespecial 13, 3) := by decide +kernel
theorem dX0_init_12 : decode cX0_init 12 = .ok (.putfield 14, 3) := by decide +kernel
theorem dX0_init_15 : decode cX0_init 15 = .ok (.aload_n 0, 1) := by decide +kernel
theorem dX0_init_16 : decode cX0_init 16 = .ok (.new 18, 3) := by decide +kernel
theorem dX0_init_19 : decode cX0_init 19 = .ok (.dup, 1) := by decide +kernel
theorem dX0_init_20 : decode cX0_init 20 = .ok (.invokespecial 20, 3) := by decide +kernel
theorem dX0_init_23 : decode cX0_init 23 = .ok (.putfield 21, 3) := by decide +kernel
theorem dX0_init_26 : decode cX0_init 26 = .ok (.aload_n 0, 1) := by decide +kernel
theorem dX0_init_27 : decode cX0_init 27 = .ok (.new 25, 3) := by decide +kernel
theorem dX0_init_30 : decode cX0_init 30 = .ok (.dup, 1) := by decide +kernel
theorem dX0_init_31 : decode cX0_init 31 = .ok (.ldc 27, 2) := by decide +kernel
theorem dX0_init_33 : decode cX0_init 33 = .ok (.invokespecial 28, 3) := by decide +kernel
theorem dX0_init_36 : decode cX0_init 36 = .ok (.putfield 31, 3) := by decide +kernel
theorem dX0_init_39 : decode cX0_init 39 = .ok (.return_, 1) := by decide +kernel
theorem dX0_restart_0 : decode cX0_restart 0 = .ok (.aload_n 0, 1) := by decide +kernel
theorem dX0_restart_1 : decode cX0_restart 1 = .ok (.iconst 0, 1) := by decide +kernel
theorem dX0_restart_2 : decode cX0_restart 2 = .ok (.putfield 35, 3) := by decide +kernel
theorem dX0_restart_5 : decode cX0_restart 5 = .ok (.aload_n 0, 1) := by decide +kernel
theorem dX0_restart_6 : decode cX0_restart 6 = .ok (.getfield 14, 3) := by decide +kernel
theorem dX0_restart_9 : decode cX0_restart 9 = .ok (.invokevirtual 39, 3) := by decide +kernel
theorem dX0_restart_12 : decode cX0_restart 12 = .ok (.aload_n 0, 1) := by decide +kernel
theorem dX0_restart_13 : decode cX0_restart 13 = .ok (.getfield 21, 3) := by decide +kernel
theorem dX0_restart_16 : decode cX0_restart 16 = .ok (.invokevirtual 42, 3) := by decide +kernel
theorem dX0_restart_19 : decode cX0_restart 19 = .ok (.return_, 1) := by decide +kernel
theorem dX0_asks_0 : decode cX0_asks 0 = .ok (.aload_n 0, 1) := by decide +kernel
theorem dX0_asks_1 : decode cX0_asks 1 = .ok (.getfield 14, 3) := by decide +kernel
theorem dX0_asks_4 : decode cX0_asks 4 = .ok (.invokevirtual 43, 3) := by decide +kernel
theorem dX0_asks_7 : decode cX0_asks 7 = .ok (.ifCond .ne 13, 3) := by decide +kernel
theorem dX0_asks_10 : decode cX0_asks 10 = .ok (.aload_n 0, 1) := by decide +kernel
theorem dX0_asks_11 : decode cX0_asks 11 = .ok (.getfield 21, 3) := by decide +kernel
theorem dX0_asks_14 : decode cX0_asks 14 = .ok (.invokevirtual 47, 3) := by decide +kernel
theorem dX0_asks_17 : decode cX0_asks 17 = .ok (.ifCond .eq 7, 3) := by decide +kernel
theorem dX0_asks_20 : decode cX0_asks 20 = .ok (.iconst 1, 1) := by decide +kernel
theorem dX0_asks_21 : decode cX0_asks 21 = .ok (.goto 4, 3) := by decide +kernel
theorem dX0_asks_24 : decode cX0_asks 24 = .ok (.iconst 0, 1) := by decide +kernel
theorem dX0_asks_25 : decode cX0_asks 25 = .ok (.ireturn, 1) := by decide +kernel
theorem dX0_read_0 : decode cX0_read 0 = .ok (.iload_n 1, 1) := by decide +kernel
theorem dX0_read_1 : decode cX0_read 1 = .ok (.invokestatic 48, 3) := by decide +kernel
theorem dX0_read_4 : decode cX0_read 4 = .ok (.ifCond .ne 16, 3) := by decide +kernel
theorem dX0_read_7 : decode cX0_read 7 = .ok (.aload_n 0, 1) := by decide +kernel
theorem dX0_read_8 : decode cX0_read 8 = .ok (.getfield 31, 3) := by decide +kernel
theorem dX0_read_11 : decode cX0_read 11 = .ok (.aload_n 0, 1) := by decide +kernel
theorem dX0_read_12 : decode cX0_read 12 = .ok (.iload_n 1, 1) := by decide +kernel
theorem dX0_read_13 : decode cX0_read 13 = .ok (.invokevirtual 52, 3) := by decide +kernel
theorem dX0_read_16 : decode cX0_read 16 = .ok (.invokevirtual 56, 3) := by decide +kernel
theorem dX0_read_19 : decode cX0_read 19 = .ok (.ireturn, 1) := by decide +kernel
theorem dX0_read_20 : decode cX0_read 20 = .ok (.aload_n 0, 1) := by decide +kernel
theorem dX0_read_21 : decode cX0_read 21 = .ok (.iload_n 1, 1) := by decide +kernel
theorem dX0_read_22 : decode cX0_read 22 = .ok (.invokevirtual 59, 3) := by decide +kernel
theorem dX0_read_25 : decode cX0_read 25 = .ok (.istore_n 2, 1) := by decide +kernel
theorem dX0_read_26 : decode cX0_read 26 = .ok (.aload_n 0, 1) := by decide +kernel
theorem dX0_read_27 : decode cX0_read 27 = .ok (.iload_n 1, 1) := by decide +kernel
theorem dX0_read_28 : decode cX0_read 28 = .ok (.invokevirtual 62, 3) := by decide +kernel
theorem dX0_read_31 : decode cX0_read 31 = .ok (.iload_n 2, 1) := by decide +kernel
theorem dX0_read_32 : decode cX0_read 32 = .ok (.ireturn, 1) := by decide +kernel
theorem dX0_peek_0 : decode cX0_peek 0 = .ok (.iload_n 1, 1) := by decide +kernel
theorem dX0_peek_1 : decode cX0_peek 1 = .ok (.invokestatic 48, 3) := by decide +kernel
theorem dX0_peek_4 : decode cX0_peek 4 = .ok (.ifCond .eq 11, 3) := by decide +kernel
theorem dX0_peek_7 : decode cX0_peek 7 = .ok (.aload_n 0, 1) := by decide +kernel
theorem dX0_peek_8 : decode cX0_peek 8 = .ok (.iload_n 1, 1) := by decide +kernel
theorem dX0_peek_9 : decode cX0_peek 9 = .ok (.invokevirtual 59, 3) := by decide +kernel
theorem dX0_peek_12 : decode cX0_peek 12 = .ok (.goto 15, 3) := by decide +kernel
theorem dX0_peek_15 : decode cX0_peek 15 = .ok (.aload_n 0, 1) := by decide +kernel
theorem dX0_peek_16 : decode cX0_peek 16 = .ok (.getfield 31, 3) := by decide +kernel
theorem dX0_peek_19 : decode cX0_peek 19 = .ok (.aload_n 0, 1) := by decide +kernel
theorem dX0_peek_20 : decode cX0_peek 20 = .ok (.iload_n 1, 1) := by decide +kernel
theorem dX0_peek_21 : decode cX0_peek 21 = .ok (.invokevirtual 52, 3) := by decide +kernel
theorem dX0_peek_24 : decode cX0_peek 24 = .ok (.invokevirtual 56, 3) := by decide +kernel
theorem dX0_peek_27 : decode cX0_peek 27 = .ok (.ireturn, 1) := by decide +kernel
theorem dX0_write_0 : decode cX0_write 0 = .ok (.iload_n 1, 1) := by decide +kernel
theorem dX0_write_1 : decode cX0_write 1 = .ok (.ldc 65, 2) := by decide +kernel
theorem dX0_write_3 : decode cX0_write 3 = .ok (.if_icmp .ge 19, 3) := by decide +kernel
theorem dX0_write_6 : decode cX0_write 6 = .ok (.aload_n 0, 1) := by decide +kernel
theorem dX0_write_7 : decode cX0_write 7 = .ok (.getfield 31, 3) := by decide +kernel
theorem dX0_write_10 : decode cX0_write 10 = .ok (.aload_n 0, 1) := by decide +kernel
theorem dX0_write_11 : decode cX0_write 11 = .ok (.iload_n 1, 1) := by decide +kernel
theorem dX0_write_12 : decode cX0_write 12 = .ok (.invokevirtual 52, 3) := by decide +kernel
theorem dX0_write_15 : decode cX0_write 15 = .ok (.iload_n 2, 1) := by decide +kernel
theorem dX0_write_16 : decode cX0_write 16 = .ok (.invokevirtual 66, 3) := by decide +kernel
theorem dX0_write_19 : decode cX0_write 19 = .ok (.goto 58, 3) := by decide +kernel
theorem dX0_write_22 : decode cX0_write 22 = .ok (.iload_n 1, 1) := by decide +kernel
theorem dX0_write_23 : decode cX0_write 23 = .ok (.ldc 70, 2) := by decide +kernel
theorem dX0_write_25 : decode cX0_write 25 = .ok (.if_icmp .ge 18, 3) := by decide +kernel
theorem dX0_write_28 : decode cX0_write 28 = .ok (.aload_n 0, 1) := by decide +kernel
theorem dX0_write_29 : decode cX0_write 29 = .ok (.getfield 14, 3) := by decide +kernel
theorem dX0_write_32 : decode cX0_write 32 = .ok (.iload_n 1, 1) := by decide +kernel
theorem dX0_write_33 : decode cX0_write 33 = .ok (.ldc 65, 2) := by decide +kernel
theorem dX0_write_35 : decode cX0_write 35 = .ok (.isub, 1) := by decide +kernel
theorem dX0_write_36 : decode cX0_write 36 = .ok (.iload_n 2, 1) := by decide +kernel
theorem dX0_write_37 : decode cX0_write 37 = .ok (.invokevirtual 71, 3) := by decide +kernel
theorem dX0_write_40 : decode cX0_write 40 = .ok (.goto 37, 3) := by decide +kernel
theorem dX0_write_43 : decode cX0_write 43 = .ok (.iload_n 1, 1) := by decide +kernel
theorem dX0_write_44 : decode cX0_write 44 = .ok (.ldc 74, 2) := by decide +kernel
theorem dX0_write_46 : decode cX0_write 46 = .ok (.if_icmp .ge 18, 3) := by decide +kernel
theorem dX0_write_49 : decode cX0_write 49 = .ok (.aload_n 0, 1) := by decide +kernel
theorem dX0_write_50 : decode cX0_write 50 = .ok (.getfield 21, 3) := by decide +kernel
theorem dX0_write_53 : decode cX0_write 53 = .ok (.iload_n 1, 1) := by decide +kernel
theorem dX0_write_54 : decode cX0_write 54 = .ok (.ldc 70, 2) := by decide +kernel
theorem dX0_write_56 : decode cX0_write 56 = .ok (.isub, 1) := by decide +kernel
theorem dX0_write_57 : decode cX0_write 57 = .ok (.iload_n 2, 1) := by decide +kernel
theorem dX0_write_58 : decode cX0_write 58 = .ok (.invokevirtual 75, 3) := by decide +kernel
theorem dX0_write_61 : decode cX0_write 61 = .ok (.goto 16, 3) := by decide +kernel
theorem dX0_write_64 : decode cX0_write 64 = .ok (.iload_n 1, 1) := by decide +kernel
theorem dX0_write_65 : decode cX0_write 65 = .ok (.ldc 76, 2) := by decide +kernel
theorem dX0_write_67 : decode cX0_write 67 = .ok (.if_icmp .ne 10, 3) := by decide +kernel
theorem dX0_write_70 : decode cX0_write 70 = .ok (.aload_n 0, 1) := by decide +kernel
theorem dX0_write_71 : decode cX0_write 71 = .ok (.iload_n 2, 1) := by decide +kernel
theorem dX0_write_72 : decode cX0_write 72 = .ok (.iconst 3, 1) := by decide +kernel
theorem dX0_write_73 : decode cX0_write 73 = .ok (.iand, 1) := by decide +kernel
theorem dX0_write_74 : decode cX0_write 74 = .ok (.putfield 35, 3) := by decide +kernel
theorem dX0_write_77 : decode cX0_write 77 = .ok (.return_, 1) := by decide +kernel
theorem dX0_place_0 : decode cX0_place 0 = .ok (.iload_n 1, 1) := by decide +kernel
theorem dX0_place_1 : decode cX0_place 1 = .ok (.invokestatic 48, 3) := by decide +kernel
theorem dX0_place_4 : decode cX0_place 4 = .ok (.ifCond .ne 16, 3) := by decide +kernel
theorem dX0_place_7 : decode cX0_place 7 = .ok (.aload_n 0, 1) := by decide +kernel
theorem dX0_place_8 : decode cX0_place 8 = .ok (.getfield 31, 3) := by decide +kernel
theorem dX0_place_11 : decode cX0_place 11 = .ok (.aload_n 0, 1) := by decide +kernel
theorem dX0_place_12 : decode cX0_place 12 = .ok (.iload_n 1, 1) := by decide +kernel
theorem dX0_place_13 : decode cX0_place 13 = .ok (.invokevirtual 52, 3) := by decide +kernel
theorem dX0_place_16 : decode cX0_place 16 = .ok (.iload_n 2, 1) := by decide +kernel
theorem dX0_place_17 : decode cX0_place 17 = .ok (.invokevirtual 66, 3) := by decide +kernel
theorem dX0_place_20 : decode cX0_place 20 = .ok (.return_, 1) := by decide +kernel
theorem dX0_peekDevice_0 : decode cX0_peekDevice 0 = .ok (.iload_n 1, 1) := by decide +kernel
theorem dX0_peekDevice_1 : decode cX0_peekDevice 1 = .ok (.ldc 70, 2) := by decide +kernel
theorem dX0_peekDevice_3 : decode cX0_peekDevice 3 = .ok (.if_icmp .ge 15, 3) := by decide +kernel
theorem dX0_peekDevice_6 : decode cX0_peekDevice 6 = .ok (.aload_n 0, 1) := by decide +kernel
theorem dX0_peekDevice_7 : decode cX0_peekDevice 7 = .ok (.getfield 14, 3) := by decide +kernel
theorem dX0_peekDevice_10 : decode cX0_peekDevice 10 = .ok (.iload_n 1, 1) := by decide +kernel
theorem dX0_peekDevice_11 : decode cX0_peekDevice 11 = .ok (.ldc 65, 2) := by decide +kernel
theorem dX0_peekDevice_13 : decode cX0_peekDevice 13 = .ok (.isub, 1) := by decide +kernel
theorem dX0_peekDevice_14 : decode cX0_peekDevice 14 = .ok (.invokevirtual 77, 3) := by decide +kernel
theorem dX0_peekDevice_17 : decode cX0_peekDevice 17 = .ok (.ireturn, 1) := by decide +kernel
theorem dX0_peekDevice_18 : decode cX0_peekDevice 18 = .ok (.iload_n 1, 1) := by decide +kernel
theorem dX0_peekDevice_19 : decode cX0_peekDevice 19 = .ok (.ldc 74, 2) := by decide +kernel
theorem dX0_peekDevice_21 : decode cX0_peekDevice 21 = .ok (.if_icmp .ge 15, 3) := by decide +kernel
theorem dX0_peekDevice_24 : decode cX0_peekDevice 24 = .ok (.aload_n 0, 1) := by decide +kernel
theorem dX0_peekDevice_25 : decode cX0_peekDevice 25 = .ok (.getfield 21, 3) := by decide +kernel
theorem dX0_peekDevice_28 : decode cX0_peekDevice 28 = .ok (.iload_n 1, 1) := by decide +kernel
theorem dX0_peekDevice_29 : decode cX0_peekDevice 29 = .ok (.ldc 70, 2) := by decide +kernel
theorem dX0_peekDevice_31 : decode cX0_peekDevice 31 = .ok (.isub, 1) := by decide +kernel
theorem dX0_peekDevice_32 : decode cX0_peekDevice 32 = .ok (.invokevirtual 80, 3) := by decide +kernel
theorem dX0_peekDevice_35 : decode cX0_peekDevice 35 = .ok (.ireturn, 1) := by decide +kernel
theorem dX0_peekDevice_36 : decode cX0_peekDevice 36 = .ok (.iload_n 1, 1) := by decide +kernel
theorem dX0_peekDevice_37 : decode cX0_peekDevice 37 = .ok (.ldc 76, 2) := by decide +kernel
theorem dX0_peekDevice_39 : decode cX0_peekDevice 39 = .ok (.if_icmp .ne 10, 3) := by decide +kernel
theorem dX0_peekDevice_42 : decode cX0_peekDevice 42 = .ok (.aload_n 0, 1) := by decide +kernel
theorem dX0_peekDevice_43 : decode cX0_peekDevice 43 = .ok (.getfield 35, 3) := by decide +kernel
theorem dX0_peekDevice_46 : decode cX0_peekDevice 46 = .ok (.goto 4, 3) := by decide +kernel
theorem dX0_peekDevice_49 : decode cX0_peekDevice 49 = .ok (.iconst 0, 1) := by decide +kernel
theorem dX0_peekDevice_50 : decode cX0_peekDevice 50 = .ok (.ireturn, 1) := by decide +kernel
theorem dX0_afterReading_0 : decode cX0_afterReading 0 = .ok (.iload_n 1, 1) := by decide +kernel
theorem dX0_afterReading_1 : decode cX0_afterReading 1 = .ok (.ldc 70, 2) := by decide +kernel
theorem dX0_afterReading_3 : decode cX0_afterReading 3 = .ok (.if_icmp .ge 17, 3) := by decide +kernel
theorem dX0_afterReading_6 : decode cX0_afterReading 6 = .ok (.aload_n 0, 1) := by decide +kernel
theorem dX0_afterReading_7 : decode cX0_afterReading 7 = .ok (.getfield 14, 3) := by decide +kernel
theorem dX0_afterReading_10 : decode cX0_afterReading 10 = .ok (.iload_n 1, 1) := by decide +kernel
theorem dX0_afterReading_11 : decode cX0_afterReading 11 = .ok (.ldc 65, 2) := by decide +kernel
theorem dX0_afterReading_13 : decode cX0_afterReading 13 = .ok (.isub, 1) := by decide +kernel
theorem dX0_afterReading_14 : decode cX0_afterReading 14 = .ok (.invokevirtual 81, 3) := by decide +kernel
theorem dX0_afterReading_17 : decode cX0_afterReading 17 = .ok (.goto 20, 3) := by decide +kernel
theorem dX0_afterReading_20 : decode cX0_afterReading 20 = .ok (.iload_n 1, 1) := by decide +kernel
theorem dX0_afterReading_21 : decode cX0_afterReading 21 = .ok (.ldc 74, 2) := by decide +kernel
theorem dX0_afterReading_23 : decode cX0_afterReading 23 = .ok (.if_icmp .ge 14, 3) := by decide +kernel
theorem dX0_afterReading_26 : decode cX0_afterReading 26 = .ok (.aload_n 0, 1) := by decide +kernel
theorem dX0_afterReading_27 : decode cX0_afterReading 27 = .ok (.getfield 21, 3) := by decide +kernel
theorem dX0_afterReading_30 : decode cX0_afterReading 30 = .ok (.iload_n 1, 1) := by decide +kernel
theorem dX0_afterReading_31 : decode cX0_afterReading 31 = .ok (.ldc 70, 2) := by decide +kernel
theorem dX0_afterReading_33 : decode cX0_afterReading 33 = .ok (.isub, 1) := by decide +kernel
theorem dX0_afterReading_34 : decode cX0_afterReading 34 = .ok (.invokevirtual 82, 3) := by decide +kernel
theorem dX0_afterReading_37 : decode cX0_afterReading 37 = .ok (.return_, 1) := by decide +kernel
theorem dX0_cell_0 : decode cX0_cell 0 = .ok (.iload_n 1, 1) := by decide +kernel
theorem dX0_cell_1 : decode cX0_cell 1 = .ok (.ldc 83, 2) := by decide +kernel
theorem dX0_cell_3 : decode cX0_cell 3 = .ok (.if_icmp .ge 5, 3) := by decide +kernel
theorem dX0_cell_6 : decode cX0_cell 6 = .ok (.iload_n 1, 1) := by decide +kernel
theorem dX0_cell_7 : decode cX0_cell 7 = .ok (.ireturn, 1) := by decide +kernel
theorem dX0_cell_8 : decode cX0_cell 8 = .ok (.iload_n 1, 1) := by decide +kernel
theorem dX0_cell_9 : decode cX0_cell 9 = .ok (.ldc 65, 2) := by decide +kernel
theorem dX0_cell_11 : decode cX0_cell 11 = .ok (.if_icmp .ge 16, 3) := by decide +kernel
theorem dX0_cell_14 : decode cX0_cell 14 = .ok (.iload_n 1, 1) := by decide +kernel
theorem dX0_cell_15 : decode cX0_cell 15 = .ok (.aload_n 0, 1) := by decide +kernel
theorem dX0_cell_16 : decode cX0_cell 16 = .ok (.getfield 35, 3) := by decide +kernel
theorem dX0_cell_19 : decode cX0_cell 19 = .ok (.sipush 8192, 3) := by decide +kernel
theorem dX0_cell_22 : decode cX0_cell 22 = .ok (.imul, 1) := by decide +kernel
theorem dX0_cell_23 : decode cX0_cell 23 = .ok (.iadd, 1) := by decide +kernel
theorem dX0_cell_24 : decode cX0_cell 24 = .ok (.goto 10, 3) := by decide +kernel
theorem dX0_cell_27 : decode cX0_cell 27 = .ok (.iload_n 1, 1) := by decide +kernel
theorem dX0_cell_28 : decode cX0_cell 28 = .ok (.ldc 84, 2) := by decide +kernel
theorem dX0_cell_30 : decode cX0_cell 30 = .ok (.isub, 1) := by decide +kernel
theorem dX0_cell_31 : decode cX0_cell 31 = .ok (.ldc 85, 2) := by decide +kernel
theorem dX0_cell_33 : decode cX0_cell 33 = .ok (.iadd, 1) := by decide +kernel
theorem dX0_cell_34 : decode cX0_cell 34 = .ok (.ireturn, 1) := by decide +kernel
theorem dX0_isDevice_0 : decode cX0_isDevice 0 = .ok (.iload_n 0, 1) := by decide +kernel
theorem dX0_isDevice_1 : decode cX0_isDevice 1 = .ok (.ldc 65, 2) := by decide +kernel
theorem dX0_isDevice_3 : decode cX0_isDevice 3 = .ok (.if_icmp .lt 13, 3) := by decide +kernel
theorem dX0_isDevice_6 : decode cX0_isDevice 6 = .ok (.iload_n 0, 1) := by decide +kernel
theorem dX0_isDevice_7 : decode cX0_isDevice 7 = .ok (.ldc 84, 2) := by decide +kernel
theorem dX0_isDevice_9 : decode cX0_isDevice 9 = .ok (.if_icmp .ge 7, 3) := by decide +kernel
theorem dX0_isDevice_12 : decode cX0_isDevice 12 = .ok (.iconst 1, 1) := by decide +kernel
theorem dX0_isDevice_13 : decode cX0_isDevice 13 = .ok (.goto 4, 3) := by decide +kernel
theorem dX0_isDevice_16 : decode cX0_isDevice 16 = .ok (.iconst 0, 1) := by decide +kernel
theorem dX0_isDevice_17 : decode cX0_isDevice 17 = .ok (.ireturn, 1) := by decide +kernel
theorem dX1_init_0 : decode cX1_init 0 = .ok (.aload_n 0, 1) := by decide +kernel
theorem dX1_init_1 : decode cX1_init 1 = .ok (.invokespecial 3, 3) := by decide +kernel
theorem dX1_init_4 : decode cX1_init 4 = .ok (.aload_n 0, 1) := by decide +kernel
theorem dX1_init_5 : decode cX1_init 5 = .ok (.bipush 16, 2) := by decide +kernel
theorem dX1_init_7 : decode cX1_init 7 = .ok (.newarray .int, 2) := by decide +kernel
theorem dX1_init_9 : decode cX1_init 9 = .ok (.putfield 11, 3) := by decide +kernel
theorem dX1_init_12 : decode cX1_init 12 = .ok (.return_, 1) := by decide +kernel
theorem dX1_has_0 : decode cX1_has 0 = .ok (.aload_n 0, 1) := by decide +kernel
theorem dX1_has_1 : decode cX1_has 1 = .ok (.iload_n 1, 1) := by decide +kernel
theorem dX1_has_2 : decode cX1_has 2 = .ok (.invokevirtual 15, 3) := by decide +kernel
theorem dX1_has_5 : decode cX1_has 5 = .ok (.iconst (-1), 1) := by decide +kernel
theorem dX1_has_6 : decode cX1_has 6 = .ok (.if_icmp .eq 7, 3) := by decide +kernel
theorem dX1_has_9 : decode cX1_has 9 = .ok (.iconst 1, 1) := by decide +kernel
theorem dX1_has_10 : decode cX1_has 10 = .ok (.goto 4, 3) := by decide +kernel
theorem dX1_has_13 : decode cX1_has 13 = .ok (.iconst 0, 1) := by decide +kernel
theorem dX1_has_14 : decode cX1_has 14 = .ok (.ireturn, 1) := by decide +kernel
theorem dX1_add_0 : decode cX1_add 0 = .ok (.aload_n 0, 1) := by decide +kernel
theorem dX1_add_1 : decode cX1_add 1 = .ok (.getfield 19, 3) := by decide +kernel
theorem dX1_add_4 : decode cX1_add 4 = .ok (.bipush 16, 2) := by decide +kernel
theorem dX1_add_6 : decode cX1_add 6 = .ok (.if_icmp .eq 11, 3) := by decide +kernel
theorem dX1_add_9 : decode cX1_add 9 = .ok (.aload_n 0, 1) := by decide +kernel
theorem dX1_add_10 : decode cX1_add 10 = .ok (.iload_n 1, 1) := by decide +kernel
theorem dX1_add_11 : decode cX1_add 11 = .ok (.invokevirtual 23, 3) := by decide +kernel
theorem dX1_add_14 : decode cX1_add 14 = .ok (.ifCond .eq 5, 3) := by decide +kernel
theorem dX1_add_17 : decode cX1_add 17 = .ok (.iconst 0, 1) := by decide +kernel
theorem dX1_add_18 : decode cX1_add 18 = .ok (.ireturn, 1) := by decide +kernel
theorem dX1_add_19 : decode cX1_add 19 = .ok (.aload_n 0, 1) := by decide +kernel
theorem dX1_add_20 : decode cX1_add 20 = .ok (.getfield 11, 3) := by decide +kernel
theorem dX1_add_23 : decode cX1_add 23 = .ok (.aload_n 0, 1) := by decide +kernel
theorem dX1_add_24 : decode cX1_add 24 = .ok (.getfield 19, 3) := by decide +kernel
theorem dX1_add_27 : decode cX1_add 27 = .ok (.iload_n 1, 1) := by decide +kernel
theorem dX1_add_28 : decode cX1_add 28 = .ok (.iastore, 1) := by decide +kernel
theorem dX1_add_29 : decode cX1_add 29 = .ok (.aload_n 0, 1) := by decide +kernel
theorem dX1_add_30 : decode cX1_add 30 = .ok (.dup, 1) := by decide +kernel
theorem dX1_add_31 : decode cX1_add 31 = .ok (.getfield 19, 3) := by decide +kernel
theorem dX1_add_34 : decode cX1_add 34 = .ok (.iconst 1, 1) := by decide +kernel
theorem dX1_add_35 : decode cX1_add 35 = .ok (.iadd, 1) := by decide +kernel
theorem dX1_add_36 : decode cX1_add 36 = .ok (.putfield 19, 3) := by decide +kernel
theorem dX1_add_39 : decode cX1_add 39 = .ok (.iconst 1, 1) := by decide +kernel
theorem dX1_add_40 : decode cX1_add 40 = .ok (.ireturn, 1) := by decide +kernel
theorem dX1_remove_0 : decode cX1_remove 0 = .ok (.aload_n 0, 1) := by decide +kernel
theorem dX1_remove_1 : decode cX1_remove 1 = .ok (.iload_n 1, 1) := by decide +kernel
theorem dX1_remove_2 : decode cX1_remove 2 = .ok (.invokevirtual 15, 3) := by decide +kernel
theorem dX1_remove_5 : decode cX1_remove 5 = .ok (.istore_n 2, 1) := by decide +kernel
theorem dX1_remove_6 : decode cX1_remove 6 = .ok (.iload_n 2, 1) := by decide +kernel
theorem dX1_remove_7 : decode cX1_remove 7 = .ok (.iconst (-1), 1) := by decide +kernel
theorem dX1_remove_8 : decode cX1_remove 8 = .ok (.if_icmp .ne 5, 3) := by decide +kernel
theorem dX1_remove_11 : decode cX1_remove 11 = .ok (.iconst 0, 1) := by decide +kernel
theorem dX1_remove_12 : decode cX1_remove 12 = .ok (.ireturn, 1) := by decide +kernel
theorem dX1_remove_13 : decode cX1_remove 13 = .ok (.aload_n 0, 1) := by decide +kernel
theorem dX1_remove_14 : decode cX1_remove 14 = .ok (.dup, 1) := by decide +kernel
theorem dX1_remove_15 : decode cX1_remove 15 = .ok (.getfield 19, 3) := by decide +kernel
theorem dX1_remove_18 : decode cX1_remove 18 = .ok (.iconst 1, 1) := by decide +kernel
theorem dX1_remove_19 : decode cX1_remove 19 = .ok (.isub, 1) := by decide +kernel
theorem dX1_remove_20 : decode cX1_remove 20 = .ok (.putfield 19, 3) := by decide +kernel
theorem dX1_remove_23 : decode cX1_remove 23 = .ok (.aload_n 0, 1) := by decide +kernel
theorem dX1_remove_24 : decode cX1_remove 24 = .ok (.getfield 11, 3) := by decide +kernel
theorem dX1_remove_27 : decode cX1_remove 27 = .ok (.iload_n 2, 1) := by decide +kernel
theorem dX1_remove_28 : decode cX1_remove 28 = .ok (.aload_n 0, 1) := by decide +kernel
theorem dX1_remove_29 : decode cX1_remove 29 = .ok (.getfield 11, 3) := by decide +kernel
theorem dX1_remove_32 : decode cX1_remove 32 = .ok (.aload_n 0, 1) := by decide +kernel
theorem dX1_remove_33 : decode cX1_remove 33 = .ok (.getfield 19, 3) := by decide +kernel
theorem dX1_remove_36 : decode cX1_remove 36 = .ok (.iaload, 1) := by decide +kernel
theorem dX1_remove_37 : decode cX1_remove 37 = .ok (.iastore, 1) := by decide +kernel
theorem dX1_remove_38 : decode cX1_remove 38 = .ok (.iconst 1, 1) := by decide +kernel
theorem dX1_remove_39 : decode cX1_remove 39 = .ok (.ireturn, 1) := by decide +kernel
theorem dX1_find_0 : decode cX1_find 0 = .ok (.iconst 0, 1) := by decide +kernel
theorem dX1_find_1 : decode cX1_find 1 = .ok (.istore_n 2, 1) := by decide +kernel
theorem dX1_find_2 : decode cX1_find 2 = .ok (.iload_n 2, 1) := by decide +kernel
theorem dX1_find_3 : decode cX1_find 3 = .ok (.aload_n 0, 1) := by decide +kernel
theorem dX1_find_4 : decode cX1_find 4 = .ok (.getfield 19, 3) := by decide +kernel
theorem dX1_find_7 : decode cX1_find 7 = .ok (.if_icmp .ge 21, 3) := by decide +kernel
theorem dX1_find_10 : decode cX1_find 10 = .ok (.aload_n 0, 1) := by decide +kernel
theorem dX1_find_11 : decode cX1_find 11 = .ok (.getfield 11, 3) := by decide +kernel
theorem dX1_find_14 : decode cX1_find 14 = .ok (.iload_n 2, 1) := by decide +kernel
theorem dX1_find_15 : decode cX1_find 15 = .ok (.iaload, 1) := by decide +kernel
theorem dX1_find_16 : decode cX1_find 16 = .ok (.iload_n 1, 1) := by decide +kernel
theorem dX1_find_17 : decode cX1_find 17 = .ok (.if_icmp .ne 5, 3) := by decide +kernel
theorem dX1_find_20 : decode cX1_find 20 = .ok (.iload_n 2, 1) := by decide +kernel
theorem dX1_find_21 : decode cX1_find 21 = .ok (.ireturn, 1) := by decide +kernel
theorem dX1_find_22 : decode cX1_find 22 = .ok (.iinc 2 1, 3) := by decide +kernel
theorem dX1_find_25 : decode cX1_find 25 = .ok (.goto (-23), 3) := by decide +kernel
theorem dX1_find_28 : decode cX1_find 28 = .ok (.iconst (-1), 1) := by decide +kernel
theorem dX1_find_29 : decode cX1_find 29 = .ok (.ireturn, 1) := by decide +kernel
theorem dX2_paysForCrossing_0 : decode cX2_paysForCrossing 0 = .ok (.iload_n 0, 1) := by decide +kernel
theorem dX2_paysForCrossing_1 : decode cX2_paysForCrossing 1 = .ok (.iconst 4, 1) := by decide +kernel
theorem dX2_paysForCrossing_2 : decode cX2_paysForCrossing 2 = .ok (.ishr, 1) := by decide +kernel
theorem dX2_paysForCrossing_3 : decode cX2_paysForCrossing 3 = .ok (.ifCond .eq 15, 3) := by decide +kernel
theorem dX2_paysForCrossing_6 : decode cX2_paysForCrossing 6 = .ok (.iload_n 0, 1) := by decide +kernel
theorem dX2_paysForCrossing_7 : decode cX2_paysForCrossing 7 = .ok (.bipush 32, 2) := by decide +kernel
theorem dX2_paysForCrossing_9 : decode cX2_paysForCrossing 9 = .ok (.if_icmp .lt 13, 3) := by decide +kernel
theorem dX2_paysForCrossing_12 : decode cX2_paysForCrossing 12 = .ok (.iload_n 0, 1) := by decide +kernel
theorem dX2_paysForCrossing_13 : decode cX2_paysForCrossing 13 = .ok (.bipush 35, 2) := by decide +kernel
theorem dX2_paysForCrossing_15 : decode cX2_paysForCrossing 15 = .ok (.if_icmp .gt 7, 3) := by decide +kernel
theorem dX2_paysForCrossing_18 : decode cX2_paysForCrossing 18 = .ok (.iconst 1, 1) := by decide +kernel
theorem dX2_paysForCrossing_19 : decode cX2_paysForCrossing 19 = .ok (.goto 4, 3) := by decide +kernel
theorem dX2_paysForCrossing_22 : decode cX2_paysForCrossing 22 = .ok (.iconst 0, 1) := by decide +kernel
theorem dX2_paysForCrossing_23 : decode cX2_paysForCrossing 23 = .ok (.ireturn, 1) := by decide +kernel
theorem dX3_init_0 : decode cX3_init 0 = .ok (.aload_n 0, 1) := by decide +kernel
theorem dX3_init_1 : decode cX3_init 1 = .ok (.invokespecial 1, 3) := by decide +kernel
theorem dX3_init_4 : decode cX3_init 4 = .ok (.aload_n 0, 1) := by decide +kernel
theorem dX3_init_5 : decode cX3_init 5 = .ok (.iload_n 1, 1) := by decide +kernel
theorem dX3_init_6 : decode cX3_init 6 = .ok (.iconst 3, 1) := by decide +kernel
theorem dX3_init_7 : decode cX3_init 7 = .ok (.ishr, 1) := by decide +kernel
theorem dX3_init_8 : decode cX3_init 8 = .ok (.newarray .long, 2) := by decide +kernel
theorem dX3_init_10 : decode cX3_init 10 = .ok (.putfield 7, 3) := by decide +kernel
theorem dX3_init_13 : decode cX3_init 13 = .ok (.return_, 1) := by decide +kernel
theorem dX3_byteAt_0 : decode cX3_byteAt 0 = .ok (.aload_n 0, 1) := by decide +kernel
theorem dX3_byteAt_1 : decode cX3_byteAt 1 = .ok (.getfield 7, 3) := by decide +kernel
theorem dX3_byteAt_4 : decode cX3_byteAt 4 = .ok (.iload_n 1, 1) := by decide +kernel
theorem dX3_byteAt_5 : decode cX3_byteAt 5 = .ok (.iconst 3, 1) := by decide +kernel
theorem dX3_byteAt_6 : decode cX3_byteAt 6 = .ok (.ishr, 1) := by decide +kernel
theorem dX3_byteAt_7 : decode cX3_byteAt 7 = .ok (.laload, 1) := by decide +kernel
theorem dX3_byteAt_8 : decode cX3_byteAt 8 = .ok (.bipush 8, 2) := by decide +kernel
theorem dX3_byteAt_10 : decode cX3_byteAt 10 = .ok (.iload_n 1, 1) := by decide +kernel
theorem dX3_byteAt_11 : decode cX3_byteAt 11 = .ok (.bipush 7, 2) := by decide +kernel
theorem dX3_byteAt_13 : decode cX3_byteAt 13 = .ok (.iand, 1) := by decide +kernel
theorem dX3_byteAt_14 : decode cX3_byteAt 14 = .ok (.imul, 1) := by decide +kernel
theorem dX3_byteAt_15 : decode cX3_byteAt 15 = .ok (.lushr, 1) := by decide +kernel
theorem dX3_byteAt_16 : decode cX3_byteAt 16 = .ok (.l2i, 1) := by decide +kernel
theorem dX3_byteAt_17 : decode cX3_byteAt 17 = .ok (.sipush 255, 3) := by decide +kernel
theorem dX3_byteAt_20 : decode cX3_byteAt 20 = .ok (.iand, 1) := by decide +kernel
theorem dX3_byteAt_21 : decode cX3_byteAt 21 = .ok (.ireturn, 1) := by decide +kernel
theorem dX3_store_0 : decode cX3_store 0 = .ok (.bipush 8, 2) := by decide +kernel
theorem dX3_store_2 : decode cX3_store 2 = .ok (.iload_n 1, 1) := by decide +kernel
theorem dX3_store_3 : decode cX3_store 3 = .ok (.bipush 7, 2) := by decide +kernel
theorem dX3_store_5 : decode cX3_store 5 = .ok (.iand, 1) := by decide +kernel
theorem dX3_store_6 : decode cX3_store 6 = .ok (.imul, 1) := by decide +kernel
theorem dX3_store_7 : decode cX3_store 7 = .ok (.istore_n 3, 1) := by decide +kernel
theorem dX3_store_8 : decode cX3_store 8 = .ok (.aload_n 0, 1) := by decide +kernel
theorem dX3_store_9 : decode cX3_store 9 = .ok (.getfield 7, 3) := by decide +kernel
theorem dX3_store_12 : decode cX3_store 12 = .ok (.iload_n 1, 1) := by decide +kernel
theorem dX3_store_13 : decode cX3_store 13 = .ok (.iconst 3, 1) := by decide +kernel
theorem dX3_store_14 : decode cX3_store 14 = .ok (.ishr, 1) := by decide +kernel
theorem dX3_store_15 : decode cX3_store 15 = .ok (.laload, 1) := by decide +kernel
theorem dX3_store_16 : decode cX3_store 16 = .ok (.ldc2_w 13, 3) := by decide +kernel
theorem dX3_store_19 : decode cX3_store 19 = .ok (.iload_n 3, 1) := by decide +kernel
theorem dX3_store_20 : decode cX3_store 20 = .ok (.lshl, 1) := by decide +kernel
theorem dX3_store_21 : decode cX3_store 21 = .ok (.ldc2_w 15, 3) := by decide +kernel
theorem dX3_store_24 : decode cX3_store 24 = .ok (.lxor, 1) := by decide +kernel
theorem dX3_store_25 : decode cX3_store 25 = .ok (.land, 1) := by decide +kernel
theorem dX3_store_26 : decode cX3_store 26 = .ok (.lstore 4, 2) := by decide +kernel
theorem dX3_store_28 : decode cX3_store 28 = .ok (.aload_n 0, 1) := by decide +kernel
theorem dX3_store_29 : decode cX3_store 29 = .ok (.getfield 7, 3) := by decide +kernel
theorem dX3_store_32 : decode cX3_store 32 = .ok (.iload_n 1, 1) := by decide +kernel
theorem dX3_store_33 : decode cX3_store 33 = .ok (.iconst 3, 1) := by decide +kernel
theorem dX3_store_34 : decode cX3_store 34 = .ok (.ishr, 1) := by decide +kernel
theorem dX3_store_35 : decode cX3_store 35 = .ok (.lload 4, 2) := by decide +kernel
theorem dX3_store_37 : decode cX3_store 37 = .ok (.iload_n 2, 1) := by decide +kernel
theorem dX3_store_38 : decode cX3_store 38 = .ok (.i2l, 1) := by decide +kernel
theorem dX3_store_39 : decode cX3_store 39 = .ok (.iload_n 3, 1) := by decide +kernel
theorem dX3_store_40 : decode cX3_store 40 = .ok (.lshl, 1) := by decide +kernel
theorem dX3_store_41 : decode cX3_store 41 = .ok (.lor, 1) := by decide +kernel
theorem dX3_store_42 : decode cX3_store 42 = .ok (.lastore, 1) := by decide +kernel
theorem dX3_store_43 : decode cX3_store 43 = .ok (.return_, 1) := by decide +kernel
theorem dX4_init_0 : decode cX4_init 0 = .ok (.aload_n 0, 1) := by decide +kernel
theorem dX4_init_1 : decode cX4_init 1 = .ok (.invokespecial 3, 3) := by decide +kernel
theorem dX4_init_4 : decode cX4_init 4 = .ok (.aload_n 0, 1) := by decide +kernel
theorem dX4_init_5 : decode cX4_init 5 = .ok (.bipush 64, 2) := by decide +kernel
theorem dX4_init_7 : decode cX4_init 7 = .ok (.newarray .int, 2) := by decide +kernel
theorem dX4_init_9 : decode cX4_init 9 = .ok (.putfield 11, 3) := by decide +kernel
theorem dX4_init_12 : decode cX4_init 12 = .ok (.aload_n 0, 1) := by decide +kernel
theorem dX4_init_13 : decode cX4_init 13 = .ok (.sipush 256, 3) := by decide +kernel
theorem dX4_init_16 : decode cX4_init 16 = .ok (.newarray .int, 2) := by decide +kernel
theorem dX4_init_18 : decode cX4_init 18 = .ok (.putfield 15, 3) := by decide +kernel
theorem dX4_init_21 : decode cX4_init 21 = .ok (.return_, 1) := by decide +kernel
theorem dX4_restart_0 : decode cX4_restart 0 = .ok (.aload_n 0, 1) := by decide +kernel
theorem dX4_restart_1 : decode cX4_restart 1 = .ok (.iconst 0, 1) := by decide +kernel
theorem dX4_restart_2 : decode cX4_restart 2 = .ok (.putfield 18, 3) := by decide +kernel
theorem dX4_restart_5 : decode cX4_restart 5 = .ok (.aload_n 0, 1) := by decide +kernel
theorem dX4_restart_6 : decode cX4_restart 6 = .ok (.iconst 0, 1) := by decide +kernel
theorem dX4_restart_7 : decode cX4_restart 7 = .ok (.putfield 22, 3) := by decide +kernel
theorem dX4_restart_10 : decode cX4_restart 10 = .ok (.aload_n 0, 1) := by decide +kernel
theorem dX4_restart_11 : decode cX4_restart 11 = .ok (.iconst 0, 1) := by decide +kernel
theorem dX4_restart_12 : decode cX4_restart 12 = .ok (.putfield 25, 3) := by decide +kernel
theorem dX4_restart_15 : decode cX4_restart 15 = .ok (.return_, 1) := by decide +kernel
theorem dX4_accept_0 : decode cX4_accept 0 = .ok (.aload_n 0, 1) := by decide +kernel
theorem dX4_accept_1 : decode cX4_accept 1 = .ok (.getfield 18, 3) := by decide +kernel
theorem dX4_accept_4 : decode cX4_accept 4 = .ok (.bipush 64, 2) := by decide +kernel
theorem dX4_accept_6 : decode cX4_accept 6 = .ok (.if_icmp .eq 14, 3) := by decide +kernel
theorem dX4_accept_9 : decode cX4_accept 9 = .ok (.iload_n 1, 1) := by decide +kernel
theorem dX4_accept_10 : decode cX4_accept 10 = .ok (.ifCond .lt 10, 3) := by decide +kernel
theorem dX4_accept_13 : decode cX4_accept 13 = .ok (.iload_n 1, 1) := by decide +kernel
theorem dX4_accept_14 : decode cX4_accept 14 = .ok (.sipush 255, 3) := by decide +kernel
theorem dX4_accept_17 : decode cX4_accept 17 = .ok (.if_icmp .le 5, 3) := by decide +kernel
theorem dX4_accept_20 : decode cX4_accept 20 = .ok (.iconst (-1), 1) := by decide +kernel
theorem dX4_accept_21 : decode cX4_accept 21 = .ok (.ireturn, 1) := by decide +kernel
theorem dX4_accept_22 : decode cX4_accept 22 = .ok (.aload_n 0, 1) := by decide +kernel
theorem dX4_accept_23 : decode cX4_accept 23 = .ok (.getfield 11, 3) := by decide +kernel
theorem dX4_accept_26 : decode cX4_accept 26 = .ok (.aload_n 0, 1) := by decide +kernel
theorem dX4_accept_27 : decode cX4_accept 27 = .ok (.getfield 22, 3) := by decide +kernel
theorem dX4_accept_30 : decode cX4_accept 30 = .ok (.aload_n 0, 1) := by decide +kernel
theorem dX4_accept_31 : decode cX4_accept 31 = .ok (.getfield 18, 3) := by decide +kernel
theorem dX4_accept_34 : decode cX4_accept 34 = .ok (.iadd, 1) := by decide +kernel
theorem dX4_accept_35 : decode cX4_accept 35 = .ok (.bipush 63, 2) := by decide +kernel
theorem dX4_accept_37 : decode cX4_accept 37 = .ok (.iand, 1) := by decide +kernel
theorem dX4_accept_38 : decode cX4_accept 38 = .ok (.iload_n 1, 1) := by decide +kernel
theorem dX4_accept_39 : decode cX4_accept 39 = .ok (.iastore, 1) := by decide +kernel
theorem dX4_accept_40 : decode cX4_accept 40 = .ok (.aload_n 0, 1) := by decide +kernel
theorem dX4_accept_41 : decode cX4_accept 41 = .ok (.dup, 1) := by decide +kernel
theorem dX4_accept_42 : decode cX4_accept 42 = .ok (.getfield 18, 3) := by decide +kernel
theorem dX4_accept_45 : decode cX4_accept 45 = .ok (.iconst 1, 1) := by decide +kernel
theorem dX4_accept_46 : decode cX4_accept 46 = .ok (.iadd, 1) := by decide +kernel
theorem dX4_accept_47 : decode cX4_accept 47 = .ok (.putfield 18, 3) := by decide +kernel
theorem dX4_accept_50 : decode cX4_accept 50 = .ok (.aload_n 0, 1) := by decide +kernel
theorem dX4_accept_51 : decode cX4_accept 51 = .ok (.getfield 18, 3) := by decide +kernel
theorem dX4_accept_54 : decode cX4_accept 54 = .ok (.ireturn, 1) := by decide +kernel
theorem dX4_sentByte_0 : decode cX4_sentByte 0 = .ok (.iload_n 1, 1) := by decide +kernel
theorem dX4_sentByte_1 : decode cX4_sentByte 1 = .ok (.ifCond .lt 23, 3) := by decide +kernel
theorem dX4_sentByte_4 : decode cX4_sentByte 4 = .ok (.iload_n 1, 1) := by decide +kernel
theorem dX4_sentByte_5 : decode cX4_sentByte 5 = .ok (.aload_n 0, 1) := by decide +kernel
theorem dX4_sentByte_6 : decode cX4_sentByte 6 = .ok (.getfield 28, 3) := by decide +kernel
theorem dX4_sentByte_9 : decode cX4_sentByte 9 = .ok (.if_icmp .ge 15, 3) := by decide +kernel
theorem dX4_sentByte_12 : decode cX4_sentByte 12 = .ok (.iload_n 1, 1) := by decide +kernel
theorem dX4_sentByte_13 : decode cX4_sentByte 13 = .ok (.aload_n 0, 1) := by decide +kernel
theorem dX4_sentByte_14 : decode cX4_sentByte 14 = .ok (.getfield 28, 3) := by decide +kernel
theorem dX4_sentByte_17 : decode cX4_sentByte 17 = .ok (.sipush 256, 3) := by decide +kernel
theorem dX4_sentByte_20 : decode cX4_sentByte 20 = .ok (.isub, 1) := by decide +kernel
theorem dX4_sentByte_21 : decode cX4_sentByte 21 = .ok (.if_icmp .ge 5, 3) := by decide +kernel
theorem dX4_sentByte_24 : decode cX4_sentByte 24 = .ok (.iconst (-1), 1) := by decide +kernel
theorem dX4_sentByte_25 : decode cX4_sentByte 25 = .ok (.ireturn, 1) := by decide +kernel
theorem dX4_sentByte_26 : decode cX4_sentByte 26 = .ok (.aload_n 0, 1) := by decide +kernel
theorem dX4_sentByte_27 : decode cX4_sentByte 27 = .ok (.getfield 15, 3) := by decide +kernel
theorem dX4_sentByte_30 : decode cX4_sentByte 30 = .ok (.iload_n 1, 1) := by decide +kernel
theorem dX4_sentByte_31 : decode cX4_sentByte 31 = .ok (.sipush 255, 3) := by decide +kernel
theorem dX4_sentByte_34 : decode cX4_sentByte 34 = .ok (.iand, 1) := by decide +kernel
theorem dX4_sentByte_35 : decode cX4_sentByte 35 = .ok (.iaload, 1) := by decide +kernel
theorem dX4_sentByte_36 : decode cX4_sentByte 36 = .ok (.ireturn, 1) := by decide +kernel
theorem dX4_asks_0 : decode cX4_asks 0 = .ok (.aload_n 0, 1) := by decide +kernel
theorem dX4_asks_1 : decode cX4_asks 1 = .ok (.iconst 1, 1) := by decide +kernel
theorem dX4_asks_2 : decode cX4_asks 2 = .ok (.invokevirtual 31, 3) := by decide +kernel
theorem dX4_asks_5 : decode cX4_asks 5 = .ok (.sipush 128, 3) := by decide +kernel
theorem dX4_asks_8 : decode cX4_asks 8 = .ok (.iand, 1) := by decide +kernel
theorem dX4_asks_9 : decode cX4_asks 9 = .ok (.ifCond .eq 7, 3) := by decide +kernel
theorem dX4_asks_12 : decode cX4_asks 12 = .ok (.iconst 1, 1) := by decide +kernel
theorem dX4_asks_13 : decode cX4_asks 13 = .ok (.goto 4, 3) := by decide +kernel
theorem dX4_asks_16 : decode cX4_asks 16 = .ok (.iconst 0, 1) := by decide +kernel
theorem dX4_asks_17 : decode cX4_asks 17 = .ok (.ireturn, 1) := by decide +kernel
theorem dX4_peek_0 : decode cX4_peek 0 = .ok (.iload_n 1, 1) := by decide +kernel
theorem dX4_peek_1 : decode cX4_peek 1 = .ok (.lookupswitch 83 #[(0, 27), (1, 50)], 27) := by decide +kernel
theorem dX4_peek_28 : decode cX4_peek 28 = .ok (.aload_n 0, 1) := by decide +kernel
theorem dX4_peek_29 : decode cX4_peek 29 = .ok (.getfield 18, 3) := by decide +kernel
theorem dX4_peek_32 : decode cX4_peek 32 = .ok (.ifCond .le 15, 3) := by decide +kernel
theorem dX4_peek_35 : decode cX4_peek 35 = .ok (.aload_n 0, 1) := by decide +kernel
theorem dX4_peek_36 : decode cX4_peek 36 = .ok (.getfield 11, 3) := by decide +kernel
theorem dX4_peek_39 : decode cX4_peek 39 = .ok (.aload_n 0, 1) := by decide +kernel
theorem dX4_peek_40 : decode cX4_peek 40 = .ok (.getfield 22, 3) := by decide +kernel
theorem dX4_peek_43 : decode cX4_peek 43 = .ok (.iaload, 1) := by decide +kernel
theorem dX4_peek_44 : decode cX4_peek 44 = .ok (.goto 44, 3) := by decide +kernel
theorem dX4_peek_47 : decode cX4_peek 47 = .ok (.iconst 0, 1) := by decide +kernel
theorem dX4_peek_48 : decode cX4_peek 48 = .ok (.goto 40, 3) := by decide +kernel
theorem dX4_peek_51 : decode cX4_peek 51 = .ok (.aload_n 0, 1) := by decide +kernel
theorem dX4_peek_52 : decode cX4_peek 52 = .ok (.getfield 18, 3) := by decide +kernel
theorem dX4_peek_55 : decode cX4_peek 55 = .ok (.ifCond .ne 8, 3) := by decide +kernel
theorem dX4_peek_58 : decode cX4_peek 58 = .ok (.bipush 16, 2) := by decide +kernel
theorem dX4_peek_60 : decode cX4_peek 60 = .ok (.goto 28, 3) := by decide +kernel
theorem dX4_peek_63 : decode cX4_peek 63 = .ok (.aload_n 0, 1) := by decide +kernel
theorem dX4_peek_64 : decode cX4_peek 64 = .ok (.getfield 25, 3) := by decide +kernel
theorem dX4_peek_67 : decode cX4_peek 67 = .ok (.iconst 3, 1) := by decide +kernel
theorem dX4_peek_68 : decode cX4_peek 68 = .ok (.iand, 1) := by decide +kernel
theorem dX4_peek_69 : decode cX4_peek 69 = .ok (.iconst 1, 1) := by decide +kernel
theorem dX4_peek_70 : decode cX4_peek 70 = .ok (.if_icmp .ne 9, 3) := by decide +kernel
theorem dX4_peek_73 : decode cX4_peek 73 = .ok (.sipush 152, 3) := by decide +kernel
theorem dX4_peek_76 : decode cX4_peek 76 = .ok (.goto 12, 3) := by decide +kernel
theorem dX4_peek_79 : decode cX4_peek 79 = .ok (.bipush 24, 2) := by decide +kernel
theorem dX4_peek_81 : decode cX4_peek 81 = .ok (.goto 7, 3) := by decide +kernel
theorem dX4_peek_84 : decode cX4_peek 84 = .ok (.aload_n 0, 1) := by decide +kernel
theorem dX4_peek_85 : decode cX4_peek 85 = .ok (.getfield 25, 3) := by decide +kernel
theorem dX4_peek_88 : decode cX4_peek 88 = .ok (.ireturn, 1) := by decide +kernel
theorem dX4_afterReading_0 : decode cX4_afterReading 0 = .ok (.iload_n 1, 1) := by decide +kernel
theorem dX4_afterReading_1 : decode cX4_afterReading 1 = .ok (.ifCond .ne 33, 3) := by decide +kernel
theorem dX4_afterReading_4 : decode cX4_afterReading 4 = .ok (.aload_n 0, 1) := by decide +kernel
theorem dX4_afterReading_5 : decode cX4_afterReading 5 = .ok (.getfield 18, 3) := by decide +kernel
theorem dX4_afterReading_8 : decode cX4_afterReading 8 = .ok (.ifCond .le 26, 3) := by decide +kernel
theorem dX4_afterReading_11 : decode cX4_afterReading 11 = .ok (.aload_n 0, 1) := by decide +kernel
theorem dX4_afterReading_12 : decode cX4_afterReading 12 = .ok (.aload_n 0, 1) := by decide +kernel
theorem dX4_afterReading_13 : decode cX4_afterReading 13 = .ok (.getfield 22, 3) := by decide +kernel
theorem dX4_afterReading_16 : decode cX4_afterReading 16 = .ok (.iconst 1, 1) := by decide +kernel
theorem dX4_afterReading_17 : decode cX4_afterReading 17 = .ok (.iadd, 1) := by decide +kernel
theorem dX4_afterReading_18 : decode cX4_afterReading 18 = .ok (.bipush 63, 2) := by decide +kernel
theorem dX4_afterReading_20 : decode cX4_afterReading 20 = .ok (.iand, 1) := by decide +kernel
theorem dX4_afterReading_21 : decode cX4_afterReading 21 = .ok (.putfield 22, 3) := by decide +kernel
theorem dX4_afterReading_24 : decode cX4_afterReading 24 = .ok (.aload_n 0, 1) := by decide +kernel
theorem dX4_afterReading_25 : decode cX4_afterReading 25 = .ok (.dup, 1) := by decide +kernel
theorem dX4_afterReading_26 : decode cX4_afterReading 26 = .ok (.getfield 18, 3) := by decide +kernel
theorem dX4_afterReading_29 : decode cX4_afterReading 29 = .ok (.iconst 1, 1) := by decide +kernel
theorem dX4_afterReading_30 : decode cX4_afterReading 30 = .ok (.isub, 1) := by decide +kernel
theorem dX4_afterReading_31 : decode cX4_afterReading 31 = .ok (.putfield 18, 3) := by decide +kernel
theorem dX4_afterReading_34 : decode cX4_afterReading 34 = .ok (.return_, 1) := by decide +kernel
theorem dX4_write_0 : decode cX4_write 0 = .ok (.iload_n 1, 1) := by decide +kernel
theorem dX4_write_1 : decode cX4_write 1 = .ok (.lookupswitch 62 #[(0, 27), (1, 54)], 27) := by decide +kernel
theorem dX4_write_28 : decode cX4_write 28 = .ok (.aload_n 0, 1) := by decide +kernel
theorem dX4_write_29 : decode cX4_write 29 = .ok (.getfield 15, 3) := by decide +kernel
theorem dX4_write_32 : decode cX4_write 32 = .ok (.aload_n 0, 1) := by decide +kernel
theorem dX4_write_33 : decode cX4_write 33 = .ok (.getfield 28, 3) := by decide +kernel
theorem dX4_write_36 : decode cX4_write 36 = .ok (.sipush 255, 3) := by decide +kernel
theorem dX4_write_39 : decode cX4_write 39 = .ok (.iand, 1) := by decide +kernel
theorem dX4_write_40 : decode cX4_write 40 = .ok (.iload_n 2, 1) := by decide +kernel
theorem dX4_write_41 : decode cX4_write 41 = .ok (.iastore, 1) := by decide +kernel
theorem dX4_write_42 : decode cX4_write 42 = .ok (.aload_n 0, 1) := by decide +kernel
theorem dX4_write_43 : decode cX4_write 43 = .ok (.dup, 1) := by decide +kernel
theorem dX4_write_44 : decode cX4_write 44 = .ok (.getfield 28, 3) := by decide +kernel
theorem dX4_write_47 : decode cX4_write 47 = .ok (.iconst 1, 1) := by decide +kernel
theorem dX4_write_48 : decode cX4_write 48 = .ok (.iadd, 1) := by decide +kernel
theorem dX4_write_49 : decode cX4_write 49 = .ok (.putfield 28, 3) := by decide +kernel
theorem dX4_write_52 : decode cX4_write 52 = .ok (.goto 16, 3) := by decide +kernel
theorem dX4_write_55 : decode cX4_write 55 = .ok (.aload_n 0, 1) := by decide +kernel
theorem dX4_write_56 : decode cX4_write 56 = .ok (.iconst 0, 1) := by decide +kernel
theorem dX4_write_57 : decode cX4_write 57 = .ok (.putfield 25, 3) := by decide +kernel
theorem dX4_write_60 : decode cX4_write 60 = .ok (.goto 8, 3) := by decide +kernel
theorem dX4_write_63 : decode cX4_write 63 = .ok (.aload_n 0, 1) := by decide +kernel
theorem dX4_write_64 : decode cX4_write 64 = .ok (.iload_n 2, 1) := by decide +kernel
theorem dX4_write_65 : decode cX4_write 65 = .ok (.putfield 25, 3) := by decide +kernel
theorem dX4_write_68 : decode cX4_write 68 = .ok (.return_, 1) := by decide +kernel
theorem dX5_init_0 : decode cX5_init 0 = .ok (.aload_n 0, 1) := by decide +kernel
theorem dX5_init_1 : decode cX5_init 1 = .ok (.invokespecial 1, 3) := by decide +kernel
theorem dX5_init_4 : decode cX5_init 4 = .ok (.aload_n 0, 1) := by decide +kernel
theorem dX5_init_5 : decode cX5_init 5 = .ok (.bipush 48, 2) := by decide +kernel
theorem dX5_init_7 : decode cX5_init 7 = .ok (.putfield 9, 3) := by decide +kernel
theorem dX5_init_10 : decode cX5_init 10 = .ok (.aload_n 0, 1) := by decide +kernel
theorem dX5_init_11 : decode cX5_init 11 = .ok (.new 13, 3) := by decide +kernel
theorem dX5_init_14 : decode cX5_init 14 = .ok (.dup, 1) := by decide +kernel
theorem dX5_init_15 : decode cX5_init 15 = .ok (.invokespecial 15, 3) := by decide +kernel
theorem dX5_init_18 : decode cX5_init 18 = .ok (.putfield 16, 3) := by decide +kernel
theorem dX5_init_21 : decode cX5_init 21 = .ok (.aload_n 0, 1) := by decide +kernel
theorem dX5_init_22 : decode cX5_init 22 = .ok (.aload_n 1, 1) := by decide +kernel
theorem dX5_init_23 : decode cX5_init 23 = .ok (.putfield 20, 3) := by decide +kernel
theorem dX5_init_26 : decode cX5_init 26 = .ok (.return_, 1) := by decide +kernel
theorem dX5_restart_0 : decode cX5_restart 0 = .ok (.aload_n 0, 1) := by decide +kernel
theorem dX5_restart_1 : decode cX5_restart 1 = .ok (.sipush 253, 3) := by decide +kernel
theorem dX5_restart_4 : decode cX5_restart 4 = .ok (.putfield 24, 3) := by decide +kernel
theorem dX5_restart_7 : decode cX5_restart 7 = .ok (.aload_n 0, 1) := by decide +kernel
theorem dX5_restart_8 : decode cX5_restart 8 = .ok (.aload_n 0, 1) := by decide +kernel
theorem dX5_restart_9 : decode cX5_restart 9 = .ok (.getfield 9, 3) := by decide +kernel
theorem dX5_restart_12 : decode cX5_restart 12 = .ok (.bipush (-9), 2) := by decide +kernel
theorem dX5_restart_14 : decode cX5_restart 14 = .ok (.iand, 1) := by decide +kernel
theorem dX5_restart_15 : decode cX5_restart 15 = .ok (.iconst 4, 1) := by decide +kernel
theorem dX5_restart_16 : decode cX5_restart 16 = .ok (.ior, 1) := by decide +kernel
theorem dX5_restart_17 : decode cX5_restart 17 = .ok (.putfield 9, 3) := by decide +kernel
theorem dX5_restart_20 : decode cX5_restart 20 = .ok (.aload_n 0, 1) := by decide +kernel
theorem dX5_restart_21 : decode cX5_restart 21 = .ok (.aload_n 0, 1) := by decide +kernel
theorem dX5_restart_22 : decode cX5_restart 22 = .ok (.ldc 27, 2) := by decide +kernel
theorem dX5_restart_24 : decode cX5_restart 24 = .ok (.invokevirtual 28, 3) := by decide +kernel
theorem dX5_restart_27 : decode cX5_restart 27 = .ok (.putfield 32, 3) := by decide +kernel
theorem dX5_restart_30 : decode cX5_restart 30 = .ok (.aload_n 0, 1) := by decide +kernel
theorem dX5_restart_31 : decode cX5_restart 31 = .ok (.iconst 0, 1) := by decide +kernel
theorem dX5_restart_32 : decode cX5_restart 32 = .ok (.putfield 35, 3) := by decide +kernel
theorem dX5_restart_35 : decode cX5_restart 35 = .ok (.aload_n 0, 1) := by decide +kernel
theorem dX5_restart_36 : decode cX5_restart 36 = .ok (.iconst 0, 1) := by decide +kernel
theorem dX5_restart_37 : decode cX5_restart 37 = .ok (.putfield 39, 3) := by decide +kernel
theorem dX5_restart_40 : decode cX5_restart 40 = .ok (.aload_n 0, 1) := by decide +kernel
theorem dX5_restart_41 : decode cX5_restart 41 = .ok (.iconst 0, 1) := by decide +kernel
theorem dX5_restart_42 : decode cX5_restart 42 = .ok (.putfield 42, 3) := by decide +kernel
theorem dX5_restart_45 : decode cX5_restart 45 = .ok (.return_, 1) := by decide +kernel
theorem dX5_advance_0 : decode cX5_advance 0 = .ok (.aload_n 0, 1) := by decide +kernel
theorem dX5_advance_1 : decode cX5_advance 1 = .ok (.getfield 39, 3) := by decide +kernel
theorem dX5_advance_4 : decode cX5_advance 4 = .ok (.ifCond .eq 5, 3) := by decide +kernel
theorem dX5_advance_7 : decode cX5_advance 7 = .ok (.iconst 0, 1) := by decide +kernel
theorem dX5_advance_8 : decode cX5_advance 8 = .ok (.ireturn, 1) := by decide +kernel
theorem dX5_advance_9 : decode cX5_advance 9 = .ok (.aload_n 0, 1) := by decide +kernel
theorem dX5_advance_10 : decode cX5_advance 10 = .ok (.getfield 42, 3) := by decide +kernel
theorem dX5_advance_13 : decode cX5_advance 13 = .ok (.ifCond .ne 17, 3) := by decide +kernel
theorem dX5_advance_16 : decode cX5_advance 16 = .ok (.aload_n 0, 1) := by decide +kernel
theorem dX5_advance_17 : decode cX5_advance 17 = .ok (.getfield 20, 3) := by decide +kernel
theorem dX5_advance_20 : decode cX5_advance 20 = .ok (.invokevirtual 45, 3) := by decide +kernel
theorem dX5_advance_23 : decode cX5_advance 23 = .ok (.ifCond .eq 7, 3) := by decide +kernel
theorem dX5_advance_26 : decode cX5_advance 26 = .ok (.iconst 1, 1) := by decide +kernel
theorem dX5_advance_27 : decode cX5_advance 27 = .ok (.goto 4, 3) := by decide +kernel
theorem dX5_advance_30 : decode cX5_advance 30 = .ok (.iconst 0, 1) := by decide +kernel
theorem dX5_advance_31 : decode cX5_advance 31 = .ok (.istore_n 1, 1) := by decide +kernel
theorem dX5_advance_32 : decode cX5_advance 32 = .ok (.aload_n 0, 1) := by decide +kernel
theorem dX5_advance_33 : decode cX5_advance 33 = .ok (.getfield 42, 3) := by decide +kernel
theorem dX5_advance_36 : decode cX5_advance 36 = .ok (.ifCond .ne 7, 3) := by decide +kernel
theorem dX5_advance_39 : decode cX5_advance 39 = .ok (.iload_n 1, 1) := by decide +kernel
theorem dX5_advance_40 : decode cX5_advance 40 = .ok (.ifCond .eq 8, 3) := by decide +kernel
theorem dX5_advance_43 : decode cX5_advance 43 = .ok (.aload_n 0, 1) := by decide +kernel
theorem dX5_advance_44 : decode cX5_advance 44 = .ok (.iconst 0, 1) := by decide +kernel
theorem dX5_advance_45 : decode cX5_advance 45 = .ok (.putfield 35, 3) := by decide +kernel
theorem dX5_advance_48 : decode cX5_advance 48 = .ok (.aload_n 0, 1) := by decide +kernel
theorem dX5_advance_49 : decode cX5_advance 49 = .ok (.getfield 42, 3) := by decide +kernel
theorem dX5_advance_52 : decode cX5_advance 52 = .ok (.ifCond .eq 17, 3) := by decide +kernel
theorem dX5_advance_55 : decode cX5_advance 55 = .ok (.aload_n 0, 1) := by decide +kernel
theorem dX5_advance_56 : decode cX5_advance 56 = .ok (.iconst 0, 1) := by decide +kernel
theorem dX5_advance_57 : decode cX5_advance 57 = .ok (.putfield 42, 3) := by decide +kernel
theorem dX5_advance_60 : decode cX5_advance 60 = .ok (.aload_n 0, 1) := by decide +kernel
theorem dX5_advance_61 : decode cX5_advance 61 = .ok (.ldc 51, 2) := by decide +kernel
theorem dX5_advance_63 : decode cX5_advance 63 = .ok (.invokevirtual 52, 3) := by decide +kernel
theorem dX5_advance_66 : decode cX5_advance 66 = .ok (.goto 44, 3) := by decide +kernel
theorem dX5_advance_69 : decode cX5_advance 69 = .ok (.iload_n 1, 1) := by decide +kernel
theorem dX5_advance_70 : decode cX5_advance 70 = .ok (.ifCond .eq 21, 3) := by decide +kernel
theorem dX5_advance_73 : decode cX5_advance 73 = .ok (.aload_n 0, 1) := by decide +kernel
theorem dX5_advance_74 : decode cX5_advance 74 = .ok (.getfield 9, 3) := by decide +kernel
theorem dX5_advance_77 : decode cX5_advance 77 = .ok (.iconst 4, 1) := by decide +kernel
theorem dX5_advance_78 : decode cX5_advance 78 = .ok (.iand, 1) := by decide +kernel
theorem dX5_advance_79 : decode cX5_advance 79 = .ok (.ifCond .ne 12, 3) := by decide +kernel
theorem dX5_advance_82 : decode cX5_advance 82 = .ok (.aload_n 0, 1) := by decide +kernel
theorem dX5_advance_83 : decode cX5_advance 83 = .ok (.ldc 56, 2) := by decide +kernel
theorem dX5_advance_85 : decode cX5_advance 85 = .ok (.invokevirtual 52, 3) := by decide +kernel
theorem dX5_advance_88 : decode cX5_advance 88 = .ok (.goto 22, 3) := by decide +kernel
theorem dX5_advance_91 : decode cX5_advance 91 = .ok (.aload_n 0, 1) := by decide +kernel
theorem dX5_advance_92 : decode cX5_advance 92 = .ok (.getfield 35, 3) := by decide +kernel
theorem dX5_advance_95 : decode cX5_advance 95 = .ok (.ifCond .eq 11, 3) := by decide +kernel
theorem dX5_advance_98 : decode cX5_advance 98 = .ok (.aload_n 0, 1) := by decide +kernel
theorem dX5_advance_99 : decode cX5_advance 99 = .ok (.iconst 1, 1) := by decide +kernel
theorem dX5_advance_100 : decode cX5_advance 100 = .ok (.putfield 57, 3) := by decide +kernel
theorem dX5_advance_103 : decode cX5_advance 103 = .ok (.goto 7, 3) := by decide +kernel
theorem dX5_advance_106 : decode cX5_advance 106 = .ok (.aload_n 0, 1) := by decide +kernel
theorem dX5_advance_107 : decode cX5_advance 107 = .ok (.invokevirtual 60, 3) := by decide +kernel
theorem dX5_advance_110 : decode cX5_advance 110 = .ok (.aload_n 0, 1) := by decide +kernel
theorem dX5_advance_111 : decode cX5_advance 111 = .ok (.dup, 1) := by decide +kernel
theorem dX5_advance_112 : decode cX5_advance 112 = .ok (.getfield 63, 3) := by decide +kernel
theorem dX5_advance_115 : decode cX5_advance 115 = .ok (.aload_n 0, 1) := by decide +kernel
theorem dX5_advance_116 : decode cX5_advance 116 = .ok (.getfield 57, 3) := by decide +kernel
theorem dX5_advance_119 : decode cX5_advance 119 = .ok (.i2l, 1) := by decide +kernel
theorem dX5_advance_120 : decode cX5_advance 120 = .ok (.ladd, 1) := by decide +kernel
theorem dX5_advance_121 : decode cX5_advance 121 = .ok (.putfield 63, 3) := by decide +kernel
theorem dX5_advance_124 : decode cX5_advance 124 = .ok (.aload_n 0, 1) := by decide +kernel
theorem dX5_advance_125 : decode cX5_advance 125 = .ok (.getfield 20, 3) := by decide +kernel
theorem dX5_advance_128 : decode cX5_advance 128 = .ok (.getfield 67, 3) := by decide +kernel
theorem dX5_advance_131 : decode cX5_advance 131 = .ok (.aload_n 0, 1) := by decide +kernel
theorem dX5_advance_132 : decode cX5_advance 132 = .ok (.getfield 57, 3) := by decide +kernel
theorem dX5_advance_135 : decode cX5_advance 135 = .ok (.invokevirtual 71, 3) := by decide +kernel
theorem dX5_advance_138 : decode cX5_advance 138 = .ok (.aload_n 0, 1) := by decide +kernel
theorem dX5_advance_139 : decode cX5_advance 139 = .ok (.getfield 57, 3) := by decide +kernel
theorem dX5_advance_142 : decode cX5_advance 142 = .ok (.ireturn, 1) := by decide +kernel
theorem dX5_takeInterrupt_0 : decode cX5_takeInterrupt 0 = .ok (.aload_n 0, 1) := by decide +kernel
theorem dX5_takeInterrupt_1 : decode cX5_takeInterrupt 1 = .ok (.dup, 1) := by decide +kernel
theorem dX5_takeInterrupt_2 : decode cX5_takeInterrupt 2 = .ok (.getfield 76, 3) := by decide +kernel
theorem dX5_takeInterrupt_5 : decode cX5_takeInterrupt 5 = .ok (.iconst 1, 1) := by decide +kernel
theorem dX5_takeInterrupt_6 : decode cX5_takeInterrupt 6 = .ok (.iadd, 1) := by decide +kernel
theorem dX5_takeInterrupt_7 : decode cX5_takeInterrupt 7 = .ok (.putfield 76, 3) := by decide +kernel
theorem dX5_takeInterrupt_10 : decode cX5_takeInterrupt 10 = .ok (.aload_n 0, 1) := by decide +kernel
theorem dX5_takeInterrupt_11 : decode cX5_takeInterrupt 11 = .ok (.bipush 7, 2) := by decide +kernel
theorem dX5_takeInterrupt_13 : decode cX5_takeInterrupt 13 = .ok (.putfield 57, 3) := by decide +kernel
theorem dX5_takeInterrupt_16 : decode cX5_takeInterrupt 16 = .ok (.aload_n 0, 1) := by decide +kernel
theorem dX5_takeInterrupt_17 : decode cX5_takeInterrupt 17 = .ok (.iload_n 1, 1) := by decide +kernel
theorem dX5_takeInterrupt_18 : decode cX5_takeInterrupt 18 = .ok (.aload_n 0, 1) := by decide +kernel
theorem dX5_takeInterrupt_19 : decode cX5_takeInterrupt 19 = .ok (.getfield 9, 3) := by decide +kernel
theorem dX5_takeInterrupt_22 : decode cX5_takeInterrupt 22 = .ok (.bipush (-17), 2) := by decide +kernel
theorem dX5_takeInterrupt_24 : decode cX5_takeInterrupt 24 = .ok (.iand, 1) := by decide +kernel
theorem dX5_takeInterrupt_25 : decode cX5_takeInterrupt 25 = .ok (.invokevirtual 79, 3) := by decide +kernel
theorem dX5_takeInterrupt_28 : decode cX5_takeInterrupt 28 = .ok (.return_, 1) := by decide +kernel
theorem dX5_interrupt_0 : decode cX5_interrupt 0 = .ok (.aload_n 0, 1) := by decide +kernel
theorem dX5_interrupt_1 : decode cX5_interrupt 1 = .ok (.aload_n 0, 1) := by decide +kernel
theorem dX5_interrupt_2 : decode cX5_interrupt 2 = .ok (.getfield 32, 3) := by decide +kernel
theorem dX5_interrupt_5 : decode cX5_interrupt 5 = .ok (.bipush 8, 2) := by decide +kernel
theorem dX5_interrupt_7 : decode cX5_interrupt 7 = .ok (.ishr, 1) := by decide +kernel
theorem dX5_interrupt_8 : decode cX5_interrupt 8 = .ok (.invokevirtual 83, 3) := by decide +kernel
theorem dX5_interrupt_11 : decode cX5_interrupt 11 = .ok (.aload_n 0, 1) := by decide +kernel
theorem dX5_interrupt_12 : decode cX5_interrupt 12 = .ok (.aload_n 0, 1) := by decide +kernel
theorem dX5_interrupt_13 : decode cX5_interrupt 13 = .ok (.getfield 32, 3) := by decide +kernel
theorem dX5_interrupt_16 : decode cX5_interrupt 16 = .ok (.sipush 255, 3) := by decide +kernel
theorem dX5_interrupt_19 : decode cX5_interrupt 19 = .ok (.iand, 1) := by decide +kernel
theorem dX5_interrupt_20 : decode cX5_interrupt 20 = .ok (.invokevirtual 83, 3) := by decide +kernel
theorem dX5_interrupt_23 : decode cX5_interrupt 23 = .ok (.aload_n 0, 1) := by decide +kernel
theorem dX5_interrupt_24 : decode cX5_interrupt 24 = .ok (.iload_n 2, 1) := by decide +kernel
theorem dX5_interrupt_25 : decode cX5_interrupt 25 = .ok (.invokevirtual 83, 3) := by decide +kernel
theorem dX5_interrupt_28 : decode cX5_interrupt 28 = .ok (.aload_n 0, 1) := by decide +kernel
theorem dX5_interrupt_29 : decode cX5_interrupt 29 = .ok (.aload_n 0, 1) := by decide +kernel
theorem dX5_interrupt_30 : decode cX5_interrupt 30 = .ok (.getfield 9, 3) := by decide +kernel
theorem dX5_interrupt_33 : decode cX5_interrupt 33 = .ok (.bipush (-9), 2) := by decide +kernel
theorem dX5_interrupt_35 : decode cX5_interrupt 35 = .ok (.iand, 1) := by decide +kernel
theorem dX5_interrupt_36 : decode cX5_interrupt 36 = .ok (.iconst 4, 1) := by decide +kernel
theorem dX5_interrupt_37 : decode cX5_interrupt 37 = .ok (.ior, 1) := by decide +kernel
theorem dX5_interrupt_38 : decode cX5_interrupt 38 = .ok (.putfield 9, 3) := by decide +kernel
theorem dX5_interrupt_41 : decode cX5_interrupt 41 = .ok (.aload_n 0, 1) := by decide +kernel
theorem dX5_interrupt_42 : decode cX5_interrupt 42 = .ok (.aload_n 0, 1) := by decide +kernel
theorem dX5_interrupt_43 : decode cX5_interrupt 43 = .ok (.getfield 20, 3) := by decide +kernel
theorem dX5_interrupt_46 : decode cX5_interrupt 46 = .ok (.iload_n 1, 1) := by decide +kernel
theorem dX5_interrupt_47 : decode cX5_interrupt 47 = .ok (.invokevirtual 86, 3) := by decide +kernel
theorem dX5_interrupt_50 : decode cX5_interrupt 50 = .ok (.aload_n 0, 1) := by decide +kernel
theorem dX5_interrupt_51 : decode cX5_interrupt 51 = .ok (.getfield 20, 3) := by decide +kernel
theorem dX5_interrupt_54 : decode cX5_interrupt 54 = .ok (.iload_n 1, 1) := by decide +kernel
theorem dX5_interrupt_55 : decode cX5_interrupt 55 = .ok (.iconst 1, 1) := by decide +kernel
theorem dX5_interrupt_56 : decode cX5_interrupt 56 = .ok (.iadd, 1) := by decide +kernel
theorem dX5_interrupt_57 : decode cX5_interrupt 57 = .ok (.invokevirtual 86, 3) := by decide +kernel
theorem dX5_interrupt_60 : decode cX5_interrupt 60 = .ok (.bipush 8, 2) := by decide +kernel
theorem dX5_interrupt_62 : decode cX5_interrupt 62 = .ok (.ishl, 1) := by decide +kernel
theorem dX5_interrupt_63 : decode cX5_interrupt 63 = .ok (.ior, 1) := by decide +kernel
theorem dX5_interrupt_64 : decode cX5_interrupt 64 = .ok (.putfield 32, 3) := by decide +kernel
theorem dX5_interrupt_67 : decode cX5_interrupt 67 = .ok (.return_, 1) := by decide +kernel
theorem dX5_carryOut_0 : decode cX5_carryOut 0 = .ok (.aload_n 0, 1) := by decide +kernel
theorem dX5_carryOut_1 : decode cX5_carryOut 1 = .ok (.getfield 16, 3) := by decide +kernel
theorem dX5_carryOut_4 : decode cX5_carryOut 4 = .ok (.aload_n 0, 1) := by decide +kernel
theorem dX5_carryOut_5 : decode cX5_carryOut 5 = .ok (.getfield 32, 3) := by decide +kernel
theorem dX5_carryOut_8 : decode cX5_carryOut 8 = .ok (.invokevirtual 89, 3) := by decide +kernel
theorem dX5_carryOut_11 : decode cX5_carryOut 11 = .ok (.aload_n 0, 1) := by decide +kernel
theorem dX5_carryOut_12 : decode cX5_carryOut 12 = .ok (.invokevirtual 92, 3) := by decide +kernel
theorem dX5_carryOut_15 : decode cX5_carryOut 15 = .ok (.istore_n 1, 1) := by decide +kernel
theorem dX5_carryOut_16 : decode cX5_carryOut 16 = .ok (.getstatic 96, 3) := by decide +kernel
theorem dX5_carryOut_19 : decode cX5_carryOut 19 = .ok (.iload_n 1, 1) := by decide +kernel
theorem dX5_carryOut_20 : decode cX5_carryOut 20 = .ok (.iaload, 1) := by decide +kernel
theorem dX5_carryOut_21 : decode cX5_carryOut 21 = .ok (.istore_n 2, 1) := by decide +kernel
theorem dX5_carryOut_22 : decode cX5_carryOut 22 = .ok (.getstatic 102, 3) := by decide +kernel
theorem dX5_carryOut_25 : decode cX5_carryOut 25 = .ok (.iload_n 1, 1) := by decide +kernel
theorem dX5_carryOut_26 : decode cX5_carryOut 26 = .ok (.iaload, 1) := by decide +kernel
theorem dX5_carryOut_27 : decode cX5_carryOut 27 = .ok (.istore_n 3, 1) := by decide +kernel
theorem dX5_carryOut_28 : decode cX5_carryOut 28 = .ok (.iload_n 3, 1) := by decide +kernel
theorem dX5_carryOut_29 : decode cX5_carryOut 29 = .ok (.iconst 2, 1) := by decide +kernel
theorem dX5_carryOut_30 : decode cX5_carryOut 30 = .ok (.if_icmp .lt 10, 3) := by decide +kernel
theorem dX5_carryOut_33 : decode cX5_carryOut 33 = .ok (.aload_n 0, 1) := by decide +kernel
theorem dX5_carryOut_34 : decode cX5_carryOut 34 = .ok (.invokevirtual 92, 3) := by decide +kernel
theorem dX5_carryOut_37 : decode cX5_carryOut 37 = .ok (.goto 4, 3) := by decide +kernel
theorem dX5_carryOut_40 : decode cX5_carryOut 40 = .ok (.iconst 0, 1) := by decide +kernel
theorem dX5_carryOut_41 : decode cX5_carryOut 41 = .ok (.istore 4, 2) := by decide +kernel
theorem dX5_carryOut_43 : decode cX5_carryOut 43 = .ok (.iload_n 3, 1) := by decide +kernel
theorem dX5_carryOut_44 : decode cX5_carryOut 44 = .ok (.bipush 10, 2) := by decide +kernel
theorem dX5_carryOut_46 : decode cX5_carryOut 46 = .ok (.if_icmp .lt 15, 3) := by decide +kernel
theorem dX5_carryOut_49 : decode cX5_carryOut 49 = .ok (.iload 4, 2) := by decide +kernel
theorem dX5_carryOut_51 : decode cX5_carryOut 51 = .ok (.aload_n 0, 1) := by decide +kernel
theorem dX5_carryOut_52 : decode cX5_carryOut 52 = .ok (.invokevirtual 92, 3) := by decide +kernel
theorem dX5_carryOut_55 : decode cX5_carryOut 55 = .ok (.bipush 8, 2) := by decide +kernel
theorem dX5_carryOut_57 : decode cX5_carryOut 57 = .ok (.ishl, 1) := by decide +kernel
theorem dX5_carryOut_58 : decode cX5_carryOut 58 = .ok (.ior, 1) := by decide +kernel
theorem dX5_carryOut_59 : decode cX5_carryOut 59 = .ok (.istore 4, 2) := by decide +kernel
theorem dX5_carryOut_61 : decode cX5_carryOut 61 = .ok (.aload_n 0, 1) := by decide +kernel
theorem dX5_carryOut_62 : decode cX5_carryOut 62 = .ok (.iconst 0, 1) := by decide +kernel
theorem dX5_carryOut_63 : decode cX5_carryOut 63 = .ok (.putfield 105, 3) := by decide +kernel
theorem dX5_carryOut_66 : decode cX5_carryOut 66 = .ok (.aload_n 0, 1) := by decide +kernel
theorem dX5_carryOut_67 : decode cX5_carryOut 67 = .ok (.iload_n 3, 1) := by decide +kernel
theorem dX5_carryOut_68 : decode cX5_carryOut 68 = .ok (.iload 4, 2) := by decide +kernel
theorem dX5_carryOut_70 : decode cX5_carryOut 70 = .ok (.invokevirtual 108, 3) := by decide +kernel
theorem dX5_carryOut_73 : decode cX5_carryOut 73 = .ok (.istore 5, 2) := by decide +kernel
theorem dX5_carryOut_75 : decode cX5_carryOut 75 = .ok (.aload_n 0, 1) := by decide +kernel
theorem dX5_carryOut_76 : decode cX5_carryOut 76 = .ok (.getstatic 112, 3) := by decide +kernel
theorem dX5_carryOut_79 : decode cX5_carryOut 79 = .ok (.iload_n 1, 1) := by decide +kernel
theorem dX5_carryOut_80 : decode cX5_carryOut 80 = .ok (.iaload, 1) := by decide +kernel
theorem dX5_carryOut_81 : decode cX5_carryOut 81 = .ok (.putfield 57, 3) := by decide +kernel
theorem dX5_carryOut_84 : decode cX5_carryOut 84 = .ok (.aload_n 0, 1) := by decide +kernel
theorem dX5_carryOut_85 : decode cX5_carryOut 85 = .ok (.getfield 105, 3) := by decide +kernel
theorem dX5_carryOut_88 : decode cX5_carryOut 88 = .ok (.ifCond .eq 20, 3) := by decide +kernel
theorem dX5_carryOut_91 : decode cX5_carryOut 91 = .ok (.iload_n 2, 1) := by decide +kernel
theorem dX5_carryOut_92 : decode cX5_carryOut 92 = .ok (.invokestatic 115, 3) := by decide +kernel
theorem dX5_carryOut_95 : decode cX5_carryOut 95 = .ok (.ifCond .eq 13, 3) := by decide +kernel
theorem dX5_carryOut_98 : decode cX5_carryOut 98 = .ok (.aload_n 0, 1) := by decide +kernel
theorem dX5_carryOut_99 : decode cX5_carryOut 99 = .ok (.dup, 1) := by decide +kernel
theorem dX5_carryOut_100 : decode cX5_carryOut 100 = .ok (.getfield 57, 3) := by decide +kernel
theorem dX5_carryOut_103 : decode cX5_carryOut 103 = .ok (.iconst 1, 1) := by decide +kernel
theorem dX5_carryOut_104 : decode cX5_carryOut 104 = .ok (.iadd, 1) := by decide +kernel
theorem dX5_carryOut_105 : decode cX5_carryOut 105 = .ok (.putfield 57, 3) := by decide +kernel
theorem dX5_carryOut_108 : decode cX5_carryOut 108 = .ok (.iload_n 2, 1) := by decide +kernel
theorem dX5_carryOut_109 : decode cX5_carryOut 109 = .ok (.iconst 4, 1) := by decide +kernel
theorem dX5_carryOut_110 : decode cX5_carryOut 110 = .ok (.ishr, 1) := by decide +kernel
theorem dX5_carryOut_111 : decode cX5_carryOut 111 = .ok (.tableswitch 156 0 7 #[45, 72, 89, 106, 114, 122, 130, 146], 45) := by decide +kernel
theorem dX5_carryOut_156 : decode cX5_carryOut 156 = .ok (.aload_n 0, 1) := by decide +kernel
theorem dX5_carryOut_157 : decode cX5_carryOut 157 = .ok (.iload_n 2, 1) := by decide +kernel
theorem dX5_carryOut_158 : decode cX5_carryOut 158 = .ok (.iload_n 3, 1) := by decide +kernel
theorem dX5_carryOut_159 : decode cX5_carryOut 159 = .ok (.iconst 2, 1) := by decide +kernel
theorem dX5_carryOut_160 : decode cX5_carryOut 160 = .ok (.if_icmp .ne 8, 3) := by decide +kernel
theorem dX5_carryOut_163 : decode cX5_carryOut 163 = .ok (.iload 4, 2) := by decide +kernel
theorem dX5_carryOut_165 : decode cX5_carryOut 165 = .ok (.goto 12, 3) := by decide +kernel
theorem dX5_carryOut_168 : decode cX5_carryOut 168 = .ok (.aload_n 0, 1) := by decide +kernel
theorem dX5_carryOut_169 : decode cX5_carryOut 169 = .ok (.getfield 20, 3) := by decide +kernel
theorem dX5_carryOut_172 : decode cX5_carryOut 172 = .ok (.iload 5, 2) := by decide +kernel
theorem dX5_carryOut_174 : decode cX5_carryOut 174 = .ok (.invokevirtual 86, 3) := by decide +kernel
theorem dX5_carryOut_177 : decode cX5_carryOut 177 = .ok (.invokevirtual 119, 3) := by decide +kernel
theorem dX5_carryOut_180 : decode cX5_carryOut 180 = .ok (.goto 87, 3) := by decide +kernel
theorem dX5_carryOut_183 : decode cX5_carryOut 183 = .ok (.aload_n 0, 1) := by decide +kernel
theorem dX5_carryOut_184 : decode cX5_carryOut 184 = .ok (.getfield 20, 3) := by decide +kernel
theorem dX5_carryOut_187 : decode cX5_carryOut 187 = .ok (.iload 5, 2) := by decide +kernel
theorem dX5_carryOut_189 : decode cX5_carryOut 189 = .ok (.aload_n 0, 1) := by decide +kernel
theorem dX5_carryOut_190 : decode cX5_carryOut 190 = .ok (.iload_n 2, 1) := by decide +kernel
theorem dX5_carryOut_191 : decode cX5_carryOut 191 = .ok (.invokevirtual 122, 3) := by decide +kernel
theorem dX5_carryOut_194 : decode cX5_carryOut 194 = .ok (.invokevirtual 125, 3) := by decide +kernel
theorem dX5_carryOut_197 : decode cX5_carryOut 197 = .ok (.goto 70, 3) := by decide +kernel
theorem dX5_carryOut_200 : decode cX5_carryOut 200 = .ok (.aload_n 0, 1) := by decide +kernel
theorem dX5_carryOut_201 : decode cX5_carryOut 201 = .ok (.iload_n 2, 1) := by decide +kernel
theorem dX5_carryOut_202 : decode cX5_carryOut 202 = .ok (.iload_n 1, 1) := by decide +kernel
theorem dX5_carryOut_203 : decode cX5_carryOut 203 = .ok (.iconst 4, 1) := by decide +kernel
theorem dX5_carryOut_204 : decode cX5_carryOut 204 = .ok (.ishr, 1) := by decide +kernel
theorem dX5_carryOut_205 : decode cX5_carryOut 205 = .ok (.bipush 7, 2) := by decide +kernel
theorem dX5_carryOut_207 : decode cX5_carryOut 207 = .ok (.iand, 1) := by decide +kernel
theorem dX5_carryOut_208 : decode cX5_carryOut 208 = .ok (.iload_n 3, 1) := by decide +kernel
theorem dX5_carryOut_209 : decode cX5_carryOut 209 = .ok (.iload 5, 2) := by decide +kernel
theorem dX5_carryOut_211 : decode cX5_carryOut 211 = .ok (.invokevirtual 128, 3) := by decide +kernel
theorem dX5_carryOut_214 : decode cX5_carryOut 214 = .ok (.goto 53, 3) := by decide +kernel
theorem dX5_carryOut_217 : decode cX5_carryOut 217 = .ok (.aload_n 0, 1) := by decide +kernel
theorem dX5_carryOut_218 : decode cX5_carryOut 218 = .ok (.iload_n 2, 1) := by decide +kernel
theorem dX5_carryOut_219 : decode cX5_carryOut 219 = .ok (.invokevirtual 132, 3) := by decide +kernel
theorem dX5_carryOut_222 : decode cX5_carryOut 222 = .ok (.goto 45, 3) := by decide +kernel
theorem dX5_carryOut_225 : decode cX5_carryOut 225 = .ok (.aload_n 0, 1) := by decide +kernel
theorem dX5_carryOut_226 : decode cX5_carryOut 226 = .ok (.iload_n 2, 1) := by decide +kernel
theorem dX5_carryOut_227 : decode cX5_carryOut 227 = .ok (.invokevirtual 135, 3) := by decide +kernel
theorem dX5_carryOut_230 : decode cX5_carryOut 230 = .ok (.goto 37, 3) := by decide +kernel
theorem dX5_carryOut_233 : decode cX5_carryOut 233 = .ok (.aload_n 0, 1) := by decide +kernel
theorem dX5_carryOut_234 : decode cX5_carryOut 234 = .ok (.iload_n 2, 1) := by decide +kernel
theorem dX5_carryOut_235 : decode cX5_carryOut 235 = .ok (.invokevirtual 138, 3) := by decide +kernel
theorem dX5_carryOut_238 : decode cX5_carryOut 238 = .ok (.goto 29, 3) := by decide +kernel
theorem dX5_carryOut_241 : decode cX5_carryOut 241 = .ok (.aload_n 0, 1) := by decide +kernel
theorem dX5_carryOut_242 : decode cX5_carryOut 242 = .ok (.iload_n 2, 1) := by decide +kernel
theorem dX5_carryOut_243 : decode cX5_carryOut 243 = .ok (.iload_n 1, 1) := by decide +kernel
theorem dX5_carryOut_244 : decode cX5_carryOut 244 = .ok (.iconst 4, 1) := by decide +kernel
theorem dX5_carryOut_245 : decode cX5_carryOut 245 = .ok (.ishr, 1) := by decide +kernel
theorem dX5_carryOut_246 : decode cX5_carryOut 246 = .ok (.bipush 7, 2) := by decide +kernel
theorem dX5_carryOut_248 : decode cX5_carryOut 248 = .ok (.iand, 1) := by decide +kernel
theorem dX5_carryOut_249 : decode cX5_carryOut 249 = .ok (.iload 4, 2) := by decide +kernel
theorem dX5_carryOut_251 : decode cX5_carryOut 251 = .ok (.invokevirtual 141, 3) := by decide +kernel
theorem dX5_carryOut_254 : decode cX5_carryOut 254 = .ok (.goto 13, 3) := by decide +kernel
theorem dX5_carryOut_257 : decode cX5_carryOut 257 = .ok (.aload_n 0, 1) := by decide +kernel
theorem dX5_carryOut_258 : decode cX5_carryOut 258 = .ok (.iload_n 2, 1) := by decide +kernel
theorem dX5_carryOut_259 : decode cX5_carryOut 259 = .ok (.iload 5, 2) := by decide +kernel
theorem dX5_carryOut_261 : decode cX5_carryOut 261 = .ok (.invokevirtual 145, 3) := by decide +kernel
theorem dX5_carryOut_264 : decode cX5_carryOut 264 = .ok (.goto 3, 3) := by decide +kernel
theorem dX5_carryOut_267 : decode cX5_carryOut 267 = .ok (.return_, 1) := by decide +kernel
theorem dX5_fetch_0 : decode cX5_fetch 0 = .ok (.aload_n 0, 1) := by decide +kernel
theorem dX5_fetch_1 : decode cX5_fetch 1 = .ok (.getfield 20, 3) := by decide +kernel
theorem dX5_fetch_4 : decode cX5_fetch 4 = .ok (.aload_n 0, 1) := by decide +kernel
theorem dX5_fetch_5 : decode cX5_fetch 5 = .ok (.getfield 32, 3) := by decide +kernel
theorem dX5_fetch_8 : decode cX5_fetch 8 = .ok (.invokevirtual 86, 3) := by decide +kernel
theorem dX5_fetch_11 : decode cX5_fetch 11 = .ok (.istore_n 1, 1) := by decide +kernel
theorem dX5_fetch_12 : decode cX5_fetch 12 = .ok (.aload_n 0, 1) := by decide +kernel
theorem dX5_fetch_13 : decode cX5_fetch 13 = .ok (.aload_n 0, 1) := by decide +kernel
theorem dX5_fetch_14 : decode cX5_fetch 14 = .ok (.getfield 32, 3) := by decide +kernel
theorem dX5_fetch_17 : decode cX5_fetch 17 = .ok (.iconst 1, 1) := by decide +kernel
theorem dX5_fetch_18 : decode cX5_fetch 18 = .ok (.iadd, 1) := by decide +kernel
theorem dX5_fetch_19 : decode cX5_fetch 19 = .ok (.ldc 148, 2) := by decide +kernel
theorem dX5_fetch_21 : decode cX5_fetch 21 = .ok (.iand, 1) := by decide +kernel
theorem dX5_fetch_22 : decode cX5_fetch 22 = .ok (.putfield 32, 3) := by decide +kernel
theorem dX5_fetch_25 : decode cX5_fetch 25 = .ok (.iload_n 1, 1) := by decide +kernel
theorem dX5_fetch_26 : decode cX5_fetch 26 = .ok (.ireturn, 1) := by decide +kernel
theorem dX5_addressOf_0 : decode cX5_addressOf 0 = .ok (.iload_n 1, 1) := by decide +kernel
theorem dX5_addressOf_1 : decode cX5_addressOf 1 = .ok (.tableswitch 138 5 12 #[47, 60, 97, 114, 130, 138, 73, 85], 47) := by decide +kernel
theorem dX5_addressOf_48 : decode cX5_addressOf 48 = .ok (.iload_n 2, 1) := by decide +kernel
theorem dX5_addressOf_49 : decode cX5_addressOf 49 = .ok (.aload_n 0, 1) := by decide +kernel
theorem dX5_addressOf_50 : decode cX5_addressOf 50 = .ok (.getfield 149, 3) := by decide +kernel
theorem dX5_addressOf_53 : decode cX5_addressOf 53 = .ok (.iadd, 1) := by decide +kernel
theorem dX5_addressOf_54 : decode cX5_addressOf 54 = .ok (.sipush 255, 3) := by decide +kernel
theorem dX5_addressOf_57 : decode cX5_addressOf 57 = .ok (.iand, 1) := by decide +kernel
theorem dX5_addressOf_58 : decode cX5_addressOf 58 = .ok (.goto 82, 3) := by decide +kernel
theorem dX5_addressOf_61 : decode cX5_addressOf 61 = .ok (.iload_n 2, 1) := by decide +kernel
theorem dX5_addressOf_62 : decode cX5_addressOf 62 = .ok (.aload_n 0, 1) := by decide +kernel
theorem dX5_addressOf_63 : decode cX5_addressOf 63 = .ok (.getfield 152, 3) := by decide +kernel
theorem dX5_addressOf_66 : decode cX5_addressOf 66 = .ok (.iadd, 1) := by decide +kernel
theorem dX5_addressOf_67 : decode cX5_addressOf 67 = .ok (.sipush 255, 3) := by decide +kernel
theorem dX5_addressOf_70 : decode cX5_addressOf 70 = .ok (.iand, 1) := by decide +kernel
theorem dX5_addressOf_71 : decode cX5_addressOf 71 = .ok (.goto 69, 3) := by decide +kernel
theorem dX5_addressOf_74 : decode cX5_addressOf 74 = .ok (.aload_n 0, 1) := by decide +kernel
theorem dX5_addressOf_75 : decode cX5_addressOf 75 = .ok (.iload_n 2, 1) := by decide +kernel
theorem dX5_addressOf_76 : decode cX5_addressOf 76 = .ok (.aload_n 0, 1) := by decide +kernel
theorem dX5_addressOf_77 : decode cX5_addressOf 77 = .ok (.getfield 149, 3) := by decide +kernel
theorem dX5_addressOf_80 : decode cX5_addressOf 80 = .ok (.invokevirtual 155, 3) := by decide +kernel
theorem dX5_addressOf_83 : decode cX5_addressOf 83 = .ok (.goto 57, 3) := by decide +kernel
theorem dX5_addressOf_86 : decode cX5_addressOf 86 = .ok (.aload_n 0, 1) := by decide +kernel
theorem dX5_addressOf_87 : decode cX5_addressOf 87 = .ok (.iload_n 2, 1) := by decide +kernel
theorem dX5_addressOf_88 : decode cX5_addressOf 88 = .ok (.aload_n 0, 1) := by decide +kernel
theorem dX5_addressOf_89 : decode cX5_addressOf 89 = .ok (.getfield 152, 3) := by decide +kernel
theorem dX5_addressOf_92 : decode cX5_addressOf 92 = .ok (.invokevirtual 155, 3) := by decide +kernel
theorem dX5_addressOf_95 : decode cX5_addressOf 95 = .ok (.goto 45, 3) := by decide +kernel
theorem dX5_addressOf_98 : decode cX5_addressOf 98 = .ok (.aload_n 0, 1) := by decide +kernel
theorem dX5_addressOf_99 : decode cX5_addressOf 99 = .ok (.iload_n 2, 1) := by decide +kernel
theorem dX5_addressOf_100 : decode cX5_addressOf 100 = .ok (.aload_n 0, 1) := by decide +kernel
theorem dX5_addressOf_101 : decode cX5_addressOf 101 = .ok (.getfield 149, 3) := by decide +kernel
theorem dX5_addressOf_104 : decode cX5_addressOf 104 = .ok (.iadd, 1) := by decide +kernel
theorem dX5_addressOf_105 : decode cX5_addressOf 105 = .ok (.sipush 255, 3) := by decide +kernel
theorem dX5_addressOf_108 : decode cX5_addressOf 108 = .ok (.iand, 1) := by decide +kernel
theorem dX5_addressOf_109 : decode cX5_addressOf 109 = .ok (.invokevirtual 158, 3) := by decide +kernel
theorem dX5_addressOf_112 : decode cX5_addressOf 112 = .ok (.goto 28, 3) := by decide +kernel
theorem dX5_addressOf_115 : decode cX5_addressOf 115 = .ok (.aload_n 0, 1) := by decide +kernel
theorem dX5_addressOf_116 : decode cX5_addressOf 116 = .ok (.aload_n 0, 1) := by decide +kernel
theorem dX5_addressOf_117 : decode cX5_addressOf 117 = .ok (.iload_n 2, 1) := by decide +kernel
theorem dX5_addressOf_118 : decode cX5_addressOf 118 = .ok (.invokevirtual 158, 3) := by decide +kernel
theorem dX5_addressOf_121 : decode cX5_addressOf 121 = .ok (.aload_n 0, 1) := by decide +kernel
theorem dX5_addressOf_122 : decode cX5_addressOf 122 = .ok (.getfield 152, 3) := by decide +kernel
theorem dX5_addressOf_125 : decode cX5_addressOf 125 = .ok (.invokevirtual 155, 3) := by decide +kernel
theorem dX5_addressOf_128 : decode cX5_addressOf 128 = .ok (.goto 12, 3) := by decide +kernel
theorem dX5_addressOf_131 : decode cX5_addressOf 131 = .ok (.aload_n 0, 1) := by decide +kernel
theorem dX5_addressOf_132 : decode cX5_addressOf 132 = .ok (.iload_n 2, 1) := by decide +kernel
theorem dX5_addressOf_133 : decode cX5_addressOf 133 = .ok (.invokevirtual 158, 3) := by decide +kernel
theorem dX5_addressOf_136 : decode cX5_addressOf 136 = .ok (.goto 4, 3) := by decide +kernel
theorem dX5_addressOf_139 : decode cX5_addressOf 139 = .ok (.iload_n 2, 1) := by decide +kernel
theorem dX5_addressOf_140 : decode cX5_addressOf 140 = .ok (.ireturn, 1) := by decide +kernel
theorem dX5_indexed_0 : decode cX5_indexed 0 = .ok (.iload_n 1, 1) := by decide +kernel
theorem dX5_indexed_1 : decode cX5_indexed 1 = .ok (.iload_n 2, 1) := by decide +kernel
theorem dX5_indexed_2 : decode cX5_indexed 2 = .ok (.iadd, 1) := by decide +kernel
theorem dX5_indexed_3 : decode cX5_indexed 3 = .ok (.ldc 148, 2) := by decide +kernel
theorem dX5_indexed_5 : decode cX5_indexed 5 = .ok (.iand, 1) := by decide +kernel
theorem dX5_indexed_6 : decode cX5_indexed 6 = .ok (.istore_n 3, 1) := by decide +kernel
theorem dX5_indexed_7 : decode cX5_indexed 7 = .ok (.aload_n 0, 1) := by decide +kernel
theorem dX5_indexed_8 : decode cX5_indexed 8 = .ok (.iload_n 3, 1) := by decide +kernel
theorem dX5_indexed_9 : decode cX5_indexed 9 = .ok (.bipush 8, 2) := by decide +kernel
theorem dX5_indexed_11 : decode cX5_indexed 11 = .ok (.ishr, 1) := by decide +kernel
theorem dX5_indexed_12 : decode cX5_indexed 12 = .ok (.iload_n 1, 1) := by decide +kernel
theorem dX5_indexed_13 : decode cX5_indexed 13 = .ok (.bipush 8, 2) := by decide +kernel
theorem dX5_indexed_15 : decode cX5_indexed 15 = .ok (.ishr, 1) := by decide +kernel
theorem dX5_indexed_16 : decode cX5_indexed 16 = .ok (.if_icmp .eq 7, 3) := by decide +kernel
theorem dX5_indexed_19 : decode cX5_indexed 19 = .ok (.iconst 1, 1) := by decide +kernel
theorem dX5_indexed_20 : decode cX5_indexed 20 = .ok (.goto 4, 3) := by decide +kernel
theorem dX5_indexed_23 : decode cX5_indexed 23 = .ok (.iconst 0, 1) := by decide +kernel
theorem dX5_indexed_24 : decode cX5_indexed 24 = .ok (.putfield 105, 3) := by decide +kernel
theorem dX5_indexed_27 : decode cX5_indexed 27 = .ok (.iload_n 3, 1) := by decide +kernel
theorem dX5_indexed_28 : decode cX5_indexed 28 = .ok (.ireturn, 1) := by decide +kernel
theorem dX5_pointerAt_0 : decode cX5_pointerAt 0 = .ok (.aload_n 0, 1) := by decide +kernel
theorem dX5_pointerAt_1 : decode cX5_pointerAt 1 = .ok (.getfield 20, 3) := by decide +kernel
theorem dX5_pointerAt_4 : decode cX5_pointerAt 4 = .ok (.iload_n 1, 1) := by decide +kernel
theorem dX5_pointerAt_5 : decode cX5_pointerAt 5 = .ok (.invokevirtual 86, 3) := by decide +kernel
theorem dX5_pointerAt_8 : decode cX5_pointerAt 8 = .ok (.istore_n 2, 1) := by decide +kernel
theorem dX5_pointerAt_9 : decode cX5_pointerAt 9 = .ok (.iload_n 2, 1) := by decide +kernel
theorem dX5_pointerAt_10 : decode cX5_pointerAt 10 = .ok (.aload_n 0, 1) := by decide +kernel
theorem dX5_pointerAt_11 : decode cX5_pointerAt 11 = .ok (.getfield 20, 3) := by decide +kernel
theorem dX5_pointerAt_14 : decode cX5_pointerAt 14 = .ok (.iload_n 1, 1) := by decide +kernel
theorem dX5_pointerAt_15 : decode cX5_pointerAt 15 = .ok (.iconst 1, 1) := by decide +kernel
theorem dX5_pointerAt_16 : decode cX5_pointerAt 16 = .ok (.iadd, 1) := by decide +kernel
theorem dX5_pointerAt_17 : decode cX5_pointerAt 17 = .ok (.sipush 255, 3) := by decide +kernel
theorem dX5_pointerAt_20 : decode cX5_pointerAt 20 = .ok (.iand, 1) := by decide +kernel
theorem dX5_pointerAt_21 : decode cX5_pointerAt 21 = .ok (.invokevirtual 86, 3) := by decide +kernel
theorem dX5_pointerAt_24 : decode cX5_pointerAt 24 = .ok (.bipush 8, 2) := by decide +kernel
theorem dX5_pointerAt_26 : decode cX5_pointerAt 26 = .ok (.ishl, 1) := by decide +kernel
theorem dX5_pointerAt_27 : decode cX5_pointerAt 27 = .ok (.ior, 1) := by decide +kernel
theorem dX5_pointerAt_28 : decode cX5_pointerAt 28 = .ok (.ireturn, 1) := by decide +kernel
theorem dX5_wordAt_0 : decode cX5_wordAt 0 = .ok (.aload_n 0, 1) := by decide +kernel
theorem dX5_wordAt_1 : decode cX5_wordAt 1 = .ok (.getfield 20, 3) := by decide +kernel
theorem dX5_wordAt_4 : decode cX5_wordAt 4 = .ok (.iload_n 1, 1) := by decide +kernel
theorem dX5_wordAt_5 : decode cX5_wordAt 5 = .ok (.invokevirtual 86, 3) := by decide +kernel
theorem dX5_wordAt_8 : decode cX5_wordAt 8 = .ok (.istore_n 2, 1) := by decide +kernel
theorem dX5_wordAt_9 : decode cX5_wordAt 9 = .ok (.iload_n 2, 1) := by decide +kernel
theorem dX5_wordAt_10 : decode cX5_wordAt 10 = .ok (.aload_n 0, 1) := by decide +kernel
theorem dX5_wordAt_11 : decode cX5_wordAt 11 = .ok (.getfield 20, 3) := by decide +kernel
theorem dX5_wordAt_14 : decode cX5_wordAt 14 = .ok (.iload_n 1, 1) := by decide +kernel
theorem dX5_wordAt_15 : decode cX5_wordAt 15 = .ok (.iconst 1, 1) := by decide +kernel
theorem dX5_wordAt_16 : decode cX5_wordAt 16 = .ok (.iadd, 1) := by decide +kernel
theorem dX5_wordAt_17 : decode cX5_wordAt 17 = .ok (.ldc 148, 2) := by decide +kernel
theorem dX5_wordAt_19 : decode cX5_wordAt 19 = .ok (.iand, 1) := by decide +kernel
theorem dX5_wordAt_20 : decode cX5_wordAt 20 = .ok (.invokevirtual 86, 3) := by decide +kernel
theorem dX5_wordAt_23 : decode cX5_wordAt 23 = .ok (.bipush 8, 2) := by decide +kernel
theorem dX5_wordAt_25 : decode cX5_wordAt 25 = .ok (.ishl, 1) := by decide +kernel
theorem dX5_wordAt_26 : decode cX5_wordAt 26 = .ok (.ior, 1) := by decide +kernel
theorem dX5_wordAt_27 : decode cX5_wordAt 27 = .ok (.ireturn, 1) := by decide +kernel
theorem dX5_use_0 : decode cX5_use 0 = .ok (.iload_n 1, 1) := by decide +kernel
theorem dX5_use_1 : decode cX5_use 1 = .ok (.tableswitch 282 0 11 #[63, 80, 97, 186, 114, 150, 212, 126, 138, 162, 174, 242], 63) := by decide +kernel
theorem dX5_use_64 : decode cX5_use 64 = .ok (.aload_n 0, 1) := by decide +kernel
theorem dX5_use_65 : decode cX5_use 65 = .ok (.aload_n 0, 1) := by decide +kernel
theorem dX5_use_66 : decode cX5_use 66 = .ok (.aload_n 0, 1) := by decide +kernel
theorem dX5_use_67 : decode cX5_use 67 = .ok (.getfield 161, 3) := by decide +kernel
theorem dX5_use_70 : decode cX5_use 70 = .ok (.iload_n 2, 1) := by decide +kernel
theorem dX5_use_71 : decode cX5_use 71 = .ok (.ior, 1) := by decide +kernel
theorem dX5_use_72 : decode cX5_use 72 = .ok (.invokevirtual 164, 3) := by decide +kernel
theorem dX5_use_75 : decode cX5_use 75 = .ok (.putfield 161, 3) := by decide +kernel
theorem dX5_use_78 : decode cX5_use 78 = .ok (.goto 224, 3) := by decide +kernel
theorem dX5_use_81 : decode cX5_use 81 = .ok (.aload_n 0, 1) := by decide +kernel
theorem dX5_use_82 : decode cX5_use 82 = .ok (.aload_n 0, 1) := by decide +kernel
theorem dX5_use_83 : decode cX5_use 83 = .ok (.aload_n 0, 1) := by decide +kernel
theorem dX5_use_84 : decode cX5_use 84 = .ok (.getfield 161, 3) := by decide +kernel
theorem dX5_use_87 : decode cX5_use 87 = .ok (.iload_n 2, 1) := by decide +kernel
theorem dX5_use_88 : decode cX5_use 88 = .ok (.iand, 1) := by decide +kernel
theorem dX5_use_89 : decode cX5_use 89 = .ok (.invokevirtual 164, 3) := by decide +kernel
theorem dX5_use_92 : decode cX5_use 92 = .ok (.putfield 161, 3) := by decide +kernel
theorem dX5_use_95 : decode cX5_use 95 = .ok (.goto 207, 3) := by decide +kernel
theorem dX5_use_98 : decode cX5_use 98 = .ok (.aload_n 0, 1) := by decide +kernel
theorem dX5_use_99 : decode cX5_use 99 = .ok (.aload_n 0, 1) := by decide +kernel
theorem dX5_use_100 : decode cX5_use 100 = .ok (.aload_n 0, 1) := by decide +kernel
theorem dX5_use_101 : decode cX5_use 101 = .ok (.getfield 161, 3) := by decide +kernel
theorem dX5_use_104 : decode cX5_use 104 = .ok (.iload_n 2, 1) := by decide +kernel
theorem dX5_use_105 : decode cX5_use 105 = .ok (.ixor, 1) := by decide +kernel
theorem dX5_use_106 : decode cX5_use 106 = .ok (.invokevirtual 164, 3) := by decide +kernel
theorem dX5_use_109 : decode cX5_use 109 = .ok (.putfield 161, 3) := by decide +kernel
theorem dX5_use_112 : decode cX5_use 112 = .ok (.goto 190, 3) := by decide +kernel
theorem dX5_use_115 : decode cX5_use 115 = .ok (.aload_n 0, 1) := by decide +kernel
theorem dX5_use_116 : decode cX5_use 116 = .ok (.aload_n 0, 1) := by decide +kernel
theorem dX5_use_117 : decode cX5_use 117 = .ok (.iload_n 2, 1) := by decide +kernel
theorem dX5_use_118 : decode cX5_use 118 = .ok (.invokevirtual 164, 3) := by decide +kernel
theorem dX5_use_121 : decode cX5_use 121 = .ok (.putfield 161, 3) := by decide +kernel
theorem dX5_use_124 : decode cX5_use 124 = .ok (.goto 178, 3) := by decide +kernel
theorem dX5_use_127 : decode cX5_use 127 = .ok (.aload_n 0, 1) := by decide +kernel
theorem dX5_use_128 : decode cX5_use 128 = .ok (.aload_n 0, 1) := by decide +kernel
theorem dX5_use_129 : decode cX5_use 129 = .ok (.iload_n 2, 1) := by decide +kernel
theorem dX5_use_130 : decode cX5_use 130 = .ok (.invokevirtual 164, 3) := by decide +kernel
theorem dX5_use_133 : decode cX5_use 133 = .ok (.putfield 149, 3) := by decide +kernel
theorem dX5_use_136 : decode cX5_use 136 = .ok (.goto 166, 3) := by decide +kernel
theorem dX5_use_139 : decode cX5_use 139 = .ok (.aload_n 0, 1) := by decide +kernel
theorem dX5_use_140 : decode cX5_use 140 = .ok (.aload_n 0, 1) := by decide +kernel
theorem dX5_use_141 : decode cX5_use 141 = .ok (.iload_n 2, 1) := by decide +kernel
theorem dX5_use_142 : decode cX5_use 142 = .ok (.invokevirtual 164, 3) := by decide +kernel
theorem dX5_use_145 : decode cX5_use 145 = .ok (.putfield 152, 3) := by decide +kernel
theorem dX5_use_148 : decode cX5_use 148 = .ok (.goto 154, 3) := by decide +kernel
theorem dX5_use_151 : decode cX5_use 151 = .ok (.aload_n 0, 1) := by decide +kernel
theorem dX5_use_152 : decode cX5_use 152 = .ok (.aload_n 0, 1) := by decide +kernel
theorem dX5_use_153 : decode cX5_use 153 = .ok (.getfield 161, 3) := by decide +kernel
theorem dX5_use_156 : decode cX5_use 156 = .ok (.iload_n 2, 1) := by decide +kernel
theorem dX5_use_157 : decode cX5_use 157 = .ok (.invokevirtual 167, 3) := by decide +kernel
theorem dX5_use_160 : decode cX5_use 160 = .ok (.goto 142, 3) := by decide +kernel
theorem dX5_use_163 : decode cX5_use 163 = .ok (.aload_n 0, 1) := by decide +kernel
theorem dX5_use_164 : decode cX5_use 164 = .ok (.aload_n 0, 1) := by decide +kernel
theorem dX5_use_165 : decode cX5_use 165 = .ok (.getfield 149, 3) := by decide +kernel
theorem dX5_use_168 : decode cX5_use 168 = .ok (.iload_n 2, 1) := by decide +kernel
theorem dX5_use_169 : decode cX5_use 169 = .ok (.invokevirtual 167, 3) := by decide +kernel
theorem dX5_use_172 : decode cX5_use 172 = .ok (.goto 130, 3) := by decide +kernel
theorem dX5_use_175 : decode cX5_use 175 = .ok (.aload_n 0, 1) := by decide +kernel
theorem dX5_use_176 : decode cX5_use 176 = .ok (.aload_n 0, 1) := by decide +kernel
theorem dX5_use_177 : decode cX5_use 177 = .ok (.getfield 152, 3) := by decide +kernel
theorem dX5_use_180 : decode cX5_use 180 = .ok (.iload_n 2, 1) := by decide +kernel
theorem dX5_use_181 : decode cX5_use 181 = .ok (.invokevirtual 167, 3) := by decide +kernel
theorem dX5_use_184 : decode cX5_use 184 = .ok (.goto 118, 3) := by decide +kernel
theorem dX5_use_187 : decode cX5_use 187 = .ok (.aload_n 0, 1) := by decide +kernel
theorem dX5_use_188 : decode cX5_use 188 = .ok (.getfield 9, 3) := by decide +kernel
theorem dX5_use_191 : decode cX5_use 191 = .ok (.bipush 8, 2) := by decide +kernel
theorem dX5_use_193 : decode cX5_use 193 = .ok (.iand, 1) := by decide +kernel
theorem dX5_use_194 : decode cX5_use 194 = .ok (.ifCond .eq 11, 3) := by decide +kernel
theorem dX5_use_197 : decode cX5_use 197 = .ok (.aload_n 0, 1) := by decide +kernel
theorem dX5_use_198 : decode cX5_use 198 = .ok (.iload_n 2, 1) := by decide +kernel
theorem dX5_use_199 : decode cX5_use 199 = .ok (.invokevirtual 170, 3) := by decide +kernel
theorem dX5_use_202 : decode cX5_use 202 = .ok (.goto 100, 3) := by decide +kernel
theorem dX5_use_205 : decode cX5_use 205 = .ok (.aload_n 0, 1) := by decide +kernel
theorem dX5_use_206 : decode cX5_use 206 = .ok (.iload_n 2, 1) := by decide +kernel
theorem dX5_use_207 : decode cX5_use 207 = .ok (.invokevirtual 173, 3) := by decide +kernel
theorem dX5_use_210 : decode cX5_use 210 = .ok (.goto 92, 3) := by decide +kernel
theorem dX5_use_213 : decode cX5_use 213 = .ok (.aload_n 0, 1) := by decide +kernel
theorem dX5_use_214 : decode cX5_use 214 = .ok (.getfield 9, 3) := by decide +kernel
theorem dX5_use_217 : decode cX5_use 217 = .ok (.bipush 8, 2) := by decide +kernel
theorem dX5_use_219 : decode cX5_use 219 = .ok (.iand, 1) := by decide +kernel
theorem dX5_use_220 : decode cX5_use 220 = .ok (.ifCond .eq 11, 3) := by decide +kernel
theorem dX5_use_223 : decode cX5_use 223 = .ok (.aload_n 0, 1) := by decide +kernel
theorem dX5_use_224 : decode cX5_use 224 = .ok (.iload_n 2, 1) := by decide +kernel
theorem dX5_use_225 : decode cX5_use 225 = .ok (.invokevirtual 176, 3) := by decide +kernel
theorem dX5_use_228 : decode cX5_use 228 = .ok (.goto 74, 3) := by decide +kernel
theorem dX5_use_231 : decode cX5_use 231 = .ok (.aload_n 0, 1) := by decide +kernel
theorem dX5_use_232 : decode cX5_use 232 = .ok (.sipush 255, 3) := by decide +kernel
theorem dX5_use_235 : decode cX5_use 235 = .ok (.iload_n 2, 1) := by decide +kernel
theorem dX5_use_236 : decode cX5_use 236 = .ok (.isub, 1) := by decide +kernel
theorem dX5_use_237 : decode cX5_use 237 = .ok (.invokevirtual 173, 3) := by decide +kernel
theorem dX5_use_240 : decode cX5_use 240 = .ok (.goto 62, 3) := by decide +kernel
theorem dX5_use_243 : decode cX5_use 243 = .ok (.aload_n 0, 1) := by decide +kernel
theorem dX5_use_244 : decode cX5_use 244 = .ok (.iconst 2, 1) := by decide +kernel
theorem dX5_use_245 : decode cX5_use 245 = .ok (.aload_n 0, 1) := by decide +kernel
theorem dX5_use_246 : decode cX5_use 246 = .ok (.getfield 161, 3) := by decide +kernel
theorem dX5_use_249 : decode cX5_use 249 = .ok (.iload_n 2, 1) := by decide +kernel
theorem dX5_use_250 : decode cX5_use 250 = .ok (.iand, 1) := by decide +kernel
theorem dX5_use_251 : decode cX5_use 251 = .ok (.ifCond .ne 7, 3) := by decide +kernel
theorem dX5_use_254 : decode cX5_use 254 = .ok (.iconst 1, 1) := by decide +kernel
theorem dX5_use_255 : decode cX5_use 255 = .ok (.goto 4, 3) := by decide +kernel
theorem dX5_use_258 : decode cX5_use 258 = .ok (.iconst 0, 1) := by decide +kernel
theorem dX5_use_259 : decode cX5_use 259 = .ok (.invokevirtual 179, 3) := by decide +kernel
theorem dX5_use_262 : decode cX5_use 262 = .ok (.aload_n 0, 1) := by decide +kernel
theorem dX5_use_263 : decode cX5_use 263 = .ok (.aload_n 0, 1) := by decide +kernel
theorem dX5_use_264 : decode cX5_use 264 = .ok (.getfield 9, 3) := by decide +kernel
theorem dX5_use_267 : decode cX5_use 267 = .ok (.sipush (-193), 3) := by decide +kernel
theorem dX5_use_270 : decode cX5_use 270 = .ok (.iand, 1) := by decide +kernel
theorem dX5_use_271 : decode cX5_use 271 = .ok (.iload_n 2, 1) := by decide +kernel
theorem dX5_use_272 : decode cX5_use 272 = .ok (.sipush 192, 3) := by decide +kernel
theorem dX5_use_275 : decode cX5_use 275 = .ok (.iand, 1) := by decide +kernel
theorem dX5_use_276 : decode cX5_use 276 = .ok (.ior, 1) := by decide +kernel
theorem dX5_use_277 : decode cX5_use 277 = .ok (.putfield 9, 3) := by decide +kernel
theorem dX5_use_280 : decode cX5_use 280 = .ok (.goto 22, 3) := by decide +kernel
theorem dX5_use_283 : decode cX5_use 283 = .ok (.aload_n 0, 1) := by decide +kernel
theorem dX5_use_284 : decode cX5_use 284 = .ok (.iconst 2, 1) := by decide +kernel
theorem dX5_use_285 : decode cX5_use 285 = .ok (.aload_n 0, 1) := by decide +kernel
theorem dX5_use_286 : decode cX5_use 286 = .ok (.getfield 161, 3) := by decide +kernel
theorem dX5_use_289 : decode cX5_use 289 = .ok (.iload_n 2, 1) := by decide +kernel
theorem dX5_use_290 : decode cX5_use 290 = .ok (.iand, 1) := by decide +kernel
theorem dX5_use_291 : decode cX5_use 291 = .ok (.ifCond .ne 7, 3) := by decide +kernel
theorem dX5_use_294 : decode cX5_use 294 = .ok (.iconst 1, 1) := by decide +kernel
theorem dX5_use_295 : decode cX5_use 295 = .ok (.goto 4, 3) := by decide +kernel
theorem dX5_use_298 : decode cX5_use 298 = .ok (.iconst 0, 1) := by decide +kernel
theorem dX5_use_299 : decode cX5_use 299 = .ok (.invokevirtual 179, 3) := by decide +kernel
theorem dX5_use_302 : decode cX5_use 302 = .ok (.return_, 1) := by decide +kernel
theorem dX5_add_0 : decode cX5_add 0 = .ok (.aload_n 0, 1) := by decide +kernel
theorem dX5_add_1 : decode cX5_add 1 = .ok (.getfield 161, 3) := by decide +kernel
theorem dX5_add_4 : decode cX5_add 4 = .ok (.iload_n 1, 1) := by decide +kernel
theorem dX5_add_5 : decode cX5_add 5 = .ok (.iadd, 1) := by decide +kernel
theorem dX5_add_6 : decode cX5_add 6 = .ok (.aload_n 0, 1) := by decide +kernel
theorem dX5_add_7 : decode cX5_add 7 = .ok (.getfield 9, 3) := by decide +kernel
theorem dX5_add_10 : decode cX5_add 10 = .ok (.iconst 1, 1) := by decide +kernel
theorem dX5_add_11 : decode cX5_add 11 = .ok (.iand, 1) := by decide +kernel
theorem dX5_add_12 : decode cX5_add 12 = .ok (.iadd, 1) := by decide +kernel
theorem dX5_add_13 : decode cX5_add 13 = .ok (.istore_n 2, 1) := by decide +kernel
theorem dX5_add_14 : decode cX5_add 14 = .ok (.aload_n 0, 1) := by decide +kernel
theorem dX5_add_15 : decode cX5_add 15 = .ok (.bipush 64, 2) := by decide +kernel
theorem dX5_add_17 : decode cX5_add 17 = .ok (.aload_n 0, 1) := by decide +kernel
theorem dX5_add_18 : decode cX5_add 18 = .ok (.iload_n 1, 1) := by decide +kernel
theorem dX5_add_19 : decode cX5_add 19 = .ok (.iload_n 2, 1) := by decide +kernel
theorem dX5_add_20 : decode cX5_add 20 = .ok (.invokevirtual 183, 3) := by decide +kernel
theorem dX5_add_23 : decode cX5_add 23 = .ok (.invokevirtual 179, 3) := by decide +kernel
theorem dX5_add_26 : decode cX5_add 26 = .ok (.aload_n 0, 1) := by decide +kernel
theorem dX5_add_27 : decode cX5_add 27 = .ok (.iconst 1, 1) := by decide +kernel
theorem dX5_add_28 : decode cX5_add 28 = .ok (.iload_n 2, 1) := by decide +kernel
theorem dX5_add_29 : decode cX5_add 29 = .ok (.sipush 255, 3) := by decide +kernel
theorem dX5_add_32 : decode cX5_add 32 = .ok (.if_icmp .le 7, 3) := by decide +kernel
theorem dX5_add_35 : decode cX5_add 35 = .ok (.iconst 1, 1) := by decide +kernel
theorem dX5_add_36 : decode cX5_add 36 = .ok (.goto 4, 3) := by decide +kernel
theorem dX5_add_39 : decode cX5_add 39 = .ok (.iconst 0, 1) := by decide +kernel
theorem dX5_add_40 : decode cX5_add 40 = .ok (.invokevirtual 179, 3) := by decide +kernel
theorem dX5_add_43 : decode cX5_add 43 = .ok (.aload_n 0, 1) := by decide +kernel
theorem dX5_add_44 : decode cX5_add 44 = .ok (.aload_n 0, 1) := by decide +kernel
theorem dX5_add_45 : decode cX5_add 45 = .ok (.iload_n 2, 1) := by decide +kernel
theorem dX5_add_46 : decode cX5_add 46 = .ok (.invokevirtual 164, 3) := by decide +kernel
theorem dX5_add_49 : decode cX5_add 49 = .ok (.putfield 161, 3) := by decide +kernel
theorem dX5_add_52 : decode cX5_add 52 = .ok (.return_, 1) := by decide +kernel
theorem dX5_addDecimal_0 : decode cX5_addDecimal 0 = .ok (.aload_n 0, 1) := by decide +kernel
theorem dX5_addDecimal_1 : decode cX5_addDecimal 1 = .ok (.getfield 161, 3) := by decide +kernel
theorem dX5_addDecimal_4 : decode cX5_addDecimal 4 = .ok (.bipush 15, 2) := by decide +kernel
theorem dX5_addDecimal_6 : decode cX5_addDecimal 6 = .ok (.iand, 1) := by decide +kernel
theorem dX5_addDecimal_7 : decode cX5_addDecimal 7 = .ok (.iload_n 1, 1) := by decide +kernel
theorem dX5_addDecimal_8 : decode cX5_addDecimal 8 = .ok (.bipush 15, 2) := by decide +kernel
theorem dX5_addDecimal_10 : decode cX5_addDecimal 10 = .ok (.iand, 1) := by decide +kernel
theorem dX5_addDecimal_11 : decode cX5_addDecimal 11 = .ok (.iadd, 1) := by decide +kernel
theorem dX5_addDecimal_12 : decode cX5_addDecimal 12 = .ok (.aload_n 0, 1) := by decide +kernel
theorem dX5_addDecimal_13 : decode cX5_addDecimal 13 = .ok (.getfield 9, 3) := by decide +kernel
theorem dX5_addDecimal_16 : decode cX5_addDecimal 16 = .ok (.iconst 1, 1) := by decide +kernel
theorem dX5_addDecimal_17 : decode cX5_addDecimal 17 = .ok (.iand, 1) := by decide +kernel
theorem dX5_addDecimal_18 : decode cX5_addDecimal 18 = .ok (.iadd, 1) := by decide +kernel
theorem dX5_addDecimal_19 : decode cX5_addDecimal 19 = .ok (.istore_n 2, 1) := by decide +kernel
theorem dX5_addDecimal_20 : decode cX5_addDecimal 20 = .ok (.iload_n 2, 1) := by decide +kernel
theorem dX5_addDecimal_21 : decode cX5_addDecimal 21 = .ok (.bipush 9, 2) := by decide +kernel
theorem dX5_addDecimal_23 : decode cX5_addDecimal 23 = .ok (.if_icmp .le 14, 3) := by decide +kernel
theorem dX5_addDecimal_26 : decode cX5_addDecimal 26 = .ok (.iload_n 2, 1) := by decide +kernel
theorem dX5_addDecimal_27 : decode cX5_addDecimal 27 = .ok (.bipush 6, 2) := by decide +kernel
theorem dX5_addDecimal_29 : decode cX5_addDecimal 29 = .ok (.iadd, 1) := by decide +kernel
theorem dX5_addDecimal_30 : decode cX5_addDecimal 30 = .ok (.bipush 15, 2) := by decide +kernel
theorem dX5_addDecimal_32 : decode cX5_addDecimal 32 = .ok (.iand, 1) := by decide +kernel
theorem dX5_addDecimal_33 : decode cX5_addDecimal 33 = .ok (.bipush 16, 2) := by decide +kernel
theorem dX5_addDecimal_35 : decode cX5_addDecimal 35 = .ok (.iadd, 1) := by decide +kernel
theorem dX5_addDecimal_36 : decode cX5_addDecimal 36 = .ok (.istore_n 2, 1) := by decide +kernel
theorem dX5_addDecimal_37 : decode cX5_addDecimal 37 = .ok (.aload_n 0, 1) := by decide +kernel
theorem dX5_addDecimal_38 : decode cX5_addDecimal 38 = .ok (.getfield 161, 3) := by decide +kernel
theorem dX5_addDecimal_41 : decode cX5_addDecimal 41 = .ok (.sipush 240, 3) := by decide +kernel
theorem dX5_addDecimal_44 : decode cX5_addDecimal 44 = .ok (.iand, 1) := by decide +kernel
theorem dX5_addDecimal_45 : decode cX5_addDecimal 45 = .ok (.iload_n 1, 1) := by decide +kernel
theorem dX5_addDecimal_46 : decode cX5_addDecimal 46 = .ok (.sipush 240, 3) := by decide +kernel
theorem dX5_addDecimal_49 : decode cX5_addDecimal 49 = .ok (.iand, 1) := by decide +kernel
theorem dX5_addDecimal_50 : decode cX5_addDecimal 50 = .ok (.iadd, 1) := by decide +kernel
theorem dX5_addDecimal_51 : decode cX5_addDecimal 51 = .ok (.iload_n 2, 1) := by decide +kernel
theorem dX5_addDecimal_52 : decode cX5_addDecimal 52 = .ok (.iadd, 1) := by decide +kernel
theorem dX5_addDecimal_53 : decode cX5_addDecimal 53 = .ok (.istore_n 3, 1) := by decide +kernel
theorem dX5_addDecimal_54 : decode cX5_addDecimal 54 = .ok (.aload_n 0, 1) := by decide +kernel
theorem dX5_addDecimal_55 : decode cX5_addDecimal 55 = .ok (.bipush 64, 2) := by decide +kernel
theorem dX5_addDecimal_57 : decode cX5_addDecimal 57 = .ok (.aload_n 0, 1) := by decide +kernel
theorem dX5_addDecimal_58 : decode cX5_addDecimal 58 = .ok (.iload_n 1, 1) := by decide +kernel
theorem dX5_addDecimal_59 : decode cX5_addDecimal 59 = .ok (.iload_n 3, 1) := by decide +kernel
theorem dX5_addDecimal_60 : decode cX5_addDecimal 60 = .ok (.invokevirtual 183, 3) := by decide +kernel
theorem dX5_addDecimal_63 : decode cX5_addDecimal 63 = .ok (.invokevirtual 179, 3) := by decide +kernel
theorem dX5_addDecimal_66 : decode cX5_addDecimal 66 = .ok (.iload_n 3, 1) := by decide +kernel
theorem dX5_addDecimal_67 : decode cX5_addDecimal 67 = .ok (.sipush 159, 3) := by decide +kernel
theorem dX5_addDecimal_70 : decode cX5_addDecimal 70 = .ok (.if_icmp .le 6, 3) := by decide +kernel
theorem dX5_addDecimal_73 : decode cX5_addDecimal 73 = .ok (.iinc 3 96, 3) := by decide +kernel
theorem dX5_addDecimal_76 : decode cX5_addDecimal 76 = .ok (.aload_n 0, 1) := by decide +kernel
theorem dX5_addDecimal_77 : decode cX5_addDecimal 77 = .ok (.iconst 1, 1) := by decide +kernel
theorem dX5_addDecimal_78 : decode cX5_addDecimal 78 = .ok (.iload_n 3, 1) := by decide +kernel
theorem dX5_addDecimal_79 : decode cX5_addDecimal 79 = .ok (.sipush 255, 3) := by decide +kernel
theorem dX5_addDecimal_82 : decode cX5_addDecimal 82 = .ok (.if_icmp .le 7, 3) := by decide +kernel
theorem dX5_addDecimal_85 : decode cX5_addDecimal 85 = .ok (.iconst 1, 1) := by decide +kernel
theorem dX5_addDecimal_86 : decode cX5_addDecimal 86 = .ok (.goto 4, 3) := by decide +kernel
theorem dX5_addDecimal_89 : decode cX5_addDecimal 89 = .ok (.iconst 0, 1) := by decide +kernel
theorem dX5_addDecimal_90 : decode cX5_addDecimal 90 = .ok (.invokevirtual 179, 3) := by decide +kernel
theorem dX5_addDecimal_93 : decode cX5_addDecimal 93 = .ok (.aload_n 0, 1) := by decide +kernel
theorem dX5_addDecimal_94 : decode cX5_addDecimal 94 = .ok (.aload_n 0, 1) := by decide +kernel
theorem dX5_addDecimal_95 : decode cX5_addDecimal 95 = .ok (.iload_n 3, 1) := by decide +kernel
theorem dX5_addDecimal_96 : decode cX5_addDecimal 96 = .ok (.invokevirtual 164, 3) := by decide +kernel
theorem dX5_addDecimal_99 : decode cX5_addDecimal 99 = .ok (.putfield 161, 3) := by decide +kernel
theorem dX5_addDecimal_102 : decode cX5_addDecimal 102 = .ok (.aload_n 0, 1) := by decide +kernel
theorem dX5_addDecimal_103 : decode cX5_addDecimal 103 = .ok (.dup, 1) := by decide +kernel
theorem dX5_addDecimal_104 : decode cX5_addDecimal 104 = .ok (.getfield 57, 3) := by decide +kernel
theorem dX5_addDecimal_107 : decode cX5_addDecimal 107 = .ok (.iconst 1, 1) := by decide +kernel
theorem dX5_addDecimal_108 : decode cX5_addDecimal 108 = .ok (.iadd, 1) := by decide +kernel
theorem dX5_addDecimal_109 : decode cX5_addDecimal 109 = .ok (.putfield 57, 3) := by decide +kernel
theorem dX5_addDecimal_112 : decode cX5_addDecimal 112 = .ok (.return_, 1) := by decide +kernel
theorem dX5_subtractDecimal_0 : decode cX5_subtractDecimal 0 = .ok (.iconst 1, 1) := by decide +kernel
theorem dX5_subtractDecimal_1 : decode cX5_subtractDecimal 1 = .ok (.aload_n 0, 1) := by decide +kernel
theorem dX5_subtractDecimal_2 : decode cX5_subtractDecimal 2 = .ok (.getfield 9, 3) := by decide +kernel
theorem dX5_subtractDecimal_5 : decode cX5_subtractDecimal 5 = .ok (.iconst 1, 1) := by decide +kernel
theorem dX5_subtractDecimal_6 : decode cX5_subtractDecimal 6 = .ok (.iand, 1) := by decide +kernel
theorem dX5_subtractDecimal_7 : decode cX5_subtractDecimal 7 = .ok (.isub, 1) := by decide +kernel
theorem dX5_subtractDecimal_8 : decode cX5_subtractDecimal 8 = .ok (.istore_n 2, 1) := by decide +kernel
theorem dX5_subtractDecimal_9 : decode cX5_subtractDecimal 9 = .ok (.aload_n 0, 1) := by decide +kernel
theorem dX5_subtractDecimal_10 : decode cX5_subtractDecimal 10 = .ok (.getfield 161, 3) := by decide +kernel
theorem dX5_subtractDecimal_13 : decode cX5_subtractDecimal 13 = .ok (.bipush 15, 2) := by decide +kernel
theorem dX5_subtractDecimal_15 : decode cX5_subtractDecimal 15 = .ok (.iand, 1) := by decide +kernel
theorem dX5_subtractDecimal_16 : decode cX5_subtractDecimal 16 = .ok (.iload_n 1, 1) := by decide +kernel
theorem dX5_subtractDecimal_17 : decode cX5_subtractDecimal 17 = .ok (.bipush 15, 2) := by decide +kernel
theorem dX5_subtractDecimal_19 : decode cX5_subtractDecimal 19 = .ok (.iand, 1) := by decide +kernel
theorem dX5_subtractDecimal_20 : decode cX5_subtractDecimal 20 = .ok (.isub, 1) := by decide +kernel
theorem dX5_subtractDecimal_21 : decode cX5_subtractDecimal 21 = .ok (.iload_n 2, 1) := by decide +kernel
theorem dX5_subtractDecimal_22 : decode cX5_subtractDecimal 22 = .ok (.isub, 1) := by decide +kernel
theorem dX5_subtractDecimal_23 : decode cX5_subtractDecimal 23 = .ok (.istore_n 3, 1) := by decide +kernel
theorem dX5_subtractDecimal_24 : decode cX5_subtractDecimal 24 = .ok (.aload_n 0, 1) := by decide +kernel
theorem dX5_subtractDecimal_25 : decode cX5_subtractDecimal 25 = .ok (.getfield 161, 3) := by decide +kernel
theorem dX5_subtractDecimal_28 : decode cX5_subtractDecimal 28 = .ok (.iload_n 1, 1) := by decide +kernel
theorem dX5_subtractDecimal_29 : decode cX5_subtractDecimal 29 = .ok (.isub, 1) := by decide +kernel
theorem dX5_subtractDecimal_30 : decode cX5_subtractDecimal 30 = .ok (.iload_n 2, 1) := by decide +kernel
theorem dX5_subtractDecimal_31 : decode cX5_subtractDecimal 31 = .ok (.isub, 1) := by decide +kernel
theorem dX5_subtractDecimal_32 : decode cX5_subtractDecimal 32 = .ok (.istore 4, 2) := by decide +kernel
theorem dX5_subtractDecimal_34 : decode cX5_subtractDecimal 34 = .ok (.iload 4, 2) := by decide +kernel
theorem dX5_subtractDecimal_36 : decode cX5_subtractDecimal 36 = .ok (.ifCond .ge 6, 3) := by decide +kernel
theorem dX5_subtractDecimal_39 : decode cX5_subtractDecimal 39 = .ok (.iinc 4 (-96), 3) := by decide +kernel
theorem dX5_subtractDecimal_42 : decode cX5_subtractDecimal 42 = .ok (.iload_n 3, 1) := by decide +kernel
theorem dX5_subtractDecimal_43 : decode cX5_subtractDecimal 43 = .ok (.ifCond .ge 6, 3) := by decide +kernel
theorem dX5_subtractDecimal_46 : decode cX5_subtractDecimal 46 = .ok (.iinc 4 (-6), 3) := by decide +kernel
theorem dX5_subtractDecimal_49 : decode cX5_subtractDecimal 49 = .ok (.aload_n 0, 1) := by decide +kernel
theorem dX5_subtractDecimal_50 : decode cX5_subtractDecimal 50 = .ok (.sipush 255, 3) := by decide +kernel
theorem dX5_subtractDecimal_53 : decode cX5_subtractDecimal 53 = .ok (.iload_n 1, 1) := by decide +kernel
theorem dX5_subtractDecimal_54 : decode cX5_subtractDecimal 54 = .ok (.isub, 1) := by decide +kernel
theorem dX5_subtractDecimal_55 : decode cX5_subtractDecimal 55 = .ok (.invokevirtual 173, 3) := by decide +kernel
theorem dX5_subtractDecimal_58 : decode cX5_subtractDecimal 58 = .ok (.aload_n 0, 1) := by decide +kernel
theorem dX5_subtractDecimal_59 : decode cX5_subtractDecimal 59 = .ok (.aload_n 0, 1) := by decide +kernel
theorem dX5_subtractDecimal_60 : decode cX5_subtractDecimal 60 = .ok (.iload 4, 2) := by decide +kernel
theorem dX5_subtractDecimal_62 : decode cX5_subtractDecimal 62 = .ok (.invokevirtual 164, 3) := by decide +kernel
theorem dX5_subtractDecimal_65 : decode cX5_subtractDecimal 65 = .ok (.putfield 161, 3) := by decide +kernel
theorem dX5_subtractDecimal_68 : decode cX5_subtractDecimal 68 = .ok (.aload_n 0, 1) := by decide +kernel
theorem dX5_subtractDecimal_69 : decode cX5_subtractDecimal 69 = .ok (.dup, 1) := by decide +kernel
theorem dX5_subtractDecimal_70 : decode cX5_subtractDecimal 70 = .ok (.getfield 57, 3) := by decide +kernel
theorem dX5_subtractDecimal_73 : decode cX5_subtractDecimal 73 = .ok (.iconst 1, 1) := by decide +kernel
theorem dX5_subtractDecimal_74 : decode cX5_subtractDecimal 74 = .ok (.iadd, 1) := by decide +kernel
theorem dX5_subtractDecimal_75 : decode cX5_subtractDecimal 75 = .ok (.putfield 57, 3) := by decide +kernel
theorem dX5_subtractDecimal_78 : decode cX5_subtractDecimal 78 = .ok (.return_, 1) := by decide +kernel
theorem dX5_changesSign_0 : decode cX5_changesSign 0 = .ok (.aload_n 0, 1) := by decide +kernel
theorem dX5_changesSign_1 : decode cX5_changesSign 1 = .ok (.getfield 161, 3) := by decide +kernel
theorem dX5_changesSign_4 : decode cX5_changesSign 4 = .ok (.iload_n 2, 1) := by decide +kernel
theorem dX5_changesSign_5 : decode cX5_changesSign 5 = .ok (.ixor, 1) := by decide +kernel
theorem dX5_changesSign_6 : decode cX5_changesSign 6 = .ok (.iload_n 1, 1) := by decide +kernel
theorem dX5_changesSign_7 : decode cX5_changesSign 7 = .ok (.iload_n 2, 1) := by decide +kernel
theorem dX5_changesSign_8 : decode cX5_changesSign 8 = .ok (.ixor, 1) := by decide +kernel
theorem dX5_changesSign_9 : decode cX5_changesSign 9 = .ok (.iand, 1) := by decide +kernel
theorem dX5_changesSign_10 : decode cX5_changesSign 10 = .ok (.sipush 128, 3) := by decide +kernel
theorem dX5_changesSign_13 : decode cX5_changesSign 13 = .ok (.iand, 1) := by decide +kernel
theorem dX5_changesSign_14 : decode cX5_changesSign 14 = .ok (.ifCond .eq 7, 3) := by decide +kernel
theorem dX5_changesSign_17 : decode cX5_changesSign 17 = .ok (.iconst 1, 1) := by decide +kernel
theorem dX5_changesSign_18 : decode cX5_changesSign 18 = .ok (.goto 4, 3) := by decide +kernel
theorem dX5_changesSign_21 : decode cX5_changesSign 21 = .ok (.iconst 0, 1) := by decide +kernel
theorem dX5_changesSign_22 : decode cX5_changesSign 22 = .ok (.ireturn, 1) := by decide +kernel
theorem dX5_compare_0 : decode cX5_compare 0 = .ok (.aload_n 0, 1) := by decide +kernel
theorem dX5_compare_1 : decode cX5_compare 1 = .ok (.iconst 1, 1) := by decide +kernel
theorem dX5_compare_2 : decode cX5_compare 2 = .ok (.iload_n 1, 1) := by decide +kernel
theorem dX5_compare_3 : decode cX5_compare 3 = .ok (.iload_n 2, 1) := by decide +kernel
theorem dX5_compare_4 : decode cX5_compare 4 = .ok (.if_icmp .lt 7, 3) := by decide +kernel
theorem dX5_compare_7 : decode cX5_compare 7 = .ok (.iconst 1, 1) := by decide +kernel
theorem dX5_compare_8 : decode cX5_compare 8 = .ok (.goto 4, 3) := by decide +kernel
theorem dX5_compare_11 : decode cX5_compare 11 = .ok (.iconst 0, 1) := by decide +kernel
theorem dX5_compare_12 : decode cX5_compare 12 = .ok (.invokevirtual 179, 3) := by decide +kernel
theorem dX5_compare_15 : decode cX5_compare 15 = .ok (.aload_n 0, 1) := by decide +kernel
theorem dX5_compare_16 : decode cX5_compare 16 = .ok (.iload_n 1, 1) := by decide +kernel
theorem dX5_compare_17 : decode cX5_compare 17 = .ok (.iload_n 2, 1) := by decide +kernel
theorem dX5_compare_18 : decode cX5_compare 18 = .ok (.isub, 1) := by decide +kernel
theorem dX5_compare_19 : decode cX5_compare 19 = .ok (.invokevirtual 164, 3) := by decide +kernel
theorem dX5_compare_22 : decode cX5_compare 22 = .ok (.pop, 1) := by decide +kernel
theorem dX5_compare_23 : decode cX5_compare 23 = .ok (.return_, 1) := by decide +kernel
theorem dX5_stored_0 : decode cX5_stored 0 = .ok (.iload_n 1, 1) := by decide +kernel
theorem dX5_stored_1 : decode cX5_stored 1 = .ok (.tableswitch 48 16 18 #[27, 34, 41], 27) := by decide +kernel
theorem dX5_stored_28 : decode cX5_stored 28 = .ok (.aload_n 0, 1) := by decide +kernel
theorem dX5_stored_29 : decode cX5_stored 29 = .ok (.getfield 161, 3) := by decide +kernel
theorem dX5_stored_32 : decode cX5_stored 32 = .ok (.goto 18, 3) := by decide +kernel
theorem dX5_stored_35 : decode cX5_stored 35 = .ok (.aload_n 0, 1) := by decide +kernel
theorem dX5_stored_36 : decode cX5_stored 36 = .ok (.getfield 149, 3) := by decide +kernel
theorem dX5_stored_39 : decode cX5_stored 39 = .ok (.goto 11, 3) := by decide +kernel
theorem dX5_stored_42 : decode cX5_stored 42 = .ok (.aload_n 0, 1) := by decide +kernel
theorem dX5_stored_43 : decode cX5_stored 43 = .ok (.getfield 152, 3) := by decide +kernel
theorem dX5_stored_46 : decode cX5_stored 46 = .ok (.goto 4, 3) := by decide +kernel
theorem dX5_stored_49 : decode cX5_stored 49 = .ok (.iconst 0, 1) := by decide +kernel
theorem dX5_stored_50 : decode cX5_stored 50 = .ok (.ireturn, 1) := by decide +kernel
theorem dX5_change_0 : decode cX5_change 0 = .ok (.iload_n 3, 1) := by decide +kernel
theorem dX5_change_1 : decode cX5_change 1 = .ok (.iconst 1, 1) := by decide +kernel
theorem dX5_change_2 : decode cX5_change 2 = .ok (.if_icmp .ne 20, 3) := by decide +kernel
theorem dX5_change_5 : decode cX5_change 5 = .ok (.aload_n 0, 1) := by decide +kernel
theorem dX5_change_6 : decode cX5_change 6 = .ok (.aload_n 0, 1) := by decide +kernel
theorem dX5_change_7 : decode cX5_change 7 = .ok (.iload_n 1, 1) := by decide +kernel
theorem dX5_change_8 : decode cX5_change 8 = .ok (.iload_n 2, 1) := by decide +kernel
theorem dX5_change_9 : decode cX5_change 9 = .ok (.aload_n 0, 1) := by decide +kernel
theorem dX5_change_10 : decode cX5_change 10 = .ok (.getfield 161, 3) := by decide +kernel
theorem dX5_change_13 : decode cX5_change 13 = .ok (.invokevirtual 187, 3) := by decide +kernel
theorem dX5_change_16 : decode cX5_change 16 = .ok (.putfield 161, 3) := by decide +kernel
theorem dX5_change_19 : decode cX5_change 19 = .ok (.goto 27, 3) := by decide +kernel
theorem dX5_change_22 : decode cX5_change 22 = .ok (.aload_n 0, 1) := by decide +kernel
theorem dX5_change_23 : decode cX5_change 23 = .ok (.getfield 20, 3) := by decide +kernel
theorem dX5_change_26 : decode cX5_change 26 = .ok (.iload 4, 2) := by decide +kernel
theorem dX5_change_28 : decode cX5_change 28 = .ok (.aload_n 0, 1) := by decide +kernel
theorem dX5_change_29 : decode cX5_change 29 = .ok (.iload_n 1, 1) := by decide +kernel
theorem dX5_change_30 : decode cX5_change 30 = .ok (.iload_n 2, 1) := by decide +kernel
theorem dX5_change_31 : decode cX5_change 31 = .ok (.aload_n 0, 1) := by decide +kernel
theorem dX5_change_32 : decode cX5_change 32 = .ok (.getfield 20, 3) := by decide +kernel
theorem dX5_change_35 : decode cX5_change 35 = .ok (.iload 4, 2) := by decide +kernel
theorem dX5_change_37 : decode cX5_change 37 = .ok (.invokevirtual 86, 3) := by decide +kernel
theorem dX5_change_40 : decode cX5_change 40 = .ok (.invokevirtual 187, 3) := by decide +kernel
theorem dX5_change_43 : decode cX5_change 43 = .ok (.invokevirtual 125, 3) := by decide +kernel
theorem dX5_change_46 : decode cX5_change 46 = .ok (.return_, 1) := by decide +kernel
theorem dX5_changed_0 : decode cX5_changed 0 = .ok (.iload_n 1, 1) := by decide +kernel
theorem dX5_changed_1 : decode cX5_changed 1 = .ok (.tableswitch 192 32 40 #[51, 63, 82, 93, 114, 122, 130, 156, 184], 51) := by decide +kernel
theorem dX5_changed_52 : decode cX5_changed 52 = .ok (.aload_n 0, 1) := by decide +kernel
theorem dX5_changed_53 : decode cX5_changed 53 = .ok (.iload_n 3, 1) := by decide +kernel
theorem dX5_changed_54 : decode cX5_changed 54 = .ok (.iconst 1, 1) := by decide +kernel
theorem dX5_changed_55 : decode cX5_changed 55 = .ok (.ishl, 1) := by decide +kernel
theorem dX5_changed_56 : decode cX5_changed 56 = .ok (.iload_n 3, 1) := by decide +kernel
theorem dX5_changed_57 : decode cX5_changed 57 = .ok (.bipush 7, 2) := by decide +kernel
theorem dX5_changed_59 : decode cX5_changed 59 = .ok (.ishr, 1) := by decide +kernel
theorem dX5_changed_60 : decode cX5_changed 60 = .ok (.invokevirtual 191, 3) := by decide +kernel
theorem dX5_changed_63 : decode cX5_changed 63 = .ok (.ireturn, 1) := by decide +kernel
theorem dX5_changed_64 : decode cX5_changed 64 = .ok (.aload_n 0, 1) := by decide +kernel
theorem dX5_changed_65 : decode cX5_changed 65 = .ok (.iload_n 3, 1) := by decide +kernel
theorem dX5_changed_66 : decode cX5_changed 66 = .ok (.iconst 1, 1) := by decide +kernel
theorem dX5_changed_67 : decode cX5_changed 67 = .ok (.ishl, 1) := by decide +kernel
theorem dX5_changed_68 : decode cX5_changed 68 = .ok (.aload_n 0, 1) := by decide +kernel
theorem dX5_changed_69 : decode cX5_changed 69 = .ok (.getfield 9, 3) := by decide +kernel
theorem dX5_changed_72 : decode cX5_changed 72 = .ok (.iconst 1, 1) := by decide +kernel
theorem dX5_changed_73 : decode cX5_changed 73 = .ok (.iand, 1) := by decide +kernel
theorem dX5_changed_74 : decode cX5_changed 74 = .ok (.ior, 1) := by decide +kernel
theorem dX5_changed_75 : decode cX5_changed 75 = .ok (.iload_n 3, 1) := by decide +kernel
theorem dX5_changed_76 : decode cX5_changed 76 = .ok (.bipush 7, 2) := by decide +kernel
theorem dX5_changed_78 : decode cX5_changed 78 = .ok (.ishr, 1) := by decide +kernel
theorem dX5_changed_79 : decode cX5_changed 79 = .ok (.invokevirtual 191, 3) := by decide +kernel
theorem dX5_changed_82 : decode cX5_changed 82 = .ok (.ireturn, 1) := by decide +kernel
theorem dX5_changed_83 : decode cX5_changed 83 = .ok (.aload_n 0, 1) := by decide +kernel
theorem dX5_changed_84 : decode cX5_changed 84 = .ok (.iload_n 3, 1) := by decide +kernel
theorem dX5_changed_85 : decode cX5_changed 85 = .ok (.iconst 1, 1) := by decide +kernel
theorem dX5_changed_86 : decode cX5_changed 86 = .ok (.ishr, 1) := by decide +kernel
theorem dX5_changed_87 : decode cX5_changed 87 = .ok (.iload_n 3, 1) := by decide +kernel
theorem dX5_changed_88 : decode cX5_changed 88 = .ok (.iconst 1, 1) := by decide +kernel
theorem dX5_changed_89 : decode cX5_changed 89 = .ok (.iand, 1) := by decide +kernel
theorem dX5_changed_90 : decode cX5_changed 90 = .ok (.invokevirtual 191, 3) := by decide +kernel
theorem dX5_changed_93 : decode cX5_changed 93 = .ok (.ireturn, 1) := by decide +kernel
theorem dX5_changed_94 : decode cX5_changed 94 = .ok (.aload_n 0, 1) := by decide +kernel
theorem dX5_changed_95 : decode cX5_changed 95 = .ok (.iload_n 3, 1) := by decide +kernel
theorem dX5_changed_96 : decode cX5_changed 96 = .ok (.iconst 1, 1) := by decide +kernel
theorem dX5_changed_97 : decode cX5_changed 97 = .ok (.ishr, 1) := by decide +kernel
theorem dX5_changed_98 : decode cX5_changed 98 = .ok (.aload_n 0, 1) := by decide +kernel
theorem dX5_changed_99 : decode cX5_changed 99 = .ok (.getfield 9, 3) := by decide +kernel
theorem dX5_changed_102 : decode cX5_changed 102 = .ok (.iconst 1, 1) := by decide +kernel
theorem dX5_changed_103 : decode cX5_changed 103 = .ok (.iand, 1) := by decide +kernel
theorem dX5_changed_104 : decode cX5_changed 104 = .ok (.bipush 7, 2) := by decide +kernel
theorem dX5_changed_106 : decode cX5_changed 106 = .ok (.ishl, 1) := by decide +kernel
theorem dX5_changed_107 : decode cX5_changed 107 = .ok (.ior, 1) := by decide +kernel
theorem dX5_changed_108 : decode cX5_changed 108 = .ok (.iload_n 3, 1) := by decide +kernel
theorem dX5_changed_109 : decode cX5_changed 109 = .ok (.iconst 1, 1) := by decide +kernel
theorem dX5_changed_110 : decode cX5_changed 110 = .ok (.iand, 1) := by decide +kernel
theorem dX5_changed_111 : decode cX5_changed 111 = .ok (.invokevirtual 191, 3) := by decide +kernel
theorem dX5_changed_114 : decode cX5_changed 114 = .ok (.ireturn, 1) := by decide +kernel
theorem dX5_changed_115 : decode cX5_changed 115 = .ok (.aload_n 0, 1) := by decide +kernel
theorem dX5_changed_116 : decode cX5_changed 116 = .ok (.iload_n 3, 1) := by decide +kernel
theorem dX5_changed_117 : decode cX5_changed 117 = .ok (.iconst 1, 1) := by decide +kernel
theorem dX5_changed_118 : decode cX5_changed 118 = .ok (.iadd, 1) := by decide +kernel
theorem dX5_changed_119 : decode cX5_changed 119 = .ok (.invokevirtual 164, 3) := by decide +kernel
theorem dX5_changed_122 : decode cX5_changed 122 = .ok (.ireturn, 1) := by decide +kernel
theorem dX5_changed_123 : decode cX5_changed 123 = .ok (.aload_n 0, 1) := by decide +kernel
theorem dX5_changed_124 : decode cX5_changed 124 = .ok (.iload_n 3, 1) := by decide +kernel
theorem dX5_changed_125 : decode cX5_changed 125 = .ok (.iconst 1, 1) := by decide +kernel
theorem dX5_changed_126 : decode cX5_changed 126 = .ok (.isub, 1) := by decide +kernel
theorem dX5_changed_127 : decode cX5_changed 127 = .ok (.invokevirtual 164, 3) := by decide +kernel
theorem dX5_changed_130 : decode cX5_changed 130 = .ok (.ireturn, 1) := by decide +kernel
theorem dX5_changed_131 : decode cX5_changed 131 = .ok (.aload_n 0, 1) := by decide +kernel
theorem dX5_changed_132 : decode cX5_changed 132 = .ok (.iconst 2, 1) := by decide +kernel
theorem dX5_changed_133 : decode cX5_changed 133 = .ok (.aload_n 0, 1) := by decide +kernel
theorem dX5_changed_134 : decode cX5_changed 134 = .ok (.getfield 161, 3) := by decide +kernel
theorem dX5_changed_137 : decode cX5_changed 137 = .ok (.iload_n 3, 1) := by decide +kernel
theorem dX5_changed_138 : decode cX5_changed 138 = .ok (.iand, 1) := by decide +kernel
theorem dX5_changed_139 : decode cX5_changed 139 = .ok (.ifCond .ne 7, 3) := by decide +kernel
theorem dX5_changed_142 : decode cX5_changed 142 = .ok (.iconst 1, 1) := by decide +kernel
theorem dX5_changed_143 : decode cX5_changed 143 = .ok (.goto 4, 3) := by decide +kernel
theorem dX5_changed_146 : decode cX5_changed 146 = .ok (.iconst 0, 1) := by decide +kernel
theorem dX5_changed_147 : decode cX5_changed 147 = .ok (.invokevirtual 179, 3) := by decide +kernel
theorem dX5_changed_150 : decode cX5_changed 150 = .ok (.iload_n 3, 1) := by decide +kernel
theorem dX5_changed_151 : decode cX5_changed 151 = .ok (.aload_n 0, 1) := by decide +kernel
theorem dX5_changed_152 : decode cX5_changed 152 = .ok (.getfield 161, 3) := by decide +kernel
theorem dX5_changed_155 : decode cX5_changed 155 = .ok (.ior, 1) := by decide +kernel
theorem dX5_changed_156 : decode cX5_changed 156 = .ok (.ireturn, 1) := by decide +kernel
theorem dX5_changed_157 : decode cX5_changed 157 = .ok (.aload_n 0, 1) := by decide +kernel
theorem dX5_changed_158 : decode cX5_changed 158 = .ok (.iconst 2, 1) := by decide +kernel
theorem dX5_changed_159 : decode cX5_changed 159 = .ok (.aload_n 0, 1) := by decide +kernel
theorem dX5_changed_160 : decode cX5_changed 160 = .ok (.getfield 161, 3) := by decide +kernel
theorem dX5_changed_163 : decode cX5_changed 163 = .ok (.iload_n 3, 1) := by decide +kernel
theorem dX5_changed_164 : decode cX5_changed 164 = .ok (.iand, 1) := by decide +kernel
theorem dX5_changed_165 : decode cX5_changed 165 = .ok (.ifCond .ne 7, 3) := by decide +kernel
theorem dX5_changed_168 : decode cX5_changed 168 = .ok (.iconst 1, 1) := by decide +kernel
theorem dX5_changed_169 : decode cX5_changed 169 = .ok (.goto 4, 3) := by decide +kernel
theorem dX5_changed_172 : decode cX5_changed 172 = .ok (.iconst 0, 1) := by decide +kernel
theorem dX5_changed_173 : decode cX5_changed 173 = .ok (.invokevirtual 179, 3) := by decide +kernel
theorem dX5_changed_176 : decode cX5_changed 176 = .ok (.iload_n 3, 1) := by decide +kernel
theorem dX5_changed_177 : decode cX5_changed 177 = .ok (.aload_n 0, 1) := by decide +kernel
theorem dX5_changed_178 : decode cX5_changed 178 = .ok (.getfield 161, 3) := by decide +kernel
theorem dX5_changed_181 : decode cX5_changed 181 = .ok (.iconst (-1), 1) := by decide +kernel
theorem dX5_changed_182 : decode cX5_changed 182 = .ok (.ixor, 1) := by decide +kernel
theorem dX5_changed_183 : decode cX5_changed 183 = .ok (.iand, 1) := by decide +kernel
theorem dX5_changed_184 : decode cX5_changed 184 = .ok (.ireturn, 1) := by decide +kernel
theorem dX5_changed_185 : decode cX5_changed 185 = .ok (.iload_n 3, 1) := by decide +kernel
theorem dX5_changed_186 : decode cX5_changed 186 = .ok (.iconst 1, 1) := by decide +kernel
theorem dX5_changed_187 : decode cX5_changed 187 = .ok (.iload_n 2, 1) := by decide +kernel
theorem dX5_changed_188 : decode cX5_changed 188 = .ok (.ishl, 1) := by decide +kernel
theorem dX5_changed_189 : decode cX5_changed 189 = .ok (.iconst (-1), 1) := by decide +kernel
theorem dX5_changed_190 : decode cX5_changed 190 = .ok (.ixor, 1) := by decide +kernel
theorem dX5_changed_191 : decode cX5_changed 191 = .ok (.iand, 1) := by decide +kernel
theorem dX5_changed_192 : decode cX5_changed 192 = .ok (.ireturn, 1) := by decide +kernel
theorem dX5_changed_193 : decode cX5_changed 193 = .ok (.iload_n 3, 1) := by decide +kernel
theorem dX5_changed_194 : decode cX5_changed 194 = .ok (.iconst 1, 1) := by decide +kernel
theorem dX5_changed_195 : decode cX5_changed 195 = .ok (.iload_n 2, 1) := by decide +kernel
theorem dX5_changed_196 : decode cX5_changed 196 = .ok (.ishl, 1) := by decide +kernel
theorem dX5_changed_197 : decode cX5_changed 197 = .ok (.ior, 1) := by decide +kernel
theorem dX5_changed_198 : decode cX5_changed 198 = .ok (.ireturn, 1) := by decide +kernel
theorem dX5_shifted_0 : decode cX5_shifted 0 = .ok (.aload_n 0, 1) := by decide +kernel
theorem dX5_shifted_1 : decode cX5_shifted 1 = .ok (.iconst 1, 1) := by decide +kernel
theorem dX5_shifted_2 : decode cX5_shifted 2 = .ok (.iload_n 2, 1) := by decide +kernel
theorem dX5_shifted_3 : decode cX5_shifted 3 = .ok (.ifCond .eq 7, 3) := by decide +kernel
theorem dX5_shifted_6 : decode cX5_shifted 6 = .ok (.iconst 1, 1) := by decide +kernel
theorem dX5_shifted_7 : decode cX5_shifted 7 = .ok (.goto 4, 3) := by decide +kernel
theorem dX5_shifted_10 : decode cX5_shifted 10 = .ok (.iconst 0, 1) := by decide +kernel
theorem dX5_shifted_11 : decode cX5_shifted 11 = .ok (.invokevirtual 179, 3) := by decide +kernel
theorem dX5_shifted_14 : decode cX5_shifted 14 = .ok (.aload_n 0, 1) := by decide +kernel
theorem dX5_shifted_15 : decode cX5_shifted 15 = .ok (.iload_n 1, 1) := by decide +kernel
theorem dX5_shifted_16 : decode cX5_shifted 16 = .ok (.invokevirtual 164, 3) := by decide +kernel
theorem dX5_shifted_19 : decode cX5_shifted 19 = .ok (.ireturn, 1) := by decide +kernel
theorem dX5_move_0 : decode cX5_move 0 = .ok (.iload_n 1, 1) := by decide +kernel
theorem dX5_move_1 : decode cX5_move 1 = .ok (.tableswitch 194 48 56 #[51, 68, 85, 102, 119, 134, 149, 164, 179], 51) := by decide +kernel
theorem dX5_move_52 : decode cX5_move 52 = .ok (.aload_n 0, 1) := by decide +kernel
theorem dX5_move_53 : decode cX5_move 53 = .ok (.aload_n 0, 1) := by decide +kernel
theorem dX5_move_54 : decode cX5_move 54 = .ok (.aload_n 0, 1) := by decide +kernel
theorem dX5_move_55 : decode cX5_move 55 = .ok (.getfield 149, 3) := by decide +kernel
theorem dX5_move_58 : decode cX5_move 58 = .ok (.iconst 1, 1) := by decide +kernel
theorem dX5_move_59 : decode cX5_move 59 = .ok (.iadd, 1) := by decide +kernel
theorem dX5_move_60 : decode cX5_move 60 = .ok (.invokevirtual 164, 3) := by decide +kernel
theorem dX5_move_63 : decode cX5_move 63 = .ok (.putfield 149, 3) := by decide +kernel
theorem dX5_move_66 : decode cX5_move 66 = .ok (.goto 137, 3) := by decide +kernel
theorem dX5_move_69 : decode cX5_move 69 = .ok (.aload_n 0, 1) := by decide +kernel
theorem dX5_move_70 : decode cX5_move 70 = .ok (.aload_n 0, 1) := by decide +kernel
theorem dX5_move_71 : decode cX5_move 71 = .ok (.aload_n 0, 1) := by decide +kernel
theorem dX5_move_72 : decode cX5_move 72 = .ok (.getfield 152, 3) := by decide +kernel
theorem dX5_move_75 : decode cX5_move 75 = .ok (.iconst 1, 1) := by decide +kernel
theorem dX5_move_76 : decode cX5_move 76 = .ok (.iadd, 1) := by decide +kernel
theorem dX5_move_77 : decode cX5_move 77 = .ok (.invokevirtual 164, 3) := by decide +kernel
theorem dX5_move_80 : decode cX5_move 80 = .ok (.putfield 152, 3) := by decide +kernel
theorem dX5_move_83 : decode cX5_move 83 = .ok (.goto 120, 3) := by decide +kernel
theorem dX5_move_86 : decode cX5_move 86 = .ok (.aload_n 0, 1) := by decide +kernel
theorem dX5_move_87 : decode cX5_move 87 = .ok (.aload_n 0, 1) := by decide +kernel
theorem dX5_move_88 : decode cX5_move 88 = .ok (.aload_n 0, 1) := by decide +kernel
theorem dX5_move_89 : decode cX5_move 89 = .ok (.getfield 149, 3) := by decide +kernel
theorem dX5_move_92 : decode cX5_move 92 = .ok (.iconst 1, 1) := by decide +kernel
theorem dX5_move_93 : decode cX5_move 93 = .ok (.isub, 1) := by decide +kernel
theorem dX5_move_94 : decode cX5_move 94 = .ok (.invokevirtual 164, 3) := by decide +kernel
theorem dX5_move_97 : decode cX5_move 97 = .ok (.putfield 149, 3) := by decide +kernel
theorem dX5_move_100 : decode cX5_move 100 = .ok (.goto 103, 3) := by decide +kernel
theorem dX5_move_103 : decode cX5_move 103 = .ok (.aload_n 0, 1) := by decide +kernel
theorem dX5_move_104 : decode cX5_move 104 = .ok (.aload_n 0, 1) := by decide +kernel
theorem dX5_move_105 : decode cX5_move 105 = .ok (.aload_n 0, 1) := by decide +kernel
theorem dX5_move_106 : decode cX5_move 106 = .ok (.getfield 152, 3) := by decide +kernel
theorem dX5_move_109 : decode cX5_move 109 = .ok (.iconst 1, 1) := by decide +kernel
theorem dX5_move_110 : decode cX5_move 110 = .ok (.isub, 1) := by decide +kernel
theorem dX5_move_111 : decode cX5_move 111 = .ok (.invokevirtual 164, 3) := by decide +kernel
theorem dX5_move_114 : decode cX5_move 114 = .ok (.putfield 152, 3) := by decide +kernel
theorem dX5_move_117 : decode cX5_move 117 = .ok (.goto 86, 3) := by decide +kernel
theorem dX5_move_120 : decode cX5_move 120 = .ok (.aload_n 0, 1) := by decide +kernel
theorem dX5_move_121 : decode cX5_move 121 = .ok (.aload_n 0, 1) := by decide +kernel
theorem dX5_move_122 : decode cX5_move 122 = .ok (.aload_n 0, 1) := by decide +kernel
theorem dX5_move_123 : decode cX5_move 123 = .ok (.getfield 161, 3) := by decide +kernel
theorem dX5_move_126 : decode cX5_move 126 = .ok (.invokevirtual 164, 3) := by decide +kernel
theorem dX5_move_129 : decode cX5_move 129 = .ok (.putfield 149, 3) := by decide +kernel
theorem dX5_move_132 : decode cX5_move 132 = .ok (.goto 71, 3) := by decide +kernel
theorem dX5_move_135 : decode cX5_move 135 = .ok (.aload_n 0, 1) := by decide +kernel
theorem dX5_move_136 : decode cX5_move 136 = .ok (.aload_n 0, 1) := by decide +kernel
theorem dX5_move_137 : decode cX5_move 137 = .ok (.aload_n 0, 1) := by decide +kernel
theorem dX5_move_138 : decode cX5_move 138 = .ok (.getfield 161, 3) := by decide +kernel
theorem dX5_move_141 : decode cX5_move 141 = .ok (.invokevirtual 164, 3) := by decide +kernel
theorem dX5_move_144 : decode cX5_move 144 = .ok (.putfield 152, 3) := by decide +kernel
theorem dX5_move_147 : decode cX5_move 147 = .ok (.goto 56, 3) := by decide +kernel
theorem dX5_move_150 : decode cX5_move 150 = .ok (.aload_n 0, 1) := by decide +kernel
theorem dX5_move_151 : decode cX5_move 151 = .ok (.aload_n 0, 1) := by decide +kernel
theorem dX5_move_152 : decode cX5_move 152 = .ok (.aload_n 0, 1) := by decide +kernel
theorem dX5_move_153 : decode cX5_move 153 = .ok (.getfield 149, 3) := by decide +kernel
theorem dX5_move_156 : decode cX5_move 156 = .ok (.invokevirtual 164, 3) := by decide +kernel
theorem dX5_move_159 : decode cX5_move 159 = .ok (.putfield 161, 3) := by decide +kernel
theorem dX5_move_162 : decode cX5_move 162 = .ok (.goto 41, 3) := by decide +kernel
theorem dX5_move_165 : decode cX5_move 165 = .ok (.aload_n 0, 1) := by decide +kernel
theorem dX5_move_166 : decode cX5_move 166 = .ok (.aload_n 0, 1) := by decide +kernel
theorem dX5_move_167 : decode cX5_move 167 = .ok (.aload_n 0, 1) := by decide +kernel
theorem dX5_move_168 : decode cX5_move 168 = .ok (.getfield 152, 3) := by decide +kernel
theorem dX5_move_171 : decode cX5_move 171 = .ok (.invokevirtual 164, 3) := by decide +kernel
theorem dX5_move_174 : decode cX5_move 174 = .ok (.putfield 161, 3) := by decide +kernel
theorem dX5_move_177 : decode cX5_move 177 = .ok (.goto 26, 3) := by decide +kernel
theorem dX5_move_180 : decode cX5_move 180 = .ok (.aload_n 0, 1) := by decide +kernel
theorem dX5_move_181 : decode cX5_move 181 = .ok (.aload_n 0, 1) := by decide +kernel
theorem dX5_move_182 : decode cX5_move 182 = .ok (.aload_n 0, 1) := by decide +kernel
theorem dX5_move_183 : decode cX5_move 183 = .ok (.getfield 24, 3) := by decide +kernel
theorem dX5_move_186 : decode cX5_move 186 = .ok (.invokevirtual 164, 3) := by decide +kernel
theorem dX5_move_189 : decode cX5_move 189 = .ok (.putfield 149, 3) := by decide +kernel
theorem dX5_move_192 : decode cX5_move 192 = .ok (.goto 11, 3) := by decide +kernel
theorem dX5_move_195 : decode cX5_move 195 = .ok (.aload_n 0, 1) := by decide +kernel
theorem dX5_move_196 : decode cX5_move 196 = .ok (.aload_n 0, 1) := by decide +kernel
theorem dX5_move_197 : decode cX5_move 197 = .ok (.getfield 149, 3) := by decide +kernel
theorem dX5_move_200 : decode cX5_move 200 = .ok (.putfield 24, 3) := by decide +kernel
theorem dX5_move_203 : decode cX5_move 203 = .ok (.return_, 1) := by decide +kernel
theorem dX5_changeState_0 : decode cX5_changeState 0 = .ok (.iload_n 1, 1) := by decide +kernel
theorem dX5_changeState_1 : decode cX5_changeState 1 = .ok (.tableswitch 137 64 73 #[55, 64, 73, 82, 91, 101, 111, 137, 121, 129], 55) := by decide +kernel
theorem dX5_changeState_56 : decode cX5_changeState 56 = .ok (.aload_n 0, 1) := by decide +kernel
theorem dX5_changeState_57 : decode cX5_changeState 57 = .ok (.iconst 1, 1) := by decide +kernel
theorem dX5_changeState_58 : decode cX5_changeState 58 = .ok (.iconst 0, 1) := by decide +kernel
theorem dX5_changeState_59 : decode cX5_changeState 59 = .ok (.invokevirtual 179, 3) := by decide +kernel
theorem dX5_changeState_62 : decode cX5_changeState 62 = .ok (.goto 76, 3) := by decide +kernel
theorem dX5_changeState_65 : decode cX5_changeState 65 = .ok (.aload_n 0, 1) := by decide +kernel
theorem dX5_changeState_66 : decode cX5_changeState 66 = .ok (.iconst 1, 1) := by decide +kernel
theorem dX5_changeState_67 : decode cX5_changeState 67 = .ok (.iconst 1, 1) := by decide +kernel
theorem dX5_changeState_68 : decode cX5_changeState 68 = .ok (.invokevirtual 179, 3) := by decide +kernel
theorem dX5_changeState_71 : decode cX5_changeState 71 = .ok (.goto 67, 3) := by decide +kernel
theorem dX5_changeState_74 : decode cX5_changeState 74 = .ok (.aload_n 0, 1) := by decide +kernel
theorem dX5_changeState_75 : decode cX5_changeState 75 = .ok (.iconst 4, 1) := by decide +kernel
theorem dX5_changeState_76 : decode cX5_changeState 76 = .ok (.iconst 0, 1) := by decide +kernel
theorem dX5_changeState_77 : decode cX5_changeState 77 = .ok (.invokevirtual 179, 3) := by decide +kernel
theorem dX5_changeState_80 : decode cX5_changeState 80 = .ok (.goto 58, 3) := by decide +kernel
theorem dX5_changeState_83 : decode cX5_changeState 83 = .ok (.aload_n 0, 1) := by decide +kernel
theorem dX5_changeState_84 : decode cX5_changeState 84 = .ok (.iconst 4, 1) := by decide +kernel
theorem dX5_changeState_85 : decode cX5_changeState 85 = .ok (.iconst 1, 1) := by decide +kernel
theorem dX5_changeState_86 : decode cX5_changeState 86 = .ok (.invokevirtual 179, 3) := by decide +kernel
theorem dX5_changeState_89 : decode cX5_changeState 89 = .ok (.goto 49, 3) := by decide +kernel
theorem dX5_changeState_92 : decode cX5_changeState 92 = .ok (.aload_n 0, 1) := by decide +kernel
theorem dX5_changeState_93 : decode cX5_changeState 93 = .ok (.bipush 64, 2) := by decide +kernel
theorem dX5_changeState_95 : decode cX5_changeState 95 = .ok (.iconst 0, 1) := by decide +kernel
theorem dX5_changeState_96 : decode cX5_changeState 96 = .ok (.invokevirtual 179, 3) := by decide +kernel
theorem dX5_changeState_99 : decode cX5_changeState 99 = .ok (.goto 39, 3) := by decide +kernel
theorem dX5_changeState_102 : decode cX5_changeState 102 = .ok (.aload_n 0, 1) := by decide +kernel
theorem dX5_changeState_103 : decode cX5_changeState 103 = .ok (.bipush 8, 2) := by decide +kernel
theorem dX5_changeState_105 : decode cX5_changeState 105 = .ok (.iconst 0, 1) := by decide +kernel
theorem dX5_changeState_106 : decode cX5_changeState 106 = .ok (.invokevirtual 179, 3) := by decide +kernel
theorem dX5_changeState_109 : decode cX5_changeState 109 = .ok (.goto 29, 3) := by decide +kernel
theorem dX5_changeState_112 : decode cX5_changeState 112 = .ok (.aload_n 0, 1) := by decide +kernel
theorem dX5_changeState_113 : decode cX5_changeState 113 = .ok (.bipush 8, 2) := by decide +kernel
theorem dX5_changeState_115 : decode cX5_changeState 115 = .ok (.iconst 1, 1) := by decide +kernel
theorem dX5_changeState_116 : decode cX5_changeState 116 = .ok (.invokevirtual 179, 3) := by decide +kernel
theorem dX5_changeState_119 : decode cX5_changeState 119 = .ok (.goto 19, 3) := by decide +kernel
theorem dX5_changeState_122 : decode cX5_changeState 122 = .ok (.aload_n 0, 1) := by decide +kernel
theorem dX5_changeState_123 : decode cX5_changeState 123 = .ok (.iconst 1, 1) := by decide +kernel
theorem dX5_changeState_124 : decode cX5_changeState 124 = .ok (.putfield 35, 3) := by decide +kernel
theorem dX5_changeState_127 : decode cX5_changeState 127 = .ok (.goto 11, 3) := by decide +kernel
theorem dX5_changeState_130 : decode cX5_changeState 130 = .ok (.aload_n 0, 1) := by decide +kernel
theorem dX5_changeState_131 : decode cX5_changeState 131 = .ok (.iconst 1, 1) := by decide +kernel
theorem dX5_changeState_132 : decode cX5_changeState 132 = .ok (.putfield 39, 3) := by decide +kernel
theorem dX5_changeState_135 : decode cX5_changeState 135 = .ok (.goto 3, 3) := by decide +kernel
theorem dX5_changeState_138 : decode cX5_changeState 138 = .ok (.return_, 1) := by decide +kernel
theorem dX5_pushOrPull_0 : decode cX5_pushOrPull 0 = .ok (.iload_n 1, 1) := by decide +kernel
theorem dX5_pushOrPull_1 : decode cX5_pushOrPull 1 = .ok (.tableswitch 132 80 86 #[43, 54, 65, 76, 87, 102, 117], 43) := by decide +kernel
theorem dX5_pushOrPull_44 : decode cX5_pushOrPull 44 = .ok (.aload_n 0, 1) := by decide +kernel
theorem dX5_pushOrPull_45 : decode cX5_pushOrPull 45 = .ok (.aload_n 0, 1) := by decide +kernel
theorem dX5_pushOrPull_46 : decode cX5_pushOrPull 46 = .ok (.getfield 161, 3) := by decide +kernel
theorem dX5_pushOrPull_49 : decode cX5_pushOrPull 49 = .ok (.invokevirtual 83, 3) := by decide +kernel
theorem dX5_pushOrPull_52 : decode cX5_pushOrPull 52 = .ok (.goto 92, 3) := by decide +kernel
theorem dX5_pushOrPull_55 : decode cX5_pushOrPull 55 = .ok (.aload_n 0, 1) := by decide +kernel
theorem dX5_pushOrPull_56 : decode cX5_pushOrPull 56 = .ok (.aload_n 0, 1) := by decide +kernel
theorem dX5_pushOrPull_57 : decode cX5_pushOrPull 57 = .ok (.getfield 149, 3) := by decide +kernel
theorem dX5_pushOrPull_60 : decode cX5_pushOrPull 60 = .ok (.invokevirtual 83, 3) := by decide +kernel
theorem dX5_pushOrPull_63 : decode cX5_pushOrPull 63 = .ok (.goto 81, 3) := by decide +kernel
theorem dX5_pushOrPull_66 : decode cX5_pushOrPull 66 = .ok (.aload_n 0, 1) := by decide +kernel
theorem dX5_pushOrPull_67 : decode cX5_pushOrPull 67 = .ok (.aload_n 0, 1) := by decide +kernel
theorem dX5_pushOrPull_68 : decode cX5_pushOrPull 68 = .ok (.getfield 152, 3) := by decide +kernel
theorem dX5_pushOrPull_71 : decode cX5_pushOrPull 71 = .ok (.invokevirtual 83, 3) := by decide +kernel
theorem dX5_pushOrPull_74 : decode cX5_pushOrPull 74 = .ok (.goto 70, 3) := by decide +kernel
theorem dX5_pushOrPull_77 : decode cX5_pushOrPull 77 = .ok (.aload_n 0, 1) := by decide +kernel
theorem dX5_pushOrPull_78 : decode cX5_pushOrPull 78 = .ok (.aload_n 0, 1) := by decide +kernel
theorem dX5_pushOrPull_79 : decode cX5_pushOrPull 79 = .ok (.getfield 9, 3) := by decide +kernel
theorem dX5_pushOrPull_82 : decode cX5_pushOrPull 82 = .ok (.invokevirtual 83, 3) := by decide +kernel
theorem dX5_pushOrPull_85 : decode cX5_pushOrPull 85 = .ok (.goto 59, 3) := by decide +kernel
theorem dX5_pushOrPull_88 : decode cX5_pushOrPull 88 = .ok (.aload_n 0, 1) := by decide +kernel
theorem dX5_pushOrPull_89 : decode cX5_pushOrPull 89 = .ok (.aload_n 0, 1) := by decide +kernel
theorem dX5_pushOrPull_90 : decode cX5_pushOrPull 90 = .ok (.aload_n 0, 1) := by decide +kernel
theorem dX5_pushOrPull_91 : decode cX5_pushOrPull 91 = .ok (.invokevirtual 194, 3) := by decide +kernel
theorem dX5_pushOrPull_94 : decode cX5_pushOrPull 94 = .ok (.invokevirtual 164, 3) := by decide +kernel
theorem dX5_pushOrPull_97 : decode cX5_pushOrPull 97 = .ok (.putfield 161, 3) := by decide +kernel
theorem dX5_pushOrPull_100 : decode cX5_pushOrPull 100 = .ok (.goto 44, 3) := by decide +kernel
theorem dX5_pushOrPull_103 : decode cX5_pushOrPull 103 = .ok (.aload_n 0, 1) := by decide +kernel
theorem dX5_pushOrPull_104 : decode cX5_pushOrPull 104 = .ok (.aload_n 0, 1) := by decide +kernel
theorem dX5_pushOrPull_105 : decode cX5_pushOrPull 105 = .ok (.aload_n 0, 1) := by decide +kernel
theorem dX5_pushOrPull_106 : decode cX5_pushOrPull 106 = .ok (.invokevirtual 194, 3) := by decide +kernel
theorem dX5_pushOrPull_109 : decode cX5_pushOrPull 109 = .ok (.invokevirtual 164, 3) := by decide +kernel
theorem dX5_pushOrPull_112 : decode cX5_pushOrPull 112 = .ok (.putfield 149, 3) := by decide +kernel
theorem dX5_pushOrPull_115 : decode cX5_pushOrPull 115 = .ok (.goto 29, 3) := by decide +kernel
theorem dX5_pushOrPull_118 : decode cX5_pushOrPull 118 = .ok (.aload_n 0, 1) := by decide +kernel
theorem dX5_pushOrPull_119 : decode cX5_pushOrPull 119 = .ok (.aload_n 0, 1) := by decide +kernel
theorem dX5_pushOrPull_120 : decode cX5_pushOrPull 120 = .ok (.aload_n 0, 1) := by decide +kernel
theorem dX5_pushOrPull_121 : decode cX5_pushOrPull 121 = .ok (.invokevirtual 194, 3) := by decide +kernel
theorem dX5_pushOrPull_124 : decode cX5_pushOrPull 124 = .ok (.invokevirtual 164, 3) := by decide +kernel
theorem dX5_pushOrPull_127 : decode cX5_pushOrPull 127 = .ok (.putfield 152, 3) := by decide +kernel
theorem dX5_pushOrPull_130 : decode cX5_pushOrPull 130 = .ok (.goto 14, 3) := by decide +kernel
theorem dX5_pushOrPull_133 : decode cX5_pushOrPull 133 = .ok (.aload_n 0, 1) := by decide +kernel
theorem dX5_pushOrPull_134 : decode cX5_pushOrPull 134 = .ok (.aload_n 0, 1) := by decide +kernel
theorem dX5_pushOrPull_135 : decode cX5_pushOrPull 135 = .ok (.invokevirtual 194, 3) := by decide +kernel
theorem dX5_pushOrPull_138 : decode cX5_pushOrPull 138 = .ok (.bipush 48, 2) := by decide +kernel
theorem dX5_pushOrPull_140 : decode cX5_pushOrPull 140 = .ok (.ior, 1) := by decide +kernel
theorem dX5_pushOrPull_141 : decode cX5_pushOrPull 141 = .ok (.putfield 9, 3) := by decide +kernel
theorem dX5_pushOrPull_144 : decode cX5_pushOrPull 144 = .ok (.return_, 1) := by decide +kernel
theorem dX5_branch_0 : decode cX5_branch 0 = .ok (.iload_n 1, 1) := by decide +kernel
theorem dX5_branch_1 : decode cX5_branch 1 = .ok (.tableswitch 311 96 106 #[59, 83, 107, 130, 153, 175, 197, 219, 311, 241, 276], 59) := by decide +kernel
theorem dX5_branch_60 : decode cX5_branch 60 = .ok (.aload_n 0, 1) := by decide +kernel
theorem dX5_branch_61 : decode cX5_branch 61 = .ok (.aload_n 0, 1) := by decide +kernel
theorem dX5_branch_62 : decode cX5_branch 62 = .ok (.getfield 9, 3) := by decide +kernel
theorem dX5_branch_65 : decode cX5_branch 65 = .ok (.sipush 128, 3) := by decide +kernel
theorem dX5_branch_68 : decode cX5_branch 68 = .ok (.iand, 1) := by decide +kernel
theorem dX5_branch_69 : decode cX5_branch 69 = .ok (.ifCond .ne 7, 3) := by decide +kernel
theorem dX5_branch_72 : decode cX5_branch 72 = .ok (.iconst 1, 1) := by decide +kernel
theorem dX5_branch_73 : decode cX5_branch 73 = .ok (.goto 4, 3) := by decide +kernel
theorem dX5_branch_76 : decode cX5_branch 76 = .ok (.iconst 0, 1) := by decide +kernel
theorem dX5_branch_77 : decode cX5_branch 77 = .ok (.iload_n 3, 1) := by decide +kernel
theorem dX5_branch_78 : decode cX5_branch 78 = .ok (.invokevirtual 197, 3) := by decide +kernel
theorem dX5_branch_81 : decode cX5_branch 81 = .ok (.goto 237, 3) := by decide +kernel
theorem dX5_branch_84 : decode cX5_branch 84 = .ok (.aload_n 0, 1) := by decide +kernel
theorem dX5_branch_85 : decode cX5_branch 85 = .ok (.aload_n 0, 1) := by decide +kernel
theorem dX5_branch_86 : decode cX5_branch 86 = .ok (.getfield 9, 3) := by decide +kernel
theorem dX5_branch_89 : decode cX5_branch 89 = .ok (.sipush 128, 3) := by decide +kernel
theorem dX5_branch_92 : decode cX5_branch 92 = .ok (.iand, 1) := by decide +kernel
theorem dX5_branch_93 : decode cX5_branch 93 = .ok (.ifCond .eq 7, 3) := by decide +kernel
theorem dX5_branch_96 : decode cX5_branch 96 = .ok (.iconst 1, 1) := by decide +kernel
theorem dX5_branch_97 : decode cX5_branch 97 = .ok (.goto 4, 3) := by decide +kernel
theorem dX5_branch_100 : decode cX5_branch 100 = .ok (.iconst 0, 1) := by decide +kernel
theorem dX5_branch_101 : decode cX5_branch 101 = .ok (.iload_n 3, 1) := by decide +kernel
theorem dX5_branch_102 : decode cX5_branch 102 = .ok (.invokevirtual 197, 3) := by decide +kernel
theorem dX5_branch_105 : decode cX5_branch 105 = .ok (.goto 213, 3) := by decide +kernel
theorem dX5_branch_108 : decode cX5_branch 108 = .ok (.aload_n 0, 1) := by decide +kernel
end
section
theorem dX5_branch_109 : decode cX5_branch 109 = .ok (.aload_n 0, 1) := by decide +kernel
theorem dX5_branch_110 : decode cX5_branch 110 = .ok (.getfield 9, 3) := by decide +kernel
theorem dX5_branch_113 : decode cX5_branch 113 = .ok (.bipush 64, 2) := by decide +kernel
theorem dX5_branch_115 : decode cX5_branch 115 = .ok (.iand, 1) := by decide +kernel
theorem dX5_branch_116 : decode cX5_branch 116 = .ok (.ifCond .ne 7, 3) := by decide +kernel
theorem dX5_branch_119 : decode cX5_branch 119 = .ok (.iconst 1, 1) := by decide +kernel
theorem dX5_branch_120 : decode cX5_branch 120 = .ok (.goto 4, 3) := by decide +kernel
theorem dX5_branch_123 : decode cX5_branch 123 = .ok (.iconst 0, 1) := by decide +kernel
theorem dX5_branch_124 : decode cX5_branch 124 = .ok (.iload_n 3, 1) := by decide +kernel
theorem dX5_branch_125 : decode cX5_branch 125 = .ok (.invokevirtual 197, 3) := by decide +kernel
theorem dX5_branch_128 : decode cX5_branch 128 = .ok (.goto 190, 3) := by decide +kernel
theorem dX5_branch_131 : decode cX5_branch 131 = .ok (.aload_n 0, 1) := by decide +kernel
theorem dX5_branch_132 : decode cX5_branch 132 = .ok (.aload_n 0, 1) := by decide +kernel
theorem dX5_branch_133 : decode cX5_branch 133 = .ok (.getfield 9, 3) := by decide +kernel
theorem dX5_branch_136 : decode cX5_branch 136 = .ok (.bipush 64, 2) := by decide +kernel
theorem dX5_branch_138 : decode cX5_branch 138 = .ok (.iand, 1) := by decide +kernel
theorem dX5_branch_139 : decode cX5_branch 139 = .ok (.ifCond .eq 7, 3) := by decide +kernel
theorem dX5_branch_142 : decode cX5_branch 142 = .ok (.iconst 1, 1) := by decide +kernel
theorem dX5_branch_143 : decode cX5_branch 143 = .ok (.goto 4, 3) := by decide +kernel
theorem dX5_branch_146 : decode cX5_branch 146 = .ok (.iconst 0, 1) := by decide +kernel
theorem dX5_branch_147 : decode cX5_branch 147 = .ok (.iload_n 3, 1) := by decide +kernel
theorem dX5_branch_148 : decode cX5_branch 148 = .ok (.invokevirtual 197, 3) := by decide +kernel
theorem dX5_branch_151 : decode cX5_branch 151 = .ok (.goto 167, 3) := by decide +kernel
theorem dX5_branch_154 : decode cX5_branch 154 = .ok (.aload_n 0, 1) := by decide +kernel
theorem dX5_branch_155 : decode cX5_branch 155 = .ok (.aload_n 0, 1) := by decide +kernel
theorem dX5_branch_156 : decode cX5_branch 156 = .ok (.getfield 9, 3) := by decide +kernel
theorem dX5_branch_159 : decode cX5_branch 159 = .ok (.iconst 1, 1) := by decide +kernel
theorem dX5_branch_160 : decode cX5_branch 160 = .ok (.iand, 1) := by decide +kernel
theorem dX5_branch_161 : decode cX5_branch 161 = .ok (.ifCond .ne 7, 3) := by decide +kernel
theorem dX5_branch_164 : decode cX5_branch 164 = .ok (.iconst 1, 1) := by decide +kernel
theorem dX5_branch_165 : decode cX5_branch 165 = .ok (.goto 4, 3) := by decide +kernel
theorem dX5_branch_168 : decode cX5_branch 168 = .ok (.iconst 0, 1) := by decide +kernel
theorem dX5_branch_169 : decode cX5_branch 169 = .ok (.iload_n 3, 1) := by decide +kernel
theorem dX5_branch_170 : decode cX5_branch 170 = .ok (.invokevirtual 197, 3) := by decide +kernel
theorem dX5_branch_173 : decode cX5_branch 173 = .ok (.goto 145, 3) := by decide +kernel
theorem dX5_branch_176 : decode cX5_branch 176 = .ok (.aload_n 0, 1) := by decide +kernel
theorem dX5_branch_177 : decode cX5_branch 177 = .ok (.aload_n 0, 1) := by decide +kernel
theorem dX5_branch_178 : decode cX5_branch 178 = .ok (.getfield 9, 3) := by decide +kernel
theorem dX5_branch_181 : decode cX5_branch 181 = .ok (.iconst 1, 1) := by decide +kernel
theorem dX5_branch_182 : decode cX5_branch 182 = .ok (.iand, 1) := by decide +kernel
theorem dX5_branch_183 : decode cX5_branch 183 = .ok (.ifCond .eq 7, 3) := by decide +kernel
theorem dX5_branch_186 : decode cX5_branch 186 = .ok (.iconst 1, 1) := by decide +kernel
theorem dX5_branch_187 : decode cX5_branch 187 = .ok (.goto 4, 3) := by decide +kernel
theorem dX5_branch_190 : decode cX5_branch 190 = .ok (.iconst 0, 1) := by decide +kernel
theorem dX5_branch_191 : decode cX5_branch 191 = .ok (.iload_n 3, 1) := by decide +kernel
theorem dX5_branch_192 : decode cX5_branch 192 = .ok (.invokevirtual 197, 3) := by decide +kernel
theorem dX5_branch_195 : decode cX5_branch 195 = .ok (.goto 123, 3) := by decide +kernel
theorem dX5_branch_198 : decode cX5_branch 198 = .ok (.aload_n 0, 1) := by decide +kernel
theorem dX5_branch_199 : decode cX5_branch 199 = .ok (.aload_n 0, 1) := by decide +kernel
theorem dX5_branch_200 : decode cX5_branch 200 = .ok (.getfield 9, 3) := by decide +kernel
theorem dX5_branch_203 : decode cX5_branch 203 = .ok (.iconst 2, 1) := by decide +kernel
theorem dX5_branch_204 : decode cX5_branch 204 = .ok (.iand, 1) := by decide +kernel
theorem dX5_branch_205 : decode cX5_branch 205 = .ok (.ifCond .ne 7, 3) := by decide +kernel
theorem dX5_branch_208 : decode cX5_branch 208 = .ok (.iconst 1, 1) := by decide +kernel
theorem dX5_branch_209 : decode cX5_branch 209 = .ok (.goto 4, 3) := by decide +kernel
theorem dX5_branch_212 : decode cX5_branch 212 = .ok (.iconst 0, 1) := by decide +kernel
theorem dX5_branch_213 : decode cX5_branch 213 = .ok (.iload_n 3, 1) := by decide +kernel
theorem dX5_branch_214 : decode cX5_branch 214 = .ok (.invokevirtual 197, 3) := by decide +kernel
theorem dX5_branch_217 : decode cX5_branch 217 = .ok (.goto 101, 3) := by decide +kernel
theorem dX5_branch_220 : decode cX5_branch 220 = .ok (.aload_n 0, 1) := by decide +kernel
theorem dX5_branch_221 : decode cX5_branch 221 = .ok (.aload_n 0, 1) := by decide +kernel
theorem dX5_branch_222 : decode cX5_branch 222 = .ok (.getfield 9, 3) := by decide +kernel
theorem dX5_branch_225 : decode cX5_branch 225 = .ok (.iconst 2, 1) := by decide +kernel
theorem dX5_branch_226 : decode cX5_branch 226 = .ok (.iand, 1) := by decide +kernel
theorem dX5_branch_227 : decode cX5_branch 227 = .ok (.ifCond .eq 7, 3) := by decide +kernel
theorem dX5_branch_230 : decode cX5_branch 230 = .ok (.iconst 1, 1) := by decide +kernel
theorem dX5_branch_231 : decode cX5_branch 231 = .ok (.goto 4, 3) := by decide +kernel
theorem dX5_branch_234 : decode cX5_branch 234 = .ok (.iconst 0, 1) := by decide +kernel
theorem dX5_branch_235 : decode cX5_branch 235 = .ok (.iload_n 3, 1) := by decide +kernel
theorem dX5_branch_236 : decode cX5_branch 236 = .ok (.invokevirtual 197, 3) := by decide +kernel
theorem dX5_branch_239 : decode cX5_branch 239 = .ok (.goto 79, 3) := by decide +kernel
theorem dX5_branch_242 : decode cX5_branch 242 = .ok (.aload_n 0, 1) := by decide +kernel
theorem dX5_branch_243 : decode cX5_branch 243 = .ok (.aload_n 0, 1) := by decide +kernel
theorem dX5_branch_244 : decode cX5_branch 244 = .ok (.getfield 20, 3) := by decide +kernel
theorem dX5_branch_247 : decode cX5_branch 247 = .ok (.iload_n 3, 1) := by decide +kernel
theorem dX5_branch_248 : decode cX5_branch 248 = .ok (.sipush 255, 3) := by decide +kernel
theorem dX5_branch_251 : decode cX5_branch 251 = .ok (.iand, 1) := by decide +kernel
theorem dX5_branch_252 : decode cX5_branch 252 = .ok (.invokevirtual 86, 3) := by decide +kernel
theorem dX5_branch_255 : decode cX5_branch 255 = .ok (.iload_n 2, 1) := by decide +kernel
theorem dX5_branch_256 : decode cX5_branch 256 = .ok (.ishr, 1) := by decide +kernel
theorem dX5_branch_257 : decode cX5_branch 257 = .ok (.iconst 1, 1) := by decide +kernel
theorem dX5_branch_258 : decode cX5_branch 258 = .ok (.iand, 1) := by decide +kernel
theorem dX5_branch_259 : decode cX5_branch 259 = .ok (.ifCond .ne 7, 3) := by decide +kernel
theorem dX5_branch_262 : decode cX5_branch 262 = .ok (.iconst 1, 1) := by decide +kernel
theorem dX5_branch_263 : decode cX5_branch 263 = .ok (.goto 4, 3) := by decide +kernel
theorem dX5_branch_266 : decode cX5_branch 266 = .ok (.iconst 0, 1) := by decide +kernel
theorem dX5_branch_267 : decode cX5_branch 267 = .ok (.iload_n 3, 1) := by decide +kernel
theorem dX5_branch_268 : decode cX5_branch 268 = .ok (.bipush 8, 2) := by decide +kernel
theorem dX5_branch_270 : decode cX5_branch 270 = .ok (.ishr, 1) := by decide +kernel
theorem dX5_branch_271 : decode cX5_branch 271 = .ok (.invokevirtual 197, 3) := by decide +kernel
theorem dX5_branch_274 : decode cX5_branch 274 = .ok (.goto 44, 3) := by decide +kernel
theorem dX5_branch_277 : decode cX5_branch 277 = .ok (.aload_n 0, 1) := by decide +kernel
theorem dX5_branch_278 : decode cX5_branch 278 = .ok (.aload_n 0, 1) := by decide +kernel
theorem dX5_branch_279 : decode cX5_branch 279 = .ok (.getfield 20, 3) := by decide +kernel
theorem dX5_branch_282 : decode cX5_branch 282 = .ok (.iload_n 3, 1) := by decide +kernel
theorem dX5_branch_283 : decode cX5_branch 283 = .ok (.sipush 255, 3) := by decide +kernel
theorem dX5_branch_286 : decode cX5_branch 286 = .ok (.iand, 1) := by decide +kernel
theorem dX5_branch_287 : decode cX5_branch 287 = .ok (.invokevirtual 86, 3) := by decide +kernel
theorem dX5_branch_290 : decode cX5_branch 290 = .ok (.iload_n 2, 1) := by decide +kernel
theorem dX5_branch_291 : decode cX5_branch 291 = .ok (.ishr, 1) := by decide +kernel
theorem dX5_branch_292 : decode cX5_branch 292 = .ok (.iconst 1, 1) := by decide +kernel
theorem dX5_branch_293 : decode cX5_branch 293 = .ok (.iand, 1) := by decide +kernel
theorem dX5_branch_294 : decode cX5_branch 294 = .ok (.ifCond .eq 7, 3) := by decide +kernel
theorem dX5_branch_297 : decode cX5_branch 297 = .ok (.iconst 1, 1) := by decide +kernel
theorem dX5_branch_298 : decode cX5_branch 298 = .ok (.goto 4, 3) := by decide +kernel
theorem dX5_branch_301 : decode cX5_branch 301 = .ok (.iconst 0, 1) := by decide +kernel
theorem dX5_branch_302 : decode cX5_branch 302 = .ok (.iload_n 3, 1) := by decide +kernel
theorem dX5_branch_303 : decode cX5_branch 303 = .ok (.bipush 8, 2) := by decide +kernel
theorem dX5_branch_305 : decode cX5_branch 305 = .ok (.ishr, 1) := by decide +kernel
theorem dX5_branch_306 : decode cX5_branch 306 = .ok (.invokevirtual 197, 3) := by decide +kernel
theorem dX5_branch_309 : decode cX5_branch 309 = .ok (.goto 9, 3) := by decide +kernel
theorem dX5_branch_312 : decode cX5_branch 312 = .ok (.aload_n 0, 1) := by decide +kernel
theorem dX5_branch_313 : decode cX5_branch 313 = .ok (.iconst 1, 1) := by decide +kernel
theorem dX5_branch_314 : decode cX5_branch 314 = .ok (.iload_n 3, 1) := by decide +kernel
theorem dX5_branch_315 : decode cX5_branch 315 = .ok (.invokevirtual 197, 3) := by decide +kernel
theorem dX5_branch_318 : decode cX5_branch 318 = .ok (.return_, 1) := by decide +kernel
theorem dX5_goIf_0 : decode cX5_goIf 0 = .ok (.iload_n 1, 1) := by decide +kernel
theorem dX5_goIf_1 : decode cX5_goIf 1 = .ok (.ifCond .ne 4, 3) := by decide +kernel
theorem dX5_goIf_4 : decode cX5_goIf 4 = .ok (.return_, 1) := by decide +kernel
theorem dX5_goIf_5 : decode cX5_goIf 5 = .ok (.aload_n 0, 1) := by decide +kernel
theorem dX5_goIf_6 : decode cX5_goIf 6 = .ok (.getfield 32, 3) := by decide +kernel
theorem dX5_goIf_9 : decode cX5_goIf 9 = .ok (.istore_n 3, 1) := by decide +kernel
theorem dX5_goIf_10 : decode cX5_goIf 10 = .ok (.aload_n 0, 1) := by decide +kernel
theorem dX5_goIf_11 : decode cX5_goIf 11 = .ok (.aload_n 0, 1) := by decide +kernel
theorem dX5_goIf_12 : decode cX5_goIf 12 = .ok (.getfield 32, 3) := by decide +kernel
theorem dX5_goIf_15 : decode cX5_goIf 15 = .ok (.iload_n 2, 1) := by decide +kernel
theorem dX5_goIf_16 : decode cX5_goIf 16 = .ok (.i2b, 1) := by decide +kernel
theorem dX5_goIf_17 : decode cX5_goIf 17 = .ok (.iadd, 1) := by decide +kernel
theorem dX5_goIf_18 : decode cX5_goIf 18 = .ok (.ldc 148, 2) := by decide +kernel
theorem dX5_goIf_20 : decode cX5_goIf 20 = .ok (.iand, 1) := by decide +kernel
theorem dX5_goIf_21 : decode cX5_goIf 21 = .ok (.putfield 32, 3) := by decide +kernel
theorem dX5_goIf_24 : decode cX5_goIf 24 = .ok (.aload_n 0, 1) := by decide +kernel
theorem dX5_goIf_25 : decode cX5_goIf 25 = .ok (.dup, 1) := by decide +kernel
theorem dX5_goIf_26 : decode cX5_goIf 26 = .ok (.getfield 57, 3) := by decide +kernel
theorem dX5_goIf_29 : decode cX5_goIf 29 = .ok (.aload_n 0, 1) := by decide +kernel
theorem dX5_goIf_30 : decode cX5_goIf 30 = .ok (.getfield 32, 3) := by decide +kernel
theorem dX5_goIf_33 : decode cX5_goIf 33 = .ok (.bipush 8, 2) := by decide +kernel
theorem dX5_goIf_35 : decode cX5_goIf 35 = .ok (.ishr, 1) := by decide +kernel
theorem dX5_goIf_36 : decode cX5_goIf 36 = .ok (.iload_n 3, 1) := by decide +kernel
theorem dX5_goIf_37 : decode cX5_goIf 37 = .ok (.bipush 8, 2) := by decide +kernel
theorem dX5_goIf_39 : decode cX5_goIf 39 = .ok (.ishr, 1) := by decide +kernel
theorem dX5_goIf_40 : decode cX5_goIf 40 = .ok (.if_icmp .ne 7, 3) := by decide +kernel
theorem dX5_goIf_43 : decode cX5_goIf 43 = .ok (.iconst 1, 1) := by decide +kernel
theorem dX5_goIf_44 : decode cX5_goIf 44 = .ok (.goto 4, 3) := by decide +kernel
theorem dX5_goIf_47 : decode cX5_goIf 47 = .ok (.iconst 2, 1) := by decide +kernel
theorem dX5_goIf_48 : decode cX5_goIf 48 = .ok (.iadd, 1) := by decide +kernel
theorem dX5_goIf_49 : decode cX5_goIf 49 = .ok (.putfield 57, 3) := by decide +kernel
theorem dX5_goIf_52 : decode cX5_goIf 52 = .ok (.return_, 1) := by decide +kernel
theorem dX5_jump_0 : decode cX5_jump 0 = .ok (.iload_n 1, 1) := by decide +kernel
theorem dX5_jump_1 : decode cX5_jump 1 = .ok (.tableswitch 148 112 116 #[35, 43, 55, 90, 116], 35) := by decide +kernel
theorem dX5_jump_36 : decode cX5_jump 36 = .ok (.aload_n 0, 1) := by decide +kernel
theorem dX5_jump_37 : decode cX5_jump 37 = .ok (.iload_n 2, 1) := by decide +kernel
theorem dX5_jump_38 : decode cX5_jump 38 = .ok (.putfield 32, 3) := by decide +kernel
theorem dX5_jump_41 : decode cX5_jump 41 = .ok (.goto 131, 3) := by decide +kernel
theorem dX5_jump_44 : decode cX5_jump 44 = .ok (.aload_n 0, 1) := by decide +kernel
theorem dX5_jump_45 : decode cX5_jump 45 = .ok (.aload_n 0, 1) := by decide +kernel
theorem dX5_jump_46 : decode cX5_jump 46 = .ok (.iload_n 2, 1) := by decide +kernel
theorem dX5_jump_47 : decode cX5_jump 47 = .ok (.invokevirtual 28, 3) := by decide +kernel
theorem dX5_jump_50 : decode cX5_jump 50 = .ok (.putfield 32, 3) := by decide +kernel
theorem dX5_jump_53 : decode cX5_jump 53 = .ok (.goto 119, 3) := by decide +kernel
theorem dX5_jump_56 : decode cX5_jump 56 = .ok (.aload_n 0, 1) := by decide +kernel
theorem dX5_jump_57 : decode cX5_jump 57 = .ok (.getfield 32, 3) := by decide +kernel
theorem dX5_jump_60 : decode cX5_jump 60 = .ok (.iconst 1, 1) := by decide +kernel
theorem dX5_jump_61 : decode cX5_jump 61 = .ok (.isub, 1) := by decide +kernel
theorem dX5_jump_62 : decode cX5_jump 62 = .ok (.ldc 148, 2) := by decide +kernel
theorem dX5_jump_64 : decode cX5_jump 64 = .ok (.iand, 1) := by decide +kernel
theorem dX5_jump_65 : decode cX5_jump 65 = .ok (.istore_n 3, 1) := by decide +kernel
theorem dX5_jump_66 : decode cX5_jump 66 = .ok (.aload_n 0, 1) := by decide +kernel
theorem dX5_jump_67 : decode cX5_jump 67 = .ok (.iload_n 3, 1) := by decide +kernel
theorem dX5_jump_68 : decode cX5_jump 68 = .ok (.bipush 8, 2) := by decide +kernel
theorem dX5_jump_70 : decode cX5_jump 70 = .ok (.ishr, 1) := by decide +kernel
theorem dX5_jump_71 : decode cX5_jump 71 = .ok (.invokevirtual 83, 3) := by decide +kernel
theorem dX5_jump_74 : decode cX5_jump 74 = .ok (.aload_n 0, 1) := by decide +kernel
theorem dX5_jump_75 : decode cX5_jump 75 = .ok (.iload_n 3, 1) := by decide +kernel
theorem dX5_jump_76 : decode cX5_jump 76 = .ok (.sipush 255, 3) := by decide +kernel
theorem dX5_jump_79 : decode cX5_jump 79 = .ok (.iand, 1) := by decide +kernel
theorem dX5_jump_80 : decode cX5_jump 80 = .ok (.invokevirtual 83, 3) := by decide +kernel
theorem dX5_jump_83 : decode cX5_jump 83 = .ok (.aload_n 0, 1) := by decide +kernel
theorem dX5_jump_84 : decode cX5_jump 84 = .ok (.iload_n 2, 1) := by decide +kernel
theorem dX5_jump_85 : decode cX5_jump 85 = .ok (.putfield 32, 3) := by decide +kernel
theorem dX5_jump_88 : decode cX5_jump 88 = .ok (.goto 84, 3) := by decide +kernel
theorem dX5_jump_91 : decode cX5_jump 91 = .ok (.aload_n 0, 1) := by decide +kernel
theorem dX5_jump_92 : decode cX5_jump 92 = .ok (.invokevirtual 194, 3) := by decide +kernel
theorem dX5_jump_95 : decode cX5_jump 95 = .ok (.istore_n 3, 1) := by decide +kernel
theorem dX5_jump_96 : decode cX5_jump 96 = .ok (.aload_n 0, 1) := by decide +kernel
theorem dX5_jump_97 : decode cX5_jump 97 = .ok (.iload_n 3, 1) := by decide +kernel
theorem dX5_jump_98 : decode cX5_jump 98 = .ok (.aload_n 0, 1) := by decide +kernel
theorem dX5_jump_99 : decode cX5_jump 99 = .ok (.invokevirtual 194, 3) := by decide +kernel
theorem dX5_jump_102 : decode cX5_jump 102 = .ok (.bipush 8, 2) := by decide +kernel
theorem dX5_jump_104 : decode cX5_jump 104 = .ok (.ishl, 1) := by decide +kernel
theorem dX5_jump_105 : decode cX5_jump 105 = .ok (.ior, 1) := by decide +kernel
theorem dX5_jump_106 : decode cX5_jump 106 = .ok (.iconst 1, 1) := by decide +kernel
theorem dX5_jump_107 : decode cX5_jump 107 = .ok (.iadd, 1) := by decide +kernel
theorem dX5_jump_108 : decode cX5_jump 108 = .ok (.ldc 148, 2) := by decide +kernel
theorem dX5_jump_110 : decode cX5_jump 110 = .ok (.iand, 1) := by decide +kernel
theorem dX5_jump_111 : decode cX5_jump 111 = .ok (.putfield 32, 3) := by decide +kernel
theorem dX5_jump_114 : decode cX5_jump 114 = .ok (.goto 58, 3) := by decide +kernel
theorem dX5_jump_117 : decode cX5_jump 117 = .ok (.aload_n 0, 1) := by decide +kernel
theorem dX5_jump_118 : decode cX5_jump 118 = .ok (.aload_n 0, 1) := by decide +kernel
theorem dX5_jump_119 : decode cX5_jump 119 = .ok (.invokevirtual 194, 3) := by decide +kernel
theorem dX5_jump_122 : decode cX5_jump 122 = .ok (.bipush 48, 2) := by decide +kernel
theorem dX5_jump_124 : decode cX5_jump 124 = .ok (.ior, 1) := by decide +kernel
theorem dX5_jump_125 : decode cX5_jump 125 = .ok (.putfield 9, 3) := by decide +kernel
theorem dX5_jump_128 : decode cX5_jump 128 = .ok (.aload_n 0, 1) := by decide +kernel
theorem dX5_jump_129 : decode cX5_jump 129 = .ok (.invokevirtual 194, 3) := by decide +kernel
theorem dX5_jump_132 : decode cX5_jump 132 = .ok (.istore_n 3, 1) := by decide +kernel
theorem dX5_jump_133 : decode cX5_jump 133 = .ok (.aload_n 0, 1) := by decide +kernel
theorem dX5_jump_134 : decode cX5_jump 134 = .ok (.iload_n 3, 1) := by decide +kernel
theorem dX5_jump_135 : decode cX5_jump 135 = .ok (.aload_n 0, 1) := by decide +kernel
theorem dX5_jump_136 : decode cX5_jump 136 = .ok (.invokevirtual 194, 3) := by decide +kernel
theorem dX5_jump_139 : decode cX5_jump 139 = .ok (.bipush 8, 2) := by decide +kernel
theorem dX5_jump_141 : decode cX5_jump 141 = .ok (.ishl, 1) := by decide +kernel
theorem dX5_jump_142 : decode cX5_jump 142 = .ok (.ior, 1) := by decide +kernel
theorem dX5_jump_143 : decode cX5_jump 143 = .ok (.putfield 32, 3) := by decide +kernel
theorem dX5_jump_146 : decode cX5_jump 146 = .ok (.goto 26, 3) := by decide +kernel
theorem dX5_jump_149 : decode cX5_jump 149 = .ok (.aload_n 0, 1) := by decide +kernel
theorem dX5_jump_150 : decode cX5_jump 150 = .ok (.aload_n 0, 1) := by decide +kernel
theorem dX5_jump_151 : decode cX5_jump 151 = .ok (.getfield 32, 3) := by decide +kernel
theorem dX5_jump_154 : decode cX5_jump 154 = .ok (.iconst 1, 1) := by decide +kernel
theorem dX5_jump_155 : decode cX5_jump 155 = .ok (.iadd, 1) := by decide +kernel
theorem dX5_jump_156 : decode cX5_jump 156 = .ok (.ldc 148, 2) := by decide +kernel
theorem dX5_jump_158 : decode cX5_jump 158 = .ok (.iand, 1) := by decide +kernel
theorem dX5_jump_159 : decode cX5_jump 159 = .ok (.putfield 32, 3) := by decide +kernel
theorem dX5_jump_162 : decode cX5_jump 162 = .ok (.aload_n 0, 1) := by decide +kernel
theorem dX5_jump_163 : decode cX5_jump 163 = .ok (.ldc 56, 2) := by decide +kernel
theorem dX5_jump_165 : decode cX5_jump 165 = .ok (.aload_n 0, 1) := by decide +kernel
theorem dX5_jump_166 : decode cX5_jump 166 = .ok (.getfield 9, 3) := by decide +kernel
theorem dX5_jump_169 : decode cX5_jump 169 = .ok (.invokevirtual 79, 3) := by decide +kernel
theorem dX5_jump_172 : decode cX5_jump 172 = .ok (.return_, 1) := by decide +kernel
theorem dX5_push_0 : decode cX5_push 0 = .ok (.aload_n 0, 1) := by decide +kernel
theorem dX5_push_1 : decode cX5_push 1 = .ok (.getfield 20, 3) := by decide +kernel
theorem dX5_push_4 : decode cX5_push 4 = .ok (.sipush 256, 3) := by decide +kernel
theorem dX5_push_7 : decode cX5_push 7 = .ok (.aload_n 0, 1) := by decide +kernel
theorem dX5_push_8 : decode cX5_push 8 = .ok (.getfield 24, 3) := by decide +kernel
theorem dX5_push_11 : decode cX5_push 11 = .ok (.iadd, 1) := by decide +kernel
theorem dX5_push_12 : decode cX5_push 12 = .ok (.iload_n 1, 1) := by decide +kernel
theorem dX5_push_13 : decode cX5_push 13 = .ok (.invokevirtual 125, 3) := by decide +kernel
theorem dX5_push_16 : decode cX5_push 16 = .ok (.aload_n 0, 1) := by decide +kernel
theorem dX5_push_17 : decode cX5_push 17 = .ok (.aload_n 0, 1) := by decide +kernel
theorem dX5_push_18 : decode cX5_push 18 = .ok (.getfield 24, 3) := by decide +kernel
theorem dX5_push_21 : decode cX5_push 21 = .ok (.iconst 1, 1) := by decide +kernel
theorem dX5_push_22 : decode cX5_push 22 = .ok (.isub, 1) := by decide +kernel
theorem dX5_push_23 : decode cX5_push 23 = .ok (.sipush 255, 3) := by decide +kernel
theorem dX5_push_26 : decode cX5_push 26 = .ok (.iand, 1) := by decide +kernel
theorem dX5_push_27 : decode cX5_push 27 = .ok (.putfield 24, 3) := by decide +kernel
theorem dX5_push_30 : decode cX5_push 30 = .ok (.return_, 1) := by decide +kernel
theorem dX5_pull_0 : decode cX5_pull 0 = .ok (.aload_n 0, 1) := by decide +kernel
theorem dX5_pull_1 : decode cX5_pull 1 = .ok (.aload_n 0, 1) := by decide +kernel
theorem dX5_pull_2 : decode cX5_pull 2 = .ok (.getfield 24, 3) := by decide +kernel
theorem dX5_pull_5 : decode cX5_pull 5 = .ok (.iconst 1, 1) := by decide +kernel
theorem dX5_pull_6 : decode cX5_pull 6 = .ok (.iadd, 1) := by decide +kernel
theorem dX5_pull_7 : decode cX5_pull 7 = .ok (.sipush 255, 3) := by decide +kernel
theorem dX5_pull_10 : decode cX5_pull 10 = .ok (.iand, 1) := by decide +kernel
theorem dX5_pull_11 : decode cX5_pull 11 = .ok (.putfield 24, 3) := by decide +kernel
theorem dX5_pull_14 : decode cX5_pull 14 = .ok (.aload_n 0, 1) := by decide +kernel
theorem dX5_pull_15 : decode cX5_pull 15 = .ok (.getfield 20, 3) := by decide +kernel
theorem dX5_pull_18 : decode cX5_pull 18 = .ok (.sipush 256, 3) := by decide +kernel
theorem dX5_pull_21 : decode cX5_pull 21 = .ok (.aload_n 0, 1) := by decide +kernel
theorem dX5_pull_22 : decode cX5_pull 22 = .ok (.getfield 24, 3) := by decide +kernel
theorem dX5_pull_25 : decode cX5_pull 25 = .ok (.iadd, 1) := by decide +kernel
theorem dX5_pull_26 : decode cX5_pull 26 = .ok (.invokevirtual 86, 3) := by decide +kernel
theorem dX5_pull_29 : decode cX5_pull 29 = .ok (.ireturn, 1) := by decide +kernel
theorem dX5_mark_0 : decode cX5_mark 0 = .ok (.aload_n 0, 1) := by decide +kernel
theorem dX5_mark_1 : decode cX5_mark 1 = .ok (.iload_n 2, 1) := by decide +kernel
theorem dX5_mark_2 : decode cX5_mark 2 = .ok (.ifCond .eq 12, 3) := by decide +kernel
theorem dX5_mark_5 : decode cX5_mark 5 = .ok (.aload_n 0, 1) := by decide +kernel
theorem dX5_mark_6 : decode cX5_mark 6 = .ok (.getfield 9, 3) := by decide +kernel
theorem dX5_mark_9 : decode cX5_mark 9 = .ok (.iload_n 1, 1) := by decide +kernel
theorem dX5_mark_10 : decode cX5_mark 10 = .ok (.ior, 1) := by decide +kernel
theorem dX5_mark_11 : decode cX5_mark 11 = .ok (.goto 11, 3) := by decide +kernel
theorem dX5_mark_14 : decode cX5_mark 14 = .ok (.aload_n 0, 1) := by decide +kernel
theorem dX5_mark_15 : decode cX5_mark 15 = .ok (.getfield 9, 3) := by decide +kernel
theorem dX5_mark_18 : decode cX5_mark 18 = .ok (.iload_n 1, 1) := by decide +kernel
theorem dX5_mark_19 : decode cX5_mark 19 = .ok (.iconst (-1), 1) := by decide +kernel
theorem dX5_mark_20 : decode cX5_mark 20 = .ok (.ixor, 1) := by decide +kernel
theorem dX5_mark_21 : decode cX5_mark 21 = .ok (.iand, 1) := by decide +kernel
theorem dX5_mark_22 : decode cX5_mark 22 = .ok (.putfield 9, 3) := by decide +kernel
theorem dX5_mark_25 : decode cX5_mark 25 = .ok (.return_, 1) := by decide +kernel
theorem dX5_shown_0 : decode cX5_shown 0 = .ok (.iload_n 1, 1) := by decide +kernel
theorem dX5_shown_1 : decode cX5_shown 1 = .ok (.sipush 255, 3) := by decide +kernel
theorem dX5_shown_4 : decode cX5_shown 4 = .ok (.iand, 1) := by decide +kernel
theorem dX5_shown_5 : decode cX5_shown 5 = .ok (.istore_n 2, 1) := by decide +kernel
theorem dX5_shown_6 : decode cX5_shown 6 = .ok (.aload_n 0, 1) := by decide +kernel
theorem dX5_shown_7 : decode cX5_shown 7 = .ok (.aload_n 0, 1) := by decide +kernel
theorem dX5_shown_8 : decode cX5_shown 8 = .ok (.getfield 9, 3) := by decide +kernel
theorem dX5_shown_11 : decode cX5_shown 11 = .ok (.sipush (-131), 3) := by decide +kernel
theorem dX5_shown_14 : decode cX5_shown 14 = .ok (.iand, 1) := by decide +kernel
theorem dX5_shown_15 : decode cX5_shown 15 = .ok (.iload_n 2, 1) := by decide +kernel
theorem dX5_shown_16 : decode cX5_shown 16 = .ok (.sipush 128, 3) := by decide +kernel
theorem dX5_shown_19 : decode cX5_shown 19 = .ok (.iand, 1) := by decide +kernel
theorem dX5_shown_20 : decode cX5_shown 20 = .ok (.ior, 1) := by decide +kernel
theorem dX5_shown_21 : decode cX5_shown 21 = .ok (.iload_n 2, 1) := by decide +kernel
theorem dX5_shown_22 : decode cX5_shown 22 = .ok (.ifCond .ne 7, 3) := by decide +kernel
theorem dX5_shown_25 : decode cX5_shown 25 = .ok (.iconst 2, 1) := by decide +kernel
theorem dX5_shown_26 : decode cX5_shown 26 = .ok (.goto 4, 3) := by decide +kernel
theorem dX5_shown_29 : decode cX5_shown 29 = .ok (.iconst 0, 1) := by decide +kernel
theorem dX5_shown_30 : decode cX5_shown 30 = .ok (.ior, 1) := by decide +kernel
theorem dX5_shown_31 : decode cX5_shown 31 = .ok (.putfield 9, 3) := by decide +kernel
theorem dX5_shown_34 : decode cX5_shown 34 = .ok (.iload_n 2, 1) := by decide +kernel
theorem dX5_shown_35 : decode cX5_shown 35 = .ok (.ireturn, 1) := by decide +kernel
theorem dX6_init_0 : decode cX6_init 0 = .ok (.aload_n 0, 1) := by decide +kernel
theorem dX6_init_1 : decode cX6_init 1 = .ok (.invokespecial 1, 3) := by decide +kernel
theorem dX6_init_4 : decode cX6_init 4 = .ok (.aload_n 0, 1) := by decide +kernel
theorem dX6_init_5 : decode cX6_init 5 = .ok (.ldc 9, 2) := by decide +kernel
theorem dX6_init_7 : decode cX6_init 7 = .ok (.putfield 10, 3) := by decide +kernel
theorem dX6_init_10 : decode cX6_init 10 = .ok (.aload_n 0, 1) := by decide +kernel
theorem dX6_init_11 : decode cX6_init 11 = .ok (.ldc 9, 2) := by decide +kernel
theorem dX6_init_13 : decode cX6_init 13 = .ok (.putfield 14, 3) := by decide +kernel
theorem dX6_init_16 : decode cX6_init 16 = .ok (.return_, 1) := by decide +kernel
theorem dX6_restart_0 : decode cX6_restart 0 = .ok (.aload_n 0, 1) := by decide +kernel
theorem dX6_restart_1 : decode cX6_restart 1 = .ok (.ldc 9, 2) := by decide +kernel
theorem dX6_restart_3 : decode cX6_restart 3 = .ok (.putfield 10, 3) := by decide +kernel
theorem dX6_restart_6 : decode cX6_restart 6 = .ok (.aload_n 0, 1) := by decide +kernel
theorem dX6_restart_7 : decode cX6_restart 7 = .ok (.ldc 9, 2) := by decide +kernel
theorem dX6_restart_9 : decode cX6_restart 9 = .ok (.putfield 14, 3) := by decide +kernel
theorem dX6_restart_12 : decode cX6_restart 12 = .ok (.aload_n 0, 1) := by decide +kernel
theorem dX6_restart_13 : decode cX6_restart 13 = .ok (.iconst 0, 1) := by decide +kernel
theorem dX6_restart_14 : decode cX6_restart 14 = .ok (.putfield 17, 3) := by decide +kernel
theorem dX6_restart_17 : decode cX6_restart 17 = .ok (.aload_n 0, 1) := by decide +kernel
theorem dX6_restart_18 : decode cX6_restart 18 = .ok (.iconst 0, 1) := by decide +kernel
theorem dX6_restart_19 : decode cX6_restart 19 = .ok (.putfield 20, 3) := by decide +kernel
theorem dX6_restart_22 : decode cX6_restart 22 = .ok (.aload_n 0, 1) := by decide +kernel
theorem dX6_restart_23 : decode cX6_restart 23 = .ok (.iconst 0, 1) := by decide +kernel
theorem dX6_restart_24 : decode cX6_restart 24 = .ok (.putfield 23, 3) := by decide +kernel
theorem dX6_restart_27 : decode cX6_restart 27 = .ok (.aload_n 0, 1) := by decide +kernel
theorem dX6_restart_28 : decode cX6_restart 28 = .ok (.iconst 0, 1) := by decide +kernel
theorem dX6_restart_29 : decode cX6_restart 29 = .ok (.putfield 26, 3) := by decide +kernel
theorem dX6_restart_32 : decode cX6_restart 32 = .ok (.aload_n 0, 1) := by decide +kernel
theorem dX6_restart_33 : decode cX6_restart 33 = .ok (.iconst 0, 1) := by decide +kernel
theorem dX6_restart_34 : decode cX6_restart 34 = .ok (.putfield 29, 3) := by decide +kernel
theorem dX6_restart_37 : decode cX6_restart 37 = .ok (.aload_n 0, 1) := by decide +kernel
theorem dX6_restart_38 : decode cX6_restart 38 = .ok (.iconst 0, 1) := by decide +kernel
theorem dX6_restart_39 : decode cX6_restart 39 = .ok (.putfield 32, 3) := by decide +kernel
theorem dX6_restart_42 : decode cX6_restart 42 = .ok (.aload_n 0, 1) := by decide +kernel
theorem dX6_restart_43 : decode cX6_restart 43 = .ok (.iconst 0, 1) := by decide +kernel
theorem dX6_restart_44 : decode cX6_restart 44 = .ok (.putfield 36, 3) := by decide +kernel
theorem dX6_restart_47 : decode cX6_restart 47 = .ok (.return_, 1) := by decide +kernel
theorem dX6_asks_0 : decode cX6_asks 0 = .ok (.aload_n 0, 1) := by decide +kernel
theorem dX6_asks_1 : decode cX6_asks 1 = .ok (.bipush 13, 2) := by decide +kernel
theorem dX6_asks_3 : decode cX6_asks 3 = .ok (.invokevirtual 39, 3) := by decide +kernel
theorem dX6_asks_6 : decode cX6_asks 6 = .ok (.sipush 128, 3) := by decide +kernel
theorem dX6_asks_9 : decode cX6_asks 9 = .ok (.iand, 1) := by decide +kernel
theorem dX6_asks_10 : decode cX6_asks 10 = .ok (.ifCond .eq 7, 3) := by decide +kernel
theorem dX6_asks_13 : decode cX6_asks 13 = .ok (.iconst 1, 1) := by decide +kernel
theorem dX6_asks_14 : decode cX6_asks 14 = .ok (.goto 4, 3) := by decide +kernel
theorem dX6_asks_17 : decode cX6_asks 17 = .ok (.iconst 0, 1) := by decide +kernel
theorem dX6_asks_18 : decode cX6_asks 18 = .ok (.ireturn, 1) := by decide +kernel
theorem dX6_peek_0 : decode cX6_peek 0 = .ok (.iload_n 1, 1) := by decide +kernel
theorem dX6_peek_1 : decode cX6_peek 1 = .ok (.tableswitch 170 4 14 #[59, 70, 80, 91, 101, 112, 170, 122, 170, 129, 159], 59) := by decide +kernel
theorem dX6_peek_60 : decode cX6_peek 60 = .ok (.aload_n 0, 1) := by decide +kernel
theorem dX6_peek_61 : decode cX6_peek 61 = .ok (.getfield 10, 3) := by decide +kernel
theorem dX6_peek_64 : decode cX6_peek 64 = .ok (.sipush 255, 3) := by decide +kernel
theorem dX6_peek_67 : decode cX6_peek 67 = .ok (.iand, 1) := by decide +kernel
theorem dX6_peek_68 : decode cX6_peek 68 = .ok (.goto 104, 3) := by decide +kernel
theorem dX6_peek_71 : decode cX6_peek 71 = .ok (.aload_n 0, 1) := by decide +kernel
theorem dX6_peek_72 : decode cX6_peek 72 = .ok (.getfield 10, 3) := by decide +kernel
theorem dX6_peek_75 : decode cX6_peek 75 = .ok (.bipush 8, 2) := by decide +kernel
theorem dX6_peek_77 : decode cX6_peek 77 = .ok (.ishr, 1) := by decide +kernel
theorem dX6_peek_78 : decode cX6_peek 78 = .ok (.goto 94, 3) := by decide +kernel
theorem dX6_peek_81 : decode cX6_peek 81 = .ok (.aload_n 0, 1) := by decide +kernel
theorem dX6_peek_82 : decode cX6_peek 82 = .ok (.getfield 17, 3) := by decide +kernel
theorem dX6_peek_85 : decode cX6_peek 85 = .ok (.sipush 255, 3) := by decide +kernel
theorem dX6_peek_88 : decode cX6_peek 88 = .ok (.iand, 1) := by decide +kernel
theorem dX6_peek_89 : decode cX6_peek 89 = .ok (.goto 83, 3) := by decide +kernel
theorem dX6_peek_92 : decode cX6_peek 92 = .ok (.aload_n 0, 1) := by decide +kernel
theorem dX6_peek_93 : decode cX6_peek 93 = .ok (.getfield 17, 3) := by decide +kernel
theorem dX6_peek_96 : decode cX6_peek 96 = .ok (.bipush 8, 2) := by decide +kernel
theorem dX6_peek_98 : decode cX6_peek 98 = .ok (.ishr, 1) := by decide +kernel
theorem dX6_peek_99 : decode cX6_peek 99 = .ok (.goto 73, 3) := by decide +kernel
theorem dX6_peek_102 : decode cX6_peek 102 = .ok (.aload_n 0, 1) := by decide +kernel
theorem dX6_peek_103 : decode cX6_peek 103 = .ok (.getfield 14, 3) := by decide +kernel
theorem dX6_peek_106 : decode cX6_peek 106 = .ok (.sipush 255, 3) := by decide +kernel
theorem dX6_peek_109 : decode cX6_peek 109 = .ok (.iand, 1) := by decide +kernel
theorem dX6_peek_110 : decode cX6_peek 110 = .ok (.goto 62, 3) := by decide +kernel
theorem dX6_peek_113 : decode cX6_peek 113 = .ok (.aload_n 0, 1) := by decide +kernel
theorem dX6_peek_114 : decode cX6_peek 114 = .ok (.getfield 14, 3) := by decide +kernel
theorem dX6_peek_117 : decode cX6_peek 117 = .ok (.bipush 8, 2) := by decide +kernel
theorem dX6_peek_119 : decode cX6_peek 119 = .ok (.ishr, 1) := by decide +kernel
theorem dX6_peek_120 : decode cX6_peek 120 = .ok (.goto 52, 3) := by decide +kernel
theorem dX6_peek_123 : decode cX6_peek 123 = .ok (.aload_n 0, 1) := by decide +kernel
theorem dX6_peek_124 : decode cX6_peek 124 = .ok (.getfield 29, 3) := by decide +kernel
theorem dX6_peek_127 : decode cX6_peek 127 = .ok (.goto 45, 3) := by decide +kernel
theorem dX6_peek_130 : decode cX6_peek 130 = .ok (.aload_n 0, 1) := by decide +kernel
theorem dX6_peek_131 : decode cX6_peek 131 = .ok (.getfield 20, 3) := by decide +kernel
theorem dX6_peek_134 : decode cX6_peek 134 = .ok (.aload_n 0, 1) := by decide +kernel
theorem dX6_peek_135 : decode cX6_peek 135 = .ok (.getfield 23, 3) := by decide +kernel
theorem dX6_peek_138 : decode cX6_peek 138 = .ok (.iand, 1) := by decide +kernel
theorem dX6_peek_139 : decode cX6_peek 139 = .ok (.ifCond .eq 14, 3) := by decide +kernel
theorem dX6_peek_142 : decode cX6_peek 142 = .ok (.aload_n 0, 1) := by decide +kernel
theorem dX6_peek_143 : decode cX6_peek 143 = .ok (.getfield 20, 3) := by decide +kernel
theorem dX6_peek_146 : decode cX6_peek 146 = .ok (.sipush 128, 3) := by decide +kernel
theorem dX6_peek_149 : decode cX6_peek 149 = .ok (.ior, 1) := by decide +kernel
theorem dX6_peek_150 : decode cX6_peek 150 = .ok (.goto 22, 3) := by decide +kernel
theorem dX6_peek_153 : decode cX6_peek 153 = .ok (.aload_n 0, 1) := by decide +kernel
theorem dX6_peek_154 : decode cX6_peek 154 = .ok (.getfield 20, 3) := by decide +kernel
theorem dX6_peek_157 : decode cX6_peek 157 = .ok (.goto 15, 3) := by decide +kernel
theorem dX6_peek_160 : decode cX6_peek 160 = .ok (.aload_n 0, 1) := by decide +kernel
theorem dX6_peek_161 : decode cX6_peek 161 = .ok (.getfield 23, 3) := by decide +kernel
theorem dX6_peek_164 : decode cX6_peek 164 = .ok (.sipush 128, 3) := by decide +kernel
theorem dX6_peek_167 : decode cX6_peek 167 = .ok (.ior, 1) := by decide +kernel
theorem dX6_peek_168 : decode cX6_peek 168 = .ok (.goto 4, 3) := by decide +kernel
theorem dX6_peek_171 : decode cX6_peek 171 = .ok (.iconst 0, 1) := by decide +kernel
theorem dX6_peek_172 : decode cX6_peek 172 = .ok (.ireturn, 1) := by decide +kernel
theorem dX6_afterReading_0 : decode cX6_afterReading 0 = .ok (.iload_n 1, 1) := by decide +kernel
theorem dX6_afterReading_1 : decode cX6_afterReading 1 = .ok (.iconst 4, 1) := by decide +kernel
theorem dX6_afterReading_2 : decode cX6_afterReading 2 = .ok (.if_icmp .ne 17, 3) := by decide +kernel
theorem dX6_afterReading_5 : decode cX6_afterReading 5 = .ok (.aload_n 0, 1) := by decide +kernel
theorem dX6_afterReading_6 : decode cX6_afterReading 6 = .ok (.dup, 1) := by decide +kernel
theorem dX6_afterReading_7 : decode cX6_afterReading 7 = .ok (.getfield 20, 3) := by decide +kernel
theorem dX6_afterReading_10 : decode cX6_afterReading 10 = .ok (.bipush (-65), 2) := by decide +kernel
theorem dX6_afterReading_12 : decode cX6_afterReading 12 = .ok (.iand, 1) := by decide +kernel
theorem dX6_afterReading_13 : decode cX6_afterReading 13 = .ok (.putfield 20, 3) := by decide +kernel
theorem dX6_afterReading_16 : decode cX6_afterReading 16 = .ok (.goto 20, 3) := by decide +kernel
theorem dX6_afterReading_19 : decode cX6_afterReading 19 = .ok (.iload_n 1, 1) := by decide +kernel
theorem dX6_afterReading_20 : decode cX6_afterReading 20 = .ok (.bipush 8, 2) := by decide +kernel
theorem dX6_afterReading_22 : decode cX6_afterReading 22 = .ok (.if_icmp .ne 14, 3) := by decide +kernel
theorem dX6_afterReading_25 : decode cX6_afterReading 25 = .ok (.aload_n 0, 1) := by decide +kernel
theorem dX6_afterReading_26 : decode cX6_afterReading 26 = .ok (.dup, 1) := by decide +kernel
theorem dX6_afterReading_27 : decode cX6_afterReading 27 = .ok (.getfield 20, 3) := by decide +kernel
theorem dX6_afterReading_30 : decode cX6_afterReading 30 = .ok (.bipush (-33), 2) := by decide +kernel
theorem dX6_afterReading_32 : decode cX6_afterReading 32 = .ok (.iand, 1) := by decide +kernel
theorem dX6_afterReading_33 : decode cX6_afterReading 33 = .ok (.putfield 20, 3) := by decide +kernel
theorem dX6_afterReading_36 : decode cX6_afterReading 36 = .ok (.return_, 1) := by decide +kernel
theorem dX6_write_0 : decode cX6_write 0 = .ok (.iload_n 1, 1) := by decide +kernel
theorem dX6_write_1 : decode cX6_write 1 = .ok (.tableswitch 248 4 14 #[59, 75, 59, 119, 150, 158, 248, 190, 248, 198, 213], 59) := by decide +kernel
theorem dX6_write_60 : decode cX6_write 60 = .ok (.aload_n 0, 1) := by decide +kernel
theorem dX6_write_61 : decode cX6_write 61 = .ok (.aload_n 0, 1) := by decide +kernel
theorem dX6_write_62 : decode cX6_write 62 = .ok (.getfield 17, 3) := by decide +kernel
theorem dX6_write_65 : decode cX6_write 65 = .ok (.ldc 43, 2) := by decide +kernel
theorem dX6_write_67 : decode cX6_write 67 = .ok (.iand, 1) := by decide +kernel
theorem dX6_write_68 : decode cX6_write 68 = .ok (.iload_n 2, 1) := by decide +kernel
theorem dX6_write_69 : decode cX6_write 69 = .ok (.ior, 1) := by decide +kernel
theorem dX6_write_70 : decode cX6_write 70 = .ok (.putfield 17, 3) := by decide +kernel
theorem dX6_write_73 : decode cX6_write 73 = .ok (.goto 176, 3) := by decide +kernel
theorem dX6_write_76 : decode cX6_write 76 = .ok (.aload_n 0, 1) := by decide +kernel
theorem dX6_write_77 : decode cX6_write 77 = .ok (.aload_n 0, 1) := by decide +kernel
theorem dX6_write_78 : decode cX6_write 78 = .ok (.getfield 17, 3) := by decide +kernel
theorem dX6_write_81 : decode cX6_write 81 = .ok (.sipush 255, 3) := by decide +kernel
theorem dX6_write_84 : decode cX6_write 84 = .ok (.iand, 1) := by decide +kernel
theorem dX6_write_85 : decode cX6_write 85 = .ok (.iload_n 2, 1) := by decide +kernel
theorem dX6_write_86 : decode cX6_write 86 = .ok (.bipush 8, 2) := by decide +kernel
theorem dX6_write_88 : decode cX6_write 88 = .ok (.ishl, 1) := by decide +kernel
theorem dX6_write_89 : decode cX6_write 89 = .ok (.ior, 1) := by decide +kernel
theorem dX6_write_90 : decode cX6_write 90 = .ok (.putfield 17, 3) := by decide +kernel
theorem dX6_write_93 : decode cX6_write 93 = .ok (.aload_n 0, 1) := by decide +kernel
theorem dX6_write_94 : decode cX6_write 94 = .ok (.aload_n 0, 1) := by decide +kernel
theorem dX6_write_95 : decode cX6_write 95 = .ok (.getfield 17, 3) := by decide +kernel
theorem dX6_write_98 : decode cX6_write 98 = .ok (.putfield 10, 3) := by decide +kernel
theorem dX6_write_101 : decode cX6_write 101 = .ok (.aload_n 0, 1) := by decide +kernel
theorem dX6_write_102 : decode cX6_write 102 = .ok (.iconst 1, 1) := by decide +kernel
theorem dX6_write_103 : decode cX6_write 103 = .ok (.putfield 32, 3) := by decide +kernel
theorem dX6_write_106 : decode cX6_write 106 = .ok (.aload_n 0, 1) := by decide +kernel
theorem dX6_write_107 : decode cX6_write 107 = .ok (.dup, 1) := by decide +kernel
theorem dX6_write_108 : decode cX6_write 108 = .ok (.getfield 20, 3) := by decide +kernel
theorem dX6_write_111 : decode cX6_write 111 = .ok (.bipush (-65), 2) := by decide +kernel
theorem dX6_write_113 : decode cX6_write 113 = .ok (.iand, 1) := by decide +kernel
theorem dX6_write_114 : decode cX6_write 114 = .ok (.putfield 20, 3) := by decide +kernel
theorem dX6_write_117 : decode cX6_write 117 = .ok (.goto 132, 3) := by decide +kernel
theorem dX6_write_120 : decode cX6_write 120 = .ok (.aload_n 0, 1) := by decide +kernel
theorem dX6_write_121 : decode cX6_write 121 = .ok (.aload_n 0, 1) := by decide +kernel
theorem dX6_write_122 : decode cX6_write 122 = .ok (.getfield 17, 3) := by decide +kernel
theorem dX6_write_125 : decode cX6_write 125 = .ok (.sipush 255, 3) := by decide +kernel
theorem dX6_write_128 : decode cX6_write 128 = .ok (.iand, 1) := by decide +kernel
theorem dX6_write_129 : decode cX6_write 129 = .ok (.iload_n 2, 1) := by decide +kernel
theorem dX6_write_130 : decode cX6_write 130 = .ok (.bipush 8, 2) := by decide +kernel
theorem dX6_write_132 : decode cX6_write 132 = .ok (.ishl, 1) := by decide +kernel
theorem dX6_write_133 : decode cX6_write 133 = .ok (.ior, 1) := by decide +kernel
theorem dX6_write_134 : decode cX6_write 134 = .ok (.putfield 17, 3) := by decide +kernel
theorem dX6_write_137 : decode cX6_write 137 = .ok (.aload_n 0, 1) := by decide +kernel
theorem dX6_write_138 : decode cX6_write 138 = .ok (.dup, 1) := by decide +kernel
theorem dX6_write_139 : decode cX6_write 139 = .ok (.getfield 20, 3) := by decide +kernel
theorem dX6_write_142 : decode cX6_write 142 = .ok (.bipush (-65), 2) := by decide +kernel
theorem dX6_write_144 : decode cX6_write 144 = .ok (.iand, 1) := by decide +kernel
theorem dX6_write_145 : decode cX6_write 145 = .ok (.putfield 20, 3) := by decide +kernel
theorem dX6_write_148 : decode cX6_write 148 = .ok (.goto 101, 3) := by decide +kernel
theorem dX6_write_151 : decode cX6_write 151 = .ok (.aload_n 0, 1) := by decide +kernel
theorem dX6_write_152 : decode cX6_write 152 = .ok (.iload_n 2, 1) := by decide +kernel
theorem dX6_write_153 : decode cX6_write 153 = .ok (.putfield 26, 3) := by decide +kernel
theorem dX6_write_156 : decode cX6_write 156 = .ok (.goto 93, 3) := by decide +kernel
theorem dX6_write_159 : decode cX6_write 159 = .ok (.aload_n 0, 1) := by decide +kernel
theorem dX6_write_160 : decode cX6_write 160 = .ok (.iload_n 2, 1) := by decide +kernel
theorem dX6_write_161 : decode cX6_write 161 = .ok (.bipush 8, 2) := by decide +kernel
theorem dX6_write_163 : decode cX6_write 163 = .ok (.ishl, 1) := by decide +kernel
theorem dX6_write_164 : decode cX6_write 164 = .ok (.aload_n 0, 1) := by decide +kernel
theorem dX6_write_165 : decode cX6_write 165 = .ok (.getfield 26, 3) := by decide +kernel
theorem dX6_write_168 : decode cX6_write 168 = .ok (.ior, 1) := by decide +kernel
theorem dX6_write_169 : decode cX6_write 169 = .ok (.putfield 14, 3) := by decide +kernel
theorem dX6_write_172 : decode cX6_write 172 = .ok (.aload_n 0, 1) := by decide +kernel
theorem dX6_write_173 : decode cX6_write 173 = .ok (.iconst 1, 1) := by decide +kernel
theorem dX6_write_174 : decode cX6_write 174 = .ok (.putfield 36, 3) := by decide +kernel
theorem dX6_write_177 : decode cX6_write 177 = .ok (.aload_n 0, 1) := by decide +kernel
theorem dX6_write_178 : decode cX6_write 178 = .ok (.dup, 1) := by decide +kernel
theorem dX6_write_179 : decode cX6_write 179 = .ok (.getfield 20, 3) := by decide +kernel
theorem dX6_write_182 : decode cX6_write 182 = .ok (.bipush (-33), 2) := by decide +kernel
theorem dX6_write_184 : decode cX6_write 184 = .ok (.iand, 1) := by decide +kernel
theorem dX6_write_185 : decode cX6_write 185 = .ok (.putfield 20, 3) := by decide +kernel
theorem dX6_write_188 : decode cX6_write 188 = .ok (.goto 61, 3) := by decide +kernel
theorem dX6_write_191 : decode cX6_write 191 = .ok (.aload_n 0, 1) := by decide +kernel
theorem dX6_write_192 : decode cX6_write 192 = .ok (.iload_n 2, 1) := by decide +kernel
theorem dX6_write_193 : decode cX6_write 193 = .ok (.putfield 29, 3) := by decide +kernel
theorem dX6_write_196 : decode cX6_write 196 = .ok (.goto 53, 3) := by decide +kernel
theorem dX6_write_199 : decode cX6_write 199 = .ok (.aload_n 0, 1) := by decide +kernel
theorem dX6_write_200 : decode cX6_write 200 = .ok (.dup, 1) := by decide +kernel
theorem dX6_write_201 : decode cX6_write 201 = .ok (.getfield 20, 3) := by decide +kernel
theorem dX6_write_204 : decode cX6_write 204 = .ok (.iload_n 2, 1) := by decide +kernel
theorem dX6_write_205 : decode cX6_write 205 = .ok (.iconst (-1), 1) := by decide +kernel
theorem dX6_write_206 : decode cX6_write 206 = .ok (.ixor, 1) := by decide +kernel
theorem dX6_write_207 : decode cX6_write 207 = .ok (.iand, 1) := by decide +kernel
theorem dX6_write_208 : decode cX6_write 208 = .ok (.putfield 20, 3) := by decide +kernel
theorem dX6_write_211 : decode cX6_write 211 = .ok (.goto 38, 3) := by decide +kernel
theorem dX6_write_214 : decode cX6_write 214 = .ok (.aload_n 0, 1) := by decide +kernel
theorem dX6_write_215 : decode cX6_write 215 = .ok (.iload_n 2, 1) := by decide +kernel
theorem dX6_write_216 : decode cX6_write 216 = .ok (.sipush 128, 3) := by decide +kernel
theorem dX6_write_219 : decode cX6_write 219 = .ok (.iand, 1) := by decide +kernel
theorem dX6_write_220 : decode cX6_write 220 = .ok (.ifCond .eq 15, 3) := by decide +kernel
theorem dX6_write_223 : decode cX6_write 223 = .ok (.aload_n 0, 1) := by decide +kernel
theorem dX6_write_224 : decode cX6_write 224 = .ok (.getfield 23, 3) := by decide +kernel
theorem dX6_write_227 : decode cX6_write 227 = .ok (.iload_n 2, 1) := by decide +kernel
theorem dX6_write_228 : decode cX6_write 228 = .ok (.bipush 127, 2) := by decide +kernel
theorem dX6_write_230 : decode cX6_write 230 = .ok (.iand, 1) := by decide +kernel
theorem dX6_write_231 : decode cX6_write 231 = .ok (.ior, 1) := by decide +kernel
theorem dX6_write_232 : decode cX6_write 232 = .ok (.goto 11, 3) := by decide +kernel
theorem dX6_write_235 : decode cX6_write 235 = .ok (.aload_n 0, 1) := by decide +kernel
theorem dX6_write_236 : decode cX6_write 236 = .ok (.getfield 23, 3) := by decide +kernel
theorem dX6_write_239 : decode cX6_write 239 = .ok (.iload_n 2, 1) := by decide +kernel
theorem dX6_write_240 : decode cX6_write 240 = .ok (.iconst (-1), 1) := by decide +kernel
theorem dX6_write_241 : decode cX6_write 241 = .ok (.ixor, 1) := by decide +kernel
theorem dX6_write_242 : decode cX6_write 242 = .ok (.iand, 1) := by decide +kernel
theorem dX6_write_243 : decode cX6_write 243 = .ok (.putfield 23, 3) := by decide +kernel
theorem dX6_write_246 : decode cX6_write 246 = .ok (.goto 3, 3) := by decide +kernel
theorem dX6_write_249 : decode cX6_write 249 = .ok (.return_, 1) := by decide +kernel
theorem dX6_pass_0 : decode cX6_pass 0 = .ok (.aload_n 0, 1) := by decide +kernel
theorem dX6_pass_1 : decode cX6_pass 1 = .ok (.getfield 10, 3) := by decide +kernel
theorem dX6_pass_4 : decode cX6_pass 4 = .ok (.iload_n 1, 1) := by decide +kernel
theorem dX6_pass_5 : decode cX6_pass 5 = .ok (.if_icmp .lt 16, 3) := by decide +kernel
theorem dX6_pass_8 : decode cX6_pass 8 = .ok (.aload_n 0, 1) := by decide +kernel
theorem dX6_pass_9 : decode cX6_pass 9 = .ok (.dup, 1) := by decide +kernel
theorem dX6_pass_10 : decode cX6_pass 10 = .ok (.getfield 10, 3) := by decide +kernel
theorem dX6_pass_13 : decode cX6_pass 13 = .ok (.iload_n 1, 1) := by decide +kernel
theorem dX6_pass_14 : decode cX6_pass 14 = .ok (.isub, 1) := by decide +kernel
theorem dX6_pass_15 : decode cX6_pass 15 = .ok (.putfield 10, 3) := by decide +kernel
theorem dX6_pass_18 : decode cX6_pass 18 = .ok (.goto 20, 3) := by decide +kernel
theorem dX6_pass_21 : decode cX6_pass 21 = .ok (.iconst 0, 1) := by decide +kernel
theorem dX6_pass_22 : decode cX6_pass 22 = .ok (.istore_n 2, 1) := by decide +kernel
theorem dX6_pass_23 : decode cX6_pass 23 = .ok (.iload_n 2, 1) := by decide +kernel
theorem dX6_pass_24 : decode cX6_pass 24 = .ok (.iload_n 1, 1) := by decide +kernel
theorem dX6_pass_25 : decode cX6_pass 25 = .ok (.if_icmp .ge 13, 3) := by decide +kernel
theorem dX6_pass_28 : decode cX6_pass 28 = .ok (.aload_n 0, 1) := by decide +kernel
theorem dX6_pass_29 : decode cX6_pass 29 = .ok (.invokevirtual 44, 3) := by decide +kernel
theorem dX6_pass_32 : decode cX6_pass 32 = .ok (.iinc 2 1, 3) := by decide +kernel
theorem dX6_pass_35 : decode cX6_pass 35 = .ok (.goto (-12), 3) := by decide +kernel
theorem dX6_pass_38 : decode cX6_pass 38 = .ok (.aload_n 0, 1) := by decide +kernel
theorem dX6_pass_39 : decode cX6_pass 39 = .ok (.getfield 14, 3) := by decide +kernel
theorem dX6_pass_42 : decode cX6_pass 42 = .ok (.iload_n 1, 1) := by decide +kernel
theorem dX6_pass_43 : decode cX6_pass 43 = .ok (.if_icmp .lt 16, 3) := by decide +kernel
theorem dX6_pass_46 : decode cX6_pass 46 = .ok (.aload_n 0, 1) := by decide +kernel
theorem dX6_pass_47 : decode cX6_pass 47 = .ok (.dup, 1) := by decide +kernel
theorem dX6_pass_48 : decode cX6_pass 48 = .ok (.getfield 14, 3) := by decide +kernel
theorem dX6_pass_51 : decode cX6_pass 51 = .ok (.iload_n 1, 1) := by decide +kernel
theorem dX6_pass_52 : decode cX6_pass 52 = .ok (.isub, 1) := by decide +kernel
theorem dX6_pass_53 : decode cX6_pass 53 = .ok (.putfield 14, 3) := by decide +kernel
theorem dX6_pass_56 : decode cX6_pass 56 = .ok (.goto 20, 3) := by decide +kernel
theorem dX6_pass_59 : decode cX6_pass 59 = .ok (.iconst 0, 1) := by decide +kernel
theorem dX6_pass_60 : decode cX6_pass 60 = .ok (.istore_n 2, 1) := by decide +kernel
theorem dX6_pass_61 : decode cX6_pass 61 = .ok (.iload_n 2, 1) := by decide +kernel
theorem dX6_pass_62 : decode cX6_pass 62 = .ok (.iload_n 1, 1) := by decide +kernel
theorem dX6_pass_63 : decode cX6_pass 63 = .ok (.if_icmp .ge 13, 3) := by decide +kernel
theorem dX6_pass_66 : decode cX6_pass 66 = .ok (.aload_n 0, 1) := by decide +kernel
theorem dX6_pass_67 : decode cX6_pass 67 = .ok (.invokevirtual 47, 3) := by decide +kernel
theorem dX6_pass_70 : decode cX6_pass 70 = .ok (.iinc 2 1, 3) := by decide +kernel
theorem dX6_pass_73 : decode cX6_pass 73 = .ok (.goto (-12), 3) := by decide +kernel
theorem dX6_pass_76 : decode cX6_pass 76 = .ok (.return_, 1) := by decide +kernel
theorem dX6_passOneOf1_0 : decode cX6_passOneOf1 0 = .ok (.aload_n 0, 1) := by decide +kernel
theorem dX6_passOneOf1_1 : decode cX6_passOneOf1 1 = .ok (.getfield 10, 3) := by decide +kernel
theorem dX6_passOneOf1_4 : decode cX6_passOneOf1 4 = .ok (.ifCond .eq 14, 3) := by decide +kernel
theorem dX6_passOneOf1_7 : decode cX6_passOneOf1 7 = .ok (.aload_n 0, 1) := by decide +kernel
theorem dX6_passOneOf1_8 : decode cX6_passOneOf1 8 = .ok (.dup, 1) := by decide +kernel
theorem dX6_passOneOf1_9 : decode cX6_passOneOf1 9 = .ok (.getfield 10, 3) := by decide +kernel
theorem dX6_passOneOf1_12 : decode cX6_passOneOf1 12 = .ok (.iconst 1, 1) := by decide +kernel
theorem dX6_passOneOf1_13 : decode cX6_passOneOf1 13 = .ok (.isub, 1) := by decide +kernel
theorem dX6_passOneOf1_14 : decode cX6_passOneOf1 14 = .ok (.putfield 10, 3) := by decide +kernel
theorem dX6_passOneOf1_17 : decode cX6_passOneOf1 17 = .ok (.return_, 1) := by decide +kernel
theorem dX6_passOneOf1_18 : decode cX6_passOneOf1 18 = .ok (.aload_n 0, 1) := by decide +kernel
theorem dX6_passOneOf1_19 : decode cX6_passOneOf1 19 = .ok (.getfield 29, 3) := by decide +kernel
theorem dX6_passOneOf1_22 : decode cX6_passOneOf1 22 = .ok (.bipush 64, 2) := by decide +kernel
theorem dX6_passOneOf1_24 : decode cX6_passOneOf1 24 = .ok (.iand, 1) := by decide +kernel
theorem dX6_passOneOf1_25 : decode cX6_passOneOf1 25 = .ok (.ifCond .eq 7, 3) := by decide +kernel
theorem dX6_passOneOf1_28 : decode cX6_passOneOf1 28 = .ok (.iconst 1, 1) := by decide +kernel
theorem dX6_passOneOf1_29 : decode cX6_passOneOf1 29 = .ok (.goto 4, 3) := by decide +kernel
theorem dX6_passOneOf1_32 : decode cX6_passOneOf1 32 = .ok (.iconst 0, 1) := by decide +kernel
theorem dX6_passOneOf1_33 : decode cX6_passOneOf1 33 = .ok (.istore_n 1, 1) := by decide +kernel
theorem dX6_passOneOf1_34 : decode cX6_passOneOf1 34 = .ok (.aload_n 0, 1) := by decide +kernel
theorem dX6_passOneOf1_35 : decode cX6_passOneOf1 35 = .ok (.iload_n 1, 1) := by decide +kernel
theorem dX6_passOneOf1_36 : decode cX6_passOneOf1 36 = .ok (.ifCond .eq 10, 3) := by decide +kernel
theorem dX6_passOneOf1_39 : decode cX6_passOneOf1 39 = .ok (.aload_n 0, 1) := by decide +kernel
theorem dX6_passOneOf1_40 : decode cX6_passOneOf1 40 = .ok (.getfield 17, 3) := by decide +kernel
theorem dX6_passOneOf1_43 : decode cX6_passOneOf1 43 = .ok (.goto 5, 3) := by decide +kernel
theorem dX6_passOneOf1_46 : decode cX6_passOneOf1 46 = .ok (.ldc 9, 2) := by decide +kernel
theorem dX6_passOneOf1_48 : decode cX6_passOneOf1 48 = .ok (.putfield 10, 3) := by decide +kernel
theorem dX6_passOneOf1_51 : decode cX6_passOneOf1 51 = .ok (.aload_n 0, 1) := by decide +kernel
theorem dX6_passOneOf1_52 : decode cX6_passOneOf1 52 = .ok (.getfield 32, 3) := by decide +kernel
theorem dX6_passOneOf1_55 : decode cX6_passOneOf1 55 = .ok (.ifCond .eq 19, 3) := by decide +kernel
theorem dX6_passOneOf1_58 : decode cX6_passOneOf1 58 = .ok (.aload_n 0, 1) := by decide +kernel
theorem dX6_passOneOf1_59 : decode cX6_passOneOf1 59 = .ok (.dup, 1) := by decide +kernel
theorem dX6_passOneOf1_60 : decode cX6_passOneOf1 60 = .ok (.getfield 20, 3) := by decide +kernel
theorem dX6_passOneOf1_63 : decode cX6_passOneOf1 63 = .ok (.bipush 64, 2) := by decide +kernel
theorem dX6_passOneOf1_65 : decode cX6_passOneOf1 65 = .ok (.ior, 1) := by decide +kernel
theorem dX6_passOneOf1_66 : decode cX6_passOneOf1 66 = .ok (.putfield 20, 3) := by decide +kernel
theorem dX6_passOneOf1_69 : decode cX6_passOneOf1 69 = .ok (.aload_n 0, 1) := by decide +kernel
theorem dX6_passOneOf1_70 : decode cX6_passOneOf1 70 = .ok (.iload_n 1, 1) := by decide +kernel
theorem dX6_passOneOf1_71 : decode cX6_passOneOf1 71 = .ok (.putfield 32, 3) := by decide +kernel
theorem dX6_passOneOf1_74 : decode cX6_passOneOf1 74 = .ok (.return_, 1) := by decide +kernel
theorem dX6_passOneOf2_0 : decode cX6_passOneOf2 0 = .ok (.aload_n 0, 1) := by decide +kernel
theorem dX6_passOneOf2_1 : decode cX6_passOneOf2 1 = .ok (.getfield 14, 3) := by decide +kernel
theorem dX6_passOneOf2_4 : decode cX6_passOneOf2 4 = .ok (.ifCond .eq 14, 3) := by decide +kernel
theorem dX6_passOneOf2_7 : decode cX6_passOneOf2 7 = .ok (.aload_n 0, 1) := by decide +kernel
theorem dX6_passOneOf2_8 : decode cX6_passOneOf2 8 = .ok (.dup, 1) := by decide +kernel
theorem dX6_passOneOf2_9 : decode cX6_passOneOf2 9 = .ok (.getfield 14, 3) := by decide +kernel
theorem dX6_passOneOf2_12 : decode cX6_passOneOf2 12 = .ok (.iconst 1, 1) := by decide +kernel
theorem dX6_passOneOf2_13 : decode cX6_passOneOf2 13 = .ok (.isub, 1) := by decide +kernel
theorem dX6_passOneOf2_14 : decode cX6_passOneOf2 14 = .ok (.putfield 14, 3) := by decide +kernel
theorem dX6_passOneOf2_17 : decode cX6_passOneOf2 17 = .ok (.return_, 1) := by decide +kernel
theorem dX6_passOneOf2_18 : decode cX6_passOneOf2 18 = .ok (.aload_n 0, 1) := by decide +kernel
theorem dX6_passOneOf2_19 : decode cX6_passOneOf2 19 = .ok (.ldc 9, 2) := by decide +kernel
theorem dX6_passOneOf2_21 : decode cX6_passOneOf2 21 = .ok (.putfield 14, 3) := by decide +kernel
theorem dX6_passOneOf2_24 : decode cX6_passOneOf2 24 = .ok (.aload_n 0, 1) := by decide +kernel
theorem dX6_passOneOf2_25 : decode cX6_passOneOf2 25 = .ok (.getfield 36, 3) := by decide +kernel
theorem dX6_passOneOf2_28 : decode cX6_passOneOf2 28 = .ok (.ifCond .eq 19, 3) := by decide +kernel
theorem dX6_passOneOf2_31 : decode cX6_passOneOf2 31 = .ok (.aload_n 0, 1) := by decide +kernel
theorem dX6_passOneOf2_32 : decode cX6_passOneOf2 32 = .ok (.dup, 1) := by decide +kernel
theorem dX6_passOneOf2_33 : decode cX6_passOneOf2 33 = .ok (.getfield 20, 3) := by decide +kernel
theorem dX6_passOneOf2_36 : decode cX6_passOneOf2 36 = .ok (.bipush 32, 2) := by decide +kernel
theorem dX6_passOneOf2_38 : decode cX6_passOneOf2 38 = .ok (.ior, 1) := by decide +kernel
theorem dX6_passOneOf2_39 : decode cX6_passOneOf2 39 = .ok (.putfield 20, 3) := by decide +kernel
theorem dX6_passOneOf2_42 : decode cX6_passOneOf2 42 = .ok (.aload_n 0, 1) := by decide +kernel
theorem dX6_passOneOf2_43 : decode cX6_passOneOf2 43 = .ok (.iconst 0, 1) := by decide +kernel
theorem dX6_passOneOf2_44 : decode cX6_passOneOf2 44 = .ok (.putfield 36, 3) := by decide +kernel
theorem dX6_passOneOf2_47 : decode cX6_passOneOf2 47 = .ok (.return_, 1) := by decide +kernel
theorem dX7_init_0 : decode cX7_init 0 = .ok (.aload_n 0, 1) := by decide +kernel
theorem dX7_init_1 : decode cX7_init 1 = .ok (.invokespecial 3, 3) := by decide +kernel
theorem dX7_init_4 : decode cX7_init 4 = .ok (.aload_n 0, 1) := by decide +kernel
theorem dX7_init_5 : decode cX7_init 5 = .ok (.bipush 32, 2) := by decide +kernel
theorem dX7_init_7 : decode cX7_init 7 = .ok (.newarray .int, 2) := by decide +kernel
theorem dX7_init_9 : decode cX7_init 9 = .ok (.putfield 11, 3) := by decide +kernel
theorem dX7_init_12 : decode cX7_init 12 = .ok (.return_, 1) := by decide +kernel
theorem dX7_note_0 : decode cX7_note 0 = .ok (.aload_n 0, 1) := by decide +kernel
theorem dX7_note_1 : decode cX7_note 1 = .ok (.getfield 11, 3) := by decide +kernel
theorem dX7_note_4 : decode cX7_note 4 = .ok (.aload_n 0, 1) := by decide +kernel
theorem dX7_note_5 : decode cX7_note 5 = .ok (.getfield 15, 3) := by decide +kernel
theorem dX7_note_8 : decode cX7_note 8 = .ok (.bipush 31, 2) := by decide +kernel
theorem dX7_note_10 : decode cX7_note 10 = .ok (.iand, 1) := by decide +kernel
theorem dX7_note_11 : decode cX7_note 11 = .ok (.iload_n 1, 1) := by decide +kernel
theorem dX7_note_12 : decode cX7_note 12 = .ok (.iastore, 1) := by decide +kernel
theorem dX7_note_13 : decode cX7_note 13 = .ok (.aload_n 0, 1) := by decide +kernel
theorem dX7_note_14 : decode cX7_note 14 = .ok (.dup, 1) := by decide +kernel
theorem dX7_note_15 : decode cX7_note 15 = .ok (.getfield 15, 3) := by decide +kernel
theorem dX7_note_18 : decode cX7_note 18 = .ok (.iconst 1, 1) := by decide +kernel
theorem dX7_note_19 : decode cX7_note 19 = .ok (.iadd, 1) := by decide +kernel
theorem dX7_note_20 : decode cX7_note 20 = .ok (.putfield 15, 3) := by decide +kernel
theorem dX7_note_23 : decode cX7_note 23 = .ok (.return_, 1) := by decide +kernel
theorem dX7_kept_0 : decode cX7_kept 0 = .ok (.aload_n 0, 1) := by decide +kernel
theorem dX7_kept_1 : decode cX7_kept 1 = .ok (.getfield 15, 3) := by decide +kernel
theorem dX7_kept_4 : decode cX7_kept 4 = .ok (.bipush 32, 2) := by decide +kernel
theorem dX7_kept_6 : decode cX7_kept 6 = .ok (.invokestatic 19, 3) := by decide +kernel
theorem dX7_kept_9 : decode cX7_kept 9 = .ok (.istore_n 2, 1) := by decide +kernel
theorem dX7_kept_10 : decode cX7_kept 10 = .ok (.iload_n 1, 1) := by decide +kernel
theorem dX7_kept_11 : decode cX7_kept 11 = .ok (.ifCond .lt 8, 3) := by decide +kernel
theorem dX7_kept_14 : decode cX7_kept 14 = .ok (.iload_n 1, 1) := by decide +kernel
theorem dX7_kept_15 : decode cX7_kept 15 = .ok (.iload_n 2, 1) := by decide +kernel
theorem dX7_kept_16 : decode cX7_kept 16 = .ok (.if_icmp .lt 7, 3) := by decide +kernel
theorem dX7_kept_19 : decode cX7_kept 19 = .ok (.iconst (-1), 1) := by decide +kernel
theorem dX7_kept_20 : decode cX7_kept 20 = .ok (.goto 19, 3) := by decide +kernel
theorem dX7_kept_23 : decode cX7_kept 23 = .ok (.aload_n 0, 1) := by decide +kernel
theorem dX7_kept_24 : decode cX7_kept 24 = .ok (.getfield 11, 3) := by decide +kernel
theorem dX7_kept_27 : decode cX7_kept 27 = .ok (.aload_n 0, 1) := by decide +kernel
theorem dX7_kept_28 : decode cX7_kept 28 = .ok (.getfield 15, 3) := by decide +kernel
theorem dX7_kept_31 : decode cX7_kept 31 = .ok (.iload_n 2, 1) := by decide +kernel
theorem dX7_kept_32 : decode cX7_kept 32 = .ok (.isub, 1) := by decide +kernel
theorem dX7_kept_33 : decode cX7_kept 33 = .ok (.iload_n 1, 1) := by decide +kernel
theorem dX7_kept_34 : decode cX7_kept 34 = .ok (.iadd, 1) := by decide +kernel
theorem dX7_kept_35 : decode cX7_kept 35 = .ok (.bipush 31, 2) := by decide +kernel
theorem dX7_kept_37 : decode cX7_kept 37 = .ok (.iand, 1) := by decide +kernel
theorem dX7_kept_38 : decode cX7_kept 38 = .ok (.iaload, 1) := by decide +kernel
theorem dX7_kept_39 : decode cX7_kept 39 = .ok (.ireturn, 1) := by decide +kernel
theorem dX8_init_0 : decode cX8_init 0 = .ok (.aload_n 0, 1) := by decide +kernel
theorem dX8_init_1 : decode cX8_init 1 = .ok (.invokespecial 1, 3) := by decide +kernel
theorem dX8_init_4 : decode cX8_init 4 = .ok (.aload_n 0, 1) := by decide +kernel
theorem dX8_init_5 : decode cX8_init 5 = .ok (.new 7, 3) := by decide +kernel
theorem dX8_init_8 : decode cX8_init 8 = .ok (.dup, 1) := by decide +kernel
theorem dX8_init_9 : decode cX8_init 9 = .ok (.invokespecial 9, 3) := by decide +kernel
theorem dX8_init_12 : decode cX8_init 12 = .ok (.putfield 10, 3) := by decide +kernel
theorem dX8_init_15 : decode cX8_init 15 = .ok (.aload_n 0, 1) := by decide +kernel
theorem dX8_init_16 : decode cX8_init 16 = .ok (.new 16, 3) := by decide +kernel
theorem dX8_init_19 : decode cX8_init 19 = .ok (.dup, 1) := by decide +kernel
theorem dX8_init_20 : decode cX8_init 20 = .ok (.aload_n 0, 1) := by decide +kernel
theorem dX8_init_21 : decode cX8_init 21 = .ok (.getfield 10, 3) := by decide +kernel
theorem dX8_init_24 : decode cX8_init 24 = .ok (.invokespecial 18, 3) := by decide +kernel
theorem dX8_init_27 : decode cX8_init 27 = .ok (.putfield 21, 3) := by decide +kernel
theorem dX8_init_30 : decode cX8_init 30 = .ok (.aload_n 0, 1) := by decide +kernel
theorem dX8_init_31 : decode cX8_init 31 = .ok (.new 25, 3) := by decide +kernel
theorem dX8_init_34 : decode cX8_init 34 = .ok (.dup, 1) := by decide +kernel
theorem dX8_init_35 : decode cX8_init 35 = .ok (.invokespecial 27, 3) := by decide +kernel
theorem dX8_init_38 : decode cX8_init 38 = .ok (.putfield 28, 3) := by decide +kernel
theorem dX8_init_41 : decode cX8_init 41 = .ok (.return_, 1) := by decide +kernel
theorem dX8_load_0 : decode cX8_load 0 = .ok (.iload 4, 2) := by decide +kernel
theorem dX8_load_2 : decode cX8_load 2 = .ok (.iconst 1, 1) := by decide +kernel
theorem dX8_load_3 : decode cX8_load 3 = .ok (.if_icmp .lt 10, 3) := by decide +kernel
theorem dX8_load_6 : decode cX8_load 6 = .ok (.iload 4, 2) := by decide +kernel
theorem dX8_load_8 : decode cX8_load 8 = .ok (.bipush 8, 2) := by decide +kernel
theorem dX8_load_10 : decode cX8_load 10 = .ok (.if_icmp .le 13, 3) := by decide +kernel
theorem dX8_load_13 : decode cX8_load 13 = .ok (.new 32, 3) := by decide +kernel
theorem dX8_load_16 : decode cX8_load 16 = .ok (.dup, 1) := by decide +kernel
theorem dX8_load_17 : decode cX8_load 17 = .ok (.ldc 34, 2) := by decide +kernel
theorem dX8_load_19 : decode cX8_load 19 = .ok (.invokespecial 36, 3) := by decide +kernel
theorem dX8_load_22 : decode cX8_load 22 = .ok (.athrow, 1) := by decide +kernel
theorem dX8_load_23 : decode cX8_load 23 = .ok (.iload_n 1, 1) := by decide +kernel
theorem dX8_load_24 : decode cX8_load 24 = .ok (.ifCond .lt 12, 3) := by decide +kernel
theorem dX8_load_27 : decode cX8_load 27 = .ok (.iload_n 1, 1) := by decide +kernel
theorem dX8_load_28 : decode cX8_load 28 = .ok (.ldc 39, 2) := by decide +kernel
theorem dX8_load_30 : decode cX8_load 30 = .ok (.iload 4, 2) := by decide +kernel
theorem dX8_load_32 : decode cX8_load 32 = .ok (.isub, 1) := by decide +kernel
theorem dX8_load_33 : decode cX8_load 33 = .ok (.if_icmp .le 13, 3) := by decide +kernel
theorem dX8_load_36 : decode cX8_load 36 = .ok (.new 32, 3) := by decide +kernel
theorem dX8_load_39 : decode cX8_load 39 = .ok (.dup, 1) := by decide +kernel
theorem dX8_load_40 : decode cX8_load 40 = .ok (.ldc 40, 2) := by decide +kernel
theorem dX8_load_42 : decode cX8_load 42 = .ok (.invokespecial 36, 3) := by decide +kernel
theorem dX8_load_45 : decode cX8_load 45 = .ok (.athrow, 1) := by decide +kernel
theorem dX8_load_46 : decode cX8_load 46 = .ok (.iconst 0, 1) := by decide +kernel
theorem dX8_load_47 : decode cX8_load 47 = .ok (.istore 5, 2) := by decide +kernel
theorem dX8_load_49 : decode cX8_load 49 = .ok (.iload 5, 2) := by decide +kernel
theorem dX8_load_51 : decode cX8_load 51 = .ok (.iload 4, 2) := by decide +kernel
theorem dX8_load_53 : decode cX8_load 53 = .ok (.if_icmp .ge 37, 3) := by decide +kernel
theorem dX8_load_56 : decode cX8_load 56 = .ok (.aload_n 0, 1) := by decide +kernel
theorem dX8_load_57 : decode cX8_load 57 = .ok (.getfield 10, 3) := by decide +kernel
theorem dX8_load_60 : decode cX8_load 60 = .ok (.iload_n 1, 1) := by decide +kernel
theorem dX8_load_61 : decode cX8_load 61 = .ok (.iload 5, 2) := by decide +kernel
theorem dX8_load_63 : decode cX8_load 63 = .ok (.iadd, 1) := by decide +kernel
theorem dX8_load_64 : decode cX8_load 64 = .ok (.lload_n 2, 1) := by decide +kernel
theorem dX8_load_65 : decode cX8_load 65 = .ok (.bipush 8, 2) := by decide +kernel
theorem dX8_load_67 : decode cX8_load 67 = .ok (.iload 4, 2) := by decide +kernel
theorem dX8_load_69 : decode cX8_load 69 = .ok (.iconst 1, 1) := by decide +kernel
theorem dX8_load_70 : decode cX8_load 70 = .ok (.isub, 1) := by decide +kernel
theorem dX8_load_71 : decode cX8_load 71 = .ok (.iload 5, 2) := by decide +kernel
theorem dX8_load_73 : decode cX8_load 73 = .ok (.isub, 1) := by decide +kernel
theorem dX8_load_74 : decode cX8_load 74 = .ok (.imul, 1) := by decide +kernel
theorem dX8_load_75 : decode cX8_load 75 = .ok (.lushr, 1) := by decide +kernel
theorem dX8_load_76 : decode cX8_load 76 = .ok (.l2i, 1) := by decide +kernel
theorem dX8_load_77 : decode cX8_load 77 = .ok (.sipush 255, 3) := by decide +kernel
theorem dX8_load_80 : decode cX8_load 80 = .ok (.iand, 1) := by decide +kernel
theorem dX8_load_81 : decode cX8_load 81 = .ok (.invokevirtual 42, 3) := by decide +kernel
theorem dX8_load_84 : decode cX8_load 84 = .ok (.iinc 5 1, 3) := by decide +kernel
theorem dX8_load_87 : decode cX8_load 87 = .ok (.goto (-38), 3) := by decide +kernel
theorem dX8_load_90 : decode cX8_load 90 = .ok (.return_, 1) := by decide +kernel
theorem dX8_reset_0 : decode cX8_reset 0 = .ok (.aload_n 0, 1) := by decide +kernel
theorem dX8_reset_1 : decode cX8_reset 1 = .ok (.getfield 10, 3) := by decide +kernel
theorem dX8_reset_4 : decode cX8_reset 4 = .ok (.invokevirtual 46, 3) := by decide +kernel
theorem dX8_reset_7 : decode cX8_reset 7 = .ok (.aload_n 0, 1) := by decide +kernel
theorem dX8_reset_8 : decode cX8_reset 8 = .ok (.getfield 21, 3) := by decide +kernel
theorem dX8_reset_11 : decode cX8_reset 11 = .ok (.invokevirtual 49, 3) := by decide +kernel
theorem dX8_reset_14 : decode cX8_reset 14 = .ok (.return_, 1) := by decide +kernel
theorem dX8_step_0 : decode cX8_step 0 = .ok (.aload_n 0, 1) := by decide +kernel
theorem dX8_step_1 : decode cX8_step 1 = .ok (.getfield 21, 3) := by decide +kernel
theorem dX8_step_4 : decode cX8_step 4 = .ok (.invokevirtual 50, 3) := by decide +kernel
theorem dX8_step_7 : decode cX8_step 7 = .ok (.ireturn, 1) := by decide +kernel
theorem dX8_run_0 : decode cX8_run 0 = .ok (.iload_n 1, 1) := by decide +kernel
theorem dX8_run_1 : decode cX8_run 1 = .ok (.ifCond .lt 9, 3) := by decide +kernel
theorem dX8_run_4 : decode cX8_run 4 = .ok (.iload_n 1, 1) := by decide +kernel
theorem dX8_run_5 : decode cX8_run 5 = .ok (.ldc 54, 2) := by decide +kernel
theorem dX8_run_7 : decode cX8_run 7 = .ok (.if_icmp .le 13, 3) := by decide +kernel
theorem dX8_run_10 : decode cX8_run 10 = .ok (.new 32, 3) := by decide +kernel
theorem dX8_run_13 : decode cX8_run 13 = .ok (.dup, 1) := by decide +kernel
theorem dX8_run_14 : decode cX8_run 14 = .ok (.ldc 55, 2) := by decide +kernel
theorem dX8_run_16 : decode cX8_run 16 = .ok (.invokespecial 36, 3) := by decide +kernel
theorem dX8_run_19 : decode cX8_run 19 = .ok (.athrow, 1) := by decide +kernel
theorem dX8_run_20 : decode cX8_run 20 = .ok (.aload_n 0, 1) := by decide +kernel
theorem dX8_run_21 : decode cX8_run 21 = .ok (.getfield 21, 3) := by decide +kernel
theorem dX8_run_24 : decode cX8_run 24 = .ok (.getfield 57, 3) := by decide +kernel
theorem dX8_run_27 : decode cX8_run 27 = .ok (.ifCond .eq 5, 3) := by decide +kernel
theorem dX8_run_30 : decode cX8_run 30 = .ok (.iconst 2, 1) := by decide +kernel
theorem dX8_run_31 : decode cX8_run 31 = .ok (.ireturn, 1) := by decide +kernel
theorem dX8_run_32 : decode cX8_run 32 = .ok (.iconst 0, 1) := by decide +kernel
theorem dX8_run_33 : decode cX8_run 33 = .ok (.istore_n 2, 1) := by decide +kernel
theorem dX8_run_34 : decode cX8_run 34 = .ok (.iload_n 2, 1) := by decide +kernel
theorem dX8_run_35 : decode cX8_run 35 = .ok (.iload_n 1, 1) := by decide +kernel
theorem dX8_run_36 : decode cX8_run 36 = .ok (.if_icmp .ge 48, 3) := by decide +kernel
theorem dX8_run_39 : decode cX8_run 39 = .ok (.aload_n 0, 1) := by decide +kernel
theorem dX8_run_40 : decode cX8_run 40 = .ok (.getfield 21, 3) := by decide +kernel
theorem dX8_run_43 : decode cX8_run 43 = .ok (.invokevirtual 50, 3) := by decide +kernel
theorem dX8_run_46 : decode cX8_run 46 = .ok (.pop, 1) := by decide +kernel
theorem dX8_run_47 : decode cX8_run 47 = .ok (.aload_n 0, 1) := by decide +kernel
theorem dX8_run_48 : decode cX8_run 48 = .ok (.getfield 21, 3) := by decide +kernel
theorem dX8_run_51 : decode cX8_run 51 = .ok (.getfield 57, 3) := by decide +kernel
theorem dX8_run_54 : decode cX8_run 54 = .ok (.ifCond .eq 5, 3) := by decide +kernel
theorem dX8_run_57 : decode cX8_run 57 = .ok (.iconst 2, 1) := by decide +kernel
theorem dX8_run_58 : decode cX8_run 58 = .ok (.ireturn, 1) := by decide +kernel
theorem dX8_run_59 : decode cX8_run 59 = .ok (.aload_n 0, 1) := by decide +kernel
theorem dX8_run_60 : decode cX8_run 60 = .ok (.getfield 28, 3) := by decide +kernel
theorem dX8_run_63 : decode cX8_run 63 = .ok (.aload_n 0, 1) := by decide +kernel
theorem dX8_run_64 : decode cX8_run 64 = .ok (.getfield 21, 3) := by decide +kernel
theorem dX8_run_67 : decode cX8_run 67 = .ok (.getfield 61, 3) := by decide +kernel
theorem dX8_run_70 : decode cX8_run 70 = .ok (.invokevirtual 65, 3) := by decide +kernel
theorem dX8_run_73 : decode cX8_run 73 = .ok (.ifCond .eq 5, 3) := by decide +kernel
theorem dX8_run_76 : decode cX8_run 76 = .ok (.iconst 1, 1) := by decide +kernel
theorem dX8_run_77 : decode cX8_run 77 = .ok (.ireturn, 1) := by decide +kernel
theorem dX8_run_78 : decode cX8_run 78 = .ok (.iinc 2 1, 3) := by decide +kernel
theorem dX8_run_81 : decode cX8_run 81 = .ok (.goto (-47), 3) := by decide +kernel
theorem dX8_run_84 : decode cX8_run 84 = .ok (.iconst 0, 1) := by decide +kernel
theorem dX8_run_85 : decode cX8_run 85 = .ok (.ireturn, 1) := by decide +kernel
theorem dX8_nmi_0 : decode cX8_nmi 0 = .ok (.aload_n 0, 1) := by decide +kernel
theorem dX8_nmi_1 : decode cX8_nmi 1 = .ok (.getfield 21, 3) := by decide +kernel
theorem dX8_nmi_4 : decode cX8_nmi 4 = .ok (.iconst 1, 1) := by decide +kernel
theorem dX8_nmi_5 : decode cX8_nmi 5 = .ok (.putfield 69, 3) := by decide +kernel
theorem dX8_nmi_8 : decode cX8_nmi 8 = .ok (.return_, 1) := by decide +kernel
theorem dX8_receive_0 : decode cX8_receive 0 = .ok (.aload_n 0, 1) := by decide +kernel
theorem dX8_receive_1 : decode cX8_receive 1 = .ok (.getfield 10, 3) := by decide +kernel
theorem dX8_receive_4 : decode cX8_receive 4 = .ok (.getfield 72, 3) := by decide +kernel
theorem dX8_receive_7 : decode cX8_receive 7 = .ok (.iload_n 1, 1) := by decide +kernel
theorem dX8_receive_8 : decode cX8_receive 8 = .ok (.invokevirtual 76, 3) := by decide +kernel
theorem dX8_receive_11 : decode cX8_receive 11 = .ok (.ireturn, 1) := by decide +kernel
theorem dX8_sent_0 : decode cX8_sent 0 = .ok (.aload_n 0, 1) := by decide +kernel
theorem dX8_sent_1 : decode cX8_sent 1 = .ok (.getfield 10, 3) := by decide +kernel
theorem dX8_sent_4 : decode cX8_sent 4 = .ok (.getfield 72, 3) := by decide +kernel
theorem dX8_sent_7 : decode cX8_sent 7 = .ok (.iload_n 1, 1) := by decide +kernel
theorem dX8_sent_8 : decode cX8_sent 8 = .ok (.invokevirtual 82, 3) := by decide +kernel
theorem dX8_sent_11 : decode cX8_sent 11 = .ok (.ireturn, 1) := by decide +kernel
theorem dX8_look_0 : decode cX8_look 0 = .ok (.iload_n 1, 1) := by decide +kernel
theorem dX8_look_1 : decode cX8_look 1 = .ok (.invokestatic 85, 3) := by decide +kernel
theorem dX8_look_4 : decode cX8_look 4 = .ok (.ifCond .ne 13, 3) := by decide +kernel
theorem dX8_look_7 : decode cX8_look 7 = .ok (.new 32, 3) := by decide +kernel
theorem dX8_look_10 : decode cX8_look 10 = .ok (.dup, 1) := by decide +kernel
theorem dX8_look_11 : decode cX8_look 11 = .ok (.ldc 88, 2) := by decide +kernel
theorem dX8_look_13 : decode cX8_look 13 = .ok (.invokespecial 36, 3) := by decide +kernel
theorem dX8_look_16 : decode cX8_look 16 = .ok (.athrow, 1) := by decide +kernel
theorem dX8_look_17 : decode cX8_look 17 = .ok (.aload_n 0, 1) := by decide +kernel
theorem dX8_look_18 : decode cX8_look 18 = .ok (.getfield 10, 3) := by decide +kernel
theorem dX8_look_21 : decode cX8_look 21 = .ok (.iload_n 1, 1) := by decide +kernel
theorem dX8_look_22 : decode cX8_look 22 = .ok (.invokevirtual 90, 3) := by decide +kernel
theorem dX8_look_25 : decode cX8_look 25 = .ok (.ireturn, 1) := by decide +kernel
theorem dX8_register_0 : decode cX8_register 0 = .ok (.iload_n 1, 1) := by decide +kernel
theorem dX8_register_1 : decode cX8_register 1 = .ok (.tableswitch 99 0 5 #[39, 49, 59, 69, 79, 89], 39) := by decide +kernel
theorem dX8_register_40 : decode cX8_register 40 = .ok (.aload_n 0, 1) := by decide +kernel
theorem dX8_register_41 : decode cX8_register 41 = .ok (.getfield 21, 3) := by decide +kernel
theorem dX8_register_44 : decode cX8_register 44 = .ok (.getfield 93, 3) := by decide +kernel
theorem dX8_register_47 : decode cX8_register 47 = .ok (.goto 54, 3) := by decide +kernel
theorem dX8_register_50 : decode cX8_register 50 = .ok (.aload_n 0, 1) := by decide +kernel
theorem dX8_register_51 : decode cX8_register 51 = .ok (.getfield 21, 3) := by decide +kernel
theorem dX8_register_54 : decode cX8_register 54 = .ok (.getfield 96, 3) := by decide +kernel
theorem dX8_register_57 : decode cX8_register 57 = .ok (.goto 44, 3) := by decide +kernel
theorem dX8_register_60 : decode cX8_register 60 = .ok (.aload_n 0, 1) := by decide +kernel
theorem dX8_register_61 : decode cX8_register 61 = .ok (.getfield 21, 3) := by decide +kernel
theorem dX8_register_64 : decode cX8_register 64 = .ok (.getfield 99, 3) := by decide +kernel
theorem dX8_register_67 : decode cX8_register 67 = .ok (.goto 34, 3) := by decide +kernel
theorem dX8_register_70 : decode cX8_register 70 = .ok (.aload_n 0, 1) := by decide +kernel
theorem dX8_register_71 : decode cX8_register 71 = .ok (.getfield 21, 3) := by decide +kernel
theorem dX8_register_74 : decode cX8_register 74 = .ok (.getfield 102, 3) := by decide +kernel
theorem dX8_register_77 : decode cX8_register 77 = .ok (.goto 24, 3) := by decide +kernel
theorem dX8_register_80 : decode cX8_register 80 = .ok (.aload_n 0, 1) := by decide +kernel
theorem dX8_register_81 : decode cX8_register 81 = .ok (.getfield 21, 3) := by decide +kernel
theorem dX8_register_84 : decode cX8_register 84 = .ok (.getfield 105, 3) := by decide +kernel
theorem dX8_register_87 : decode cX8_register 87 = .ok (.goto 14, 3) := by decide +kernel
theorem dX8_register_90 : decode cX8_register 90 = .ok (.aload_n 0, 1) := by decide +kernel
theorem dX8_register_91 : decode cX8_register 91 = .ok (.getfield 21, 3) := by decide +kernel
theorem dX8_register_94 : decode cX8_register 94 = .ok (.getfield 61, 3) := by decide +kernel
theorem dX8_register_97 : decode cX8_register 97 = .ok (.goto 4, 3) := by decide +kernel
theorem dX8_register_100 : decode cX8_register 100 = .ok (.iconst (-1), 1) := by decide +kernel
theorem dX8_register_101 : decode cX8_register 101 = .ok (.ireturn, 1) := by decide +kernel
theorem dX8_set_0 : decode cX8_set 0 = .ok (.iload_n 1, 1) := by decide +kernel
theorem dX8_set_1 : decode cX8_set 1 = .ok (.tableswitch 131 0 5 #[39, 54, 69, 84, 99, 117], 39) := by decide +kernel
theorem dX8_set_40 : decode cX8_set 40 = .ok (.aload_n 0, 1) := by decide +kernel
theorem dX8_set_41 : decode cX8_set 41 = .ok (.getfield 21, 3) := by decide +kernel
theorem dX8_set_44 : decode cX8_set 44 = .ok (.iload_n 2, 1) := by decide +kernel
theorem dX8_set_45 : decode cX8_set 45 = .ok (.sipush 255, 3) := by decide +kernel
theorem dX8_set_48 : decode cX8_set 48 = .ok (.iand, 1) := by decide +kernel
theorem dX8_set_49 : decode cX8_set 49 = .ok (.putfield 93, 3) := by decide +kernel
theorem dX8_set_52 : decode cX8_set 52 = .ok (.goto 90, 3) := by decide +kernel
theorem dX8_set_55 : decode cX8_set 55 = .ok (.aload_n 0, 1) := by decide +kernel
theorem dX8_set_56 : decode cX8_set 56 = .ok (.getfield 21, 3) := by decide +kernel
theorem dX8_set_59 : decode cX8_set 59 = .ok (.iload_n 2, 1) := by decide +kernel
theorem dX8_set_60 : decode cX8_set 60 = .ok (.sipush 255, 3) := by decide +kernel
theorem dX8_set_63 : decode cX8_set 63 = .ok (.iand, 1) := by decide +kernel
theorem dX8_set_64 : decode cX8_set 64 = .ok (.putfield 96, 3) := by decide +kernel
theorem dX8_set_67 : decode cX8_set 67 = .ok (.goto 75, 3) := by decide +kernel
theorem dX8_set_70 : decode cX8_set 70 = .ok (.aload_n 0, 1) := by decide +kernel
theorem dX8_set_71 : decode cX8_set 71 = .ok (.getfield 21, 3) := by decide +kernel
theorem dX8_set_74 : decode cX8_set 74 = .ok (.iload_n 2, 1) := by decide +kernel
theorem dX8_set_75 : decode cX8_set 75 = .ok (.sipush 255, 3) := by decide +kernel
theorem dX8_set_78 : decode cX8_set 78 = .ok (.iand, 1) := by decide +kernel
theorem dX8_set_79 : decode cX8_set 79 = .ok (.putfield 99, 3) := by decide +kernel
theorem dX8_set_82 : decode cX8_set 82 = .ok (.goto 60, 3) := by decide +kernel
theorem dX8_set_85 : decode cX8_set 85 = .ok (.aload_n 0, 1) := by decide +kernel
theorem dX8_set_86 : decode cX8_set 86 = .ok (.getfield 21, 3) := by decide +kernel
theorem dX8_set_89 : decode cX8_set 89 = .ok (.iload_n 2, 1) := by decide +kernel
theorem dX8_set_90 : decode cX8_set 90 = .ok (.sipush 255, 3) := by decide +kernel
theorem dX8_set_93 : decode cX8_set 93 = .ok (.iand, 1) := by decide +kernel
theorem dX8_set_94 : decode cX8_set 94 = .ok (.putfield 102, 3) := by decide +kernel
theorem dX8_set_97 : decode cX8_set 97 = .ok (.goto 45, 3) := by decide +kernel
theorem dX8_set_100 : decode cX8_set 100 = .ok (.aload_n 0, 1) := by decide +kernel
theorem dX8_set_101 : decode cX8_set 101 = .ok (.getfield 21, 3) := by decide +kernel
theorem dX8_set_104 : decode cX8_set 104 = .ok (.iload_n 2, 1) := by decide +kernel
theorem dX8_set_105 : decode cX8_set 105 = .ok (.sipush 255, 3) := by decide +kernel
theorem dX8_set_108 : decode cX8_set 108 = .ok (.iand, 1) := by decide +kernel
theorem dX8_set_109 : decode cX8_set 109 = .ok (.bipush 48, 2) := by decide +kernel
theorem dX8_set_111 : decode cX8_set 111 = .ok (.ior, 1) := by decide +kernel
theorem dX8_set_112 : decode cX8_set 112 = .ok (.putfield 105, 3) := by decide +kernel
theorem dX8_set_115 : decode cX8_set 115 = .ok (.goto 27, 3) := by decide +kernel
theorem dX8_set_118 : decode cX8_set 118 = .ok (.aload_n 0, 1) := by decide +kernel
theorem dX8_set_119 : decode cX8_set 119 = .ok (.getfield 21, 3) := by decide +kernel
theorem dX8_set_122 : decode cX8_set 122 = .ok (.iload_n 2, 1) := by decide +kernel
theorem dX8_set_123 : decode cX8_set 123 = .ok (.ldc 108, 2) := by decide +kernel
theorem dX8_set_125 : decode cX8_set 125 = .ok (.iand, 1) := by decide +kernel
theorem dX8_set_126 : decode cX8_set 126 = .ok (.putfield 61, 3) := by decide +kernel
theorem dX8_set_129 : decode cX8_set 129 = .ok (.goto 13, 3) := by decide +kernel
theorem dX8_set_132 : decode cX8_set 132 = .ok (.new 32, 3) := by decide +kernel
theorem dX8_set_135 : decode cX8_set 135 = .ok (.dup, 1) := by decide +kernel
theorem dX8_set_136 : decode cX8_set 136 = .ok (.ldc 109, 2) := by decide +kernel
theorem dX8_set_138 : decode cX8_set 138 = .ok (.invokespecial 36, 3) := by decide +kernel
theorem dX8_set_141 : decode cX8_set 141 = .ok (.athrow, 1) := by decide +kernel
theorem dX8_set_142 : decode cX8_set 142 = .ok (.return_, 1) := by decide +kernel
theorem dX8_setBreak_0 : decode cX8_setBreak 0 = .ok (.iload_n 1, 1) := by decide +kernel
theorem dX8_setBreak_1 : decode cX8_setBreak 1 = .ok (.invokestatic 85, 3) := by decide +kernel
theorem dX8_setBreak_4 : decode cX8_setBreak 4 = .ok (.ifCond .eq 18, 3) := by decide +kernel
theorem dX8_setBreak_7 : decode cX8_setBreak 7 = .ok (.aload_n 0, 1) := by decide +kernel
theorem dX8_setBreak_8 : decode cX8_setBreak 8 = .ok (.getfield 28, 3) := by decide +kernel
theorem dX8_setBreak_11 : decode cX8_setBreak 11 = .ok (.iload_n 1, 1) := by decide +kernel
theorem dX8_setBreak_12 : decode cX8_setBreak 12 = .ok (.invokevirtual 111, 3) := by decide +kernel
theorem dX8_setBreak_15 : decode cX8_setBreak 15 = .ok (.ifCond .eq 7, 3) := by decide +kernel
theorem dX8_setBreak_18 : decode cX8_setBreak 18 = .ok (.iconst 1, 1) := by decide +kernel
theorem dX8_setBreak_19 : decode cX8_setBreak 19 = .ok (.goto 4, 3) := by decide +kernel
theorem dX8_setBreak_22 : decode cX8_setBreak 22 = .ok (.iconst 0, 1) := by decide +kernel
theorem dX8_setBreak_23 : decode cX8_setBreak 23 = .ok (.ireturn, 1) := by decide +kernel
theorem dX8_clearBreak_0 : decode cX8_clearBreak 0 = .ok (.aload_n 0, 1) := by decide +kernel
theorem dX8_clearBreak_1 : decode cX8_clearBreak 1 = .ok (.getfield 28, 3) := by decide +kernel
theorem dX8_clearBreak_4 : decode cX8_clearBreak 4 = .ok (.iload_n 1, 1) := by decide +kernel
theorem dX8_clearBreak_5 : decode cX8_clearBreak 5 = .ok (.invokevirtual 114, 3) := by decide +kernel
theorem dX8_clearBreak_8 : decode cX8_clearBreak 8 = .ok (.ireturn, 1) := by decide +kernel
theorem dX8_trace_0 : decode cX8_trace 0 = .ok (.aload_n 0, 1) := by decide +kernel
theorem dX8_trace_1 : decode cX8_trace 1 = .ok (.getfield 21, 3) := by decide +kernel
theorem dX8_trace_4 : decode cX8_trace 4 = .ok (.getfield 117, 3) := by decide +kernel
theorem dX8_trace_7 : decode cX8_trace 7 = .ok (.iload_n 1, 1) := by decide +kernel
theorem dX8_trace_8 : decode cX8_trace 8 = .ok (.invokevirtual 121, 3) := by decide +kernel
theorem dX8_trace_11 : decode cX8_trace 11 = .ok (.ireturn, 1) := by decide +kernel
theorem dX8_count_0 : decode cX8_count 0 = .ok (.iload_n 1, 1) := by decide +kernel
theorem dX8_count_1 : decode cX8_count 1 = .ok (.tableswitch 284 0 14 #[75, 85, 99, 113, 127, 138, 152, 166, 180, 194, 208, 226, 244, 262, 273], 75) := by decide +kernel
theorem dX8_count_76 : decode cX8_count 76 = .ok (.aload_n 0, 1) := by decide +kernel
theorem dX8_count_77 : decode cX8_count 77 = .ok (.getfield 21, 3) := by decide +kernel
theorem dX8_count_80 : decode cX8_count 80 = .ok (.getfield 126, 3) := by decide +kernel
theorem dX8_count_83 : decode cX8_count 83 = .ok (.goto 205, 3) := by decide +kernel
theorem dX8_count_86 : decode cX8_count 86 = .ok (.aload_n 0, 1) := by decide +kernel
theorem dX8_count_87 : decode cX8_count 87 = .ok (.getfield 21, 3) := by decide +kernel
theorem dX8_count_90 : decode cX8_count 90 = .ok (.getfield 117, 3) := by decide +kernel
theorem dX8_count_93 : decode cX8_count 93 = .ok (.getfield 130, 3) := by decide +kernel
theorem dX8_count_96 : decode cX8_count 96 = .ok (.i2l, 1) := by decide +kernel
theorem dX8_count_97 : decode cX8_count 97 = .ok (.goto 191, 3) := by decide +kernel
theorem dX8_count_100 : decode cX8_count 100 = .ok (.aload_n 0, 1) := by decide +kernel
theorem dX8_count_101 : decode cX8_count 101 = .ok (.getfield 10, 3) := by decide +kernel
theorem dX8_count_104 : decode cX8_count 104 = .ok (.getfield 72, 3) := by decide +kernel
theorem dX8_count_107 : decode cX8_count 107 = .ok (.getfield 133, 3) := by decide +kernel
theorem dX8_count_110 : decode cX8_count 110 = .ok (.i2l, 1) := by decide +kernel
theorem dX8_count_111 : decode cX8_count 111 = .ok (.goto 177, 3) := by decide +kernel
theorem dX8_count_114 : decode cX8_count 114 = .ok (.aload_n 0, 1) := by decide +kernel
theorem dX8_count_115 : decode cX8_count 115 = .ok (.getfield 10, 3) := by decide +kernel
theorem dX8_count_118 : decode cX8_count 118 = .ok (.getfield 72, 3) := by decide +kernel
theorem dX8_count_121 : decode cX8_count 121 = .ok (.getfield 136, 3) := by decide +kernel
theorem dX8_count_124 : decode cX8_count 124 = .ok (.i2l, 1) := by decide +kernel
theorem dX8_count_125 : decode cX8_count 125 = .ok (.goto 163, 3) := by decide +kernel
theorem dX8_count_128 : decode cX8_count 128 = .ok (.aload_n 0, 1) := by decide +kernel
theorem dX8_count_129 : decode cX8_count 129 = .ok (.getfield 10, 3) := by decide +kernel
theorem dX8_count_132 : decode cX8_count 132 = .ok (.getfield 139, 3) := by decide +kernel
theorem dX8_count_135 : decode cX8_count 135 = .ok (.i2l, 1) := by decide +kernel
theorem dX8_count_136 : decode cX8_count 136 = .ok (.goto 152, 3) := by decide +kernel
theorem dX8_count_139 : decode cX8_count 139 = .ok (.aload_n 0, 1) := by decide +kernel
theorem dX8_count_140 : decode cX8_count 140 = .ok (.getfield 10, 3) := by decide +kernel
theorem dX8_count_143 : decode cX8_count 143 = .ok (.getfield 142, 3) := by decide +kernel
theorem dX8_count_146 : decode cX8_count 146 = .ok (.getfield 146, 3) := by decide +kernel
theorem dX8_count_149 : decode cX8_count 149 = .ok (.i2l, 1) := by decide +kernel
theorem dX8_count_150 : decode cX8_count 150 = .ok (.goto 138, 3) := by decide +kernel
theorem dX8_count_153 : decode cX8_count 153 = .ok (.aload_n 0, 1) := by decide +kernel
theorem dX8_count_154 : decode cX8_count 154 = .ok (.getfield 10, 3) := by decide +kernel
theorem dX8_count_157 : decode cX8_count 157 = .ok (.getfield 142, 3) := by decide +kernel
theorem dX8_count_160 : decode cX8_count 160 = .ok (.getfield 151, 3) := by decide +kernel
theorem dX8_count_163 : decode cX8_count 163 = .ok (.i2l, 1) := by decide +kernel
theorem dX8_count_164 : decode cX8_count 164 = .ok (.goto 124, 3) := by decide +kernel
theorem dX8_count_167 : decode cX8_count 167 = .ok (.aload_n 0, 1) := by decide +kernel
theorem dX8_count_168 : decode cX8_count 168 = .ok (.getfield 10, 3) := by decide +kernel
theorem dX8_count_171 : decode cX8_count 171 = .ok (.getfield 142, 3) := by decide +kernel
theorem dX8_count_174 : decode cX8_count 174 = .ok (.getfield 154, 3) := by decide +kernel
theorem dX8_count_177 : decode cX8_count 177 = .ok (.i2l, 1) := by decide +kernel
theorem dX8_count_178 : decode cX8_count 178 = .ok (.goto 110, 3) := by decide +kernel
theorem dX8_count_181 : decode cX8_count 181 = .ok (.aload_n 0, 1) := by decide +kernel
theorem dX8_count_182 : decode cX8_count 182 = .ok (.getfield 10, 3) := by decide +kernel
theorem dX8_count_185 : decode cX8_count 185 = .ok (.getfield 142, 3) := by decide +kernel
theorem dX8_count_188 : decode cX8_count 188 = .ok (.getfield 157, 3) := by decide +kernel
theorem dX8_count_191 : decode cX8_count 191 = .ok (.i2l, 1) := by decide +kernel
theorem dX8_count_192 : decode cX8_count 192 = .ok (.goto 96, 3) := by decide +kernel
theorem dX8_count_195 : decode cX8_count 195 = .ok (.aload_n 0, 1) := by decide +kernel
theorem dX8_count_196 : decode cX8_count 196 = .ok (.getfield 10, 3) := by decide +kernel
theorem dX8_count_199 : decode cX8_count 199 = .ok (.getfield 142, 3) := by decide +kernel
theorem dX8_count_202 : decode cX8_count 202 = .ok (.getfield 160, 3) := by decide +kernel
theorem dX8_count_205 : decode cX8_count 205 = .ok (.i2l, 1) := by decide +kernel
theorem dX8_count_206 : decode cX8_count 206 = .ok (.goto 82, 3) := by decide +kernel
theorem dX8_count_209 : decode cX8_count 209 = .ok (.aload_n 0, 1) := by decide +kernel
theorem dX8_count_210 : decode cX8_count 210 = .ok (.getfield 21, 3) := by decide +kernel
theorem dX8_count_213 : decode cX8_count 213 = .ok (.getfield 163, 3) := by decide +kernel
theorem dX8_count_216 : decode cX8_count 216 = .ok (.ifCond .eq 7, 3) := by decide +kernel
theorem dX8_count_219 : decode cX8_count 219 = .ok (.lconst 1, 1) := by decide +kernel
theorem dX8_count_220 : decode cX8_count 220 = .ok (.goto 68, 3) := by decide +kernel
theorem dX8_count_223 : decode cX8_count 223 = .ok (.lconst 0, 1) := by decide +kernel
theorem dX8_count_224 : decode cX8_count 224 = .ok (.goto 64, 3) := by decide +kernel
theorem dX8_count_227 : decode cX8_count 227 = .ok (.aload_n 0, 1) := by decide +kernel
theorem dX8_count_228 : decode cX8_count 228 = .ok (.getfield 21, 3) := by decide +kernel
theorem dX8_count_231 : decode cX8_count 231 = .ok (.getfield 57, 3) := by decide +kernel
theorem dX8_count_234 : decode cX8_count 234 = .ok (.ifCond .eq 7, 3) := by decide +kernel
theorem dX8_count_237 : decode cX8_count 237 = .ok (.lconst 1, 1) := by decide +kernel
theorem dX8_count_238 : decode cX8_count 238 = .ok (.goto 50, 3) := by decide +kernel
theorem dX8_count_241 : decode cX8_count 241 = .ok (.lconst 0, 1) := by decide +kernel
theorem dX8_count_242 : decode cX8_count 242 = .ok (.goto 46, 3) := by decide +kernel
theorem dX8_count_245 : decode cX8_count 245 = .ok (.aload_n 0, 1) := by decide +kernel
theorem dX8_count_246 : decode cX8_count 246 = .ok (.getfield 21, 3) := by decide +kernel
theorem dX8_count_249 : decode cX8_count 249 = .ok (.getfield 69, 3) := by decide +kernel
theorem dX8_count_252 : decode cX8_count 252 = .ok (.ifCond .eq 7, 3) := by decide +kernel
theorem dX8_count_255 : decode cX8_count 255 = .ok (.lconst 1, 1) := by decide +kernel
theorem dX8_count_256 : decode cX8_count 256 = .ok (.goto 32, 3) := by decide +kernel
theorem dX8_count_259 : decode cX8_count 259 = .ok (.lconst 0, 1) := by decide +kernel
theorem dX8_count_260 : decode cX8_count 260 = .ok (.goto 28, 3) := by decide +kernel
theorem dX8_count_263 : decode cX8_count 263 = .ok (.aload_n 0, 1) := by decide +kernel
theorem dX8_count_264 : decode cX8_count 264 = .ok (.getfield 28, 3) := by decide +kernel
theorem dX8_count_267 : decode cX8_count 267 = .ok (.getfield 166, 3) := by decide +kernel
theorem dX8_count_270 : decode cX8_count 270 = .ok (.i2l, 1) := by decide +kernel
theorem dX8_count_271 : decode cX8_count 271 = .ok (.goto 17, 3) := by decide +kernel
theorem dX8_count_274 : decode cX8_count 274 = .ok (.aload_n 0, 1) := by decide +kernel
theorem dX8_count_275 : decode cX8_count 275 = .ok (.getfield 21, 3) := by decide +kernel
theorem dX8_count_278 : decode cX8_count 278 = .ok (.getfield 169, 3) := by decide +kernel
theorem dX8_count_281 : decode cX8_count 281 = .ok (.i2l, 1) := by decide +kernel
theorem dX8_count_282 : decode cX8_count 282 = .ok (.goto 6, 3) := by decide +kernel
theorem dX8_count_285 : decode cX8_count 285 = .ok (.ldc2_w 172, 3) := by decide +kernel
theorem dX8_count_288 : decode cX8_count 288 = .ok (.lreturn, 1) := by decide +kernel
theorem dX8_isAddress_0 : decode cX8_isAddress 0 = .ok (.iload_n 0, 1) := by decide +kernel
theorem dX8_isAddress_1 : decode cX8_isAddress 1 = .ok (.ifCond .lt 13, 3) := by decide +kernel
theorem dX8_isAddress_4 : decode cX8_isAddress 4 = .ok (.iload_n 0, 1) := by decide +kernel
theorem dX8_isAddress_5 : decode cX8_isAddress 5 = .ok (.ldc 39, 2) := by decide +kernel
theorem dX8_isAddress_7 : decode cX8_isAddress 7 = .ok (.if_icmp .ge 7, 3) := by decide +kernel
theorem dX8_isAddress_10 : decode cX8_isAddress 10 = .ok (.iconst 1, 1) := by decide +kernel
theorem dX8_isAddress_11 : decode cX8_isAddress 11 = .ok (.goto 4, 3) := by decide +kernel
theorem dX8_isAddress_14 : decode cX8_isAddress 14 = .ok (.iconst 0, 1) := by decide +kernel
theorem dX8_isAddress_15 : decode cX8_isAddress 15 = .ok (.ireturn, 1) := by decide +kernel
theorem dX9_init_0 : decode cX9_init 0 = .ok (.aload_n 0, 1) := by decide +kernel
theorem dX9_init_1 : decode cX9_init 1 = .ok (.invokespecial 1, 3) := by decide +kernel
theorem dX9_init_4 : decode cX9_init 4 = .ok (.aload_n 0, 1) := by decide +kernel
theorem dX9_init_5 : decode cX9_init 5 = .ok (.ldc 7, 2) := by decide +kernel
theorem dX9_init_7 : decode cX9_init 7 = .ok (.newarray .int, 2) := by decide +kernel
theorem dX9_init_9 : decode cX9_init 9 = .ok (.putfield 8, 3) := by decide +kernel
theorem dX9_init_12 : decode cX9_init 12 = .ok (.aload_n 0, 1) := by decide +kernel
theorem dX9_init_13 : decode cX9_init 13 = .ok (.iconst 4, 1) := by decide +kernel
theorem dX9_init_14 : decode cX9_init 14 = .ok (.newarray .int, 2) := by decide +kernel
theorem dX9_init_16 : decode cX9_init 16 = .ok (.putfield 14, 3) := by decide +kernel
theorem dX9_init_19 : decode cX9_init 19 = .ok (.aload_n 0, 1) := by decide +kernel
theorem dX9_init_20 : decode cX9_init 20 = .ok (.bipush 64, 2) := by decide +kernel
theorem dX9_init_22 : decode cX9_init 22 = .ok (.newarray .int, 2) := by decide +kernel
theorem dX9_init_24 : decode cX9_init 24 = .ok (.putfield 17, 3) := by decide +kernel
theorem dX9_init_27 : decode cX9_init 27 = .ok (.aload_n 0, 1) := by decide +kernel
theorem dX9_init_28 : decode cX9_init 28 = .ok (.sipush 256, 3) := by decide +kernel
theorem dX9_init_31 : decode cX9_init 31 = .ok (.newarray .int, 2) := by decide +kernel
theorem dX9_init_33 : decode cX9_init 33 = .ok (.putfield 20, 3) := by decide +kernel
theorem dX9_init_36 : decode cX9_init 36 = .ok (.aload_n 0, 1) := by decide +kernel
theorem dX9_init_37 : decode cX9_init 37 = .ok (.bipush 16, 2) := by decide +kernel
theorem dX9_init_39 : decode cX9_init 39 = .ok (.newarray .int, 2) := by decide +kernel
theorem dX9_init_41 : decode cX9_init 41 = .ok (.putfield 23, 3) := by decide +kernel
theorem dX9_init_44 : decode cX9_init 44 = .ok (.aload_n 0, 1) := by decide +kernel
theorem dX9_init_45 : decode cX9_init 45 = .ok (.bipush 32, 2) := by decide +kernel
theorem dX9_init_47 : decode cX9_init 47 = .ok (.newarray .int, 2) := by decide +kernel
theorem dX9_init_49 : decode cX9_init 49 = .ok (.putfield 26, 3) := by decide +kernel
theorem dX9_init_52 : decode cX9_init 52 = .ok (.aload_n 0, 1) := by decide +kernel
theorem dX9_init_53 : decode cX9_init 53 = .ok (.invokevirtual 29, 3) := by decide +kernel
theorem dX9_init_56 : decode cX9_init 56 = .ok (.return_, 1) := by decide +kernel
theorem dX9_thrown_0 : decode cX9_thrown 0 = .ok (.aload_n 0, 1) := by decide +kernel
theorem dX9_thrown_1 : decode cX9_thrown 1 = .ok (.getfield 32, 3) := by decide +kernel
theorem dX9_thrown_4 : decode cX9_thrown 4 = .ok (.ireturn, 1) := by decide +kernel
theorem dX9_fails_0 : decode cX9_fails 0 = .ok (.aload_n 0, 1) := by decide +kernel
theorem dX9_fails_1 : decode cX9_fails 1 = .ok (.iload_n 1, 1) := by decide +kernel
theorem dX9_fails_2 : decode cX9_fails 2 = .ok (.ifCond .eq 7, 3) := by decide +kernel
theorem dX9_fails_5 : decode cX9_fails 5 = .ok (.iconst 1, 1) := by decide +kernel
theorem dX9_fails_6 : decode cX9_fails 6 = .ok (.goto 4, 3) := by decide +kernel
theorem dX9_fails_9 : decode cX9_fails 9 = .ok (.iconst 0, 1) := by decide +kernel
theorem dX9_fails_10 : decode cX9_fails 10 = .ok (.putfield 32, 3) := by decide +kernel
theorem dX9_fails_13 : decode cX9_fails 13 = .ok (.iload_n 1, 1) := by decide +kernel
theorem dX9_fails_14 : decode cX9_fails 14 = .ok (.ireturn, 1) := by decide +kernel
theorem dX9_clearDevices_0 : decode cX9_clearDevices 0 = .ok (.aload_n 0, 1) := by decide +kernel
theorem dX9_clearDevices_1 : decode cX9_clearDevices 1 = .ok (.ldc 36, 2) := by decide +kernel
theorem dX9_clearDevices_3 : decode cX9_clearDevices 3 = .ok (.putfield 37, 3) := by decide +kernel
theorem dX9_clearDevices_6 : decode cX9_clearDevices 6 = .ok (.aload_n 0, 1) := by decide +kernel
theorem dX9_clearDevices_7 : decode cX9_clearDevices 7 = .ok (.ldc 36, 2) := by decide +kernel
theorem dX9_clearDevices_9 : decode cX9_clearDevices 9 = .ok (.putfield 40, 3) := by decide +kernel
theorem dX9_clearDevices_12 : decode cX9_clearDevices 12 = .ok (.aload_n 0, 1) := by decide +kernel
theorem dX9_clearDevices_13 : decode cX9_clearDevices 13 = .ok (.aload_n 0, 1) := by decide +kernel
theorem dX9_clearDevices_14 : decode cX9_clearDevices 14 = .ok (.aload_n 0, 1) := by decide +kernel
theorem dX9_clearDevices_15 : decode cX9_clearDevices 15 = .ok (.aload_n 0, 1) := by decide +kernel
theorem dX9_clearDevices_16 : decode cX9_clearDevices 16 = .ok (.aload_n 0, 1) := by decide +kernel
theorem dX9_clearDevices_17 : decode cX9_clearDevices 17 = .ok (.aload_n 0, 1) := by decide +kernel
theorem dX9_clearDevices_18 : decode cX9_clearDevices 18 = .ok (.aload_n 0, 1) := by decide +kernel
theorem dX9_clearDevices_19 : decode cX9_clearDevices 19 = .ok (.aload_n 0, 1) := by decide +kernel
theorem dX9_clearDevices_20 : decode cX9_clearDevices 20 = .ok (.iconst 0, 1) := by decide +kernel
theorem dX9_clearDevices_21 : decode cX9_clearDevices 21 = .ok (.dup_x1, 1) := by decide +kernel
theorem dX9_clearDevices_22 : decode cX9_clearDevices 22 = .ok (.putfield 43, 3) := by decide +kernel
theorem dX9_clearDevices_25 : decode cX9_clearDevices 25 = .ok (.dup_x1, 1) := by decide +kernel
theorem dX9_clearDevices_26 : decode cX9_clearDevices 26 = .ok (.putfield 46, 3) := by decide +kernel
theorem dX9_clearDevices_29 : decode cX9_clearDevices 29 = .ok (.dup_x1, 1) := by decide +kernel
theorem dX9_clearDevices_30 : decode cX9_clearDevices 30 = .ok (.putfield 49, 3) := by decide +kernel
theorem dX9_clearDevices_33 : decode cX9_clearDevices 33 = .ok (.dup_x1, 1) := by decide +kernel
theorem dX9_clearDevices_34 : decode cX9_clearDevices 34 = .ok (.putfield 52, 3) := by decide +kernel
theorem dX9_clearDevices_37 : decode cX9_clearDevices 37 = .ok (.dup_x1, 1) := by decide +kernel
theorem dX9_clearDevices_38 : decode cX9_clearDevices 38 = .ok (.putfield 55, 3) := by decide +kernel
theorem dX9_clearDevices_41 : decode cX9_clearDevices 41 = .ok (.dup_x1, 1) := by decide +kernel
theorem dX9_clearDevices_42 : decode cX9_clearDevices 42 = .ok (.putfield 58, 3) := by decide +kernel
theorem dX9_clearDevices_45 : decode cX9_clearDevices 45 = .ok (.dup_x1, 1) := by decide +kernel
theorem dX9_clearDevices_46 : decode cX9_clearDevices 46 = .ok (.putfield 61, 3) := by decide +kernel
theorem dX9_clearDevices_49 : decode cX9_clearDevices 49 = .ok (.putfield 64, 3) := by decide +kernel
theorem dX9_clearDevices_52 : decode cX9_clearDevices 52 = .ok (.aload_n 0, 1) := by decide +kernel
theorem dX9_clearDevices_53 : decode cX9_clearDevices 53 = .ok (.iconst 0, 1) := by decide +kernel
theorem dX9_clearDevices_54 : decode cX9_clearDevices 54 = .ok (.putfield 67, 3) := by decide +kernel
theorem dX9_clearDevices_57 : decode cX9_clearDevices 57 = .ok (.aload_n 0, 1) := by decide +kernel
theorem dX9_clearDevices_58 : decode cX9_clearDevices 58 = .ok (.iconst 0, 1) := by decide +kernel
theorem dX9_clearDevices_59 : decode cX9_clearDevices 59 = .ok (.putfield 71, 3) := by decide +kernel
theorem dX9_clearDevices_62 : decode cX9_clearDevices 62 = .ok (.return_, 1) := by decide +kernel
theorem dX9_cell_0 : decode cX9_cell 0 = .ok (.iload_n 1, 1) := by decide +kernel
theorem dX9_cell_1 : decode cX9_cell 1 = .ok (.ldc 74, 2) := by decide +kernel
theorem dX9_cell_3 : decode cX9_cell 3 = .ok (.if_icmp .ge 7, 3) := by decide +kernel
theorem dX9_cell_6 : decode cX9_cell 6 = .ok (.iload_n 1, 1) := by decide +kernel
theorem dX9_cell_7 : decode cX9_cell 7 = .ok (.goto 45, 3) := by decide +kernel
theorem dX9_cell_10 : decode cX9_cell 10 = .ok (.iload_n 1, 1) := by decide +kernel
theorem dX9_cell_11 : decode cX9_cell 11 = .ok (.ldc 75, 2) := by decide +kernel
theorem dX9_cell_13 : decode cX9_cell 13 = .ok (.if_icmp .ge 22, 3) := by decide +kernel
theorem dX9_cell_16 : decode cX9_cell 16 = .ok (.ldc 74, 2) := by decide +kernel
theorem dX9_cell_18 : decode cX9_cell 18 = .ok (.sipush 8192, 3) := by decide +kernel
theorem dX9_cell_21 : decode cX9_cell 21 = .ok (.aload_n 0, 1) := by decide +kernel
theorem dX9_cell_22 : decode cX9_cell 22 = .ok (.getfield 43, 3) := by decide +kernel
theorem dX9_cell_25 : decode cX9_cell 25 = .ok (.imul, 1) := by decide +kernel
theorem dX9_cell_26 : decode cX9_cell 26 = .ok (.iadd, 1) := by decide +kernel
theorem dX9_cell_27 : decode cX9_cell 27 = .ok (.iload_n 1, 1) := by decide +kernel
theorem dX9_cell_28 : decode cX9_cell 28 = .ok (.iadd, 1) := by decide +kernel
theorem dX9_cell_29 : decode cX9_cell 29 = .ok (.ldc 74, 2) := by decide +kernel
theorem dX9_cell_31 : decode cX9_cell 31 = .ok (.isub, 1) := by decide +kernel
theorem dX9_cell_32 : decode cX9_cell 32 = .ok (.goto 20, 3) := by decide +kernel
theorem dX9_cell_35 : decode cX9_cell 35 = .ok (.iload_n 1, 1) := by decide +kernel
theorem dX9_cell_36 : decode cX9_cell 36 = .ok (.ldc 76, 2) := by decide +kernel
theorem dX9_cell_38 : decode cX9_cell 38 = .ok (.if_icmp .ge 7, 3) := by decide +kernel
theorem dX9_cell_41 : decode cX9_cell 41 = .ok (.iconst (-1), 1) := by decide +kernel
theorem dX9_cell_42 : decode cX9_cell 42 = .ok (.goto 10, 3) := by decide +kernel
theorem dX9_cell_45 : decode cX9_cell 45 = .ok (.ldc 77, 2) := by decide +kernel
theorem dX9_cell_47 : decode cX9_cell 47 = .ok (.iload_n 1, 1) := by decide +kernel
theorem dX9_cell_48 : decode cX9_cell 48 = .ok (.iadd, 1) := by decide +kernel
theorem dX9_cell_49 : decode cX9_cell 49 = .ok (.ldc 76, 2) := by decide +kernel
theorem dX9_cell_51 : decode cX9_cell 51 = .ok (.isub, 1) := by decide +kernel
theorem dX9_cell_52 : decode cX9_cell 52 = .ok (.ireturn, 1) := by decide +kernel
theorem dX9_asks_0 : decode cX9_asks 0 = .ok (.aload_n 0, 1) := by decide +kernel
theorem dX9_asks_1 : decode cX9_asks 1 = .ok (.getfield 46, 3) := by decide +kernel
theorem dX9_asks_4 : decode cX9_asks 4 = .ok (.ifCond .le 17, 3) := by decide +kernel
theorem dX9_asks_7 : decode cX9_asks 7 = .ok (.aload_n 0, 1) := by decide +kernel
theorem dX9_asks_8 : decode cX9_asks 8 = .ok (.getfield 49, 3) := by decide +kernel
theorem dX9_asks_11 : decode cX9_asks 11 = .ok (.iconst 3, 1) := by decide +kernel
theorem dX9_asks_12 : decode cX9_asks 12 = .ok (.iand, 1) := by decide +kernel
theorem dX9_asks_13 : decode cX9_asks 13 = .ok (.iconst 1, 1) := by decide +kernel
theorem dX9_asks_14 : decode cX9_asks 14 = .ok (.if_icmp .ne 7, 3) := by decide +kernel
theorem dX9_asks_17 : decode cX9_asks 17 = .ok (.iconst 1, 1) := by decide +kernel
theorem dX9_asks_18 : decode cX9_asks 18 = .ok (.goto 4, 3) := by decide +kernel
theorem dX9_asks_21 : decode cX9_asks 21 = .ok (.iconst 0, 1) := by decide +kernel
theorem dX9_asks_22 : decode cX9_asks 22 = .ok (.ireturn, 1) := by decide +kernel
theorem dX9_flags_0 : decode cX9_flags 0 = .ok (.aload_n 0, 1) := by decide +kernel
theorem dX9_flags_1 : decode cX9_flags 1 = .ok (.getfield 55, 3) := by decide +kernel
theorem dX9_flags_4 : decode cX9_flags 4 = .ok (.aload_n 0, 1) := by decide +kernel
theorem dX9_flags_5 : decode cX9_flags 5 = .ok (.getfield 52, 3) := by decide +kernel
theorem dX9_flags_8 : decode cX9_flags 8 = .ok (.iand, 1) := by decide +kernel
theorem dX9_flags_9 : decode cX9_flags 9 = .ok (.ifCond .ne 10, 3) := by decide +kernel
theorem dX9_flags_12 : decode cX9_flags 12 = .ok (.aload_n 0, 1) := by decide +kernel
theorem dX9_flags_13 : decode cX9_flags 13 = .ok (.getfield 55, 3) := by decide +kernel
theorem dX9_flags_16 : decode cX9_flags 16 = .ok (.goto 11, 3) := by decide +kernel
theorem dX9_flags_19 : decode cX9_flags 19 = .ok (.aload_n 0, 1) := by decide +kernel
theorem dX9_flags_20 : decode cX9_flags 20 = .ok (.getfield 55, 3) := by decide +kernel
theorem dX9_flags_23 : decode cX9_flags 23 = .ok (.sipush 128, 3) := by decide +kernel
theorem dX9_flags_26 : decode cX9_flags 26 = .ok (.ior, 1) := by decide +kernel
theorem dX9_flags_27 : decode cX9_flags 27 = .ok (.ireturn, 1) := by decide +kernel
theorem dX9_see_0 : decode cX9_see 0 = .ok (.aload_n 0, 1) := by decide +kernel
theorem dX9_see_1 : decode cX9_see 1 = .ok (.iload_n 1, 1) := by decide +kernel
theorem dX9_see_2 : decode cX9_see 2 = .ok (.invokevirtual 78, 3) := by decide +kernel
theorem dX9_see_5 : decode cX9_see 5 = .ok (.ifCond .lt 14, 3) := by decide +kernel
theorem dX9_see_8 : decode cX9_see 8 = .ok (.aload_n 0, 1) := by decide +kernel
theorem dX9_see_9 : decode cX9_see 9 = .ok (.getfield 8, 3) := by decide +kernel
theorem dX9_see_12 : decode cX9_see 12 = .ok (.aload_n 0, 1) := by decide +kernel
theorem dX9_see_13 : decode cX9_see 13 = .ok (.iload_n 1, 1) := by decide +kernel
theorem dX9_see_14 : decode cX9_see 14 = .ok (.invokevirtual 78, 3) := by decide +kernel
theorem dX9_see_17 : decode cX9_see 17 = .ok (.iaload, 1) := by decide +kernel
theorem dX9_see_18 : decode cX9_see 18 = .ok (.ireturn, 1) := by decide +kernel
theorem dX9_see_19 : decode cX9_see 19 = .ok (.iload_n 1, 1) := by decide +kernel
theorem dX9_see_20 : decode cX9_see 20 = .ok (.ldc 75, 2) := by decide +kernel
theorem dX9_see_22 : decode cX9_see 22 = .ok (.isub, 1) := by decide +kernel
theorem dX9_see_23 : decode cX9_see 23 = .ok (.tableswitch 259 4 32 #[129, 138, 146, 155, 163, 172, 259, 180, 259, 185, 190, 259, 199, 217, 249, 259, 259, 259, 259, 259, 259, 259, 259, 259, 259, 259, 259, 259, 254], 129) := by decide +kernel
theorem dX9_see_152 : decode cX9_see 152 = .ok (.aload_n 0, 1) := by decide +kernel
theorem dX9_see_153 : decode cX9_see 153 = .ok (.getfield 37, 3) := by decide +kernel
theorem dX9_see_156 : decode cX9_see 156 = .ok (.sipush 255, 3) := by decide +kernel
theorem dX9_see_159 : decode cX9_see 159 = .ok (.iand, 1) := by decide +kernel
theorem dX9_see_160 : decode cX9_see 160 = .ok (.ireturn, 1) := by decide +kernel
theorem dX9_see_161 : decode cX9_see 161 = .ok (.aload_n 0, 1) := by decide +kernel
theorem dX9_see_162 : decode cX9_see 162 = .ok (.getfield 37, 3) := by decide +kernel
theorem dX9_see_165 : decode cX9_see 165 = .ok (.bipush 8, 2) := by decide +kernel
theorem dX9_see_167 : decode cX9_see 167 = .ok (.ishr, 1) := by decide +kernel
theorem dX9_see_168 : decode cX9_see 168 = .ok (.ireturn, 1) := by decide +kernel
theorem dX9_see_169 : decode cX9_see 169 = .ok (.aload_n 0, 1) := by decide +kernel
theorem dX9_see_170 : decode cX9_see 170 = .ok (.getfield 64, 3) := by decide +kernel
theorem dX9_see_173 : decode cX9_see 173 = .ok (.sipush 255, 3) := by decide +kernel
theorem dX9_see_176 : decode cX9_see 176 = .ok (.iand, 1) := by decide +kernel
theorem dX9_see_177 : decode cX9_see 177 = .ok (.ireturn, 1) := by decide +kernel
theorem dX9_see_178 : decode cX9_see 178 = .ok (.aload_n 0, 1) := by decide +kernel
theorem dX9_see_179 : decode cX9_see 179 = .ok (.getfield 64, 3) := by decide +kernel
theorem dX9_see_182 : decode cX9_see 182 = .ok (.bipush 8, 2) := by decide +kernel
theorem dX9_see_184 : decode cX9_see 184 = .ok (.ishr, 1) := by decide +kernel
theorem dX9_see_185 : decode cX9_see 185 = .ok (.ireturn, 1) := by decide +kernel
theorem dX9_see_186 : decode cX9_see 186 = .ok (.aload_n 0, 1) := by decide +kernel
theorem dX9_see_187 : decode cX9_see 187 = .ok (.getfield 40, 3) := by decide +kernel
theorem dX9_see_190 : decode cX9_see 190 = .ok (.sipush 255, 3) := by decide +kernel
theorem dX9_see_193 : decode cX9_see 193 = .ok (.iand, 1) := by decide +kernel
theorem dX9_see_194 : decode cX9_see 194 = .ok (.ireturn, 1) := by decide +kernel
theorem dX9_see_195 : decode cX9_see 195 = .ok (.aload_n 0, 1) := by decide +kernel
theorem dX9_see_196 : decode cX9_see 196 = .ok (.getfield 40, 3) := by decide +kernel
theorem dX9_see_199 : decode cX9_see 199 = .ok (.bipush 8, 2) := by decide +kernel
theorem dX9_see_201 : decode cX9_see 201 = .ok (.ishr, 1) := by decide +kernel
theorem dX9_see_202 : decode cX9_see 202 = .ok (.ireturn, 1) := by decide +kernel
theorem dX9_see_203 : decode cX9_see 203 = .ok (.aload_n 0, 1) := by decide +kernel
theorem dX9_see_204 : decode cX9_see 204 = .ok (.getfield 58, 3) := by decide +kernel
theorem dX9_see_207 : decode cX9_see 207 = .ok (.ireturn, 1) := by decide +kernel
theorem dX9_see_208 : decode cX9_see 208 = .ok (.aload_n 0, 1) := by decide +kernel
theorem dX9_see_209 : decode cX9_see 209 = .ok (.invokevirtual 82, 3) := by decide +kernel
theorem dX9_see_212 : decode cX9_see 212 = .ok (.ireturn, 1) := by decide +kernel
theorem dX9_see_213 : decode cX9_see 213 = .ok (.aload_n 0, 1) := by decide +kernel
theorem dX9_see_214 : decode cX9_see 214 = .ok (.getfield 52, 3) := by decide +kernel
theorem dX9_see_217 : decode cX9_see 217 = .ok (.sipush 128, 3) := by decide +kernel
theorem dX9_see_220 : decode cX9_see 220 = .ok (.ior, 1) := by decide +kernel
theorem dX9_see_221 : decode cX9_see 221 = .ok (.ireturn, 1) := by decide +kernel
theorem dX9_see_222 : decode cX9_see 222 = .ok (.aload_n 0, 1) := by decide +kernel
theorem dX9_see_223 : decode cX9_see 223 = .ok (.getfield 46, 3) := by decide +kernel
theorem dX9_see_226 : decode cX9_see 226 = .ok (.ifCond .le 12, 3) := by decide +kernel
theorem dX9_see_229 : decode cX9_see 229 = .ok (.aload_n 0, 1) := by decide +kernel
theorem dX9_see_230 : decode cX9_see 230 = .ok (.getfield 17, 3) := by decide +kernel
theorem dX9_see_233 : decode cX9_see 233 = .ok (.iconst 0, 1) := by decide +kernel
theorem dX9_see_234 : decode cX9_see 234 = .ok (.iaload, 1) := by decide +kernel
theorem dX9_see_235 : decode cX9_see 235 = .ok (.goto 4, 3) := by decide +kernel
theorem dX9_see_238 : decode cX9_see 238 = .ok (.iconst 0, 1) := by decide +kernel
theorem dX9_see_239 : decode cX9_see 239 = .ok (.ireturn, 1) := by decide +kernel
theorem dX9_see_240 : decode cX9_see 240 = .ok (.bipush 16, 2) := by decide +kernel
theorem dX9_see_242 : decode cX9_see 242 = .ok (.aload_n 0, 1) := by decide +kernel
theorem dX9_see_243 : decode cX9_see 243 = .ok (.getfield 46, 3) := by decide +kernel
theorem dX9_see_246 : decode cX9_see 246 = .ok (.ifCond .le 8, 3) := by decide +kernel
theorem dX9_see_249 : decode cX9_see 249 = .ok (.bipush 8, 2) := by decide +kernel
theorem dX9_see_251 : decode cX9_see 251 = .ok (.goto 4, 3) := by decide +kernel
theorem dX9_see_254 : decode cX9_see 254 = .ok (.iconst 0, 1) := by decide +kernel
theorem dX9_see_255 : decode cX9_see 255 = .ok (.iadd, 1) := by decide +kernel
theorem dX9_see_256 : decode cX9_see 256 = .ok (.aload_n 0, 1) := by decide +kernel
theorem dX9_see_257 : decode cX9_see 257 = .ok (.invokevirtual 86, 3) := by decide +kernel
theorem dX9_see_260 : decode cX9_see 260 = .ok (.ifCond .eq 9, 3) := by decide +kernel
theorem dX9_see_263 : decode cX9_see 263 = .ok (.sipush 128, 3) := by decide +kernel
theorem dX9_see_266 : decode cX9_see 266 = .ok (.goto 4, 3) := by decide +kernel
theorem dX9_see_269 : decode cX9_see 269 = .ok (.iconst 0, 1) := by decide +kernel
theorem dX9_see_270 : decode cX9_see 270 = .ok (.iadd, 1) := by decide +kernel
theorem dX9_see_271 : decode cX9_see 271 = .ok (.ireturn, 1) := by decide +kernel
theorem dX9_see_272 : decode cX9_see 272 = .ok (.aload_n 0, 1) := by decide +kernel
theorem dX9_see_273 : decode cX9_see 273 = .ok (.getfield 49, 3) := by decide +kernel
theorem dX9_see_276 : decode cX9_see 276 = .ok (.ireturn, 1) := by decide +kernel
theorem dX9_see_277 : decode cX9_see 277 = .ok (.aload_n 0, 1) := by decide +kernel
theorem dX9_see_278 : decode cX9_see 278 = .ok (.getfield 43, 3) := by decide +kernel
theorem dX9_see_281 : decode cX9_see 281 = .ok (.ireturn, 1) := by decide +kernel
theorem dX9_see_282 : decode cX9_see 282 = .ok (.iconst 0, 1) := by decide +kernel
theorem dX9_see_283 : decode cX9_see 283 = .ok (.ireturn, 1) := by decide +kernel
theorem dX9_read_0 : decode cX9_read 0 = .ok (.aload_n 0, 1) := by decide +kernel
theorem dX9_read_1 : decode cX9_read 1 = .ok (.iload_n 1, 1) := by decide +kernel
theorem dX9_read_2 : decode cX9_read 2 = .ok (.invokevirtual 90, 3) := by decide +kernel
theorem dX9_read_5 : decode cX9_read 5 = .ok (.istore_n 2, 1) := by decide +kernel
theorem dX9_read_6 : decode cX9_read 6 = .ok (.iload_n 1, 1) := by decide +kernel
theorem dX9_read_7 : decode cX9_read 7 = .ok (.ldc 93, 2) := by decide +kernel
theorem dX9_read_9 : decode cX9_read 9 = .ok (.if_icmp .ne 14, 3) := by decide +kernel
theorem dX9_read_12 : decode cX9_read 12 = .ok (.aload_n 0, 1) := by decide +kernel
theorem dX9_read_13 : decode cX9_read 13 = .ok (.dup, 1) := by decide +kernel
theorem dX9_read_14 : decode cX9_read 14 = .ok (.getfield 55, 3) := by decide +kernel
theorem dX9_read_17 : decode cX9_read 17 = .ok (.bipush (-65), 2) := by decide +kernel
theorem dX9_read_19 : decode cX9_read 19 = .ok (.iand, 1) := by decide +kernel
theorem dX9_read_20 : decode cX9_read 20 = .ok (.putfield 55, 3) := by decide +kernel
theorem dX9_read_23 : decode cX9_read 23 = .ok (.iload_n 1, 1) := by decide +kernel
theorem dX9_read_24 : decode cX9_read 24 = .ok (.ldc 94, 2) := by decide +kernel
theorem dX9_read_26 : decode cX9_read 26 = .ok (.if_icmp .ne 14, 3) := by decide +kernel
theorem dX9_read_29 : decode cX9_read 29 = .ok (.aload_n 0, 1) := by decide +kernel
theorem dX9_read_30 : decode cX9_read 30 = .ok (.dup, 1) := by decide +kernel
theorem dX9_read_31 : decode cX9_read 31 = .ok (.getfield 55, 3) := by decide +kernel
theorem dX9_read_34 : decode cX9_read 34 = .ok (.bipush (-33), 2) := by decide +kernel
theorem dX9_read_36 : decode cX9_read 36 = .ok (.iand, 1) := by decide +kernel
theorem dX9_read_37 : decode cX9_read 37 = .ok (.putfield 55, 3) := by decide +kernel
theorem dX9_read_40 : decode cX9_read 40 = .ok (.iload_n 1, 1) := by decide +kernel
theorem dX9_read_41 : decode cX9_read 41 = .ok (.ldc 95, 2) := by decide +kernel
theorem dX9_read_43 : decode cX9_read 43 = .ok (.if_icmp .ne 50, 3) := by decide +kernel
theorem dX9_read_46 : decode cX9_read 46 = .ok (.aload_n 0, 1) := by decide +kernel
theorem dX9_read_47 : decode cX9_read 47 = .ok (.getfield 46, 3) := by decide +kernel
theorem dX9_read_50 : decode cX9_read 50 = .ok (.ifCond .le 43, 3) := by decide +kernel
theorem dX9_read_53 : decode cX9_read 53 = .ok (.aload_n 0, 1) := by decide +kernel
theorem dX9_read_54 : decode cX9_read 54 = .ok (.dup, 1) := by decide +kernel
theorem dX9_read_55 : decode cX9_read 55 = .ok (.getfield 46, 3) := by decide +kernel
theorem dX9_read_58 : decode cX9_read 58 = .ok (.iconst 1, 1) := by decide +kernel
theorem dX9_read_59 : decode cX9_read 59 = .ok (.isub, 1) := by decide +kernel
theorem dX9_read_60 : decode cX9_read 60 = .ok (.putfield 46, 3) := by decide +kernel
theorem dX9_read_63 : decode cX9_read 63 = .ok (.iconst 0, 1) := by decide +kernel
theorem dX9_read_64 : decode cX9_read 64 = .ok (.istore_n 3, 1) := by decide +kernel
theorem dX9_read_65 : decode cX9_read 65 = .ok (.iload_n 3, 1) := by decide +kernel
theorem dX9_read_66 : decode cX9_read 66 = .ok (.aload_n 0, 1) := by decide +kernel
theorem dX9_read_67 : decode cX9_read 67 = .ok (.getfield 46, 3) := by decide +kernel
theorem dX9_read_70 : decode cX9_read 70 = .ok (.if_icmp .ge 23, 3) := by decide +kernel
theorem dX9_read_73 : decode cX9_read 73 = .ok (.aload_n 0, 1) := by decide +kernel
theorem dX9_read_74 : decode cX9_read 74 = .ok (.getfield 17, 3) := by decide +kernel
theorem dX9_read_77 : decode cX9_read 77 = .ok (.iload_n 3, 1) := by decide +kernel
theorem dX9_read_78 : decode cX9_read 78 = .ok (.aload_n 0, 1) := by decide +kernel
theorem dX9_read_79 : decode cX9_read 79 = .ok (.getfield 17, 3) := by decide +kernel
theorem dX9_read_82 : decode cX9_read 82 = .ok (.iload_n 3, 1) := by decide +kernel
theorem dX9_read_83 : decode cX9_read 83 = .ok (.iconst 1, 1) := by decide +kernel
theorem dX9_read_84 : decode cX9_read 84 = .ok (.iadd, 1) := by decide +kernel
theorem dX9_read_85 : decode cX9_read 85 = .ok (.iaload, 1) := by decide +kernel
theorem dX9_read_86 : decode cX9_read 86 = .ok (.iastore, 1) := by decide +kernel
theorem dX9_read_87 : decode cX9_read 87 = .ok (.iinc 3 1, 3) := by decide +kernel
theorem dX9_read_90 : decode cX9_read 90 = .ok (.goto (-25), 3) := by decide +kernel
theorem dX9_read_93 : decode cX9_read 93 = .ok (.iload_n 2, 1) := by decide +kernel
theorem dX9_read_94 : decode cX9_read 94 = .ok (.ireturn, 1) := by decide +kernel
theorem dX9_write_0 : decode cX9_write 0 = .ok (.iload_n 1, 1) := by decide +kernel
theorem dX9_write_1 : decode cX9_write 1 = .ok (.ldc 75, 2) := by decide +kernel
theorem dX9_write_3 : decode cX9_write 3 = .ok (.if_icmp .ge 15, 3) := by decide +kernel
theorem dX9_write_6 : decode cX9_write 6 = .ok (.aload_n 0, 1) := by decide +kernel
theorem dX9_write_7 : decode cX9_write 7 = .ok (.getfield 8, 3) := by decide +kernel
theorem dX9_write_10 : decode cX9_write 10 = .ok (.aload_n 0, 1) := by decide +kernel
theorem dX9_write_11 : decode cX9_write 11 = .ok (.iload_n 1, 1) := by decide +kernel
theorem dX9_write_12 : decode cX9_write 12 = .ok (.invokevirtual 78, 3) := by decide +kernel
theorem dX9_write_15 : decode cX9_write 15 = .ok (.iload_n 2, 1) := by decide +kernel
theorem dX9_write_16 : decode cX9_write 16 = .ok (.iastore, 1) := by decide +kernel
theorem dX9_write_17 : decode cX9_write 17 = .ok (.return_, 1) := by decide +kernel
theorem dX9_write_18 : decode cX9_write 18 = .ok (.iload_n 1, 1) := by decide +kernel
theorem dX9_write_19 : decode cX9_write 19 = .ok (.ldc 75, 2) := by decide +kernel
theorem dX9_write_21 : decode cX9_write 21 = .ok (.isub, 1) := by decide +kernel
theorem dX9_write_22 : decode cX9_write 22 = .ok (.tableswitch 370 4 32 #[130, 146, 130, 190, 221, 229, 370, 261, 370, 269, 284, 370, 317, 344, 352, 370, 370, 370, 370, 370, 370, 370, 370, 370, 370, 370, 370, 370, 360], 130) := by decide +kernel
theorem dX9_write_152 : decode cX9_write 152 = .ok (.aload_n 0, 1) := by decide +kernel
theorem dX9_write_153 : decode cX9_write 153 = .ok (.aload_n 0, 1) := by decide +kernel
theorem dX9_write_154 : decode cX9_write 154 = .ok (.getfield 64, 3) := by decide +kernel
theorem dX9_write_157 : decode cX9_write 157 = .ok (.ldc 96, 2) := by decide +kernel
theorem dX9_write_159 : decode cX9_write 159 = .ok (.iand, 1) := by decide +kernel
theorem dX9_write_160 : decode cX9_write 160 = .ok (.iload_n 2, 1) := by decide +kernel
theorem dX9_write_161 : decode cX9_write 161 = .ok (.ior, 1) := by decide +kernel
theorem dX9_write_162 : decode cX9_write 162 = .ok (.putfield 64, 3) := by decide +kernel
theorem dX9_write_165 : decode cX9_write 165 = .ok (.goto 227, 3) := by decide +kernel
theorem dX9_write_168 : decode cX9_write 168 = .ok (.aload_n 0, 1) := by decide +kernel
theorem dX9_write_169 : decode cX9_write 169 = .ok (.aload_n 0, 1) := by decide +kernel
theorem dX9_write_170 : decode cX9_write 170 = .ok (.getfield 64, 3) := by decide +kernel
theorem dX9_write_173 : decode cX9_write 173 = .ok (.sipush 255, 3) := by decide +kernel
theorem dX9_write_176 : decode cX9_write 176 = .ok (.iand, 1) := by decide +kernel
theorem dX9_write_177 : decode cX9_write 177 = .ok (.iload_n 2, 1) := by decide +kernel
theorem dX9_write_178 : decode cX9_write 178 = .ok (.bipush 8, 2) := by decide +kernel
theorem dX9_write_180 : decode cX9_write 180 = .ok (.ishl, 1) := by decide +kernel
theorem dX9_write_181 : decode cX9_write 181 = .ok (.ior, 1) := by decide +kernel
theorem dX9_write_182 : decode cX9_write 182 = .ok (.putfield 64, 3) := by decide +kernel
theorem dX9_write_185 : decode cX9_write 185 = .ok (.aload_n 0, 1) := by decide +kernel
theorem dX9_write_186 : decode cX9_write 186 = .ok (.aload_n 0, 1) := by decide +kernel
theorem dX9_write_187 : decode cX9_write 187 = .ok (.getfield 64, 3) := by decide +kernel
theorem dX9_write_190 : decode cX9_write 190 = .ok (.putfield 37, 3) := by decide +kernel
theorem dX9_write_193 : decode cX9_write 193 = .ok (.aload_n 0, 1) := by decide +kernel
theorem dX9_write_194 : decode cX9_write 194 = .ok (.iconst 1, 1) := by decide +kernel
theorem dX9_write_195 : decode cX9_write 195 = .ok (.putfield 67, 3) := by decide +kernel
theorem dX9_write_198 : decode cX9_write 198 = .ok (.aload_n 0, 1) := by decide +kernel
theorem dX9_write_199 : decode cX9_write 199 = .ok (.dup, 1) := by decide +kernel
theorem dX9_write_200 : decode cX9_write 200 = .ok (.getfield 55, 3) := by decide +kernel
theorem dX9_write_203 : decode cX9_write 203 = .ok (.bipush (-65), 2) := by decide +kernel
theorem dX9_write_205 : decode cX9_write 205 = .ok (.iand, 1) := by decide +kernel
theorem dX9_write_206 : decode cX9_write 206 = .ok (.putfield 55, 3) := by decide +kernel
theorem dX9_write_209 : decode cX9_write 209 = .ok (.goto 183, 3) := by decide +kernel
theorem dX9_write_212 : decode cX9_write 212 = .ok (.aload_n 0, 1) := by decide +kernel
theorem dX9_write_213 : decode cX9_write 213 = .ok (.aload_n 0, 1) := by decide +kernel
theorem dX9_write_214 : decode cX9_write 214 = .ok (.getfield 64, 3) := by decide +kernel
theorem dX9_write_217 : decode cX9_write 217 = .ok (.sipush 255, 3) := by decide +kernel
theorem dX9_write_220 : decode cX9_write 220 = .ok (.iand, 1) := by decide +kernel
theorem dX9_write_221 : decode cX9_write 221 = .ok (.iload_n 2, 1) := by decide +kernel
theorem dX9_write_222 : decode cX9_write 222 = .ok (.bipush 8, 2) := by decide +kernel
theorem dX9_write_224 : decode cX9_write 224 = .ok (.ishl, 1) := by decide +kernel
theorem dX9_write_225 : decode cX9_write 225 = .ok (.ior, 1) := by decide +kernel
theorem dX9_write_226 : decode cX9_write 226 = .ok (.putfield 64, 3) := by decide +kernel
theorem dX9_write_229 : decode cX9_write 229 = .ok (.aload_n 0, 1) := by decide +kernel
theorem dX9_write_230 : decode cX9_write 230 = .ok (.dup, 1) := by decide +kernel
theorem dX9_write_231 : decode cX9_write 231 = .ok (.getfield 55, 3) := by decide +kernel
theorem dX9_write_234 : decode cX9_write 234 = .ok (.bipush (-65), 2) := by decide +kernel
theorem dX9_write_236 : decode cX9_write 236 = .ok (.iand, 1) := by decide +kernel
theorem dX9_write_237 : decode cX9_write 237 = .ok (.putfield 55, 3) := by decide +kernel
theorem dX9_write_240 : decode cX9_write 240 = .ok (.goto 152, 3) := by decide +kernel
theorem dX9_write_243 : decode cX9_write 243 = .ok (.aload_n 0, 1) := by decide +kernel
theorem dX9_write_244 : decode cX9_write 244 = .ok (.iload_n 2, 1) := by decide +kernel
theorem dX9_write_245 : decode cX9_write 245 = .ok (.putfield 61, 3) := by decide +kernel
theorem dX9_write_248 : decode cX9_write 248 = .ok (.goto 144, 3) := by decide +kernel
theorem dX9_write_251 : decode cX9_write 251 = .ok (.aload_n 0, 1) := by decide +kernel
theorem dX9_write_252 : decode cX9_write 252 = .ok (.iload_n 2, 1) := by decide +kernel
theorem dX9_write_253 : decode cX9_write 253 = .ok (.bipush 8, 2) := by decide +kernel
theorem dX9_write_255 : decode cX9_write 255 = .ok (.ishl, 1) := by decide +kernel
theorem dX9_write_256 : decode cX9_write 256 = .ok (.aload_n 0, 1) := by decide +kernel
theorem dX9_write_257 : decode cX9_write 257 = .ok (.getfield 61, 3) := by decide +kernel
theorem dX9_write_260 : decode cX9_write 260 = .ok (.ior, 1) := by decide +kernel
theorem dX9_write_261 : decode cX9_write 261 = .ok (.putfield 40, 3) := by decide +kernel
theorem dX9_write_264 : decode cX9_write 264 = .ok (.aload_n 0, 1) := by decide +kernel
theorem dX9_write_265 : decode cX9_write 265 = .ok (.iconst 1, 1) := by decide +kernel
theorem dX9_write_266 : decode cX9_write 266 = .ok (.putfield 71, 3) := by decide +kernel
theorem dX9_write_269 : decode cX9_write 269 = .ok (.aload_n 0, 1) := by decide +kernel
theorem dX9_write_270 : decode cX9_write 270 = .ok (.dup, 1) := by decide +kernel
theorem dX9_write_271 : decode cX9_write 271 = .ok (.getfield 55, 3) := by decide +kernel
theorem dX9_write_274 : decode cX9_write 274 = .ok (.bipush (-33), 2) := by decide +kernel
theorem dX9_write_276 : decode cX9_write 276 = .ok (.iand, 1) := by decide +kernel
theorem dX9_write_277 : decode cX9_write 277 = .ok (.putfield 55, 3) := by decide +kernel
theorem dX9_write_280 : decode cX9_write 280 = .ok (.goto 112, 3) := by decide +kernel
theorem dX9_write_283 : decode cX9_write 283 = .ok (.aload_n 0, 1) := by decide +kernel
theorem dX9_write_284 : decode cX9_write 284 = .ok (.iload_n 2, 1) := by decide +kernel
theorem dX9_write_285 : decode cX9_write 285 = .ok (.putfield 58, 3) := by decide +kernel
theorem dX9_write_288 : decode cX9_write 288 = .ok (.goto 104, 3) := by decide +kernel
theorem dX9_write_291 : decode cX9_write 291 = .ok (.aload_n 0, 1) := by decide +kernel
theorem dX9_write_292 : decode cX9_write 292 = .ok (.dup, 1) := by decide +kernel
theorem dX9_write_293 : decode cX9_write 293 = .ok (.getfield 55, 3) := by decide +kernel
theorem dX9_write_296 : decode cX9_write 296 = .ok (.iload_n 2, 1) := by decide +kernel
theorem dX9_write_297 : decode cX9_write 297 = .ok (.iconst (-1), 1) := by decide +kernel
theorem dX9_write_298 : decode cX9_write 298 = .ok (.ixor, 1) := by decide +kernel
theorem dX9_write_299 : decode cX9_write 299 = .ok (.iand, 1) := by decide +kernel
theorem dX9_write_300 : decode cX9_write 300 = .ok (.putfield 55, 3) := by decide +kernel
theorem dX9_write_303 : decode cX9_write 303 = .ok (.goto 89, 3) := by decide +kernel
theorem dX9_write_306 : decode cX9_write 306 = .ok (.aload_n 0, 1) := by decide +kernel
theorem dX9_write_307 : decode cX9_write 307 = .ok (.iload_n 2, 1) := by decide +kernel
theorem dX9_write_308 : decode cX9_write 308 = .ok (.bipush 127, 2) := by decide +kernel
theorem dX9_write_310 : decode cX9_write 310 = .ok (.if_icmp .le 15, 3) := by decide +kernel
theorem dX9_write_313 : decode cX9_write 313 = .ok (.aload_n 0, 1) := by decide +kernel
theorem dX9_write_314 : decode cX9_write 314 = .ok (.getfield 52, 3) := by decide +kernel
theorem dX9_write_317 : decode cX9_write 317 = .ok (.iload_n 2, 1) := by decide +kernel
theorem dX9_write_318 : decode cX9_write 318 = .ok (.bipush 127, 2) := by decide +kernel
theorem dX9_write_320 : decode cX9_write 320 = .ok (.iand, 1) := by decide +kernel
theorem dX9_write_321 : decode cX9_write 321 = .ok (.ior, 1) := by decide +kernel
theorem dX9_write_322 : decode cX9_write 322 = .ok (.goto 11, 3) := by decide +kernel
theorem dX9_write_325 : decode cX9_write 325 = .ok (.aload_n 0, 1) := by decide +kernel
theorem dX9_write_326 : decode cX9_write 326 = .ok (.getfield 52, 3) := by decide +kernel
theorem dX9_write_329 : decode cX9_write 329 = .ok (.iload_n 2, 1) := by decide +kernel
theorem dX9_write_330 : decode cX9_write 330 = .ok (.iconst (-1), 1) := by decide +kernel
theorem dX9_write_331 : decode cX9_write 331 = .ok (.ixor, 1) := by decide +kernel
theorem dX9_write_332 : decode cX9_write 332 = .ok (.iand, 1) := by decide +kernel
theorem dX9_write_333 : decode cX9_write 333 = .ok (.putfield 52, 3) := by decide +kernel
theorem dX9_write_336 : decode cX9_write 336 = .ok (.goto 56, 3) := by decide +kernel
theorem dX9_write_339 : decode cX9_write 339 = .ok (.aload_n 0, 1) := by decide +kernel
theorem dX9_write_340 : decode cX9_write 340 = .ok (.getfield 20, 3) := by decide +kernel
theorem dX9_write_343 : decode cX9_write 343 = .ok (.aload_n 0, 1) := by decide +kernel
theorem dX9_write_344 : decode cX9_write 344 = .ok (.getfield 97, 3) := by decide +kernel
theorem dX9_write_347 : decode cX9_write 347 = .ok (.sipush 256, 3) := by decide +kernel
theorem dX9_write_350 : decode cX9_write 350 = .ok (.irem, 1) := by decide +kernel
theorem dX9_write_351 : decode cX9_write 351 = .ok (.iload_n 2, 1) := by decide +kernel
theorem dX9_write_352 : decode cX9_write 352 = .ok (.iastore, 1) := by decide +kernel
theorem dX9_write_353 : decode cX9_write 353 = .ok (.aload_n 0, 1) := by decide +kernel
theorem dX9_write_354 : decode cX9_write 354 = .ok (.dup, 1) := by decide +kernel
theorem dX9_write_355 : decode cX9_write 355 = .ok (.getfield 97, 3) := by decide +kernel
theorem dX9_write_358 : decode cX9_write 358 = .ok (.iconst 1, 1) := by decide +kernel
theorem dX9_write_359 : decode cX9_write 359 = .ok (.iadd, 1) := by decide +kernel
theorem dX9_write_360 : decode cX9_write 360 = .ok (.putfield 97, 3) := by decide +kernel
theorem dX9_write_363 : decode cX9_write 363 = .ok (.goto 29, 3) := by decide +kernel
theorem dX9_write_366 : decode cX9_write 366 = .ok (.aload_n 0, 1) := by decide +kernel
theorem dX9_write_367 : decode cX9_write 367 = .ok (.iconst 0, 1) := by decide +kernel
theorem dX9_write_368 : decode cX9_write 368 = .ok (.putfield 49, 3) := by decide +kernel
theorem dX9_write_371 : decode cX9_write 371 = .ok (.goto 21, 3) := by decide +kernel
theorem dX9_write_374 : decode cX9_write 374 = .ok (.aload_n 0, 1) := by decide +kernel
theorem dX9_write_375 : decode cX9_write 375 = .ok (.iload_n 2, 1) := by decide +kernel
theorem dX9_write_376 : decode cX9_write 376 = .ok (.putfield 49, 3) := by decide +kernel
theorem dX9_write_379 : decode cX9_write 379 = .ok (.goto 13, 3) := by decide +kernel
theorem dX9_write_382 : decode cX9_write 382 = .ok (.aload_n 0, 1) := by decide +kernel
theorem dX9_write_383 : decode cX9_write 383 = .ok (.iload_n 2, 1) := by decide +kernel
theorem dX9_write_384 : decode cX9_write 384 = .ok (.iconst 3, 1) := by decide +kernel
theorem dX9_write_385 : decode cX9_write 385 = .ok (.iand, 1) := by decide +kernel
theorem dX9_write_386 : decode cX9_write 386 = .ok (.putfield 43, 3) := by decide +kernel
theorem dX9_write_389 : decode cX9_write 389 = .ok (.goto 3, 3) := by decide +kernel
theorem dX9_write_392 : decode cX9_write 392 = .ok (.return_, 1) := by decide +kernel
theorem dX9_wordAt_0 : decode cX9_wordAt 0 = .ok (.aload_n 0, 1) := by decide +kernel
theorem dX9_wordAt_1 : decode cX9_wordAt 1 = .ok (.iload_n 1, 1) := by decide +kernel
theorem dX9_wordAt_2 : decode cX9_wordAt 2 = .ok (.ldc 36, 2) := by decide +kernel
theorem dX9_wordAt_4 : decode cX9_wordAt 4 = .ok (.iand, 1) := by decide +kernel
theorem dX9_wordAt_5 : decode cX9_wordAt 5 = .ok (.invokevirtual 100, 3) := by decide +kernel
theorem dX9_wordAt_8 : decode cX9_wordAt 8 = .ok (.istore_n 2, 1) := by decide +kernel
theorem dX9_wordAt_9 : decode cX9_wordAt 9 = .ok (.iload_n 2, 1) := by decide +kernel
theorem dX9_wordAt_10 : decode cX9_wordAt 10 = .ok (.aload_n 0, 1) := by decide +kernel
theorem dX9_wordAt_11 : decode cX9_wordAt 11 = .ok (.iload_n 1, 1) := by decide +kernel
theorem dX9_wordAt_12 : decode cX9_wordAt 12 = .ok (.iconst 1, 1) := by decide +kernel
theorem dX9_wordAt_13 : decode cX9_wordAt 13 = .ok (.iadd, 1) := by decide +kernel
theorem dX9_wordAt_14 : decode cX9_wordAt 14 = .ok (.ldc 36, 2) := by decide +kernel
theorem dX9_wordAt_16 : decode cX9_wordAt 16 = .ok (.iand, 1) := by decide +kernel
theorem dX9_wordAt_17 : decode cX9_wordAt 17 = .ok (.invokevirtual 100, 3) := by decide +kernel
theorem dX9_wordAt_20 : decode cX9_wordAt 20 = .ok (.bipush 8, 2) := by decide +kernel
theorem dX9_wordAt_22 : decode cX9_wordAt 22 = .ok (.ishl, 1) := by decide +kernel
theorem dX9_wordAt_23 : decode cX9_wordAt 23 = .ok (.ior, 1) := by decide +kernel
theorem dX9_wordAt_24 : decode cX9_wordAt 24 = .ok (.ireturn, 1) := by decide +kernel
theorem dX9_zeroWord_0 : decode cX9_zeroWord 0 = .ok (.aload_n 0, 1) := by decide +kernel
theorem dX9_zeroWord_1 : decode cX9_zeroWord 1 = .ok (.iload_n 1, 1) := by decide +kernel
theorem dX9_zeroWord_2 : decode cX9_zeroWord 2 = .ok (.sipush 255, 3) := by decide +kernel
theorem dX9_zeroWord_5 : decode cX9_zeroWord 5 = .ok (.iand, 1) := by decide +kernel
theorem dX9_zeroWord_6 : decode cX9_zeroWord 6 = .ok (.invokevirtual 100, 3) := by decide +kernel
theorem dX9_zeroWord_9 : decode cX9_zeroWord 9 = .ok (.istore_n 2, 1) := by decide +kernel
theorem dX9_zeroWord_10 : decode cX9_zeroWord 10 = .ok (.iload_n 2, 1) := by decide +kernel
theorem dX9_zeroWord_11 : decode cX9_zeroWord 11 = .ok (.aload_n 0, 1) := by decide +kernel
theorem dX9_zeroWord_12 : decode cX9_zeroWord 12 = .ok (.iload_n 1, 1) := by decide +kernel
theorem dX9_zeroWord_13 : decode cX9_zeroWord 13 = .ok (.iconst 1, 1) := by decide +kernel
theorem dX9_zeroWord_14 : decode cX9_zeroWord 14 = .ok (.iadd, 1) := by decide +kernel
theorem dX9_zeroWord_15 : decode cX9_zeroWord 15 = .ok (.sipush 255, 3) := by decide +kernel
theorem dX9_zeroWord_18 : decode cX9_zeroWord 18 = .ok (.iand, 1) := by decide +kernel
theorem dX9_zeroWord_19 : decode cX9_zeroWord 19 = .ok (.invokevirtual 100, 3) := by decide +kernel
theorem dX9_zeroWord_22 : decode cX9_zeroWord 22 = .ok (.bipush 8, 2) := by decide +kernel
theorem dX9_zeroWord_24 : decode cX9_zeroWord 24 = .ok (.ishl, 1) := by decide +kernel
theorem dX9_zeroWord_25 : decode cX9_zeroWord 25 = .ok (.ior, 1) := by decide +kernel
theorem dX9_zeroWord_26 : decode cX9_zeroWord 26 = .ok (.ireturn, 1) := by decide +kernel
theorem dX9_push_0 : decode cX9_push 0 = .ok (.aload_n 0, 1) := by decide +kernel
theorem dX9_push_1 : decode cX9_push 1 = .ok (.sipush 256, 3) := by decide +kernel
theorem dX9_push_4 : decode cX9_push 4 = .ok (.aload_n 0, 1) := by decide +kernel
theorem dX9_push_5 : decode cX9_push 5 = .ok (.getfield 14, 3) := by decide +kernel
theorem dX9_push_8 : decode cX9_push 8 = .ok (.iconst 3, 1) := by decide +kernel
theorem dX9_push_9 : decode cX9_push 9 = .ok (.iaload, 1) := by decide +kernel
theorem dX9_push_10 : decode cX9_push 10 = .ok (.iadd, 1) := by decide +kernel
theorem dX9_push_11 : decode cX9_push 11 = .ok (.iload_n 1, 1) := by decide +kernel
theorem dX9_push_12 : decode cX9_push 12 = .ok (.invokevirtual 103, 3) := by decide +kernel
theorem dX9_push_15 : decode cX9_push 15 = .ok (.aload_n 0, 1) := by decide +kernel
theorem dX9_push_16 : decode cX9_push 16 = .ok (.getfield 14, 3) := by decide +kernel
theorem dX9_push_19 : decode cX9_push 19 = .ok (.iconst 3, 1) := by decide +kernel
theorem dX9_push_20 : decode cX9_push 20 = .ok (.aload_n 0, 1) := by decide +kernel
theorem dX9_push_21 : decode cX9_push 21 = .ok (.getfield 14, 3) := by decide +kernel
theorem dX9_push_24 : decode cX9_push 24 = .ok (.iconst 3, 1) := by decide +kernel
theorem dX9_push_25 : decode cX9_push 25 = .ok (.iaload, 1) := by decide +kernel
theorem dX9_push_26 : decode cX9_push 26 = .ok (.iconst 1, 1) := by decide +kernel
theorem dX9_push_27 : decode cX9_push 27 = .ok (.isub, 1) := by decide +kernel
theorem dX9_push_28 : decode cX9_push 28 = .ok (.sipush 255, 3) := by decide +kernel
theorem dX9_push_31 : decode cX9_push 31 = .ok (.iand, 1) := by decide +kernel
theorem dX9_push_32 : decode cX9_push 32 = .ok (.iastore, 1) := by decide +kernel
theorem dX9_push_33 : decode cX9_push 33 = .ok (.return_, 1) := by decide +kernel
theorem dX9_pull_0 : decode cX9_pull 0 = .ok (.aload_n 0, 1) := by decide +kernel
theorem dX9_pull_1 : decode cX9_pull 1 = .ok (.getfield 14, 3) := by decide +kernel
theorem dX9_pull_4 : decode cX9_pull 4 = .ok (.iconst 3, 1) := by decide +kernel
theorem dX9_pull_5 : decode cX9_pull 5 = .ok (.aload_n 0, 1) := by decide +kernel
theorem dX9_pull_6 : decode cX9_pull 6 = .ok (.getfield 14, 3) := by decide +kernel
theorem dX9_pull_9 : decode cX9_pull 9 = .ok (.iconst 3, 1) := by decide +kernel
theorem dX9_pull_10 : decode cX9_pull 10 = .ok (.iaload, 1) := by decide +kernel
theorem dX9_pull_11 : decode cX9_pull 11 = .ok (.iconst 1, 1) := by decide +kernel
theorem dX9_pull_12 : decode cX9_pull 12 = .ok (.iadd, 1) := by decide +kernel
theorem dX9_pull_13 : decode cX9_pull 13 = .ok (.sipush 255, 3) := by decide +kernel
theorem dX9_pull_16 : decode cX9_pull 16 = .ok (.iand, 1) := by decide +kernel
theorem dX9_pull_17 : decode cX9_pull 17 = .ok (.iastore, 1) := by decide +kernel
theorem dX9_pull_18 : decode cX9_pull 18 = .ok (.aload_n 0, 1) := by decide +kernel
theorem dX9_pull_19 : decode cX9_pull 19 = .ok (.sipush 256, 3) := by decide +kernel
theorem dX9_pull_22 : decode cX9_pull 22 = .ok (.aload_n 0, 1) := by decide +kernel
theorem dX9_pull_23 : decode cX9_pull 23 = .ok (.getfield 14, 3) := by decide +kernel
theorem dX9_pull_26 : decode cX9_pull 26 = .ok (.iconst 3, 1) := by decide +kernel
theorem dX9_pull_27 : decode cX9_pull 27 = .ok (.iaload, 1) := by decide +kernel
theorem dX9_pull_28 : decode cX9_pull 28 = .ok (.iadd, 1) := by decide +kernel
theorem dX9_pull_29 : decode cX9_pull 29 = .ok (.invokevirtual 100, 3) := by decide +kernel
theorem dX9_pull_32 : decode cX9_pull 32 = .ok (.ireturn, 1) := by decide +kernel
theorem dX9_flag_0 : decode cX9_flag 0 = .ok (.aload_n 0, 1) := by decide +kernel
theorem dX9_flag_1 : decode cX9_flag 1 = .ok (.iload_n 2, 1) := by decide +kernel
theorem dX9_flag_2 : decode cX9_flag 2 = .ok (.ifCond .eq 12, 3) := by decide +kernel
theorem dX9_flag_5 : decode cX9_flag 5 = .ok (.aload_n 0, 1) := by decide +kernel
theorem dX9_flag_6 : decode cX9_flag 6 = .ok (.getfield 107, 3) := by decide +kernel
theorem dX9_flag_9 : decode cX9_flag 9 = .ok (.iload_n 1, 1) := by decide +kernel
theorem dX9_flag_10 : decode cX9_flag 10 = .ok (.ior, 1) := by decide +kernel
theorem dX9_flag_11 : decode cX9_flag 11 = .ok (.goto 11, 3) := by decide +kernel
theorem dX9_flag_14 : decode cX9_flag 14 = .ok (.aload_n 0, 1) := by decide +kernel
theorem dX9_flag_15 : decode cX9_flag 15 = .ok (.getfield 107, 3) := by decide +kernel
theorem dX9_flag_18 : decode cX9_flag 18 = .ok (.iload_n 1, 1) := by decide +kernel
theorem dX9_flag_19 : decode cX9_flag 19 = .ok (.iconst (-1), 1) := by decide +kernel
theorem dX9_flag_20 : decode cX9_flag 20 = .ok (.ixor, 1) := by decide +kernel
theorem dX9_flag_21 : decode cX9_flag 21 = .ok (.iand, 1) := by decide +kernel
theorem dX9_flag_22 : decode cX9_flag 22 = .ok (.putfield 107, 3) := by decide +kernel
theorem dX9_flag_25 : decode cX9_flag 25 = .ok (.return_, 1) := by decide +kernel
theorem dX9_is_0 : decode cX9_is 0 = .ok (.aload_n 0, 1) := by decide +kernel
theorem dX9_is_1 : decode cX9_is 1 = .ok (.getfield 107, 3) := by decide +kernel
theorem dX9_is_4 : decode cX9_is 4 = .ok (.iload_n 1, 1) := by decide +kernel
theorem dX9_is_5 : decode cX9_is 5 = .ok (.iand, 1) := by decide +kernel
theorem dX9_is_6 : decode cX9_is 6 = .ok (.ifCond .eq 7, 3) := by decide +kernel
theorem dX9_is_9 : decode cX9_is 9 = .ok (.iconst 1, 1) := by decide +kernel
theorem dX9_is_10 : decode cX9_is 10 = .ok (.goto 4, 3) := by decide +kernel
theorem dX9_is_13 : decode cX9_is 13 = .ok (.iconst 0, 1) := by decide +kernel
theorem dX9_is_14 : decode cX9_is 14 = .ok (.ireturn, 1) := by decide +kernel
theorem dX9_carry_0 : decode cX9_carry 0 = .ok (.aload_n 0, 1) := by decide +kernel
theorem dX9_carry_1 : decode cX9_carry 1 = .ok (.getfield 107, 3) := by decide +kernel
theorem dX9_carry_4 : decode cX9_carry 4 = .ok (.iconst 1, 1) := by decide +kernel
theorem dX9_carry_5 : decode cX9_carry 5 = .ok (.iand, 1) := by decide +kernel
theorem dX9_carry_6 : decode cX9_carry 6 = .ok (.ireturn, 1) := by decide +kernel
theorem dX9_tested_0 : decode cX9_tested 0 = .ok (.aload_n 0, 1) := by decide +kernel
theorem dX9_tested_1 : decode cX9_tested 1 = .ok (.sipush 128, 3) := by decide +kernel
theorem dX9_tested_4 : decode cX9_tested 4 = .ok (.iload_n 1, 1) := by decide +kernel
theorem dX9_tested_5 : decode cX9_tested 5 = .ok (.bipush 127, 2) := by decide +kernel
theorem dX9_tested_7 : decode cX9_tested 7 = .ok (.if_icmp .le 7, 3) := by decide +kernel
theorem dX9_tested_10 : decode cX9_tested 10 = .ok (.iconst 1, 1) := by decide +kernel
theorem dX9_tested_11 : decode cX9_tested 11 = .ok (.goto 4, 3) := by decide +kernel
theorem dX9_tested_14 : decode cX9_tested 14 = .ok (.iconst 0, 1) := by decide +kernel
theorem dX9_tested_15 : decode cX9_tested 15 = .ok (.invokevirtual 110, 3) := by decide +kernel
theorem dX9_tested_18 : decode cX9_tested 18 = .ok (.aload_n 0, 1) := by decide +kernel
theorem dX9_tested_19 : decode cX9_tested 19 = .ok (.iconst 2, 1) := by decide +kernel
theorem dX9_tested_20 : decode cX9_tested 20 = .ok (.iload_n 1, 1) := by decide +kernel
theorem dX9_tested_21 : decode cX9_tested 21 = .ok (.ifCond .ne 7, 3) := by decide +kernel
theorem dX9_tested_24 : decode cX9_tested 24 = .ok (.iconst 1, 1) := by decide +kernel
theorem dX9_tested_25 : decode cX9_tested 25 = .ok (.goto 4, 3) := by decide +kernel
theorem dX9_tested_28 : decode cX9_tested 28 = .ok (.iconst 0, 1) := by decide +kernel
theorem dX9_tested_29 : decode cX9_tested 29 = .ok (.invokevirtual 110, 3) := by decide +kernel
theorem dX9_tested_32 : decode cX9_tested 32 = .ok (.iload_n 1, 1) := by decide +kernel
end
section
theorem dX9_tested_33 : decode cX9_tested 33 = .ok (.ireturn, 1) := by decide +kernel
theorem dX9_size_0 : decode cX9_size 0 = .ok (.iload_n 0, 1) := by decide +kernel
theorem dX9_size_1 : decode cX9_size 1 = .ok (.bipush 15, 2) := by decide +kernel
theorem dX9_size_3 : decode cX9_size 3 = .ok (.iand, 1) := by decide +kernel
theorem dX9_size_4 : decode cX9_size 4 = .ok (.istore_n 1, 1) := by decide +kernel
theorem dX9_size_5 : decode cX9_size 5 = .ok (.iload_n 0, 1) := by decide +kernel
theorem dX9_size_6 : decode cX9_size 6 = .ok (.iconst 4, 1) := by decide +kernel
theorem dX9_size_7 : decode cX9_size 7 = .ok (.ishr, 1) := by decide +kernel
theorem dX9_size_8 : decode cX9_size 8 = .ok (.iconst 1, 1) := by decide +kernel
theorem dX9_size_9 : decode cX9_size 9 = .ok (.iand, 1) := by decide +kernel
theorem dX9_size_10 : decode cX9_size 10 = .ok (.iconst 1, 1) := by decide +kernel
theorem dX9_size_11 : decode cX9_size 11 = .ok (.if_icmp .ne 7, 3) := by decide +kernel
theorem dX9_size_14 : decode cX9_size 14 = .ok (.iconst 1, 1) := by decide +kernel
theorem dX9_size_15 : decode cX9_size 15 = .ok (.goto 4, 3) := by decide +kernel
theorem dX9_size_18 : decode cX9_size 18 = .ok (.iconst 0, 1) := by decide +kernel
theorem dX9_size_19 : decode cX9_size 19 = .ok (.istore_n 2, 1) := by decide +kernel
theorem dX9_size_20 : decode cX9_size 20 = .ok (.iload_n 1, 1) := by decide +kernel
theorem dX9_size_21 : decode cX9_size 21 = .ok (.ifCond .ne 35, 3) := by decide +kernel
theorem dX9_size_24 : decode cX9_size 24 = .ok (.iload_n 0, 1) := by decide +kernel
theorem dX9_size_25 : decode cX9_size 25 = .ok (.bipush 32, 2) := by decide +kernel
theorem dX9_size_27 : decode cX9_size 27 = .ok (.if_icmp .ne 7, 3) := by decide +kernel
theorem dX9_size_30 : decode cX9_size 30 = .ok (.iconst 3, 1) := by decide +kernel
theorem dX9_size_31 : decode cX9_size 31 = .ok (.goto 24, 3) := by decide +kernel
theorem dX9_size_34 : decode cX9_size 34 = .ok (.iload_n 0, 1) := by decide +kernel
theorem dX9_size_35 : decode cX9_size 35 = .ok (.ifCond .eq 15, 3) := by decide +kernel
theorem dX9_size_38 : decode cX9_size 38 = .ok (.iload_n 0, 1) := by decide +kernel
theorem dX9_size_39 : decode cX9_size 39 = .ok (.bipush 64, 2) := by decide +kernel
theorem dX9_size_41 : decode cX9_size 41 = .ok (.if_icmp .eq 9, 3) := by decide +kernel
theorem dX9_size_44 : decode cX9_size 44 = .ok (.iload_n 0, 1) := by decide +kernel
theorem dX9_size_45 : decode cX9_size 45 = .ok (.bipush 96, 2) := by decide +kernel
theorem dX9_size_47 : decode cX9_size 47 = .ok (.if_icmp .ne 7, 3) := by decide +kernel
theorem dX9_size_50 : decode cX9_size 50 = .ok (.iconst 1, 1) := by decide +kernel
theorem dX9_size_51 : decode cX9_size 51 = .ok (.goto 4, 3) := by decide +kernel
theorem dX9_size_54 : decode cX9_size 54 = .ok (.iconst 2, 1) := by decide +kernel
theorem dX9_size_55 : decode cX9_size 55 = .ok (.ireturn, 1) := by decide +kernel
theorem dX9_size_56 : decode cX9_size 56 = .ok (.iload_n 1, 1) := by decide +kernel
theorem dX9_size_57 : decode cX9_size 57 = .ok (.iconst 3, 1) := by decide +kernel
theorem dX9_size_58 : decode cX9_size 58 = .ok (.if_icmp .eq 21, 3) := by decide +kernel
theorem dX9_size_61 : decode cX9_size 61 = .ok (.iload_n 1, 1) := by decide +kernel
theorem dX9_size_62 : decode cX9_size 62 = .ok (.bipush 8, 2) := by decide +kernel
theorem dX9_size_64 : decode cX9_size 64 = .ok (.if_icmp .eq 15, 3) := by decide +kernel
theorem dX9_size_67 : decode cX9_size 67 = .ok (.iload_n 1, 1) := by decide +kernel
theorem dX9_size_68 : decode cX9_size 68 = .ok (.bipush 10, 2) := by decide +kernel
theorem dX9_size_70 : decode cX9_size 70 = .ok (.if_icmp .eq 9, 3) := by decide +kernel
theorem dX9_size_73 : decode cX9_size 73 = .ok (.iload_n 1, 1) := by decide +kernel
theorem dX9_size_74 : decode cX9_size 74 = .ok (.bipush 11, 2) := by decide +kernel
theorem dX9_size_76 : decode cX9_size 76 = .ok (.if_icmp .ne 5, 3) := by decide +kernel
theorem dX9_size_79 : decode cX9_size 79 = .ok (.iconst 1, 1) := by decide +kernel
theorem dX9_size_80 : decode cX9_size 80 = .ok (.ireturn, 1) := by decide +kernel
theorem dX9_size_81 : decode cX9_size 81 = .ok (.iload_n 1, 1) := by decide +kernel
theorem dX9_size_82 : decode cX9_size 82 = .ok (.bipush 11, 2) := by decide +kernel
theorem dX9_size_84 : decode cX9_size 84 = .ok (.if_icmp .gt 13, 3) := by decide +kernel
theorem dX9_size_87 : decode cX9_size 87 = .ok (.iload_n 1, 1) := by decide +kernel
theorem dX9_size_88 : decode cX9_size 88 = .ok (.bipush 9, 2) := by decide +kernel
theorem dX9_size_90 : decode cX9_size 90 = .ok (.if_icmp .ne 11, 3) := by decide +kernel
theorem dX9_size_93 : decode cX9_size 93 = .ok (.iload_n 2, 1) := by decide +kernel
theorem dX9_size_94 : decode cX9_size 94 = .ok (.ifCond .eq 7, 3) := by decide +kernel
theorem dX9_size_97 : decode cX9_size 97 = .ok (.iconst 3, 1) := by decide +kernel
theorem dX9_size_98 : decode cX9_size 98 = .ok (.goto 4, 3) := by decide +kernel
theorem dX9_size_101 : decode cX9_size 101 = .ok (.iconst 2, 1) := by decide +kernel
theorem dX9_size_102 : decode cX9_size 102 = .ok (.ireturn, 1) := by decide +kernel
theorem dX9_indexed_0 : decode cX9_indexed 0 = .ok (.iload_n 1, 1) := by decide +kernel
theorem dX9_indexed_1 : decode cX9_indexed 1 = .ok (.iload_n 2, 1) := by decide +kernel
theorem dX9_indexed_2 : decode cX9_indexed 2 = .ok (.iadd, 1) := by decide +kernel
theorem dX9_indexed_3 : decode cX9_indexed 3 = .ok (.ldc 36, 2) := by decide +kernel
theorem dX9_indexed_5 : decode cX9_indexed 5 = .ok (.iand, 1) := by decide +kernel
theorem dX9_indexed_6 : decode cX9_indexed 6 = .ok (.istore_n 3, 1) := by decide +kernel
theorem dX9_indexed_7 : decode cX9_indexed 7 = .ok (.aload_n 0, 1) := by decide +kernel
theorem dX9_indexed_8 : decode cX9_indexed 8 = .ok (.iload_n 3, 1) := by decide +kernel
theorem dX9_indexed_9 : decode cX9_indexed 9 = .ok (.bipush 8, 2) := by decide +kernel
theorem dX9_indexed_11 : decode cX9_indexed 11 = .ok (.ishr, 1) := by decide +kernel
theorem dX9_indexed_12 : decode cX9_indexed 12 = .ok (.iload_n 1, 1) := by decide +kernel
theorem dX9_indexed_13 : decode cX9_indexed 13 = .ok (.bipush 8, 2) := by decide +kernel
theorem dX9_indexed_15 : decode cX9_indexed 15 = .ok (.ishr, 1) := by decide +kernel
theorem dX9_indexed_16 : decode cX9_indexed 16 = .ok (.if_icmp .eq 7, 3) := by decide +kernel
theorem dX9_indexed_19 : decode cX9_indexed 19 = .ok (.iconst 1, 1) := by decide +kernel
theorem dX9_indexed_20 : decode cX9_indexed 20 = .ok (.goto 4, 3) := by decide +kernel
theorem dX9_indexed_23 : decode cX9_indexed 23 = .ok (.iconst 0, 1) := by decide +kernel
theorem dX9_indexed_24 : decode cX9_indexed 24 = .ok (.putfield 114, 3) := by decide +kernel
theorem dX9_indexed_27 : decode cX9_indexed 27 = .ok (.iload_n 3, 1) := by decide +kernel
theorem dX9_indexed_28 : decode cX9_indexed 28 = .ok (.ireturn, 1) := by decide +kernel
theorem dX9_address_0 : decode cX9_address 0 = .ok (.aload_n 0, 1) := by decide +kernel
theorem dX9_address_1 : decode cX9_address 1 = .ok (.iconst 0, 1) := by decide +kernel
theorem dX9_address_2 : decode cX9_address 2 = .ok (.putfield 114, 3) := by decide +kernel
theorem dX9_address_5 : decode cX9_address 5 = .ok (.iload_n 1, 1) := by decide +kernel
theorem dX9_address_6 : decode cX9_address 6 = .ok (.tableswitch 153 1 8 #[46, 51, 67, 83, 88, 103, 118, 134], 46) := by decide +kernel
theorem dX9_address_52 : decode cX9_address 52 = .ok (.aload_n 0, 1) := by decide +kernel
theorem dX9_address_53 : decode cX9_address 53 = .ok (.getfield 117, 3) := by decide +kernel
theorem dX9_address_56 : decode cX9_address 56 = .ok (.ireturn, 1) := by decide +kernel
theorem dX9_address_57 : decode cX9_address 57 = .ok (.aload_n 0, 1) := by decide +kernel
theorem dX9_address_58 : decode cX9_address 58 = .ok (.getfield 117, 3) := by decide +kernel
theorem dX9_address_61 : decode cX9_address 61 = .ok (.aload_n 0, 1) := by decide +kernel
theorem dX9_address_62 : decode cX9_address 62 = .ok (.getfield 14, 3) := by decide +kernel
theorem dX9_address_65 : decode cX9_address 65 = .ok (.iconst 1, 1) := by decide +kernel
theorem dX9_address_66 : decode cX9_address 66 = .ok (.iaload, 1) := by decide +kernel
theorem dX9_address_67 : decode cX9_address 67 = .ok (.iadd, 1) := by decide +kernel
theorem dX9_address_68 : decode cX9_address 68 = .ok (.sipush 255, 3) := by decide +kernel
theorem dX9_address_71 : decode cX9_address 71 = .ok (.iand, 1) := by decide +kernel
theorem dX9_address_72 : decode cX9_address 72 = .ok (.ireturn, 1) := by decide +kernel
theorem dX9_address_73 : decode cX9_address 73 = .ok (.aload_n 0, 1) := by decide +kernel
theorem dX9_address_74 : decode cX9_address 74 = .ok (.getfield 117, 3) := by decide +kernel
theorem dX9_address_77 : decode cX9_address 77 = .ok (.aload_n 0, 1) := by decide +kernel
theorem dX9_address_78 : decode cX9_address 78 = .ok (.getfield 14, 3) := by decide +kernel
theorem dX9_address_81 : decode cX9_address 81 = .ok (.iconst 2, 1) := by decide +kernel
theorem dX9_address_82 : decode cX9_address 82 = .ok (.iaload, 1) := by decide +kernel
theorem dX9_address_83 : decode cX9_address 83 = .ok (.iadd, 1) := by decide +kernel
theorem dX9_address_84 : decode cX9_address 84 = .ok (.sipush 255, 3) := by decide +kernel
theorem dX9_address_87 : decode cX9_address 87 = .ok (.iand, 1) := by decide +kernel
theorem dX9_address_88 : decode cX9_address 88 = .ok (.ireturn, 1) := by decide +kernel
theorem dX9_address_89 : decode cX9_address 89 = .ok (.aload_n 0, 1) := by decide +kernel
theorem dX9_address_90 : decode cX9_address 90 = .ok (.getfield 120, 3) := by decide +kernel
theorem dX9_address_93 : decode cX9_address 93 = .ok (.ireturn, 1) := by decide +kernel
theorem dX9_address_94 : decode cX9_address 94 = .ok (.aload_n 0, 1) := by decide +kernel
theorem dX9_address_95 : decode cX9_address 95 = .ok (.aload_n 0, 1) := by decide +kernel
theorem dX9_address_96 : decode cX9_address 96 = .ok (.getfield 120, 3) := by decide +kernel
theorem dX9_address_99 : decode cX9_address 99 = .ok (.aload_n 0, 1) := by decide +kernel
theorem dX9_address_100 : decode cX9_address 100 = .ok (.getfield 14, 3) := by decide +kernel
theorem dX9_address_103 : decode cX9_address 103 = .ok (.iconst 1, 1) := by decide +kernel
theorem dX9_address_104 : decode cX9_address 104 = .ok (.iaload, 1) := by decide +kernel
theorem dX9_address_105 : decode cX9_address 105 = .ok (.invokevirtual 123, 3) := by decide +kernel
theorem dX9_address_108 : decode cX9_address 108 = .ok (.ireturn, 1) := by decide +kernel
theorem dX9_address_109 : decode cX9_address 109 = .ok (.aload_n 0, 1) := by decide +kernel
theorem dX9_address_110 : decode cX9_address 110 = .ok (.aload_n 0, 1) := by decide +kernel
theorem dX9_address_111 : decode cX9_address 111 = .ok (.getfield 120, 3) := by decide +kernel
theorem dX9_address_114 : decode cX9_address 114 = .ok (.aload_n 0, 1) := by decide +kernel
theorem dX9_address_115 : decode cX9_address 115 = .ok (.getfield 14, 3) := by decide +kernel
theorem dX9_address_118 : decode cX9_address 118 = .ok (.iconst 2, 1) := by decide +kernel
theorem dX9_address_119 : decode cX9_address 119 = .ok (.iaload, 1) := by decide +kernel
theorem dX9_address_120 : decode cX9_address 120 = .ok (.invokevirtual 123, 3) := by decide +kernel
theorem dX9_address_123 : decode cX9_address 123 = .ok (.ireturn, 1) := by decide +kernel
theorem dX9_address_124 : decode cX9_address 124 = .ok (.aload_n 0, 1) := by decide +kernel
theorem dX9_address_125 : decode cX9_address 125 = .ok (.aload_n 0, 1) := by decide +kernel
theorem dX9_address_126 : decode cX9_address 126 = .ok (.getfield 117, 3) := by decide +kernel
theorem dX9_address_129 : decode cX9_address 129 = .ok (.aload_n 0, 1) := by decide +kernel
theorem dX9_address_130 : decode cX9_address 130 = .ok (.getfield 14, 3) := by decide +kernel
theorem dX9_address_133 : decode cX9_address 133 = .ok (.iconst 1, 1) := by decide +kernel
theorem dX9_address_134 : decode cX9_address 134 = .ok (.iaload, 1) := by decide +kernel
theorem dX9_address_135 : decode cX9_address 135 = .ok (.iadd, 1) := by decide +kernel
theorem dX9_address_136 : decode cX9_address 136 = .ok (.invokevirtual 127, 3) := by decide +kernel
theorem dX9_address_139 : decode cX9_address 139 = .ok (.ireturn, 1) := by decide +kernel
theorem dX9_address_140 : decode cX9_address 140 = .ok (.aload_n 0, 1) := by decide +kernel
theorem dX9_address_141 : decode cX9_address 141 = .ok (.aload_n 0, 1) := by decide +kernel
theorem dX9_address_142 : decode cX9_address 142 = .ok (.aload_n 0, 1) := by decide +kernel
theorem dX9_address_143 : decode cX9_address 143 = .ok (.getfield 117, 3) := by decide +kernel
theorem dX9_address_146 : decode cX9_address 146 = .ok (.invokevirtual 127, 3) := by decide +kernel
theorem dX9_address_149 : decode cX9_address 149 = .ok (.aload_n 0, 1) := by decide +kernel
theorem dX9_address_150 : decode cX9_address 150 = .ok (.getfield 14, 3) := by decide +kernel
theorem dX9_address_153 : decode cX9_address 153 = .ok (.iconst 2, 1) := by decide +kernel
theorem dX9_address_154 : decode cX9_address 154 = .ok (.iaload, 1) := by decide +kernel
theorem dX9_address_155 : decode cX9_address 155 = .ok (.invokevirtual 123, 3) := by decide +kernel
theorem dX9_address_158 : decode cX9_address 158 = .ok (.ireturn, 1) := by decide +kernel
theorem dX9_address_159 : decode cX9_address 159 = .ok (.aload_n 0, 1) := by decide +kernel
theorem dX9_address_160 : decode cX9_address 160 = .ok (.aload_n 0, 1) := by decide +kernel
theorem dX9_address_161 : decode cX9_address 161 = .ok (.getfield 117, 3) := by decide +kernel
theorem dX9_address_164 : decode cX9_address 164 = .ok (.invokevirtual 127, 3) := by decide +kernel
theorem dX9_address_167 : decode cX9_address 167 = .ok (.ireturn, 1) := by decide +kernel
theorem dX9_time_0 : decode cX9_time 0 = .ok (.iload_n 0, 1) := by decide +kernel
theorem dX9_time_1 : decode cX9_time 1 = .ok (.ifCond .ne 7, 3) := by decide +kernel
theorem dX9_time_4 : decode cX9_time 4 = .ok (.iconst 2, 1) := by decide +kernel
theorem dX9_time_5 : decode cX9_time 5 = .ok (.goto 40, 3) := by decide +kernel
theorem dX9_time_8 : decode cX9_time 8 = .ok (.iload_n 0, 1) := by decide +kernel
theorem dX9_time_9 : decode cX9_time 9 = .ok (.iconst 1, 1) := by decide +kernel
theorem dX9_time_10 : decode cX9_time 10 = .ok (.if_icmp .ne 7, 3) := by decide +kernel
theorem dX9_time_13 : decode cX9_time 13 = .ok (.iconst 3, 1) := by decide +kernel
theorem dX9_time_14 : decode cX9_time 14 = .ok (.goto 31, 3) := by decide +kernel
theorem dX9_time_17 : decode cX9_time 17 = .ok (.iload_n 0, 1) := by decide +kernel
theorem dX9_time_18 : decode cX9_time 18 = .ok (.bipush 7, 2) := by decide +kernel
theorem dX9_time_20 : decode cX9_time 20 = .ok (.if_icmp .ne 8, 3) := by decide +kernel
theorem dX9_time_23 : decode cX9_time 23 = .ok (.bipush 6, 2) := by decide +kernel
theorem dX9_time_25 : decode cX9_time 25 = .ok (.goto 20, 3) := by decide +kernel
theorem dX9_time_28 : decode cX9_time 28 = .ok (.iload_n 0, 1) := by decide +kernel
theorem dX9_time_29 : decode cX9_time 29 = .ok (.bipush 8, 2) := by decide +kernel
theorem dX9_time_31 : decode cX9_time 31 = .ok (.if_icmp .eq 9, 3) := by decide +kernel
theorem dX9_time_34 : decode cX9_time 34 = .ok (.iload_n 0, 1) := by decide +kernel
theorem dX9_time_35 : decode cX9_time 35 = .ok (.bipush 9, 2) := by decide +kernel
theorem dX9_time_37 : decode cX9_time 37 = .ok (.if_icmp .ne 7, 3) := by decide +kernel
theorem dX9_time_40 : decode cX9_time 40 = .ok (.iconst 5, 1) := by decide +kernel
theorem dX9_time_41 : decode cX9_time 41 = .ok (.goto 4, 3) := by decide +kernel
theorem dX9_time_44 : decode cX9_time 44 = .ok (.iconst 4, 1) := by decide +kernel
theorem dX9_time_45 : decode cX9_time 45 = .ok (.ireturn, 1) := by decide +kernel
theorem dX9_wide_0 : decode cX9_wide 0 = .ok (.iload_n 0, 1) := by decide +kernel
theorem dX9_wide_1 : decode cX9_wide 1 = .ok (.iconst 4, 1) := by decide +kernel
theorem dX9_wide_2 : decode cX9_wide 2 = .ok (.ishr, 1) := by decide +kernel
theorem dX9_wide_3 : decode cX9_wide 3 = .ok (.iconst 1, 1) := by decide +kernel
theorem dX9_wide_4 : decode cX9_wide 4 = .ok (.iand, 1) := by decide +kernel
theorem dX9_wide_5 : decode cX9_wide 5 = .ok (.iconst 1, 1) := by decide +kernel
theorem dX9_wide_6 : decode cX9_wide 6 = .ok (.if_icmp .ne 7, 3) := by decide +kernel
theorem dX9_wide_9 : decode cX9_wide 9 = .ok (.iconst 1, 1) := by decide +kernel
theorem dX9_wide_10 : decode cX9_wide 10 = .ok (.goto 4, 3) := by decide +kernel
theorem dX9_wide_13 : decode cX9_wide 13 = .ok (.iconst 0, 1) := by decide +kernel
theorem dX9_wide_14 : decode cX9_wide 14 = .ok (.istore_n 1, 1) := by decide +kernel
theorem dX9_wide_15 : decode cX9_wide 15 = .ok (.iload_n 0, 1) := by decide +kernel
theorem dX9_wide_16 : decode cX9_wide 16 = .ok (.bipush 15, 2) := by decide +kernel
theorem dX9_wide_18 : decode cX9_wide 18 = .ok (.iand, 1) := by decide +kernel
theorem dX9_wide_19 : decode cX9_wide 19 = .ok (.tableswitch 85 1 9 #[49, 61, 85, 85, 64, 85, 85, 85, 74], 49) := by decide +kernel
theorem dX9_wide_68 : decode cX9_wide 68 = .ok (.iload_n 1, 1) := by decide +kernel
theorem dX9_wide_69 : decode cX9_wide 69 = .ok (.ifCond .eq 8, 3) := by decide +kernel
theorem dX9_wide_72 : decode cX9_wide 72 = .ok (.bipush 8, 2) := by decide +kernel
theorem dX9_wide_74 : decode cX9_wide 74 = .ok (.goto 5, 3) := by decide +kernel
theorem dX9_wide_77 : decode cX9_wide 77 = .ok (.bipush 7, 2) := by decide +kernel
theorem dX9_wide_79 : decode cX9_wide 79 = .ok (.ireturn, 1) := by decide +kernel
theorem dX9_wide_80 : decode cX9_wide 80 = .ok (.bipush 9, 2) := by decide +kernel
theorem dX9_wide_82 : decode cX9_wide 82 = .ok (.ireturn, 1) := by decide +kernel
theorem dX9_wide_83 : decode cX9_wide 83 = .ok (.iload_n 1, 1) := by decide +kernel
theorem dX9_wide_84 : decode cX9_wide 84 = .ok (.ifCond .eq 7, 3) := by decide +kernel
theorem dX9_wide_87 : decode cX9_wide 87 = .ok (.iconst 2, 1) := by decide +kernel
theorem dX9_wide_88 : decode cX9_wide 88 = .ok (.goto 4, 3) := by decide +kernel
theorem dX9_wide_91 : decode cX9_wide 91 = .ok (.iconst 1, 1) := by decide +kernel
theorem dX9_wide_92 : decode cX9_wide 92 = .ok (.ireturn, 1) := by decide +kernel
theorem dX9_wide_93 : decode cX9_wide 93 = .ok (.iload_n 1, 1) := by decide +kernel
theorem dX9_wide_94 : decode cX9_wide 94 = .ok (.ifCond .eq 8, 3) := by decide +kernel
theorem dX9_wide_97 : decode cX9_wide 97 = .ok (.bipush 6, 2) := by decide +kernel
theorem dX9_wide_99 : decode cX9_wide 99 = .ok (.goto 4, 3) := by decide +kernel
theorem dX9_wide_102 : decode cX9_wide 102 = .ok (.iconst 0, 1) := by decide +kernel
theorem dX9_wide_103 : decode cX9_wide 103 = .ok (.ireturn, 1) := by decide +kernel
theorem dX9_wide_104 : decode cX9_wide 104 = .ok (.iload_n 1, 1) := by decide +kernel
theorem dX9_wide_105 : decode cX9_wide 105 = .ok (.ifCond .eq 7, 3) := by decide +kernel
theorem dX9_wide_108 : decode cX9_wide 108 = .ok (.iconst 5, 1) := by decide +kernel
theorem dX9_wide_109 : decode cX9_wide 109 = .ok (.goto 4, 3) := by decide +kernel
theorem dX9_wide_112 : decode cX9_wide 112 = .ok (.iconst 4, 1) := by decide +kernel
theorem dX9_wide_113 : decode cX9_wide 113 = .ok (.ireturn, 1) := by decide +kernel
theorem dX9_narrow_0 : decode cX9_narrow 0 = .ok (.iload_n 0, 1) := by decide +kernel
theorem dX9_narrow_1 : decode cX9_narrow 1 = .ok (.iconst 4, 1) := by decide +kernel
theorem dX9_narrow_2 : decode cX9_narrow 2 = .ok (.ishr, 1) := by decide +kernel
theorem dX9_narrow_3 : decode cX9_narrow 3 = .ok (.iconst 1, 1) := by decide +kernel
theorem dX9_narrow_4 : decode cX9_narrow 4 = .ok (.iand, 1) := by decide +kernel
theorem dX9_narrow_5 : decode cX9_narrow 5 = .ok (.iconst 1, 1) := by decide +kernel
theorem dX9_narrow_6 : decode cX9_narrow 6 = .ok (.if_icmp .ne 7, 3) := by decide +kernel
theorem dX9_narrow_9 : decode cX9_narrow 9 = .ok (.iconst 1, 1) := by decide +kernel
theorem dX9_narrow_10 : decode cX9_narrow 10 = .ok (.goto 4, 3) := by decide +kernel
theorem dX9_narrow_13 : decode cX9_narrow 13 = .ok (.iconst 0, 1) := by decide +kernel
theorem dX9_narrow_14 : decode cX9_narrow 14 = .ok (.istore_n 1, 1) := by decide +kernel
theorem dX9_narrow_15 : decode cX9_narrow 15 = .ok (.iload_n 0, 1) := by decide +kernel
theorem dX9_narrow_16 : decode cX9_narrow 16 = .ok (.bipush 15, 2) := by decide +kernel
theorem dX9_narrow_18 : decode cX9_narrow 18 = .ok (.iand, 1) := by decide +kernel
theorem dX9_narrow_19 : decode cX9_narrow 19 = .ok (.istore_n 2, 1) := by decide +kernel
theorem dX9_narrow_20 : decode cX9_narrow 20 = .ok (.iload_n 2, 1) := by decide +kernel
theorem dX9_narrow_21 : decode cX9_narrow 21 = .ok (.iconst 3, 1) := by decide +kernel
theorem dX9_narrow_22 : decode cX9_narrow 22 = .ok (.if_icmp .ge 7, 3) := by decide +kernel
theorem dX9_narrow_25 : decode cX9_narrow 25 = .ok (.iconst 0, 1) := by decide +kernel
theorem dX9_narrow_26 : decode cX9_narrow 26 = .ok (.goto 41, 3) := by decide +kernel
theorem dX9_narrow_29 : decode cX9_narrow 29 = .ok (.iload_n 2, 1) := by decide +kernel
theorem dX9_narrow_30 : decode cX9_narrow 30 = .ok (.bipush 8, 2) := by decide +kernel
theorem dX9_narrow_32 : decode cX9_narrow 32 = .ok (.if_icmp .ge 15, 3) := by decide +kernel
theorem dX9_narrow_35 : decode cX9_narrow 35 = .ok (.iload_n 1, 1) := by decide +kernel
theorem dX9_narrow_36 : decode cX9_narrow 36 = .ok (.ifCond .eq 7, 3) := by decide +kernel
theorem dX9_narrow_39 : decode cX9_narrow 39 = .ok (.iconst 2, 1) := by decide +kernel
theorem dX9_narrow_40 : decode cX9_narrow 40 = .ok (.goto 27, 3) := by decide +kernel
theorem dX9_narrow_43 : decode cX9_narrow 43 = .ok (.iconst 1, 1) := by decide +kernel
theorem dX9_narrow_44 : decode cX9_narrow 44 = .ok (.goto 23, 3) := by decide +kernel
theorem dX9_narrow_47 : decode cX9_narrow 47 = .ok (.iload_n 2, 1) := by decide +kernel
theorem dX9_narrow_48 : decode cX9_narrow 48 = .ok (.bipush 10, 2) := by decide +kernel
theorem dX9_narrow_50 : decode cX9_narrow 50 = .ok (.if_icmp .ne 8, 3) := by decide +kernel
theorem dX9_narrow_53 : decode cX9_narrow 53 = .ok (.bipush 10, 2) := by decide +kernel
theorem dX9_narrow_55 : decode cX9_narrow 55 = .ok (.goto 12, 3) := by decide +kernel
theorem dX9_narrow_58 : decode cX9_narrow 58 = .ok (.iload_n 1, 1) := by decide +kernel
theorem dX9_narrow_59 : decode cX9_narrow 59 = .ok (.ifCond .eq 7, 3) := by decide +kernel
theorem dX9_narrow_62 : decode cX9_narrow 62 = .ok (.iconst 5, 1) := by decide +kernel
theorem dX9_narrow_63 : decode cX9_narrow 63 = .ok (.goto 4, 3) := by decide +kernel
theorem dX9_narrow_66 : decode cX9_narrow 66 = .ok (.iconst 4, 1) := by decide +kernel
theorem dX9_narrow_67 : decode cX9_narrow 67 = .ok (.ireturn, 1) := by decide +kernel
theorem dX9_taken_0 : decode cX9_taken 0 = .ok (.iload_n 1, 1) := by decide +kernel
theorem dX9_taken_1 : decode cX9_taken 1 = .ok (.ifCond .ne 10, 3) := by decide +kernel
theorem dX9_taken_4 : decode cX9_taken 4 = .ok (.aload_n 0, 1) := by decide +kernel
theorem dX9_taken_5 : decode cX9_taken 5 = .ok (.getfield 117, 3) := by decide +kernel
theorem dX9_taken_8 : decode cX9_taken 8 = .ok (.goto 12, 3) := by decide +kernel
theorem dX9_taken_11 : decode cX9_taken 11 = .ok (.aload_n 0, 1) := by decide +kernel
theorem dX9_taken_12 : decode cX9_taken 12 = .ok (.aload_n 0, 1) := by decide +kernel
theorem dX9_taken_13 : decode cX9_taken 13 = .ok (.iload_n 1, 1) := by decide +kernel
theorem dX9_taken_14 : decode cX9_taken 14 = .ok (.invokevirtual 130, 3) := by decide +kernel
theorem dX9_taken_17 : decode cX9_taken 17 = .ok (.invokevirtual 100, 3) := by decide +kernel
theorem dX9_taken_20 : decode cX9_taken 20 = .ok (.ireturn, 1) := by decide +kernel
theorem dX9_alu_0 : decode cX9_alu 0 = .ok (.iload_n 1, 1) := by decide +kernel
theorem dX9_alu_1 : decode cX9_alu 1 = .ok (.iconst 5, 1) := by decide +kernel
theorem dX9_alu_2 : decode cX9_alu 2 = .ok (.ishr, 1) := by decide +kernel
theorem dX9_alu_3 : decode cX9_alu 3 = .ok (.istore_n 2, 1) := by decide +kernel
theorem dX9_alu_4 : decode cX9_alu 4 = .ok (.iload_n 1, 1) := by decide +kernel
theorem dX9_alu_5 : decode cX9_alu 5 = .ok (.invokestatic 133, 3) := by decide +kernel
theorem dX9_alu_8 : decode cX9_alu 8 = .ok (.istore_n 3, 1) := by decide +kernel
theorem dX9_alu_9 : decode cX9_alu 9 = .ok (.iload_n 2, 1) := by decide +kernel
theorem dX9_alu_10 : decode cX9_alu 10 = .ok (.iconst 4, 1) := by decide +kernel
theorem dX9_alu_11 : decode cX9_alu 11 = .ok (.if_icmp .ne 49, 3) := by decide +kernel
theorem dX9_alu_14 : decode cX9_alu 14 = .ok (.aload_n 0, 1) := by decide +kernel
theorem dX9_alu_15 : decode cX9_alu 15 = .ok (.aload_n 0, 1) := by decide +kernel
theorem dX9_alu_16 : decode cX9_alu 16 = .ok (.iload_n 3, 1) := by decide +kernel
theorem dX9_alu_17 : decode cX9_alu 17 = .ok (.invokevirtual 130, 3) := by decide +kernel
theorem dX9_alu_20 : decode cX9_alu 20 = .ok (.aload_n 0, 1) := by decide +kernel
theorem dX9_alu_21 : decode cX9_alu 21 = .ok (.getfield 14, 3) := by decide +kernel
theorem dX9_alu_24 : decode cX9_alu 24 = .ok (.iconst 0, 1) := by decide +kernel
theorem dX9_alu_25 : decode cX9_alu 25 = .ok (.iaload, 1) := by decide +kernel
theorem dX9_alu_26 : decode cX9_alu 26 = .ok (.invokevirtual 103, 3) := by decide +kernel
theorem dX9_alu_29 : decode cX9_alu 29 = .ok (.iload_n 3, 1) := by decide +kernel
theorem dX9_alu_30 : decode cX9_alu 30 = .ok (.iconst 5, 1) := by decide +kernel
theorem dX9_alu_31 : decode cX9_alu 31 = .ok (.if_icmp .eq 9, 3) := by decide +kernel
theorem dX9_alu_34 : decode cX9_alu 34 = .ok (.iload_n 3, 1) := by decide +kernel
theorem dX9_alu_35 : decode cX9_alu 35 = .ok (.bipush 6, 2) := by decide +kernel
theorem dX9_alu_37 : decode cX9_alu 37 = .ok (.if_icmp .ne 7, 3) := by decide +kernel
theorem dX9_alu_40 : decode cX9_alu 40 = .ok (.iconst 5, 1) := by decide +kernel
theorem dX9_alu_41 : decode cX9_alu 41 = .ok (.goto 18, 3) := by decide +kernel
theorem dX9_alu_44 : decode cX9_alu 44 = .ok (.iload_n 3, 1) := by decide +kernel
theorem dX9_alu_45 : decode cX9_alu 45 = .ok (.bipush 8, 2) := by decide +kernel
theorem dX9_alu_47 : decode cX9_alu 47 = .ok (.if_icmp .ne 8, 3) := by decide +kernel
theorem dX9_alu_50 : decode cX9_alu 50 = .ok (.bipush 6, 2) := by decide +kernel
theorem dX9_alu_52 : decode cX9_alu 52 = .ok (.goto 7, 3) := by decide +kernel
theorem dX9_alu_55 : decode cX9_alu 55 = .ok (.iload_n 3, 1) := by decide +kernel
theorem dX9_alu_56 : decode cX9_alu 56 = .ok (.invokestatic 136, 3) := by decide +kernel
theorem dX9_alu_59 : decode cX9_alu 59 = .ok (.ireturn, 1) := by decide +kernel
theorem dX9_alu_60 : decode cX9_alu 60 = .ok (.aload_n 0, 1) := by decide +kernel
theorem dX9_alu_61 : decode cX9_alu 61 = .ok (.iconst 0, 1) := by decide +kernel
theorem dX9_alu_62 : decode cX9_alu 62 = .ok (.putfield 114, 3) := by decide +kernel
theorem dX9_alu_65 : decode cX9_alu 65 = .ok (.aload_n 0, 1) := by decide +kernel
theorem dX9_alu_66 : decode cX9_alu 66 = .ok (.iload_n 3, 1) := by decide +kernel
theorem dX9_alu_67 : decode cX9_alu 67 = .ok (.invokevirtual 139, 3) := by decide +kernel
theorem dX9_alu_70 : decode cX9_alu 70 = .ok (.istore 4, 2) := by decide +kernel
theorem dX9_alu_72 : decode cX9_alu 72 = .ok (.iload_n 3, 1) := by decide +kernel
theorem dX9_alu_73 : decode cX9_alu 73 = .ok (.invokestatic 136, 3) := by decide +kernel
theorem dX9_alu_76 : decode cX9_alu 76 = .ok (.aload_n 0, 1) := by decide +kernel
theorem dX9_alu_77 : decode cX9_alu 77 = .ok (.getfield 114, 3) := by decide +kernel
theorem dX9_alu_80 : decode cX9_alu 80 = .ok (.ifCond .eq 7, 3) := by decide +kernel
theorem dX9_alu_83 : decode cX9_alu 83 = .ok (.iconst 1, 1) := by decide +kernel
theorem dX9_alu_84 : decode cX9_alu 84 = .ok (.goto 4, 3) := by decide +kernel
theorem dX9_alu_87 : decode cX9_alu 87 = .ok (.iconst 0, 1) := by decide +kernel
theorem dX9_alu_88 : decode cX9_alu 88 = .ok (.iadd, 1) := by decide +kernel
theorem dX9_alu_89 : decode cX9_alu 89 = .ok (.istore 5, 2) := by decide +kernel
theorem dX9_alu_91 : decode cX9_alu 91 = .ok (.iload_n 2, 1) := by decide +kernel
theorem dX9_alu_92 : decode cX9_alu 92 = .ok (.tableswitch 154 0 6 #[44, 66, 88, 110, 154, 124, 139], 44) := by decide +kernel
theorem dX9_alu_136 : decode cX9_alu 136 = .ok (.aload_n 0, 1) := by decide +kernel
theorem dX9_alu_137 : decode cX9_alu 137 = .ok (.getfield 14, 3) := by decide +kernel
theorem dX9_alu_140 : decode cX9_alu 140 = .ok (.iconst 0, 1) := by decide +kernel
theorem dX9_alu_141 : decode cX9_alu 141 = .ok (.aload_n 0, 1) := by decide +kernel
theorem dX9_alu_142 : decode cX9_alu 142 = .ok (.aload_n 0, 1) := by decide +kernel
theorem dX9_alu_143 : decode cX9_alu 143 = .ok (.getfield 14, 3) := by decide +kernel
theorem dX9_alu_146 : decode cX9_alu 146 = .ok (.iconst 0, 1) := by decide +kernel
theorem dX9_alu_147 : decode cX9_alu 147 = .ok (.iaload, 1) := by decide +kernel
theorem dX9_alu_148 : decode cX9_alu 148 = .ok (.iload 4, 2) := by decide +kernel
theorem dX9_alu_150 : decode cX9_alu 150 = .ok (.ior, 1) := by decide +kernel
theorem dX9_alu_151 : decode cX9_alu 151 = .ok (.invokevirtual 142, 3) := by decide +kernel
theorem dX9_alu_154 : decode cX9_alu 154 = .ok (.iastore, 1) := by decide +kernel
theorem dX9_alu_155 : decode cX9_alu 155 = .ok (.goto 102, 3) := by decide +kernel
theorem dX9_alu_158 : decode cX9_alu 158 = .ok (.aload_n 0, 1) := by decide +kernel
theorem dX9_alu_159 : decode cX9_alu 159 = .ok (.getfield 14, 3) := by decide +kernel
theorem dX9_alu_162 : decode cX9_alu 162 = .ok (.iconst 0, 1) := by decide +kernel
theorem dX9_alu_163 : decode cX9_alu 163 = .ok (.aload_n 0, 1) := by decide +kernel
theorem dX9_alu_164 : decode cX9_alu 164 = .ok (.aload_n 0, 1) := by decide +kernel
theorem dX9_alu_165 : decode cX9_alu 165 = .ok (.getfield 14, 3) := by decide +kernel
theorem dX9_alu_168 : decode cX9_alu 168 = .ok (.iconst 0, 1) := by decide +kernel
theorem dX9_alu_169 : decode cX9_alu 169 = .ok (.iaload, 1) := by decide +kernel
theorem dX9_alu_170 : decode cX9_alu 170 = .ok (.iload 4, 2) := by decide +kernel
theorem dX9_alu_172 : decode cX9_alu 172 = .ok (.iand, 1) := by decide +kernel
theorem dX9_alu_173 : decode cX9_alu 173 = .ok (.invokevirtual 142, 3) := by decide +kernel
theorem dX9_alu_176 : decode cX9_alu 176 = .ok (.iastore, 1) := by decide +kernel
theorem dX9_alu_177 : decode cX9_alu 177 = .ok (.goto 80, 3) := by decide +kernel
theorem dX9_alu_180 : decode cX9_alu 180 = .ok (.aload_n 0, 1) := by decide +kernel
theorem dX9_alu_181 : decode cX9_alu 181 = .ok (.getfield 14, 3) := by decide +kernel
theorem dX9_alu_184 : decode cX9_alu 184 = .ok (.iconst 0, 1) := by decide +kernel
theorem dX9_alu_185 : decode cX9_alu 185 = .ok (.aload_n 0, 1) := by decide +kernel
theorem dX9_alu_186 : decode cX9_alu 186 = .ok (.aload_n 0, 1) := by decide +kernel
theorem dX9_alu_187 : decode cX9_alu 187 = .ok (.getfield 14, 3) := by decide +kernel
theorem dX9_alu_190 : decode cX9_alu 190 = .ok (.iconst 0, 1) := by decide +kernel
theorem dX9_alu_191 : decode cX9_alu 191 = .ok (.iaload, 1) := by decide +kernel
theorem dX9_alu_192 : decode cX9_alu 192 = .ok (.iload 4, 2) := by decide +kernel
theorem dX9_alu_194 : decode cX9_alu 194 = .ok (.ixor, 1) := by decide +kernel
theorem dX9_alu_195 : decode cX9_alu 195 = .ok (.invokevirtual 142, 3) := by decide +kernel
theorem dX9_alu_198 : decode cX9_alu 198 = .ok (.iastore, 1) := by decide +kernel
theorem dX9_alu_199 : decode cX9_alu 199 = .ok (.goto 58, 3) := by decide +kernel
theorem dX9_alu_202 : decode cX9_alu 202 = .ok (.iload 5, 2) := by decide +kernel
theorem dX9_alu_204 : decode cX9_alu 204 = .ok (.aload_n 0, 1) := by decide +kernel
theorem dX9_alu_205 : decode cX9_alu 205 = .ok (.iload 4, 2) := by decide +kernel
theorem dX9_alu_207 : decode cX9_alu 207 = .ok (.invokevirtual 145, 3) := by decide +kernel
theorem dX9_alu_210 : decode cX9_alu 210 = .ok (.iadd, 1) := by decide +kernel
theorem dX9_alu_211 : decode cX9_alu 211 = .ok (.istore 5, 2) := by decide +kernel
theorem dX9_alu_213 : decode cX9_alu 213 = .ok (.goto 44, 3) := by decide +kernel
theorem dX9_alu_216 : decode cX9_alu 216 = .ok (.aload_n 0, 1) := by decide +kernel
theorem dX9_alu_217 : decode cX9_alu 217 = .ok (.getfield 14, 3) := by decide +kernel
theorem dX9_alu_220 : decode cX9_alu 220 = .ok (.iconst 0, 1) := by decide +kernel
theorem dX9_alu_221 : decode cX9_alu 221 = .ok (.aload_n 0, 1) := by decide +kernel
theorem dX9_alu_222 : decode cX9_alu 222 = .ok (.iload 4, 2) := by decide +kernel
theorem dX9_alu_224 : decode cX9_alu 224 = .ok (.invokevirtual 142, 3) := by decide +kernel
theorem dX9_alu_227 : decode cX9_alu 227 = .ok (.iastore, 1) := by decide +kernel
theorem dX9_alu_228 : decode cX9_alu 228 = .ok (.goto 29, 3) := by decide +kernel
theorem dX9_alu_231 : decode cX9_alu 231 = .ok (.aload_n 0, 1) := by decide +kernel
theorem dX9_alu_232 : decode cX9_alu 232 = .ok (.aload_n 0, 1) := by decide +kernel
theorem dX9_alu_233 : decode cX9_alu 233 = .ok (.getfield 14, 3) := by decide +kernel
theorem dX9_alu_236 : decode cX9_alu 236 = .ok (.iconst 0, 1) := by decide +kernel
theorem dX9_alu_237 : decode cX9_alu 237 = .ok (.iaload, 1) := by decide +kernel
theorem dX9_alu_238 : decode cX9_alu 238 = .ok (.iload 4, 2) := by decide +kernel
theorem dX9_alu_240 : decode cX9_alu 240 = .ok (.invokevirtual 148, 3) := by decide +kernel
theorem dX9_alu_243 : decode cX9_alu 243 = .ok (.goto 14, 3) := by decide +kernel
theorem dX9_alu_246 : decode cX9_alu 246 = .ok (.iload 5, 2) := by decide +kernel
theorem dX9_alu_248 : decode cX9_alu 248 = .ok (.aload_n 0, 1) := by decide +kernel
theorem dX9_alu_249 : decode cX9_alu 249 = .ok (.iload 4, 2) := by decide +kernel
theorem dX9_alu_251 : decode cX9_alu 251 = .ok (.invokevirtual 151, 3) := by decide +kernel
theorem dX9_alu_254 : decode cX9_alu 254 = .ok (.iadd, 1) := by decide +kernel
theorem dX9_alu_255 : decode cX9_alu 255 = .ok (.istore 5, 2) := by decide +kernel
theorem dX9_alu_257 : decode cX9_alu 257 = .ok (.iload 5, 2) := by decide +kernel
theorem dX9_alu_259 : decode cX9_alu 259 = .ok (.ireturn, 1) := by decide +kernel
theorem dX9_compare_0 : decode cX9_compare 0 = .ok (.aload_n 0, 1) := by decide +kernel
theorem dX9_compare_1 : decode cX9_compare 1 = .ok (.iconst 1, 1) := by decide +kernel
theorem dX9_compare_2 : decode cX9_compare 2 = .ok (.iload_n 1, 1) := by decide +kernel
theorem dX9_compare_3 : decode cX9_compare 3 = .ok (.iload_n 2, 1) := by decide +kernel
theorem dX9_compare_4 : decode cX9_compare 4 = .ok (.if_icmp .lt 7, 3) := by decide +kernel
theorem dX9_compare_7 : decode cX9_compare 7 = .ok (.iconst 1, 1) := by decide +kernel
theorem dX9_compare_8 : decode cX9_compare 8 = .ok (.goto 4, 3) := by decide +kernel
theorem dX9_compare_11 : decode cX9_compare 11 = .ok (.iconst 0, 1) := by decide +kernel
theorem dX9_compare_12 : decode cX9_compare 12 = .ok (.invokevirtual 110, 3) := by decide +kernel
theorem dX9_compare_15 : decode cX9_compare 15 = .ok (.aload_n 0, 1) := by decide +kernel
theorem dX9_compare_16 : decode cX9_compare 16 = .ok (.iload_n 1, 1) := by decide +kernel
theorem dX9_compare_17 : decode cX9_compare 17 = .ok (.iload_n 2, 1) := by decide +kernel
theorem dX9_compare_18 : decode cX9_compare 18 = .ok (.isub, 1) := by decide +kernel
theorem dX9_compare_19 : decode cX9_compare 19 = .ok (.sipush 255, 3) := by decide +kernel
theorem dX9_compare_22 : decode cX9_compare 22 = .ok (.iand, 1) := by decide +kernel
theorem dX9_compare_23 : decode cX9_compare 23 = .ok (.invokevirtual 142, 3) := by decide +kernel
theorem dX9_compare_26 : decode cX9_compare 26 = .ok (.pop, 1) := by decide +kernel
theorem dX9_compare_27 : decode cX9_compare 27 = .ok (.return_, 1) := by decide +kernel
theorem dX9_overflows_0 : decode cX9_overflows 0 = .ok (.aload_n 0, 1) := by decide +kernel
theorem dX9_overflows_1 : decode cX9_overflows 1 = .ok (.bipush 64, 2) := by decide +kernel
theorem dX9_overflows_3 : decode cX9_overflows 3 = .ok (.aload_n 0, 1) := by decide +kernel
theorem dX9_overflows_4 : decode cX9_overflows 4 = .ok (.getfield 14, 3) := by decide +kernel
theorem dX9_overflows_7 : decode cX9_overflows 7 = .ok (.iconst 0, 1) := by decide +kernel
theorem dX9_overflows_8 : decode cX9_overflows 8 = .ok (.iaload, 1) := by decide +kernel
theorem dX9_overflows_9 : decode cX9_overflows 9 = .ok (.iload_n 2, 1) := by decide +kernel
theorem dX9_overflows_10 : decode cX9_overflows 10 = .ok (.ixor, 1) := by decide +kernel
theorem dX9_overflows_11 : decode cX9_overflows 11 = .ok (.iload_n 1, 1) := by decide +kernel
theorem dX9_overflows_12 : decode cX9_overflows 12 = .ok (.iload_n 2, 1) := by decide +kernel
theorem dX9_overflows_13 : decode cX9_overflows 13 = .ok (.ixor, 1) := by decide +kernel
theorem dX9_overflows_14 : decode cX9_overflows 14 = .ok (.iand, 1) := by decide +kernel
theorem dX9_overflows_15 : decode cX9_overflows 15 = .ok (.sipush 128, 3) := by decide +kernel
theorem dX9_overflows_18 : decode cX9_overflows 18 = .ok (.iand, 1) := by decide +kernel
theorem dX9_overflows_19 : decode cX9_overflows 19 = .ok (.ifCond .eq 7, 3) := by decide +kernel
theorem dX9_overflows_22 : decode cX9_overflows 22 = .ok (.iconst 1, 1) := by decide +kernel
theorem dX9_overflows_23 : decode cX9_overflows 23 = .ok (.goto 4, 3) := by decide +kernel
theorem dX9_overflows_26 : decode cX9_overflows 26 = .ok (.iconst 0, 1) := by decide +kernel
theorem dX9_overflows_27 : decode cX9_overflows 27 = .ok (.invokevirtual 110, 3) := by decide +kernel
theorem dX9_overflows_30 : decode cX9_overflows 30 = .ok (.return_, 1) := by decide +kernel
theorem dX9_add_0 : decode cX9_add 0 = .ok (.aload_n 0, 1) := by decide +kernel
theorem dX9_add_1 : decode cX9_add 1 = .ok (.getfield 14, 3) := by decide +kernel
theorem dX9_add_4 : decode cX9_add 4 = .ok (.iconst 0, 1) := by decide +kernel
theorem dX9_add_5 : decode cX9_add 5 = .ok (.iaload, 1) := by decide +kernel
theorem dX9_add_6 : decode cX9_add 6 = .ok (.iload_n 1, 1) := by decide +kernel
theorem dX9_add_7 : decode cX9_add 7 = .ok (.iadd, 1) := by decide +kernel
theorem dX9_add_8 : decode cX9_add 8 = .ok (.aload_n 0, 1) := by decide +kernel
theorem dX9_add_9 : decode cX9_add 9 = .ok (.invokevirtual 154, 3) := by decide +kernel
theorem dX9_add_12 : decode cX9_add 12 = .ok (.iadd, 1) := by decide +kernel
theorem dX9_add_13 : decode cX9_add 13 = .ok (.istore_n 2, 1) := by decide +kernel
theorem dX9_add_14 : decode cX9_add 14 = .ok (.aload_n 0, 1) := by decide +kernel
theorem dX9_add_15 : decode cX9_add 15 = .ok (.bipush 8, 2) := by decide +kernel
theorem dX9_add_17 : decode cX9_add 17 = .ok (.invokevirtual 157, 3) := by decide +kernel
theorem dX9_add_20 : decode cX9_add 20 = .ok (.ifCond .eq 59, 3) := by decide +kernel
theorem dX9_add_23 : decode cX9_add 23 = .ok (.aload_n 0, 1) := by decide +kernel
theorem dX9_add_24 : decode cX9_add 24 = .ok (.getfield 14, 3) := by decide +kernel
theorem dX9_add_27 : decode cX9_add 27 = .ok (.iconst 0, 1) := by decide +kernel
theorem dX9_add_28 : decode cX9_add 28 = .ok (.iaload, 1) := by decide +kernel
theorem dX9_add_29 : decode cX9_add 29 = .ok (.bipush 15, 2) := by decide +kernel
theorem dX9_add_31 : decode cX9_add 31 = .ok (.iand, 1) := by decide +kernel
theorem dX9_add_32 : decode cX9_add 32 = .ok (.iload_n 1, 1) := by decide +kernel
theorem dX9_add_33 : decode cX9_add 33 = .ok (.bipush 15, 2) := by decide +kernel
theorem dX9_add_35 : decode cX9_add 35 = .ok (.iand, 1) := by decide +kernel
theorem dX9_add_36 : decode cX9_add 36 = .ok (.iadd, 1) := by decide +kernel
theorem dX9_add_37 : decode cX9_add 37 = .ok (.aload_n 0, 1) := by decide +kernel
theorem dX9_add_38 : decode cX9_add 38 = .ok (.invokevirtual 154, 3) := by decide +kernel
theorem dX9_add_41 : decode cX9_add 41 = .ok (.iadd, 1) := by decide +kernel
theorem dX9_add_42 : decode cX9_add 42 = .ok (.istore_n 3, 1) := by decide +kernel
theorem dX9_add_43 : decode cX9_add 43 = .ok (.iload_n 3, 1) := by decide +kernel
theorem dX9_add_44 : decode cX9_add 44 = .ok (.bipush 9, 2) := by decide +kernel
theorem dX9_add_46 : decode cX9_add 46 = .ok (.if_icmp .le 14, 3) := by decide +kernel
theorem dX9_add_49 : decode cX9_add 49 = .ok (.iload_n 3, 1) := by decide +kernel
theorem dX9_add_50 : decode cX9_add 50 = .ok (.bipush 6, 2) := by decide +kernel
theorem dX9_add_52 : decode cX9_add 52 = .ok (.iadd, 1) := by decide +kernel
theorem dX9_add_53 : decode cX9_add 53 = .ok (.bipush 15, 2) := by decide +kernel
theorem dX9_add_55 : decode cX9_add 55 = .ok (.iand, 1) := by decide +kernel
theorem dX9_add_56 : decode cX9_add 56 = .ok (.bipush 16, 2) := by decide +kernel
theorem dX9_add_58 : decode cX9_add 58 = .ok (.iadd, 1) := by decide +kernel
theorem dX9_add_59 : decode cX9_add 59 = .ok (.istore_n 3, 1) := by decide +kernel
theorem dX9_add_60 : decode cX9_add 60 = .ok (.aload_n 0, 1) := by decide +kernel
theorem dX9_add_61 : decode cX9_add 61 = .ok (.getfield 14, 3) := by decide +kernel
theorem dX9_add_64 : decode cX9_add 64 = .ok (.iconst 0, 1) := by decide +kernel
theorem dX9_add_65 : decode cX9_add 65 = .ok (.iaload, 1) := by decide +kernel
theorem dX9_add_66 : decode cX9_add 66 = .ok (.sipush 240, 3) := by decide +kernel
theorem dX9_add_69 : decode cX9_add 69 = .ok (.iand, 1) := by decide +kernel
theorem dX9_add_70 : decode cX9_add 70 = .ok (.iload_n 1, 1) := by decide +kernel
theorem dX9_add_71 : decode cX9_add 71 = .ok (.sipush 240, 3) := by decide +kernel
theorem dX9_add_74 : decode cX9_add 74 = .ok (.iand, 1) := by decide +kernel
theorem dX9_add_75 : decode cX9_add 75 = .ok (.iadd, 1) := by decide +kernel
theorem dX9_add_76 : decode cX9_add 76 = .ok (.iload_n 3, 1) := by decide +kernel
theorem dX9_add_77 : decode cX9_add 77 = .ok (.iadd, 1) := by decide +kernel
theorem dX9_add_78 : decode cX9_add 78 = .ok (.istore_n 2, 1) := by decide +kernel
theorem dX9_add_79 : decode cX9_add 79 = .ok (.aload_n 0, 1) := by decide +kernel
theorem dX9_add_80 : decode cX9_add 80 = .ok (.iload_n 1, 1) := by decide +kernel
theorem dX9_add_81 : decode cX9_add 81 = .ok (.iload_n 2, 1) := by decide +kernel
theorem dX9_add_82 : decode cX9_add 82 = .ok (.invokevirtual 161, 3) := by decide +kernel
theorem dX9_add_85 : decode cX9_add 85 = .ok (.aload_n 0, 1) := by decide +kernel
theorem dX9_add_86 : decode cX9_add 86 = .ok (.bipush 8, 2) := by decide +kernel
theorem dX9_add_88 : decode cX9_add 88 = .ok (.invokevirtual 157, 3) := by decide +kernel
theorem dX9_add_91 : decode cX9_add 91 = .ok (.ifCond .eq 13, 3) := by decide +kernel
theorem dX9_add_94 : decode cX9_add 94 = .ok (.iload_n 2, 1) := by decide +kernel
theorem dX9_add_95 : decode cX9_add 95 = .ok (.sipush 159, 3) := by decide +kernel
theorem dX9_add_98 : decode cX9_add 98 = .ok (.if_icmp .le 6, 3) := by decide +kernel
theorem dX9_add_101 : decode cX9_add 101 = .ok (.iinc 2 96, 3) := by decide +kernel
theorem dX9_add_104 : decode cX9_add 104 = .ok (.aload_n 0, 1) := by decide +kernel
theorem dX9_add_105 : decode cX9_add 105 = .ok (.iconst 1, 1) := by decide +kernel
theorem dX9_add_106 : decode cX9_add 106 = .ok (.iload_n 2, 1) := by decide +kernel
theorem dX9_add_107 : decode cX9_add 107 = .ok (.sipush 255, 3) := by decide +kernel
theorem dX9_add_110 : decode cX9_add 110 = .ok (.if_icmp .le 7, 3) := by decide +kernel
theorem dX9_add_113 : decode cX9_add 113 = .ok (.iconst 1, 1) := by decide +kernel
theorem dX9_add_114 : decode cX9_add 114 = .ok (.goto 4, 3) := by decide +kernel
theorem dX9_add_117 : decode cX9_add 117 = .ok (.iconst 0, 1) := by decide +kernel
theorem dX9_add_118 : decode cX9_add 118 = .ok (.invokevirtual 110, 3) := by decide +kernel
theorem dX9_add_121 : decode cX9_add 121 = .ok (.aload_n 0, 1) := by decide +kernel
theorem dX9_add_122 : decode cX9_add 122 = .ok (.getfield 14, 3) := by decide +kernel
theorem dX9_add_125 : decode cX9_add 125 = .ok (.iconst 0, 1) := by decide +kernel
theorem dX9_add_126 : decode cX9_add 126 = .ok (.aload_n 0, 1) := by decide +kernel
theorem dX9_add_127 : decode cX9_add 127 = .ok (.iload_n 2, 1) := by decide +kernel
theorem dX9_add_128 : decode cX9_add 128 = .ok (.sipush 255, 3) := by decide +kernel
theorem dX9_add_131 : decode cX9_add 131 = .ok (.iand, 1) := by decide +kernel
theorem dX9_add_132 : decode cX9_add 132 = .ok (.invokevirtual 142, 3) := by decide +kernel
theorem dX9_add_135 : decode cX9_add 135 = .ok (.iastore, 1) := by decide +kernel
theorem dX9_add_136 : decode cX9_add 136 = .ok (.aload_n 0, 1) := by decide +kernel
theorem dX9_add_137 : decode cX9_add 137 = .ok (.bipush 8, 2) := by decide +kernel
theorem dX9_add_139 : decode cX9_add 139 = .ok (.invokevirtual 157, 3) := by decide +kernel
theorem dX9_add_142 : decode cX9_add 142 = .ok (.ifCond .eq 7, 3) := by decide +kernel
theorem dX9_add_145 : decode cX9_add 145 = .ok (.iconst 1, 1) := by decide +kernel
theorem dX9_add_146 : decode cX9_add 146 = .ok (.goto 4, 3) := by decide +kernel
theorem dX9_add_149 : decode cX9_add 149 = .ok (.iconst 0, 1) := by decide +kernel
theorem dX9_add_150 : decode cX9_add 150 = .ok (.ireturn, 1) := by decide +kernel
theorem dX9_subtract_0 : decode cX9_subtract 0 = .ok (.aload_n 0, 1) := by decide +kernel
theorem dX9_subtract_1 : decode cX9_subtract 1 = .ok (.bipush 8, 2) := by decide +kernel
theorem dX9_subtract_3 : decode cX9_subtract 3 = .ok (.invokevirtual 157, 3) := by decide +kernel
theorem dX9_subtract_6 : decode cX9_subtract 6 = .ok (.ifCond .ne 13, 3) := by decide +kernel
theorem dX9_subtract_9 : decode cX9_subtract 9 = .ok (.aload_n 0, 1) := by decide +kernel
theorem dX9_subtract_10 : decode cX9_subtract 10 = .ok (.sipush 255, 3) := by decide +kernel
theorem dX9_subtract_13 : decode cX9_subtract 13 = .ok (.iload_n 1, 1) := by decide +kernel
theorem dX9_subtract_14 : decode cX9_subtract 14 = .ok (.isub, 1) := by decide +kernel
theorem dX9_subtract_15 : decode cX9_subtract 15 = .ok (.invokevirtual 145, 3) := by decide +kernel
theorem dX9_subtract_18 : decode cX9_subtract 18 = .ok (.ireturn, 1) := by decide +kernel
theorem dX9_subtract_19 : decode cX9_subtract 19 = .ok (.aload_n 0, 1) := by decide +kernel
theorem dX9_subtract_20 : decode cX9_subtract 20 = .ok (.invokevirtual 154, 3) := by decide +kernel
theorem dX9_subtract_23 : decode cX9_subtract 23 = .ok (.istore_n 2, 1) := by decide +kernel
theorem dX9_subtract_24 : decode cX9_subtract 24 = .ok (.aload_n 0, 1) := by decide +kernel
theorem dX9_subtract_25 : decode cX9_subtract 25 = .ok (.getfield 14, 3) := by decide +kernel
theorem dX9_subtract_28 : decode cX9_subtract 28 = .ok (.iconst 0, 1) := by decide +kernel
theorem dX9_subtract_29 : decode cX9_subtract 29 = .ok (.iaload, 1) := by decide +kernel
theorem dX9_subtract_30 : decode cX9_subtract 30 = .ok (.sipush 255, 3) := by decide +kernel
theorem dX9_subtract_33 : decode cX9_subtract 33 = .ok (.iadd, 1) := by decide +kernel
theorem dX9_subtract_34 : decode cX9_subtract 34 = .ok (.iload_n 1, 1) := by decide +kernel
theorem dX9_subtract_35 : decode cX9_subtract 35 = .ok (.isub, 1) := by decide +kernel
theorem dX9_subtract_36 : decode cX9_subtract 36 = .ok (.iload_n 2, 1) := by decide +kernel
theorem dX9_subtract_37 : decode cX9_subtract 37 = .ok (.iadd, 1) := by decide +kernel
theorem dX9_subtract_38 : decode cX9_subtract 38 = .ok (.istore_n 3, 1) := by decide +kernel
theorem dX9_subtract_39 : decode cX9_subtract 39 = .ok (.aload_n 0, 1) := by decide +kernel
theorem dX9_subtract_40 : decode cX9_subtract 40 = .ok (.sipush 255, 3) := by decide +kernel
theorem dX9_subtract_43 : decode cX9_subtract 43 = .ok (.iload_n 1, 1) := by decide +kernel
theorem dX9_subtract_44 : decode cX9_subtract 44 = .ok (.isub, 1) := by decide +kernel
theorem dX9_subtract_45 : decode cX9_subtract 45 = .ok (.iload_n 3, 1) := by decide +kernel
theorem dX9_subtract_46 : decode cX9_subtract 46 = .ok (.invokevirtual 161, 3) := by decide +kernel
theorem dX9_subtract_49 : decode cX9_subtract 49 = .ok (.aload_n 0, 1) := by decide +kernel
theorem dX9_subtract_50 : decode cX9_subtract 50 = .ok (.getfield 14, 3) := by decide +kernel
theorem dX9_subtract_53 : decode cX9_subtract 53 = .ok (.iconst 0, 1) := by decide +kernel
theorem dX9_subtract_54 : decode cX9_subtract 54 = .ok (.iaload, 1) := by decide +kernel
theorem dX9_subtract_55 : decode cX9_subtract 55 = .ok (.bipush 15, 2) := by decide +kernel
theorem dX9_subtract_57 : decode cX9_subtract 57 = .ok (.iand, 1) := by decide +kernel
theorem dX9_subtract_58 : decode cX9_subtract 58 = .ok (.iload_n 1, 1) := by decide +kernel
theorem dX9_subtract_59 : decode cX9_subtract 59 = .ok (.bipush 15, 2) := by decide +kernel
theorem dX9_subtract_61 : decode cX9_subtract 61 = .ok (.iand, 1) := by decide +kernel
theorem dX9_subtract_62 : decode cX9_subtract 62 = .ok (.isub, 1) := by decide +kernel
theorem dX9_subtract_63 : decode cX9_subtract 63 = .ok (.iload_n 2, 1) := by decide +kernel
theorem dX9_subtract_64 : decode cX9_subtract 64 = .ok (.iadd, 1) := by decide +kernel
theorem dX9_subtract_65 : decode cX9_subtract 65 = .ok (.iconst 1, 1) := by decide +kernel
theorem dX9_subtract_66 : decode cX9_subtract 66 = .ok (.isub, 1) := by decide +kernel
theorem dX9_subtract_67 : decode cX9_subtract 67 = .ok (.istore 4, 2) := by decide +kernel
theorem dX9_subtract_69 : decode cX9_subtract 69 = .ok (.aload_n 0, 1) := by decide +kernel
theorem dX9_subtract_70 : decode cX9_subtract 70 = .ok (.getfield 14, 3) := by decide +kernel
theorem dX9_subtract_73 : decode cX9_subtract 73 = .ok (.iconst 0, 1) := by decide +kernel
theorem dX9_subtract_74 : decode cX9_subtract 74 = .ok (.iaload, 1) := by decide +kernel
theorem dX9_subtract_75 : decode cX9_subtract 75 = .ok (.iload_n 1, 1) := by decide +kernel
theorem dX9_subtract_76 : decode cX9_subtract 76 = .ok (.isub, 1) := by decide +kernel
theorem dX9_subtract_77 : decode cX9_subtract 77 = .ok (.iload_n 2, 1) := by decide +kernel
theorem dX9_subtract_78 : decode cX9_subtract 78 = .ok (.iadd, 1) := by decide +kernel
theorem dX9_subtract_79 : decode cX9_subtract 79 = .ok (.iconst 1, 1) := by decide +kernel
theorem dX9_subtract_80 : decode cX9_subtract 80 = .ok (.isub, 1) := by decide +kernel
theorem dX9_subtract_81 : decode cX9_subtract 81 = .ok (.istore 5, 2) := by decide +kernel
theorem dX9_subtract_83 : decode cX9_subtract 83 = .ok (.aload_n 0, 1) := by decide +kernel
theorem dX9_subtract_84 : decode cX9_subtract 84 = .ok (.iconst 1, 1) := by decide +kernel
theorem dX9_subtract_85 : decode cX9_subtract 85 = .ok (.iload_n 3, 1) := by decide +kernel
theorem dX9_subtract_86 : decode cX9_subtract 86 = .ok (.sipush 255, 3) := by decide +kernel
theorem dX9_subtract_89 : decode cX9_subtract 89 = .ok (.if_icmp .le 7, 3) := by decide +kernel
theorem dX9_subtract_92 : decode cX9_subtract 92 = .ok (.iconst 1, 1) := by decide +kernel
theorem dX9_subtract_93 : decode cX9_subtract 93 = .ok (.goto 4, 3) := by decide +kernel
theorem dX9_subtract_96 : decode cX9_subtract 96 = .ok (.iconst 0, 1) := by decide +kernel
theorem dX9_subtract_97 : decode cX9_subtract 97 = .ok (.invokevirtual 110, 3) := by decide +kernel
theorem dX9_subtract_100 : decode cX9_subtract 100 = .ok (.iload 5, 2) := by decide +kernel
theorem dX9_subtract_102 : decode cX9_subtract 102 = .ok (.ifCond .ge 11, 3) := by decide +kernel
theorem dX9_subtract_105 : decode cX9_subtract 105 = .ok (.iload 5, 2) := by decide +kernel
theorem dX9_subtract_107 : decode cX9_subtract 107 = .ok (.bipush 96, 2) := by decide +kernel
theorem dX9_subtract_109 : decode cX9_subtract 109 = .ok (.isub, 1) := by decide +kernel
theorem dX9_subtract_110 : decode cX9_subtract 110 = .ok (.goto 5, 3) := by decide +kernel
theorem dX9_subtract_113 : decode cX9_subtract 113 = .ok (.iload 5, 2) := by decide +kernel
theorem dX9_subtract_115 : decode cX9_subtract 115 = .ok (.istore 5, 2) := by decide +kernel
theorem dX9_subtract_117 : decode cX9_subtract 117 = .ok (.iload 4, 2) := by decide +kernel
theorem dX9_subtract_119 : decode cX9_subtract 119 = .ok (.ifCond .ge 11, 3) := by decide +kernel
theorem dX9_subtract_122 : decode cX9_subtract 122 = .ok (.iload 5, 2) := by decide +kernel
theorem dX9_subtract_124 : decode cX9_subtract 124 = .ok (.bipush 6, 2) := by decide +kernel
theorem dX9_subtract_126 : decode cX9_subtract 126 = .ok (.isub, 1) := by decide +kernel
theorem dX9_subtract_127 : decode cX9_subtract 127 = .ok (.goto 5, 3) := by decide +kernel
theorem dX9_subtract_130 : decode cX9_subtract 130 = .ok (.iload 5, 2) := by decide +kernel
theorem dX9_subtract_132 : decode cX9_subtract 132 = .ok (.istore 5, 2) := by decide +kernel
theorem dX9_subtract_134 : decode cX9_subtract 134 = .ok (.aload_n 0, 1) := by decide +kernel
theorem dX9_subtract_135 : decode cX9_subtract 135 = .ok (.getfield 14, 3) := by decide +kernel
theorem dX9_subtract_138 : decode cX9_subtract 138 = .ok (.iconst 0, 1) := by decide +kernel
theorem dX9_subtract_139 : decode cX9_subtract 139 = .ok (.aload_n 0, 1) := by decide +kernel
theorem dX9_subtract_140 : decode cX9_subtract 140 = .ok (.iload 5, 2) := by decide +kernel
theorem dX9_subtract_142 : decode cX9_subtract 142 = .ok (.sipush 255, 3) := by decide +kernel
theorem dX9_subtract_145 : decode cX9_subtract 145 = .ok (.iand, 1) := by decide +kernel
theorem dX9_subtract_146 : decode cX9_subtract 146 = .ok (.invokevirtual 142, 3) := by decide +kernel
theorem dX9_subtract_149 : decode cX9_subtract 149 = .ok (.iastore, 1) := by decide +kernel
theorem dX9_subtract_150 : decode cX9_subtract 150 = .ok (.iconst 1, 1) := by decide +kernel
theorem dX9_subtract_151 : decode cX9_subtract 151 = .ok (.ireturn, 1) := by decide +kernel
theorem dX9_changed_0 : decode cX9_changed 0 = .ok (.aload_n 0, 1) := by decide +kernel
theorem dX9_changed_1 : decode cX9_changed 1 = .ok (.invokevirtual 154, 3) := by decide +kernel
theorem dX9_changed_4 : decode cX9_changed 4 = .ok (.istore_n 3, 1) := by decide +kernel
theorem dX9_changed_5 : decode cX9_changed 5 = .ok (.iload_n 1, 1) := by decide +kernel
theorem dX9_changed_6 : decode cX9_changed 6 = .ok (.iconst 2, 1) := by decide +kernel
theorem dX9_changed_7 : decode cX9_changed 7 = .ok (.if_icmp .ge 42, 3) := by decide +kernel
theorem dX9_changed_10 : decode cX9_changed 10 = .ok (.aload_n 0, 1) := by decide +kernel
theorem dX9_changed_11 : decode cX9_changed 11 = .ok (.iconst 1, 1) := by decide +kernel
theorem dX9_changed_12 : decode cX9_changed 12 = .ok (.iload_n 2, 1) := by decide +kernel
theorem dX9_changed_13 : decode cX9_changed 13 = .ok (.bipush 127, 2) := by decide +kernel
theorem dX9_changed_15 : decode cX9_changed 15 = .ok (.if_icmp .le 7, 3) := by decide +kernel
theorem dX9_changed_18 : decode cX9_changed 18 = .ok (.iconst 1, 1) := by decide +kernel
theorem dX9_changed_19 : decode cX9_changed 19 = .ok (.goto 4, 3) := by decide +kernel
theorem dX9_changed_22 : decode cX9_changed 22 = .ok (.iconst 0, 1) := by decide +kernel
theorem dX9_changed_23 : decode cX9_changed 23 = .ok (.invokevirtual 110, 3) := by decide +kernel
theorem dX9_changed_26 : decode cX9_changed 26 = .ok (.aload_n 0, 1) := by decide +kernel
theorem dX9_changed_27 : decode cX9_changed 27 = .ok (.iload_n 2, 1) := by decide +kernel
theorem dX9_changed_28 : decode cX9_changed 28 = .ok (.iconst 1, 1) := by decide +kernel
theorem dX9_changed_29 : decode cX9_changed 29 = .ok (.ishl, 1) := by decide +kernel
theorem dX9_changed_30 : decode cX9_changed 30 = .ok (.iload_n 1, 1) := by decide +kernel
theorem dX9_changed_31 : decode cX9_changed 31 = .ok (.iconst 1, 1) := by decide +kernel
theorem dX9_changed_32 : decode cX9_changed 32 = .ok (.if_icmp .ne 7, 3) := by decide +kernel
theorem dX9_changed_35 : decode cX9_changed 35 = .ok (.iload_n 3, 1) := by decide +kernel
theorem dX9_changed_36 : decode cX9_changed 36 = .ok (.goto 4, 3) := by decide +kernel
theorem dX9_changed_39 : decode cX9_changed 39 = .ok (.iconst 0, 1) := by decide +kernel
theorem dX9_changed_40 : decode cX9_changed 40 = .ok (.ior, 1) := by decide +kernel
theorem dX9_changed_41 : decode cX9_changed 41 = .ok (.sipush 255, 3) := by decide +kernel
theorem dX9_changed_44 : decode cX9_changed 44 = .ok (.iand, 1) := by decide +kernel
theorem dX9_changed_45 : decode cX9_changed 45 = .ok (.invokevirtual 142, 3) := by decide +kernel
theorem dX9_changed_48 : decode cX9_changed 48 = .ok (.ireturn, 1) := by decide +kernel
theorem dX9_changed_49 : decode cX9_changed 49 = .ok (.iload_n 1, 1) := by decide +kernel
theorem dX9_changed_50 : decode cX9_changed 50 = .ok (.iconst 4, 1) := by decide +kernel
theorem dX9_changed_51 : decode cX9_changed 51 = .ok (.if_icmp .ge 42, 3) := by decide +kernel
theorem dX9_changed_54 : decode cX9_changed 54 = .ok (.aload_n 0, 1) := by decide +kernel
theorem dX9_changed_55 : decode cX9_changed 55 = .ok (.iconst 1, 1) := by decide +kernel
theorem dX9_changed_56 : decode cX9_changed 56 = .ok (.iload_n 2, 1) := by decide +kernel
theorem dX9_changed_57 : decode cX9_changed 57 = .ok (.iconst 1, 1) := by decide +kernel
theorem dX9_changed_58 : decode cX9_changed 58 = .ok (.iand, 1) := by decide +kernel
theorem dX9_changed_59 : decode cX9_changed 59 = .ok (.iconst 1, 1) := by decide +kernel
theorem dX9_changed_60 : decode cX9_changed 60 = .ok (.if_icmp .ne 7, 3) := by decide +kernel
theorem dX9_changed_63 : decode cX9_changed 63 = .ok (.iconst 1, 1) := by decide +kernel
theorem dX9_changed_64 : decode cX9_changed 64 = .ok (.goto 4, 3) := by decide +kernel
theorem dX9_changed_67 : decode cX9_changed 67 = .ok (.iconst 0, 1) := by decide +kernel
theorem dX9_changed_68 : decode cX9_changed 68 = .ok (.invokevirtual 110, 3) := by decide +kernel
theorem dX9_changed_71 : decode cX9_changed 71 = .ok (.aload_n 0, 1) := by decide +kernel
theorem dX9_changed_72 : decode cX9_changed 72 = .ok (.iload_n 2, 1) := by decide +kernel
theorem dX9_changed_73 : decode cX9_changed 73 = .ok (.iconst 1, 1) := by decide +kernel
theorem dX9_changed_74 : decode cX9_changed 74 = .ok (.ishr, 1) := by decide +kernel
theorem dX9_changed_75 : decode cX9_changed 75 = .ok (.iload_n 1, 1) := by decide +kernel
theorem dX9_changed_76 : decode cX9_changed 76 = .ok (.iconst 3, 1) := by decide +kernel
theorem dX9_changed_77 : decode cX9_changed 77 = .ok (.if_icmp .ne 10, 3) := by decide +kernel
theorem dX9_changed_80 : decode cX9_changed 80 = .ok (.iload_n 3, 1) := by decide +kernel
theorem dX9_changed_81 : decode cX9_changed 81 = .ok (.bipush 7, 2) := by decide +kernel
theorem dX9_changed_83 : decode cX9_changed 83 = .ok (.ishl, 1) := by decide +kernel
theorem dX9_changed_84 : decode cX9_changed 84 = .ok (.goto 4, 3) := by decide +kernel
theorem dX9_changed_87 : decode cX9_changed 87 = .ok (.iconst 0, 1) := by decide +kernel
theorem dX9_changed_88 : decode cX9_changed 88 = .ok (.ior, 1) := by decide +kernel
theorem dX9_changed_89 : decode cX9_changed 89 = .ok (.invokevirtual 142, 3) := by decide +kernel
theorem dX9_changed_92 : decode cX9_changed 92 = .ok (.ireturn, 1) := by decide +kernel
theorem dX9_changed_93 : decode cX9_changed 93 = .ok (.aload_n 0, 1) := by decide +kernel
theorem dX9_changed_94 : decode cX9_changed 94 = .ok (.iload_n 2, 1) := by decide +kernel
theorem dX9_changed_95 : decode cX9_changed 95 = .ok (.iload_n 1, 1) := by decide +kernel
theorem dX9_changed_96 : decode cX9_changed 96 = .ok (.bipush 6, 2) := by decide +kernel
theorem dX9_changed_98 : decode cX9_changed 98 = .ok (.if_icmp .ne 7, 3) := by decide +kernel
theorem dX9_changed_101 : decode cX9_changed 101 = .ok (.iconst (-1), 1) := by decide +kernel
theorem dX9_changed_102 : decode cX9_changed 102 = .ok (.goto 4, 3) := by decide +kernel
theorem dX9_changed_105 : decode cX9_changed 105 = .ok (.iconst 1, 1) := by decide +kernel
theorem dX9_changed_106 : decode cX9_changed 106 = .ok (.iadd, 1) := by decide +kernel
theorem dX9_changed_107 : decode cX9_changed 107 = .ok (.sipush 255, 3) := by decide +kernel
theorem dX9_changed_110 : decode cX9_changed 110 = .ok (.iand, 1) := by decide +kernel
theorem dX9_changed_111 : decode cX9_changed 111 = .ok (.invokevirtual 142, 3) := by decide +kernel
theorem dX9_changed_114 : decode cX9_changed 114 = .ok (.ireturn, 1) := by decide +kernel
theorem dX9_change_0 : decode cX9_change 0 = .ok (.iload_n 2, 1) := by decide +kernel
theorem dX9_change_1 : decode cX9_change 1 = .ok (.bipush 10, 2) := by decide +kernel
theorem dX9_change_3 : decode cX9_change 3 = .ok (.if_icmp .ne 22, 3) := by decide +kernel
theorem dX9_change_6 : decode cX9_change 6 = .ok (.aload_n 0, 1) := by decide +kernel
theorem dX9_change_7 : decode cX9_change 7 = .ok (.getfield 14, 3) := by decide +kernel
theorem dX9_change_10 : decode cX9_change 10 = .ok (.iconst 0, 1) := by decide +kernel
theorem dX9_change_11 : decode cX9_change 11 = .ok (.aload_n 0, 1) := by decide +kernel
theorem dX9_change_12 : decode cX9_change 12 = .ok (.iload_n 1, 1) := by decide +kernel
theorem dX9_change_13 : decode cX9_change 13 = .ok (.aload_n 0, 1) := by decide +kernel
theorem dX9_change_14 : decode cX9_change 14 = .ok (.getfield 14, 3) := by decide +kernel
theorem dX9_change_17 : decode cX9_change 17 = .ok (.iconst 0, 1) := by decide +kernel
theorem dX9_change_18 : decode cX9_change 18 = .ok (.iaload, 1) := by decide +kernel
theorem dX9_change_19 : decode cX9_change 19 = .ok (.invokevirtual 164, 3) := by decide +kernel
theorem dX9_change_22 : decode cX9_change 22 = .ok (.iastore, 1) := by decide +kernel
theorem dX9_change_23 : decode cX9_change 23 = .ok (.iconst 2, 1) := by decide +kernel
theorem dX9_change_24 : decode cX9_change 24 = .ok (.ireturn, 1) := by decide +kernel
theorem dX9_change_25 : decode cX9_change 25 = .ok (.aload_n 0, 1) := by decide +kernel
theorem dX9_change_26 : decode cX9_change 26 = .ok (.iload_n 2, 1) := by decide +kernel
theorem dX9_change_27 : decode cX9_change 27 = .ok (.invokevirtual 130, 3) := by decide +kernel
theorem dX9_change_30 : decode cX9_change 30 = .ok (.istore_n 3, 1) := by decide +kernel
theorem dX9_change_31 : decode cX9_change 31 = .ok (.aload_n 0, 1) := by decide +kernel
theorem dX9_change_32 : decode cX9_change 32 = .ok (.iload_n 3, 1) := by decide +kernel
theorem dX9_change_33 : decode cX9_change 33 = .ok (.aload_n 0, 1) := by decide +kernel
theorem dX9_change_34 : decode cX9_change 34 = .ok (.iload_n 1, 1) := by decide +kernel
theorem dX9_change_35 : decode cX9_change 35 = .ok (.aload_n 0, 1) := by decide +kernel
theorem dX9_change_36 : decode cX9_change 36 = .ok (.iload_n 3, 1) := by decide +kernel
theorem dX9_change_37 : decode cX9_change 37 = .ok (.invokevirtual 100, 3) := by decide +kernel
theorem dX9_change_40 : decode cX9_change 40 = .ok (.invokevirtual 164, 3) := by decide +kernel
theorem dX9_change_43 : decode cX9_change 43 = .ok (.invokevirtual 103, 3) := by decide +kernel
theorem dX9_change_46 : decode cX9_change 46 = .ok (.iload_n 2, 1) := by decide +kernel
theorem dX9_change_47 : decode cX9_change 47 = .ok (.iconst 1, 1) := by decide +kernel
theorem dX9_change_48 : decode cX9_change 48 = .ok (.if_icmp .ne 7, 3) := by decide +kernel
theorem dX9_change_51 : decode cX9_change 51 = .ok (.iconst 5, 1) := by decide +kernel
theorem dX9_change_52 : decode cX9_change 52 = .ok (.goto 32, 3) := by decide +kernel
theorem dX9_change_55 : decode cX9_change 55 = .ok (.iload_n 2, 1) := by decide +kernel
theorem dX9_change_56 : decode cX9_change 56 = .ok (.iconst 5, 1) := by decide +kernel
theorem dX9_change_57 : decode cX9_change 57 = .ok (.if_icmp .eq 8, 3) := by decide +kernel
theorem dX9_change_60 : decode cX9_change 60 = .ok (.bipush 6, 2) := by decide +kernel
theorem dX9_change_62 : decode cX9_change 62 = .ok (.goto 22, 3) := by decide +kernel
theorem dX9_change_65 : decode cX9_change 65 = .ok (.iload_n 1, 1) := by decide +kernel
theorem dX9_change_66 : decode cX9_change 66 = .ok (.iconst 3, 1) := by decide +kernel
theorem dX9_change_67 : decode cX9_change 67 = .ok (.if_icmp .gt 10, 3) := by decide +kernel
theorem dX9_change_70 : decode cX9_change 70 = .ok (.aload_n 0, 1) := by decide +kernel
theorem dX9_change_71 : decode cX9_change 71 = .ok (.getfield 114, 3) := by decide +kernel
theorem dX9_change_74 : decode cX9_change 74 = .ok (.ifCond .eq 8, 3) := by decide +kernel
theorem dX9_change_77 : decode cX9_change 77 = .ok (.bipush 7, 2) := by decide +kernel
theorem dX9_change_79 : decode cX9_change 79 = .ok (.goto 5, 3) := by decide +kernel
theorem dX9_change_82 : decode cX9_change 82 = .ok (.bipush 6, 2) := by decide +kernel
theorem dX9_change_84 : decode cX9_change 84 = .ok (.ireturn, 1) := by decide +kernel
theorem dX9_shifts_0 : decode cX9_shifts 0 = .ok (.iload_n 1, 1) := by decide +kernel
theorem dX9_shifts_1 : decode cX9_shifts 1 = .ok (.iconst 5, 1) := by decide +kernel
theorem dX9_shifts_2 : decode cX9_shifts 2 = .ok (.ishr, 1) := by decide +kernel
theorem dX9_shifts_3 : decode cX9_shifts 3 = .ok (.istore_n 2, 1) := by decide +kernel
theorem dX9_shifts_4 : decode cX9_shifts 4 = .ok (.iload_n 1, 1) := by decide +kernel
theorem dX9_shifts_5 : decode cX9_shifts 5 = .ok (.invokestatic 167, 3) := by decide +kernel
theorem dX9_shifts_8 : decode cX9_shifts 8 = .ok (.istore_n 3, 1) := by decide +kernel
theorem dX9_shifts_9 : decode cX9_shifts 9 = .ok (.iload_n 1, 1) := by decide +kernel
theorem dX9_shifts_10 : decode cX9_shifts 10 = .ok (.bipush 26, 2) := by decide +kernel
theorem dX9_shifts_12 : decode cX9_shifts 12 = .ok (.if_icmp .eq 9, 3) := by decide +kernel
theorem dX9_shifts_15 : decode cX9_shifts 15 = .ok (.iload_n 1, 1) := by decide +kernel
theorem dX9_shifts_16 : decode cX9_shifts 16 = .ok (.bipush 58, 2) := by decide +kernel
theorem dX9_shifts_18 : decode cX9_shifts 18 = .ok (.if_icmp .ne 23, 3) := by decide +kernel
theorem dX9_shifts_21 : decode cX9_shifts 21 = .ok (.aload_n 0, 1) := by decide +kernel
theorem dX9_shifts_22 : decode cX9_shifts 22 = .ok (.iload_n 1, 1) := by decide +kernel
theorem dX9_shifts_23 : decode cX9_shifts 23 = .ok (.bipush 26, 2) := by decide +kernel
theorem dX9_shifts_25 : decode cX9_shifts 25 = .ok (.if_icmp .ne 8, 3) := by decide +kernel
theorem dX9_shifts_28 : decode cX9_shifts 28 = .ok (.bipush 7, 2) := by decide +kernel
theorem dX9_shifts_30 : decode cX9_shifts 30 = .ok (.goto 5, 3) := by decide +kernel
theorem dX9_shifts_33 : decode cX9_shifts 33 = .ok (.bipush 6, 2) := by decide +kernel
theorem dX9_shifts_35 : decode cX9_shifts 35 = .ok (.bipush 10, 2) := by decide +kernel
theorem dX9_shifts_37 : decode cX9_shifts 37 = .ok (.invokevirtual 170, 3) := by decide +kernel
theorem dX9_shifts_40 : decode cX9_shifts 40 = .ok (.ireturn, 1) := by decide +kernel
theorem dX9_shifts_41 : decode cX9_shifts 41 = .ok (.iload_n 2, 1) := by decide +kernel
theorem dX9_shifts_42 : decode cX9_shifts 42 = .ok (.iconst 4, 1) := by decide +kernel
theorem dX9_shifts_43 : decode cX9_shifts 43 = .ok (.if_icmp .eq 15, 3) := by decide +kernel
theorem dX9_shifts_46 : decode cX9_shifts 46 = .ok (.iload_n 2, 1) := by decide +kernel
theorem dX9_shifts_47 : decode cX9_shifts 47 = .ok (.iconst 5, 1) := by decide +kernel
theorem dX9_shifts_48 : decode cX9_shifts 48 = .ok (.if_icmp .eq 10, 3) := by decide +kernel
theorem dX9_shifts_51 : decode cX9_shifts 51 = .ok (.aload_n 0, 1) := by decide +kernel
theorem dX9_shifts_52 : decode cX9_shifts 52 = .ok (.iload_n 2, 1) := by decide +kernel
theorem dX9_shifts_53 : decode cX9_shifts 53 = .ok (.iload_n 3, 1) := by decide +kernel
theorem dX9_shifts_54 : decode cX9_shifts 54 = .ok (.invokevirtual 170, 3) := by decide +kernel
theorem dX9_shifts_57 : decode cX9_shifts 57 = .ok (.ireturn, 1) := by decide +kernel
theorem dX9_shifts_58 : decode cX9_shifts 58 = .ok (.iload_n 3, 1) := by decide +kernel
theorem dX9_shifts_59 : decode cX9_shifts 59 = .ok (.iconst 2, 1) := by decide +kernel
theorem dX9_shifts_60 : decode cX9_shifts 60 = .ok (.if_icmp .ne 7, 3) := by decide +kernel
theorem dX9_shifts_63 : decode cX9_shifts 63 = .ok (.iconst 3, 1) := by decide +kernel
theorem dX9_shifts_64 : decode cX9_shifts 64 = .ok (.goto 14, 3) := by decide +kernel
theorem dX9_shifts_67 : decode cX9_shifts 67 = .ok (.iload_n 3, 1) := by decide +kernel
theorem dX9_shifts_68 : decode cX9_shifts 68 = .ok (.iconst 5, 1) := by decide +kernel
theorem dX9_shifts_69 : decode cX9_shifts 69 = .ok (.if_icmp .ne 8, 3) := by decide +kernel
theorem dX9_shifts_72 : decode cX9_shifts 72 = .ok (.bipush 6, 2) := by decide +kernel
theorem dX9_shifts_74 : decode cX9_shifts 74 = .ok (.goto 4, 3) := by decide +kernel
theorem dX9_shifts_77 : decode cX9_shifts 77 = .ok (.iload_n 3, 1) := by decide +kernel
theorem dX9_shifts_78 : decode cX9_shifts 78 = .ok (.istore_n 3, 1) := by decide +kernel
theorem dX9_shifts_79 : decode cX9_shifts 79 = .ok (.iload_n 2, 1) := by decide +kernel
theorem dX9_shifts_80 : decode cX9_shifts 80 = .ok (.iconst 4, 1) := by decide +kernel
theorem dX9_shifts_81 : decode cX9_shifts 81 = .ok (.if_icmp .ne 23, 3) := by decide +kernel
theorem dX9_shifts_84 : decode cX9_shifts 84 = .ok (.aload_n 0, 1) := by decide +kernel
theorem dX9_shifts_85 : decode cX9_shifts 85 = .ok (.aload_n 0, 1) := by decide +kernel
theorem dX9_shifts_86 : decode cX9_shifts 86 = .ok (.iload_n 3, 1) := by decide +kernel
theorem dX9_shifts_87 : decode cX9_shifts 87 = .ok (.invokevirtual 130, 3) := by decide +kernel
theorem dX9_shifts_90 : decode cX9_shifts 90 = .ok (.aload_n 0, 1) := by decide +kernel
theorem dX9_shifts_91 : decode cX9_shifts 91 = .ok (.getfield 14, 3) := by decide +kernel
theorem dX9_shifts_94 : decode cX9_shifts 94 = .ok (.iconst 1, 1) := by decide +kernel
theorem dX9_shifts_95 : decode cX9_shifts 95 = .ok (.iaload, 1) := by decide +kernel
theorem dX9_shifts_96 : decode cX9_shifts 96 = .ok (.invokevirtual 103, 3) := by decide +kernel
theorem dX9_shifts_99 : decode cX9_shifts 99 = .ok (.iload_n 3, 1) := by decide +kernel
theorem dX9_shifts_100 : decode cX9_shifts 100 = .ok (.invokestatic 136, 3) := by decide +kernel
theorem dX9_shifts_103 : decode cX9_shifts 103 = .ok (.ireturn, 1) := by decide +kernel
theorem dX9_shifts_104 : decode cX9_shifts 104 = .ok (.aload_n 0, 1) := by decide +kernel
theorem dX9_shifts_105 : decode cX9_shifts 105 = .ok (.iconst 1, 1) := by decide +kernel
theorem dX9_shifts_106 : decode cX9_shifts 106 = .ok (.iload_n 3, 1) := by decide +kernel
theorem dX9_shifts_107 : decode cX9_shifts 107 = .ok (.invokevirtual 173, 3) := by decide +kernel
theorem dX9_shifts_110 : decode cX9_shifts 110 = .ok (.ireturn, 1) := by decide +kernel
theorem dX9_loaded_0 : decode cX9_loaded 0 = .ok (.aload_n 0, 1) := by decide +kernel
theorem dX9_loaded_1 : decode cX9_loaded 1 = .ok (.iconst 0, 1) := by decide +kernel
theorem dX9_loaded_2 : decode cX9_loaded 2 = .ok (.putfield 114, 3) := by decide +kernel
theorem dX9_loaded_5 : decode cX9_loaded 5 = .ok (.aload_n 0, 1) := by decide +kernel
theorem dX9_loaded_6 : decode cX9_loaded 6 = .ok (.getfield 14, 3) := by decide +kernel
theorem dX9_loaded_9 : decode cX9_loaded 9 = .ok (.iload_n 1, 1) := by decide +kernel
theorem dX9_loaded_10 : decode cX9_loaded 10 = .ok (.aload_n 0, 1) := by decide +kernel
theorem dX9_loaded_11 : decode cX9_loaded 11 = .ok (.aload_n 0, 1) := by decide +kernel
theorem dX9_loaded_12 : decode cX9_loaded 12 = .ok (.iload_n 2, 1) := by decide +kernel
theorem dX9_loaded_13 : decode cX9_loaded 13 = .ok (.invokevirtual 139, 3) := by decide +kernel
theorem dX9_loaded_16 : decode cX9_loaded 16 = .ok (.invokevirtual 142, 3) := by decide +kernel
theorem dX9_loaded_19 : decode cX9_loaded 19 = .ok (.iastore, 1) := by decide +kernel
theorem dX9_loaded_20 : decode cX9_loaded 20 = .ok (.iload_n 2, 1) := by decide +kernel
theorem dX9_loaded_21 : decode cX9_loaded 21 = .ok (.invokestatic 136, 3) := by decide +kernel
theorem dX9_loaded_24 : decode cX9_loaded 24 = .ok (.aload_n 0, 1) := by decide +kernel
theorem dX9_loaded_25 : decode cX9_loaded 25 = .ok (.getfield 114, 3) := by decide +kernel
theorem dX9_loaded_28 : decode cX9_loaded 28 = .ok (.ifCond .eq 7, 3) := by decide +kernel
theorem dX9_loaded_31 : decode cX9_loaded 31 = .ok (.iconst 1, 1) := by decide +kernel
theorem dX9_loaded_32 : decode cX9_loaded 32 = .ok (.goto 4, 3) := by decide +kernel
theorem dX9_loaded_35 : decode cX9_loaded 35 = .ok (.iconst 0, 1) := by decide +kernel
theorem dX9_loaded_36 : decode cX9_loaded 36 = .ok (.iadd, 1) := by decide +kernel
theorem dX9_loaded_37 : decode cX9_loaded 37 = .ok (.ireturn, 1) := by decide +kernel
theorem dX9_compared_0 : decode cX9_compared 0 = .ok (.aload_n 0, 1) := by decide +kernel
theorem dX9_compared_1 : decode cX9_compared 1 = .ok (.aload_n 0, 1) := by decide +kernel
theorem dX9_compared_2 : decode cX9_compared 2 = .ok (.getfield 14, 3) := by decide +kernel
theorem dX9_compared_5 : decode cX9_compared 5 = .ok (.iload_n 1, 1) := by decide +kernel
theorem dX9_compared_6 : decode cX9_compared 6 = .ok (.iaload, 1) := by decide +kernel
theorem dX9_compared_7 : decode cX9_compared 7 = .ok (.aload_n 0, 1) := by decide +kernel
theorem dX9_compared_8 : decode cX9_compared 8 = .ok (.iload_n 2, 1) := by decide +kernel
theorem dX9_compared_9 : decode cX9_compared 9 = .ok (.invokevirtual 139, 3) := by decide +kernel
theorem dX9_compared_12 : decode cX9_compared 12 = .ok (.invokevirtual 148, 3) := by decide +kernel
theorem dX9_compared_15 : decode cX9_compared 15 = .ok (.iload_n 2, 1) := by decide +kernel
theorem dX9_compared_16 : decode cX9_compared 16 = .ok (.invokestatic 136, 3) := by decide +kernel
theorem dX9_compared_19 : decode cX9_compared 19 = .ok (.ireturn, 1) := by decide +kernel
theorem dX9_zeroed_0 : decode cX9_zeroed 0 = .ok (.aload_n 0, 1) := by decide +kernel
theorem dX9_zeroed_1 : decode cX9_zeroed 1 = .ok (.aload_n 0, 1) := by decide +kernel
theorem dX9_zeroed_2 : decode cX9_zeroed 2 = .ok (.iload_n 1, 1) := by decide +kernel
theorem dX9_zeroed_3 : decode cX9_zeroed 3 = .ok (.invokevirtual 130, 3) := by decide +kernel
theorem dX9_zeroed_6 : decode cX9_zeroed 6 = .ok (.iconst 0, 1) := by decide +kernel
theorem dX9_zeroed_7 : decode cX9_zeroed 7 = .ok (.invokevirtual 103, 3) := by decide +kernel
theorem dX9_zeroed_10 : decode cX9_zeroed 10 = .ok (.iload_n 1, 1) := by decide +kernel
theorem dX9_zeroed_11 : decode cX9_zeroed 11 = .ok (.iconst 5, 1) := by decide +kernel
theorem dX9_zeroed_12 : decode cX9_zeroed 12 = .ok (.if_icmp .ne 7, 3) := by decide +kernel
theorem dX9_zeroed_15 : decode cX9_zeroed 15 = .ok (.iconst 5, 1) := by decide +kernel
theorem dX9_zeroed_16 : decode cX9_zeroed 16 = .ok (.goto 7, 3) := by decide +kernel
theorem dX9_zeroed_19 : decode cX9_zeroed 19 = .ok (.iload_n 1, 1) := by decide +kernel
theorem dX9_zeroed_20 : decode cX9_zeroed 20 = .ok (.invokestatic 136, 3) := by decide +kernel
theorem dX9_zeroed_23 : decode cX9_zeroed 23 = .ok (.ireturn, 1) := by decide +kernel
theorem dX9_bits_0 : decode cX9_bits 0 = .ok (.aload_n 0, 1) := by decide +kernel
theorem dX9_bits_1 : decode cX9_bits 1 = .ok (.iconst 0, 1) := by decide +kernel
theorem dX9_bits_2 : decode cX9_bits 2 = .ok (.putfield 114, 3) := by decide +kernel
theorem dX9_bits_5 : decode cX9_bits 5 = .ok (.aload_n 0, 1) := by decide +kernel
theorem dX9_bits_6 : decode cX9_bits 6 = .ok (.iload_n 1, 1) := by decide +kernel
theorem dX9_bits_7 : decode cX9_bits 7 = .ok (.invokevirtual 139, 3) := by decide +kernel
theorem dX9_bits_10 : decode cX9_bits 10 = .ok (.istore_n 2, 1) := by decide +kernel
theorem dX9_bits_11 : decode cX9_bits 11 = .ok (.aload_n 0, 1) := by decide +kernel
theorem dX9_bits_12 : decode cX9_bits 12 = .ok (.iconst 2, 1) := by decide +kernel
theorem dX9_bits_13 : decode cX9_bits 13 = .ok (.aload_n 0, 1) := by decide +kernel
theorem dX9_bits_14 : decode cX9_bits 14 = .ok (.getfield 14, 3) := by decide +kernel
theorem dX9_bits_17 : decode cX9_bits 17 = .ok (.iconst 0, 1) := by decide +kernel
theorem dX9_bits_18 : decode cX9_bits 18 = .ok (.iaload, 1) := by decide +kernel
theorem dX9_bits_19 : decode cX9_bits 19 = .ok (.iload_n 2, 1) := by decide +kernel
theorem dX9_bits_20 : decode cX9_bits 20 = .ok (.iand, 1) := by decide +kernel
theorem dX9_bits_21 : decode cX9_bits 21 = .ok (.ifCond .ne 7, 3) := by decide +kernel
theorem dX9_bits_24 : decode cX9_bits 24 = .ok (.iconst 1, 1) := by decide +kernel
theorem dX9_bits_25 : decode cX9_bits 25 = .ok (.goto 4, 3) := by decide +kernel
theorem dX9_bits_28 : decode cX9_bits 28 = .ok (.iconst 0, 1) := by decide +kernel
theorem dX9_bits_29 : decode cX9_bits 29 = .ok (.invokevirtual 110, 3) := by decide +kernel
theorem dX9_bits_32 : decode cX9_bits 32 = .ok (.iload_n 1, 1) := by decide +kernel
theorem dX9_bits_33 : decode cX9_bits 33 = .ok (.ifCond .eq 39, 3) := by decide +kernel
theorem dX9_bits_36 : decode cX9_bits 36 = .ok (.aload_n 0, 1) := by decide +kernel
theorem dX9_bits_37 : decode cX9_bits 37 = .ok (.sipush 128, 3) := by decide +kernel
theorem dX9_bits_40 : decode cX9_bits 40 = .ok (.iload_n 2, 1) := by decide +kernel
theorem dX9_bits_41 : decode cX9_bits 41 = .ok (.bipush 127, 2) := by decide +kernel
theorem dX9_bits_43 : decode cX9_bits 43 = .ok (.if_icmp .le 7, 3) := by decide +kernel
theorem dX9_bits_46 : decode cX9_bits 46 = .ok (.iconst 1, 1) := by decide +kernel
theorem dX9_bits_47 : decode cX9_bits 47 = .ok (.goto 4, 3) := by decide +kernel
theorem dX9_bits_50 : decode cX9_bits 50 = .ok (.iconst 0, 1) := by decide +kernel
theorem dX9_bits_51 : decode cX9_bits 51 = .ok (.invokevirtual 110, 3) := by decide +kernel
theorem dX9_bits_54 : decode cX9_bits 54 = .ok (.aload_n 0, 1) := by decide +kernel
theorem dX9_bits_55 : decode cX9_bits 55 = .ok (.bipush 64, 2) := by decide +kernel
theorem dX9_bits_57 : decode cX9_bits 57 = .ok (.iload_n 2, 1) := by decide +kernel
theorem dX9_bits_58 : decode cX9_bits 58 = .ok (.bipush 64, 2) := by decide +kernel
theorem dX9_bits_60 : decode cX9_bits 60 = .ok (.iand, 1) := by decide +kernel
theorem dX9_bits_61 : decode cX9_bits 61 = .ok (.ifCond .eq 7, 3) := by decide +kernel
theorem dX9_bits_64 : decode cX9_bits 64 = .ok (.iconst 1, 1) := by decide +kernel
theorem dX9_bits_65 : decode cX9_bits 65 = .ok (.goto 4, 3) := by decide +kernel
theorem dX9_bits_68 : decode cX9_bits 68 = .ok (.iconst 0, 1) := by decide +kernel
theorem dX9_bits_69 : decode cX9_bits 69 = .ok (.invokevirtual 110, 3) := by decide +kernel
theorem dX9_bits_72 : decode cX9_bits 72 = .ok (.iload_n 1, 1) := by decide +kernel
theorem dX9_bits_73 : decode cX9_bits 73 = .ok (.invokestatic 136, 3) := by decide +kernel
theorem dX9_bits_76 : decode cX9_bits 76 = .ok (.aload_n 0, 1) := by decide +kernel
theorem dX9_bits_77 : decode cX9_bits 77 = .ok (.getfield 114, 3) := by decide +kernel
theorem dX9_bits_80 : decode cX9_bits 80 = .ok (.ifCond .eq 7, 3) := by decide +kernel
theorem dX9_bits_83 : decode cX9_bits 83 = .ok (.iconst 1, 1) := by decide +kernel
theorem dX9_bits_84 : decode cX9_bits 84 = .ok (.goto 4, 3) := by decide +kernel
theorem dX9_bits_87 : decode cX9_bits 87 = .ok (.iconst 0, 1) := by decide +kernel
theorem dX9_bits_88 : decode cX9_bits 88 = .ok (.iadd, 1) := by decide +kernel
theorem dX9_bits_89 : decode cX9_bits 89 = .ok (.ireturn, 1) := by decide +kernel
theorem dX9_marks_0 : decode cX9_marks 0 = .ok (.aload_n 0, 1) := by decide +kernel
theorem dX9_marks_1 : decode cX9_marks 1 = .ok (.iload_n 2, 1) := by decide +kernel
theorem dX9_marks_2 : decode cX9_marks 2 = .ok (.invokevirtual 130, 3) := by decide +kernel
theorem dX9_marks_5 : decode cX9_marks 5 = .ok (.istore_n 3, 1) := by decide +kernel
theorem dX9_marks_6 : decode cX9_marks 6 = .ok (.aload_n 0, 1) := by decide +kernel
theorem dX9_marks_7 : decode cX9_marks 7 = .ok (.iload_n 3, 1) := by decide +kernel
theorem dX9_marks_8 : decode cX9_marks 8 = .ok (.invokevirtual 100, 3) := by decide +kernel
theorem dX9_marks_11 : decode cX9_marks 11 = .ok (.istore 4, 2) := by decide +kernel
theorem dX9_marks_13 : decode cX9_marks 13 = .ok (.aload_n 0, 1) := by decide +kernel
theorem dX9_marks_14 : decode cX9_marks 14 = .ok (.iconst 2, 1) := by decide +kernel
theorem dX9_marks_15 : decode cX9_marks 15 = .ok (.aload_n 0, 1) := by decide +kernel
theorem dX9_marks_16 : decode cX9_marks 16 = .ok (.getfield 14, 3) := by decide +kernel
theorem dX9_marks_19 : decode cX9_marks 19 = .ok (.iconst 0, 1) := by decide +kernel
theorem dX9_marks_20 : decode cX9_marks 20 = .ok (.iaload, 1) := by decide +kernel
theorem dX9_marks_21 : decode cX9_marks 21 = .ok (.iload 4, 2) := by decide +kernel
theorem dX9_marks_23 : decode cX9_marks 23 = .ok (.iand, 1) := by decide +kernel
theorem dX9_marks_24 : decode cX9_marks 24 = .ok (.ifCond .ne 7, 3) := by decide +kernel
theorem dX9_marks_27 : decode cX9_marks 27 = .ok (.iconst 1, 1) := by decide +kernel
theorem dX9_marks_28 : decode cX9_marks 28 = .ok (.goto 4, 3) := by decide +kernel
theorem dX9_marks_31 : decode cX9_marks 31 = .ok (.iconst 0, 1) := by decide +kernel
theorem dX9_marks_32 : decode cX9_marks 32 = .ok (.invokevirtual 110, 3) := by decide +kernel
theorem dX9_marks_35 : decode cX9_marks 35 = .ok (.aload_n 0, 1) := by decide +kernel
theorem dX9_marks_36 : decode cX9_marks 36 = .ok (.iload_n 3, 1) := by decide +kernel
theorem dX9_marks_37 : decode cX9_marks 37 = .ok (.iload_n 1, 1) := by decide +kernel
theorem dX9_marks_38 : decode cX9_marks 38 = .ok (.ifCond .eq 15, 3) := by decide +kernel
theorem dX9_marks_41 : decode cX9_marks 41 = .ok (.iload 4, 2) := by decide +kernel
theorem dX9_marks_43 : decode cX9_marks 43 = .ok (.aload_n 0, 1) := by decide +kernel
theorem dX9_marks_44 : decode cX9_marks 44 = .ok (.getfield 14, 3) := by decide +kernel
theorem dX9_marks_47 : decode cX9_marks 47 = .ok (.iconst 0, 1) := by decide +kernel
theorem dX9_marks_48 : decode cX9_marks 48 = .ok (.iaload, 1) := by decide +kernel
theorem dX9_marks_49 : decode cX9_marks 49 = .ok (.ior, 1) := by decide +kernel
theorem dX9_marks_50 : decode cX9_marks 50 = .ok (.goto 14, 3) := by decide +kernel
theorem dX9_marks_53 : decode cX9_marks 53 = .ok (.iload 4, 2) := by decide +kernel
theorem dX9_marks_55 : decode cX9_marks 55 = .ok (.aload_n 0, 1) := by decide +kernel
theorem dX9_marks_56 : decode cX9_marks 56 = .ok (.getfield 14, 3) := by decide +kernel
theorem dX9_marks_59 : decode cX9_marks 59 = .ok (.iconst 0, 1) := by decide +kernel
theorem dX9_marks_60 : decode cX9_marks 60 = .ok (.iaload, 1) := by decide +kernel
theorem dX9_marks_61 : decode cX9_marks 61 = .ok (.iconst (-1), 1) := by decide +kernel
theorem dX9_marks_62 : decode cX9_marks 62 = .ok (.ixor, 1) := by decide +kernel
theorem dX9_marks_63 : decode cX9_marks 63 = .ok (.iand, 1) := by decide +kernel
theorem dX9_marks_64 : decode cX9_marks 64 = .ok (.invokevirtual 103, 3) := by decide +kernel
theorem dX9_marks_67 : decode cX9_marks 67 = .ok (.iload_n 2, 1) := by decide +kernel
theorem dX9_marks_68 : decode cX9_marks 68 = .ok (.iconst 1, 1) := by decide +kernel
theorem dX9_marks_69 : decode cX9_marks 69 = .ok (.if_icmp .ne 7, 3) := by decide +kernel
theorem dX9_marks_72 : decode cX9_marks 72 = .ok (.iconst 5, 1) := by decide +kernel
theorem dX9_marks_73 : decode cX9_marks 73 = .ok (.goto 5, 3) := by decide +kernel
theorem dX9_marks_76 : decode cX9_marks 76 = .ok (.bipush 6, 2) := by decide +kernel
theorem dX9_marks_78 : decode cX9_marks 78 = .ok (.ireturn, 1) := by decide +kernel
theorem dX9_fours_0 : decode cX9_fours 0 = .ok (.iload_n 1, 1) := by decide +kernel
theorem dX9_fours_1 : decode cX9_fours 1 = .ok (.invokestatic 167, 3) := by decide +kernel
theorem dX9_fours_4 : decode cX9_fours 4 = .ok (.istore_n 2, 1) := by decide +kernel
theorem dX9_fours_5 : decode cX9_fours 5 = .ok (.iload_n 1, 1) := by decide +kernel
theorem dX9_fours_6 : decode cX9_fours 6 = .ok (.iconst 4, 1) := by decide +kernel
theorem dX9_fours_7 : decode cX9_fours 7 = .ok (.ishr, 1) := by decide +kernel
theorem dX9_fours_8 : decode cX9_fours 8 = .ok (.iconst 1, 1) := by decide +kernel
theorem dX9_fours_9 : decode cX9_fours 9 = .ok (.iand, 1) := by decide +kernel
theorem dX9_fours_10 : decode cX9_fours 10 = .ok (.iconst 1, 1) := by decide +kernel
theorem dX9_fours_11 : decode cX9_fours 11 = .ok (.if_icmp .ne 7, 3) := by decide +kernel
theorem dX9_fours_14 : decode cX9_fours 14 = .ok (.iconst 1, 1) := by decide +kernel
theorem dX9_fours_15 : decode cX9_fours 15 = .ok (.goto 4, 3) := by decide +kernel
theorem dX9_fours_18 : decode cX9_fours 18 = .ok (.iconst 0, 1) := by decide +kernel
theorem dX9_fours_19 : decode cX9_fours 19 = .ok (.istore_n 3, 1) := by decide +kernel
theorem dX9_fours_20 : decode cX9_fours 20 = .ok (.iload_n 1, 1) := by decide +kernel
theorem dX9_fours_21 : decode cX9_fours 21 = .ok (.bipush 76, 2) := by decide +kernel
theorem dX9_fours_23 : decode cX9_fours 23 = .ok (.if_icmp .ne 13, 3) := by decide +kernel
theorem dX9_fours_26 : decode cX9_fours 26 = .ok (.aload_n 0, 1) := by decide +kernel
theorem dX9_fours_27 : decode cX9_fours 27 = .ok (.aload_n 0, 1) := by decide +kernel
theorem dX9_fours_28 : decode cX9_fours 28 = .ok (.getfield 120, 3) := by decide +kernel
theorem dX9_fours_31 : decode cX9_fours 31 = .ok (.putfield 176, 3) := by decide +kernel
theorem dX9_fours_34 : decode cX9_fours 34 = .ok (.iconst 3, 1) := by decide +kernel
theorem dX9_fours_35 : decode cX9_fours 35 = .ok (.ireturn, 1) := by decide +kernel
theorem dX9_fours_36 : decode cX9_fours 36 = .ok (.iload_n 1, 1) := by decide +kernel
theorem dX9_fours_37 : decode cX9_fours 37 = .ok (.bipush 108, 2) := by decide +kernel
theorem dX9_fours_39 : decode cX9_fours 39 = .ok (.if_icmp .eq 9, 3) := by decide +kernel
theorem dX9_fours_42 : decode cX9_fours 42 = .ok (.iload_n 1, 1) := by decide +kernel
theorem dX9_fours_43 : decode cX9_fours 43 = .ok (.bipush 124, 2) := by decide +kernel
theorem dX9_fours_45 : decode cX9_fours 45 = .ok (.if_icmp .ne 38, 3) := by decide +kernel
theorem dX9_fours_48 : decode cX9_fours 48 = .ok (.aload_n 0, 1) := by decide +kernel
theorem dX9_fours_49 : decode cX9_fours 49 = .ok (.aload_n 0, 1) := by decide +kernel
theorem dX9_fours_50 : decode cX9_fours 50 = .ok (.iload_n 1, 1) := by decide +kernel
theorem dX9_fours_51 : decode cX9_fours 51 = .ok (.bipush 108, 2) := by decide +kernel
theorem dX9_fours_53 : decode cX9_fours 53 = .ok (.if_icmp .ne 10, 3) := by decide +kernel
theorem dX9_fours_56 : decode cX9_fours 56 = .ok (.aload_n 0, 1) := by decide +kernel
theorem dX9_fours_57 : decode cX9_fours 57 = .ok (.getfield 120, 3) := by decide +kernel
theorem dX9_fours_60 : decode cX9_fours 60 = .ok (.goto 14, 3) := by decide +kernel
theorem dX9_fours_63 : decode cX9_fours 63 = .ok (.aload_n 0, 1) := by decide +kernel
theorem dX9_fours_64 : decode cX9_fours 64 = .ok (.getfield 120, 3) := by decide +kernel
theorem dX9_fours_67 : decode cX9_fours 67 = .ok (.aload_n 0, 1) := by decide +kernel
theorem dX9_fours_68 : decode cX9_fours 68 = .ok (.getfield 14, 3) := by decide +kernel
theorem dX9_fours_71 : decode cX9_fours 71 = .ok (.iconst 1, 1) := by decide +kernel
theorem dX9_fours_72 : decode cX9_fours 72 = .ok (.iaload, 1) := by decide +kernel
theorem dX9_fours_73 : decode cX9_fours 73 = .ok (.iadd, 1) := by decide +kernel
theorem dX9_fours_74 : decode cX9_fours 74 = .ok (.invokevirtual 179, 3) := by decide +kernel
theorem dX9_fours_77 : decode cX9_fours 77 = .ok (.putfield 176, 3) := by decide +kernel
theorem dX9_fours_80 : decode cX9_fours 80 = .ok (.bipush 6, 2) := by decide +kernel
theorem dX9_fours_82 : decode cX9_fours 82 = .ok (.ireturn, 1) := by decide +kernel
theorem dX9_fours_83 : decode cX9_fours 83 = .ok (.iload_n 1, 1) := by decide +kernel
theorem dX9_fours_84 : decode cX9_fours 84 = .ok (.iconst 5, 1) := by decide +kernel
theorem dX9_fours_85 : decode cX9_fours 85 = .ok (.ishr, 1) := by decide +kernel
theorem dX9_fours_86 : decode cX9_fours 86 = .ok (.tableswitch 145 0 5 #[38, 70, 122, 76, 82, 115], 38) := by decide +kernel
theorem dX9_fours_124 : decode cX9_fours 124 = .ok (.aload_n 0, 1) := by decide +kernel
theorem dX9_fours_125 : decode cX9_fours 125 = .ok (.iload_n 3, 1) := by decide +kernel
theorem dX9_fours_126 : decode cX9_fours 126 = .ok (.ifCond .ne 7, 3) := by decide +kernel
theorem dX9_fours_129 : decode cX9_fours 129 = .ok (.iconst 1, 1) := by decide +kernel
theorem dX9_fours_130 : decode cX9_fours 130 = .ok (.goto 4, 3) := by decide +kernel
theorem dX9_fours_133 : decode cX9_fours 133 = .ok (.iconst 0, 1) := by decide +kernel
theorem dX9_fours_134 : decode cX9_fours 134 = .ok (.iload_n 3, 1) := by decide +kernel
theorem dX9_fours_135 : decode cX9_fours 135 = .ok (.ifCond .eq 16, 3) := by decide +kernel
theorem dX9_fours_138 : decode cX9_fours 138 = .ok (.iload_n 2, 1) := by decide +kernel
theorem dX9_fours_139 : decode cX9_fours 139 = .ok (.iconst 2, 1) := by decide +kernel
theorem dX9_fours_140 : decode cX9_fours 140 = .ok (.if_icmp .ne 7, 3) := by decide +kernel
theorem dX9_fours_143 : decode cX9_fours 143 = .ok (.iconst 1, 1) := by decide +kernel
theorem dX9_fours_144 : decode cX9_fours 144 = .ok (.goto 8, 3) := by decide +kernel
theorem dX9_fours_147 : decode cX9_fours 147 = .ok (.iconst 4, 1) := by decide +kernel
theorem dX9_fours_148 : decode cX9_fours 148 = .ok (.goto 4, 3) := by decide +kernel
theorem dX9_fours_151 : decode cX9_fours 151 = .ok (.iload_n 2, 1) := by decide +kernel
theorem dX9_fours_152 : decode cX9_fours 152 = .ok (.invokevirtual 182, 3) := by decide +kernel
theorem dX9_fours_155 : decode cX9_fours 155 = .ok (.ireturn, 1) := by decide +kernel
theorem dX9_fours_156 : decode cX9_fours 156 = .ok (.aload_n 0, 1) := by decide +kernel
theorem dX9_fours_157 : decode cX9_fours 157 = .ok (.iload_n 2, 1) := by decide +kernel
theorem dX9_fours_158 : decode cX9_fours 158 = .ok (.invokevirtual 186, 3) := by decide +kernel
theorem dX9_fours_161 : decode cX9_fours 161 = .ok (.ireturn, 1) := by decide +kernel
theorem dX9_fours_162 : decode cX9_fours 162 = .ok (.aload_n 0, 1) := by decide +kernel
theorem dX9_fours_163 : decode cX9_fours 163 = .ok (.iload_n 2, 1) := by decide +kernel
theorem dX9_fours_164 : decode cX9_fours 164 = .ok (.invokevirtual 189, 3) := by decide +kernel
theorem dX9_fours_167 : decode cX9_fours 167 = .ok (.ireturn, 1) := by decide +kernel
theorem dX9_fours_168 : decode cX9_fours 168 = .ok (.iload_n 1, 1) := by decide +kernel
theorem dX9_fours_169 : decode cX9_fours 169 = .ok (.sipush 156, 3) := by decide +kernel
theorem dX9_fours_172 : decode cX9_fours 172 = .ok (.if_icmp .ne 9, 3) := by decide +kernel
theorem dX9_fours_175 : decode cX9_fours 175 = .ok (.aload_n 0, 1) := by decide +kernel
theorem dX9_fours_176 : decode cX9_fours 176 = .ok (.iconst 4, 1) := by decide +kernel
theorem dX9_fours_177 : decode cX9_fours 177 = .ok (.invokevirtual 189, 3) := by decide +kernel
theorem dX9_fours_180 : decode cX9_fours 180 = .ok (.ireturn, 1) := by decide +kernel
theorem dX9_fours_181 : decode cX9_fours 181 = .ok (.aload_n 0, 1) := by decide +kernel
theorem dX9_fours_182 : decode cX9_fours 182 = .ok (.aload_n 0, 1) := by decide +kernel
theorem dX9_fours_183 : decode cX9_fours 183 = .ok (.iload_n 2, 1) := by decide +kernel
theorem dX9_fours_184 : decode cX9_fours 184 = .ok (.invokevirtual 130, 3) := by decide +kernel
theorem dX9_fours_187 : decode cX9_fours 187 = .ok (.aload_n 0, 1) := by decide +kernel
theorem dX9_fours_188 : decode cX9_fours 188 = .ok (.getfield 14, 3) := by decide +kernel
theorem dX9_fours_191 : decode cX9_fours 191 = .ok (.iconst 2, 1) := by decide +kernel
theorem dX9_fours_192 : decode cX9_fours 192 = .ok (.iaload, 1) := by decide +kernel
theorem dX9_fours_193 : decode cX9_fours 193 = .ok (.invokevirtual 103, 3) := by decide +kernel
theorem dX9_fours_196 : decode cX9_fours 196 = .ok (.iload_n 2, 1) := by decide +kernel
theorem dX9_fours_197 : decode cX9_fours 197 = .ok (.invokestatic 136, 3) := by decide +kernel
theorem dX9_fours_200 : decode cX9_fours 200 = .ok (.ireturn, 1) := by decide +kernel
theorem dX9_fours_201 : decode cX9_fours 201 = .ok (.aload_n 0, 1) := by decide +kernel
theorem dX9_fours_202 : decode cX9_fours 202 = .ok (.iconst 2, 1) := by decide +kernel
theorem dX9_fours_203 : decode cX9_fours 203 = .ok (.iload_n 2, 1) := by decide +kernel
theorem dX9_fours_204 : decode cX9_fours 204 = .ok (.invokevirtual 173, 3) := by decide +kernel
theorem dX9_fours_207 : decode cX9_fours 207 = .ok (.ireturn, 1) := by decide +kernel
theorem dX9_fours_208 : decode cX9_fours 208 = .ok (.iload_n 1, 1) := by decide +kernel
theorem dX9_fours_209 : decode cX9_fours 209 = .ok (.bipush 68, 2) := by decide +kernel
theorem dX9_fours_211 : decode cX9_fours 211 = .ok (.if_icmp .ne 7, 3) := by decide +kernel
theorem dX9_fours_214 : decode cX9_fours 214 = .ok (.iconst 3, 1) := by decide +kernel
theorem dX9_fours_215 : decode cX9_fours 215 = .ok (.goto 15, 3) := by decide +kernel
theorem dX9_fours_218 : decode cX9_fours 218 = .ok (.iload_n 1, 1) := by decide +kernel
theorem dX9_fours_219 : decode cX9_fours 219 = .ok (.bipush 84, 2) := by decide +kernel
theorem dX9_fours_221 : decode cX9_fours 221 = .ok (.if_icmp .ne 7, 3) := by decide +kernel
theorem dX9_fours_224 : decode cX9_fours 224 = .ok (.iconst 4, 1) := by decide +kernel
theorem dX9_fours_225 : decode cX9_fours 225 = .ok (.goto 5, 3) := by decide +kernel
theorem dX9_fours_228 : decode cX9_fours 228 = .ok (.bipush 8, 2) := by decide +kernel
theorem dX9_fours_230 : decode cX9_fours 230 = .ok (.ireturn, 1) := by decide +kernel
theorem dX9_fours_231 : decode cX9_fours 231 = .ok (.iload_n 3, 1) := by decide +kernel
theorem dX9_fours_232 : decode cX9_fours 232 = .ok (.ifCond .eq 7, 3) := by decide +kernel
theorem dX9_fours_235 : decode cX9_fours 235 = .ok (.iconst 4, 1) := by decide +kernel
theorem dX9_fours_236 : decode cX9_fours 236 = .ok (.goto 21, 3) := by decide +kernel
theorem dX9_fours_239 : decode cX9_fours 239 = .ok (.aload_n 0, 1) := by decide +kernel
theorem dX9_fours_240 : decode cX9_fours 240 = .ok (.iload_n 1, 1) := by decide +kernel
theorem dX9_fours_241 : decode cX9_fours 241 = .ok (.iconst 5, 1) := by decide +kernel
theorem dX9_fours_242 : decode cX9_fours 242 = .ok (.ishr, 1) := by decide +kernel
theorem dX9_fours_243 : decode cX9_fours 243 = .ok (.bipush 6, 2) := by decide +kernel
theorem dX9_fours_245 : decode cX9_fours 245 = .ok (.if_icmp .ne 7, 3) := by decide +kernel
theorem dX9_fours_248 : decode cX9_fours 248 = .ok (.iconst 2, 1) := by decide +kernel
theorem dX9_fours_249 : decode cX9_fours 249 = .ok (.goto 4, 3) := by decide +kernel
theorem dX9_fours_252 : decode cX9_fours 252 = .ok (.iconst 1, 1) := by decide +kernel
theorem dX9_fours_253 : decode cX9_fours 253 = .ok (.iload_n 2, 1) := by decide +kernel
theorem dX9_fours_254 : decode cX9_fours 254 = .ok (.invokevirtual 192, 3) := by decide +kernel
theorem dX9_fours_257 : decode cX9_fours 257 = .ok (.ireturn, 1) := by decide +kernel
theorem dX9_jump_0 : decode cX9_jump 0 = .ok (.iload_n 1, 1) := by decide +kernel
theorem dX9_jump_1 : decode cX9_jump 1 = .ok (.ifCond .ne 5, 3) := by decide +kernel
theorem dX9_jump_4 : decode cX9_jump 4 = .ok (.iload_n 3, 1) := by decide +kernel
theorem dX9_jump_5 : decode cX9_jump 5 = .ok (.ireturn, 1) := by decide +kernel
theorem dX9_jump_6 : decode cX9_jump 6 = .ok (.aload_n 0, 1) := by decide +kernel
theorem dX9_jump_7 : decode cX9_jump 7 = .ok (.getfield 176, 3) := by decide +kernel
theorem dX9_jump_10 : decode cX9_jump 10 = .ok (.istore 4, 2) := by decide +kernel
theorem dX9_jump_12 : decode cX9_jump 12 = .ok (.aload_n 0, 1) := by decide +kernel
theorem dX9_jump_13 : decode cX9_jump 13 = .ok (.aload_n 0, 1) := by decide +kernel
theorem dX9_jump_14 : decode cX9_jump 14 = .ok (.getfield 176, 3) := by decide +kernel
theorem dX9_jump_17 : decode cX9_jump 17 = .ok (.iload_n 2, 1) := by decide +kernel
theorem dX9_jump_18 : decode cX9_jump 18 = .ok (.bipush 127, 2) := by decide +kernel
theorem dX9_jump_20 : decode cX9_jump 20 = .ok (.if_icmp .le 11, 3) := by decide +kernel
theorem dX9_jump_23 : decode cX9_jump 23 = .ok (.iload_n 2, 1) := by decide +kernel
theorem dX9_jump_24 : decode cX9_jump 24 = .ok (.sipush 256, 3) := by decide +kernel
theorem dX9_jump_27 : decode cX9_jump 27 = .ok (.isub, 1) := by decide +kernel
theorem dX9_jump_28 : decode cX9_jump 28 = .ok (.goto 4, 3) := by decide +kernel
theorem dX9_jump_31 : decode cX9_jump 31 = .ok (.iload_n 2, 1) := by decide +kernel
theorem dX9_jump_32 : decode cX9_jump 32 = .ok (.iadd, 1) := by decide +kernel
theorem dX9_jump_33 : decode cX9_jump 33 = .ok (.ldc 36, 2) := by decide +kernel
theorem dX9_jump_35 : decode cX9_jump 35 = .ok (.iand, 1) := by decide +kernel
theorem dX9_jump_36 : decode cX9_jump 36 = .ok (.putfield 176, 3) := by decide +kernel
theorem dX9_jump_39 : decode cX9_jump 39 = .ok (.iload_n 3, 1) := by decide +kernel
theorem dX9_jump_40 : decode cX9_jump 40 = .ok (.aload_n 0, 1) := by decide +kernel
theorem dX9_jump_41 : decode cX9_jump 41 = .ok (.getfield 176, 3) := by decide +kernel
theorem dX9_jump_44 : decode cX9_jump 44 = .ok (.bipush 8, 2) := by decide +kernel
theorem dX9_jump_46 : decode cX9_jump 46 = .ok (.ishr, 1) := by decide +kernel
theorem dX9_jump_47 : decode cX9_jump 47 = .ok (.iload 4, 2) := by decide +kernel
theorem dX9_jump_49 : decode cX9_jump 49 = .ok (.bipush 8, 2) := by decide +kernel
theorem dX9_jump_51 : decode cX9_jump 51 = .ok (.ishr, 1) := by decide +kernel
theorem dX9_jump_52 : decode cX9_jump 52 = .ok (.if_icmp .ne 7, 3) := by decide +kernel
theorem dX9_jump_55 : decode cX9_jump 55 = .ok (.iconst 1, 1) := by decide +kernel
theorem dX9_jump_56 : decode cX9_jump 56 = .ok (.goto 4, 3) := by decide +kernel
theorem dX9_jump_59 : decode cX9_jump 59 = .ok (.iconst 2, 1) := by decide +kernel
theorem dX9_jump_60 : decode cX9_jump 60 = .ok (.iadd, 1) := by decide +kernel
theorem dX9_jump_61 : decode cX9_jump 61 = .ok (.ireturn, 1) := by decide +kernel
theorem dX9_branch_0 : decode cX9_branch 0 = .ok (.iload_n 1, 1) := by decide +kernel
theorem dX9_branch_1 : decode cX9_branch 1 = .ok (.bipush 6, 2) := by decide +kernel
theorem dX9_branch_3 : decode cX9_branch 3 = .ok (.ishr, 1) := by decide +kernel
theorem dX9_branch_4 : decode cX9_branch 4 = .ok (.ifCond .ne 9, 3) := by decide +kernel
theorem dX9_branch_7 : decode cX9_branch 7 = .ok (.sipush 128, 3) := by decide +kernel
theorem dX9_branch_10 : decode cX9_branch 10 = .ok (.goto 29, 3) := by decide +kernel
theorem dX9_branch_13 : decode cX9_branch 13 = .ok (.iload_n 1, 1) := by decide +kernel
theorem dX9_branch_14 : decode cX9_branch 14 = .ok (.bipush 6, 2) := by decide +kernel
theorem dX9_branch_16 : decode cX9_branch 16 = .ok (.ishr, 1) := by decide +kernel
theorem dX9_branch_17 : decode cX9_branch 17 = .ok (.iconst 1, 1) := by decide +kernel
theorem dX9_branch_18 : decode cX9_branch 18 = .ok (.if_icmp .ne 8, 3) := by decide +kernel
theorem dX9_branch_21 : decode cX9_branch 21 = .ok (.bipush 64, 2) := by decide +kernel
theorem dX9_branch_23 : decode cX9_branch 23 = .ok (.goto 16, 3) := by decide +kernel
theorem dX9_branch_26 : decode cX9_branch 26 = .ok (.iload_n 1, 1) := by decide +kernel
theorem dX9_branch_27 : decode cX9_branch 27 = .ok (.bipush 6, 2) := by decide +kernel
theorem dX9_branch_29 : decode cX9_branch 29 = .ok (.ishr, 1) := by decide +kernel
theorem dX9_branch_30 : decode cX9_branch 30 = .ok (.iconst 2, 1) := by decide +kernel
theorem dX9_branch_31 : decode cX9_branch 31 = .ok (.if_icmp .ne 7, 3) := by decide +kernel
theorem dX9_branch_34 : decode cX9_branch 34 = .ok (.iconst 1, 1) := by decide +kernel
theorem dX9_branch_35 : decode cX9_branch 35 = .ok (.goto 4, 3) := by decide +kernel
theorem dX9_branch_38 : decode cX9_branch 38 = .ok (.iconst 2, 1) := by decide +kernel
theorem dX9_branch_39 : decode cX9_branch 39 = .ok (.istore_n 2, 1) := by decide +kernel
theorem dX9_branch_40 : decode cX9_branch 40 = .ok (.iload_n 1, 1) := by decide +kernel
theorem dX9_branch_41 : decode cX9_branch 41 = .ok (.iconst 5, 1) := by decide +kernel
theorem dX9_branch_42 : decode cX9_branch 42 = .ok (.ishr, 1) := by decide +kernel
theorem dX9_branch_43 : decode cX9_branch 43 = .ok (.iconst 1, 1) := by decide +kernel
theorem dX9_branch_44 : decode cX9_branch 44 = .ok (.iand, 1) := by decide +kernel
theorem dX9_branch_45 : decode cX9_branch 45 = .ok (.iconst 1, 1) := by decide +kernel
theorem dX9_branch_46 : decode cX9_branch 46 = .ok (.if_icmp .ne 7, 3) := by decide +kernel
theorem dX9_branch_49 : decode cX9_branch 49 = .ok (.iconst 1, 1) := by decide +kernel
theorem dX9_branch_50 : decode cX9_branch 50 = .ok (.goto 4, 3) := by decide +kernel
theorem dX9_branch_53 : decode cX9_branch 53 = .ok (.iconst 0, 1) := by decide +kernel
theorem dX9_branch_54 : decode cX9_branch 54 = .ok (.istore_n 3, 1) := by decide +kernel
theorem dX9_branch_55 : decode cX9_branch 55 = .ok (.aload_n 0, 1) := by decide +kernel
theorem dX9_branch_56 : decode cX9_branch 56 = .ok (.iload_n 1, 1) := by decide +kernel
theorem dX9_branch_57 : decode cX9_branch 57 = .ok (.sipush 128, 3) := by decide +kernel
theorem dX9_branch_60 : decode cX9_branch 60 = .ok (.if_icmp .eq 12, 3) := by decide +kernel
theorem dX9_branch_63 : decode cX9_branch 63 = .ok (.aload_n 0, 1) := by decide +kernel
theorem dX9_branch_64 : decode cX9_branch 64 = .ok (.iload_n 2, 1) := by decide +kernel
theorem dX9_branch_65 : decode cX9_branch 65 = .ok (.invokevirtual 157, 3) := by decide +kernel
theorem dX9_branch_68 : decode cX9_branch 68 = .ok (.iload_n 3, 1) := by decide +kernel
theorem dX9_branch_69 : decode cX9_branch 69 = .ok (.if_icmp .ne 7, 3) := by decide +kernel
theorem dX9_branch_72 : decode cX9_branch 72 = .ok (.iconst 1, 1) := by decide +kernel
theorem dX9_branch_73 : decode cX9_branch 73 = .ok (.goto 4, 3) := by decide +kernel
theorem dX9_branch_76 : decode cX9_branch 76 = .ok (.iconst 0, 1) := by decide +kernel
theorem dX9_branch_77 : decode cX9_branch 77 = .ok (.aload_n 0, 1) := by decide +kernel
theorem dX9_branch_78 : decode cX9_branch 78 = .ok (.getfield 117, 3) := by decide +kernel
theorem dX9_branch_81 : decode cX9_branch 81 = .ok (.iconst 2, 1) := by decide +kernel
theorem dX9_branch_82 : decode cX9_branch 82 = .ok (.invokevirtual 195, 3) := by decide +kernel
theorem dX9_branch_85 : decode cX9_branch 85 = .ok (.ireturn, 1) := by decide +kernel
theorem dX9_single_0 : decode cX9_single 0 = .ok (.iconst 1, 1) := by decide +kernel
theorem dX9_single_1 : decode cX9_single 1 = .ok (.iload_n 1, 1) := by decide +kernel
theorem dX9_single_2 : decode cX9_single 2 = .ok (.iconst 4, 1) := by decide +kernel
theorem dX9_single_3 : decode cX9_single 3 = .ok (.ishr, 1) := by decide +kernel
theorem dX9_single_4 : decode cX9_single 4 = .ok (.bipush 7, 2) := by decide +kernel
theorem dX9_single_6 : decode cX9_single 6 = .ok (.iand, 1) := by decide +kernel
theorem dX9_single_7 : decode cX9_single 7 = .ok (.ishl, 1) := by decide +kernel
theorem dX9_single_8 : decode cX9_single 8 = .ok (.istore_n 2, 1) := by decide +kernel
theorem dX9_single_9 : decode cX9_single 9 = .ok (.iload_n 1, 1) := by decide +kernel
theorem dX9_single_10 : decode cX9_single 10 = .ok (.bipush 127, 2) := by decide +kernel
theorem dX9_single_12 : decode cX9_single 12 = .ok (.if_icmp .le 7, 3) := by decide +kernel
theorem dX9_single_15 : decode cX9_single 15 = .ok (.iconst 1, 1) := by decide +kernel
theorem dX9_single_16 : decode cX9_single 16 = .ok (.goto 4, 3) := by decide +kernel
theorem dX9_single_19 : decode cX9_single 19 = .ok (.iconst 0, 1) := by decide +kernel
theorem dX9_single_20 : decode cX9_single 20 = .ok (.istore_n 3, 1) := by decide +kernel
theorem dX9_single_21 : decode cX9_single 21 = .ok (.aload_n 0, 1) := by decide +kernel
theorem dX9_single_22 : decode cX9_single 22 = .ok (.aload_n 0, 1) := by decide +kernel
theorem dX9_single_23 : decode cX9_single 23 = .ok (.getfield 117, 3) := by decide +kernel
theorem dX9_single_26 : decode cX9_single 26 = .ok (.invokevirtual 100, 3) := by decide +kernel
theorem dX9_single_29 : decode cX9_single 29 = .ok (.istore 4, 2) := by decide +kernel
theorem dX9_single_31 : decode cX9_single 31 = .ok (.iload_n 1, 1) := by decide +kernel
theorem dX9_single_32 : decode cX9_single 32 = .ok (.bipush 15, 2) := by decide +kernel
theorem dX9_single_34 : decode cX9_single 34 = .ok (.iand, 1) := by decide +kernel
theorem dX9_single_35 : decode cX9_single 35 = .ok (.bipush 15, 2) := by decide +kernel
theorem dX9_single_37 : decode cX9_single 37 = .ok (.if_icmp .ne 37, 3) := by decide +kernel
theorem dX9_single_40 : decode cX9_single 40 = .ok (.aload_n 0, 1) := by decide +kernel
theorem dX9_single_41 : decode cX9_single 41 = .ok (.iload 4, 2) := by decide +kernel
theorem dX9_single_43 : decode cX9_single 43 = .ok (.iload_n 2, 1) := by decide +kernel
theorem dX9_single_44 : decode cX9_single 44 = .ok (.iand, 1) := by decide +kernel
theorem dX9_single_45 : decode cX9_single 45 = .ok (.ifCond .eq 7, 3) := by decide +kernel
theorem dX9_single_48 : decode cX9_single 48 = .ok (.iconst 1, 1) := by decide +kernel
theorem dX9_single_49 : decode cX9_single 49 = .ok (.goto 4, 3) := by decide +kernel
theorem dX9_single_52 : decode cX9_single 52 = .ok (.iconst 0, 1) := by decide +kernel
theorem dX9_single_53 : decode cX9_single 53 = .ok (.iload_n 3, 1) := by decide +kernel
theorem dX9_single_54 : decode cX9_single 54 = .ok (.if_icmp .ne 7, 3) := by decide +kernel
theorem dX9_single_57 : decode cX9_single 57 = .ok (.iconst 1, 1) := by decide +kernel
theorem dX9_single_58 : decode cX9_single 58 = .ok (.goto 4, 3) := by decide +kernel
theorem dX9_single_61 : decode cX9_single 61 = .ok (.iconst 0, 1) := by decide +kernel
theorem dX9_single_62 : decode cX9_single 62 = .ok (.aload_n 0, 1) := by decide +kernel
theorem dX9_single_63 : decode cX9_single 63 = .ok (.getfield 120, 3) := by decide +kernel
theorem dX9_single_66 : decode cX9_single 66 = .ok (.bipush 8, 2) := by decide +kernel
theorem dX9_single_68 : decode cX9_single 68 = .ok (.ishr, 1) := by decide +kernel
theorem dX9_single_69 : decode cX9_single 69 = .ok (.iconst 5, 1) := by decide +kernel
theorem dX9_single_70 : decode cX9_single 70 = .ok (.invokevirtual 195, 3) := by decide +kernel
theorem dX9_single_73 : decode cX9_single 73 = .ok (.ireturn, 1) := by decide +kernel
theorem dX9_single_74 : decode cX9_single 74 = .ok (.aload_n 0, 1) := by decide +kernel
theorem dX9_single_75 : decode cX9_single 75 = .ok (.aload_n 0, 1) := by decide +kernel
theorem dX9_single_76 : decode cX9_single 76 = .ok (.getfield 117, 3) := by decide +kernel
theorem dX9_single_79 : decode cX9_single 79 = .ok (.iload_n 3, 1) := by decide +kernel
theorem dX9_single_80 : decode cX9_single 80 = .ok (.ifCond .eq 10, 3) := by decide +kernel
theorem dX9_single_83 : decode cX9_single 83 = .ok (.iload 4, 2) := by decide +kernel
theorem dX9_single_85 : decode cX9_single 85 = .ok (.iload_n 2, 1) := by decide +kernel
theorem dX9_single_86 : decode cX9_single 86 = .ok (.ior, 1) := by decide +kernel
theorem dX9_single_87 : decode cX9_single 87 = .ok (.goto 9, 3) := by decide +kernel
theorem dX9_single_90 : decode cX9_single 90 = .ok (.iload 4, 2) := by decide +kernel
theorem dX9_single_92 : decode cX9_single 92 = .ok (.iload_n 2, 1) := by decide +kernel
theorem dX9_single_93 : decode cX9_single 93 = .ok (.iconst (-1), 1) := by decide +kernel
theorem dX9_single_94 : decode cX9_single 94 = .ok (.ixor, 1) := by decide +kernel
theorem dX9_single_95 : decode cX9_single 95 = .ok (.iand, 1) := by decide +kernel
theorem dX9_single_96 : decode cX9_single 96 = .ok (.invokevirtual 103, 3) := by decide +kernel
theorem dX9_single_99 : decode cX9_single 99 = .ok (.iconst 5, 1) := by decide +kernel
theorem dX9_single_100 : decode cX9_single 100 = .ok (.ireturn, 1) := by decide +kernel
theorem dX9_interrupt_0 : decode cX9_interrupt 0 = .ok (.aload_n 0, 1) := by decide +kernel
theorem dX9_interrupt_1 : decode cX9_interrupt 1 = .ok (.aload_n 0, 1) := by decide +kernel
theorem dX9_interrupt_2 : decode cX9_interrupt 2 = .ok (.getfield 176, 3) := by decide +kernel
theorem dX9_interrupt_5 : decode cX9_interrupt 5 = .ok (.bipush 8, 2) := by decide +kernel
theorem dX9_interrupt_7 : decode cX9_interrupt 7 = .ok (.ishr, 1) := by decide +kernel
theorem dX9_interrupt_8 : decode cX9_interrupt 8 = .ok (.invokevirtual 199, 3) := by decide +kernel
theorem dX9_interrupt_11 : decode cX9_interrupt 11 = .ok (.aload_n 0, 1) := by decide +kernel
theorem dX9_interrupt_12 : decode cX9_interrupt 12 = .ok (.aload_n 0, 1) := by decide +kernel
theorem dX9_interrupt_13 : decode cX9_interrupt 13 = .ok (.getfield 176, 3) := by decide +kernel
theorem dX9_interrupt_16 : decode cX9_interrupt 16 = .ok (.sipush 255, 3) := by decide +kernel
theorem dX9_interrupt_19 : decode cX9_interrupt 19 = .ok (.iand, 1) := by decide +kernel
theorem dX9_interrupt_20 : decode cX9_interrupt 20 = .ok (.invokevirtual 199, 3) := by decide +kernel
theorem dX9_interrupt_23 : decode cX9_interrupt 23 = .ok (.aload_n 0, 1) := by decide +kernel
theorem dX9_interrupt_24 : decode cX9_interrupt 24 = .ok (.iload_n 2, 1) := by decide +kernel
theorem dX9_interrupt_25 : decode cX9_interrupt 25 = .ok (.ifCond .eq 13, 3) := by decide +kernel
theorem dX9_interrupt_28 : decode cX9_interrupt 28 = .ok (.aload_n 0, 1) := by decide +kernel
theorem dX9_interrupt_29 : decode cX9_interrupt 29 = .ok (.getfield 107, 3) := by decide +kernel
theorem dX9_interrupt_32 : decode cX9_interrupt 32 = .ok (.bipush 48, 2) := by decide +kernel
theorem dX9_interrupt_34 : decode cX9_interrupt 34 = .ok (.ior, 1) := by decide +kernel
theorem dX9_interrupt_35 : decode cX9_interrupt 35 = .ok (.goto 13, 3) := by decide +kernel
theorem dX9_interrupt_38 : decode cX9_interrupt 38 = .ok (.aload_n 0, 1) := by decide +kernel
theorem dX9_interrupt_39 : decode cX9_interrupt 39 = .ok (.getfield 107, 3) := by decide +kernel
theorem dX9_interrupt_42 : decode cX9_interrupt 42 = .ok (.bipush (-17), 2) := by decide +kernel
theorem dX9_interrupt_44 : decode cX9_interrupt 44 = .ok (.iand, 1) := by decide +kernel
theorem dX9_interrupt_45 : decode cX9_interrupt 45 = .ok (.bipush 32, 2) := by decide +kernel
theorem dX9_interrupt_47 : decode cX9_interrupt 47 = .ok (.ior, 1) := by decide +kernel
theorem dX9_interrupt_48 : decode cX9_interrupt 48 = .ok (.invokevirtual 199, 3) := by decide +kernel
theorem dX9_interrupt_51 : decode cX9_interrupt 51 = .ok (.aload_n 0, 1) := by decide +kernel
theorem dX9_interrupt_52 : decode cX9_interrupt 52 = .ok (.iconst 4, 1) := by decide +kernel
theorem dX9_interrupt_53 : decode cX9_interrupt 53 = .ok (.iconst 1, 1) := by decide +kernel
theorem dX9_interrupt_54 : decode cX9_interrupt 54 = .ok (.invokevirtual 110, 3) := by decide +kernel
theorem dX9_interrupt_57 : decode cX9_interrupt 57 = .ok (.aload_n 0, 1) := by decide +kernel
theorem dX9_interrupt_58 : decode cX9_interrupt 58 = .ok (.bipush 8, 2) := by decide +kernel
theorem dX9_interrupt_60 : decode cX9_interrupt 60 = .ok (.iconst 0, 1) := by decide +kernel
theorem dX9_interrupt_61 : decode cX9_interrupt 61 = .ok (.invokevirtual 110, 3) := by decide +kernel
theorem dX9_interrupt_64 : decode cX9_interrupt 64 = .ok (.aload_n 0, 1) := by decide +kernel
theorem dX9_interrupt_65 : decode cX9_interrupt 65 = .ok (.aload_n 0, 1) := by decide +kernel
theorem dX9_interrupt_66 : decode cX9_interrupt 66 = .ok (.iload_n 1, 1) := by decide +kernel
theorem dX9_interrupt_67 : decode cX9_interrupt 67 = .ok (.invokevirtual 179, 3) := by decide +kernel
theorem dX9_interrupt_70 : decode cX9_interrupt 70 = .ok (.putfield 176, 3) := by decide +kernel
theorem dX9_interrupt_73 : decode cX9_interrupt 73 = .ok (.return_, 1) := by decide +kernel
theorem dX9_calls_0 : decode cX9_calls 0 = .ok (.iload_n 1, 1) := by decide +kernel
theorem dX9_calls_1 : decode cX9_calls 1 = .ok (.bipush 32, 2) := by decide +kernel
theorem dX9_calls_3 : decode cX9_calls 3 = .ok (.if_icmp .ne 45, 3) := by decide +kernel
theorem dX9_calls_6 : decode cX9_calls 6 = .ok (.aload_n 0, 1) := by decide +kernel
theorem dX9_calls_7 : decode cX9_calls 7 = .ok (.aload_n 0, 1) := by decide +kernel
theorem dX9_calls_8 : decode cX9_calls 8 = .ok (.getfield 176, 3) := by decide +kernel
theorem dX9_calls_11 : decode cX9_calls 11 = .ok (.iconst 1, 1) := by decide +kernel
theorem dX9_calls_12 : decode cX9_calls 12 = .ok (.isub, 1) := by decide +kernel
theorem dX9_calls_13 : decode cX9_calls 13 = .ok (.bipush 8, 2) := by decide +kernel
theorem dX9_calls_15 : decode cX9_calls 15 = .ok (.ishr, 1) := by decide +kernel
theorem dX9_calls_16 : decode cX9_calls 16 = .ok (.sipush 255, 3) := by decide +kernel
theorem dX9_calls_19 : decode cX9_calls 19 = .ok (.iand, 1) := by decide +kernel
theorem dX9_calls_20 : decode cX9_calls 20 = .ok (.invokevirtual 199, 3) := by decide +kernel
theorem dX9_calls_23 : decode cX9_calls 23 = .ok (.aload_n 0, 1) := by decide +kernel
theorem dX9_calls_24 : decode cX9_calls 24 = .ok (.aload_n 0, 1) := by decide +kernel
theorem dX9_calls_25 : decode cX9_calls 25 = .ok (.getfield 176, 3) := by decide +kernel
theorem dX9_calls_28 : decode cX9_calls 28 = .ok (.iconst 1, 1) := by decide +kernel
theorem dX9_calls_29 : decode cX9_calls 29 = .ok (.isub, 1) := by decide +kernel
theorem dX9_calls_30 : decode cX9_calls 30 = .ok (.sipush 255, 3) := by decide +kernel
theorem dX9_calls_33 : decode cX9_calls 33 = .ok (.iand, 1) := by decide +kernel
theorem dX9_calls_34 : decode cX9_calls 34 = .ok (.invokevirtual 199, 3) := by decide +kernel
theorem dX9_calls_37 : decode cX9_calls 37 = .ok (.aload_n 0, 1) := by decide +kernel
theorem dX9_calls_38 : decode cX9_calls 38 = .ok (.aload_n 0, 1) := by decide +kernel
theorem dX9_calls_39 : decode cX9_calls 39 = .ok (.getfield 120, 3) := by decide +kernel
theorem dX9_calls_42 : decode cX9_calls 42 = .ok (.putfield 176, 3) := by decide +kernel
theorem dX9_calls_45 : decode cX9_calls 45 = .ok (.bipush 6, 2) := by decide +kernel
theorem dX9_calls_47 : decode cX9_calls 47 = .ok (.ireturn, 1) := by decide +kernel
theorem dX9_calls_48 : decode cX9_calls 48 = .ok (.iload_n 1, 1) := by decide +kernel
theorem dX9_calls_49 : decode cX9_calls 49 = .ok (.ifCond .ne 26, 3) := by decide +kernel
theorem dX9_calls_52 : decode cX9_calls 52 = .ok (.aload_n 0, 1) := by decide +kernel
theorem dX9_calls_53 : decode cX9_calls 53 = .ok (.aload_n 0, 1) := by decide +kernel
theorem dX9_calls_54 : decode cX9_calls 54 = .ok (.getfield 176, 3) := by decide +kernel
theorem dX9_calls_57 : decode cX9_calls 57 = .ok (.iconst 1, 1) := by decide +kernel
theorem dX9_calls_58 : decode cX9_calls 58 = .ok (.iadd, 1) := by decide +kernel
theorem dX9_calls_59 : decode cX9_calls 59 = .ok (.ldc 36, 2) := by decide +kernel
theorem dX9_calls_61 : decode cX9_calls 61 = .ok (.iand, 1) := by decide +kernel
theorem dX9_calls_62 : decode cX9_calls 62 = .ok (.putfield 176, 3) := by decide +kernel
theorem dX9_calls_65 : decode cX9_calls 65 = .ok (.aload_n 0, 1) := by decide +kernel
theorem dX9_calls_66 : decode cX9_calls 66 = .ok (.ldc 203, 2) := by decide +kernel
theorem dX9_calls_68 : decode cX9_calls 68 = .ok (.iconst 1, 1) := by decide +kernel
theorem dX9_calls_69 : decode cX9_calls 69 = .ok (.invokevirtual 204, 3) := by decide +kernel
theorem dX9_calls_72 : decode cX9_calls 72 = .ok (.bipush 7, 2) := by decide +kernel
theorem dX9_calls_74 : decode cX9_calls 74 = .ok (.ireturn, 1) := by decide +kernel
theorem dX9_calls_75 : decode cX9_calls 75 = .ok (.iload_n 1, 1) := by decide +kernel
theorem dX9_calls_76 : decode cX9_calls 76 = .ok (.bipush 64, 2) := by decide +kernel
theorem dX9_calls_78 : decode cX9_calls 78 = .ok (.if_icmp .ne 14, 3) := by decide +kernel
theorem dX9_calls_81 : decode cX9_calls 81 = .ok (.aload_n 0, 1) := by decide +kernel
theorem dX9_calls_82 : decode cX9_calls 82 = .ok (.aload_n 0, 1) := by decide +kernel
theorem dX9_calls_83 : decode cX9_calls 83 = .ok (.invokevirtual 207, 3) := by decide +kernel
theorem dX9_calls_86 : decode cX9_calls 86 = .ok (.bipush 48, 2) := by decide +kernel
theorem dX9_calls_88 : decode cX9_calls 88 = .ok (.ior, 1) := by decide +kernel
theorem dX9_calls_89 : decode cX9_calls 89 = .ok (.putfield 107, 3) := by decide +kernel
theorem dX9_calls_92 : decode cX9_calls 92 = .ok (.aload_n 0, 1) := by decide +kernel
theorem dX9_calls_93 : decode cX9_calls 93 = .ok (.invokevirtual 207, 3) := by decide +kernel
theorem dX9_calls_96 : decode cX9_calls 96 = .ok (.istore_n 2, 1) := by decide +kernel
theorem dX9_calls_97 : decode cX9_calls 97 = .ok (.aload_n 0, 1) := by decide +kernel
theorem dX9_calls_98 : decode cX9_calls 98 = .ok (.iload_n 2, 1) := by decide +kernel
theorem dX9_calls_99 : decode cX9_calls 99 = .ok (.aload_n 0, 1) := by decide +kernel
theorem dX9_calls_100 : decode cX9_calls 100 = .ok (.invokevirtual 207, 3) := by decide +kernel
theorem dX9_calls_103 : decode cX9_calls 103 = .ok (.bipush 8, 2) := by decide +kernel
theorem dX9_calls_105 : decode cX9_calls 105 = .ok (.ishl, 1) := by decide +kernel
theorem dX9_calls_106 : decode cX9_calls 106 = .ok (.ior, 1) := by decide +kernel
theorem dX9_calls_107 : decode cX9_calls 107 = .ok (.putfield 176, 3) := by decide +kernel
theorem dX9_calls_110 : decode cX9_calls 110 = .ok (.aload_n 0, 1) := by decide +kernel
theorem dX9_calls_111 : decode cX9_calls 111 = .ok (.iload_n 1, 1) := by decide +kernel
theorem dX9_calls_112 : decode cX9_calls 112 = .ok (.bipush 96, 2) := by decide +kernel
theorem dX9_calls_114 : decode cX9_calls 114 = .ok (.if_icmp .ne 15, 3) := by decide +kernel
theorem dX9_calls_117 : decode cX9_calls 117 = .ok (.aload_n 0, 1) := by decide +kernel
theorem dX9_calls_118 : decode cX9_calls 118 = .ok (.getfield 176, 3) := by decide +kernel
theorem dX9_calls_121 : decode cX9_calls 121 = .ok (.iconst 1, 1) := by decide +kernel
theorem dX9_calls_122 : decode cX9_calls 122 = .ok (.iadd, 1) := by decide +kernel
theorem dX9_calls_123 : decode cX9_calls 123 = .ok (.ldc 36, 2) := by decide +kernel
theorem dX9_calls_125 : decode cX9_calls 125 = .ok (.iand, 1) := by decide +kernel
theorem dX9_calls_126 : decode cX9_calls 126 = .ok (.goto 7, 3) := by decide +kernel
theorem dX9_calls_129 : decode cX9_calls 129 = .ok (.aload_n 0, 1) := by decide +kernel
theorem dX9_calls_130 : decode cX9_calls 130 = .ok (.getfield 176, 3) := by decide +kernel
theorem dX9_calls_133 : decode cX9_calls 133 = .ok (.putfield 176, 3) := by decide +kernel
theorem dX9_calls_136 : decode cX9_calls 136 = .ok (.bipush 6, 2) := by decide +kernel
theorem dX9_calls_138 : decode cX9_calls 138 = .ok (.ireturn, 1) := by decide +kernel
theorem dX9_stacks_0 : decode cX9_stacks 0 = .ok (.iload_n 2, 1) := by decide +kernel
theorem dX9_stacks_1 : decode cX9_stacks 1 = .ok (.ifCond .eq 29, 3) := by decide +kernel
theorem dX9_stacks_4 : decode cX9_stacks 4 = .ok (.aload_n 0, 1) := by decide +kernel
theorem dX9_stacks_5 : decode cX9_stacks 5 = .ok (.iload_n 1, 1) := by decide +kernel
theorem dX9_stacks_6 : decode cX9_stacks 6 = .ok (.ifCond .ge 13, 3) := by decide +kernel
theorem dX9_stacks_9 : decode cX9_stacks 9 = .ok (.aload_n 0, 1) := by decide +kernel
theorem dX9_stacks_10 : decode cX9_stacks 10 = .ok (.getfield 107, 3) := by decide +kernel
theorem dX9_stacks_13 : decode cX9_stacks 13 = .ok (.bipush 48, 2) := by decide +kernel
theorem dX9_stacks_15 : decode cX9_stacks 15 = .ok (.ior, 1) := by decide +kernel
theorem dX9_stacks_16 : decode cX9_stacks 16 = .ok (.goto 9, 3) := by decide +kernel
theorem dX9_stacks_19 : decode cX9_stacks 19 = .ok (.aload_n 0, 1) := by decide +kernel
theorem dX9_stacks_20 : decode cX9_stacks 20 = .ok (.getfield 14, 3) := by decide +kernel
theorem dX9_stacks_23 : decode cX9_stacks 23 = .ok (.iload_n 1, 1) := by decide +kernel
theorem dX9_stacks_24 : decode cX9_stacks 24 = .ok (.iaload, 1) := by decide +kernel
theorem dX9_stacks_25 : decode cX9_stacks 25 = .ok (.invokevirtual 199, 3) := by decide +kernel
theorem dX9_stacks_28 : decode cX9_stacks 28 = .ok (.iconst 3, 1) := by decide +kernel
theorem dX9_stacks_29 : decode cX9_stacks 29 = .ok (.ireturn, 1) := by decide +kernel
theorem dX9_stacks_30 : decode cX9_stacks 30 = .ok (.aload_n 0, 1) := by decide +kernel
theorem dX9_stacks_31 : decode cX9_stacks 31 = .ok (.invokevirtual 207, 3) := by decide +kernel
theorem dX9_stacks_34 : decode cX9_stacks 34 = .ok (.istore_n 3, 1) := by decide +kernel
theorem dX9_stacks_35 : decode cX9_stacks 35 = .ok (.iload_n 1, 1) := by decide +kernel
theorem dX9_stacks_36 : decode cX9_stacks 36 = .ok (.ifCond .ge 14, 3) := by decide +kernel
theorem dX9_stacks_39 : decode cX9_stacks 39 = .ok (.aload_n 0, 1) := by decide +kernel
theorem dX9_stacks_40 : decode cX9_stacks 40 = .ok (.iload_n 3, 1) := by decide +kernel
theorem dX9_stacks_41 : decode cX9_stacks 41 = .ok (.bipush 48, 2) := by decide +kernel
theorem dX9_stacks_43 : decode cX9_stacks 43 = .ok (.ior, 1) := by decide +kernel
theorem dX9_stacks_44 : decode cX9_stacks 44 = .ok (.putfield 107, 3) := by decide +kernel
theorem dX9_stacks_47 : decode cX9_stacks 47 = .ok (.goto 14, 3) := by decide +kernel
theorem dX9_stacks_50 : decode cX9_stacks 50 = .ok (.aload_n 0, 1) := by decide +kernel
theorem dX9_stacks_51 : decode cX9_stacks 51 = .ok (.getfield 14, 3) := by decide +kernel
theorem dX9_stacks_54 : decode cX9_stacks 54 = .ok (.iload_n 1, 1) := by decide +kernel
theorem dX9_stacks_55 : decode cX9_stacks 55 = .ok (.aload_n 0, 1) := by decide +kernel
theorem dX9_stacks_56 : decode cX9_stacks 56 = .ok (.iload_n 3, 1) := by decide +kernel
theorem dX9_stacks_57 : decode cX9_stacks 57 = .ok (.invokevirtual 142, 3) := by decide +kernel
theorem dX9_stacks_60 : decode cX9_stacks 60 = .ok (.iastore, 1) := by decide +kernel
theorem dX9_stacks_61 : decode cX9_stacks 61 = .ok (.iconst 4, 1) := by decide +kernel
theorem dX9_stacks_62 : decode cX9_stacks 62 = .ok (.ireturn, 1) := by decide +kernel
theorem dX9_moved_0 : decode cX9_moved 0 = .ok (.aload_n 0, 1) := by decide +kernel
theorem dX9_moved_1 : decode cX9_moved 1 = .ok (.getfield 14, 3) := by decide +kernel
theorem dX9_moved_4 : decode cX9_moved 4 = .ok (.iload_n 1, 1) := by decide +kernel
theorem dX9_moved_5 : decode cX9_moved 5 = .ok (.aload_n 0, 1) := by decide +kernel
theorem dX9_moved_6 : decode cX9_moved 6 = .ok (.aload_n 0, 1) := by decide +kernel
theorem dX9_moved_7 : decode cX9_moved 7 = .ok (.getfield 14, 3) := by decide +kernel
theorem dX9_moved_10 : decode cX9_moved 10 = .ok (.iload_n 2, 1) := by decide +kernel
theorem dX9_moved_11 : decode cX9_moved 11 = .ok (.iaload, 1) := by decide +kernel
theorem dX9_moved_12 : decode cX9_moved 12 = .ok (.invokevirtual 142, 3) := by decide +kernel
theorem dX9_moved_15 : decode cX9_moved 15 = .ok (.iastore, 1) := by decide +kernel
theorem dX9_moved_16 : decode cX9_moved 16 = .ok (.iconst 2, 1) := by decide +kernel
theorem dX9_moved_17 : decode cX9_moved 17 = .ok (.ireturn, 1) := by decide +kernel
theorem dX9_counted_0 : decode cX9_counted 0 = .ok (.aload_n 0, 1) := by decide +kernel
theorem dX9_counted_1 : decode cX9_counted 1 = .ok (.getfield 14, 3) := by decide +kernel
theorem dX9_counted_4 : decode cX9_counted 4 = .ok (.iload_n 1, 1) := by decide +kernel
theorem dX9_counted_5 : decode cX9_counted 5 = .ok (.aload_n 0, 1) := by decide +kernel
theorem dX9_counted_6 : decode cX9_counted 6 = .ok (.aload_n 0, 1) := by decide +kernel
theorem dX9_counted_7 : decode cX9_counted 7 = .ok (.getfield 14, 3) := by decide +kernel
theorem dX9_counted_10 : decode cX9_counted 10 = .ok (.iload_n 1, 1) := by decide +kernel
theorem dX9_counted_11 : decode cX9_counted 11 = .ok (.iaload, 1) := by decide +kernel
theorem dX9_counted_12 : decode cX9_counted 12 = .ok (.iload_n 2, 1) := by decide +kernel
theorem dX9_counted_13 : decode cX9_counted 13 = .ok (.iadd, 1) := by decide +kernel
theorem dX9_counted_14 : decode cX9_counted 14 = .ok (.sipush 255, 3) := by decide +kernel
theorem dX9_counted_17 : decode cX9_counted 17 = .ok (.iand, 1) := by decide +kernel
theorem dX9_counted_18 : decode cX9_counted 18 = .ok (.invokevirtual 142, 3) := by decide +kernel
theorem dX9_counted_21 : decode cX9_counted 21 = .ok (.iastore, 1) := by decide +kernel
theorem dX9_counted_22 : decode cX9_counted 22 = .ok (.iconst 2, 1) := by decide +kernel
theorem dX9_counted_23 : decode cX9_counted 23 = .ok (.ireturn, 1) := by decide +kernel
theorem dX9_flagged_0 : decode cX9_flagged 0 = .ok (.aload_n 0, 1) := by decide +kernel
theorem dX9_flagged_1 : decode cX9_flagged 1 = .ok (.iload_n 1, 1) := by decide +kernel
theorem dX9_flagged_2 : decode cX9_flagged 2 = .ok (.iload_n 2, 1) := by decide +kernel
theorem dX9_flagged_3 : decode cX9_flagged 3 = .ok (.invokevirtual 110, 3) := by decide +kernel
theorem dX9_flagged_6 : decode cX9_flagged 6 = .ok (.iconst 2, 1) := by decide +kernel
theorem dX9_flagged_7 : decode cX9_flagged 7 = .ok (.ireturn, 1) := by decide +kernel
theorem dX9_eights_0 : decode cX9_eights 0 = .ok (.iload_n 1, 1) := by decide +kernel
theorem dX9_eights_1 : decode cX9_eights 1 = .ok (.iconst 4, 1) := by decide +kernel
theorem dX9_eights_2 : decode cX9_eights 2 = .ok (.ishr, 1) := by decide +kernel
theorem dX9_eights_3 : decode cX9_eights 3 = .ok (.tableswitch 180 0 14 #[73, 80, 87, 94, 101, 108, 115, 122, 129, 136, 143, 150, 158, 165, 173], 73) := by decide +kernel
theorem dX9_eights_76 : decode cX9_eights 76 = .ok (.aload_n 0, 1) := by decide +kernel
theorem dX9_eights_77 : decode cX9_eights 77 = .ok (.iconst (-1), 1) := by decide +kernel
theorem dX9_eights_78 : decode cX9_eights 78 = .ok (.iconst 1, 1) := by decide +kernel
theorem dX9_eights_79 : decode cX9_eights 79 = .ok (.invokevirtual 210, 3) := by decide +kernel
theorem dX9_eights_82 : decode cX9_eights 82 = .ok (.ireturn, 1) := by decide +kernel
theorem dX9_eights_83 : decode cX9_eights 83 = .ok (.aload_n 0, 1) := by decide +kernel
theorem dX9_eights_84 : decode cX9_eights 84 = .ok (.iconst 1, 1) := by decide +kernel
theorem dX9_eights_85 : decode cX9_eights 85 = .ok (.iconst 0, 1) := by decide +kernel
theorem dX9_eights_86 : decode cX9_eights 86 = .ok (.invokevirtual 214, 3) := by decide +kernel
theorem dX9_eights_89 : decode cX9_eights 89 = .ok (.ireturn, 1) := by decide +kernel
theorem dX9_eights_90 : decode cX9_eights 90 = .ok (.aload_n 0, 1) := by decide +kernel
theorem dX9_eights_91 : decode cX9_eights 91 = .ok (.iconst (-1), 1) := by decide +kernel
theorem dX9_eights_92 : decode cX9_eights 92 = .ok (.iconst 0, 1) := by decide +kernel
theorem dX9_eights_93 : decode cX9_eights 93 = .ok (.invokevirtual 210, 3) := by decide +kernel
theorem dX9_eights_96 : decode cX9_eights 96 = .ok (.ireturn, 1) := by decide +kernel
theorem dX9_eights_97 : decode cX9_eights 97 = .ok (.aload_n 0, 1) := by decide +kernel
theorem dX9_eights_98 : decode cX9_eights 98 = .ok (.iconst 1, 1) := by decide +kernel
theorem dX9_eights_99 : decode cX9_eights 99 = .ok (.iconst 1, 1) := by decide +kernel
theorem dX9_eights_100 : decode cX9_eights 100 = .ok (.invokevirtual 214, 3) := by decide +kernel
theorem dX9_eights_103 : decode cX9_eights 103 = .ok (.ireturn, 1) := by decide +kernel
theorem dX9_eights_104 : decode cX9_eights 104 = .ok (.aload_n 0, 1) := by decide +kernel
theorem dX9_eights_105 : decode cX9_eights 105 = .ok (.iconst 0, 1) := by decide +kernel
theorem dX9_eights_106 : decode cX9_eights 106 = .ok (.iconst 1, 1) := by decide +kernel
theorem dX9_eights_107 : decode cX9_eights 107 = .ok (.invokevirtual 210, 3) := by decide +kernel
theorem dX9_eights_110 : decode cX9_eights 110 = .ok (.ireturn, 1) := by decide +kernel
theorem dX9_eights_111 : decode cX9_eights 111 = .ok (.aload_n 0, 1) := by decide +kernel
theorem dX9_eights_112 : decode cX9_eights 112 = .ok (.iconst 4, 1) := by decide +kernel
theorem dX9_eights_113 : decode cX9_eights 113 = .ok (.iconst 0, 1) := by decide +kernel
theorem dX9_eights_114 : decode cX9_eights 114 = .ok (.invokevirtual 214, 3) := by decide +kernel
theorem dX9_eights_117 : decode cX9_eights 117 = .ok (.ireturn, 1) := by decide +kernel
theorem dX9_eights_118 : decode cX9_eights 118 = .ok (.aload_n 0, 1) := by decide +kernel
theorem dX9_eights_119 : decode cX9_eights 119 = .ok (.iconst 0, 1) := by decide +kernel
theorem dX9_eights_120 : decode cX9_eights 120 = .ok (.iconst 0, 1) := by decide +kernel
theorem dX9_eights_121 : decode cX9_eights 121 = .ok (.invokevirtual 210, 3) := by decide +kernel
theorem dX9_eights_124 : decode cX9_eights 124 = .ok (.ireturn, 1) := by decide +kernel
theorem dX9_eights_125 : decode cX9_eights 125 = .ok (.aload_n 0, 1) := by decide +kernel
theorem dX9_eights_126 : decode cX9_eights 126 = .ok (.iconst 4, 1) := by decide +kernel
theorem dX9_eights_127 : decode cX9_eights 127 = .ok (.iconst 1, 1) := by decide +kernel
theorem dX9_eights_128 : decode cX9_eights 128 = .ok (.invokevirtual 214, 3) := by decide +kernel
theorem dX9_eights_131 : decode cX9_eights 131 = .ok (.ireturn, 1) := by decide +kernel
theorem dX9_eights_132 : decode cX9_eights 132 = .ok (.aload_n 0, 1) := by decide +kernel
theorem dX9_eights_133 : decode cX9_eights 133 = .ok (.iconst 2, 1) := by decide +kernel
theorem dX9_eights_134 : decode cX9_eights 134 = .ok (.iconst (-1), 1) := by decide +kernel
theorem dX9_eights_135 : decode cX9_eights 135 = .ok (.invokevirtual 217, 3) := by decide +kernel
theorem dX9_eights_138 : decode cX9_eights 138 = .ok (.ireturn, 1) := by decide +kernel
theorem dX9_eights_139 : decode cX9_eights 139 = .ok (.aload_n 0, 1) := by decide +kernel
theorem dX9_eights_140 : decode cX9_eights 140 = .ok (.iconst 0, 1) := by decide +kernel
theorem dX9_eights_141 : decode cX9_eights 141 = .ok (.iconst 2, 1) := by decide +kernel
theorem dX9_eights_142 : decode cX9_eights 142 = .ok (.invokevirtual 220, 3) := by decide +kernel
theorem dX9_eights_145 : decode cX9_eights 145 = .ok (.ireturn, 1) := by decide +kernel
theorem dX9_eights_146 : decode cX9_eights 146 = .ok (.aload_n 0, 1) := by decide +kernel
theorem dX9_eights_147 : decode cX9_eights 147 = .ok (.iconst 2, 1) := by decide +kernel
theorem dX9_eights_148 : decode cX9_eights 148 = .ok (.iconst 0, 1) := by decide +kernel
theorem dX9_eights_149 : decode cX9_eights 149 = .ok (.invokevirtual 220, 3) := by decide +kernel
theorem dX9_eights_152 : decode cX9_eights 152 = .ok (.ireturn, 1) := by decide +kernel
theorem dX9_eights_153 : decode cX9_eights 153 = .ok (.aload_n 0, 1) := by decide +kernel
theorem dX9_eights_154 : decode cX9_eights 154 = .ok (.bipush 64, 2) := by decide +kernel
theorem dX9_eights_156 : decode cX9_eights 156 = .ok (.iconst 0, 1) := by decide +kernel
theorem dX9_eights_157 : decode cX9_eights 157 = .ok (.invokevirtual 214, 3) := by decide +kernel
theorem dX9_eights_160 : decode cX9_eights 160 = .ok (.ireturn, 1) := by decide +kernel
theorem dX9_eights_161 : decode cX9_eights 161 = .ok (.aload_n 0, 1) := by decide +kernel
theorem dX9_eights_162 : decode cX9_eights 162 = .ok (.iconst 2, 1) := by decide +kernel
theorem dX9_eights_163 : decode cX9_eights 163 = .ok (.iconst 1, 1) := by decide +kernel
theorem dX9_eights_164 : decode cX9_eights 164 = .ok (.invokevirtual 217, 3) := by decide +kernel
theorem dX9_eights_167 : decode cX9_eights 167 = .ok (.ireturn, 1) := by decide +kernel
theorem dX9_eights_168 : decode cX9_eights 168 = .ok (.aload_n 0, 1) := by decide +kernel
theorem dX9_eights_169 : decode cX9_eights 169 = .ok (.bipush 8, 2) := by decide +kernel
theorem dX9_eights_171 : decode cX9_eights 171 = .ok (.iconst 0, 1) := by decide +kernel
theorem dX9_eights_172 : decode cX9_eights 172 = .ok (.invokevirtual 214, 3) := by decide +kernel
theorem dX9_eights_175 : decode cX9_eights 175 = .ok (.ireturn, 1) := by decide +kernel
theorem dX9_eights_176 : decode cX9_eights 176 = .ok (.aload_n 0, 1) := by decide +kernel
theorem dX9_eights_177 : decode cX9_eights 177 = .ok (.iconst 1, 1) := by decide +kernel
theorem dX9_eights_178 : decode cX9_eights 178 = .ok (.iconst 1, 1) := by decide +kernel
theorem dX9_eights_179 : decode cX9_eights 179 = .ok (.invokevirtual 217, 3) := by decide +kernel
theorem dX9_eights_182 : decode cX9_eights 182 = .ok (.ireturn, 1) := by decide +kernel
theorem dX9_eights_183 : decode cX9_eights 183 = .ok (.aload_n 0, 1) := by decide +kernel
theorem dX9_eights_184 : decode cX9_eights 184 = .ok (.bipush 8, 2) := by decide +kernel
theorem dX9_eights_186 : decode cX9_eights 186 = .ok (.iconst 1, 1) := by decide +kernel
theorem dX9_eights_187 : decode cX9_eights 187 = .ok (.invokevirtual 214, 3) := by decide +kernel
theorem dX9_eights_190 : decode cX9_eights 190 = .ok (.ireturn, 1) := by decide +kernel
theorem dX9_tens_0 : decode cX9_tens 0 = .ok (.iload_n 1, 1) := by decide +kernel
theorem dX9_tens_1 : decode cX9_tens 1 = .ok (.iconst 4, 1) := by decide +kernel
theorem dX9_tens_2 : decode cX9_tens 2 = .ok (.ishr, 1) := by decide +kernel
theorem dX9_tens_3 : decode cX9_tens 3 = .ok (.tableswitch 127 5 15 #[57, 127, 64, 71, 78, 92, 99, 106, 113, 127, 120], 57) := by decide +kernel
theorem dX9_tens_60 : decode cX9_tens 60 = .ok (.aload_n 0, 1) := by decide +kernel
theorem dX9_tens_61 : decode cX9_tens 61 = .ok (.iconst 2, 1) := by decide +kernel
theorem dX9_tens_62 : decode cX9_tens 62 = .ok (.iconst 1, 1) := by decide +kernel
theorem dX9_tens_63 : decode cX9_tens 63 = .ok (.invokevirtual 210, 3) := by decide +kernel
theorem dX9_tens_66 : decode cX9_tens 66 = .ok (.ireturn, 1) := by decide +kernel
theorem dX9_tens_67 : decode cX9_tens 67 = .ok (.aload_n 0, 1) := by decide +kernel
theorem dX9_tens_68 : decode cX9_tens 68 = .ok (.iconst 2, 1) := by decide +kernel
theorem dX9_tens_69 : decode cX9_tens 69 = .ok (.iconst 0, 1) := by decide +kernel
theorem dX9_tens_70 : decode cX9_tens 70 = .ok (.invokevirtual 210, 3) := by decide +kernel
theorem dX9_tens_73 : decode cX9_tens 73 = .ok (.ireturn, 1) := by decide +kernel
theorem dX9_tens_74 : decode cX9_tens 74 = .ok (.aload_n 0, 1) := by decide +kernel
theorem dX9_tens_75 : decode cX9_tens 75 = .ok (.iconst 0, 1) := by decide +kernel
theorem dX9_tens_76 : decode cX9_tens 76 = .ok (.iconst 1, 1) := by decide +kernel
theorem dX9_tens_77 : decode cX9_tens 77 = .ok (.invokevirtual 220, 3) := by decide +kernel
theorem dX9_tens_80 : decode cX9_tens 80 = .ok (.ireturn, 1) := by decide +kernel
theorem dX9_tens_81 : decode cX9_tens 81 = .ok (.aload_n 0, 1) := by decide +kernel
theorem dX9_tens_82 : decode cX9_tens 82 = .ok (.getfield 14, 3) := by decide +kernel
theorem dX9_tens_85 : decode cX9_tens 85 = .ok (.iconst 3, 1) := by decide +kernel
theorem dX9_tens_86 : decode cX9_tens 86 = .ok (.aload_n 0, 1) := by decide +kernel
theorem dX9_tens_87 : decode cX9_tens 87 = .ok (.getfield 14, 3) := by decide +kernel
theorem dX9_tens_90 : decode cX9_tens 90 = .ok (.iconst 1, 1) := by decide +kernel
theorem dX9_tens_91 : decode cX9_tens 91 = .ok (.iaload, 1) := by decide +kernel
theorem dX9_tens_92 : decode cX9_tens 92 = .ok (.iastore, 1) := by decide +kernel
theorem dX9_tens_93 : decode cX9_tens 93 = .ok (.iconst 2, 1) := by decide +kernel
theorem dX9_tens_94 : decode cX9_tens 94 = .ok (.ireturn, 1) := by decide +kernel
theorem dX9_tens_95 : decode cX9_tens 95 = .ok (.aload_n 0, 1) := by decide +kernel
theorem dX9_tens_96 : decode cX9_tens 96 = .ok (.iconst 1, 1) := by decide +kernel
theorem dX9_tens_97 : decode cX9_tens 97 = .ok (.iconst 0, 1) := by decide +kernel
theorem dX9_tens_98 : decode cX9_tens 98 = .ok (.invokevirtual 220, 3) := by decide +kernel
theorem dX9_tens_101 : decode cX9_tens 101 = .ok (.ireturn, 1) := by decide +kernel
theorem dX9_tens_102 : decode cX9_tens 102 = .ok (.aload_n 0, 1) := by decide +kernel
theorem dX9_tens_103 : decode cX9_tens 103 = .ok (.iconst 1, 1) := by decide +kernel
theorem dX9_tens_104 : decode cX9_tens 104 = .ok (.iconst 3, 1) := by decide +kernel
theorem dX9_tens_105 : decode cX9_tens 105 = .ok (.invokevirtual 220, 3) := by decide +kernel
theorem dX9_tens_108 : decode cX9_tens 108 = .ok (.ireturn, 1) := by decide +kernel
theorem dX9_tens_109 : decode cX9_tens 109 = .ok (.aload_n 0, 1) := by decide +kernel
theorem dX9_tens_110 : decode cX9_tens 110 = .ok (.iconst 1, 1) := by decide +kernel
theorem dX9_tens_111 : decode cX9_tens 111 = .ok (.iconst (-1), 1) := by decide +kernel
theorem dX9_tens_112 : decode cX9_tens 112 = .ok (.invokevirtual 217, 3) := by decide +kernel
theorem dX9_tens_115 : decode cX9_tens 115 = .ok (.ireturn, 1) := by decide +kernel
theorem dX9_tens_116 : decode cX9_tens 116 = .ok (.aload_n 0, 1) := by decide +kernel
theorem dX9_tens_117 : decode cX9_tens 117 = .ok (.iconst 1, 1) := by decide +kernel
theorem dX9_tens_118 : decode cX9_tens 118 = .ok (.iconst 1, 1) := by decide +kernel
theorem dX9_tens_119 : decode cX9_tens 119 = .ok (.invokevirtual 210, 3) := by decide +kernel
theorem dX9_tens_122 : decode cX9_tens 122 = .ok (.ireturn, 1) := by decide +kernel
theorem dX9_tens_123 : decode cX9_tens 123 = .ok (.aload_n 0, 1) := by decide +kernel
theorem dX9_tens_124 : decode cX9_tens 124 = .ok (.iconst 1, 1) := by decide +kernel
theorem dX9_tens_125 : decode cX9_tens 125 = .ok (.iconst 0, 1) := by decide +kernel
theorem dX9_tens_126 : decode cX9_tens 126 = .ok (.invokevirtual 210, 3) := by decide +kernel
theorem dX9_tens_129 : decode cX9_tens 129 = .ok (.ireturn, 1) := by decide +kernel
theorem dX9_tens_130 : decode cX9_tens 130 = .ok (.iconst 2, 1) := by decide +kernel
theorem dX9_tens_131 : decode cX9_tens 131 = .ok (.ireturn, 1) := by decide +kernel
theorem dX9_halts_0 : decode cX9_halts 0 = .ok (.aload_n 0, 1) := by decide +kernel
theorem dX9_halts_1 : decode cX9_halts 1 = .ok (.aload_n 0, 1) := by decide +kernel
theorem dX9_halts_2 : decode cX9_halts 2 = .ok (.getfield 223, 3) := by decide +kernel
theorem dX9_halts_5 : decode cX9_halts 5 = .ok (.ifCond .ne 10, 3) := by decide +kernel
theorem dX9_halts_8 : decode cX9_halts 8 = .ok (.iload_n 1, 1) := by decide +kernel
theorem dX9_halts_9 : decode cX9_halts 9 = .ok (.sipush 203, 3) := by decide +kernel
theorem dX9_halts_12 : decode cX9_halts 12 = .ok (.if_icmp .ne 7, 3) := by decide +kernel
theorem dX9_halts_15 : decode cX9_halts 15 = .ok (.iconst 1, 1) := by decide +kernel
theorem dX9_halts_16 : decode cX9_halts 16 = .ok (.goto 4, 3) := by decide +kernel
theorem dX9_halts_19 : decode cX9_halts 19 = .ok (.iconst 0, 1) := by decide +kernel
theorem dX9_halts_20 : decode cX9_halts 20 = .ok (.putfield 223, 3) := by decide +kernel
theorem dX9_halts_23 : decode cX9_halts 23 = .ok (.aload_n 0, 1) := by decide +kernel
theorem dX9_halts_24 : decode cX9_halts 24 = .ok (.aload_n 0, 1) := by decide +kernel
theorem dX9_halts_25 : decode cX9_halts 25 = .ok (.getfield 226, 3) := by decide +kernel
theorem dX9_halts_28 : decode cX9_halts 28 = .ok (.ifCond .ne 10, 3) := by decide +kernel
theorem dX9_halts_31 : decode cX9_halts 31 = .ok (.iload_n 1, 1) := by decide +kernel
theorem dX9_halts_32 : decode cX9_halts 32 = .ok (.sipush 219, 3) := by decide +kernel
theorem dX9_halts_35 : decode cX9_halts 35 = .ok (.if_icmp .ne 7, 3) := by decide +kernel
theorem dX9_halts_38 : decode cX9_halts 38 = .ok (.iconst 1, 1) := by decide +kernel
theorem dX9_halts_39 : decode cX9_halts 39 = .ok (.goto 4, 3) := by decide +kernel
theorem dX9_halts_42 : decode cX9_halts 42 = .ok (.iconst 0, 1) := by decide +kernel
theorem dX9_halts_43 : decode cX9_halts 43 = .ok (.putfield 226, 3) := by decide +kernel
theorem dX9_halts_46 : decode cX9_halts 46 = .ok (.iload_n 1, 1) := by decide +kernel
theorem dX9_halts_47 : decode cX9_halts 47 = .ok (.sipush 203, 3) := by decide +kernel
theorem dX9_halts_50 : decode cX9_halts 50 = .ok (.if_icmp .eq 10, 3) := by decide +kernel
theorem dX9_halts_53 : decode cX9_halts 53 = .ok (.iload_n 1, 1) := by decide +kernel
theorem dX9_halts_54 : decode cX9_halts 54 = .ok (.sipush 219, 3) := by decide +kernel
theorem dX9_halts_57 : decode cX9_halts 57 = .ok (.if_icmp .ne 7, 3) := by decide +kernel
theorem dX9_halts_60 : decode cX9_halts 60 = .ok (.iconst 3, 1) := by decide +kernel
theorem dX9_halts_61 : decode cX9_halts 61 = .ok (.goto 4, 3) := by decide +kernel
theorem dX9_halts_64 : decode cX9_halts 64 = .ok (.iconst 1, 1) := by decide +kernel
theorem dX9_halts_65 : decode cX9_halts 65 = .ok (.ireturn, 1) := by decide +kernel
theorem dX9_instruction_0 : decode cX9_instruction 0 = .ok (.aload_n 0, 1) := by decide +kernel
theorem dX9_instruction_1 : decode cX9_instruction 1 = .ok (.getfield 26, 3) := by decide +kernel
theorem dX9_instruction_4 : decode cX9_instruction 4 = .ok (.aload_n 0, 1) := by decide +kernel
theorem dX9_instruction_5 : decode cX9_instruction 5 = .ok (.getfield 229, 3) := by decide +kernel
theorem dX9_instruction_8 : decode cX9_instruction 8 = .ok (.bipush 32, 2) := by decide +kernel
theorem dX9_instruction_10 : decode cX9_instruction 10 = .ok (.irem, 1) := by decide +kernel
theorem dX9_instruction_11 : decode cX9_instruction 11 = .ok (.aload_n 0, 1) := by decide +kernel
theorem dX9_instruction_12 : decode cX9_instruction 12 = .ok (.getfield 176, 3) := by decide +kernel
theorem dX9_instruction_15 : decode cX9_instruction 15 = .ok (.iastore, 1) := by decide +kernel
end
section
theorem dX9_instruction_16 : decode cX9_instruction 16 = .ok (.aload_n 0, 1) := by decide +kernel
theorem dX9_instruction_17 : decode cX9_instruction 17 = .ok (.dup, 1) := by decide +kernel
theorem dX9_instruction_18 : decode cX9_instruction 18 = .ok (.getfield 229, 3) := by decide +kernel
theorem dX9_instruction_21 : decode cX9_instruction 21 = .ok (.iconst 1, 1) := by decide +kernel
theorem dX9_instruction_22 : decode cX9_instruction 22 = .ok (.iadd, 1) := by decide +kernel
theorem dX9_instruction_23 : decode cX9_instruction 23 = .ok (.putfield 229, 3) := by decide +kernel
theorem dX9_instruction_26 : decode cX9_instruction 26 = .ok (.aload_n 0, 1) := by decide +kernel
theorem dX9_instruction_27 : decode cX9_instruction 27 = .ok (.dup, 1) := by decide +kernel
theorem dX9_instruction_28 : decode cX9_instruction 28 = .ok (.getfield 232, 3) := by decide +kernel
theorem dX9_instruction_31 : decode cX9_instruction 31 = .ok (.lconst 1, 1) := by decide +kernel
theorem dX9_instruction_32 : decode cX9_instruction 32 = .ok (.ladd, 1) := by decide +kernel
theorem dX9_instruction_33 : decode cX9_instruction 33 = .ok (.putfield 232, 3) := by decide +kernel
theorem dX9_instruction_36 : decode cX9_instruction 36 = .ok (.aload_n 0, 1) := by decide +kernel
theorem dX9_instruction_37 : decode cX9_instruction 37 = .ok (.aload_n 0, 1) := by decide +kernel
theorem dX9_instruction_38 : decode cX9_instruction 38 = .ok (.getfield 176, 3) := by decide +kernel
theorem dX9_instruction_41 : decode cX9_instruction 41 = .ok (.invokevirtual 100, 3) := by decide +kernel
theorem dX9_instruction_44 : decode cX9_instruction 44 = .ok (.istore_n 1, 1) := by decide +kernel
theorem dX9_instruction_45 : decode cX9_instruction 45 = .ok (.iload_n 1, 1) := by decide +kernel
theorem dX9_instruction_46 : decode cX9_instruction 46 = .ok (.invokestatic 236, 3) := by decide +kernel
theorem dX9_instruction_49 : decode cX9_instruction 49 = .ok (.istore_n 2, 1) := by decide +kernel
theorem dX9_instruction_50 : decode cX9_instruction 50 = .ok (.aload_n 0, 1) := by decide +kernel
theorem dX9_instruction_51 : decode cX9_instruction 51 = .ok (.iload_n 2, 1) := by decide +kernel
theorem dX9_instruction_52 : decode cX9_instruction 52 = .ok (.iconst 1, 1) := by decide +kernel
theorem dX9_instruction_53 : decode cX9_instruction 53 = .ok (.if_icmp .le 19, 3) := by decide +kernel
theorem dX9_instruction_56 : decode cX9_instruction 56 = .ok (.aload_n 0, 1) := by decide +kernel
theorem dX9_instruction_57 : decode cX9_instruction 57 = .ok (.aload_n 0, 1) := by decide +kernel
theorem dX9_instruction_58 : decode cX9_instruction 58 = .ok (.getfield 176, 3) := by decide +kernel
theorem dX9_instruction_61 : decode cX9_instruction 61 = .ok (.iconst 1, 1) := by decide +kernel
theorem dX9_instruction_62 : decode cX9_instruction 62 = .ok (.iadd, 1) := by decide +kernel
theorem dX9_instruction_63 : decode cX9_instruction 63 = .ok (.ldc 36, 2) := by decide +kernel
theorem dX9_instruction_65 : decode cX9_instruction 65 = .ok (.iand, 1) := by decide +kernel
theorem dX9_instruction_66 : decode cX9_instruction 66 = .ok (.invokevirtual 100, 3) := by decide +kernel
theorem dX9_instruction_69 : decode cX9_instruction 69 = .ok (.goto 4, 3) := by decide +kernel
theorem dX9_instruction_72 : decode cX9_instruction 72 = .ok (.iconst 0, 1) := by decide +kernel
theorem dX9_instruction_73 : decode cX9_instruction 73 = .ok (.putfield 117, 3) := by decide +kernel
theorem dX9_instruction_76 : decode cX9_instruction 76 = .ok (.aload_n 0, 1) := by decide +kernel
theorem dX9_instruction_77 : decode cX9_instruction 77 = .ok (.iload_n 2, 1) := by decide +kernel
theorem dX9_instruction_78 : decode cX9_instruction 78 = .ok (.iconst 2, 1) := by decide +kernel
theorem dX9_instruction_79 : decode cX9_instruction 79 = .ok (.if_icmp .le 27, 3) := by decide +kernel
theorem dX9_instruction_82 : decode cX9_instruction 82 = .ok (.aload_n 0, 1) := by decide +kernel
theorem dX9_instruction_83 : decode cX9_instruction 83 = .ok (.getfield 117, 3) := by decide +kernel
theorem dX9_instruction_86 : decode cX9_instruction 86 = .ok (.aload_n 0, 1) := by decide +kernel
theorem dX9_instruction_87 : decode cX9_instruction 87 = .ok (.aload_n 0, 1) := by decide +kernel
theorem dX9_instruction_88 : decode cX9_instruction 88 = .ok (.getfield 176, 3) := by decide +kernel
theorem dX9_instruction_91 : decode cX9_instruction 91 = .ok (.iconst 2, 1) := by decide +kernel
theorem dX9_instruction_92 : decode cX9_instruction 92 = .ok (.iadd, 1) := by decide +kernel
theorem dX9_instruction_93 : decode cX9_instruction 93 = .ok (.ldc 36, 2) := by decide +kernel
theorem dX9_instruction_95 : decode cX9_instruction 95 = .ok (.iand, 1) := by decide +kernel
theorem dX9_instruction_96 : decode cX9_instruction 96 = .ok (.invokevirtual 100, 3) := by decide +kernel
theorem dX9_instruction_99 : decode cX9_instruction 99 = .ok (.bipush 8, 2) := by decide +kernel
theorem dX9_instruction_101 : decode cX9_instruction 101 = .ok (.ishl, 1) := by decide +kernel
theorem dX9_instruction_102 : decode cX9_instruction 102 = .ok (.ior, 1) := by decide +kernel
theorem dX9_instruction_103 : decode cX9_instruction 103 = .ok (.goto 7, 3) := by decide +kernel
theorem dX9_instruction_106 : decode cX9_instruction 106 = .ok (.aload_n 0, 1) := by decide +kernel
theorem dX9_instruction_107 : decode cX9_instruction 107 = .ok (.getfield 117, 3) := by decide +kernel
theorem dX9_instruction_110 : decode cX9_instruction 110 = .ok (.putfield 120, 3) := by decide +kernel
theorem dX9_instruction_113 : decode cX9_instruction 113 = .ok (.aload_n 0, 1) := by decide +kernel
theorem dX9_instruction_114 : decode cX9_instruction 114 = .ok (.aload_n 0, 1) := by decide +kernel
theorem dX9_instruction_115 : decode cX9_instruction 115 = .ok (.getfield 176, 3) := by decide +kernel
theorem dX9_instruction_118 : decode cX9_instruction 118 = .ok (.iload_n 2, 1) := by decide +kernel
theorem dX9_instruction_119 : decode cX9_instruction 119 = .ok (.iadd, 1) := by decide +kernel
theorem dX9_instruction_120 : decode cX9_instruction 120 = .ok (.ldc 36, 2) := by decide +kernel
theorem dX9_instruction_122 : decode cX9_instruction 122 = .ok (.iand, 1) := by decide +kernel
theorem dX9_instruction_123 : decode cX9_instruction 123 = .ok (.putfield 176, 3) := by decide +kernel
theorem dX9_instruction_126 : decode cX9_instruction 126 = .ok (.iload_n 1, 1) := by decide +kernel
theorem dX9_instruction_127 : decode cX9_instruction 127 = .ok (.iconst 4, 1) := by decide +kernel
theorem dX9_instruction_128 : decode cX9_instruction 128 = .ok (.ishr, 1) := by decide +kernel
theorem dX9_instruction_129 : decode cX9_instruction 129 = .ok (.iconst 1, 1) := by decide +kernel
theorem dX9_instruction_130 : decode cX9_instruction 130 = .ok (.iand, 1) := by decide +kernel
theorem dX9_instruction_131 : decode cX9_instruction 131 = .ok (.iconst 1, 1) := by decide +kernel
theorem dX9_instruction_132 : decode cX9_instruction 132 = .ok (.if_icmp .ne 7, 3) := by decide +kernel
theorem dX9_instruction_135 : decode cX9_instruction 135 = .ok (.iconst 1, 1) := by decide +kernel
theorem dX9_instruction_136 : decode cX9_instruction 136 = .ok (.goto 4, 3) := by decide +kernel
theorem dX9_instruction_139 : decode cX9_instruction 139 = .ok (.iconst 0, 1) := by decide +kernel
theorem dX9_instruction_140 : decode cX9_instruction 140 = .ok (.istore_n 3, 1) := by decide +kernel
theorem dX9_instruction_141 : decode cX9_instruction 141 = .ok (.iload_n 1, 1) := by decide +kernel
theorem dX9_instruction_142 : decode cX9_instruction 142 = .ok (.bipush 15, 2) := by decide +kernel
theorem dX9_instruction_144 : decode cX9_instruction 144 = .ok (.iand, 1) := by decide +kernel
theorem dX9_instruction_145 : decode cX9_instruction 145 = .ok (.tableswitch 275 0 15 #[79, 275, 147, 177, 183, 275, 189, 195, 201, 207, 228, 177, 183, 275, 254, 195], 79) := by decide +kernel
theorem dX9_instruction_224 : decode cX9_instruction 224 = .ok (.iload_n 3, 1) := by decide +kernel
theorem dX9_instruction_225 : decode cX9_instruction 225 = .ok (.ifCond .ne 10, 3) := by decide +kernel
theorem dX9_instruction_228 : decode cX9_instruction 228 = .ok (.iload_n 1, 1) := by decide +kernel
theorem dX9_instruction_229 : decode cX9_instruction 229 = .ok (.sipush 128, 3) := by decide +kernel
theorem dX9_instruction_232 : decode cX9_instruction 232 = .ok (.if_icmp .ne 11, 3) := by decide +kernel
theorem dX9_instruction_235 : decode cX9_instruction 235 = .ok (.aload_n 0, 1) := by decide +kernel
theorem dX9_instruction_236 : decode cX9_instruction 236 = .ok (.iload_n 1, 1) := by decide +kernel
theorem dX9_instruction_237 : decode cX9_instruction 237 = .ok (.invokevirtual 239, 3) := by decide +kernel
theorem dX9_instruction_240 : decode cX9_instruction 240 = .ok (.goto 51, 3) := by decide +kernel
theorem dX9_instruction_243 : decode cX9_instruction 243 = .ok (.iload_n 1, 1) := by decide +kernel
theorem dX9_instruction_244 : decode cX9_instruction 244 = .ok (.sipush 128, 3) := by decide +kernel
theorem dX9_instruction_247 : decode cX9_instruction 247 = .ok (.if_icmp .ge 11, 3) := by decide +kernel
theorem dX9_instruction_250 : decode cX9_instruction 250 = .ok (.aload_n 0, 1) := by decide +kernel
theorem dX9_instruction_251 : decode cX9_instruction 251 = .ok (.iload_n 1, 1) := by decide +kernel
theorem dX9_instruction_252 : decode cX9_instruction 252 = .ok (.invokevirtual 242, 3) := by decide +kernel
theorem dX9_instruction_255 : decode cX9_instruction 255 = .ok (.goto 36, 3) := by decide +kernel
theorem dX9_instruction_258 : decode cX9_instruction 258 = .ok (.iload_n 1, 1) := by decide +kernel
theorem dX9_instruction_259 : decode cX9_instruction 259 = .ok (.sipush 160, 3) := by decide +kernel
theorem dX9_instruction_262 : decode cX9_instruction 262 = .ok (.if_icmp .ne 12, 3) := by decide +kernel
theorem dX9_instruction_265 : decode cX9_instruction 265 = .ok (.aload_n 0, 1) := by decide +kernel
theorem dX9_instruction_266 : decode cX9_instruction 266 = .ok (.iconst 2, 1) := by decide +kernel
theorem dX9_instruction_267 : decode cX9_instruction 267 = .ok (.iconst 0, 1) := by decide +kernel
theorem dX9_instruction_268 : decode cX9_instruction 268 = .ok (.invokevirtual 173, 3) := by decide +kernel
theorem dX9_instruction_271 : decode cX9_instruction 271 = .ok (.goto 20, 3) := by decide +kernel
theorem dX9_instruction_274 : decode cX9_instruction 274 = .ok (.aload_n 0, 1) := by decide +kernel
theorem dX9_instruction_275 : decode cX9_instruction 275 = .ok (.iload_n 1, 1) := by decide +kernel
theorem dX9_instruction_276 : decode cX9_instruction 276 = .ok (.sipush 192, 3) := by decide +kernel
theorem dX9_instruction_279 : decode cX9_instruction 279 = .ok (.if_icmp .ne 7, 3) := by decide +kernel
theorem dX9_instruction_282 : decode cX9_instruction 282 = .ok (.iconst 2, 1) := by decide +kernel
theorem dX9_instruction_283 : decode cX9_instruction 283 = .ok (.goto 4, 3) := by decide +kernel
theorem dX9_instruction_286 : decode cX9_instruction 286 = .ok (.iconst 1, 1) := by decide +kernel
theorem dX9_instruction_287 : decode cX9_instruction 287 = .ok (.iconst 0, 1) := by decide +kernel
theorem dX9_instruction_288 : decode cX9_instruction 288 = .ok (.invokevirtual 192, 3) := by decide +kernel
theorem dX9_instruction_291 : decode cX9_instruction 291 = .ok (.ireturn, 1) := by decide +kernel
theorem dX9_instruction_292 : decode cX9_instruction 292 = .ok (.iload_n 3, 1) := by decide +kernel
theorem dX9_instruction_293 : decode cX9_instruction 293 = .ok (.ifCond .eq 11, 3) := by decide +kernel
theorem dX9_instruction_296 : decode cX9_instruction 296 = .ok (.aload_n 0, 1) := by decide +kernel
theorem dX9_instruction_297 : decode cX9_instruction 297 = .ok (.iload_n 1, 1) := by decide +kernel
theorem dX9_instruction_298 : decode cX9_instruction 298 = .ok (.invokevirtual 245, 3) := by decide +kernel
theorem dX9_instruction_301 : decode cX9_instruction 301 = .ok (.goto 20, 3) := by decide +kernel
theorem dX9_instruction_304 : decode cX9_instruction 304 = .ok (.iload_n 1, 1) := by decide +kernel
theorem dX9_instruction_305 : decode cX9_instruction 305 = .ok (.sipush 162, 3) := by decide +kernel
theorem dX9_instruction_308 : decode cX9_instruction 308 = .ok (.if_icmp .ne 12, 3) := by decide +kernel
theorem dX9_instruction_311 : decode cX9_instruction 311 = .ok (.aload_n 0, 1) := by decide +kernel
theorem dX9_instruction_312 : decode cX9_instruction 312 = .ok (.iconst 1, 1) := by decide +kernel
theorem dX9_instruction_313 : decode cX9_instruction 313 = .ok (.iconst 0, 1) := by decide +kernel
theorem dX9_instruction_314 : decode cX9_instruction 314 = .ok (.invokevirtual 173, 3) := by decide +kernel
theorem dX9_instruction_317 : decode cX9_instruction 317 = .ok (.goto 4, 3) := by decide +kernel
theorem dX9_instruction_320 : decode cX9_instruction 320 = .ok (.iconst 2, 1) := by decide +kernel
theorem dX9_instruction_321 : decode cX9_instruction 321 = .ok (.ireturn, 1) := by decide +kernel
theorem dX9_instruction_322 : decode cX9_instruction 322 = .ok (.aload_n 0, 1) := by decide +kernel
theorem dX9_instruction_323 : decode cX9_instruction 323 = .ok (.iload_n 1, 1) := by decide +kernel
theorem dX9_instruction_324 : decode cX9_instruction 324 = .ok (.invokevirtual 248, 3) := by decide +kernel
theorem dX9_instruction_327 : decode cX9_instruction 327 = .ok (.ireturn, 1) := by decide +kernel
theorem dX9_instruction_328 : decode cX9_instruction 328 = .ok (.aload_n 0, 1) := by decide +kernel
theorem dX9_instruction_329 : decode cX9_instruction 329 = .ok (.iload_n 1, 1) := by decide +kernel
theorem dX9_instruction_330 : decode cX9_instruction 330 = .ok (.invokevirtual 251, 3) := by decide +kernel
theorem dX9_instruction_333 : decode cX9_instruction 333 = .ok (.ireturn, 1) := by decide +kernel
theorem dX9_instruction_334 : decode cX9_instruction 334 = .ok (.aload_n 0, 1) := by decide +kernel
theorem dX9_instruction_335 : decode cX9_instruction 335 = .ok (.iload_n 1, 1) := by decide +kernel
theorem dX9_instruction_336 : decode cX9_instruction 336 = .ok (.invokevirtual 254, 3) := by decide +kernel
theorem dX9_instruction_339 : decode cX9_instruction 339 = .ok (.ireturn, 1) := by decide +kernel
theorem dX9_instruction_340 : decode cX9_instruction 340 = .ok (.aload_n 0, 1) := by decide +kernel
theorem dX9_instruction_341 : decode cX9_instruction 341 = .ok (.iload_n 1, 1) := by decide +kernel
theorem dX9_instruction_342 : decode cX9_instruction 342 = .ok (.invokevirtual 257, 3) := by decide +kernel
theorem dX9_instruction_345 : decode cX9_instruction 345 = .ok (.ireturn, 1) := by decide +kernel
theorem dX9_instruction_346 : decode cX9_instruction 346 = .ok (.aload_n 0, 1) := by decide +kernel
theorem dX9_instruction_347 : decode cX9_instruction 347 = .ok (.iload_n 1, 1) := by decide +kernel
theorem dX9_instruction_348 : decode cX9_instruction 348 = .ok (.invokevirtual 260, 3) := by decide +kernel
theorem dX9_instruction_351 : decode cX9_instruction 351 = .ok (.ireturn, 1) := by decide +kernel
theorem dX9_instruction_352 : decode cX9_instruction 352 = .ok (.iload_n 1, 1) := by decide +kernel
theorem dX9_instruction_353 : decode cX9_instruction 353 = .ok (.sipush 137, 3) := by decide +kernel
theorem dX9_instruction_356 : decode cX9_instruction 356 = .ok (.if_icmp .ne 11, 3) := by decide +kernel
theorem dX9_instruction_359 : decode cX9_instruction 359 = .ok (.aload_n 0, 1) := by decide +kernel
theorem dX9_instruction_360 : decode cX9_instruction 360 = .ok (.iconst 0, 1) := by decide +kernel
theorem dX9_instruction_361 : decode cX9_instruction 361 = .ok (.invokevirtual 186, 3) := by decide +kernel
theorem dX9_instruction_364 : decode cX9_instruction 364 = .ok (.goto 8, 3) := by decide +kernel
theorem dX9_instruction_367 : decode cX9_instruction 367 = .ok (.aload_n 0, 1) := by decide +kernel
theorem dX9_instruction_368 : decode cX9_instruction 368 = .ok (.iload_n 1, 1) := by decide +kernel
theorem dX9_instruction_369 : decode cX9_instruction 369 = .ok (.invokevirtual 245, 3) := by decide +kernel
theorem dX9_instruction_372 : decode cX9_instruction 372 = .ok (.ireturn, 1) := by decide +kernel
theorem dX9_instruction_373 : decode cX9_instruction 373 = .ok (.iload_n 1, 1) := by decide +kernel
theorem dX9_instruction_374 : decode cX9_instruction 374 = .ok (.bipush 80, 2) := by decide +kernel
theorem dX9_instruction_376 : decode cX9_instruction 376 = .ok (.if_icmp .lt 9, 3) := by decide +kernel
theorem dX9_instruction_379 : decode cX9_instruction 379 = .ok (.iload_n 1, 1) := by decide +kernel
theorem dX9_instruction_380 : decode cX9_instruction 380 = .ok (.bipush 106, 2) := by decide +kernel
theorem dX9_instruction_382 : decode cX9_instruction 382 = .ok (.if_icmp .ne 11, 3) := by decide +kernel
theorem dX9_instruction_385 : decode cX9_instruction 385 = .ok (.aload_n 0, 1) := by decide +kernel
theorem dX9_instruction_386 : decode cX9_instruction 386 = .ok (.iload_n 1, 1) := by decide +kernel
theorem dX9_instruction_387 : decode cX9_instruction 387 = .ok (.invokevirtual 254, 3) := by decide +kernel
theorem dX9_instruction_390 : decode cX9_instruction 390 = .ok (.goto 8, 3) := by decide +kernel
theorem dX9_instruction_393 : decode cX9_instruction 393 = .ok (.aload_n 0, 1) := by decide +kernel
theorem dX9_instruction_394 : decode cX9_instruction 394 = .ok (.iload_n 1, 1) := by decide +kernel
theorem dX9_instruction_395 : decode cX9_instruction 395 = .ok (.invokevirtual 263, 3) := by decide +kernel
theorem dX9_instruction_398 : decode cX9_instruction 398 = .ok (.ireturn, 1) := by decide +kernel
theorem dX9_instruction_399 : decode cX9_instruction 399 = .ok (.iload_n 1, 1) := by decide +kernel
theorem dX9_instruction_400 : decode cX9_instruction 400 = .ok (.sipush 158, 3) := by decide +kernel
theorem dX9_instruction_403 : decode cX9_instruction 403 = .ok (.if_icmp .ne 11, 3) := by decide +kernel
theorem dX9_instruction_406 : decode cX9_instruction 406 = .ok (.aload_n 0, 1) := by decide +kernel
theorem dX9_instruction_407 : decode cX9_instruction 407 = .ok (.iconst 5, 1) := by decide +kernel
theorem dX9_instruction_408 : decode cX9_instruction 408 = .ok (.invokevirtual 189, 3) := by decide +kernel
theorem dX9_instruction_411 : decode cX9_instruction 411 = .ok (.goto 8, 3) := by decide +kernel
theorem dX9_instruction_414 : decode cX9_instruction 414 = .ok (.aload_n 0, 1) := by decide +kernel
theorem dX9_instruction_415 : decode cX9_instruction 415 = .ok (.iload_n 1, 1) := by decide +kernel
theorem dX9_instruction_416 : decode cX9_instruction 416 = .ok (.invokevirtual 254, 3) := by decide +kernel
theorem dX9_instruction_419 : decode cX9_instruction 419 = .ok (.ireturn, 1) := by decide +kernel
theorem dX9_instruction_420 : decode cX9_instruction 420 = .ok (.aload_n 0, 1) := by decide +kernel
theorem dX9_instruction_421 : decode cX9_instruction 421 = .ok (.iload_n 1, 1) := by decide +kernel
theorem dX9_instruction_422 : decode cX9_instruction 422 = .ok (.invokevirtual 245, 3) := by decide +kernel
theorem dX9_instruction_425 : decode cX9_instruction 425 = .ok (.ireturn, 1) := by decide +kernel
theorem dX9_clock_0 : decode cX9_clock 0 = .ok (.aload_n 0, 1) := by decide +kernel
theorem dX9_clock_1 : decode cX9_clock 1 = .ok (.dup, 1) := by decide +kernel
theorem dX9_clock_2 : decode cX9_clock 2 = .ok (.getfield 266, 3) := by decide +kernel
theorem dX9_clock_5 : decode cX9_clock 5 = .ok (.lconst 1, 1) := by decide +kernel
theorem dX9_clock_6 : decode cX9_clock 6 = .ok (.ladd, 1) := by decide +kernel
theorem dX9_clock_7 : decode cX9_clock 7 = .ok (.putfield 266, 3) := by decide +kernel
theorem dX9_clock_10 : decode cX9_clock 10 = .ok (.aload_n 0, 1) := by decide +kernel
theorem dX9_clock_11 : decode cX9_clock 11 = .ok (.getfield 37, 3) := by decide +kernel
theorem dX9_clock_14 : decode cX9_clock 14 = .ok (.ifCond .ne 7, 3) := by decide +kernel
theorem dX9_clock_17 : decode cX9_clock 17 = .ok (.iconst 1, 1) := by decide +kernel
theorem dX9_clock_18 : decode cX9_clock 18 = .ok (.goto 4, 3) := by decide +kernel
theorem dX9_clock_21 : decode cX9_clock 21 = .ok (.iconst 0, 1) := by decide +kernel
theorem dX9_clock_22 : decode cX9_clock 22 = .ok (.istore_n 1, 1) := by decide +kernel
theorem dX9_clock_23 : decode cX9_clock 23 = .ok (.aload_n 0, 1) := by decide +kernel
theorem dX9_clock_24 : decode cX9_clock 24 = .ok (.getfield 40, 3) := by decide +kernel
theorem dX9_clock_27 : decode cX9_clock 27 = .ok (.ifCond .ne 7, 3) := by decide +kernel
theorem dX9_clock_30 : decode cX9_clock 30 = .ok (.iconst 1, 1) := by decide +kernel
theorem dX9_clock_31 : decode cX9_clock 31 = .ok (.goto 4, 3) := by decide +kernel
theorem dX9_clock_34 : decode cX9_clock 34 = .ok (.iconst 0, 1) := by decide +kernel
theorem dX9_clock_35 : decode cX9_clock 35 = .ok (.istore_n 2, 1) := by decide +kernel
theorem dX9_clock_36 : decode cX9_clock 36 = .ok (.aload_n 0, 1) := by decide +kernel
theorem dX9_clock_37 : decode cX9_clock 37 = .ok (.getfield 58, 3) := by decide +kernel
theorem dX9_clock_40 : decode cX9_clock 40 = .ok (.bipush 64, 2) := by decide +kernel
theorem dX9_clock_42 : decode cX9_clock 42 = .ok (.iand, 1) := by decide +kernel
theorem dX9_clock_43 : decode cX9_clock 43 = .ok (.ifCond .eq 7, 3) := by decide +kernel
theorem dX9_clock_46 : decode cX9_clock 46 = .ok (.iconst 1, 1) := by decide +kernel
theorem dX9_clock_47 : decode cX9_clock 47 = .ok (.goto 4, 3) := by decide +kernel
theorem dX9_clock_50 : decode cX9_clock 50 = .ok (.iconst 0, 1) := by decide +kernel
theorem dX9_clock_51 : decode cX9_clock 51 = .ok (.istore_n 3, 1) := by decide +kernel
theorem dX9_clock_52 : decode cX9_clock 52 = .ok (.aload_n 0, 1) := by decide +kernel
theorem dX9_clock_53 : decode cX9_clock 53 = .ok (.iload_n 1, 1) := by decide +kernel
theorem dX9_clock_54 : decode cX9_clock 54 = .ok (.ifCond .eq 19, 3) := by decide +kernel
theorem dX9_clock_57 : decode cX9_clock 57 = .ok (.iload_n 3, 1) := by decide +kernel
theorem dX9_clock_58 : decode cX9_clock 58 = .ok (.ifCond .eq 10, 3) := by decide +kernel
theorem dX9_clock_61 : decode cX9_clock 61 = .ok (.aload_n 0, 1) := by decide +kernel
theorem dX9_clock_62 : decode cX9_clock 62 = .ok (.getfield 64, 3) := by decide +kernel
theorem dX9_clock_65 : decode cX9_clock 65 = .ok (.goto 14, 3) := by decide +kernel
theorem dX9_clock_68 : decode cX9_clock 68 = .ok (.ldc 36, 2) := by decide +kernel
theorem dX9_clock_70 : decode cX9_clock 70 = .ok (.goto 9, 3) := by decide +kernel
theorem dX9_clock_73 : decode cX9_clock 73 = .ok (.aload_n 0, 1) := by decide +kernel
theorem dX9_clock_74 : decode cX9_clock 74 = .ok (.getfield 37, 3) := by decide +kernel
theorem dX9_clock_77 : decode cX9_clock 77 = .ok (.iconst 1, 1) := by decide +kernel
theorem dX9_clock_78 : decode cX9_clock 78 = .ok (.isub, 1) := by decide +kernel
theorem dX9_clock_79 : decode cX9_clock 79 = .ok (.putfield 37, 3) := by decide +kernel
theorem dX9_clock_82 : decode cX9_clock 82 = .ok (.aload_n 0, 1) := by decide +kernel
theorem dX9_clock_83 : decode cX9_clock 83 = .ok (.iload_n 2, 1) := by decide +kernel
theorem dX9_clock_84 : decode cX9_clock 84 = .ok (.ifCond .eq 8, 3) := by decide +kernel
theorem dX9_clock_87 : decode cX9_clock 87 = .ok (.ldc 36, 2) := by decide +kernel
theorem dX9_clock_89 : decode cX9_clock 89 = .ok (.goto 9, 3) := by decide +kernel
theorem dX9_clock_92 : decode cX9_clock 92 = .ok (.aload_n 0, 1) := by decide +kernel
theorem dX9_clock_93 : decode cX9_clock 93 = .ok (.getfield 40, 3) := by decide +kernel
theorem dX9_clock_96 : decode cX9_clock 96 = .ok (.iconst 1, 1) := by decide +kernel
theorem dX9_clock_97 : decode cX9_clock 97 = .ok (.isub, 1) := by decide +kernel
theorem dX9_clock_98 : decode cX9_clock 98 = .ok (.putfield 40, 3) := by decide +kernel
theorem dX9_clock_101 : decode cX9_clock 101 = .ok (.iload_n 1, 1) := by decide +kernel
theorem dX9_clock_102 : decode cX9_clock 102 = .ok (.ifCond .eq 26, 3) := by decide +kernel
theorem dX9_clock_105 : decode cX9_clock 105 = .ok (.aload_n 0, 1) := by decide +kernel
theorem dX9_clock_106 : decode cX9_clock 106 = .ok (.getfield 67, 3) := by decide +kernel
theorem dX9_clock_109 : decode cX9_clock 109 = .ok (.ifCond .eq 19, 3) := by decide +kernel
theorem dX9_clock_112 : decode cX9_clock 112 = .ok (.aload_n 0, 1) := by decide +kernel
theorem dX9_clock_113 : decode cX9_clock 113 = .ok (.dup, 1) := by decide +kernel
theorem dX9_clock_114 : decode cX9_clock 114 = .ok (.getfield 55, 3) := by decide +kernel
theorem dX9_clock_117 : decode cX9_clock 117 = .ok (.bipush 64, 2) := by decide +kernel
theorem dX9_clock_119 : decode cX9_clock 119 = .ok (.ior, 1) := by decide +kernel
theorem dX9_clock_120 : decode cX9_clock 120 = .ok (.putfield 55, 3) := by decide +kernel
theorem dX9_clock_123 : decode cX9_clock 123 = .ok (.aload_n 0, 1) := by decide +kernel
theorem dX9_clock_124 : decode cX9_clock 124 = .ok (.iload_n 3, 1) := by decide +kernel
theorem dX9_clock_125 : decode cX9_clock 125 = .ok (.putfield 67, 3) := by decide +kernel
theorem dX9_clock_128 : decode cX9_clock 128 = .ok (.iload_n 2, 1) := by decide +kernel
theorem dX9_clock_129 : decode cX9_clock 129 = .ok (.ifCond .eq 26, 3) := by decide +kernel
theorem dX9_clock_132 : decode cX9_clock 132 = .ok (.aload_n 0, 1) := by decide +kernel
theorem dX9_clock_133 : decode cX9_clock 133 = .ok (.getfield 71, 3) := by decide +kernel
theorem dX9_clock_136 : decode cX9_clock 136 = .ok (.ifCond .eq 19, 3) := by decide +kernel
theorem dX9_clock_139 : decode cX9_clock 139 = .ok (.aload_n 0, 1) := by decide +kernel
theorem dX9_clock_140 : decode cX9_clock 140 = .ok (.dup, 1) := by decide +kernel
theorem dX9_clock_141 : decode cX9_clock 141 = .ok (.getfield 55, 3) := by decide +kernel
theorem dX9_clock_144 : decode cX9_clock 144 = .ok (.bipush 32, 2) := by decide +kernel
theorem dX9_clock_146 : decode cX9_clock 146 = .ok (.ior, 1) := by decide +kernel
theorem dX9_clock_147 : decode cX9_clock 147 = .ok (.putfield 55, 3) := by decide +kernel
theorem dX9_clock_150 : decode cX9_clock 150 = .ok (.aload_n 0, 1) := by decide +kernel
theorem dX9_clock_151 : decode cX9_clock 151 = .ok (.iconst 0, 1) := by decide +kernel
theorem dX9_clock_152 : decode cX9_clock 152 = .ok (.putfield 71, 3) := by decide +kernel
theorem dX9_clock_155 : decode cX9_clock 155 = .ok (.return_, 1) := by decide +kernel
theorem dX9_taken2_0 : decode cX9_taken2 0 = .ok (.aload_n 0, 1) := by decide +kernel
theorem dX9_taken2_1 : decode cX9_taken2 1 = .ok (.dup, 1) := by decide +kernel
theorem dX9_taken2_2 : decode cX9_taken2 2 = .ok (.getfield 269, 3) := by decide +kernel
theorem dX9_taken2_5 : decode cX9_taken2 5 = .ok (.lconst 1, 1) := by decide +kernel
theorem dX9_taken2_6 : decode cX9_taken2 6 = .ok (.ladd, 1) := by decide +kernel
theorem dX9_taken2_7 : decode cX9_taken2 7 = .ok (.putfield 269, 3) := by decide +kernel
theorem dX9_taken2_10 : decode cX9_taken2 10 = .ok (.aload_n 0, 1) := by decide +kernel
theorem dX9_taken2_11 : decode cX9_taken2 11 = .ok (.iload_n 1, 1) := by decide +kernel
theorem dX9_taken2_12 : decode cX9_taken2 12 = .ok (.iconst 0, 1) := by decide +kernel
theorem dX9_taken2_13 : decode cX9_taken2 13 = .ok (.invokevirtual 204, 3) := by decide +kernel
theorem dX9_taken2_16 : decode cX9_taken2 16 = .ok (.bipush 7, 2) := by decide +kernel
theorem dX9_taken2_18 : decode cX9_taken2 18 = .ok (.ireturn, 1) := by decide +kernel
theorem dX9_once_0 : decode cX9_once 0 = .ok (.aload_n 0, 1) := by decide +kernel
theorem dX9_once_1 : decode cX9_once 1 = .ok (.getfield 226, 3) := by decide +kernel
theorem dX9_once_4 : decode cX9_once 4 = .ok (.ifCond .eq 5, 3) := by decide +kernel
theorem dX9_once_7 : decode cX9_once 7 = .ok (.iconst 0, 1) := by decide +kernel
theorem dX9_once_8 : decode cX9_once 8 = .ok (.ireturn, 1) := by decide +kernel
theorem dX9_once_9 : decode cX9_once 9 = .ok (.aload_n 0, 1) := by decide +kernel
theorem dX9_once_10 : decode cX9_once 10 = .ok (.getfield 272, 3) := by decide +kernel
theorem dX9_once_13 : decode cX9_once 13 = .ok (.ifCond .eq 21, 3) := by decide +kernel
theorem dX9_once_16 : decode cX9_once 16 = .ok (.aload_n 0, 1) := by decide +kernel
theorem dX9_once_17 : decode cX9_once 17 = .ok (.iconst 0, 1) := by decide +kernel
theorem dX9_once_18 : decode cX9_once 18 = .ok (.putfield 272, 3) := by decide +kernel
theorem dX9_once_21 : decode cX9_once 21 = .ok (.aload_n 0, 1) := by decide +kernel
theorem dX9_once_22 : decode cX9_once 22 = .ok (.iconst 0, 1) := by decide +kernel
theorem dX9_once_23 : decode cX9_once 23 = .ok (.putfield 223, 3) := by decide +kernel
theorem dX9_once_26 : decode cX9_once 26 = .ok (.aload_n 0, 1) := by decide +kernel
theorem dX9_once_27 : decode cX9_once 27 = .ok (.ldc_w 275, 3) := by decide +kernel
theorem dX9_once_30 : decode cX9_once 30 = .ok (.invokevirtual 276, 3) := by decide +kernel
theorem dX9_once_33 : decode cX9_once 33 = .ok (.ireturn, 1) := by decide +kernel
theorem dX9_once_34 : decode cX9_once 34 = .ok (.aload_n 0, 1) := by decide +kernel
theorem dX9_once_35 : decode cX9_once 35 = .ok (.getfield 55, 3) := by decide +kernel
theorem dX9_once_38 : decode cX9_once 38 = .ok (.aload_n 0, 1) := by decide +kernel
theorem dX9_once_39 : decode cX9_once 39 = .ok (.getfield 52, 3) := by decide +kernel
theorem dX9_once_42 : decode cX9_once 42 = .ok (.iand, 1) := by decide +kernel
theorem dX9_once_43 : decode cX9_once 43 = .ok (.ifCond .ne 10, 3) := by decide +kernel
theorem dX9_once_46 : decode cX9_once 46 = .ok (.aload_n 0, 1) := by decide +kernel
theorem dX9_once_47 : decode cX9_once 47 = .ok (.invokevirtual 86, 3) := by decide +kernel
theorem dX9_once_50 : decode cX9_once 50 = .ok (.ifCond .eq 23, 3) := by decide +kernel
theorem dX9_once_53 : decode cX9_once 53 = .ok (.aload_n 0, 1) := by decide +kernel
theorem dX9_once_54 : decode cX9_once 54 = .ok (.iconst 0, 1) := by decide +kernel
theorem dX9_once_55 : decode cX9_once 55 = .ok (.putfield 223, 3) := by decide +kernel
theorem dX9_once_58 : decode cX9_once 58 = .ok (.aload_n 0, 1) := by decide +kernel
theorem dX9_once_59 : decode cX9_once 59 = .ok (.iconst 4, 1) := by decide +kernel
theorem dX9_once_60 : decode cX9_once 60 = .ok (.invokevirtual 157, 3) := by decide +kernel
theorem dX9_once_63 : decode cX9_once 63 = .ok (.ifCond .ne 10, 3) := by decide +kernel
theorem dX9_once_66 : decode cX9_once 66 = .ok (.aload_n 0, 1) := by decide +kernel
theorem dX9_once_67 : decode cX9_once 67 = .ok (.ldc 203, 2) := by decide +kernel
theorem dX9_once_69 : decode cX9_once 69 = .ok (.invokevirtual 276, 3) := by decide +kernel
theorem dX9_once_72 : decode cX9_once 72 = .ok (.ireturn, 1) := by decide +kernel
theorem dX9_once_73 : decode cX9_once 73 = .ok (.aload_n 0, 1) := by decide +kernel
theorem dX9_once_74 : decode cX9_once 74 = .ok (.getfield 223, 3) := by decide +kernel
theorem dX9_once_77 : decode cX9_once 77 = .ok (.ifCond .eq 7, 3) := by decide +kernel
theorem dX9_once_80 : decode cX9_once 80 = .ok (.iconst 1, 1) := by decide +kernel
theorem dX9_once_81 : decode cX9_once 81 = .ok (.goto 7, 3) := by decide +kernel
theorem dX9_once_84 : decode cX9_once 84 = .ok (.aload_n 0, 1) := by decide +kernel
theorem dX9_once_85 : decode cX9_once 85 = .ok (.invokevirtual 279, 3) := by decide +kernel
theorem dX9_once_88 : decode cX9_once 88 = .ok (.ireturn, 1) := by decide +kernel
theorem dX9_step_0 : decode cX9_step 0 = .ok (.aload_n 0, 1) := by decide +kernel
theorem dX9_step_1 : decode cX9_step 1 = .ok (.iconst 0, 1) := by decide +kernel
theorem dX9_step_2 : decode cX9_step 2 = .ok (.putfield 32, 3) := by decide +kernel
theorem dX9_step_5 : decode cX9_step 5 = .ok (.aload_n 0, 1) := by decide +kernel
theorem dX9_step_6 : decode cX9_step 6 = .ok (.invokevirtual 282, 3) := by decide +kernel
theorem dX9_step_9 : decode cX9_step 9 = .ok (.istore_n 1, 1) := by decide +kernel
theorem dX9_step_10 : decode cX9_step 10 = .ok (.iconst 0, 1) := by decide +kernel
theorem dX9_step_11 : decode cX9_step 11 = .ok (.istore_n 2, 1) := by decide +kernel
theorem dX9_step_12 : decode cX9_step 12 = .ok (.iload_n 2, 1) := by decide +kernel
theorem dX9_step_13 : decode cX9_step 13 = .ok (.iload_n 1, 1) := by decide +kernel
theorem dX9_step_14 : decode cX9_step 14 = .ok (.if_icmp .ge 13, 3) := by decide +kernel
theorem dX9_step_17 : decode cX9_step 17 = .ok (.aload_n 0, 1) := by decide +kernel
theorem dX9_step_18 : decode cX9_step 18 = .ok (.invokevirtual 285, 3) := by decide +kernel
theorem dX9_step_21 : decode cX9_step 21 = .ok (.iinc 2 1, 3) := by decide +kernel
theorem dX9_step_24 : decode cX9_step 24 = .ok (.goto (-12), 3) := by decide +kernel
theorem dX9_step_27 : decode cX9_step 27 = .ok (.iload_n 1, 1) := by decide +kernel
theorem dX9_step_28 : decode cX9_step 28 = .ok (.ireturn, 1) := by decide +kernel
theorem dX9_find_0 : decode cX9_find 0 = .ok (.iconst 0, 1) := by decide +kernel
theorem dX9_find_1 : decode cX9_find 1 = .ok (.istore_n 2, 1) := by decide +kernel
theorem dX9_find_2 : decode cX9_find 2 = .ok (.iload_n 2, 1) := by decide +kernel
theorem dX9_find_3 : decode cX9_find 3 = .ok (.aload_n 0, 1) := by decide +kernel
theorem dX9_find_4 : decode cX9_find 4 = .ok (.getfield 288, 3) := by decide +kernel
theorem dX9_find_7 : decode cX9_find 7 = .ok (.if_icmp .ge 21, 3) := by decide +kernel
theorem dX9_find_10 : decode cX9_find 10 = .ok (.aload_n 0, 1) := by decide +kernel
theorem dX9_find_11 : decode cX9_find 11 = .ok (.getfield 23, 3) := by decide +kernel
theorem dX9_find_14 : decode cX9_find 14 = .ok (.iload_n 2, 1) := by decide +kernel
theorem dX9_find_15 : decode cX9_find 15 = .ok (.iaload, 1) := by decide +kernel
theorem dX9_find_16 : decode cX9_find 16 = .ok (.iload_n 1, 1) := by decide +kernel
theorem dX9_find_17 : decode cX9_find 17 = .ok (.if_icmp .ne 5, 3) := by decide +kernel
theorem dX9_find_20 : decode cX9_find 20 = .ok (.iload_n 2, 1) := by decide +kernel
theorem dX9_find_21 : decode cX9_find 21 = .ok (.ireturn, 1) := by decide +kernel
theorem dX9_find_22 : decode cX9_find 22 = .ok (.iinc 2 1, 3) := by decide +kernel
theorem dX9_find_25 : decode cX9_find 25 = .ok (.goto (-23), 3) := by decide +kernel
theorem dX9_find_28 : decode cX9_find 28 = .ok (.iconst (-1), 1) := by decide +kernel
theorem dX9_find_29 : decode cX9_find 29 = .ok (.ireturn, 1) := by decide +kernel
theorem dX9_run_0 : decode cX9_run 0 = .ok (.aload_n 0, 1) := by decide +kernel
theorem dX9_run_1 : decode cX9_run 1 = .ok (.iload_n 1, 1) := by decide +kernel
theorem dX9_run_2 : decode cX9_run 2 = .ok (.ifCond .lt 10, 3) := by decide +kernel
theorem dX9_run_5 : decode cX9_run 5 = .ok (.iload_n 1, 1) := by decide +kernel
theorem dX9_run_6 : decode cX9_run 6 = .ok (.ldc_w 291, 3) := by decide +kernel
theorem dX9_run_9 : decode cX9_run 9 = .ok (.if_icmp .le 7, 3) := by decide +kernel
theorem dX9_run_12 : decode cX9_run 12 = .ok (.iconst 1, 1) := by decide +kernel
theorem dX9_run_13 : decode cX9_run 13 = .ok (.goto 4, 3) := by decide +kernel
theorem dX9_run_16 : decode cX9_run 16 = .ok (.iconst 0, 1) := by decide +kernel
theorem dX9_run_17 : decode cX9_run 17 = .ok (.invokevirtual 292, 3) := by decide +kernel
theorem dX9_run_20 : decode cX9_run 20 = .ok (.ifCond .eq 5, 3) := by decide +kernel
theorem dX9_run_23 : decode cX9_run 23 = .ok (.iconst 0, 1) := by decide +kernel
theorem dX9_run_24 : decode cX9_run 24 = .ok (.ireturn, 1) := by decide +kernel
theorem dX9_run_25 : decode cX9_run 25 = .ok (.aload_n 0, 1) := by decide +kernel
theorem dX9_run_26 : decode cX9_run 26 = .ok (.getfield 226, 3) := by decide +kernel
theorem dX9_run_29 : decode cX9_run 29 = .ok (.ifCond .eq 5, 3) := by decide +kernel
theorem dX9_run_32 : decode cX9_run 32 = .ok (.iconst 2, 1) := by decide +kernel
theorem dX9_run_33 : decode cX9_run 33 = .ok (.ireturn, 1) := by decide +kernel
theorem dX9_run_34 : decode cX9_run 34 = .ok (.iconst 0, 1) := by decide +kernel
theorem dX9_run_35 : decode cX9_run 35 = .ok (.istore_n 2, 1) := by decide +kernel
theorem dX9_run_36 : decode cX9_run 36 = .ok (.iload_n 2, 1) := by decide +kernel
theorem dX9_run_37 : decode cX9_run 37 = .ok (.iload_n 1, 1) := by decide +kernel
theorem dX9_run_38 : decode cX9_run 38 = .ok (.if_icmp .ge 36, 3) := by decide +kernel
theorem dX9_run_41 : decode cX9_run 41 = .ok (.aload_n 0, 1) := by decide +kernel
theorem dX9_run_42 : decode cX9_run 42 = .ok (.invokevirtual 296, 3) := by decide +kernel
theorem dX9_run_45 : decode cX9_run 45 = .ok (.pop, 1) := by decide +kernel
theorem dX9_run_46 : decode cX9_run 46 = .ok (.aload_n 0, 1) := by decide +kernel
theorem dX9_run_47 : decode cX9_run 47 = .ok (.getfield 226, 3) := by decide +kernel
theorem dX9_run_50 : decode cX9_run 50 = .ok (.ifCond .eq 5, 3) := by decide +kernel
theorem dX9_run_53 : decode cX9_run 53 = .ok (.iconst 2, 1) := by decide +kernel
theorem dX9_run_54 : decode cX9_run 54 = .ok (.ireturn, 1) := by decide +kernel
theorem dX9_run_55 : decode cX9_run 55 = .ok (.aload_n 0, 1) := by decide +kernel
theorem dX9_run_56 : decode cX9_run 56 = .ok (.aload_n 0, 1) := by decide +kernel
theorem dX9_run_57 : decode cX9_run 57 = .ok (.getfield 176, 3) := by decide +kernel
theorem dX9_run_60 : decode cX9_run 60 = .ok (.invokevirtual 299, 3) := by decide +kernel
theorem dX9_run_63 : decode cX9_run 63 = .ok (.ifCond .lt 5, 3) := by decide +kernel
theorem dX9_run_66 : decode cX9_run 66 = .ok (.iconst 1, 1) := by decide +kernel
theorem dX9_run_67 : decode cX9_run 67 = .ok (.ireturn, 1) := by decide +kernel
theorem dX9_run_68 : decode cX9_run 68 = .ok (.iinc 2 1, 3) := by decide +kernel
theorem dX9_run_71 : decode cX9_run 71 = .ok (.goto (-35), 3) := by decide +kernel
theorem dX9_run_74 : decode cX9_run 74 = .ok (.iconst 0, 1) := by decide +kernel
theorem dX9_run_75 : decode cX9_run 75 = .ok (.ireturn, 1) := by decide +kernel
theorem dX9_load_0 : decode cX9_load 0 = .ok (.aload_n 0, 1) := by decide +kernel
theorem dX9_load_1 : decode cX9_load 1 = .ok (.iload 4, 2) := by decide +kernel
theorem dX9_load_3 : decode cX9_load 3 = .ok (.iconst 1, 1) := by decide +kernel
theorem dX9_load_4 : decode cX9_load 4 = .ok (.if_icmp .lt 23, 3) := by decide +kernel
theorem dX9_load_7 : decode cX9_load 7 = .ok (.iload 4, 2) := by decide +kernel
theorem dX9_load_9 : decode cX9_load 9 = .ok (.bipush 8, 2) := by decide +kernel
theorem dX9_load_11 : decode cX9_load 11 = .ok (.if_icmp .gt 16, 3) := by decide +kernel
theorem dX9_load_14 : decode cX9_load 14 = .ok (.iload_n 1, 1) := by decide +kernel
theorem dX9_load_15 : decode cX9_load 15 = .ok (.ifCond .lt 12, 3) := by decide +kernel
theorem dX9_load_18 : decode cX9_load 18 = .ok (.iload_n 1, 1) := by decide +kernel
theorem dX9_load_19 : decode cX9_load 19 = .ok (.ldc 77, 2) := by decide +kernel
theorem dX9_load_21 : decode cX9_load 21 = .ok (.iload 4, 2) := by decide +kernel
theorem dX9_load_23 : decode cX9_load 23 = .ok (.isub, 1) := by decide +kernel
theorem dX9_load_24 : decode cX9_load 24 = .ok (.if_icmp .le 7, 3) := by decide +kernel
theorem dX9_load_27 : decode cX9_load 27 = .ok (.iconst 1, 1) := by decide +kernel
theorem dX9_load_28 : decode cX9_load 28 = .ok (.goto 4, 3) := by decide +kernel
theorem dX9_load_31 : decode cX9_load 31 = .ok (.iconst 0, 1) := by decide +kernel
theorem dX9_load_32 : decode cX9_load 32 = .ok (.invokevirtual 292, 3) := by decide +kernel
theorem dX9_load_35 : decode cX9_load 35 = .ok (.ifCond .eq 4, 3) := by decide +kernel
theorem dX9_load_38 : decode cX9_load 38 = .ok (.return_, 1) := by decide +kernel
theorem dX9_load_39 : decode cX9_load 39 = .ok (.iconst 0, 1) := by decide +kernel
theorem dX9_load_40 : decode cX9_load 40 = .ok (.istore 5, 2) := by decide +kernel
theorem dX9_load_42 : decode cX9_load 42 = .ok (.iload 5, 2) := by decide +kernel
theorem dX9_load_44 : decode cX9_load 44 = .ok (.iload 4, 2) := by decide +kernel
theorem dX9_load_46 : decode cX9_load 46 = .ok (.if_icmp .ge 48, 3) := by decide +kernel
theorem dX9_load_49 : decode cX9_load 49 = .ok (.aload_n 0, 1) := by decide +kernel
theorem dX9_load_50 : decode cX9_load 50 = .ok (.iload_n 1, 1) := by decide +kernel
theorem dX9_load_51 : decode cX9_load 51 = .ok (.iload 5, 2) := by decide +kernel
theorem dX9_load_53 : decode cX9_load 53 = .ok (.iadd, 1) := by decide +kernel
theorem dX9_load_54 : decode cX9_load 54 = .ok (.invokevirtual 78, 3) := by decide +kernel
theorem dX9_load_57 : decode cX9_load 57 = .ok (.istore 6, 2) := by decide +kernel
theorem dX9_load_59 : decode cX9_load 59 = .ok (.iload 6, 2) := by decide +kernel
theorem dX9_load_61 : decode cX9_load 61 = .ok (.ifCond .lt 27, 3) := by decide +kernel
theorem dX9_load_64 : decode cX9_load 64 = .ok (.aload_n 0, 1) := by decide +kernel
theorem dX9_load_65 : decode cX9_load 65 = .ok (.getfield 8, 3) := by decide +kernel
theorem dX9_load_68 : decode cX9_load 68 = .ok (.iload 6, 2) := by decide +kernel
theorem dX9_load_70 : decode cX9_load 70 = .ok (.lload_n 2, 1) := by decide +kernel
theorem dX9_load_71 : decode cX9_load 71 = .ok (.bipush 8, 2) := by decide +kernel
theorem dX9_load_73 : decode cX9_load 73 = .ok (.iload 4, 2) := by decide +kernel
theorem dX9_load_75 : decode cX9_load 75 = .ok (.iconst 1, 1) := by decide +kernel
theorem dX9_load_76 : decode cX9_load 76 = .ok (.isub, 1) := by decide +kernel
theorem dX9_load_77 : decode cX9_load 77 = .ok (.iload 5, 2) := by decide +kernel
theorem dX9_load_79 : decode cX9_load 79 = .ok (.isub, 1) := by decide +kernel
theorem dX9_load_80 : decode cX9_load 80 = .ok (.imul, 1) := by decide +kernel
theorem dX9_load_81 : decode cX9_load 81 = .ok (.lshr, 1) := by decide +kernel
theorem dX9_load_82 : decode cX9_load 82 = .ok (.ldc2_w 302, 3) := by decide +kernel
theorem dX9_load_85 : decode cX9_load 85 = .ok (.land, 1) := by decide +kernel
theorem dX9_load_86 : decode cX9_load 86 = .ok (.l2i, 1) := by decide +kernel
theorem dX9_load_87 : decode cX9_load 87 = .ok (.iastore, 1) := by decide +kernel
theorem dX9_load_88 : decode cX9_load 88 = .ok (.iinc 5 1, 3) := by decide +kernel
theorem dX9_load_91 : decode cX9_load 91 = .ok (.goto (-49), 3) := by decide +kernel
theorem dX9_load_94 : decode cX9_load 94 = .ok (.return_, 1) := by decide +kernel
theorem dX9_reset_0 : decode cX9_reset 0 = .ok (.aload_n 0, 1) := by decide +kernel
theorem dX9_reset_1 : decode cX9_reset 1 = .ok (.iconst 0, 1) := by decide +kernel
theorem dX9_reset_2 : decode cX9_reset 2 = .ok (.putfield 32, 3) := by decide +kernel
theorem dX9_reset_5 : decode cX9_reset 5 = .ok (.aload_n 0, 1) := by decide +kernel
theorem dX9_reset_6 : decode cX9_reset 6 = .ok (.invokevirtual 29, 3) := by decide +kernel
theorem dX9_reset_9 : decode cX9_reset 9 = .ok (.aload_n 0, 1) := by decide +kernel
theorem dX9_reset_10 : decode cX9_reset 10 = .ok (.getfield 14, 3) := by decide +kernel
theorem dX9_reset_13 : decode cX9_reset 13 = .ok (.iconst 3, 1) := by decide +kernel
theorem dX9_reset_14 : decode cX9_reset 14 = .ok (.sipush 253, 3) := by decide +kernel
theorem dX9_reset_17 : decode cX9_reset 17 = .ok (.iastore, 1) := by decide +kernel
theorem dX9_reset_18 : decode cX9_reset 18 = .ok (.aload_n 0, 1) := by decide +kernel
theorem dX9_reset_19 : decode cX9_reset 19 = .ok (.iconst 4, 1) := by decide +kernel
theorem dX9_reset_20 : decode cX9_reset 20 = .ok (.iconst 1, 1) := by decide +kernel
theorem dX9_reset_21 : decode cX9_reset 21 = .ok (.invokevirtual 110, 3) := by decide +kernel
theorem dX9_reset_24 : decode cX9_reset 24 = .ok (.aload_n 0, 1) := by decide +kernel
theorem dX9_reset_25 : decode cX9_reset 25 = .ok (.bipush 8, 2) := by decide +kernel
theorem dX9_reset_27 : decode cX9_reset 27 = .ok (.iconst 0, 1) := by decide +kernel
theorem dX9_reset_28 : decode cX9_reset 28 = .ok (.invokevirtual 110, 3) := by decide +kernel
theorem dX9_reset_31 : decode cX9_reset 31 = .ok (.aload_n 0, 1) := by decide +kernel
theorem dX9_reset_32 : decode cX9_reset 32 = .ok (.iconst 0, 1) := by decide +kernel
theorem dX9_reset_33 : decode cX9_reset 33 = .ok (.putfield 223, 3) := by decide +kernel
theorem dX9_reset_36 : decode cX9_reset 36 = .ok (.aload_n 0, 1) := by decide +kernel
theorem dX9_reset_37 : decode cX9_reset 37 = .ok (.iconst 0, 1) := by decide +kernel
theorem dX9_reset_38 : decode cX9_reset 38 = .ok (.putfield 226, 3) := by decide +kernel
theorem dX9_reset_41 : decode cX9_reset 41 = .ok (.aload_n 0, 1) := by decide +kernel
theorem dX9_reset_42 : decode cX9_reset 42 = .ok (.iconst 0, 1) := by decide +kernel
theorem dX9_reset_43 : decode cX9_reset 43 = .ok (.putfield 272, 3) := by decide +kernel
theorem dX9_reset_46 : decode cX9_reset 46 = .ok (.aload_n 0, 1) := by decide +kernel
theorem dX9_reset_47 : decode cX9_reset 47 = .ok (.aload_n 0, 1) := by decide +kernel
theorem dX9_reset_48 : decode cX9_reset 48 = .ok (.ldc_w 304, 3) := by decide +kernel
theorem dX9_reset_51 : decode cX9_reset 51 = .ok (.invokevirtual 179, 3) := by decide +kernel
theorem dX9_reset_54 : decode cX9_reset 54 = .ok (.putfield 176, 3) := by decide +kernel
theorem dX9_reset_57 : decode cX9_reset 57 = .ok (.return_, 1) := by decide +kernel
theorem dX9_nmi_0 : decode cX9_nmi 0 = .ok (.aload_n 0, 1) := by decide +kernel
theorem dX9_nmi_1 : decode cX9_nmi 1 = .ok (.iconst 0, 1) := by decide +kernel
theorem dX9_nmi_2 : decode cX9_nmi 2 = .ok (.putfield 32, 3) := by decide +kernel
theorem dX9_nmi_5 : decode cX9_nmi 5 = .ok (.aload_n 0, 1) := by decide +kernel
theorem dX9_nmi_6 : decode cX9_nmi 6 = .ok (.iconst 1, 1) := by decide +kernel
theorem dX9_nmi_7 : decode cX9_nmi 7 = .ok (.putfield 272, 3) := by decide +kernel
theorem dX9_nmi_10 : decode cX9_nmi 10 = .ok (.return_, 1) := by decide +kernel
theorem dX9_receive_0 : decode cX9_receive 0 = .ok (.aload_n 0, 1) := by decide +kernel
theorem dX9_receive_1 : decode cX9_receive 1 = .ok (.iconst 0, 1) := by decide +kernel
theorem dX9_receive_2 : decode cX9_receive 2 = .ok (.putfield 32, 3) := by decide +kernel
theorem dX9_receive_5 : decode cX9_receive 5 = .ok (.aload_n 0, 1) := by decide +kernel
theorem dX9_receive_6 : decode cX9_receive 6 = .ok (.getfield 46, 3) := by decide +kernel
theorem dX9_receive_9 : decode cX9_receive 9 = .ok (.bipush 64, 2) := by decide +kernel
theorem dX9_receive_11 : decode cX9_receive 11 = .ok (.if_icmp .eq 14, 3) := by decide +kernel
theorem dX9_receive_14 : decode cX9_receive 14 = .ok (.iload_n 1, 1) := by decide +kernel
theorem dX9_receive_15 : decode cX9_receive 15 = .ok (.ifCond .lt 10, 3) := by decide +kernel
theorem dX9_receive_18 : decode cX9_receive 18 = .ok (.iload_n 1, 1) := by decide +kernel
theorem dX9_receive_19 : decode cX9_receive 19 = .ok (.sipush 255, 3) := by decide +kernel
theorem dX9_receive_22 : decode cX9_receive 22 = .ok (.if_icmp .le 5, 3) := by decide +kernel
theorem dX9_receive_25 : decode cX9_receive 25 = .ok (.iconst (-1), 1) := by decide +kernel
theorem dX9_receive_26 : decode cX9_receive 26 = .ok (.ireturn, 1) := by decide +kernel
theorem dX9_receive_27 : decode cX9_receive 27 = .ok (.aload_n 0, 1) := by decide +kernel
theorem dX9_receive_28 : decode cX9_receive 28 = .ok (.getfield 17, 3) := by decide +kernel
theorem dX9_receive_31 : decode cX9_receive 31 = .ok (.aload_n 0, 1) := by decide +kernel
theorem dX9_receive_32 : decode cX9_receive 32 = .ok (.getfield 46, 3) := by decide +kernel
theorem dX9_receive_35 : decode cX9_receive 35 = .ok (.iload_n 1, 1) := by decide +kernel
theorem dX9_receive_36 : decode cX9_receive 36 = .ok (.iastore, 1) := by decide +kernel
theorem dX9_receive_37 : decode cX9_receive 37 = .ok (.aload_n 0, 1) := by decide +kernel
theorem dX9_receive_38 : decode cX9_receive 38 = .ok (.dup, 1) := by decide +kernel
theorem dX9_receive_39 : decode cX9_receive 39 = .ok (.getfield 46, 3) := by decide +kernel
theorem dX9_receive_42 : decode cX9_receive 42 = .ok (.iconst 1, 1) := by decide +kernel
theorem dX9_receive_43 : decode cX9_receive 43 = .ok (.iadd, 1) := by decide +kernel
theorem dX9_receive_44 : decode cX9_receive 44 = .ok (.putfield 46, 3) := by decide +kernel
theorem dX9_receive_47 : decode cX9_receive 47 = .ok (.aload_n 0, 1) := by decide +kernel
theorem dX9_receive_48 : decode cX9_receive 48 = .ok (.getfield 46, 3) := by decide +kernel
theorem dX9_receive_51 : decode cX9_receive 51 = .ok (.ireturn, 1) := by decide +kernel
theorem dX9_sent_0 : decode cX9_sent 0 = .ok (.aload_n 0, 1) := by decide +kernel
theorem dX9_sent_1 : decode cX9_sent 1 = .ok (.iconst 0, 1) := by decide +kernel
theorem dX9_sent_2 : decode cX9_sent 2 = .ok (.putfield 32, 3) := by decide +kernel
theorem dX9_sent_5 : decode cX9_sent 5 = .ok (.iload_n 1, 1) := by decide +kernel
theorem dX9_sent_6 : decode cX9_sent 6 = .ok (.ifCond .lt 36, 3) := by decide +kernel
theorem dX9_sent_9 : decode cX9_sent 9 = .ok (.iload_n 1, 1) := by decide +kernel
theorem dX9_sent_10 : decode cX9_sent 10 = .ok (.aload_n 0, 1) := by decide +kernel
theorem dX9_sent_11 : decode cX9_sent 11 = .ok (.getfield 97, 3) := by decide +kernel
theorem dX9_sent_14 : decode cX9_sent 14 = .ok (.if_icmp .ge 28, 3) := by decide +kernel
theorem dX9_sent_17 : decode cX9_sent 17 = .ok (.iload_n 1, 1) := by decide +kernel
theorem dX9_sent_18 : decode cX9_sent 18 = .ok (.aload_n 0, 1) := by decide +kernel
theorem dX9_sent_19 : decode cX9_sent 19 = .ok (.getfield 97, 3) := by decide +kernel
theorem dX9_sent_22 : decode cX9_sent 22 = .ok (.sipush 256, 3) := by decide +kernel
theorem dX9_sent_25 : decode cX9_sent 25 = .ok (.isub, 1) := by decide +kernel
theorem dX9_sent_26 : decode cX9_sent 26 = .ok (.if_icmp .lt 16, 3) := by decide +kernel
theorem dX9_sent_29 : decode cX9_sent 29 = .ok (.aload_n 0, 1) := by decide +kernel
theorem dX9_sent_30 : decode cX9_sent 30 = .ok (.getfield 20, 3) := by decide +kernel
theorem dX9_sent_33 : decode cX9_sent 33 = .ok (.iload_n 1, 1) := by decide +kernel
theorem dX9_sent_34 : decode cX9_sent 34 = .ok (.sipush 256, 3) := by decide +kernel
theorem dX9_sent_37 : decode cX9_sent 37 = .ok (.irem, 1) := by decide +kernel
theorem dX9_sent_38 : decode cX9_sent 38 = .ok (.iaload, 1) := by decide +kernel
theorem dX9_sent_39 : decode cX9_sent 39 = .ok (.goto 4, 3) := by decide +kernel
theorem dX9_sent_42 : decode cX9_sent 42 = .ok (.iconst (-1), 1) := by decide +kernel
theorem dX9_sent_43 : decode cX9_sent 43 = .ok (.ireturn, 1) := by decide +kernel
theorem dX9_look_0 : decode cX9_look 0 = .ok (.aload_n 0, 1) := by decide +kernel
theorem dX9_look_1 : decode cX9_look 1 = .ok (.iload_n 1, 1) := by decide +kernel
theorem dX9_look_2 : decode cX9_look 2 = .ok (.ifCond .lt 9, 3) := by decide +kernel
theorem dX9_look_5 : decode cX9_look 5 = .ok (.iload_n 1, 1) := by decide +kernel
theorem dX9_look_6 : decode cX9_look 6 = .ok (.ldc 36, 2) := by decide +kernel
theorem dX9_look_8 : decode cX9_look 8 = .ok (.if_icmp .le 7, 3) := by decide +kernel
theorem dX9_look_11 : decode cX9_look 11 = .ok (.iconst 1, 1) := by decide +kernel
theorem dX9_look_12 : decode cX9_look 12 = .ok (.goto 4, 3) := by decide +kernel
theorem dX9_look_15 : decode cX9_look 15 = .ok (.iconst 0, 1) := by decide +kernel
theorem dX9_look_16 : decode cX9_look 16 = .ok (.invokevirtual 292, 3) := by decide +kernel
theorem dX9_look_19 : decode cX9_look 19 = .ok (.ifCond .eq 5, 3) := by decide +kernel
theorem dX9_look_22 : decode cX9_look 22 = .ok (.iconst 0, 1) := by decide +kernel
theorem dX9_look_23 : decode cX9_look 23 = .ok (.ireturn, 1) := by decide +kernel
theorem dX9_look_24 : decode cX9_look 24 = .ok (.aload_n 0, 1) := by decide +kernel
theorem dX9_look_25 : decode cX9_look 25 = .ok (.iload_n 1, 1) := by decide +kernel
theorem dX9_look_26 : decode cX9_look 26 = .ok (.invokevirtual 90, 3) := by decide +kernel
theorem dX9_look_29 : decode cX9_look 29 = .ok (.ireturn, 1) := by decide +kernel
theorem dX9_register_0 : decode cX9_register 0 = .ok (.aload_n 0, 1) := by decide +kernel
theorem dX9_register_1 : decode cX9_register 1 = .ok (.iconst 0, 1) := by decide +kernel
theorem dX9_register_2 : decode cX9_register 2 = .ok (.putfield 32, 3) := by decide +kernel
theorem dX9_register_5 : decode cX9_register 5 = .ok (.iload_n 1, 1) := by decide +kernel
theorem dX9_register_6 : decode cX9_register 6 = .ok (.iconst 5, 1) := by decide +kernel
theorem dX9_register_7 : decode cX9_register 7 = .ok (.if_icmp .ne 10, 3) := by decide +kernel
theorem dX9_register_10 : decode cX9_register 10 = .ok (.aload_n 0, 1) := by decide +kernel
theorem dX9_register_11 : decode cX9_register 11 = .ok (.getfield 176, 3) := by decide +kernel
theorem dX9_register_14 : decode cX9_register 14 = .ok (.goto 37, 3) := by decide +kernel
theorem dX9_register_17 : decode cX9_register 17 = .ok (.iload_n 1, 1) := by decide +kernel
theorem dX9_register_18 : decode cX9_register 18 = .ok (.iconst 4, 1) := by decide +kernel
theorem dX9_register_19 : decode cX9_register 19 = .ok (.if_icmp .ne 13, 3) := by decide +kernel
theorem dX9_register_22 : decode cX9_register 22 = .ok (.aload_n 0, 1) := by decide +kernel
theorem dX9_register_23 : decode cX9_register 23 = .ok (.getfield 107, 3) := by decide +kernel
theorem dX9_register_26 : decode cX9_register 26 = .ok (.bipush 48, 2) := by decide +kernel
theorem dX9_register_28 : decode cX9_register 28 = .ok (.ior, 1) := by decide +kernel
theorem dX9_register_29 : decode cX9_register 29 = .ok (.goto 22, 3) := by decide +kernel
theorem dX9_register_32 : decode cX9_register 32 = .ok (.iload_n 1, 1) := by decide +kernel
theorem dX9_register_33 : decode cX9_register 33 = .ok (.ifCond .lt 17, 3) := by decide +kernel
theorem dX9_register_36 : decode cX9_register 36 = .ok (.iload_n 1, 1) := by decide +kernel
theorem dX9_register_37 : decode cX9_register 37 = .ok (.iconst 4, 1) := by decide +kernel
theorem dX9_register_38 : decode cX9_register 38 = .ok (.if_icmp .ge 12, 3) := by decide +kernel
theorem dX9_register_41 : decode cX9_register 41 = .ok (.aload_n 0, 1) := by decide +kernel
theorem dX9_register_42 : decode cX9_register 42 = .ok (.getfield 14, 3) := by decide +kernel
theorem dX9_register_45 : decode cX9_register 45 = .ok (.iload_n 1, 1) := by decide +kernel
theorem dX9_register_46 : decode cX9_register 46 = .ok (.iaload, 1) := by decide +kernel
theorem dX9_register_47 : decode cX9_register 47 = .ok (.goto 4, 3) := by decide +kernel
theorem dX9_register_50 : decode cX9_register 50 = .ok (.iconst (-1), 1) := by decide +kernel
theorem dX9_register_51 : decode cX9_register 51 = .ok (.ireturn, 1) := by decide +kernel
theorem dX9_set_0 : decode cX9_set 0 = .ok (.aload_n 0, 1) := by decide +kernel
theorem dX9_set_1 : decode cX9_set 1 = .ok (.iload_n 1, 1) := by decide +kernel
theorem dX9_set_2 : decode cX9_set 2 = .ok (.ifCond .lt 8, 3) := by decide +kernel
theorem dX9_set_5 : decode cX9_set 5 = .ok (.iload_n 1, 1) := by decide +kernel
theorem dX9_set_6 : decode cX9_set 6 = .ok (.iconst 5, 1) := by decide +kernel
theorem dX9_set_7 : decode cX9_set 7 = .ok (.if_icmp .le 7, 3) := by decide +kernel
theorem dX9_set_10 : decode cX9_set 10 = .ok (.iconst 1, 1) := by decide +kernel
theorem dX9_set_11 : decode cX9_set 11 = .ok (.goto 4, 3) := by decide +kernel
theorem dX9_set_14 : decode cX9_set 14 = .ok (.iconst 0, 1) := by decide +kernel
theorem dX9_set_15 : decode cX9_set 15 = .ok (.invokevirtual 292, 3) := by decide +kernel
theorem dX9_set_18 : decode cX9_set 18 = .ok (.ifCond .eq 4, 3) := by decide +kernel
theorem dX9_set_21 : decode cX9_set 21 = .ok (.return_, 1) := by decide +kernel
theorem dX9_set_22 : decode cX9_set 22 = .ok (.iload_n 1, 1) := by decide +kernel
theorem dX9_set_23 : decode cX9_set 23 = .ok (.iconst 5, 1) := by decide +kernel
theorem dX9_set_24 : decode cX9_set 24 = .ok (.if_icmp .ne 14, 3) := by decide +kernel
theorem dX9_set_27 : decode cX9_set 27 = .ok (.aload_n 0, 1) := by decide +kernel
theorem dX9_set_28 : decode cX9_set 28 = .ok (.iload_n 2, 1) := by decide +kernel
theorem dX9_set_29 : decode cX9_set 29 = .ok (.ldc 36, 2) := by decide +kernel
theorem dX9_set_31 : decode cX9_set 31 = .ok (.iand, 1) := by decide +kernel
theorem dX9_set_32 : decode cX9_set 32 = .ok (.putfield 176, 3) := by decide +kernel
theorem dX9_set_35 : decode cX9_set 35 = .ok (.goto 34, 3) := by decide +kernel
theorem dX9_set_38 : decode cX9_set 38 = .ok (.iload_n 1, 1) := by decide +kernel
theorem dX9_set_39 : decode cX9_set 39 = .ok (.iconst 4, 1) := by decide +kernel
theorem dX9_set_40 : decode cX9_set 40 = .ok (.if_icmp .ne 18, 3) := by decide +kernel
theorem dX9_set_43 : decode cX9_set 43 = .ok (.aload_n 0, 1) := by decide +kernel
theorem dX9_set_44 : decode cX9_set 44 = .ok (.iload_n 2, 1) := by decide +kernel
theorem dX9_set_45 : decode cX9_set 45 = .ok (.sipush 255, 3) := by decide +kernel
theorem dX9_set_48 : decode cX9_set 48 = .ok (.iand, 1) := by decide +kernel
theorem dX9_set_49 : decode cX9_set 49 = .ok (.bipush 48, 2) := by decide +kernel
theorem dX9_set_51 : decode cX9_set 51 = .ok (.ior, 1) := by decide +kernel
theorem dX9_set_52 : decode cX9_set 52 = .ok (.putfield 107, 3) := by decide +kernel
theorem dX9_set_55 : decode cX9_set 55 = .ok (.goto 14, 3) := by decide +kernel
theorem dX9_set_58 : decode cX9_set 58 = .ok (.aload_n 0, 1) := by decide +kernel
theorem dX9_set_59 : decode cX9_set 59 = .ok (.getfield 14, 3) := by decide +kernel
theorem dX9_set_62 : decode cX9_set 62 = .ok (.iload_n 1, 1) := by decide +kernel
theorem dX9_set_63 : decode cX9_set 63 = .ok (.iload_n 2, 1) := by decide +kernel
theorem dX9_set_64 : decode cX9_set 64 = .ok (.sipush 255, 3) := by decide +kernel
theorem dX9_set_67 : decode cX9_set 67 = .ok (.iand, 1) := by decide +kernel
theorem dX9_set_68 : decode cX9_set 68 = .ok (.iastore, 1) := by decide +kernel
theorem dX9_set_69 : decode cX9_set 69 = .ok (.return_, 1) := by decide +kernel
theorem dX9_setBreak_0 : decode cX9_setBreak 0 = .ok (.aload_n 0, 1) := by decide +kernel
theorem dX9_setBreak_1 : decode cX9_setBreak 1 = .ok (.iconst 0, 1) := by decide +kernel
theorem dX9_setBreak_2 : decode cX9_setBreak 2 = .ok (.putfield 32, 3) := by decide +kernel
theorem dX9_setBreak_5 : decode cX9_setBreak 5 = .ok (.iload_n 1, 1) := by decide +kernel
theorem dX9_setBreak_6 : decode cX9_setBreak 6 = .ok (.ifCond .lt 26, 3) := by decide +kernel
theorem dX9_setBreak_9 : decode cX9_setBreak 9 = .ok (.iload_n 1, 1) := by decide +kernel
theorem dX9_setBreak_10 : decode cX9_setBreak 10 = .ok (.ldc 36, 2) := by decide +kernel
theorem dX9_setBreak_12 : decode cX9_setBreak 12 = .ok (.if_icmp .gt 20, 3) := by decide +kernel
theorem dX9_setBreak_15 : decode cX9_setBreak 15 = .ok (.aload_n 0, 1) := by decide +kernel
theorem dX9_setBreak_16 : decode cX9_setBreak 16 = .ok (.getfield 288, 3) := by decide +kernel
theorem dX9_setBreak_19 : decode cX9_setBreak 19 = .ok (.bipush 16, 2) := by decide +kernel
theorem dX9_setBreak_21 : decode cX9_setBreak 21 = .ok (.if_icmp .eq 11, 3) := by decide +kernel
theorem dX9_setBreak_24 : decode cX9_setBreak 24 = .ok (.aload_n 0, 1) := by decide +kernel
theorem dX9_setBreak_25 : decode cX9_setBreak 25 = .ok (.iload_n 1, 1) := by decide +kernel
theorem dX9_setBreak_26 : decode cX9_setBreak 26 = .ok (.invokevirtual 299, 3) := by decide +kernel
theorem dX9_setBreak_29 : decode cX9_setBreak 29 = .ok (.ifCond .lt 5, 3) := by decide +kernel
theorem dX9_setBreak_32 : decode cX9_setBreak 32 = .ok (.iconst 0, 1) := by decide +kernel
theorem dX9_setBreak_33 : decode cX9_setBreak 33 = .ok (.ireturn, 1) := by decide +kernel
theorem dX9_setBreak_34 : decode cX9_setBreak 34 = .ok (.aload_n 0, 1) := by decide +kernel
theorem dX9_setBreak_35 : decode cX9_setBreak 35 = .ok (.getfield 23, 3) := by decide +kernel
theorem dX9_setBreak_38 : decode cX9_setBreak 38 = .ok (.aload_n 0, 1) := by decide +kernel
theorem dX9_setBreak_39 : decode cX9_setBreak 39 = .ok (.getfield 288, 3) := by decide +kernel
theorem dX9_setBreak_42 : decode cX9_setBreak 42 = .ok (.iload_n 1, 1) := by decide +kernel
theorem dX9_setBreak_43 : decode cX9_setBreak 43 = .ok (.iastore, 1) := by decide +kernel
theorem dX9_setBreak_44 : decode cX9_setBreak 44 = .ok (.aload_n 0, 1) := by decide +kernel
theorem dX9_setBreak_45 : decode cX9_setBreak 45 = .ok (.dup, 1) := by decide +kernel
theorem dX9_setBreak_46 : decode cX9_setBreak 46 = .ok (.getfield 288, 3) := by decide +kernel
theorem dX9_setBreak_49 : decode cX9_setBreak 49 = .ok (.iconst 1, 1) := by decide +kernel
theorem dX9_setBreak_50 : decode cX9_setBreak 50 = .ok (.iadd, 1) := by decide +kernel
theorem dX9_setBreak_51 : decode cX9_setBreak 51 = .ok (.putfield 288, 3) := by decide +kernel
theorem dX9_setBreak_54 : decode cX9_setBreak 54 = .ok (.iconst 1, 1) := by decide +kernel
theorem dX9_setBreak_55 : decode cX9_setBreak 55 = .ok (.ireturn, 1) := by decide +kernel
theorem dX9_clearBreak_0 : decode cX9_clearBreak 0 = .ok (.aload_n 0, 1) := by decide +kernel
theorem dX9_clearBreak_1 : decode cX9_clearBreak 1 = .ok (.iconst 0, 1) := by decide +kernel
theorem dX9_clearBreak_2 : decode cX9_clearBreak 2 = .ok (.putfield 32, 3) := by decide +kernel
theorem dX9_clearBreak_5 : decode cX9_clearBreak 5 = .ok (.aload_n 0, 1) := by decide +kernel
theorem dX9_clearBreak_6 : decode cX9_clearBreak 6 = .ok (.iload_n 1, 1) := by decide +kernel
theorem dX9_clearBreak_7 : decode cX9_clearBreak 7 = .ok (.invokevirtual 299, 3) := by decide +kernel
theorem dX9_clearBreak_10 : decode cX9_clearBreak 10 = .ok (.istore_n 2, 1) := by decide +kernel
theorem dX9_clearBreak_11 : decode cX9_clearBreak 11 = .ok (.iload_n 2, 1) := by decide +kernel
theorem dX9_clearBreak_12 : decode cX9_clearBreak 12 = .ok (.ifCond .ge 5, 3) := by decide +kernel
theorem dX9_clearBreak_15 : decode cX9_clearBreak 15 = .ok (.iconst 0, 1) := by decide +kernel
theorem dX9_clearBreak_16 : decode cX9_clearBreak 16 = .ok (.ireturn, 1) := by decide +kernel
theorem dX9_clearBreak_17 : decode cX9_clearBreak 17 = .ok (.aload_n 0, 1) := by decide +kernel
theorem dX9_clearBreak_18 : decode cX9_clearBreak 18 = .ok (.dup, 1) := by decide +kernel
theorem dX9_clearBreak_19 : decode cX9_clearBreak 19 = .ok (.getfield 288, 3) := by decide +kernel
theorem dX9_clearBreak_22 : decode cX9_clearBreak 22 = .ok (.iconst 1, 1) := by decide +kernel
theorem dX9_clearBreak_23 : decode cX9_clearBreak 23 = .ok (.isub, 1) := by decide +kernel
theorem dX9_clearBreak_24 : decode cX9_clearBreak 24 = .ok (.putfield 288, 3) := by decide +kernel
theorem dX9_clearBreak_27 : decode cX9_clearBreak 27 = .ok (.aload_n 0, 1) := by decide +kernel
theorem dX9_clearBreak_28 : decode cX9_clearBreak 28 = .ok (.getfield 23, 3) := by decide +kernel
theorem dX9_clearBreak_31 : decode cX9_clearBreak 31 = .ok (.iload_n 2, 1) := by decide +kernel
theorem dX9_clearBreak_32 : decode cX9_clearBreak 32 = .ok (.aload_n 0, 1) := by decide +kernel
theorem dX9_clearBreak_33 : decode cX9_clearBreak 33 = .ok (.getfield 23, 3) := by decide +kernel
theorem dX9_clearBreak_36 : decode cX9_clearBreak 36 = .ok (.aload_n 0, 1) := by decide +kernel
theorem dX9_clearBreak_37 : decode cX9_clearBreak 37 = .ok (.getfield 288, 3) := by decide +kernel
theorem dX9_clearBreak_40 : decode cX9_clearBreak 40 = .ok (.iaload, 1) := by decide +kernel
theorem dX9_clearBreak_41 : decode cX9_clearBreak 41 = .ok (.iastore, 1) := by decide +kernel
theorem dX9_clearBreak_42 : decode cX9_clearBreak 42 = .ok (.iconst 1, 1) := by decide +kernel
theorem dX9_clearBreak_43 : decode cX9_clearBreak 43 = .ok (.ireturn, 1) := by decide +kernel
theorem dX9_trace_0 : decode cX9_trace 0 = .ok (.aload_n 0, 1) := by decide +kernel
theorem dX9_trace_1 : decode cX9_trace 1 = .ok (.iconst 0, 1) := by decide +kernel
theorem dX9_trace_2 : decode cX9_trace 2 = .ok (.putfield 32, 3) := by decide +kernel
theorem dX9_trace_5 : decode cX9_trace 5 = .ok (.aload_n 0, 1) := by decide +kernel
theorem dX9_trace_6 : decode cX9_trace 6 = .ok (.getfield 229, 3) := by decide +kernel
theorem dX9_trace_9 : decode cX9_trace 9 = .ok (.bipush 32, 2) := by decide +kernel
theorem dX9_trace_11 : decode cX9_trace 11 = .ok (.if_icmp .ge 10, 3) := by decide +kernel
theorem dX9_trace_14 : decode cX9_trace 14 = .ok (.aload_n 0, 1) := by decide +kernel
theorem dX9_trace_15 : decode cX9_trace 15 = .ok (.getfield 229, 3) := by decide +kernel
theorem dX9_trace_18 : decode cX9_trace 18 = .ok (.goto 5, 3) := by decide +kernel
theorem dX9_trace_21 : decode cX9_trace 21 = .ok (.bipush 32, 2) := by decide +kernel
theorem dX9_trace_23 : decode cX9_trace 23 = .ok (.istore_n 2, 1) := by decide +kernel
theorem dX9_trace_24 : decode cX9_trace 24 = .ok (.iload_n 1, 1) := by decide +kernel
theorem dX9_trace_25 : decode cX9_trace 25 = .ok (.ifCond .lt 27, 3) := by decide +kernel
theorem dX9_trace_28 : decode cX9_trace 28 = .ok (.iload_n 1, 1) := by decide +kernel
theorem dX9_trace_29 : decode cX9_trace 29 = .ok (.iload_n 2, 1) := by decide +kernel
theorem dX9_trace_30 : decode cX9_trace 30 = .ok (.if_icmp .ge 22, 3) := by decide +kernel
theorem dX9_trace_33 : decode cX9_trace 33 = .ok (.aload_n 0, 1) := by decide +kernel
theorem dX9_trace_34 : decode cX9_trace 34 = .ok (.getfield 26, 3) := by decide +kernel
theorem dX9_trace_37 : decode cX9_trace 37 = .ok (.aload_n 0, 1) := by decide +kernel
theorem dX9_trace_38 : decode cX9_trace 38 = .ok (.getfield 229, 3) := by decide +kernel
theorem dX9_trace_41 : decode cX9_trace 41 = .ok (.iload_n 2, 1) := by decide +kernel
theorem dX9_trace_42 : decode cX9_trace 42 = .ok (.isub, 1) := by decide +kernel
theorem dX9_trace_43 : decode cX9_trace 43 = .ok (.iload_n 1, 1) := by decide +kernel
theorem dX9_trace_44 : decode cX9_trace 44 = .ok (.iadd, 1) := by decide +kernel
theorem dX9_trace_45 : decode cX9_trace 45 = .ok (.bipush 32, 2) := by decide +kernel
theorem dX9_trace_47 : decode cX9_trace 47 = .ok (.irem, 1) := by decide +kernel
theorem dX9_trace_48 : decode cX9_trace 48 = .ok (.iaload, 1) := by decide +kernel
theorem dX9_trace_49 : decode cX9_trace 49 = .ok (.goto 4, 3) := by decide +kernel
theorem dX9_trace_52 : decode cX9_trace 52 = .ok (.iconst (-1), 1) := by decide +kernel
theorem dX9_trace_53 : decode cX9_trace 53 = .ok (.ireturn, 1) := by decide +kernel
theorem dX9_count_0 : decode cX9_count 0 = .ok (.aload_n 0, 1) := by decide +kernel
theorem dX9_count_1 : decode cX9_count 1 = .ok (.iconst 0, 1) := by decide +kernel
theorem dX9_count_2 : decode cX9_count 2 = .ok (.putfield 32, 3) := by decide +kernel
theorem dX9_count_5 : decode cX9_count 5 = .ok (.iload_n 1, 1) := by decide +kernel
theorem dX9_count_6 : decode cX9_count 6 = .ok (.tableswitch 182 0 14 #[74, 79, 84, 90, 96, 102, 108, 114, 120, 126, 132, 145, 158, 171, 177], 74) := by decide +kernel
theorem dX9_count_80 : decode cX9_count 80 = .ok (.aload_n 0, 1) := by decide +kernel
theorem dX9_count_81 : decode cX9_count 81 = .ok (.getfield 266, 3) := by decide +kernel
theorem dX9_count_84 : decode cX9_count 84 = .ok (.lreturn, 1) := by decide +kernel
theorem dX9_count_85 : decode cX9_count 85 = .ok (.aload_n 0, 1) := by decide +kernel
theorem dX9_count_86 : decode cX9_count 86 = .ok (.getfield 232, 3) := by decide +kernel
theorem dX9_count_89 : decode cX9_count 89 = .ok (.lreturn, 1) := by decide +kernel
theorem dX9_count_90 : decode cX9_count 90 = .ok (.aload_n 0, 1) := by decide +kernel
theorem dX9_count_91 : decode cX9_count 91 = .ok (.getfield 97, 3) := by decide +kernel
theorem dX9_count_94 : decode cX9_count 94 = .ok (.i2l, 1) := by decide +kernel
theorem dX9_count_95 : decode cX9_count 95 = .ok (.lreturn, 1) := by decide +kernel
theorem dX9_count_96 : decode cX9_count 96 = .ok (.aload_n 0, 1) := by decide +kernel
theorem dX9_count_97 : decode cX9_count 97 = .ok (.getfield 46, 3) := by decide +kernel
theorem dX9_count_100 : decode cX9_count 100 = .ok (.i2l, 1) := by decide +kernel
theorem dX9_count_101 : decode cX9_count 101 = .ok (.lreturn, 1) := by decide +kernel
theorem dX9_count_102 : decode cX9_count 102 = .ok (.aload_n 0, 1) := by decide +kernel
theorem dX9_count_103 : decode cX9_count 103 = .ok (.getfield 43, 3) := by decide +kernel
theorem dX9_count_106 : decode cX9_count 106 = .ok (.i2l, 1) := by decide +kernel
theorem dX9_count_107 : decode cX9_count 107 = .ok (.lreturn, 1) := by decide +kernel
theorem dX9_count_108 : decode cX9_count 108 = .ok (.aload_n 0, 1) := by decide +kernel
theorem dX9_count_109 : decode cX9_count 109 = .ok (.getfield 37, 3) := by decide +kernel
theorem dX9_count_112 : decode cX9_count 112 = .ok (.i2l, 1) := by decide +kernel
theorem dX9_count_113 : decode cX9_count 113 = .ok (.lreturn, 1) := by decide +kernel
theorem dX9_count_114 : decode cX9_count 114 = .ok (.aload_n 0, 1) := by decide +kernel
theorem dX9_count_115 : decode cX9_count 115 = .ok (.getfield 40, 3) := by decide +kernel
theorem dX9_count_118 : decode cX9_count 118 = .ok (.i2l, 1) := by decide +kernel
theorem dX9_count_119 : decode cX9_count 119 = .ok (.lreturn, 1) := by decide +kernel
theorem dX9_count_120 : decode cX9_count 120 = .ok (.aload_n 0, 1) := by decide +kernel
theorem dX9_count_121 : decode cX9_count 121 = .ok (.getfield 64, 3) := by decide +kernel
theorem dX9_count_124 : decode cX9_count 124 = .ok (.i2l, 1) := by decide +kernel
theorem dX9_count_125 : decode cX9_count 125 = .ok (.lreturn, 1) := by decide +kernel
theorem dX9_count_126 : decode cX9_count 126 = .ok (.aload_n 0, 1) := by decide +kernel
theorem dX9_count_127 : decode cX9_count 127 = .ok (.getfield 55, 3) := by decide +kernel
theorem dX9_count_130 : decode cX9_count 130 = .ok (.i2l, 1) := by decide +kernel
theorem dX9_count_131 : decode cX9_count 131 = .ok (.lreturn, 1) := by decide +kernel
theorem dX9_count_132 : decode cX9_count 132 = .ok (.aload_n 0, 1) := by decide +kernel
theorem dX9_count_133 : decode cX9_count 133 = .ok (.getfield 52, 3) := by decide +kernel
theorem dX9_count_136 : decode cX9_count 136 = .ok (.i2l, 1) := by decide +kernel
theorem dX9_count_137 : decode cX9_count 137 = .ok (.lreturn, 1) := by decide +kernel
theorem dX9_count_138 : decode cX9_count 138 = .ok (.aload_n 0, 1) := by decide +kernel
theorem dX9_count_139 : decode cX9_count 139 = .ok (.getfield 223, 3) := by decide +kernel
theorem dX9_count_142 : decode cX9_count 142 = .ok (.ifCond .eq 7, 3) := by decide +kernel
theorem dX9_count_145 : decode cX9_count 145 = .ok (.lconst 1, 1) := by decide +kernel
theorem dX9_count_146 : decode cX9_count 146 = .ok (.goto 4, 3) := by decide +kernel
theorem dX9_count_149 : decode cX9_count 149 = .ok (.lconst 0, 1) := by decide +kernel
theorem dX9_count_150 : decode cX9_count 150 = .ok (.lreturn, 1) := by decide +kernel
theorem dX9_count_151 : decode cX9_count 151 = .ok (.aload_n 0, 1) := by decide +kernel
theorem dX9_count_152 : decode cX9_count 152 = .ok (.getfield 226, 3) := by decide +kernel
theorem dX9_count_155 : decode cX9_count 155 = .ok (.ifCond .eq 7, 3) := by decide +kernel
theorem dX9_count_158 : decode cX9_count 158 = .ok (.lconst 1, 1) := by decide +kernel
theorem dX9_count_159 : decode cX9_count 159 = .ok (.goto 4, 3) := by decide +kernel
theorem dX9_count_162 : decode cX9_count 162 = .ok (.lconst 0, 1) := by decide +kernel
theorem dX9_count_163 : decode cX9_count 163 = .ok (.lreturn, 1) := by decide +kernel
theorem dX9_count_164 : decode cX9_count 164 = .ok (.aload_n 0, 1) := by decide +kernel
theorem dX9_count_165 : decode cX9_count 165 = .ok (.getfield 272, 3) := by decide +kernel
theorem dX9_count_168 : decode cX9_count 168 = .ok (.ifCond .eq 7, 3) := by decide +kernel
theorem dX9_count_171 : decode cX9_count 171 = .ok (.lconst 1, 1) := by decide +kernel
theorem dX9_count_172 : decode cX9_count 172 = .ok (.goto 4, 3) := by decide +kernel
theorem dX9_count_175 : decode cX9_count 175 = .ok (.lconst 0, 1) := by decide +kernel
theorem dX9_count_176 : decode cX9_count 176 = .ok (.lreturn, 1) := by decide +kernel
theorem dX9_count_177 : decode cX9_count 177 = .ok (.aload_n 0, 1) := by decide +kernel
theorem dX9_count_178 : decode cX9_count 178 = .ok (.getfield 288, 3) := by decide +kernel
theorem dX9_count_181 : decode cX9_count 181 = .ok (.i2l, 1) := by decide +kernel
theorem dX9_count_182 : decode cX9_count 182 = .ok (.lreturn, 1) := by decide +kernel
theorem dX9_count_183 : decode cX9_count 183 = .ok (.aload_n 0, 1) := by decide +kernel
theorem dX9_count_184 : decode cX9_count 184 = .ok (.getfield 269, 3) := by decide +kernel
theorem dX9_count_187 : decode cX9_count 187 = .ok (.lreturn, 1) := by decide +kernel
theorem dX9_count_188 : decode cX9_count 188 = .ok (.ldc2_w 305, 3) := by decide +kernel
theorem dX9_count_191 : decode cX9_count 191 = .ok (.lreturn, 1) := by decide +kernel
theorem dL_load_0 : decode cL_load 0 = .ok (.aload_n 0, 1) := by decide +kernel
theorem dL_load_1 : decode cL_load 1 = .ok (.iload_n 1, 1) := by decide +kernel
theorem dL_load_2 : decode cL_load 2 = .ok (.lload_n 2, 1) := by decide +kernel
theorem dL_load_3 : decode cL_load 3 = .ok (.iload 4, 2) := by decide +kernel
theorem dL_load_5 : decode cL_load 5 = .ok (.invokevirtual 7, 3) := by decide +kernel
theorem dL_load_8 : decode cL_load 8 = .ok (.goto 7, 3) := by decide +kernel
theorem dL_load_11 : decode cL_load 11 = .ok (.astore 5, 2) := by decide +kernel
theorem dL_load_13 : decode cL_load 13 = .ok (.iconst 1, 1) := by decide +kernel
theorem dL_load_14 : decode cL_load 14 = .ok (.ireturn, 1) := by decide +kernel
theorem dL_load_15 : decode cL_load 15 = .ok (.iconst 0, 1) := by decide +kernel
theorem dL_load_16 : decode cL_load 16 = .ok (.ireturn, 1) := by decide +kernel
theorem dL_run_0 : decode cL_run 0 = .ok (.aload_n 2, 1) := by decide +kernel
theorem dL_run_1 : decode cL_run 1 = .ok (.iconst 0, 1) := by decide +kernel
theorem dL_run_2 : decode cL_run 2 = .ok (.aload_n 0, 1) := by decide +kernel
theorem dL_run_3 : decode cL_run 3 = .ok (.iload_n 1, 1) := by decide +kernel
theorem dL_run_4 : decode cL_run 4 = .ok (.invokevirtual 15, 3) := by decide +kernel
theorem dL_run_7 : decode cL_run 7 = .ok (.i2l, 1) := by decide +kernel
theorem dL_run_8 : decode cL_run 8 = .ok (.lastore, 1) := by decide +kernel
theorem dL_run_9 : decode cL_run 9 = .ok (.goto 6, 3) := by decide +kernel
theorem dL_run_12 : decode cL_run 12 = .ok (.astore_n 3, 1) := by decide +kernel
theorem dL_run_13 : decode cL_run 13 = .ok (.iconst 1, 1) := by decide +kernel
theorem dL_run_14 : decode cL_run 14 = .ok (.ireturn, 1) := by decide +kernel
theorem dL_run_15 : decode cL_run 15 = .ok (.iconst 0, 1) := by decide +kernel
theorem dL_run_16 : decode cL_run 16 = .ok (.ireturn, 1) := by decide +kernel
theorem dL_look_0 : decode cL_look 0 = .ok (.aload_n 2, 1) := by decide +kernel
theorem dL_look_1 : decode cL_look 1 = .ok (.iconst 0, 1) := by decide +kernel
theorem dL_look_2 : decode cL_look 2 = .ok (.aload_n 0, 1) := by decide +kernel
theorem dL_look_3 : decode cL_look 3 = .ok (.iload_n 1, 1) := by decide +kernel
theorem dL_look_4 : decode cL_look 4 = .ok (.invokevirtual 19, 3) := by decide +kernel
theorem dL_look_7 : decode cL_look 7 = .ok (.i2l, 1) := by decide +kernel
theorem dL_look_8 : decode cL_look 8 = .ok (.lastore, 1) := by decide +kernel
theorem dL_look_9 : decode cL_look 9 = .ok (.goto 6, 3) := by decide +kernel
theorem dL_look_12 : decode cL_look 12 = .ok (.astore_n 3, 1) := by decide +kernel
theorem dL_look_13 : decode cL_look 13 = .ok (.iconst 1, 1) := by decide +kernel
theorem dL_look_14 : decode cL_look 14 = .ok (.ireturn, 1) := by decide +kernel
theorem dL_look_15 : decode cL_look 15 = .ok (.iconst 0, 1) := by decide +kernel
theorem dL_look_16 : decode cL_look 16 = .ok (.ireturn, 1) := by decide +kernel
theorem dL_set_0 : decode cL_set 0 = .ok (.aload_n 0, 1) := by decide +kernel
theorem dL_set_1 : decode cL_set 1 = .ok (.iload_n 1, 1) := by decide +kernel
theorem dL_set_2 : decode cL_set 2 = .ok (.iload_n 2, 1) := by decide +kernel
theorem dL_set_3 : decode cL_set 3 = .ok (.invokevirtual 22, 3) := by decide +kernel
theorem dL_set_6 : decode cL_set 6 = .ok (.goto 6, 3) := by decide +kernel
theorem dL_set_9 : decode cL_set 9 = .ok (.astore_n 3, 1) := by decide +kernel
theorem dL_set_10 : decode cL_set 10 = .ok (.iconst 1, 1) := by decide +kernel
theorem dL_set_11 : decode cL_set 11 = .ok (.ireturn, 1) := by decide +kernel
theorem dL_set_12 : decode cL_set 12 = .ok (.iconst 0, 1) := by decide +kernel
theorem dL_set_13 : decode cL_set 13 = .ok (.ireturn, 1) := by decide +kernel
theorem dL_law_0 : decode cL_law 0 = .ok (.new 8, 3) := by decide +kernel
theorem dL_law_3 : decode cL_law 3 = .ok (.dup, 1) := by decide +kernel
theorem dL_law_4 : decode cL_law 4 = .ok (.invokespecial 26, 3) := by decide +kernel
theorem dL_law_7 : decode cL_law 7 = .ok (.astore_n 1, 1) := by decide +kernel
theorem dL_law_8 : decode cL_law 8 = .ok (.new 27, 3) := by decide +kernel
theorem dL_law_11 : decode cL_law 11 = .ok (.dup, 1) := by decide +kernel
theorem dL_law_12 : decode cL_law 12 = .ok (.invokespecial 29, 3) := by decide +kernel
theorem dL_law_15 : decode cL_law 15 = .ok (.astore_n 2, 1) := by decide +kernel
theorem dL_law_16 : decode cL_law 16 = .ok (.iconst 1, 1) := by decide +kernel
theorem dL_law_17 : decode cL_law 17 = .ok (.newarray .long, 2) := by decide +kernel
theorem dL_law_19 : decode cL_law 19 = .ok (.astore_n 3, 1) := by decide +kernel
theorem dL_law_20 : decode cL_law 20 = .ok (.iconst 0, 1) := by decide +kernel
theorem dL_law_21 : decode cL_law 21 = .ok (.istore 4, 2) := by decide +kernel
theorem dL_law_23 : decode cL_law 23 = .ok (.iload 4, 2) := by decide +kernel
theorem dL_law_25 : decode cL_law 25 = .ok (.aload_n 0, 1) := by decide +kernel
theorem dL_law_26 : decode cL_law 26 = .ok (.arraylength, 1) := by decide +kernel
theorem dL_law_27 : decode cL_law 27 = .ok (.iconst 5, 1) := by decide +kernel
theorem dL_law_28 : decode cL_law 28 = .ok (.isub, 1) := by decide +kernel
theorem dL_law_29 : decode cL_law 29 = .ok (.if_icmp .gt 548, 3) := by decide +kernel
theorem dL_law_32 : decode cL_law 32 = .ok (.aload_n 0, 1) := by decide +kernel
theorem dL_law_33 : decode cL_law 33 = .ok (.iload 4, 2) := by decide +kernel
theorem dL_law_35 : decode cL_law 35 = .ok (.iaload, 1) := by decide +kernel
theorem dL_law_36 : decode cL_law 36 = .ok (.bipush 15, 2) := by decide +kernel
theorem dL_law_38 : decode cL_law 38 = .ok (.iand, 1) := by decide +kernel
theorem dL_law_39 : decode cL_law 39 = .ok (.tableswitch 532 0 13 #[69, 161, 172, 185, 241, 252, 277, 302, 358, 383, 431, 456, 481, 506], 69) := by decide +kernel
theorem dL_law_108 : decode cL_law 108 = .ok (.aload_n 1, 1) := by decide +kernel
theorem dL_law_109 : decode cL_law 109 = .ok (.aload_n 0, 1) := by decide +kernel
theorem dL_law_110 : decode cL_law 110 = .ok (.iload 4, 2) := by decide +kernel
theorem dL_law_112 : decode cL_law 112 = .ok (.iconst 1, 1) := by decide +kernel
theorem dL_law_113 : decode cL_law 113 = .ok (.iadd, 1) := by decide +kernel
theorem dL_law_114 : decode cL_law 114 = .ok (.iaload, 1) := by decide +kernel
theorem dL_law_115 : decode cL_law 115 = .ok (.aload_n 0, 1) := by decide +kernel
theorem dL_law_116 : decode cL_law 116 = .ok (.iload 4, 2) := by decide +kernel
theorem dL_law_118 : decode cL_law 118 = .ok (.iconst 2, 1) := by decide +kernel
theorem dL_law_119 : decode cL_law 119 = .ok (.iadd, 1) := by decide +kernel
theorem dL_law_120 : decode cL_law 120 = .ok (.iaload, 1) := by decide +kernel
theorem dL_law_121 : decode cL_law 121 = .ok (.i2l, 1) := by decide +kernel
theorem dL_law_122 : decode cL_law 122 = .ok (.bipush 32, 2) := by decide +kernel
theorem dL_law_124 : decode cL_law 124 = .ok (.lshl, 1) := by decide +kernel
theorem dL_law_125 : decode cL_law 125 = .ok (.aload_n 0, 1) := by decide +kernel
theorem dL_law_126 : decode cL_law 126 = .ok (.iload 4, 2) := by decide +kernel
theorem dL_law_128 : decode cL_law 128 = .ok (.iconst 3, 1) := by decide +kernel
theorem dL_law_129 : decode cL_law 129 = .ok (.iadd, 1) := by decide +kernel
theorem dL_law_130 : decode cL_law 130 = .ok (.iaload, 1) := by decide +kernel
theorem dL_law_131 : decode cL_law 131 = .ok (.i2l, 1) := by decide +kernel
theorem dL_law_132 : decode cL_law 132 = .ok (.ldc2_w 30, 3) := by decide +kernel
theorem dL_law_135 : decode cL_law 135 = .ok (.land, 1) := by decide +kernel
theorem dL_law_136 : decode cL_law 136 = .ok (.lor, 1) := by decide +kernel
theorem dL_law_137 : decode cL_law 137 = .ok (.aload_n 0, 1) := by decide +kernel
theorem dL_law_138 : decode cL_law 138 = .ok (.iload 4, 2) := by decide +kernel
theorem dL_law_140 : decode cL_law 140 = .ok (.iconst 4, 1) := by decide +kernel
theorem dL_law_141 : decode cL_law 141 = .ok (.iadd, 1) := by decide +kernel
theorem dL_law_142 : decode cL_law 142 = .ok (.iaload, 1) := by decide +kernel
theorem dL_law_143 : decode cL_law 143 = .ok (.invokestatic 32, 3) := by decide +kernel
theorem dL_law_146 : decode cL_law 146 = .ok (.istore 5, 2) := by decide +kernel
theorem dL_law_148 : decode cL_law 148 = .ok (.aload_n 2, 1) := by decide +kernel
theorem dL_law_149 : decode cL_law 149 = .ok (.aload_n 0, 1) := by decide +kernel
theorem dL_law_150 : decode cL_law 150 = .ok (.iload 4, 2) := by decide +kernel
theorem dL_law_152 : decode cL_law 152 = .ok (.iconst 1, 1) := by decide +kernel
theorem dL_law_153 : decode cL_law 153 = .ok (.iadd, 1) := by decide +kernel
theorem dL_law_154 : decode cL_law 154 = .ok (.iaload, 1) := by decide +kernel
theorem dL_law_155 : decode cL_law 155 = .ok (.aload_n 0, 1) := by decide +kernel
theorem dL_law_156 : decode cL_law 156 = .ok (.iload 4, 2) := by decide +kernel
theorem dL_law_158 : decode cL_law 158 = .ok (.iconst 2, 1) := by decide +kernel
theorem dL_law_159 : decode cL_law 159 = .ok (.iadd, 1) := by decide +kernel
theorem dL_law_160 : decode cL_law 160 = .ok (.iaload, 1) := by decide +kernel
theorem dL_law_161 : decode cL_law 161 = .ok (.i2l, 1) := by decide +kernel
theorem dL_law_162 : decode cL_law 162 = .ok (.bipush 32, 2) := by decide +kernel
theorem dL_law_164 : decode cL_law 164 = .ok (.lshl, 1) := by decide +kernel
theorem dL_law_165 : decode cL_law 165 = .ok (.aload_n 0, 1) := by decide +kernel
theorem dL_law_166 : decode cL_law 166 = .ok (.iload 4, 2) := by decide +kernel
theorem dL_law_168 : decode cL_law 168 = .ok (.iconst 3, 1) := by decide +kernel
theorem dL_law_169 : decode cL_law 169 = .ok (.iadd, 1) := by decide +kernel
theorem dL_law_170 : decode cL_law 170 = .ok (.iaload, 1) := by decide +kernel
theorem dL_law_171 : decode cL_law 171 = .ok (.i2l, 1) := by decide +kernel
theorem dL_law_172 : decode cL_law 172 = .ok (.ldc2_w 30, 3) := by decide +kernel
theorem dL_law_175 : decode cL_law 175 = .ok (.land, 1) := by decide +kernel
theorem dL_law_176 : decode cL_law 176 = .ok (.lor, 1) := by decide +kernel
theorem dL_law_177 : decode cL_law 177 = .ok (.aload_n 0, 1) := by decide +kernel
theorem dL_law_178 : decode cL_law 178 = .ok (.iload 4, 2) := by decide +kernel
theorem dL_law_180 : decode cL_law 180 = .ok (.iconst 4, 1) := by decide +kernel
theorem dL_law_181 : decode cL_law 181 = .ok (.iadd, 1) := by decide +kernel
theorem dL_law_182 : decode cL_law 182 = .ok (.iaload, 1) := by decide +kernel
theorem dL_law_183 : decode cL_law 183 = .ok (.invokevirtual 37, 3) := by decide +kernel
theorem dL_law_186 : decode cL_law 186 = .ok (.aload_n 2, 1) := by decide +kernel
theorem dL_law_187 : decode cL_law 187 = .ok (.invokevirtual 38, 3) := by decide +kernel
theorem dL_law_190 : decode cL_law 190 = .ok (.iload 5, 2) := by decide +kernel
theorem dL_law_192 : decode cL_law 192 = .ok (.if_icmp .eq 5, 3) := by decide +kernel
theorem dL_law_195 : decode cL_law 195 = .ok (.iconst 0, 1) := by decide +kernel
theorem dL_law_196 : decode cL_law 196 = .ok (.ireturn, 1) := by decide +kernel
theorem dL_law_197 : decode cL_law 197 = .ok (.goto 374, 3) := by decide +kernel
theorem dL_law_200 : decode cL_law 200 = .ok (.aload_n 1, 1) := by decide +kernel
theorem dL_law_201 : decode cL_law 201 = .ok (.invokevirtual 42, 3) := by decide +kernel
theorem dL_law_204 : decode cL_law 204 = .ok (.aload_n 2, 1) := by decide +kernel
theorem dL_law_205 : decode cL_law 205 = .ok (.invokevirtual 45, 3) := by decide +kernel
theorem dL_law_208 : decode cL_law 208 = .ok (.goto 363, 3) := by decide +kernel
theorem dL_law_211 : decode cL_law 211 = .ok (.aload_n 1, 1) := by decide +kernel
theorem dL_law_212 : decode cL_law 212 = .ok (.invokevirtual 46, 3) := by decide +kernel
theorem dL_law_215 : decode cL_law 215 = .ok (.aload_n 2, 1) := by decide +kernel
theorem dL_law_216 : decode cL_law 216 = .ok (.invokevirtual 49, 3) := by decide +kernel
theorem dL_law_219 : decode cL_law 219 = .ok (.if_icmp .eq 352, 3) := by decide +kernel
theorem dL_law_222 : decode cL_law 222 = .ok (.iconst 0, 1) := by decide +kernel
theorem dL_law_223 : decode cL_law 223 = .ok (.ireturn, 1) := by decide +kernel
theorem dL_law_224 : decode cL_law 224 = .ok (.aload_n 1, 1) := by decide +kernel
theorem dL_law_225 : decode cL_law 225 = .ok (.aload_n 0, 1) := by decide +kernel
theorem dL_law_226 : decode cL_law 226 = .ok (.iload 4, 2) := by decide +kernel
theorem dL_law_228 : decode cL_law 228 = .ok (.iconst 1, 1) := by decide +kernel
theorem dL_law_229 : decode cL_law 229 = .ok (.iadd, 1) := by decide +kernel
theorem dL_law_230 : decode cL_law 230 = .ok (.iaload, 1) := by decide +kernel
theorem dL_law_231 : decode cL_law 231 = .ok (.aload_n 3, 1) := by decide +kernel
theorem dL_law_232 : decode cL_law 232 = .ok (.invokestatic 50, 3) := by decide +kernel
theorem dL_law_235 : decode cL_law 235 = .ok (.istore 5, 2) := by decide +kernel
theorem dL_law_237 : decode cL_law 237 = .ok (.aload_n 2, 1) := by decide +kernel
theorem dL_law_238 : decode cL_law 238 = .ok (.aload_n 0, 1) := by decide +kernel
theorem dL_law_239 : decode cL_law 239 = .ok (.iload 4, 2) := by decide +kernel
theorem dL_law_241 : decode cL_law 241 = .ok (.iconst 1, 1) := by decide +kernel
theorem dL_law_242 : decode cL_law 242 = .ok (.iadd, 1) := by decide +kernel
theorem dL_law_243 : decode cL_law 243 = .ok (.iaload, 1) := by decide +kernel
theorem dL_law_244 : decode cL_law 244 = .ok (.invokevirtual 53, 3) := by decide +kernel
theorem dL_law_247 : decode cL_law 247 = .ok (.istore 6, 2) := by decide +kernel
theorem dL_law_249 : decode cL_law 249 = .ok (.aload_n 2, 1) := by decide +kernel
theorem dL_law_250 : decode cL_law 250 = .ok (.invokevirtual 38, 3) := by decide +kernel
theorem dL_law_253 : decode cL_law 253 = .ok (.iload 5, 2) := by decide +kernel
theorem dL_law_255 : decode cL_law 255 = .ok (.if_icmp .eq 5, 3) := by decide +kernel
theorem dL_law_258 : decode cL_law 258 = .ok (.iconst 0, 1) := by decide +kernel
theorem dL_law_259 : decode cL_law 259 = .ok (.ireturn, 1) := by decide +kernel
theorem dL_law_260 : decode cL_law 260 = .ok (.iload 5, 2) := by decide +kernel
theorem dL_law_262 : decode cL_law 262 = .ok (.ifCond .ne 15, 3) := by decide +kernel
theorem dL_law_265 : decode cL_law 265 = .ok (.aload_n 3, 1) := by decide +kernel
theorem dL_law_266 : decode cL_law 266 = .ok (.iconst 0, 1) := by decide +kernel
theorem dL_law_267 : decode cL_law 267 = .ok (.laload, 1) := by decide +kernel
theorem dL_law_268 : decode cL_law 268 = .ok (.iload 6, 2) := by decide +kernel
theorem dL_law_270 : decode cL_law 270 = .ok (.i2l, 1) := by decide +kernel
theorem dL_law_271 : decode cL_law 271 = .ok (.lcmp, 1) := by decide +kernel
theorem dL_law_272 : decode cL_law 272 = .ok (.ifCond .eq 5, 3) := by decide +kernel
theorem dL_law_275 : decode cL_law 275 = .ok (.iconst 0, 1) := by decide +kernel
theorem dL_law_276 : decode cL_law 276 = .ok (.ireturn, 1) := by decide +kernel
theorem dL_law_277 : decode cL_law 277 = .ok (.goto 294, 3) := by decide +kernel
theorem dL_law_280 : decode cL_law 280 = .ok (.aload_n 1, 1) := by decide +kernel
theorem dL_law_281 : decode cL_law 281 = .ok (.invokevirtual 54, 3) := by decide +kernel
theorem dL_law_284 : decode cL_law 284 = .ok (.aload_n 2, 1) := by decide +kernel
theorem dL_law_285 : decode cL_law 285 = .ok (.invokevirtual 57, 3) := by decide +kernel
theorem dL_law_288 : decode cL_law 288 = .ok (.goto 283, 3) := by decide +kernel
theorem dL_law_291 : decode cL_law 291 = .ok (.aload_n 1, 1) := by decide +kernel
theorem dL_law_292 : decode cL_law 292 = .ok (.aload_n 0, 1) := by decide +kernel
theorem dL_law_293 : decode cL_law 293 = .ok (.iload 4, 2) := by decide +kernel
theorem dL_law_295 : decode cL_law 295 = .ok (.iconst 1, 1) := by decide +kernel
theorem dL_law_296 : decode cL_law 296 = .ok (.iadd, 1) := by decide +kernel
theorem dL_law_297 : decode cL_law 297 = .ok (.iaload, 1) := by decide +kernel
theorem dL_law_298 : decode cL_law 298 = .ok (.invokevirtual 58, 3) := by decide +kernel
theorem dL_law_301 : decode cL_law 301 = .ok (.aload_n 2, 1) := by decide +kernel
theorem dL_law_302 : decode cL_law 302 = .ok (.aload_n 0, 1) := by decide +kernel
theorem dL_law_303 : decode cL_law 303 = .ok (.iload 4, 2) := by decide +kernel
theorem dL_law_305 : decode cL_law 305 = .ok (.iconst 1, 1) := by decide +kernel
theorem dL_law_306 : decode cL_law 306 = .ok (.iadd, 1) := by decide +kernel
theorem dL_law_307 : decode cL_law 307 = .ok (.iaload, 1) := by decide +kernel
theorem dL_law_308 : decode cL_law 308 = .ok (.invokevirtual 61, 3) := by decide +kernel
theorem dL_law_311 : decode cL_law 311 = .ok (.if_icmp .eq 260, 3) := by decide +kernel
theorem dL_law_314 : decode cL_law 314 = .ok (.iconst 0, 1) := by decide +kernel
theorem dL_law_315 : decode cL_law 315 = .ok (.ireturn, 1) := by decide +kernel
theorem dL_law_316 : decode cL_law 316 = .ok (.aload_n 1, 1) := by decide +kernel
theorem dL_law_317 : decode cL_law 317 = .ok (.aload_n 0, 1) := by decide +kernel
theorem dL_law_318 : decode cL_law 318 = .ok (.iload 4, 2) := by decide +kernel
theorem dL_law_320 : decode cL_law 320 = .ok (.iconst 1, 1) := by decide +kernel
theorem dL_law_321 : decode cL_law 321 = .ok (.iadd, 1) := by decide +kernel
theorem dL_law_322 : decode cL_law 322 = .ok (.iaload, 1) := by decide +kernel
theorem dL_law_323 : decode cL_law 323 = .ok (.invokevirtual 62, 3) := by decide +kernel
theorem dL_law_326 : decode cL_law 326 = .ok (.aload_n 2, 1) := by decide +kernel
theorem dL_law_327 : decode cL_law 327 = .ok (.aload_n 0, 1) := by decide +kernel
theorem dL_law_328 : decode cL_law 328 = .ok (.iload 4, 2) := by decide +kernel
theorem dL_law_330 : decode cL_law 330 = .ok (.iconst 1, 1) := by decide +kernel
theorem dL_law_331 : decode cL_law 331 = .ok (.iadd, 1) := by decide +kernel
theorem dL_law_332 : decode cL_law 332 = .ok (.iaload, 1) := by decide +kernel
theorem dL_law_333 : decode cL_law 333 = .ok (.invokevirtual 65, 3) := by decide +kernel
theorem dL_law_336 : decode cL_law 336 = .ok (.if_icmp .eq 235, 3) := by decide +kernel
theorem dL_law_339 : decode cL_law 339 = .ok (.iconst 0, 1) := by decide +kernel
theorem dL_law_340 : decode cL_law 340 = .ok (.ireturn, 1) := by decide +kernel
theorem dL_law_341 : decode cL_law 341 = .ok (.aload_n 1, 1) := by decide +kernel
theorem dL_law_342 : decode cL_law 342 = .ok (.aload_n 0, 1) := by decide +kernel
theorem dL_law_343 : decode cL_law 343 = .ok (.iload 4, 2) := by decide +kernel
theorem dL_law_345 : decode cL_law 345 = .ok (.iconst 1, 1) := by decide +kernel
theorem dL_law_346 : decode cL_law 346 = .ok (.iadd, 1) := by decide +kernel
theorem dL_law_347 : decode cL_law 347 = .ok (.iaload, 1) := by decide +kernel
theorem dL_law_348 : decode cL_law 348 = .ok (.aload_n 3, 1) := by decide +kernel
theorem dL_law_349 : decode cL_law 349 = .ok (.invokestatic 66, 3) := by decide +kernel
theorem dL_law_352 : decode cL_law 352 = .ok (.istore 5, 2) := by decide +kernel
theorem dL_law_354 : decode cL_law 354 = .ok (.aload_n 2, 1) := by decide +kernel
theorem dL_law_355 : decode cL_law 355 = .ok (.aload_n 0, 1) := by decide +kernel
theorem dL_law_356 : decode cL_law 356 = .ok (.iload 4, 2) := by decide +kernel
theorem dL_law_358 : decode cL_law 358 = .ok (.iconst 1, 1) := by decide +kernel
theorem dL_law_359 : decode cL_law 359 = .ok (.iadd, 1) := by decide +kernel
theorem dL_law_360 : decode cL_law 360 = .ok (.iaload, 1) := by decide +kernel
theorem dL_law_361 : decode cL_law 361 = .ok (.invokevirtual 68, 3) := by decide +kernel
theorem dL_law_364 : decode cL_law 364 = .ok (.istore 6, 2) := by decide +kernel
theorem dL_law_366 : decode cL_law 366 = .ok (.aload_n 2, 1) := by decide +kernel
theorem dL_law_367 : decode cL_law 367 = .ok (.invokevirtual 38, 3) := by decide +kernel
theorem dL_law_370 : decode cL_law 370 = .ok (.iload 5, 2) := by decide +kernel
theorem dL_law_372 : decode cL_law 372 = .ok (.if_icmp .eq 5, 3) := by decide +kernel
theorem dL_law_375 : decode cL_law 375 = .ok (.iconst 0, 1) := by decide +kernel
theorem dL_law_376 : decode cL_law 376 = .ok (.ireturn, 1) := by decide +kernel
theorem dL_law_377 : decode cL_law 377 = .ok (.iload 5, 2) := by decide +kernel
theorem dL_law_379 : decode cL_law 379 = .ok (.ifCond .ne 15, 3) := by decide +kernel
theorem dL_law_382 : decode cL_law 382 = .ok (.aload_n 3, 1) := by decide +kernel
theorem dL_law_383 : decode cL_law 383 = .ok (.iconst 0, 1) := by decide +kernel
theorem dL_law_384 : decode cL_law 384 = .ok (.laload, 1) := by decide +kernel
theorem dL_law_385 : decode cL_law 385 = .ok (.iload 6, 2) := by decide +kernel
theorem dL_law_387 : decode cL_law 387 = .ok (.i2l, 1) := by decide +kernel
theorem dL_law_388 : decode cL_law 388 = .ok (.lcmp, 1) := by decide +kernel
theorem dL_law_389 : decode cL_law 389 = .ok (.ifCond .eq 5, 3) := by decide +kernel
theorem dL_law_392 : decode cL_law 392 = .ok (.iconst 0, 1) := by decide +kernel
theorem dL_law_393 : decode cL_law 393 = .ok (.ireturn, 1) := by decide +kernel
theorem dL_law_394 : decode cL_law 394 = .ok (.goto 177, 3) := by decide +kernel
theorem dL_law_397 : decode cL_law 397 = .ok (.aload_n 1, 1) := by decide +kernel
theorem dL_law_398 : decode cL_law 398 = .ok (.aload_n 0, 1) := by decide +kernel
theorem dL_law_399 : decode cL_law 399 = .ok (.iload 4, 2) := by decide +kernel
theorem dL_law_401 : decode cL_law 401 = .ok (.iconst 1, 1) := by decide +kernel
theorem dL_law_402 : decode cL_law 402 = .ok (.iadd, 1) := by decide +kernel
theorem dL_law_403 : decode cL_law 403 = .ok (.iaload, 1) := by decide +kernel
theorem dL_law_404 : decode cL_law 404 = .ok (.invokevirtual 69, 3) := by decide +kernel
theorem dL_law_407 : decode cL_law 407 = .ok (.aload_n 2, 1) := by decide +kernel
theorem dL_law_408 : decode cL_law 408 = .ok (.aload_n 0, 1) := by decide +kernel
theorem dL_law_409 : decode cL_law 409 = .ok (.iload 4, 2) := by decide +kernel
theorem dL_law_411 : decode cL_law 411 = .ok (.iconst 1, 1) := by decide +kernel
theorem dL_law_412 : decode cL_law 412 = .ok (.iadd, 1) := by decide +kernel
theorem dL_law_413 : decode cL_law 413 = .ok (.iaload, 1) := by decide +kernel
theorem dL_law_414 : decode cL_law 414 = .ok (.invokevirtual 72, 3) := by decide +kernel
theorem dL_law_417 : decode cL_law 417 = .ok (.if_icmp .eq 154, 3) := by decide +kernel
theorem dL_law_420 : decode cL_law 420 = .ok (.iconst 0, 1) := by decide +kernel
theorem dL_law_421 : decode cL_law 421 = .ok (.ireturn, 1) := by decide +kernel
theorem dL_law_422 : decode cL_law 422 = .ok (.aload_n 1, 1) := by decide +kernel
theorem dL_law_423 : decode cL_law 423 = .ok (.aload_n 0, 1) := by decide +kernel
theorem dL_law_424 : decode cL_law 424 = .ok (.iload 4, 2) := by decide +kernel
theorem dL_law_426 : decode cL_law 426 = .ok (.iconst 1, 1) := by decide +kernel
theorem dL_law_427 : decode cL_law 427 = .ok (.iadd, 1) := by decide +kernel
theorem dL_law_428 : decode cL_law 428 = .ok (.iaload, 1) := by decide +kernel
theorem dL_law_429 : decode cL_law 429 = .ok (.aload_n 0, 1) := by decide +kernel
theorem dL_law_430 : decode cL_law 430 = .ok (.iload 4, 2) := by decide +kernel
theorem dL_law_432 : decode cL_law 432 = .ok (.iconst 2, 1) := by decide +kernel
theorem dL_law_433 : decode cL_law 433 = .ok (.iadd, 1) := by decide +kernel
theorem dL_law_434 : decode cL_law 434 = .ok (.iaload, 1) := by decide +kernel
theorem dL_law_435 : decode cL_law 435 = .ok (.invokestatic 73, 3) := by decide +kernel
theorem dL_law_438 : decode cL_law 438 = .ok (.istore 5, 2) := by decide +kernel
theorem dL_law_440 : decode cL_law 440 = .ok (.aload_n 2, 1) := by decide +kernel
theorem dL_law_441 : decode cL_law 441 = .ok (.aload_n 0, 1) := by decide +kernel
theorem dL_law_442 : decode cL_law 442 = .ok (.iload 4, 2) := by decide +kernel
theorem dL_law_444 : decode cL_law 444 = .ok (.iconst 1, 1) := by decide +kernel
theorem dL_law_445 : decode cL_law 445 = .ok (.iadd, 1) := by decide +kernel
theorem dL_law_446 : decode cL_law 446 = .ok (.iaload, 1) := by decide +kernel
theorem dL_law_447 : decode cL_law 447 = .ok (.aload_n 0, 1) := by decide +kernel
theorem dL_law_448 : decode cL_law 448 = .ok (.iload 4, 2) := by decide +kernel
theorem dL_law_450 : decode cL_law 450 = .ok (.iconst 2, 1) := by decide +kernel
theorem dL_law_451 : decode cL_law 451 = .ok (.iadd, 1) := by decide +kernel
theorem dL_law_452 : decode cL_law 452 = .ok (.iaload, 1) := by decide +kernel
theorem dL_law_453 : decode cL_law 453 = .ok (.invokevirtual 76, 3) := by decide +kernel
theorem dL_law_456 : decode cL_law 456 = .ok (.aload_n 2, 1) := by decide +kernel
theorem dL_law_457 : decode cL_law 457 = .ok (.invokevirtual 38, 3) := by decide +kernel
theorem dL_law_460 : decode cL_law 460 = .ok (.iload 5, 2) := by decide +kernel
theorem dL_law_462 : decode cL_law 462 = .ok (.if_icmp .eq 5, 3) := by decide +kernel
theorem dL_law_465 : decode cL_law 465 = .ok (.iconst 0, 1) := by decide +kernel
theorem dL_law_466 : decode cL_law 466 = .ok (.ireturn, 1) := by decide +kernel
theorem dL_law_467 : decode cL_law 467 = .ok (.goto 104, 3) := by decide +kernel
theorem dL_law_470 : decode cL_law 470 = .ok (.aload_n 1, 1) := by decide +kernel
theorem dL_law_471 : decode cL_law 471 = .ok (.aload_n 0, 1) := by decide +kernel
theorem dL_law_472 : decode cL_law 472 = .ok (.iload 4, 2) := by decide +kernel
theorem dL_law_474 : decode cL_law 474 = .ok (.iconst 1, 1) := by decide +kernel
theorem dL_law_475 : decode cL_law 475 = .ok (.iadd, 1) := by decide +kernel
theorem dL_law_476 : decode cL_law 476 = .ok (.iaload, 1) := by decide +kernel
theorem dL_law_477 : decode cL_law 477 = .ok (.invokevirtual 77, 3) := by decide +kernel
theorem dL_law_480 : decode cL_law 480 = .ok (.aload_n 2, 1) := by decide +kernel
theorem dL_law_481 : decode cL_law 481 = .ok (.aload_n 0, 1) := by decide +kernel
theorem dL_law_482 : decode cL_law 482 = .ok (.iload 4, 2) := by decide +kernel
theorem dL_law_484 : decode cL_law 484 = .ok (.iconst 1, 1) := by decide +kernel
theorem dL_law_485 : decode cL_law 485 = .ok (.iadd, 1) := by decide +kernel
theorem dL_law_486 : decode cL_law 486 = .ok (.iaload, 1) := by decide +kernel
theorem dL_law_487 : decode cL_law 487 = .ok (.invokevirtual 81, 3) := by decide +kernel
theorem dL_law_490 : decode cL_law 490 = .ok (.if_icmp .eq 81, 3) := by decide +kernel
theorem dL_law_493 : decode cL_law 493 = .ok (.iconst 0, 1) := by decide +kernel
theorem dL_law_494 : decode cL_law 494 = .ok (.ireturn, 1) := by decide +kernel
theorem dL_law_495 : decode cL_law 495 = .ok (.aload_n 1, 1) := by decide +kernel
theorem dL_law_496 : decode cL_law 496 = .ok (.aload_n 0, 1) := by decide +kernel
theorem dL_law_497 : decode cL_law 497 = .ok (.iload 4, 2) := by decide +kernel
theorem dL_law_499 : decode cL_law 499 = .ok (.iconst 1, 1) := by decide +kernel
theorem dL_law_500 : decode cL_law 500 = .ok (.iadd, 1) := by decide +kernel
theorem dL_law_501 : decode cL_law 501 = .ok (.iaload, 1) := by decide +kernel
theorem dL_law_502 : decode cL_law 502 = .ok (.invokevirtual 82, 3) := by decide +kernel
theorem dL_law_505 : decode cL_law 505 = .ok (.aload_n 2, 1) := by decide +kernel
theorem dL_law_506 : decode cL_law 506 = .ok (.aload_n 0, 1) := by decide +kernel
theorem dL_law_507 : decode cL_law 507 = .ok (.iload 4, 2) := by decide +kernel
theorem dL_law_509 : decode cL_law 509 = .ok (.iconst 1, 1) := by decide +kernel
theorem dL_law_510 : decode cL_law 510 = .ok (.iadd, 1) := by decide +kernel
theorem dL_law_511 : decode cL_law 511 = .ok (.iaload, 1) := by decide +kernel
theorem dL_law_512 : decode cL_law 512 = .ok (.invokevirtual 85, 3) := by decide +kernel
theorem dL_law_515 : decode cL_law 515 = .ok (.if_icmp .eq 56, 3) := by decide +kernel
theorem dL_law_518 : decode cL_law 518 = .ok (.iconst 0, 1) := by decide +kernel
theorem dL_law_519 : decode cL_law 519 = .ok (.ireturn, 1) := by decide +kernel
theorem dL_law_520 : decode cL_law 520 = .ok (.aload_n 1, 1) := by decide +kernel
theorem dL_law_521 : decode cL_law 521 = .ok (.aload_n 0, 1) := by decide +kernel
theorem dL_law_522 : decode cL_law 522 = .ok (.iload 4, 2) := by decide +kernel
theorem dL_law_524 : decode cL_law 524 = .ok (.iconst 1, 1) := by decide +kernel
theorem dL_law_525 : decode cL_law 525 = .ok (.iadd, 1) := by decide +kernel
theorem dL_law_526 : decode cL_law 526 = .ok (.iaload, 1) := by decide +kernel
theorem dL_law_527 : decode cL_law 527 = .ok (.invokevirtual 86, 3) := by decide +kernel
theorem dL_law_530 : decode cL_law 530 = .ok (.aload_n 2, 1) := by decide +kernel
theorem dL_law_531 : decode cL_law 531 = .ok (.aload_n 0, 1) := by decide +kernel
theorem dL_law_532 : decode cL_law 532 = .ok (.iload 4, 2) := by decide +kernel
theorem dL_law_534 : decode cL_law 534 = .ok (.iconst 1, 1) := by decide +kernel
theorem dL_law_535 : decode cL_law 535 = .ok (.iadd, 1) := by decide +kernel
theorem dL_law_536 : decode cL_law 536 = .ok (.iaload, 1) := by decide +kernel
theorem dL_law_537 : decode cL_law 537 = .ok (.invokevirtual 89, 3) := by decide +kernel
theorem dL_law_540 : decode cL_law 540 = .ok (.if_icmp .eq 31, 3) := by decide +kernel
theorem dL_law_543 : decode cL_law 543 = .ok (.iconst 0, 1) := by decide +kernel
theorem dL_law_544 : decode cL_law 544 = .ok (.ireturn, 1) := by decide +kernel
theorem dL_law_545 : decode cL_law 545 = .ok (.aload_n 1, 1) := by decide +kernel
theorem dL_law_546 : decode cL_law 546 = .ok (.aload_n 0, 1) := by decide +kernel
theorem dL_law_547 : decode cL_law 547 = .ok (.iload 4, 2) := by decide +kernel
theorem dL_law_549 : decode cL_law 549 = .ok (.iconst 1, 1) := by decide +kernel
theorem dL_law_550 : decode cL_law 550 = .ok (.iadd, 1) := by decide +kernel
theorem dL_law_551 : decode cL_law 551 = .ok (.iaload, 1) := by decide +kernel
theorem dL_law_552 : decode cL_law 552 = .ok (.invokevirtual 90, 3) := by decide +kernel
theorem dL_law_555 : decode cL_law 555 = .ok (.aload_n 2, 1) := by decide +kernel
theorem dL_law_556 : decode cL_law 556 = .ok (.aload_n 0, 1) := by decide +kernel
theorem dL_law_557 : decode cL_law 557 = .ok (.iload 4, 2) := by decide +kernel
theorem dL_law_559 : decode cL_law 559 = .ok (.iconst 1, 1) := by decide +kernel
theorem dL_law_560 : decode cL_law 560 = .ok (.iadd, 1) := by decide +kernel
theorem dL_law_561 : decode cL_law 561 = .ok (.iaload, 1) := by decide +kernel
theorem dL_law_562 : decode cL_law 562 = .ok (.invokevirtual 94, 3) := by decide +kernel
theorem dL_law_565 : decode cL_law 565 = .ok (.lcmp, 1) := by decide +kernel
theorem dL_law_566 : decode cL_law 566 = .ok (.ifCond .eq 5, 3) := by decide +kernel
theorem dL_law_569 : decode cL_law 569 = .ok (.iconst 0, 1) := by decide +kernel
theorem dL_law_570 : decode cL_law 570 = .ok (.ireturn, 1) := by decide +kernel
theorem dL_law_571 : decode cL_law 571 = .ok (.iinc 4 5, 3) := by decide +kernel
theorem dL_law_574 : decode cL_law 574 = .ok (.goto (-551), 3) := by decide +kernel
theorem dL_law_577 : decode cL_law 577 = .ok (.iconst 1, 1) := by decide +kernel
theorem dL_law_578 : decode cL_law 578 = .ok (.ireturn, 1) := by decide +kernel
end
section
def tbl : List Cond := lw_tbl.filter goodWord
theorem tbl_good {w : Cond} (h : w ∈ tbl) : goodWord w = true := (List.mem_filter.mp h).2
theorem tbl_lw {w : Cond} (h : w ∈ tbl) : w ∈ lw_tbl := (List.mem_filter.mp h).1
theorem tbl_p {w : Cond} {i : Nat} (h : (k2_sels lw_privs)[i]? = some w) (hg : goodWord w = true) : w ∈ tbl := List.mem_filter.mpr ⟨List.mem_append_left _ (List.mem_of_getElem? h), hg⟩
theorem tbl_1 {w : Cond} {i : Nat} (h : tables_1_1[i]? = some w) (hg : goodWord w = true) : w ∈ tbl := List.mem_filter.mpr ⟨List.mem_append_right _ (List.mem_append_left _ (List.mem_of_getElem? h)), hg⟩
theorem tbl_2 {w : Cond} {i : Nat} (h : tables_1_2[i]? = some w) (hg : goodWord w = true) : w ∈ tbl := List.mem_filter.mpr ⟨List.mem_append_right _ (List.mem_append_right _ (List.mem_append_left _ (List.mem_of_getElem? h))), hg⟩
theorem tbl_3 {w : Cond} {i : Nat} (h : tables_1_3[i]? = some w) (hg : goodWord w = true) : w ∈ tbl := List.mem_filter.mpr ⟨List.mem_append_right _ (List.mem_append_right _ (List.mem_append_right _ (List.mem_append_left _ (List.mem_of_getElem? h)))), hg⟩
theorem tbl_4 {w : Cond} {i : Nat} (h : tables_1_4[i]? = some w) (hg : goodWord w = true) : w ∈ tbl := List.mem_filter.mpr ⟨List.mem_append_right _ (List.mem_append_right _ (List.mem_append_right _ (List.mem_append_right _ (List.mem_append_left _ (List.mem_of_getElem? h))))), hg⟩
theorem tbl_5 {w : Cond} {i : Nat} (h : tables_1_5[i]? = some w) (hg : goodWord w = true) : w ∈ tbl := List.mem_filter.mpr ⟨List.mem_append_right _ (List.mem_append_right _ (List.mem_append_right _ (List.mem_append_right _ (List.mem_append_right _ (List.mem_of_getElem? h))))), hg⟩
theorem tb_gV {own C : String} {idx n : Nat} {y : MethodName} {b : ByteArray} {r : Option FieldType} {hd : Cond} (h1 : Cond.methodLink own idx y ∈ tbl) (h2 : Cond.instanceMethod y ∈ tbl) (h3 : Cond.selects C y y ∈ tbl) (h4 : Cond.initialized C ∈ tbl) (h5 : Cond.code y b n r ∈ tbl) : GoodIn (hd :: tbl) (wsV own idx C y (Cond.code y b n r :: tbl)) := by
  intro w hw
  have hm : w ∈ tbl := by
    rcases List.mem_append.mp hw with h | h
    · rcases List.mem_cons.mp h with rfl | h
      · exact h1
      · rcases List.mem_cons.mp h with rfl | h
        · exact h2
        · rcases List.mem_cons.mp h with rfl | h
          · exact h3
          · rcases List.mem_cons.mp h with rfl | h
            · exact h4
            · exact absurd h List.not_mem_nil
    · rcases List.mem_cons.mp h with rfl | h
      · exact h5
      · exact h
  exact ⟨List.mem_cons_of_mem _ hm, good_of_word (tbl_good hm)⟩
theorem tb_gS {own : String} {idx n : Nat} {y : MethodName} {b : ByteArray} {r : Option FieldType} {hd : Cond} (h1 : Cond.methodLink own idx y ∈ tbl) (h2 : Cond.static y ∈ tbl) (h3 : Cond.initialized y.cls ∈ tbl) (h5 : Cond.code y b n r ∈ tbl) : GoodIn (hd :: tbl) (va_wsS own idx y (Cond.code y b n r :: tbl)) := by
  intro w hw
  have hm : w ∈ tbl := by
    rcases List.mem_append.mp hw with h | h
    · rcases List.mem_cons.mp h with rfl | h
      · exact h1
      · rcases List.mem_cons.mp h with rfl | h
        · exact h2
        · rcases List.mem_cons.mp h with rfl | h
          · exact h3
          · exact absurd h List.not_mem_nil
    · rcases List.mem_cons.mp h with rfl | h
      · exact h5
      · exact h
  exact ⟨List.mem_cons_of_mem _ hm, good_of_word (tbl_good hm)⟩
theorem tw_1_1 : Cond.initialized RX8 ∈ tbl := tbl_1 (i := 1) rfl rfl
theorem tw_1_2 : Cond.initialized RX0 ∈ tbl := tbl_1 (i := 2) rfl rfl
theorem tw_1_3 : Cond.initialized RX6 ∈ tbl := tbl_1 (i := 3) rfl rfl
theorem tw_1_4 : Cond.initialized RX4 ∈ tbl := tbl_1 (i := 4) rfl rfl
theorem tw_1_5 : Cond.initialized RX3 ∈ tbl := tbl_1 (i := 5) rfl rfl
theorem tw_1_6 : Cond.initialized RX5 ∈ tbl := tbl_1 (i := 6) rfl rfl
theorem tw_1_7 : Cond.initialized RX7 ∈ tbl := tbl_1 (i := 7) rfl rfl
theorem tw_1_8 : Cond.initialized RX1 ∈ tbl := tbl_1 (i := 8) rfl rfl
theorem tw_1_9 : Cond.initialized RX9 ∈ tbl := tbl_1 (i := 9) rfl rfl
theorem tw_1_14 : Cond.initialized RX2 ∈ tbl := tbl_1 (i := 14) rfl rfl
theorem tw_1_15 : Cond.initialized RJ9 ∈ tbl := tbl_1 (i := 15) rfl rfl
theorem tw_1_36 : Cond.constant RX6 9 65535 ∈ tbl := tbl_1 (i := 36) rfl rfl
theorem tw_1_37 : Cond.fieldLink RX6 10 RX6 "counter1" "I" ∈ tbl := tbl_1 (i := 37) rfl rfl
theorem tw_1_38 : Cond.fieldLink RX8 146 RX6 "counter1" "I" ∈ tbl := tbl_1 (i := 38) rfl rfl
theorem tw_1_39 : Cond.fieldLink RX6 14 RX6 "counter2" "I" ∈ tbl := tbl_1 (i := 39) rfl rfl
theorem tw_1_40 : Cond.fieldLink RX8 151 RX6 "counter2" "I" ∈ tbl := tbl_1 (i := 40) rfl rfl
theorem tw_1_41 : Cond.fieldLink RX6 17 RX6 "latch1" "I" ∈ tbl := tbl_1 (i := 41) rfl rfl
theorem tw_1_42 : Cond.fieldLink RX8 154 RX6 "latch1" "I" ∈ tbl := tbl_1 (i := 42) rfl rfl
theorem tw_1_43 : Cond.fieldLink RX6 20 RX6 "ifr" "I" ∈ tbl := tbl_1 (i := 43) rfl rfl
theorem tw_1_44 : Cond.fieldLink RX8 157 RX6 "ifr" "I" ∈ tbl := tbl_1 (i := 44) rfl rfl
theorem tw_1_45 : Cond.fieldLink RX6 23 RX6 "ier" "I" ∈ tbl := tbl_1 (i := 45) rfl rfl
theorem tw_1_46 : Cond.fieldLink RX8 160 RX6 "ier" "I" ∈ tbl := tbl_1 (i := 46) rfl rfl
theorem tw_1_47 : Cond.fieldLink RX6 26 RX6 "latch2Low" "I" ∈ tbl := tbl_1 (i := 47) rfl rfl
theorem tw_1_48 : Cond.fieldLink RX6 29 RX6 "acr" "I" ∈ tbl := tbl_1 (i := 48) rfl rfl
theorem tw_1_49 : Cond.fieldLink RX6 32 RX6 "armed1" "Z" ∈ tbl := tbl_1 (i := 49) rfl rfl
theorem tw_1_50 : Cond.fieldLink RX6 36 RX6 "armed2" "Z" ∈ tbl := tbl_1 (i := 50) rfl rfl
theorem tw_1_51 : Cond.lays RX6 RX6 "counter1" "I" ∈ tbl := tbl_1 (i := 51) rfl rfl
theorem tw_1_53 : Cond.lays RX6 RX6 "counter2" "I" ∈ tbl := tbl_1 (i := 53) rfl rfl
theorem tw_1_55 : Cond.lays RX6 RX6 "latch1" "I" ∈ tbl := tbl_1 (i := 55) rfl rfl
theorem tw_1_57 : Cond.lays RX6 RX6 "ifr" "I" ∈ tbl := tbl_1 (i := 57) rfl rfl
theorem tw_1_59 : Cond.lays RX6 RX6 "ier" "I" ∈ tbl := tbl_1 (i := 59) rfl rfl
theorem tw_1_61 : Cond.lays RX6 RX6 "latch2Low" "I" ∈ tbl := tbl_1 (i := 61) rfl rfl
theorem tw_1_63 : Cond.lays RX6 RX6 "acr" "I" ∈ tbl := tbl_1 (i := 63) rfl rfl
theorem tw_1_65 : Cond.lays RX6 RX6 "armed1" "Z" ∈ tbl := tbl_1 (i := 65) rfl rfl
theorem tw_1_67 : Cond.lays RX6 RX6 "armed2" "Z" ∈ tbl := tbl_1 (i := 67) rfl rfl
theorem tw_1_76 : Cond.fieldLink RX4 18 RX4 "waiting" "I" ∈ tbl := tbl_1 (i := 76) rfl rfl
theorem tw_1_77 : Cond.fieldLink RX8 136 RX4 "waiting" "I" ∈ tbl := tbl_1 (i := 77) rfl rfl
theorem tw_1_78 : Cond.fieldLink RX4 28 RX4 "sentInAll" "I" ∈ tbl := tbl_1 (i := 78) rfl rfl
theorem tw_1_79 : Cond.fieldLink RX8 133 RX4 "sentInAll" "I" ∈ tbl := tbl_1 (i := 79) rfl rfl
theorem tw_1_80 : Cond.fieldLink RX4 11 RX4 "came" "[I" ∈ tbl := tbl_1 (i := 80) rfl rfl
theorem tw_1_81 : Cond.fieldLink RX4 15 RX4 "sentBytes" "[I" ∈ tbl := tbl_1 (i := 81) rfl rfl
theorem tw_1_82 : Cond.fieldLink RX4 22 RX4 "oldest" "I" ∈ tbl := tbl_1 (i := 82) rfl rfl
theorem tw_1_83 : Cond.fieldLink RX4 25 RX4 "command" "I" ∈ tbl := tbl_1 (i := 83) rfl rfl
theorem tw_1_84 : Cond.lays RX4 RX4 "waiting" "I" ∈ tbl := tbl_1 (i := 84) rfl rfl
theorem tw_1_86 : Cond.lays RX4 RX4 "sentInAll" "I" ∈ tbl := tbl_1 (i := 86) rfl rfl
theorem tw_1_88 : Cond.laysFinal RX4 RX4 "came" "[I" ∈ tbl := tbl_1 (i := 88) rfl rfl
theorem tw_1_90 : Cond.laysFinal RX4 RX4 "sentBytes" "[I" ∈ tbl := tbl_1 (i := 90) rfl rfl
theorem tw_1_92 : Cond.lays RX4 RX4 "oldest" "I" ∈ tbl := tbl_1 (i := 92) rfl rfl
theorem tw_1_94 : Cond.lays RX4 RX4 "command" "I" ∈ tbl := tbl_1 (i := 94) rfl rfl
theorem tw_1_105 : Cond.fieldLink RX3 7 RX3 "words" "[J" ∈ tbl := tbl_1 (i := 105) rfl rfl
theorem tw_1_106 : Cond.laysFinal RX3 RX3 "words" "[J" ∈ tbl := tbl_1 (i := 106) rfl rfl
theorem tw_1_110 : Cond.fieldLink RX0 14 RX0 "timers" "LBoardMachine$Timers;" ∈ tbl := tbl_1 (i := 110) rfl rfl
theorem tw_1_111 : Cond.fieldLink RX5 67 RX0 "timers" "LBoardMachine$Timers;" ∈ tbl := tbl_1 (i := 111) rfl rfl
theorem tw_1_112 : Cond.fieldLink RX8 142 RX0 "timers" "LBoardMachine$Timers;" ∈ tbl := tbl_1 (i := 112) rfl rfl
theorem tw_1_113 : Cond.fieldLink RX0 21 RX0 "port" "LBoardMachine$Port;" ∈ tbl := tbl_1 (i := 113) rfl rfl
theorem tw_1_114 : Cond.fieldLink RX8 72 RX0 "port" "LBoardMachine$Port;" ∈ tbl := tbl_1 (i := 114) rfl rfl
theorem tw_1_115 : Cond.fieldLink RX0 35 RX0 "bank" "I" ∈ tbl := tbl_1 (i := 115) rfl rfl
theorem tw_1_116 : Cond.fieldLink RX8 139 RX0 "bank" "I" ∈ tbl := tbl_1 (i := 116) rfl rfl
theorem tw_1_117 : Cond.fieldLink RX0 31 RX0 "memory" "LBoardMachine$Memory;" ∈ tbl := tbl_1 (i := 117) rfl rfl
theorem tw_1_118 : Cond.laysFinal RX0 RX0 "timers" "LBoardMachine$Timers;" ∈ tbl := tbl_1 (i := 118) rfl rfl
theorem tw_1_120 : Cond.laysFinal RX0 RX0 "port" "LBoardMachine$Port;" ∈ tbl := tbl_1 (i := 120) rfl rfl
theorem tw_1_122 : Cond.lays RX0 RX0 "bank" "I" ∈ tbl := tbl_1 (i := 122) rfl rfl
theorem tw_1_124 : Cond.laysFinal RX0 RX0 "memory" "LBoardMachine$Memory;" ∈ tbl := tbl_1 (i := 124) rfl rfl
theorem tw_1_139 : Cond.fieldLink RX7 15 RX7 "noted" "I" ∈ tbl := tbl_1 (i := 139) rfl rfl
theorem tw_1_140 : Cond.fieldLink RX8 130 RX7 "noted" "I" ∈ tbl := tbl_1 (i := 140) rfl rfl
theorem tw_1_141 : Cond.fieldLink RX7 11 RX7 "addresses" "[I" ∈ tbl := tbl_1 (i := 141) rfl rfl
theorem tw_1_142 : Cond.lays RX7 RX7 "noted" "I" ∈ tbl := tbl_1 (i := 142) rfl rfl
theorem tw_1_144 : Cond.laysFinal RX7 RX7 "addresses" "[I" ∈ tbl := tbl_1 (i := 144) rfl rfl
theorem tw_1_147 : Cond.fieldLink RX8 93 RX5 "a" "I" ∈ tbl := tbl_1 (i := 147) rfl rfl
theorem tw_1_148 : Cond.fieldLink RX5 161 RX5 "a" "I" ∈ tbl := tbl_1 (i := 148) rfl rfl
theorem tw_1_149 : Cond.fieldLink RX5 149 RX5 "x" "I" ∈ tbl := tbl_1 (i := 149) rfl rfl
theorem tw_1_150 : Cond.fieldLink RX8 96 RX5 "x" "I" ∈ tbl := tbl_1 (i := 150) rfl rfl
theorem tw_1_151 : Cond.fieldLink RX5 152 RX5 "y" "I" ∈ tbl := tbl_1 (i := 151) rfl rfl
theorem tw_1_152 : Cond.fieldLink RX8 99 RX5 "y" "I" ∈ tbl := tbl_1 (i := 152) rfl rfl
theorem tw_1_153 : Cond.fieldLink RX5 24 RX5 "s" "I" ∈ tbl := tbl_1 (i := 153) rfl rfl
theorem tw_1_154 : Cond.fieldLink RX8 102 RX5 "s" "I" ∈ tbl := tbl_1 (i := 154) rfl rfl
theorem tw_1_155 : Cond.fieldLink RX5 9 RX5 "p" "I" ∈ tbl := tbl_1 (i := 155) rfl rfl
theorem tw_1_156 : Cond.fieldLink RX8 105 RX5 "p" "I" ∈ tbl := tbl_1 (i := 156) rfl rfl
theorem tw_1_157 : Cond.fieldLink RX5 32 RX5 "pc" "I" ∈ tbl := tbl_1 (i := 157) rfl rfl
theorem tw_1_158 : Cond.fieldLink RX8 61 RX5 "pc" "I" ∈ tbl := tbl_1 (i := 158) rfl rfl
theorem tw_1_159 : Cond.fieldLink RX5 35 RX5 "waits" "Z" ∈ tbl := tbl_1 (i := 159) rfl rfl
theorem tw_1_160 : Cond.fieldLink RX8 163 RX5 "waits" "Z" ∈ tbl := tbl_1 (i := 160) rfl rfl
theorem tw_1_161 : Cond.fieldLink RX5 39 RX5 "stopped" "Z" ∈ tbl := tbl_1 (i := 161) rfl rfl
theorem tw_1_162 : Cond.fieldLink RX8 57 RX5 "stopped" "Z" ∈ tbl := tbl_1 (i := 162) rfl rfl
theorem tw_1_163 : Cond.fieldLink RX5 42 RX5 "edge" "Z" ∈ tbl := tbl_1 (i := 163) rfl rfl
theorem tw_1_164 : Cond.fieldLink RX8 69 RX5 "edge" "Z" ∈ tbl := tbl_1 (i := 164) rfl rfl
theorem tw_1_165 : Cond.fieldLink RX5 63 RX5 "cycles" "J" ∈ tbl := tbl_1 (i := 165) rfl rfl
theorem tw_1_166 : Cond.fieldLink RX8 126 RX5 "cycles" "J" ∈ tbl := tbl_1 (i := 166) rfl rfl
theorem tw_1_167 : Cond.fieldLink RX5 76 RX5 "interrupts" "I" ∈ tbl := tbl_1 (i := 167) rfl rfl
theorem tw_1_168 : Cond.fieldLink RX8 169 RX5 "interrupts" "I" ∈ tbl := tbl_1 (i := 168) rfl rfl
theorem tw_1_169 : Cond.fieldLink RX5 16 RX5 "carried" "LBoardMachine$Trace;" ∈ tbl := tbl_1 (i := 169) rfl rfl
theorem tw_1_170 : Cond.fieldLink RX8 117 RX5 "carried" "LBoardMachine$Trace;" ∈ tbl := tbl_1 (i := 170) rfl rfl
theorem tw_1_171 : Cond.fieldLink RX5 20 RX5 "board" "LBoardMachine$Board;" ∈ tbl := tbl_1 (i := 171) rfl rfl
theorem tw_1_172 : Cond.fieldLink RX5 57 RX5 "spent" "I" ∈ tbl := tbl_1 (i := 172) rfl rfl
theorem tw_1_173 : Cond.fieldLink RX5 105 RX5 "crossed" "Z" ∈ tbl := tbl_1 (i := 173) rfl rfl
theorem tw_1_174 : Cond.lays RX5 RX5 "a" "I" ∈ tbl := tbl_1 (i := 174) rfl rfl
theorem tw_1_176 : Cond.lays RX5 RX5 "x" "I" ∈ tbl := tbl_1 (i := 176) rfl rfl
theorem tw_1_178 : Cond.lays RX5 RX5 "y" "I" ∈ tbl := tbl_1 (i := 178) rfl rfl
theorem tw_1_180 : Cond.lays RX5 RX5 "s" "I" ∈ tbl := tbl_1 (i := 180) rfl rfl
theorem tw_1_182 : Cond.lays RX5 RX5 "p" "I" ∈ tbl := tbl_1 (i := 182) rfl rfl
theorem tw_1_184 : Cond.lays RX5 RX5 "pc" "I" ∈ tbl := tbl_1 (i := 184) rfl rfl
theorem tw_1_186 : Cond.lays RX5 RX5 "waits" "Z" ∈ tbl := tbl_1 (i := 186) rfl rfl
theorem tw_1_188 : Cond.lays RX5 RX5 "stopped" "Z" ∈ tbl := tbl_1 (i := 188) rfl rfl
theorem tw_1_190 : Cond.lays RX5 RX5 "edge" "Z" ∈ tbl := tbl_1 (i := 190) rfl rfl
theorem tw_1_192 : Cond.lays RX5 RX5 "cycles" "J" ∈ tbl := tbl_1 (i := 192) rfl rfl
theorem tw_1_194 : Cond.lays RX5 RX5 "interrupts" "I" ∈ tbl := tbl_1 (i := 194) rfl rfl
theorem tw_1_196 : Cond.laysFinal RX5 RX5 "carried" "LBoardMachine$Trace;" ∈ tbl := tbl_1 (i := 196) rfl rfl
theorem tw_1_198 : Cond.laysFinal RX5 RX5 "board" "LBoardMachine$Board;" ∈ tbl := tbl_1 (i := 198) rfl rfl
theorem tw_1_200 : Cond.lays RX5 RX5 "spent" "I" ∈ tbl := tbl_1 (i := 200) rfl rfl
theorem tw_1_202 : Cond.lays RX5 RX5 "crossed" "Z" ∈ tbl := tbl_1 (i := 202) rfl rfl
theorem tw_1_211 : Cond.fieldLink RX1 19 RX1 "size" "I" ∈ tbl := tbl_1 (i := 211) rfl rfl
theorem tw_1_212 : Cond.fieldLink RX8 166 RX1 "size" "I" ∈ tbl := tbl_1 (i := 212) rfl rfl
theorem tw_1_213 : Cond.fieldLink RX1 11 RX1 "addresses" "[I" ∈ tbl := tbl_1 (i := 213) rfl rfl
theorem tw_1_214 : Cond.lays RX1 RX1 "size" "I" ∈ tbl := tbl_1 (i := 214) rfl rfl
theorem tw_1_216 : Cond.laysFinal RX1 RX1 "addresses" "[I" ∈ tbl := tbl_1 (i := 216) rfl rfl
theorem tw_1_219 : Cond.fieldLink RX8 10 RX8 "board" "LBoardMachine$Board;" ∈ tbl := tbl_1 (i := 219) rfl rfl
theorem tw_1_220 : Cond.fieldLink RX8 21 RX8 "processor" "LBoardMachine$Processor;" ∈ tbl := tbl_1 (i := 220) rfl rfl
theorem tw_1_221 : Cond.fieldLink RX8 28 RX8 "breaks" "LBoardMachine$Breaks;" ∈ tbl := tbl_1 (i := 221) rfl rfl
theorem tw_1_222 : Cond.laysFinal RX8 RX8 "board" "LBoardMachine$Board;" ∈ tbl := tbl_1 (i := 222) rfl rfl
theorem tw_1_224 : Cond.laysFinal RX8 RX8 "processor" "LBoardMachine$Processor;" ∈ tbl := tbl_1 (i := 224) rfl rfl
theorem tw_1_226 : Cond.laysFinal RX8 RX8 "breaks" "LBoardMachine$Breaks;" ∈ tbl := tbl_1 (i := 226) rfl rfl
theorem tw_1_233 : Cond.methodLink RX8 46 yX0_restart ∈ tbl := tbl_1 (i := 233) rfl rfl
theorem tw_1_234 : Cond.instanceMethod yX0_restart ∈ tbl := tbl_1 (i := 234) rfl rfl
theorem tw_1_235 : Cond.selects RX0 yX0_restart yX0_restart ∈ tbl := tbl_1 (i := 235) rfl rfl
theorem tw_1_236 : Cond.code yX0_restart cX0_restart 1 none ∈ tbl := tbl_1 (i := 236) rfl rfl
theorem tw_1_237 : Cond.methodLink RX0 39 yX6_restart ∈ tbl := tbl_1 (i := 237) rfl rfl
theorem tw_1_238 : Cond.instanceMethod yX6_restart ∈ tbl := tbl_1 (i := 238) rfl rfl
theorem tw_1_239 : Cond.selects RX6 yX6_restart yX6_restart ∈ tbl := tbl_1 (i := 239) rfl rfl
theorem tw_2_0 : Cond.code yX6_restart cX6_restart 1 none ∈ tbl := tbl_2 (i := 0) rfl rfl
theorem tw_2_1 : Cond.methodLink RX0 42 yX4_restart ∈ tbl := tbl_2 (i := 1) rfl rfl
theorem tw_2_2 : Cond.instanceMethod yX4_restart ∈ tbl := tbl_2 (i := 2) rfl rfl
theorem tw_2_3 : Cond.selects RX4 yX4_restart yX4_restart ∈ tbl := tbl_2 (i := 3) rfl rfl
theorem tw_2_4 : Cond.code yX4_restart cX4_restart 1 none ∈ tbl := tbl_2 (i := 4) rfl rfl
theorem tw_2_5 : Cond.methodLink RX8 49 yX5_restart ∈ tbl := tbl_2 (i := 5) rfl rfl
theorem tw_2_6 : Cond.instanceMethod yX5_restart ∈ tbl := tbl_2 (i := 6) rfl rfl
theorem tw_2_7 : Cond.selects RX5 yX5_restart yX5_restart ∈ tbl := tbl_2 (i := 7) rfl rfl
theorem tw_2_8 : Cond.code yX5_restart cX5_restart 1 none ∈ tbl := tbl_2 (i := 8) rfl rfl
theorem tw_2_9 : Cond.constant RX5 27 65532 ∈ tbl := tbl_2 (i := 9) rfl rfl
theorem tw_2_10 : Cond.methodLink RX5 28 yX5_wordAt ∈ tbl := tbl_2 (i := 10) rfl rfl
theorem tw_2_12 : Cond.instanceMethod yX5_wordAt ∈ tbl := tbl_2 (i := 12) rfl rfl
theorem tw_2_13 : Cond.code yX5_wordAt cX5_wordAt 3 (some .int) ∈ tbl := tbl_2 (i := 13) rfl rfl
theorem tw_2_14 : Cond.methodLink RX5 86 yX0_read ∈ tbl := tbl_2 (i := 14) rfl rfl
theorem tw_2_15 : Cond.instanceMethod yX0_read ∈ tbl := tbl_2 (i := 15) rfl rfl
theorem tw_2_16 : Cond.selects RX0 yX0_read yX0_read ∈ tbl := tbl_2 (i := 16) rfl rfl
theorem tw_2_17 : Cond.code yX0_read cX0_read 3 (some .int) ∈ tbl := tbl_2 (i := 17) rfl rfl
theorem tw_2_18 : Cond.methodLink RX0 48 yX0_isDevice ∈ tbl := tbl_2 (i := 18) rfl rfl
theorem tw_2_19 : Cond.static yX0_isDevice ∈ tbl := tbl_2 (i := 19) rfl rfl
theorem tw_2_20 : Cond.code yX0_isDevice cX0_isDevice 1 (some .boolean) ∈ tbl := tbl_2 (i := 20) rfl rfl
theorem tw_2_21 : Cond.constant RX0 65 40960 ∈ tbl := tbl_2 (i := 21) rfl rfl
theorem tw_2_22 : Cond.constant RX0 84 49152 ∈ tbl := tbl_2 (i := 22) rfl rfl
theorem tw_2_23 : Cond.methodLink RX0 52 yX0_cell ∈ tbl := tbl_2 (i := 23) rfl rfl
theorem tw_2_25 : Cond.instanceMethod yX0_cell ∈ tbl := tbl_2 (i := 25) rfl rfl
theorem tw_2_26 : Cond.code yX0_cell cX0_cell 2 (some .int) ∈ tbl := tbl_2 (i := 26) rfl rfl
theorem tw_2_27 : Cond.constant RX0 83 32768 ∈ tbl := tbl_2 (i := 27) rfl rfl
theorem tw_2_28 : Cond.constant RX0 85 65536 ∈ tbl := tbl_2 (i := 28) rfl rfl
theorem tw_2_29 : Cond.methodLink RX0 56 yX3_byteAt ∈ tbl := tbl_2 (i := 29) rfl rfl
theorem tw_2_30 : Cond.instanceMethod yX3_byteAt ∈ tbl := tbl_2 (i := 30) rfl rfl
theorem tw_2_31 : Cond.selects RX3 yX3_byteAt yX3_byteAt ∈ tbl := tbl_2 (i := 31) rfl rfl
theorem tw_2_32 : Cond.code yX3_byteAt cX3_byteAt 2 (some .int) ∈ tbl := tbl_2 (i := 32) rfl rfl
theorem tw_2_33 : Cond.methodLink RX0 59 yX0_peekDevice ∈ tbl := tbl_2 (i := 33) rfl rfl
theorem tw_2_35 : Cond.instanceMethod yX0_peekDevice ∈ tbl := tbl_2 (i := 35) rfl rfl
theorem tw_2_36 : Cond.code yX0_peekDevice cX0_peekDevice 2 (some .int) ∈ tbl := tbl_2 (i := 36) rfl rfl
theorem tw_2_37 : Cond.constant RX0 70 40976 ∈ tbl := tbl_2 (i := 37) rfl rfl
theorem tw_2_38 : Cond.methodLink RX0 77 yX6_peek ∈ tbl := tbl_2 (i := 38) rfl rfl
theorem tw_2_39 : Cond.instanceMethod yX6_peek ∈ tbl := tbl_2 (i := 39) rfl rfl
theorem tw_2_40 : Cond.selects RX6 yX6_peek yX6_peek ∈ tbl := tbl_2 (i := 40) rfl rfl
theorem tw_2_41 : Cond.code yX6_peek cX6_peek 2 (some .int) ∈ tbl := tbl_2 (i := 41) rfl rfl
theorem tw_2_42 : Cond.constant RX0 74 40979 ∈ tbl := tbl_2 (i := 42) rfl rfl
theorem tw_2_43 : Cond.methodLink RX0 80 yX4_peek ∈ tbl := tbl_2 (i := 43) rfl rfl
theorem tw_2_44 : Cond.instanceMethod yX4_peek ∈ tbl := tbl_2 (i := 44) rfl rfl
theorem tw_2_45 : Cond.selects RX4 yX4_peek yX4_peek ∈ tbl := tbl_2 (i := 45) rfl rfl
theorem tw_2_46 : Cond.code yX4_peek cX4_peek 2 (some .int) ∈ tbl := tbl_2 (i := 46) rfl rfl
theorem tw_2_47 : Cond.constant RX0 76 40992 ∈ tbl := tbl_2 (i := 47) rfl rfl
theorem tw_2_48 : Cond.methodLink RX0 62 yX0_afterReading ∈ tbl := tbl_2 (i := 48) rfl rfl
theorem tw_2_50 : Cond.instanceMethod yX0_afterReading ∈ tbl := tbl_2 (i := 50) rfl rfl
theorem tw_2_51 : Cond.code yX0_afterReading cX0_afterReading 2 none ∈ tbl := tbl_2 (i := 51) rfl rfl
theorem tw_2_52 : Cond.methodLink RX0 81 yX6_afterReading ∈ tbl := tbl_2 (i := 52) rfl rfl
theorem tw_2_53 : Cond.instanceMethod yX6_afterReading ∈ tbl := tbl_2 (i := 53) rfl rfl
theorem tw_2_54 : Cond.selects RX6 yX6_afterReading yX6_afterReading ∈ tbl := tbl_2 (i := 54) rfl rfl
theorem tw_2_55 : Cond.code yX6_afterReading cX6_afterReading 2 none ∈ tbl := tbl_2 (i := 55) rfl rfl
theorem tw_2_56 : Cond.methodLink RX0 82 yX4_afterReading ∈ tbl := tbl_2 (i := 56) rfl rfl
theorem tw_2_57 : Cond.instanceMethod yX4_afterReading ∈ tbl := tbl_2 (i := 57) rfl rfl
theorem tw_2_58 : Cond.selects RX4 yX4_afterReading yX4_afterReading ∈ tbl := tbl_2 (i := 58) rfl rfl
theorem tw_2_59 : Cond.code yX4_afterReading cX4_afterReading 2 none ∈ tbl := tbl_2 (i := 59) rfl rfl
theorem tw_2_60 : Cond.constant RX5 148 65535 ∈ tbl := tbl_2 (i := 60) rfl rfl
theorem tw_2_65 : Cond.methodLink RX8 50 yX5_advance ∈ tbl := tbl_2 (i := 65) rfl rfl
theorem tw_2_66 : Cond.instanceMethod yX5_advance ∈ tbl := tbl_2 (i := 66) rfl rfl
theorem tw_2_67 : Cond.selects RX5 yX5_advance yX5_advance ∈ tbl := tbl_2 (i := 67) rfl rfl
theorem tw_2_68 : Cond.code yX5_advance cX5_advance 2 (some .int) ∈ tbl := tbl_2 (i := 68) rfl rfl
theorem tw_2_69 : Cond.methodLink RX5 45 yX0_asks ∈ tbl := tbl_2 (i := 69) rfl rfl
theorem tw_2_70 : Cond.instanceMethod yX0_asks ∈ tbl := tbl_2 (i := 70) rfl rfl
theorem tw_2_71 : Cond.selects RX0 yX0_asks yX0_asks ∈ tbl := tbl_2 (i := 71) rfl rfl
theorem tw_2_72 : Cond.code yX0_asks cX0_asks 1 (some .boolean) ∈ tbl := tbl_2 (i := 72) rfl rfl
theorem tw_2_73 : Cond.methodLink RX0 43 yX6_asks ∈ tbl := tbl_2 (i := 73) rfl rfl
theorem tw_2_74 : Cond.instanceMethod yX6_asks ∈ tbl := tbl_2 (i := 74) rfl rfl
theorem tw_2_75 : Cond.selects RX6 yX6_asks yX6_asks ∈ tbl := tbl_2 (i := 75) rfl rfl
theorem tw_2_76 : Cond.code yX6_asks cX6_asks 1 (some .boolean) ∈ tbl := tbl_2 (i := 76) rfl rfl
theorem tw_2_77 : Cond.methodLink RX6 39 yX6_peek ∈ tbl := tbl_2 (i := 77) rfl rfl
theorem tw_2_78 : Cond.methodLink RX0 47 yX4_asks ∈ tbl := tbl_2 (i := 78) rfl rfl
theorem tw_2_79 : Cond.instanceMethod yX4_asks ∈ tbl := tbl_2 (i := 79) rfl rfl
theorem tw_2_80 : Cond.selects RX4 yX4_asks yX4_asks ∈ tbl := tbl_2 (i := 80) rfl rfl
theorem tw_2_81 : Cond.code yX4_asks cX4_asks 1 (some .boolean) ∈ tbl := tbl_2 (i := 81) rfl rfl
theorem tw_2_82 : Cond.methodLink RX4 31 yX4_peek ∈ tbl := tbl_2 (i := 82) rfl rfl
theorem tw_2_83 : Cond.constant RX5 51 65530 ∈ tbl := tbl_2 (i := 83) rfl rfl
theorem tw_2_84 : Cond.methodLink RX5 52 yX5_takeInterrupt ∈ tbl := tbl_2 (i := 84) rfl rfl
theorem tw_2_86 : Cond.instanceMethod yX5_takeInterrupt ∈ tbl := tbl_2 (i := 86) rfl rfl
theorem tw_2_87 : Cond.code yX5_takeInterrupt cX5_takeInterrupt 2 none ∈ tbl := tbl_2 (i := 87) rfl rfl
theorem tw_2_88 : Cond.methodLink RX5 79 yX5_interrupt ∈ tbl := tbl_2 (i := 88) rfl rfl
theorem tw_2_90 : Cond.instanceMethod yX5_interrupt ∈ tbl := tbl_2 (i := 90) rfl rfl
theorem tw_2_91 : Cond.code yX5_interrupt cX5_interrupt 3 none ∈ tbl := tbl_2 (i := 91) rfl rfl
theorem tw_2_92 : Cond.methodLink RX5 83 yX5_push ∈ tbl := tbl_2 (i := 92) rfl rfl
theorem tw_2_94 : Cond.instanceMethod yX5_push ∈ tbl := tbl_2 (i := 94) rfl rfl
theorem tw_2_95 : Cond.code yX5_push cX5_push 2 none ∈ tbl := tbl_2 (i := 95) rfl rfl
theorem tw_2_96 : Cond.methodLink RX5 125 yX0_write ∈ tbl := tbl_2 (i := 96) rfl rfl
theorem tw_2_97 : Cond.instanceMethod yX0_write ∈ tbl := tbl_2 (i := 97) rfl rfl
theorem tw_2_98 : Cond.selects RX0 yX0_write yX0_write ∈ tbl := tbl_2 (i := 98) rfl rfl
theorem tw_2_99 : Cond.code yX0_write cX0_write 3 none ∈ tbl := tbl_2 (i := 99) rfl rfl
theorem tw_2_100 : Cond.methodLink RX0 66 yX3_store ∈ tbl := tbl_2 (i := 100) rfl rfl
theorem tw_2_101 : Cond.instanceMethod yX3_store ∈ tbl := tbl_2 (i := 101) rfl rfl
theorem tw_2_102 : Cond.selects RX3 yX3_store yX3_store ∈ tbl := tbl_2 (i := 102) rfl rfl
theorem tw_2_103 : Cond.code yX3_store cX3_store 6 none ∈ tbl := tbl_2 (i := 103) rfl rfl
theorem tw_2_104 : Cond.constantLong RX3 13 255 ∈ tbl := tbl_2 (i := 104) rfl rfl
theorem tw_2_105 : Cond.constantLong RX3 15 (-1) ∈ tbl := tbl_2 (i := 105) rfl rfl
theorem tw_2_106 : Cond.methodLink RX0 71 yX6_write ∈ tbl := tbl_2 (i := 106) rfl rfl
theorem tw_2_107 : Cond.instanceMethod yX6_write ∈ tbl := tbl_2 (i := 107) rfl rfl
theorem tw_2_108 : Cond.selects RX6 yX6_write yX6_write ∈ tbl := tbl_2 (i := 108) rfl rfl
theorem tw_2_109 : Cond.code yX6_write cX6_write 3 none ∈ tbl := tbl_2 (i := 109) rfl rfl
theorem tw_2_110 : Cond.constant RX6 43 65280 ∈ tbl := tbl_2 (i := 110) rfl rfl
theorem tw_2_111 : Cond.methodLink RX0 75 yX4_write ∈ tbl := tbl_2 (i := 111) rfl rfl
theorem tw_2_112 : Cond.instanceMethod yX4_write ∈ tbl := tbl_2 (i := 112) rfl rfl
theorem tw_2_113 : Cond.selects RX4 yX4_write yX4_write ∈ tbl := tbl_2 (i := 113) rfl rfl
theorem tw_2_114 : Cond.code yX4_write cX4_write 3 none ∈ tbl := tbl_2 (i := 114) rfl rfl
theorem tw_2_115 : Cond.constant RX5 56 65534 ∈ tbl := tbl_2 (i := 115) rfl rfl
theorem tw_2_116 : Cond.methodLink RX5 60 yX5_carryOut ∈ tbl := tbl_2 (i := 116) rfl rfl
theorem tw_2_118 : Cond.instanceMethod yX5_carryOut ∈ tbl := tbl_2 (i := 118) rfl rfl
theorem tw_2_119 : Cond.code yX5_carryOut cX5_carryOut 6 none ∈ tbl := tbl_2 (i := 119) rfl rfl
theorem tw_2_120 : Cond.methodLink RX5 89 yX7_note ∈ tbl := tbl_2 (i := 120) rfl rfl
theorem tw_2_121 : Cond.instanceMethod yX7_note ∈ tbl := tbl_2 (i := 121) rfl rfl
theorem tw_2_122 : Cond.selects RX7 yX7_note yX7_note ∈ tbl := tbl_2 (i := 122) rfl rfl
theorem tw_2_123 : Cond.code yX7_note cX7_note 2 none ∈ tbl := tbl_2 (i := 123) rfl rfl
theorem tw_2_124 : Cond.methodLink RX5 92 yX5_fetch ∈ tbl := tbl_2 (i := 124) rfl rfl
theorem tw_2_126 : Cond.instanceMethod yX5_fetch ∈ tbl := tbl_2 (i := 126) rfl rfl
theorem tw_2_127 : Cond.code yX5_fetch cX5_fetch 2 (some .int) ∈ tbl := tbl_2 (i := 127) rfl rfl
theorem tw_2_128 : Cond.fieldLink RX5 96 RX2 "OPERATIONS" "[I" ∈ tbl := tbl_2 (i := 128) rfl rfl
theorem tw_2_130 : Cond.fieldLink RX5 102 RX2 "MODES" "[I" ∈ tbl := tbl_2 (i := 130) rfl rfl
theorem tw_2_132 : Cond.methodLink RX5 108 yX5_addressOf ∈ tbl := tbl_2 (i := 132) rfl rfl
theorem tw_2_134 : Cond.instanceMethod yX5_addressOf ∈ tbl := tbl_2 (i := 134) rfl rfl
theorem tw_2_135 : Cond.code yX5_addressOf cX5_addressOf 3 (some .int) ∈ tbl := tbl_2 (i := 135) rfl rfl
theorem tw_2_136 : Cond.methodLink RX5 155 yX5_indexed ∈ tbl := tbl_2 (i := 136) rfl rfl
theorem tw_2_138 : Cond.instanceMethod yX5_indexed ∈ tbl := tbl_2 (i := 138) rfl rfl
theorem tw_2_139 : Cond.code yX5_indexed cX5_indexed 4 (some .int) ∈ tbl := tbl_2 (i := 139) rfl rfl
theorem tw_2_140 : Cond.methodLink RX5 158 yX5_pointerAt ∈ tbl := tbl_2 (i := 140) rfl rfl
theorem tw_2_142 : Cond.instanceMethod yX5_pointerAt ∈ tbl := tbl_2 (i := 142) rfl rfl
theorem tw_2_143 : Cond.code yX5_pointerAt cX5_pointerAt 3 (some .int) ∈ tbl := tbl_2 (i := 143) rfl rfl
theorem tw_2_144 : Cond.fieldLink RX5 112 RX2 "CYCLES" "[I" ∈ tbl := tbl_2 (i := 144) rfl rfl
theorem tw_2_146 : Cond.methodLink RX5 115 yX2_paysForCrossing ∈ tbl := tbl_2 (i := 146) rfl rfl
theorem tw_2_147 : Cond.static yX2_paysForCrossing ∈ tbl := tbl_2 (i := 147) rfl rfl
theorem tw_2_148 : Cond.code yX2_paysForCrossing cX2_paysForCrossing 1 (some .boolean) ∈ tbl := tbl_2 (i := 148) rfl rfl
theorem tw_2_149 : Cond.methodLink RX5 119 yX5_use ∈ tbl := tbl_2 (i := 149) rfl rfl
theorem tw_2_151 : Cond.instanceMethod yX5_use ∈ tbl := tbl_2 (i := 151) rfl rfl
theorem tw_2_152 : Cond.code yX5_use cX5_use 3 none ∈ tbl := tbl_2 (i := 152) rfl rfl
theorem tw_2_153 : Cond.methodLink RX5 164 yX5_shown ∈ tbl := tbl_2 (i := 153) rfl rfl
theorem tw_2_155 : Cond.instanceMethod yX5_shown ∈ tbl := tbl_2 (i := 155) rfl rfl
theorem tw_2_156 : Cond.code yX5_shown cX5_shown 3 (some .int) ∈ tbl := tbl_2 (i := 156) rfl rfl
theorem tw_2_157 : Cond.methodLink RX5 167 yX5_compare ∈ tbl := tbl_2 (i := 157) rfl rfl
theorem tw_2_159 : Cond.instanceMethod yX5_compare ∈ tbl := tbl_2 (i := 159) rfl rfl
theorem tw_2_160 : Cond.code yX5_compare cX5_compare 3 none ∈ tbl := tbl_2 (i := 160) rfl rfl
theorem tw_2_161 : Cond.methodLink RX5 179 yX5_mark ∈ tbl := tbl_2 (i := 161) rfl rfl
theorem tw_2_163 : Cond.instanceMethod yX5_mark ∈ tbl := tbl_2 (i := 163) rfl rfl
theorem tw_2_164 : Cond.code yX5_mark cX5_mark 3 none ∈ tbl := tbl_2 (i := 164) rfl rfl
theorem tw_2_165 : Cond.methodLink RX5 170 yX5_addDecimal ∈ tbl := tbl_2 (i := 165) rfl rfl
theorem tw_2_167 : Cond.instanceMethod yX5_addDecimal ∈ tbl := tbl_2 (i := 167) rfl rfl
theorem tw_2_168 : Cond.code yX5_addDecimal cX5_addDecimal 4 none ∈ tbl := tbl_2 (i := 168) rfl rfl
theorem tw_2_169 : Cond.methodLink RX5 183 yX5_changesSign ∈ tbl := tbl_2 (i := 169) rfl rfl
theorem tw_2_171 : Cond.instanceMethod yX5_changesSign ∈ tbl := tbl_2 (i := 171) rfl rfl
theorem tw_2_172 : Cond.code yX5_changesSign cX5_changesSign 3 (some .boolean) ∈ tbl := tbl_2 (i := 172) rfl rfl
theorem tw_2_173 : Cond.methodLink RX5 173 yX5_add ∈ tbl := tbl_2 (i := 173) rfl rfl
theorem tw_2_175 : Cond.instanceMethod yX5_add ∈ tbl := tbl_2 (i := 175) rfl rfl
theorem tw_2_176 : Cond.code yX5_add cX5_add 3 none ∈ tbl := tbl_2 (i := 176) rfl rfl
theorem tw_2_177 : Cond.methodLink RX5 176 yX5_subtractDecimal ∈ tbl := tbl_2 (i := 177) rfl rfl
theorem tw_2_179 : Cond.instanceMethod yX5_subtractDecimal ∈ tbl := tbl_2 (i := 179) rfl rfl
theorem tw_2_180 : Cond.code yX5_subtractDecimal cX5_subtractDecimal 5 none ∈ tbl := tbl_2 (i := 180) rfl rfl
theorem tw_2_181 : Cond.methodLink RX5 122 yX5_stored ∈ tbl := tbl_2 (i := 181) rfl rfl
theorem tw_2_183 : Cond.instanceMethod yX5_stored ∈ tbl := tbl_2 (i := 183) rfl rfl
theorem tw_2_184 : Cond.code yX5_stored cX5_stored 2 (some .int) ∈ tbl := tbl_2 (i := 184) rfl rfl
theorem tw_2_185 : Cond.methodLink RX5 128 yX5_change ∈ tbl := tbl_2 (i := 185) rfl rfl
theorem tw_2_187 : Cond.instanceMethod yX5_change ∈ tbl := tbl_2 (i := 187) rfl rfl
theorem tw_2_188 : Cond.code yX5_change cX5_change 5 none ∈ tbl := tbl_2 (i := 188) rfl rfl
theorem tw_2_189 : Cond.methodLink RX5 187 yX5_changed ∈ tbl := tbl_2 (i := 189) rfl rfl
theorem tw_2_191 : Cond.instanceMethod yX5_changed ∈ tbl := tbl_2 (i := 191) rfl rfl
theorem tw_2_192 : Cond.code yX5_changed cX5_changed 4 (some .int) ∈ tbl := tbl_2 (i := 192) rfl rfl
theorem tw_2_193 : Cond.methodLink RX5 191 yX5_shifted ∈ tbl := tbl_2 (i := 193) rfl rfl
theorem tw_2_195 : Cond.instanceMethod yX5_shifted ∈ tbl := tbl_2 (i := 195) rfl rfl
theorem tw_2_196 : Cond.code yX5_shifted cX5_shifted 3 (some .int) ∈ tbl := tbl_2 (i := 196) rfl rfl
theorem tw_2_197 : Cond.methodLink RX5 132 yX5_move ∈ tbl := tbl_2 (i := 197) rfl rfl
theorem tw_2_199 : Cond.instanceMethod yX5_move ∈ tbl := tbl_2 (i := 199) rfl rfl
theorem tw_2_200 : Cond.code yX5_move cX5_move 2 none ∈ tbl := tbl_2 (i := 200) rfl rfl
theorem tw_2_201 : Cond.methodLink RX5 135 yX5_changeState ∈ tbl := tbl_2 (i := 201) rfl rfl
theorem tw_2_203 : Cond.instanceMethod yX5_changeState ∈ tbl := tbl_2 (i := 203) rfl rfl
theorem tw_2_204 : Cond.code yX5_changeState cX5_changeState 2 none ∈ tbl := tbl_2 (i := 204) rfl rfl
theorem tw_2_205 : Cond.methodLink RX5 138 yX5_pushOrPull ∈ tbl := tbl_2 (i := 205) rfl rfl
theorem tw_2_207 : Cond.instanceMethod yX5_pushOrPull ∈ tbl := tbl_2 (i := 207) rfl rfl
theorem tw_2_208 : Cond.code yX5_pushOrPull cX5_pushOrPull 2 none ∈ tbl := tbl_2 (i := 208) rfl rfl
theorem tw_2_209 : Cond.methodLink RX5 194 yX5_pull ∈ tbl := tbl_2 (i := 209) rfl rfl
theorem tw_2_211 : Cond.instanceMethod yX5_pull ∈ tbl := tbl_2 (i := 211) rfl rfl
theorem tw_2_212 : Cond.code yX5_pull cX5_pull 1 (some .int) ∈ tbl := tbl_2 (i := 212) rfl rfl
theorem tw_2_213 : Cond.methodLink RX5 141 yX5_branch ∈ tbl := tbl_2 (i := 213) rfl rfl
theorem tw_2_215 : Cond.instanceMethod yX5_branch ∈ tbl := tbl_2 (i := 215) rfl rfl
theorem tw_2_216 : Cond.code yX5_branch cX5_branch 4 none ∈ tbl := tbl_2 (i := 216) rfl rfl
theorem tw_2_217 : Cond.methodLink RX5 197 yX5_goIf ∈ tbl := tbl_2 (i := 217) rfl rfl
theorem tw_2_219 : Cond.instanceMethod yX5_goIf ∈ tbl := tbl_2 (i := 219) rfl rfl
theorem tw_2_220 : Cond.code yX5_goIf cX5_goIf 4 none ∈ tbl := tbl_2 (i := 220) rfl rfl
theorem tw_2_221 : Cond.methodLink RX5 145 yX5_jump ∈ tbl := tbl_2 (i := 221) rfl rfl
theorem tw_2_223 : Cond.instanceMethod yX5_jump ∈ tbl := tbl_2 (i := 223) rfl rfl
theorem tw_2_224 : Cond.code yX5_jump cX5_jump 4 none ∈ tbl := tbl_2 (i := 224) rfl rfl
theorem tw_2_225 : Cond.methodLink RX5 71 yX6_pass ∈ tbl := tbl_2 (i := 225) rfl rfl
theorem tw_2_226 : Cond.instanceMethod yX6_pass ∈ tbl := tbl_2 (i := 226) rfl rfl
theorem tw_2_227 : Cond.selects RX6 yX6_pass yX6_pass ∈ tbl := tbl_2 (i := 227) rfl rfl
theorem tw_2_228 : Cond.code yX6_pass cX6_pass 3 none ∈ tbl := tbl_2 (i := 228) rfl rfl
theorem tw_2_229 : Cond.methodLink RX6 44 yX6_passOneOf1 ∈ tbl := tbl_2 (i := 229) rfl rfl
theorem tw_2_231 : Cond.instanceMethod yX6_passOneOf1 ∈ tbl := tbl_2 (i := 231) rfl rfl
theorem tw_2_232 : Cond.code yX6_passOneOf1 cX6_passOneOf1 2 none ∈ tbl := tbl_2 (i := 232) rfl rfl
theorem tw_2_233 : Cond.methodLink RX6 47 yX6_passOneOf2 ∈ tbl := tbl_2 (i := 233) rfl rfl
theorem tw_2_235 : Cond.instanceMethod yX6_passOneOf2 ∈ tbl := tbl_2 (i := 235) rfl rfl
theorem tw_2_236 : Cond.code yX6_passOneOf2 cX6_passOneOf2 1 none ∈ tbl := tbl_2 (i := 236) rfl rfl
theorem tw_3_5 : Cond.methodLink RX8 76 yX4_accept ∈ tbl := tbl_3 (i := 5) rfl rfl
theorem tw_3_6 : Cond.instanceMethod yX4_accept ∈ tbl := tbl_3 (i := 6) rfl rfl
theorem tw_3_7 : Cond.selects RX4 yX4_accept yX4_accept ∈ tbl := tbl_3 (i := 7) rfl rfl
theorem tw_3_8 : Cond.code yX4_accept cX4_accept 2 (some .int) ∈ tbl := tbl_3 (i := 8) rfl rfl
theorem tw_3_13 : Cond.methodLink RX8 82 yX4_sentByte ∈ tbl := tbl_3 (i := 13) rfl rfl
theorem tw_3_14 : Cond.instanceMethod yX4_sentByte ∈ tbl := tbl_3 (i := 14) rfl rfl
theorem tw_3_15 : Cond.selects RX4 yX4_sentByte yX4_sentByte ∈ tbl := tbl_3 (i := 15) rfl rfl
theorem tw_3_16 : Cond.code yX4_sentByte cX4_sentByte 2 (some .int) ∈ tbl := tbl_3 (i := 16) rfl rfl
theorem tw_3_25 : Cond.methodLink RX8 85 yX8_isAddress ∈ tbl := tbl_3 (i := 25) rfl rfl
theorem tw_3_26 : Cond.static yX8_isAddress ∈ tbl := tbl_3 (i := 26) rfl rfl
theorem tw_3_27 : Cond.code yX8_isAddress cX8_isAddress 1 (some .boolean) ∈ tbl := tbl_3 (i := 27) rfl rfl
theorem tw_3_28 : Cond.constant RX8 39 65536 ∈ tbl := tbl_3 (i := 28) rfl rfl
theorem tw_3_29 : Cond.methodLink RX8 111 yX1_add ∈ tbl := tbl_3 (i := 29) rfl rfl
theorem tw_3_30 : Cond.instanceMethod yX1_add ∈ tbl := tbl_3 (i := 30) rfl rfl
theorem tw_3_31 : Cond.selects RX1 yX1_add yX1_add ∈ tbl := tbl_3 (i := 31) rfl rfl
theorem tw_3_32 : Cond.code yX1_add cX1_add 2 (some .boolean) ∈ tbl := tbl_3 (i := 32) rfl rfl
theorem tw_3_33 : Cond.methodLink RX1 23 yX1_has ∈ tbl := tbl_3 (i := 33) rfl rfl
theorem tw_3_34 : Cond.instanceMethod yX1_has ∈ tbl := tbl_3 (i := 34) rfl rfl
theorem tw_3_35 : Cond.selects RX1 yX1_has yX1_has ∈ tbl := tbl_3 (i := 35) rfl rfl
theorem tw_3_36 : Cond.code yX1_has cX1_has 2 (some .boolean) ∈ tbl := tbl_3 (i := 36) rfl rfl
theorem tw_3_37 : Cond.methodLink RX1 15 yX1_find ∈ tbl := tbl_3 (i := 37) rfl rfl
theorem tw_3_39 : Cond.instanceMethod yX1_find ∈ tbl := tbl_3 (i := 39) rfl rfl
theorem tw_3_40 : Cond.code yX1_find cX1_find 3 (some .int) ∈ tbl := tbl_3 (i := 40) rfl rfl
theorem tw_3_45 : Cond.methodLink RX8 114 yX1_remove ∈ tbl := tbl_3 (i := 45) rfl rfl
theorem tw_3_46 : Cond.instanceMethod yX1_remove ∈ tbl := tbl_3 (i := 46) rfl rfl
theorem tw_3_47 : Cond.selects RX1 yX1_remove yX1_remove ∈ tbl := tbl_3 (i := 47) rfl rfl
theorem tw_3_48 : Cond.code yX1_remove cX1_remove 3 (some .boolean) ∈ tbl := tbl_3 (i := 48) rfl rfl
theorem tw_3_53 : Cond.methodLink RX8 121 yX7_kept ∈ tbl := tbl_3 (i := 53) rfl rfl
theorem tw_3_54 : Cond.instanceMethod yX7_kept ∈ tbl := tbl_3 (i := 54) rfl rfl
theorem tw_3_55 : Cond.selects RX7 yX7_kept yX7_kept ∈ tbl := tbl_3 (i := 55) rfl rfl
theorem tw_3_56 : Cond.code yX7_kept cX7_kept 3 (some .int) ∈ tbl := tbl_3 (i := 56) rfl rfl
theorem tw_3_57 : Cond.methodLink RX7 19 yJ9_min_7cf53 ∈ tbl := tbl_3 (i := 57) rfl rfl
theorem tw_3_58 : Cond.static yJ9_min_7cf53 ∈ tbl := tbl_3 (i := 58) rfl rfl
theorem tw_3_59 : Cond.code yJ9_min_7cf53 cJ9_min_7cf53 2 (some .int) ∈ tbl := tbl_3 (i := 59) rfl rfl
theorem tw_3_64 : Cond.constantLong RX8 172 (-1) ∈ tbl := tbl_3 (i := 64) rfl rfl
theorem tw_3_182 : Cond.methodLink RX9 29 yX9_clearDevices ∈ tbl := tbl_3 (i := 182) rfl rfl
theorem tw_3_184 : Cond.instanceMethod yX9_clearDevices ∈ tbl := tbl_3 (i := 184) rfl rfl
theorem tw_3_185 : Cond.code yX9_clearDevices cX9_clearDevices 1 none ∈ tbl := tbl_3 (i := 185) rfl rfl
theorem tw_3_186 : Cond.constant RX9 36 65535 ∈ tbl := tbl_3 (i := 186) rfl rfl
theorem tw_3_187 : Cond.fieldLink RX9 32 RX9 "thrown" "I" ∈ tbl := tbl_3 (i := 187) rfl rfl
theorem tw_3_188 : Cond.fieldLink RX9 8 RX9 "memory" "[I" ∈ tbl := tbl_3 (i := 188) rfl rfl
theorem tw_3_189 : Cond.fieldLink RX9 14 RX9 "\x72" "[I" ∈ tbl := tbl_3 (i := 189) rfl rfl
theorem tw_3_190 : Cond.fieldLink RX9 107 RX9 "p" "I" ∈ tbl := tbl_3 (i := 190) rfl rfl
theorem tw_3_191 : Cond.fieldLink RX9 176 RX9 "pc" "I" ∈ tbl := tbl_3 (i := 191) rfl rfl
theorem tw_3_192 : Cond.fieldLink RX9 43 RX9 "bank" "I" ∈ tbl := tbl_3 (i := 192) rfl rfl
theorem tw_3_193 : Cond.fieldLink RX9 223 RX9 "waits" "Z" ∈ tbl := tbl_3 (i := 193) rfl rfl
theorem tw_3_194 : Cond.fieldLink RX9 226 RX9 "stops" "Z" ∈ tbl := tbl_3 (i := 194) rfl rfl
theorem tw_3_195 : Cond.fieldLink RX9 272 RX9 "edge" "Z" ∈ tbl := tbl_3 (i := 195) rfl rfl
theorem tw_3_196 : Cond.fieldLink RX9 117 RX9 "b" "I" ∈ tbl := tbl_3 (i := 196) rfl rfl
theorem tw_3_197 : Cond.fieldLink RX9 120 RX9 "w" "I" ∈ tbl := tbl_3 (i := 197) rfl rfl
theorem tw_3_198 : Cond.fieldLink RX9 114 RX9 "left" "Z" ∈ tbl := tbl_3 (i := 198) rfl rfl
theorem tw_3_199 : Cond.fieldLink RX9 37 RX9 "counter1" "I" ∈ tbl := tbl_3 (i := 199) rfl rfl
theorem tw_3_200 : Cond.fieldLink RX9 40 RX9 "counter2" "I" ∈ tbl := tbl_3 (i := 200) rfl rfl
theorem tw_3_201 : Cond.fieldLink RX9 64 RX9 "latch1" "I" ∈ tbl := tbl_3 (i := 201) rfl rfl
theorem tw_3_202 : Cond.fieldLink RX9 61 RX9 "latch2" "I" ∈ tbl := tbl_3 (i := 202) rfl rfl
theorem tw_3_203 : Cond.fieldLink RX9 58 RX9 "acr" "I" ∈ tbl := tbl_3 (i := 203) rfl rfl
theorem tw_3_204 : Cond.fieldLink RX9 55 RX9 "ifr" "I" ∈ tbl := tbl_3 (i := 204) rfl rfl
theorem tw_3_205 : Cond.fieldLink RX9 52 RX9 "ier" "I" ∈ tbl := tbl_3 (i := 205) rfl rfl
theorem tw_3_206 : Cond.fieldLink RX9 49 RX9 "command" "I" ∈ tbl := tbl_3 (i := 206) rfl rfl
theorem tw_3_207 : Cond.fieldLink RX9 67 RX9 "armed1" "Z" ∈ tbl := tbl_3 (i := 207) rfl rfl
theorem tw_3_208 : Cond.fieldLink RX9 71 RX9 "armed2" "Z" ∈ tbl := tbl_3 (i := 208) rfl rfl
theorem tw_3_209 : Cond.fieldLink RX9 46 RX9 "waiting" "I" ∈ tbl := tbl_3 (i := 209) rfl rfl
theorem tw_3_210 : Cond.fieldLink RX9 97 RX9 "sent" "I" ∈ tbl := tbl_3 (i := 210) rfl rfl
theorem tw_3_211 : Cond.fieldLink RX9 17 RX9 "queue" "[I" ∈ tbl := tbl_3 (i := 211) rfl rfl
theorem tw_3_212 : Cond.fieldLink RX9 20 RX9 "out" "[I" ∈ tbl := tbl_3 (i := 212) rfl rfl
theorem tw_3_213 : Cond.fieldLink RX9 266 RX9 "cycles" "J" ∈ tbl := tbl_3 (i := 213) rfl rfl
theorem tw_3_214 : Cond.fieldLink RX9 232 RX9 "steps" "J" ∈ tbl := tbl_3 (i := 214) rfl rfl
theorem tw_3_215 : Cond.fieldLink RX9 269 RX9 "interrupts" "J" ∈ tbl := tbl_3 (i := 215) rfl rfl
theorem tw_3_216 : Cond.fieldLink RX9 288 RX9 "breaks" "I" ∈ tbl := tbl_3 (i := 216) rfl rfl
theorem tw_3_217 : Cond.fieldLink RX9 229 RX9 "traced" "I" ∈ tbl := tbl_3 (i := 217) rfl rfl
theorem tw_3_218 : Cond.fieldLink RX9 23 RX9 "breakAt" "[I" ∈ tbl := tbl_3 (i := 218) rfl rfl
theorem tw_3_219 : Cond.fieldLink RX9 26 RX9 "trace" "[I" ∈ tbl := tbl_3 (i := 219) rfl rfl
theorem tw_3_220 : Cond.lays RX9 RX9 "thrown" "I" ∈ tbl := tbl_3 (i := 220) rfl rfl
theorem tw_3_222 : Cond.laysFinal RX9 RX9 "memory" "[I" ∈ tbl := tbl_3 (i := 222) rfl rfl
theorem tw_3_224 : Cond.laysFinal RX9 RX9 "\x72" "[I" ∈ tbl := tbl_3 (i := 224) rfl rfl
theorem tw_3_226 : Cond.lays RX9 RX9 "p" "I" ∈ tbl := tbl_3 (i := 226) rfl rfl
theorem tw_3_228 : Cond.lays RX9 RX9 "pc" "I" ∈ tbl := tbl_3 (i := 228) rfl rfl
theorem tw_3_230 : Cond.lays RX9 RX9 "bank" "I" ∈ tbl := tbl_3 (i := 230) rfl rfl
theorem tw_3_232 : Cond.lays RX9 RX9 "waits" "Z" ∈ tbl := tbl_3 (i := 232) rfl rfl
theorem tw_3_234 : Cond.lays RX9 RX9 "stops" "Z" ∈ tbl := tbl_3 (i := 234) rfl rfl
theorem tw_3_236 : Cond.lays RX9 RX9 "edge" "Z" ∈ tbl := tbl_3 (i := 236) rfl rfl
theorem tw_3_238 : Cond.lays RX9 RX9 "b" "I" ∈ tbl := tbl_3 (i := 238) rfl rfl
theorem tw_4_0 : Cond.lays RX9 RX9 "w" "I" ∈ tbl := tbl_4 (i := 0) rfl rfl
theorem tw_4_2 : Cond.lays RX9 RX9 "left" "Z" ∈ tbl := tbl_4 (i := 2) rfl rfl
theorem tw_4_4 : Cond.lays RX9 RX9 "counter1" "I" ∈ tbl := tbl_4 (i := 4) rfl rfl
theorem tw_4_6 : Cond.lays RX9 RX9 "counter2" "I" ∈ tbl := tbl_4 (i := 6) rfl rfl
theorem tw_4_8 : Cond.lays RX9 RX9 "latch1" "I" ∈ tbl := tbl_4 (i := 8) rfl rfl
theorem tw_4_10 : Cond.lays RX9 RX9 "latch2" "I" ∈ tbl := tbl_4 (i := 10) rfl rfl
theorem tw_4_12 : Cond.lays RX9 RX9 "acr" "I" ∈ tbl := tbl_4 (i := 12) rfl rfl
theorem tw_4_14 : Cond.lays RX9 RX9 "ifr" "I" ∈ tbl := tbl_4 (i := 14) rfl rfl
theorem tw_4_16 : Cond.lays RX9 RX9 "ier" "I" ∈ tbl := tbl_4 (i := 16) rfl rfl
theorem tw_4_18 : Cond.lays RX9 RX9 "command" "I" ∈ tbl := tbl_4 (i := 18) rfl rfl
theorem tw_4_20 : Cond.lays RX9 RX9 "armed1" "Z" ∈ tbl := tbl_4 (i := 20) rfl rfl
theorem tw_4_22 : Cond.lays RX9 RX9 "armed2" "Z" ∈ tbl := tbl_4 (i := 22) rfl rfl
theorem tw_4_24 : Cond.lays RX9 RX9 "waiting" "I" ∈ tbl := tbl_4 (i := 24) rfl rfl
theorem tw_4_26 : Cond.lays RX9 RX9 "sent" "I" ∈ tbl := tbl_4 (i := 26) rfl rfl
theorem tw_4_28 : Cond.laysFinal RX9 RX9 "queue" "[I" ∈ tbl := tbl_4 (i := 28) rfl rfl
theorem tw_4_30 : Cond.laysFinal RX9 RX9 "out" "[I" ∈ tbl := tbl_4 (i := 30) rfl rfl
theorem tw_4_32 : Cond.lays RX9 RX9 "cycles" "J" ∈ tbl := tbl_4 (i := 32) rfl rfl
theorem tw_4_34 : Cond.lays RX9 RX9 "steps" "J" ∈ tbl := tbl_4 (i := 34) rfl rfl
theorem tw_4_36 : Cond.lays RX9 RX9 "interrupts" "J" ∈ tbl := tbl_4 (i := 36) rfl rfl
theorem tw_4_38 : Cond.lays RX9 RX9 "breaks" "I" ∈ tbl := tbl_4 (i := 38) rfl rfl
theorem tw_4_40 : Cond.lays RX9 RX9 "traced" "I" ∈ tbl := tbl_4 (i := 40) rfl rfl
theorem tw_4_42 : Cond.laysFinal RX9 RX9 "breakAt" "[I" ∈ tbl := tbl_4 (i := 42) rfl rfl
theorem tw_4_44 : Cond.laysFinal RX9 RX9 "trace" "[I" ∈ tbl := tbl_4 (i := 44) rfl rfl
theorem tw_4_52 : Cond.instanceMethod yX9_step ∈ tbl := tbl_4 (i := 52) rfl rfl
theorem tw_4_53 : Cond.selects RX9 yX9_step yX9_step ∈ tbl := tbl_4 (i := 53) rfl rfl
theorem tw_4_54 : Cond.code yX9_step cX9_step 3 (some .int) ∈ tbl := tbl_4 (i := 54) rfl rfl
theorem tw_4_55 : Cond.methodLink RX9 282 yX9_once ∈ tbl := tbl_4 (i := 55) rfl rfl
theorem tw_4_57 : Cond.instanceMethod yX9_once ∈ tbl := tbl_4 (i := 57) rfl rfl
theorem tw_4_58 : Cond.code yX9_once cX9_once 1 (some .int) ∈ tbl := tbl_4 (i := 58) rfl rfl
theorem tw_4_59 : Cond.constant RX9 275 65530 ∈ tbl := tbl_4 (i := 59) rfl rfl
theorem tw_4_60 : Cond.methodLink RX9 276 yX9_taken2 ∈ tbl := tbl_4 (i := 60) rfl rfl
theorem tw_4_62 : Cond.instanceMethod yX9_taken2 ∈ tbl := tbl_4 (i := 62) rfl rfl
theorem tw_4_63 : Cond.code yX9_taken2 cX9_taken2 2 (some .int) ∈ tbl := tbl_4 (i := 63) rfl rfl
theorem tw_4_64 : Cond.methodLink RX9 204 yX9_interrupt ∈ tbl := tbl_4 (i := 64) rfl rfl
theorem tw_4_66 : Cond.instanceMethod yX9_interrupt ∈ tbl := tbl_4 (i := 66) rfl rfl
theorem tw_4_67 : Cond.code yX9_interrupt cX9_interrupt 3 none ∈ tbl := tbl_4 (i := 67) rfl rfl
theorem tw_4_68 : Cond.methodLink RX9 199 yX9_push ∈ tbl := tbl_4 (i := 68) rfl rfl
theorem tw_4_70 : Cond.instanceMethod yX9_push ∈ tbl := tbl_4 (i := 70) rfl rfl
theorem tw_4_71 : Cond.code yX9_push cX9_push 2 none ∈ tbl := tbl_4 (i := 71) rfl rfl
theorem tw_4_72 : Cond.methodLink RX9 103 yX9_write ∈ tbl := tbl_4 (i := 72) rfl rfl
theorem tw_4_74 : Cond.instanceMethod yX9_write ∈ tbl := tbl_4 (i := 74) rfl rfl
theorem tw_4_75 : Cond.code yX9_write cX9_write 3 none ∈ tbl := tbl_4 (i := 75) rfl rfl
theorem tw_4_76 : Cond.constant RX9 75 40960 ∈ tbl := tbl_4 (i := 76) rfl rfl
theorem tw_4_77 : Cond.methodLink RX9 78 yX9_cell ∈ tbl := tbl_4 (i := 77) rfl rfl
theorem tw_4_79 : Cond.instanceMethod yX9_cell ∈ tbl := tbl_4 (i := 79) rfl rfl
theorem tw_4_80 : Cond.code yX9_cell cX9_cell 2 (some .int) ∈ tbl := tbl_4 (i := 80) rfl rfl
theorem tw_4_81 : Cond.constant RX9 74 32768 ∈ tbl := tbl_4 (i := 81) rfl rfl
theorem tw_4_82 : Cond.constant RX9 76 49152 ∈ tbl := tbl_4 (i := 82) rfl rfl
theorem tw_4_83 : Cond.constant RX9 77 65536 ∈ tbl := tbl_4 (i := 83) rfl rfl
theorem tw_4_84 : Cond.constant RX9 96 65280 ∈ tbl := tbl_4 (i := 84) rfl rfl
theorem tw_4_85 : Cond.methodLink RX9 110 yX9_flag ∈ tbl := tbl_4 (i := 85) rfl rfl
theorem tw_4_87 : Cond.instanceMethod yX9_flag ∈ tbl := tbl_4 (i := 87) rfl rfl
theorem tw_4_88 : Cond.code yX9_flag cX9_flag 3 none ∈ tbl := tbl_4 (i := 88) rfl rfl
theorem tw_4_89 : Cond.methodLink RX9 179 yX9_wordAt ∈ tbl := tbl_4 (i := 89) rfl rfl
theorem tw_4_91 : Cond.instanceMethod yX9_wordAt ∈ tbl := tbl_4 (i := 91) rfl rfl
theorem tw_4_92 : Cond.code yX9_wordAt cX9_wordAt 3 (some .int) ∈ tbl := tbl_4 (i := 92) rfl rfl
theorem tw_4_93 : Cond.methodLink RX9 100 yX9_read ∈ tbl := tbl_4 (i := 93) rfl rfl
theorem tw_4_95 : Cond.instanceMethod yX9_read ∈ tbl := tbl_4 (i := 95) rfl rfl
theorem tw_4_96 : Cond.code yX9_read cX9_read 4 (some .int) ∈ tbl := tbl_4 (i := 96) rfl rfl
theorem tw_4_97 : Cond.methodLink RX9 90 yX9_see ∈ tbl := tbl_4 (i := 97) rfl rfl
theorem tw_4_99 : Cond.instanceMethod yX9_see ∈ tbl := tbl_4 (i := 99) rfl rfl
theorem tw_4_100 : Cond.code yX9_see cX9_see 2 (some .int) ∈ tbl := tbl_4 (i := 100) rfl rfl
theorem tw_4_101 : Cond.methodLink RX9 82 yX9_flags ∈ tbl := tbl_4 (i := 101) rfl rfl
theorem tw_4_103 : Cond.instanceMethod yX9_flags ∈ tbl := tbl_4 (i := 103) rfl rfl
theorem tw_4_104 : Cond.code yX9_flags cX9_flags 1 (some .int) ∈ tbl := tbl_4 (i := 104) rfl rfl
theorem tw_4_105 : Cond.methodLink RX9 86 yX9_asks ∈ tbl := tbl_4 (i := 105) rfl rfl
theorem tw_4_107 : Cond.instanceMethod yX9_asks ∈ tbl := tbl_4 (i := 107) rfl rfl
theorem tw_4_108 : Cond.code yX9_asks cX9_asks 1 (some .boolean) ∈ tbl := tbl_4 (i := 108) rfl rfl
theorem tw_4_109 : Cond.constant RX9 93 40964 ∈ tbl := tbl_4 (i := 109) rfl rfl
theorem tw_4_110 : Cond.constant RX9 94 40968 ∈ tbl := tbl_4 (i := 110) rfl rfl
theorem tw_4_111 : Cond.constant RX9 95 40976 ∈ tbl := tbl_4 (i := 111) rfl rfl
theorem tw_4_112 : Cond.methodLink RX9 157 yX9_is ∈ tbl := tbl_4 (i := 112) rfl rfl
theorem tw_4_114 : Cond.instanceMethod yX9_is ∈ tbl := tbl_4 (i := 114) rfl rfl
theorem tw_4_115 : Cond.code yX9_is cX9_is 2 (some .boolean) ∈ tbl := tbl_4 (i := 115) rfl rfl
theorem tw_4_116 : Cond.constant RX9 203 65534 ∈ tbl := tbl_4 (i := 116) rfl rfl
theorem tw_4_117 : Cond.methodLink RX9 279 yX9_instruction ∈ tbl := tbl_4 (i := 117) rfl rfl
theorem tw_4_119 : Cond.instanceMethod yX9_instruction ∈ tbl := tbl_4 (i := 119) rfl rfl
theorem tw_4_120 : Cond.code yX9_instruction cX9_instruction 4 (some .int) ∈ tbl := tbl_4 (i := 120) rfl rfl
theorem tw_4_121 : Cond.methodLink RX9 236 yX9_size ∈ tbl := tbl_4 (i := 121) rfl rfl
theorem tw_4_122 : Cond.static yX9_size ∈ tbl := tbl_4 (i := 122) rfl rfl
theorem tw_4_123 : Cond.code yX9_size cX9_size 3 (some .int) ∈ tbl := tbl_4 (i := 123) rfl rfl
theorem tw_4_124 : Cond.methodLink RX9 239 yX9_branch ∈ tbl := tbl_4 (i := 124) rfl rfl
theorem tw_4_126 : Cond.instanceMethod yX9_branch ∈ tbl := tbl_4 (i := 126) rfl rfl
theorem tw_4_127 : Cond.code yX9_branch cX9_branch 4 (some .int) ∈ tbl := tbl_4 (i := 127) rfl rfl
theorem tw_4_128 : Cond.methodLink RX9 195 yX9_jump ∈ tbl := tbl_4 (i := 128) rfl rfl
theorem tw_4_130 : Cond.instanceMethod yX9_jump ∈ tbl := tbl_4 (i := 130) rfl rfl
theorem tw_4_131 : Cond.code yX9_jump cX9_jump 5 (some .int) ∈ tbl := tbl_4 (i := 131) rfl rfl
theorem tw_4_132 : Cond.methodLink RX9 242 yX9_calls ∈ tbl := tbl_4 (i := 132) rfl rfl
theorem tw_4_134 : Cond.instanceMethod yX9_calls ∈ tbl := tbl_4 (i := 134) rfl rfl
theorem tw_4_135 : Cond.code yX9_calls cX9_calls 3 (some .int) ∈ tbl := tbl_4 (i := 135) rfl rfl
theorem tw_4_136 : Cond.methodLink RX9 207 yX9_pull ∈ tbl := tbl_4 (i := 136) rfl rfl
theorem tw_4_138 : Cond.instanceMethod yX9_pull ∈ tbl := tbl_4 (i := 138) rfl rfl
theorem tw_4_139 : Cond.code yX9_pull cX9_pull 1 (some .int) ∈ tbl := tbl_4 (i := 139) rfl rfl
theorem tw_4_140 : Cond.methodLink RX9 173 yX9_loaded ∈ tbl := tbl_4 (i := 140) rfl rfl
theorem tw_4_142 : Cond.instanceMethod yX9_loaded ∈ tbl := tbl_4 (i := 142) rfl rfl
theorem tw_4_143 : Cond.code yX9_loaded cX9_loaded 3 (some .int) ∈ tbl := tbl_4 (i := 143) rfl rfl
theorem tw_4_144 : Cond.methodLink RX9 139 yX9_taken ∈ tbl := tbl_4 (i := 144) rfl rfl
theorem tw_4_146 : Cond.instanceMethod yX9_taken ∈ tbl := tbl_4 (i := 146) rfl rfl
theorem tw_4_147 : Cond.code yX9_taken cX9_taken 2 (some .int) ∈ tbl := tbl_4 (i := 147) rfl rfl
theorem tw_4_148 : Cond.methodLink RX9 130 yX9_address ∈ tbl := tbl_4 (i := 148) rfl rfl
theorem tw_4_150 : Cond.instanceMethod yX9_address ∈ tbl := tbl_4 (i := 150) rfl rfl
theorem tw_4_151 : Cond.code yX9_address cX9_address 2 (some .int) ∈ tbl := tbl_4 (i := 151) rfl rfl
theorem tw_4_152 : Cond.methodLink RX9 123 yX9_indexed ∈ tbl := tbl_4 (i := 152) rfl rfl
theorem tw_4_154 : Cond.instanceMethod yX9_indexed ∈ tbl := tbl_4 (i := 154) rfl rfl
theorem tw_4_155 : Cond.code yX9_indexed cX9_indexed 4 (some .int) ∈ tbl := tbl_4 (i := 155) rfl rfl
theorem tw_4_156 : Cond.methodLink RX9 127 yX9_zeroWord ∈ tbl := tbl_4 (i := 156) rfl rfl
theorem tw_4_158 : Cond.instanceMethod yX9_zeroWord ∈ tbl := tbl_4 (i := 158) rfl rfl
theorem tw_4_159 : Cond.code yX9_zeroWord cX9_zeroWord 3 (some .int) ∈ tbl := tbl_4 (i := 159) rfl rfl
theorem tw_4_160 : Cond.methodLink RX9 142 yX9_tested ∈ tbl := tbl_4 (i := 160) rfl rfl
theorem tw_4_162 : Cond.instanceMethod yX9_tested ∈ tbl := tbl_4 (i := 162) rfl rfl
theorem tw_4_163 : Cond.code yX9_tested cX9_tested 2 (some .int) ∈ tbl := tbl_4 (i := 163) rfl rfl
theorem tw_4_164 : Cond.methodLink RX9 136 yX9_time ∈ tbl := tbl_4 (i := 164) rfl rfl
theorem tw_4_165 : Cond.static yX9_time ∈ tbl := tbl_4 (i := 165) rfl rfl
theorem tw_4_166 : Cond.code yX9_time cX9_time 1 (some .int) ∈ tbl := tbl_4 (i := 166) rfl rfl
theorem tw_4_167 : Cond.methodLink RX9 192 yX9_compared ∈ tbl := tbl_4 (i := 167) rfl rfl
theorem tw_4_169 : Cond.instanceMethod yX9_compared ∈ tbl := tbl_4 (i := 169) rfl rfl
theorem tw_4_170 : Cond.code yX9_compared cX9_compared 3 (some .int) ∈ tbl := tbl_4 (i := 170) rfl rfl
theorem tw_4_171 : Cond.methodLink RX9 148 yX9_compare ∈ tbl := tbl_4 (i := 171) rfl rfl
theorem tw_4_173 : Cond.instanceMethod yX9_compare ∈ tbl := tbl_4 (i := 173) rfl rfl
theorem tw_4_174 : Cond.code yX9_compare cX9_compare 3 none ∈ tbl := tbl_4 (i := 174) rfl rfl
theorem tw_4_175 : Cond.methodLink RX9 245 yX9_alu ∈ tbl := tbl_4 (i := 175) rfl rfl
theorem tw_4_177 : Cond.instanceMethod yX9_alu ∈ tbl := tbl_4 (i := 177) rfl rfl
theorem tw_4_178 : Cond.code yX9_alu cX9_alu 6 (some .int) ∈ tbl := tbl_4 (i := 178) rfl rfl
theorem tw_4_179 : Cond.methodLink RX9 133 yX9_wide ∈ tbl := tbl_4 (i := 179) rfl rfl
theorem tw_4_180 : Cond.static yX9_wide ∈ tbl := tbl_4 (i := 180) rfl rfl
theorem tw_4_181 : Cond.code yX9_wide cX9_wide 2 (some .int) ∈ tbl := tbl_4 (i := 181) rfl rfl
theorem tw_4_182 : Cond.methodLink RX9 145 yX9_add ∈ tbl := tbl_4 (i := 182) rfl rfl
theorem tw_4_184 : Cond.instanceMethod yX9_add ∈ tbl := tbl_4 (i := 184) rfl rfl
theorem tw_4_185 : Cond.code yX9_add cX9_add 4 (some .int) ∈ tbl := tbl_4 (i := 185) rfl rfl
theorem tw_4_186 : Cond.methodLink RX9 154 yX9_carry ∈ tbl := tbl_4 (i := 186) rfl rfl
theorem tw_4_188 : Cond.instanceMethod yX9_carry ∈ tbl := tbl_4 (i := 188) rfl rfl
theorem tw_4_189 : Cond.code yX9_carry cX9_carry 1 (some .int) ∈ tbl := tbl_4 (i := 189) rfl rfl
theorem tw_4_190 : Cond.methodLink RX9 161 yX9_overflows ∈ tbl := tbl_4 (i := 190) rfl rfl
theorem tw_4_192 : Cond.instanceMethod yX9_overflows ∈ tbl := tbl_4 (i := 192) rfl rfl
theorem tw_4_193 : Cond.code yX9_overflows cX9_overflows 3 none ∈ tbl := tbl_4 (i := 193) rfl rfl
theorem tw_4_194 : Cond.methodLink RX9 151 yX9_subtract ∈ tbl := tbl_4 (i := 194) rfl rfl
theorem tw_4_196 : Cond.instanceMethod yX9_subtract ∈ tbl := tbl_4 (i := 196) rfl rfl
theorem tw_4_197 : Cond.code yX9_subtract cX9_subtract 6 (some .int) ∈ tbl := tbl_4 (i := 197) rfl rfl
theorem tw_4_198 : Cond.methodLink RX9 248 yX9_halts ∈ tbl := tbl_4 (i := 198) rfl rfl
theorem tw_4_200 : Cond.instanceMethod yX9_halts ∈ tbl := tbl_4 (i := 200) rfl rfl
theorem tw_4_201 : Cond.code yX9_halts cX9_halts 2 (some .int) ∈ tbl := tbl_4 (i := 201) rfl rfl
theorem tw_4_202 : Cond.methodLink RX9 251 yX9_fours ∈ tbl := tbl_4 (i := 202) rfl rfl
theorem tw_4_204 : Cond.instanceMethod yX9_fours ∈ tbl := tbl_4 (i := 204) rfl rfl
theorem tw_4_205 : Cond.code yX9_fours cX9_fours 4 (some .int) ∈ tbl := tbl_4 (i := 205) rfl rfl
theorem tw_4_206 : Cond.methodLink RX9 167 yX9_narrow ∈ tbl := tbl_4 (i := 206) rfl rfl
theorem tw_4_207 : Cond.static yX9_narrow ∈ tbl := tbl_4 (i := 207) rfl rfl
theorem tw_4_208 : Cond.code yX9_narrow cX9_narrow 3 (some .int) ∈ tbl := tbl_4 (i := 208) rfl rfl
theorem tw_4_209 : Cond.methodLink RX9 182 yX9_marks ∈ tbl := tbl_4 (i := 209) rfl rfl
theorem tw_4_211 : Cond.instanceMethod yX9_marks ∈ tbl := tbl_4 (i := 211) rfl rfl
theorem tw_4_212 : Cond.code yX9_marks cX9_marks 5 (some .int) ∈ tbl := tbl_4 (i := 212) rfl rfl
theorem tw_4_213 : Cond.methodLink RX9 186 yX9_bits ∈ tbl := tbl_4 (i := 213) rfl rfl
theorem tw_4_215 : Cond.instanceMethod yX9_bits ∈ tbl := tbl_4 (i := 215) rfl rfl
theorem tw_4_216 : Cond.code yX9_bits cX9_bits 3 (some .int) ∈ tbl := tbl_4 (i := 216) rfl rfl
theorem tw_4_217 : Cond.methodLink RX9 189 yX9_zeroed ∈ tbl := tbl_4 (i := 217) rfl rfl
theorem tw_4_219 : Cond.instanceMethod yX9_zeroed ∈ tbl := tbl_4 (i := 219) rfl rfl
theorem tw_4_220 : Cond.code yX9_zeroed cX9_zeroed 2 (some .int) ∈ tbl := tbl_4 (i := 220) rfl rfl
theorem tw_4_221 : Cond.methodLink RX9 254 yX9_shifts ∈ tbl := tbl_4 (i := 221) rfl rfl
theorem tw_4_223 : Cond.instanceMethod yX9_shifts ∈ tbl := tbl_4 (i := 223) rfl rfl
theorem tw_4_224 : Cond.code yX9_shifts cX9_shifts 4 (some .int) ∈ tbl := tbl_4 (i := 224) rfl rfl
theorem tw_4_225 : Cond.methodLink RX9 170 yX9_change ∈ tbl := tbl_4 (i := 225) rfl rfl
theorem tw_4_227 : Cond.instanceMethod yX9_change ∈ tbl := tbl_4 (i := 227) rfl rfl
theorem tw_4_228 : Cond.code yX9_change cX9_change 4 (some .int) ∈ tbl := tbl_4 (i := 228) rfl rfl
theorem tw_4_229 : Cond.methodLink RX9 164 yX9_changed ∈ tbl := tbl_4 (i := 229) rfl rfl
theorem tw_4_231 : Cond.instanceMethod yX9_changed ∈ tbl := tbl_4 (i := 231) rfl rfl
theorem tw_4_232 : Cond.code yX9_changed cX9_changed 4 (some .int) ∈ tbl := tbl_4 (i := 232) rfl rfl
theorem tw_4_233 : Cond.methodLink RX9 257 yX9_single ∈ tbl := tbl_4 (i := 233) rfl rfl
theorem tw_4_235 : Cond.instanceMethod yX9_single ∈ tbl := tbl_4 (i := 235) rfl rfl
theorem tw_4_236 : Cond.code yX9_single cX9_single 5 (some .int) ∈ tbl := tbl_4 (i := 236) rfl rfl
theorem tw_4_237 : Cond.methodLink RX9 260 yX9_eights ∈ tbl := tbl_4 (i := 237) rfl rfl
theorem tw_4_239 : Cond.instanceMethod yX9_eights ∈ tbl := tbl_4 (i := 239) rfl rfl
theorem tw_5_0 : Cond.code yX9_eights cX9_eights 2 (some .int) ∈ tbl := tbl_5 (i := 0) rfl rfl
theorem tw_5_1 : Cond.methodLink RX9 210 yX9_stacks ∈ tbl := tbl_5 (i := 1) rfl rfl
theorem tw_5_3 : Cond.instanceMethod yX9_stacks ∈ tbl := tbl_5 (i := 3) rfl rfl
theorem tw_5_4 : Cond.code yX9_stacks cX9_stacks 4 (some .int) ∈ tbl := tbl_5 (i := 4) rfl rfl
theorem tw_5_5 : Cond.methodLink RX9 214 yX9_flagged ∈ tbl := tbl_5 (i := 5) rfl rfl
theorem tw_5_7 : Cond.instanceMethod yX9_flagged ∈ tbl := tbl_5 (i := 7) rfl rfl
theorem tw_5_8 : Cond.code yX9_flagged cX9_flagged 3 (some .int) ∈ tbl := tbl_5 (i := 8) rfl rfl
theorem tw_5_9 : Cond.methodLink RX9 217 yX9_counted ∈ tbl := tbl_5 (i := 9) rfl rfl
theorem tw_5_11 : Cond.instanceMethod yX9_counted ∈ tbl := tbl_5 (i := 11) rfl rfl
theorem tw_5_12 : Cond.code yX9_counted cX9_counted 3 (some .int) ∈ tbl := tbl_5 (i := 12) rfl rfl
theorem tw_5_13 : Cond.methodLink RX9 220 yX9_moved ∈ tbl := tbl_5 (i := 13) rfl rfl
theorem tw_5_15 : Cond.instanceMethod yX9_moved ∈ tbl := tbl_5 (i := 15) rfl rfl
theorem tw_5_16 : Cond.code yX9_moved cX9_moved 3 (some .int) ∈ tbl := tbl_5 (i := 16) rfl rfl
theorem tw_5_17 : Cond.methodLink RX9 263 yX9_tens ∈ tbl := tbl_5 (i := 17) rfl rfl
theorem tw_5_19 : Cond.instanceMethod yX9_tens ∈ tbl := tbl_5 (i := 19) rfl rfl
theorem tw_5_20 : Cond.code yX9_tens cX9_tens 2 (some .int) ∈ tbl := tbl_5 (i := 20) rfl rfl
theorem tw_5_21 : Cond.methodLink RX9 285 yX9_clock ∈ tbl := tbl_5 (i := 21) rfl rfl
theorem tw_5_23 : Cond.instanceMethod yX9_clock ∈ tbl := tbl_5 (i := 23) rfl rfl
theorem tw_5_24 : Cond.code yX9_clock cX9_clock 4 none ∈ tbl := tbl_5 (i := 24) rfl rfl
theorem tw_5_29 : Cond.constant RX9 291 100000 ∈ tbl := tbl_5 (i := 29) rfl rfl
theorem tw_5_30 : Cond.methodLink RX9 292 yX9_fails ∈ tbl := tbl_5 (i := 30) rfl rfl
theorem tw_5_32 : Cond.instanceMethod yX9_fails ∈ tbl := tbl_5 (i := 32) rfl rfl
theorem tw_5_33 : Cond.code yX9_fails cX9_fails 2 (some .boolean) ∈ tbl := tbl_5 (i := 33) rfl rfl
theorem tw_5_34 : Cond.methodLink RX9 296 yX9_step ∈ tbl := tbl_5 (i := 34) rfl rfl
theorem tw_5_35 : Cond.methodLink RX9 299 yX9_find ∈ tbl := tbl_5 (i := 35) rfl rfl
theorem tw_5_37 : Cond.instanceMethod yX9_find ∈ tbl := tbl_5 (i := 37) rfl rfl
theorem tw_5_38 : Cond.code yX9_find cX9_find 3 (some .int) ∈ tbl := tbl_5 (i := 38) rfl rfl
theorem tw_5_43 : Cond.constantLong RX9 302 255 ∈ tbl := tbl_5 (i := 43) rfl rfl
theorem tw_5_48 : Cond.constant RX9 304 65532 ∈ tbl := tbl_5 (i := 48) rfl rfl
theorem tw_5_89 : Cond.constantLong RX9 305 (-1) ∈ tbl := tbl_5 (i := 89) rfl rfl
theorem tw_p_0 : Cond.selects RX5 yX5_wordAt yX5_wordAt ∈ tbl := tbl_p (i := 0) rfl rfl
theorem tw_p_1 : Cond.selects RX0 yX0_cell yX0_cell ∈ tbl := tbl_p (i := 1) rfl rfl
theorem tw_p_2 : Cond.selects RX0 yX0_peekDevice yX0_peekDevice ∈ tbl := tbl_p (i := 2) rfl rfl
theorem tw_p_3 : Cond.selects RX0 yX0_afterReading yX0_afterReading ∈ tbl := tbl_p (i := 3) rfl rfl
theorem tw_p_4 : Cond.selects RX5 yX5_takeInterrupt yX5_takeInterrupt ∈ tbl := tbl_p (i := 4) rfl rfl
theorem tw_p_5 : Cond.selects RX5 yX5_interrupt yX5_interrupt ∈ tbl := tbl_p (i := 5) rfl rfl
theorem tw_p_6 : Cond.selects RX5 yX5_push yX5_push ∈ tbl := tbl_p (i := 6) rfl rfl
theorem tw_p_7 : Cond.selects RX5 yX5_carryOut yX5_carryOut ∈ tbl := tbl_p (i := 7) rfl rfl
theorem tw_p_8 : Cond.selects RX5 yX5_fetch yX5_fetch ∈ tbl := tbl_p (i := 8) rfl rfl
theorem tw_p_9 : Cond.selects RX5 yX5_addressOf yX5_addressOf ∈ tbl := tbl_p (i := 9) rfl rfl
theorem tw_p_10 : Cond.selects RX5 yX5_indexed yX5_indexed ∈ tbl := tbl_p (i := 10) rfl rfl
theorem tw_p_11 : Cond.selects RX5 yX5_pointerAt yX5_pointerAt ∈ tbl := tbl_p (i := 11) rfl rfl
theorem tw_p_12 : Cond.selects RX5 yX5_use yX5_use ∈ tbl := tbl_p (i := 12) rfl rfl
theorem tw_p_13 : Cond.selects RX5 yX5_shown yX5_shown ∈ tbl := tbl_p (i := 13) rfl rfl
theorem tw_p_14 : Cond.selects RX5 yX5_compare yX5_compare ∈ tbl := tbl_p (i := 14) rfl rfl
theorem tw_p_15 : Cond.selects RX5 yX5_mark yX5_mark ∈ tbl := tbl_p (i := 15) rfl rfl
theorem tw_p_16 : Cond.selects RX5 yX5_addDecimal yX5_addDecimal ∈ tbl := tbl_p (i := 16) rfl rfl
theorem tw_p_17 : Cond.selects RX5 yX5_changesSign yX5_changesSign ∈ tbl := tbl_p (i := 17) rfl rfl
theorem tw_p_18 : Cond.selects RX5 yX5_add yX5_add ∈ tbl := tbl_p (i := 18) rfl rfl
theorem tw_p_19 : Cond.selects RX5 yX5_subtractDecimal yX5_subtractDecimal ∈ tbl := tbl_p (i := 19) rfl rfl
theorem tw_p_20 : Cond.selects RX5 yX5_stored yX5_stored ∈ tbl := tbl_p (i := 20) rfl rfl
theorem tw_p_21 : Cond.selects RX5 yX5_change yX5_change ∈ tbl := tbl_p (i := 21) rfl rfl
theorem tw_p_22 : Cond.selects RX5 yX5_changed yX5_changed ∈ tbl := tbl_p (i := 22) rfl rfl
theorem tw_p_23 : Cond.selects RX5 yX5_shifted yX5_shifted ∈ tbl := tbl_p (i := 23) rfl rfl
theorem tw_p_24 : Cond.selects RX5 yX5_move yX5_move ∈ tbl := tbl_p (i := 24) rfl rfl
theorem tw_p_25 : Cond.selects RX5 yX5_changeState yX5_changeState ∈ tbl := tbl_p (i := 25) rfl rfl
theorem tw_p_26 : Cond.selects RX5 yX5_pushOrPull yX5_pushOrPull ∈ tbl := tbl_p (i := 26) rfl rfl
theorem tw_p_27 : Cond.selects RX5 yX5_pull yX5_pull ∈ tbl := tbl_p (i := 27) rfl rfl
theorem tw_p_28 : Cond.selects RX5 yX5_branch yX5_branch ∈ tbl := tbl_p (i := 28) rfl rfl
theorem tw_p_29 : Cond.selects RX5 yX5_goIf yX5_goIf ∈ tbl := tbl_p (i := 29) rfl rfl
theorem tw_p_30 : Cond.selects RX5 yX5_jump yX5_jump ∈ tbl := tbl_p (i := 30) rfl rfl
theorem tw_p_31 : Cond.selects RX6 yX6_passOneOf1 yX6_passOneOf1 ∈ tbl := tbl_p (i := 31) rfl rfl
theorem tw_p_32 : Cond.selects RX6 yX6_passOneOf2 yX6_passOneOf2 ∈ tbl := tbl_p (i := 32) rfl rfl
theorem tw_p_33 : Cond.selects RX1 yX1_find yX1_find ∈ tbl := tbl_p (i := 33) rfl rfl
theorem tw_p_35 : Cond.selects RX9 yX9_clearDevices yX9_clearDevices ∈ tbl := tbl_p (i := 35) rfl rfl
theorem tw_p_36 : Cond.selects RX9 yX9_once yX9_once ∈ tbl := tbl_p (i := 36) rfl rfl
theorem tw_p_37 : Cond.selects RX9 yX9_taken2 yX9_taken2 ∈ tbl := tbl_p (i := 37) rfl rfl
theorem tw_p_38 : Cond.selects RX9 yX9_interrupt yX9_interrupt ∈ tbl := tbl_p (i := 38) rfl rfl
theorem tw_p_39 : Cond.selects RX9 yX9_push yX9_push ∈ tbl := tbl_p (i := 39) rfl rfl
theorem tw_p_40 : Cond.selects RX9 yX9_write yX9_write ∈ tbl := tbl_p (i := 40) rfl rfl
theorem tw_p_41 : Cond.selects RX9 yX9_cell yX9_cell ∈ tbl := tbl_p (i := 41) rfl rfl
theorem tw_p_42 : Cond.selects RX9 yX9_flag yX9_flag ∈ tbl := tbl_p (i := 42) rfl rfl
theorem tw_p_43 : Cond.selects RX9 yX9_wordAt yX9_wordAt ∈ tbl := tbl_p (i := 43) rfl rfl
theorem tw_p_44 : Cond.selects RX9 yX9_read yX9_read ∈ tbl := tbl_p (i := 44) rfl rfl
theorem tw_p_45 : Cond.selects RX9 yX9_see yX9_see ∈ tbl := tbl_p (i := 45) rfl rfl
theorem tw_p_46 : Cond.selects RX9 yX9_flags yX9_flags ∈ tbl := tbl_p (i := 46) rfl rfl
theorem tw_p_47 : Cond.selects RX9 yX9_asks yX9_asks ∈ tbl := tbl_p (i := 47) rfl rfl
theorem tw_p_48 : Cond.selects RX9 yX9_is yX9_is ∈ tbl := tbl_p (i := 48) rfl rfl
theorem tw_p_49 : Cond.selects RX9 yX9_instruction yX9_instruction ∈ tbl := tbl_p (i := 49) rfl rfl
theorem tw_p_50 : Cond.selects RX9 yX9_branch yX9_branch ∈ tbl := tbl_p (i := 50) rfl rfl
theorem tw_p_51 : Cond.selects RX9 yX9_jump yX9_jump ∈ tbl := tbl_p (i := 51) rfl rfl
theorem tw_p_52 : Cond.selects RX9 yX9_calls yX9_calls ∈ tbl := tbl_p (i := 52) rfl rfl
theorem tw_p_53 : Cond.selects RX9 yX9_pull yX9_pull ∈ tbl := tbl_p (i := 53) rfl rfl
theorem tw_p_54 : Cond.selects RX9 yX9_loaded yX9_loaded ∈ tbl := tbl_p (i := 54) rfl rfl
theorem tw_p_55 : Cond.selects RX9 yX9_taken yX9_taken ∈ tbl := tbl_p (i := 55) rfl rfl
theorem tw_p_56 : Cond.selects RX9 yX9_address yX9_address ∈ tbl := tbl_p (i := 56) rfl rfl
theorem tw_p_57 : Cond.selects RX9 yX9_indexed yX9_indexed ∈ tbl := tbl_p (i := 57) rfl rfl
theorem tw_p_58 : Cond.selects RX9 yX9_zeroWord yX9_zeroWord ∈ tbl := tbl_p (i := 58) rfl rfl
theorem tw_p_59 : Cond.selects RX9 yX9_tested yX9_tested ∈ tbl := tbl_p (i := 59) rfl rfl
theorem tw_p_60 : Cond.selects RX9 yX9_compared yX9_compared ∈ tbl := tbl_p (i := 60) rfl rfl
theorem tw_p_61 : Cond.selects RX9 yX9_compare yX9_compare ∈ tbl := tbl_p (i := 61) rfl rfl
theorem tw_p_62 : Cond.selects RX9 yX9_alu yX9_alu ∈ tbl := tbl_p (i := 62) rfl rfl
theorem tw_p_63 : Cond.selects RX9 yX9_add yX9_add ∈ tbl := tbl_p (i := 63) rfl rfl
theorem tw_p_64 : Cond.selects RX9 yX9_carry yX9_carry ∈ tbl := tbl_p (i := 64) rfl rfl
theorem tw_p_65 : Cond.selects RX9 yX9_overflows yX9_overflows ∈ tbl := tbl_p (i := 65) rfl rfl
theorem tw_p_66 : Cond.selects RX9 yX9_subtract yX9_subtract ∈ tbl := tbl_p (i := 66) rfl rfl
theorem tw_p_67 : Cond.selects RX9 yX9_halts yX9_halts ∈ tbl := tbl_p (i := 67) rfl rfl
theorem tw_p_68 : Cond.selects RX9 yX9_fours yX9_fours ∈ tbl := tbl_p (i := 68) rfl rfl
theorem tw_p_69 : Cond.selects RX9 yX9_marks yX9_marks ∈ tbl := tbl_p (i := 69) rfl rfl
theorem tw_p_70 : Cond.selects RX9 yX9_bits yX9_bits ∈ tbl := tbl_p (i := 70) rfl rfl
theorem tw_p_71 : Cond.selects RX9 yX9_zeroed yX9_zeroed ∈ tbl := tbl_p (i := 71) rfl rfl
theorem tw_p_72 : Cond.selects RX9 yX9_shifts yX9_shifts ∈ tbl := tbl_p (i := 72) rfl rfl
theorem tw_p_73 : Cond.selects RX9 yX9_change yX9_change ∈ tbl := tbl_p (i := 73) rfl rfl
theorem tw_p_74 : Cond.selects RX9 yX9_changed yX9_changed ∈ tbl := tbl_p (i := 74) rfl rfl
theorem tw_p_75 : Cond.selects RX9 yX9_single yX9_single ∈ tbl := tbl_p (i := 75) rfl rfl
theorem tw_p_76 : Cond.selects RX9 yX9_eights yX9_eights ∈ tbl := tbl_p (i := 76) rfl rfl
theorem tw_p_77 : Cond.selects RX9 yX9_stacks yX9_stacks ∈ tbl := tbl_p (i := 77) rfl rfl
theorem tw_p_78 : Cond.selects RX9 yX9_flagged yX9_flagged ∈ tbl := tbl_p (i := 78) rfl rfl
theorem tw_p_79 : Cond.selects RX9 yX9_counted yX9_counted ∈ tbl := tbl_p (i := 79) rfl rfl
theorem tw_p_80 : Cond.selects RX9 yX9_moved yX9_moved ∈ tbl := tbl_p (i := 80) rfl rfl
theorem tw_p_81 : Cond.selects RX9 yX9_tens yX9_tens ∈ tbl := tbl_p (i := 81) rfl rfl
theorem tw_p_82 : Cond.selects RX9 yX9_clock yX9_clock ∈ tbl := tbl_p (i := 82) rfl rfl
theorem tw_p_83 : Cond.selects RX9 yX9_fails yX9_fails ∈ tbl := tbl_p (i := 83) rfl rfl
theorem tw_p_84 : Cond.selects RX9 yX9_find yX9_find ∈ tbl := tbl_p (i := 84) rfl rfl
theorem in_X0 : ∀ w ∈ wsX00, w ∈ tbl := by
  intro w hw
  obtain ⟨k, hk, rfl⟩ := List.mem_map.mp hw
  have hk := List.mem_range.mp hk
  match k, hk with
  | 0, _ => exact tw_1_118
  | 1, _ => exact tw_1_120
  | 2, _ => exact tw_1_122
  | 3, _ => exact tw_1_124
  | k + 4, hk => exact absurd hk (by omega)
theorem in_X1 : ∀ w ∈ wsX10, w ∈ tbl := by
  intro w hw
  obtain ⟨k, hk, rfl⟩ := List.mem_map.mp hw
  have hk := List.mem_range.mp hk
  match k, hk with
  | 0, _ => exact tw_1_214
  | 1, _ => exact tw_1_216
  | k + 2, hk => exact absurd hk (by omega)
theorem in_X3 : ∀ w ∈ wsX30, w ∈ tbl := by
  intro w hw
  obtain ⟨k, hk, rfl⟩ := List.mem_map.mp hw
  have hk := List.mem_range.mp hk
  match k, hk with
  | 0, _ => exact tw_1_106
  | k + 1, hk => exact absurd hk (by omega)
theorem in_X4 : ∀ w ∈ wsX40, w ∈ tbl := by
  intro w hw
  obtain ⟨k, hk, rfl⟩ := List.mem_map.mp hw
  have hk := List.mem_range.mp hk
  match k, hk with
  | 0, _ => exact tw_1_84
  | 1, _ => exact tw_1_86
  | 2, _ => exact tw_1_88
  | 3, _ => exact tw_1_90
  | 4, _ => exact tw_1_92
  | 5, _ => exact tw_1_94
  | k + 6, hk => exact absurd hk (by omega)
theorem in_X5 : ∀ w ∈ wsX50, w ∈ tbl := by
  intro w hw
  obtain ⟨k, hk, rfl⟩ := List.mem_map.mp hw
  have hk := List.mem_range.mp hk
  match k, hk with
  | 0, _ => exact tw_1_174
  | 1, _ => exact tw_1_176
  | 2, _ => exact tw_1_178
  | 3, _ => exact tw_1_180
  | 4, _ => exact tw_1_182
  | 5, _ => exact tw_1_184
  | 6, _ => exact tw_1_186
  | 7, _ => exact tw_1_188
  | 8, _ => exact tw_1_190
  | 9, _ => exact tw_1_192
  | 10, _ => exact tw_1_194
  | 11, _ => exact tw_1_196
  | 12, _ => exact tw_1_198
  | 13, _ => exact tw_1_200
  | 14, _ => exact tw_1_202
  | k + 15, hk => exact absurd hk (by omega)
theorem in_X6 : ∀ w ∈ wsX60, w ∈ tbl := by
  intro w hw
  obtain ⟨k, hk, rfl⟩ := List.mem_map.mp hw
  have hk := List.mem_range.mp hk
  match k, hk with
  | 0, _ => exact tw_1_51
  | 1, _ => exact tw_1_53
  | 2, _ => exact tw_1_55
  | 3, _ => exact tw_1_57
  | 4, _ => exact tw_1_59
  | 5, _ => exact tw_1_61
  | 6, _ => exact tw_1_63
  | 7, _ => exact tw_1_65
  | 8, _ => exact tw_1_67
  | k + 9, hk => exact absurd hk (by omega)
theorem in_X7 : ∀ w ∈ wsX70, w ∈ tbl := by
  intro w hw
  obtain ⟨k, hk, rfl⟩ := List.mem_map.mp hw
  have hk := List.mem_range.mp hk
  match k, hk with
  | 0, _ => exact tw_1_142
  | 1, _ => exact tw_1_144
  | k + 2, hk => exact absurd hk (by omega)
theorem in_X8 : ∀ w ∈ wsX80, w ∈ tbl := by
  intro w hw
  obtain ⟨k, hk, rfl⟩ := List.mem_map.mp hw
  have hk := List.mem_range.mp hk
  match k, hk with
  | 0, _ => exact tw_1_222
  | 1, _ => exact tw_1_224
  | 2, _ => exact tw_1_226
  | k + 3, hk => exact absurd hk (by omega)
theorem in_X9 : ∀ w ∈ wsX90, w ∈ tbl := by
  intro w hw
  obtain ⟨k, hk, rfl⟩ := List.mem_map.mp hw
  have hk := List.mem_range.mp hk
  match k, hk with
  | 0, _ => exact tw_3_220
  | 1, _ => exact tw_3_222
  | 2, _ => exact tw_3_224
  | 3, _ => exact tw_3_226
  | 4, _ => exact tw_3_228
  | 5, _ => exact tw_3_230
  | 6, _ => exact tw_3_232
  | 7, _ => exact tw_3_234
  | 8, _ => exact tw_3_236
  | 9, _ => exact tw_3_238
  | 10, _ => exact tw_4_0
  | 11, _ => exact tw_4_2
  | 12, _ => exact tw_4_4
  | 13, _ => exact tw_4_6
  | 14, _ => exact tw_4_8
  | 15, _ => exact tw_4_10
  | 16, _ => exact tw_4_12
  | 17, _ => exact tw_4_14
  | 18, _ => exact tw_4_16
  | 19, _ => exact tw_4_18
  | 20, _ => exact tw_4_20
  | 21, _ => exact tw_4_22
  | 22, _ => exact tw_4_24
  | 23, _ => exact tw_4_26
  | 24, _ => exact tw_4_28
  | 25, _ => exact tw_4_30
  | 26, _ => exact tw_4_32
  | 27, _ => exact tw_4_34
  | 28, _ => exact tw_4_36
  | 29, _ => exact tw_4_38
  | 30, _ => exact tw_4_40
  | 31, _ => exact tw_4_42
  | 32, _ => exact tw_4_44
  | k + 33, hk => exact absurd hk (by omega)
abbrev wsX0_afterReading : List Cond := .code yX0_afterReading cX0_afterReading 2 none :: tbl
abbrev wsX0_asks : List Cond := .code yX0_asks cX0_asks 1 (some .boolean) :: tbl
abbrev wsX0_cell : List Cond := .code yX0_cell cX0_cell 2 (some .int) :: tbl
abbrev wsX0_init : List Cond := .code yX0_init cX0_init 1 none :: tbl
abbrev wsX0_isDevice : List Cond := .code yX0_isDevice cX0_isDevice 1 (some .boolean) :: tbl
abbrev wsX0_peek : List Cond := .code yX0_peek cX0_peek 2 (some .int) :: tbl
abbrev wsX0_peekDevice : List Cond := .code yX0_peekDevice cX0_peekDevice 2 (some .int) :: tbl
abbrev wsX0_place : List Cond := .code yX0_place cX0_place 3 none :: tbl
abbrev wsX0_read : List Cond := .code yX0_read cX0_read 3 (some .int) :: tbl
abbrev wsX0_restart : List Cond := .code yX0_restart cX0_restart 1 none :: tbl
abbrev wsX0_write : List Cond := .code yX0_write cX0_write 3 none :: tbl
abbrev wsX1_add : List Cond := .code yX1_add cX1_add 2 (some .boolean) :: tbl
abbrev wsX1_find : List Cond := .code yX1_find cX1_find 3 (some .int) :: tbl
abbrev wsX1_has : List Cond := .code yX1_has cX1_has 2 (some .boolean) :: tbl
abbrev wsX1_init : List Cond := .code yX1_init cX1_init 1 none :: tbl
abbrev wsX1_remove : List Cond := .code yX1_remove cX1_remove 3 (some .boolean) :: tbl
abbrev wsX2_paysForCrossing : List Cond := .code yX2_paysForCrossing cX2_paysForCrossing 1 (some .boolean) :: tbl
abbrev wsX3_byteAt : List Cond := .code yX3_byteAt cX3_byteAt 2 (some .int) :: tbl
abbrev wsX3_init : List Cond := .code yX3_init cX3_init 2 none :: tbl
abbrev wsX3_store : List Cond := .code yX3_store cX3_store 6 none :: tbl
abbrev wsX4_accept : List Cond := .code yX4_accept cX4_accept 2 (some .int) :: tbl
abbrev wsX4_afterReading : List Cond := .code yX4_afterReading cX4_afterReading 2 none :: tbl
abbrev wsX4_asks : List Cond := .code yX4_asks cX4_asks 1 (some .boolean) :: tbl
abbrev wsX4_init : List Cond := .code yX4_init cX4_init 1 none :: tbl
abbrev wsX4_peek : List Cond := .code yX4_peek cX4_peek 2 (some .int) :: tbl
abbrev wsX4_restart : List Cond := .code yX4_restart cX4_restart 1 none :: tbl
abbrev wsX4_sentByte : List Cond := .code yX4_sentByte cX4_sentByte 2 (some .int) :: tbl
abbrev wsX4_write : List Cond := .code yX4_write cX4_write 3 none :: tbl
abbrev wsX5_add : List Cond := .code yX5_add cX5_add 3 none :: tbl
abbrev wsX5_addDecimal : List Cond := .code yX5_addDecimal cX5_addDecimal 4 none :: tbl
abbrev wsX5_addressOf : List Cond := .code yX5_addressOf cX5_addressOf 3 (some .int) :: tbl
abbrev wsX5_advance : List Cond := .code yX5_advance cX5_advance 2 (some .int) :: tbl
abbrev wsX5_branch : List Cond := .code yX5_branch cX5_branch 4 none :: tbl
abbrev wsX5_carryOut : List Cond := .code yX5_carryOut cX5_carryOut 6 none :: tbl
abbrev wsX5_change : List Cond := .code yX5_change cX5_change 5 none :: tbl
abbrev wsX5_changeState : List Cond := .code yX5_changeState cX5_changeState 2 none :: tbl
abbrev wsX5_changed : List Cond := .code yX5_changed cX5_changed 4 (some .int) :: tbl
abbrev wsX5_changesSign : List Cond := .code yX5_changesSign cX5_changesSign 3 (some .boolean) :: tbl
abbrev wsX5_compare : List Cond := .code yX5_compare cX5_compare 3 none :: tbl
abbrev wsX5_fetch : List Cond := .code yX5_fetch cX5_fetch 2 (some .int) :: tbl
abbrev wsX5_goIf : List Cond := .code yX5_goIf cX5_goIf 4 none :: tbl
abbrev wsX5_indexed : List Cond := .code yX5_indexed cX5_indexed 4 (some .int) :: tbl
abbrev wsX5_init : List Cond := .code yX5_init cX5_init 2 none :: tbl
abbrev wsX5_interrupt : List Cond := .code yX5_interrupt cX5_interrupt 3 none :: tbl
abbrev wsX5_jump : List Cond := .code yX5_jump cX5_jump 4 none :: tbl
abbrev wsX5_mark : List Cond := .code yX5_mark cX5_mark 3 none :: tbl
abbrev wsX5_move : List Cond := .code yX5_move cX5_move 2 none :: tbl
abbrev wsX5_pointerAt : List Cond := .code yX5_pointerAt cX5_pointerAt 3 (some .int) :: tbl
abbrev wsX5_pull : List Cond := .code yX5_pull cX5_pull 1 (some .int) :: tbl
abbrev wsX5_push : List Cond := .code yX5_push cX5_push 2 none :: tbl
abbrev wsX5_pushOrPull : List Cond := .code yX5_pushOrPull cX5_pushOrPull 2 none :: tbl
abbrev wsX5_restart : List Cond := .code yX5_restart cX5_restart 1 none :: tbl
abbrev wsX5_shifted : List Cond := .code yX5_shifted cX5_shifted 3 (some .int) :: tbl
abbrev wsX5_shown : List Cond := .code yX5_shown cX5_shown 3 (some .int) :: tbl
abbrev wsX5_stored : List Cond := .code yX5_stored cX5_stored 2 (some .int) :: tbl
abbrev wsX5_subtractDecimal : List Cond := .code yX5_subtractDecimal cX5_subtractDecimal 5 none :: tbl
abbrev wsX5_takeInterrupt : List Cond := .code yX5_takeInterrupt cX5_takeInterrupt 2 none :: tbl
abbrev wsX5_use : List Cond := .code yX5_use cX5_use 3 none :: tbl
abbrev wsX5_wordAt : List Cond := .code yX5_wordAt cX5_wordAt 3 (some .int) :: tbl
abbrev wsX6_afterReading : List Cond := .code yX6_afterReading cX6_afterReading 2 none :: tbl
abbrev wsX6_asks : List Cond := .code yX6_asks cX6_asks 1 (some .boolean) :: tbl
abbrev wsX6_init : List Cond := .code yX6_init cX6_init 1 none :: tbl
abbrev wsX6_pass : List Cond := .code yX6_pass cX6_pass 3 none :: tbl
abbrev wsX6_passOneOf1 : List Cond := .code yX6_passOneOf1 cX6_passOneOf1 2 none :: tbl
abbrev wsX6_passOneOf2 : List Cond := .code yX6_passOneOf2 cX6_passOneOf2 1 none :: tbl
abbrev wsX6_peek : List Cond := .code yX6_peek cX6_peek 2 (some .int) :: tbl
abbrev wsX6_restart : List Cond := .code yX6_restart cX6_restart 1 none :: tbl
abbrev wsX6_write : List Cond := .code yX6_write cX6_write 3 none :: tbl
abbrev wsX7_init : List Cond := .code yX7_init cX7_init 1 none :: tbl
abbrev wsX7_kept : List Cond := .code yX7_kept cX7_kept 3 (some .int) :: tbl
abbrev wsX7_note : List Cond := .code yX7_note cX7_note 2 none :: tbl
abbrev wsX8_clearBreak : List Cond := .code yX8_clearBreak cX8_clearBreak 2 (some .boolean) :: tbl
abbrev wsX8_count : List Cond := .code yX8_count cX8_count 2 (some .long) :: tbl
abbrev wsX8_init : List Cond := .code yX8_init cX8_init 1 none :: tbl
abbrev wsX8_isAddress : List Cond := .code yX8_isAddress cX8_isAddress 1 (some .boolean) :: tbl
abbrev wsX8_load : List Cond := .code yX8_load cX8_load 6 none :: tbl
abbrev wsX8_look : List Cond := .code yX8_look cX8_look 2 (some .int) :: tbl
abbrev wsX8_nmi : List Cond := .code yX8_nmi cX8_nmi 1 none :: tbl
abbrev wsX8_receive : List Cond := .code yX8_receive cX8_receive 2 (some .int) :: tbl
abbrev wsX8_register : List Cond := .code yX8_register cX8_register 2 (some .int) :: tbl
abbrev wsX8_reset : List Cond := .code yX8_reset cX8_reset 1 none :: tbl
abbrev wsX8_run : List Cond := .code yX8_run cX8_run 3 (some .int) :: tbl
abbrev wsX8_sent : List Cond := .code yX8_sent cX8_sent 2 (some .int) :: tbl
abbrev wsX8_set : List Cond := .code yX8_set cX8_set 3 none :: tbl
abbrev wsX8_setBreak : List Cond := .code yX8_setBreak cX8_setBreak 2 (some .boolean) :: tbl
abbrev wsX8_step : List Cond := .code yX8_step cX8_step 1 (some .int) :: tbl
abbrev wsX8_trace : List Cond := .code yX8_trace cX8_trace 2 (some .int) :: tbl
abbrev wsX9_add : List Cond := .code yX9_add cX9_add 4 (some .int) :: tbl
abbrev wsX9_address : List Cond := .code yX9_address cX9_address 2 (some .int) :: tbl
abbrev wsX9_alu : List Cond := .code yX9_alu cX9_alu 6 (some .int) :: tbl
abbrev wsX9_asks : List Cond := .code yX9_asks cX9_asks 1 (some .boolean) :: tbl
abbrev wsX9_bits : List Cond := .code yX9_bits cX9_bits 3 (some .int) :: tbl
abbrev wsX9_branch : List Cond := .code yX9_branch cX9_branch 4 (some .int) :: tbl
abbrev wsX9_calls : List Cond := .code yX9_calls cX9_calls 3 (some .int) :: tbl
abbrev wsX9_carry : List Cond := .code yX9_carry cX9_carry 1 (some .int) :: tbl
abbrev wsX9_cell : List Cond := .code yX9_cell cX9_cell 2 (some .int) :: tbl
abbrev wsX9_change : List Cond := .code yX9_change cX9_change 4 (some .int) :: tbl
abbrev wsX9_changed : List Cond := .code yX9_changed cX9_changed 4 (some .int) :: tbl
abbrev wsX9_clearBreak : List Cond := .code yX9_clearBreak cX9_clearBreak 3 (some .boolean) :: tbl
abbrev wsX9_clearDevices : List Cond := .code yX9_clearDevices cX9_clearDevices 1 none :: tbl
abbrev wsX9_clock : List Cond := .code yX9_clock cX9_clock 4 none :: tbl
abbrev wsX9_compare : List Cond := .code yX9_compare cX9_compare 3 none :: tbl
abbrev wsX9_compared : List Cond := .code yX9_compared cX9_compared 3 (some .int) :: tbl
abbrev wsX9_count : List Cond := .code yX9_count cX9_count 2 (some .long) :: tbl
abbrev wsX9_counted : List Cond := .code yX9_counted cX9_counted 3 (some .int) :: tbl
abbrev wsX9_eights : List Cond := .code yX9_eights cX9_eights 2 (some .int) :: tbl
abbrev wsX9_fails : List Cond := .code yX9_fails cX9_fails 2 (some .boolean) :: tbl
abbrev wsX9_find : List Cond := .code yX9_find cX9_find 3 (some .int) :: tbl
abbrev wsX9_flag : List Cond := .code yX9_flag cX9_flag 3 none :: tbl
abbrev wsX9_flagged : List Cond := .code yX9_flagged cX9_flagged 3 (some .int) :: tbl
abbrev wsX9_flags : List Cond := .code yX9_flags cX9_flags 1 (some .int) :: tbl
abbrev wsX9_fours : List Cond := .code yX9_fours cX9_fours 4 (some .int) :: tbl
abbrev wsX9_halts : List Cond := .code yX9_halts cX9_halts 2 (some .int) :: tbl
abbrev wsX9_indexed : List Cond := .code yX9_indexed cX9_indexed 4 (some .int) :: tbl
abbrev wsX9_init : List Cond := .code yX9_init cX9_init 1 none :: tbl
abbrev wsX9_instruction : List Cond := .code yX9_instruction cX9_instruction 4 (some .int) :: tbl
abbrev wsX9_interrupt : List Cond := .code yX9_interrupt cX9_interrupt 3 none :: tbl
abbrev wsX9_is : List Cond := .code yX9_is cX9_is 2 (some .boolean) :: tbl
abbrev wsX9_jump : List Cond := .code yX9_jump cX9_jump 5 (some .int) :: tbl
abbrev wsX9_load : List Cond := .code yX9_load cX9_load 7 none :: tbl
abbrev wsX9_loaded : List Cond := .code yX9_loaded cX9_loaded 3 (some .int) :: tbl
abbrev wsX9_look : List Cond := .code yX9_look cX9_look 2 (some .int) :: tbl
abbrev wsX9_marks : List Cond := .code yX9_marks cX9_marks 5 (some .int) :: tbl
abbrev wsX9_moved : List Cond := .code yX9_moved cX9_moved 3 (some .int) :: tbl
abbrev wsX9_narrow : List Cond := .code yX9_narrow cX9_narrow 3 (some .int) :: tbl
abbrev wsX9_nmi : List Cond := .code yX9_nmi cX9_nmi 1 none :: tbl
abbrev wsX9_once : List Cond := .code yX9_once cX9_once 1 (some .int) :: tbl
abbrev wsX9_overflows : List Cond := .code yX9_overflows cX9_overflows 3 none :: tbl
abbrev wsX9_pull : List Cond := .code yX9_pull cX9_pull 1 (some .int) :: tbl
abbrev wsX9_push : List Cond := .code yX9_push cX9_push 2 none :: tbl
abbrev wsX9_read : List Cond := .code yX9_read cX9_read 4 (some .int) :: tbl
abbrev wsX9_receive : List Cond := .code yX9_receive cX9_receive 2 (some .int) :: tbl
abbrev wsX9_register : List Cond := .code yX9_register cX9_register 2 (some .int) :: tbl
abbrev wsX9_reset : List Cond := .code yX9_reset cX9_reset 1 none :: tbl
abbrev wsX9_run : List Cond := .code yX9_run cX9_run 3 (some .int) :: tbl
abbrev wsX9_see : List Cond := .code yX9_see cX9_see 2 (some .int) :: tbl
abbrev wsX9_sent : List Cond := .code yX9_sent cX9_sent 2 (some .int) :: tbl
abbrev wsX9_set : List Cond := .code yX9_set cX9_set 3 none :: tbl
abbrev wsX9_setBreak : List Cond := .code yX9_setBreak cX9_setBreak 2 (some .boolean) :: tbl
abbrev wsX9_shifts : List Cond := .code yX9_shifts cX9_shifts 4 (some .int) :: tbl
abbrev wsX9_single : List Cond := .code yX9_single cX9_single 5 (some .int) :: tbl
abbrev wsX9_size : List Cond := .code yX9_size cX9_size 3 (some .int) :: tbl
abbrev wsX9_stacks : List Cond := .code yX9_stacks cX9_stacks 4 (some .int) :: tbl
abbrev wsX9_step : List Cond := .code yX9_step cX9_step 3 (some .int) :: tbl
abbrev wsX9_subtract : List Cond := .code yX9_subtract cX9_subtract 6 (some .int) :: tbl
abbrev wsX9_taken : List Cond := .code yX9_taken cX9_taken 2 (some .int) :: tbl
abbrev wsX9_taken2 : List Cond := .code yX9_taken2 cX9_taken2 2 (some .int) :: tbl
abbrev wsX9_tens : List Cond := .code yX9_tens cX9_tens 2 (some .int) :: tbl
abbrev wsX9_tested : List Cond := .code yX9_tested cX9_tested 2 (some .int) :: tbl
abbrev wsX9_thrown : List Cond := .code yX9_thrown cX9_thrown 1 (some .int) :: tbl
abbrev wsX9_time : List Cond := .code yX9_time cX9_time 1 (some .int) :: tbl
abbrev wsX9_trace : List Cond := .code yX9_trace cX9_trace 3 (some .int) :: tbl
abbrev wsX9_wide : List Cond := .code yX9_wide cX9_wide 2 (some .int) :: tbl
abbrev wsX9_wordAt : List Cond := .code yX9_wordAt cX9_wordAt 3 (some .int) :: tbl
abbrev wsX9_write : List Cond := .code yX9_write cX9_write 3 none :: tbl
abbrev wsX9_zeroWord : List Cond := .code yX9_zeroWord cX9_zeroWord 3 (some .int) :: tbl
abbrev wsX9_zeroed : List Cond := .code yX9_zeroed cX9_zeroed 2 (some .int) :: tbl
/-! what every contract begins and ends with -/
abbrev cpre (dC : Nat → ClassId) (dI : Nat → Nat → Nat) (cI cJ : ClassId) (w : va_W) (sz : Nat) (U : State) : Prop := U.heap.size = sz ∧ va_P (dC, dI) vwCl w U.heap ∧ va_K (dC, dI) vwCl [(cI, .int), (cJ, .long)] U ∧ va_D (fun _ => True) w
abbrev cpost (dC : Nat → ClassId) (dI : Nat → Nat → Nat) (cI cJ : ClassId) (A : Nat → Prop) (w : va_W) (t : State) : Prop := va_P (dC, dI) vwCl w t.heap ∧ va_K (dC, dI) vwCl [(cI, .int), (cJ, .long)] t ∧ va_D A w
theorem cpre_blind {av : List Value} {dC : Nat → ClassId} {dI : Nat → Nat → Nat} {cI cJ : ClassId} {w : va_W} {sz : Nat} : FrameBlind (va_Pc av (cpre dC dI cI cJ w sz)) := fun a U g mk q => by
  obtain ⟨q0, q1, qP, qK, qD⟩ := q
  exact ⟨q0, q1, qP, va_K.moved (u := U) (U := U.calling g mk a) (Vm.Alike.refl U.vm) qK, qD⟩
theorem cpre_V {s : State} {H : Heap} {dC : Nat → ClassId} {dI : Nat → Nat → Nat} {cI cJ : ClassId} {w : va_W} {A : Nat → Prop} {ci q0 b : Nat} {q : vw_C} {fs As : List Value} (hK : va_K (dC, dI) vwCl [(cI, .int), (cJ, .long)] s) (hP : va_P (dC, dI) vwCl w H) (hD : va_D A w) (hc : vwCl[ci]? = some q) (he : w[q0]? = some (b, .inr (ci, fs))) : PreV s H q.1 b (va_Pc (.ref b :: As) (cpre dC dI cI cJ w H.size)) As :=
  ⟨cpre_blind, va_recv hK hP hc he, fun U hU hW => ⟨rfl, by rw [hU], by rw [hU]; exact hP, va_K.moved hW.alike hK, hD.weaken (fun _ _ _ _ => trivial)⟩⟩
theorem cpre_S {s : State} {H : Heap} {dC : Nat → ClassId} {dI : Nat → Nat → Nat} {cI cJ : ClassId} {w : va_W} {A : Nat → Prop} {As : List Value} (hK : va_K (dC, dI) vwCl [(cI, .int), (cJ, .long)] s) (hP : va_P (dC, dI) vwCl w H) (hD : va_D A w) : PreS s H (va_Pc As (cpre dC dI cI cJ w H.size)) As :=
  ⟨cpre_blind, fun U hU hW => ⟨rfl, by rw [hU], by rw [hU]; exact hP, va_K.moved hW.alike hK, hD.weaken (fun _ _ _ _ => trivial)⟩⟩
theorem cjoin {dC : Nat → ClassId} {dI : Nat → Nat → Nat} {cI cJ : ClassId} {A0 : Nat → Prop} {ws wc w1 : va_W} {H H1 : Heap} {t : State} (ht : t.heap = H1) (hP : va_P (dC, dI) vwCl ws H) (hD : va_D A0 ws) (isC isR : List Nat) (hC : isC.map (fun i => ws[i]?) = wc.map some) (hR : isR.map (fun i => ws[i]?) = (isR.filterMap (fun i => ws[i]?)).map some) (hn : va_nd isR = true) (hdis : ∀ i ∈ isR, i ∉ isC)
    (hk : ∀ q : Nat, q < H.size → ¬ va_A wc H.size q → H1[q]? = H[q]?) (hF : ∀ q, va_A wc H.size q → A0 q) (hB : cpost dC dI cI cJ (va_A wc H.size) w1 t) : va_P (dC, dI) vwCl (isR.filterMap (fun i => ws[i]?) ++ w1) H1 ∧ va_D A0 (isR.filterMap (fun i => ws[i]?) ++ w1) := by
  subst ht
  exact va_join hP hD isC isR hC hR hn hdis hk hF hB.1 hB.2.2
theorem cjoin_w {dC : Nat → ClassId} {dI : Nat → Nat → Nat} {cI cJ : ClassId} {A0 : Nat → Prop} {wc w1 : va_W} {H H1 : Heap} {t : State} (ht : t.heap = H1) (hB : cpost dC dI cI cJ (va_A wc H.size) w1 t) (hF : ∀ q, va_A wc H.size q → A0 q) : va_P (dC, dI) vwCl w1 H1 ∧ va_D A0 w1 := by
  subst ht
  exact ⟨hB.1, hB.2.2.weaken (fun _ _ _ h => hF _ h)⟩
/-! the default of a switch -/
theorem tb_ne {x k : Int32} {n : Int} (h : ¬ x = k) (hk : k.toInt = n) : x.toInt ≠ n := fun e => h (Int32.toInt_inj.mp (e.trans hk.symm))
section TB
variable {p : Program} {l : Launch} {e : Env} {R : Room} {s : State} {m : MethodId} {args : Array Value} {below : List Frame} {meth : Method} {c : Code} {H : Heap} {locs : List Loc} {cells slots : Nat} {Q : State → Prop} {cc : ByteArray} {pc : Nat} {ls : Array Slot} {rest : List Value}
theorem tb_def (hexec : p.tables.exec = Jvm.exec) (hb : c.code = cc) {dflt lo hi : Int} {offs : Array Int} {len : Nat} {x : Int32} {tgt : Nat} {keys : List Int} (hdg : decode cc pc = .ok (.tableswitch dflt lo hi offs, len)) (hk : ∀ k ∈ keys, x.toInt ≠ k) (ht : (pc : Int) + dflt = (tgt : Int)) (hall : ∀ j : Fin ((hi - lo + 1).toNat), (lo + (j.val : Int)) ∈ keys ∨ offs[j.val]? = some dflt)
    (k : W p l e R s m args below meth c H locs cells slots Q (F0 m tgt ls rest)) : W p l e R s m args below meth c H locs cells slots Q (F0 m pc ls (.int x :: rest)) := by
  by_cases h1 : x.toInt < lo
  · exact lv_tableOut hexec hb hdg (Or.inl h1) ht k
  · by_cases h2 : hi < x.toInt
    · exact lv_tableOut hexec hb hdg (Or.inr h2) ht k
    · refine lv_tableIn hexec hb hdg h1 h2 ?_ ht k
      have hj : (x.toInt - lo).toNat < (hi - lo + 1).toNat := by omega
      rcases hall ⟨_, hj⟩ with h | h
      · exact absurd (show x.toInt = lo + (((x.toInt - lo).toNat : Nat) : Int) by omega) (hk _ h)
      · exact h
end TB
theorem lk_def {x : Int} {dflt : Int} {keys : List Int} : ∀ {ps : List (Int × Int)}, (∀ k ∈ keys, x ≠ k) → (∀ q ∈ ps, q.1 ∈ keys) → Op.lookupswitch.offset ps dflt x = dflt
  | [], _, _ => rfl
  | (a, o) :: r, hk, hp => by
    rw [Op.lookupswitch.offset_cons, if_neg (fun h => hk a (hp (a, o) List.mem_cons_self) h.symm)]
    exact lk_def hk (fun q hq => hp q (List.mem_cons_of_mem _ hq))
def tab0 : List Int32 := [117, 0, 71, 71, 38, 0, 32, 40, 83, 0, 32, 71, 38, 0, 32, 105, 96, 0, 0, 71, 39, 0, 32, 40, 64, 0, 36, 71, 39, 0, 32, 105, 114, 1, 71, 71, 11, 1, 33, 40, 87, 1, 33, 71, 11, 1, 33, 105, 97, 1, 1, 71, 11, 1, 33, 40, 65, 1, 37, 71, 11, 1, 33, 105, 116, 2, 71, 71, 71, 2, 34, 40, 80, 2, 34, 71, 112, 2, 34, 105, 98, 2, 2, 71, 71, 2, 34, 40, 66, 2, 82, 71, 71, 2, 34, 105, 115, 3, 71, 71, 19, 3, 35, 40, 84, 3, 35, 71, 113, 3, 35, 105, 99, 3, 3, 71, 19, 3, 35, 40, 67, 3, 86, 71, 113, 3, 35, 105, 104, 16, 71, 71, 18, 16, 17, 41, 51, 12, 54, 71, 18, 16, 17, 106, 100, 16, 16, 71, 18, 16, 17, 41, 55, 16, 57, 71, 19, 16, 19, 106, 8, 4, 7, 71, 8, 4, 7, 41, 53, 4, 52, 71, 8, 4, 7, 106, 101, 4, 4, 71, 8, 4, 7, 41, 68, 4, 56, 71, 8, 4, 7, 106, 10, 5, 71, 71, 10, 5, 37, 41, 49, 5, 50, 72, 10, 5, 37, 106, 102, 5, 5, 71, 71, 5, 37, 41, 69, 5, 81, 73, 71, 5, 37, 106, 9, 6, 71, 71, 9, 6, 36, 41, 48, 6, 71, 71, 9, 6, 36, 106, 103, 6, 6, 71, 71, 6, 36, 41, 70, 6, 85, 71, 71, 6, 36, 106]
def tab1 : List Int32 := [0, 7, 2, 0, 4, 4, 4, 4, 0, 2, 1, 0, 10, 10, 10, 13, 3, 8, 9, 0, 4, 5, 5, 4, 0, 12, 1, 0, 10, 11, 11, 13, 10, 7, 2, 0, 4, 4, 4, 4, 0, 2, 1, 0, 10, 10, 10, 13, 3, 8, 9, 0, 5, 5, 5, 4, 0, 12, 1, 0, 11, 11, 11, 13, 0, 7, 2, 0, 2, 4, 4, 4, 0, 2, 1, 0, 10, 10, 10, 13, 3, 8, 9, 0, 2, 5, 5, 4, 0, 12, 0, 0, 10, 11, 11, 13, 0, 7, 2, 0, 4, 4, 4, 4, 0, 2, 1, 0, 10, 10, 10, 13, 3, 8, 9, 0, 5, 5, 5, 4, 0, 12, 0, 0, 11, 11, 11, 13, 3, 7, 2, 0, 4, 4, 4, 4, 0, 2, 0, 0, 10, 10, 10, 13, 3, 8, 9, 0, 5, 5, 6, 4, 0, 12, 0, 0, 10, 11, 11, 13, 2, 7, 2, 0, 4, 4, 4, 4, 0, 2, 0, 0, 10, 10, 10, 13, 3, 8, 9, 0, 5, 5, 6, 4, 0, 12, 0, 0, 11, 11, 12, 13, 2, 7, 2, 0, 4, 4, 4, 4, 0, 2, 0, 0, 10, 10, 10, 13, 3, 8, 9, 0, 2, 5, 5, 4, 0, 12, 0, 0, 10, 11, 11, 13, 2, 7, 2, 0, 4, 4, 4, 4, 0, 2, 0, 0, 10, 10, 10, 13, 3, 8, 9, 0, 2, 5, 5, 4, 0, 12, 0, 0, 10, 11, 11, 13]
def tab2 : List Int32 := [7, 6, 2, 1, 5, 3, 5, 5, 3, 2, 2, 1, 6, 4, 6, 5, 2, 5, 5, 1, 5, 4, 6, 5, 2, 4, 2, 1, 6, 4, 6, 5, 6, 6, 2, 1, 3, 3, 5, 5, 4, 2, 2, 1, 4, 4, 6, 5, 2, 5, 5, 1, 4, 4, 6, 5, 2, 4, 2, 1, 4, 4, 6, 5, 6, 6, 2, 1, 3, 3, 5, 5, 3, 2, 2, 1, 3, 4, 6, 5, 2, 5, 5, 1, 4, 4, 6, 5, 2, 4, 3, 1, 8, 4, 6, 5, 6, 6, 2, 1, 3, 3, 5, 5, 4, 2, 2, 1, 6, 4, 6, 5, 2, 5, 5, 1, 4, 4, 6, 5, 2, 4, 4, 1, 6, 4, 6, 5, 2, 6, 2, 1, 3, 3, 3, 5, 2, 2, 2, 1, 4, 4, 4, 5, 2, 6, 5, 1, 4, 4, 4, 5, 2, 5, 2, 1, 4, 5, 5, 5, 2, 6, 2, 1, 3, 3, 3, 5, 2, 2, 2, 1, 4, 4, 4, 5, 2, 5, 5, 1, 4, 4, 4, 5, 2, 4, 2, 1, 4, 4, 4, 5, 2, 6, 2, 1, 3, 3, 5, 5, 2, 2, 2, 3, 4, 4, 6, 5, 2, 5, 5, 1, 4, 4, 6, 5, 2, 4, 3, 3, 4, 4, 7, 5, 2, 6, 2, 1, 3, 3, 5, 5, 2, 2, 2, 1, 4, 4, 6, 5, 2, 5, 5, 1, 4, 4, 6, 5, 2, 4, 4, 1, 4, 4, 7, 5]
def tab (k j : Nat) : Int32 := match k with
  | 0 => tab0.getD j 0
  | 1 => tab1.getD j 0
  | _ => tab2.getD j 0
abbrev cstat (tt : Nat → Nat) (A : Nat → Prop) (U : State) (H : Heap) : Prop := (va_Z RX2 "OPERATIONS" "[I" (.ref (tt 0)) A U H ∧ va_T .int (tt 0) 256 (fun j => .int (tab 0 j)) A U H) ∧ (va_Z RX2 "MODES" "[I" (.ref (tt 1)) A U H ∧ va_T .int (tt 1) 256 (fun j => .int (tab 1 j)) A U H) ∧ (va_Z RX2 "CYCLES" "[I" (.ref (tt 2)) A U H ∧ va_T .int (tt 2) 256 (fun j => .int (tab 2 j)) A U H)
abbrev cpreT (dC : Nat → ClassId) (dI : Nat → Nat → Nat) (cI cJ : ClassId) (tt : Nat → Nat) (w : va_W) (sz : Nat) (U : State) : Prop := cpre dC dI cI cJ w sz U ∧ cstat tt (va_A w sz) U U.heap
theorem cstat.moved {tt : Nat → Nat} {A : Nat → Prop} {u U : State} {H : Heap} (hvm : u.vm.Alike U.vm) (h : cstat tt A u H) : cstat tt A U H := ⟨⟨h.1.1.moved hvm, h.1.2.moved hvm⟩, ⟨h.2.1.1.moved hvm, h.2.1.2.moved hvm⟩, ⟨h.2.2.1.moved hvm, h.2.2.2.moved hvm⟩⟩
theorem cstat.kept {tt : Nat → Nat} {A : Nat → Prop} {U : State} {H H1 : Heap} (h : cstat tt A U H) (hq : ∀ a : Nat, a < H.size → ¬ A a → H1[a]? = H[a]?) : cstat tt A U H1 := ⟨⟨h.1.1.kept hq, h.1.2.kept hq⟩, ⟨h.2.1.1.kept hq, h.2.1.2.kept hq⟩, ⟨h.2.2.1.kept hq, h.2.2.2.kept hq⟩⟩
theorem cstat.narrow {tt : Nat → Nat} {A B : Nat → Prop} {U : State} {H : Heap} (h : cstat tt A U H) (hAB : ∀ q, B q → A q) : cstat tt B U H := ⟨⟨h.1.1.narrow hAB, h.1.2.narrow hAB⟩, ⟨h.2.1.1.narrow hAB, h.2.1.2.narrow hAB⟩, ⟨h.2.2.1.narrow hAB, h.2.2.2.narrow hAB⟩⟩
theorem cpreT_blind {av : List Value} {dC : Nat → ClassId} {dI : Nat → Nat → Nat} {cI cJ : ClassId} {tt : Nat → Nat} {w : va_W} {sz : Nat} : FrameBlind (va_Pc av (cpreT dC dI cI cJ tt w sz)) := fun a U g mk q => by
  obtain ⟨q0, ⟨q1, qP, qK, qD⟩, qT⟩ := q
  exact ⟨q0, ⟨q1, qP, va_K.moved (u := U) (U := U.calling g mk a) (Vm.Alike.refl U.vm) qK, qD⟩, cstat.moved (u := U) (U := U.calling g mk a) (Vm.Alike.refl U.vm) qT⟩
theorem cpre_VT {s : State} {H : Heap} {dC : Nat → ClassId} {dI : Nat → Nat → Nat} {cI cJ : ClassId} {tt : Nat → Nat} {w : va_W} {A : Nat → Prop} {ci q0 b : Nat} {q : vw_C} {fs As : List Value} {locs : List Loc} (hK : va_K (dC, dI) vwCl [(cI, .int), (cJ, .long)] s) (hP : va_P (dC, dI) vwCl w H) (hD : va_D A w) (hT : cstat tt A s s.heap) (hS : va_S A s.heap H locs) (hF : ∀ q, va_A w H.size q → A q) (hc : vwCl[ci]? = some q) (he : w[q0]? = some (b, .inr (ci, fs))) : PreV s H q.1 b (va_Pc (.ref b :: As) (cpreT dC dI cI cJ tt w H.size)) As :=
  ⟨cpreT_blind, va_recv hK hP hc he, fun U hU hW => ⟨rfl, ⟨by rw [hU], by rw [hU]; exact hP, va_K.moved hW.alike hK, hD.weaken (fun _ _ _ _ => trivial)⟩, by rw [hU]; exact ((hT.kept hS.2.1).narrow hF).moved hW.alike⟩⟩
abbrev S_Timers : Type := (Nat → Int32)
abbrev S_Port : Type := (Nat → Int32) × (Nat → Int32) × (Nat → Int32)
abbrev S_Memory : Type := (Nat → Int64)
abbrev S_Board : Type := (Nat → Int32) × S_Timers × S_Port × S_Memory
abbrev S_Trace : Type := (Nat → Int32) × (Nat → Int32)
abbrev S_Breaks : Type := (Nat → Int32) × (Nat → Int32)
abbrev S_Proc : Type := (Nat → Int32) × Int64 × S_Trace × S_Board
abbrev S_BM : Type := S_Proc × S_Breaks
abbrev S_Model : Type := (Nat → Int32) × (Nat → Int64) × (Nat → Nat → Int32)
abbrev w_Timers (h : Nat → Nat) (cI cJ : ClassId) (t : S_Timers) : va_W := [(h 5, .inr (5, [.int (t 0), .int (t 1), .int (t 2), .int (t 3), .int (t 4), .int (t 5), .int (t 6), .int (t 7), .int (t 8)]))]
abbrev w_Port (h : Nat → Nat) (cI cJ : ClassId) (t : S_Port) : va_W := [(h 6, .inr (3, [.int (t.1 0), .int (t.1 1), .ref (h 7), .ref (h 8), .int (t.1 4), .int (t.1 5)])), (h 7, .inl (cI, 64, .inl t.2.1)), (h 8, .inl (cI, 256, .inl t.2.2))]
abbrev w_Memory (h : Nat → Nat) (cI cJ : ClassId) (t : S_Memory) : va_W := [(h 9, .inr (2, [.ref (h 10)])), (h 10, .inl (cJ, 10240, .inr (.inl t)))]
abbrev w_Board (h : Nat → Nat) (cI cJ : ClassId) (t : S_Board) : va_W := [(h 4, .inr (0, [.ref (h 5), .ref (h 6), .int (t.1 2), .ref (h 9)])), (h 5, .inr (5, [.int (t.2.1 0), .int (t.2.1 1), .int (t.2.1 2), .int (t.2.1 3), .int (t.2.1 4), .int (t.2.1 5), .int (t.2.1 6), .int (t.2.1 7), .int (t.2.1 8)])), (h 6, .inr (3, [.int (t.2.2.1.1 0), .int (t.2.2.1.1 1), .ref (h 7), .ref (h 8), .int (t.2.2.1.1 4), .int (t.2.2.1.1 5)])), (h 7, .inl (cI, 64, .inl t.2.2.1.2.1)), (h 8, .inl (cI, 256, .inl t.2.2.1.2.2)), (h 9, .inr (2, [.ref (h 10)])), (h 10, .inl (cJ, 10240, .inr (.inl t.2.2.2)))]
abbrev w_Trace (h : Nat → Nat) (cI cJ : ClassId) (t : S_Trace) : va_W := [(h 2, .inr (6, [.int (t.1 0), .ref (h 3)])), (h 3, .inl (cI, 32, .inl t.2))]
abbrev w_Breaks (h : Nat → Nat) (cI cJ : ClassId) (t : S_Breaks) : va_W := [(h 11, .inr (1, [.int (t.1 0), .ref (h 12)])), (h 12, .inl (cI, 16, .inl t.2))]
abbrev w_Proc (h : Nat → Nat) (cI cJ : ClassId) (t : S_Proc) : va_W := [(h 1, .inr (4, [.int (t.1 0), .int (t.1 1), .int (t.1 2), .int (t.1 3), .int (t.1 4), .int (t.1 5), .int (t.1 6), .int (t.1 7), .int (t.1 8), .long (t.2.1), .int (t.1 10), .ref (h 2), .ref (h 4), .int (t.1 13), .int (t.1 14)])), (h 2, .inr (6, [.int (t.2.2.1.1 0), .ref (h 3)])), (h 3, .inl (cI, 32, .inl t.2.2.1.2)), (h 4, .inr (0, [.ref (h 5), .ref (h 6), .int (t.2.2.2.1 2), .ref (h 9)])), (h 5, .inr (5, [.int (t.2.2.2.2.1 0), .int (t.2.2.2.2.1 1), .int (t.2.2.2.2.1 2), .int (t.2.2.2.2.1 3), .int (t.2.2.2.2.1 4), .int (t.2.2.2.2.1 5), .int (t.2.2.2.2.1 6), .int (t.2.2.2.2.1 7), .int (t.2.2.2.2.1 8)])), (h 6, .inr (3, [.int (t.2.2.2.2.2.1.1 0), .int (t.2.2.2.2.2.1.1 1), .ref (h 7), .ref (h 8), .int (t.2.2.2.2.2.1.1 4), .int (t.2.2.2.2.2.1.1 5)])), (h 7, .inl (cI, 64, .inl t.2.2.2.2.2.1.2.1)), (h 8, .inl (cI, 256, .inl t.2.2.2.2.2.1.2.2)), (h 9, .inr (2, [.ref (h 10)])), (h 10, .inl (cJ, 10240, .inr (.inl t.2.2.2.2.2.2)))]
abbrev w_BM (h : Nat → Nat) (cI cJ : ClassId) (t : S_BM) : va_W := [(h 0, .inr (7, [.ref (h 4), .ref (h 1), .ref (h 11)])), (h 1, .inr (4, [.int (t.1.1 0), .int (t.1.1 1), .int (t.1.1 2), .int (t.1.1 3), .int (t.1.1 4), .int (t.1.1 5), .int (t.1.1 6), .int (t.1.1 7), .int (t.1.1 8), .long (t.1.2.1), .int (t.1.1 10), .ref (h 2), .ref (h 4), .int (t.1.1 13), .int (t.1.1 14)])), (h 2, .inr (6, [.int (t.1.2.2.1.1 0), .ref (h 3)])), (h 3, .inl (cI, 32, .inl t.1.2.2.1.2)), (h 4, .inr (0, [.ref (h 5), .ref (h 6), .int (t.1.2.2.2.1 2), .ref (h 9)])), (h 5, .inr (5, [.int (t.1.2.2.2.2.1 0), .int (t.1.2.2.2.2.1 1), .int (t.1.2.2.2.2.1 2), .int (t.1.2.2.2.2.1 3), .int (t.1.2.2.2.2.1 4), .int (t.1.2.2.2.2.1 5), .int (t.1.2.2.2.2.1 6), .int (t.1.2.2.2.2.1 7), .int (t.1.2.2.2.2.1 8)])), (h 6, .inr (3, [.int (t.1.2.2.2.2.2.1.1 0), .int (t.1.2.2.2.2.2.1.1 1), .ref (h 7), .ref (h 8), .int (t.1.2.2.2.2.2.1.1 4), .int (t.1.2.2.2.2.2.1.1 5)])), (h 7, .inl (cI, 64, .inl t.1.2.2.2.2.2.1.2.1)), (h 8, .inl (cI, 256, .inl t.1.2.2.2.2.2.1.2.2)), (h 9, .inr (2, [.ref (h 10)])), (h 10, .inl (cJ, 10240, .inr (.inl t.1.2.2.2.2.2.2))), (h 11, .inr (1, [.int (t.2.1 0), .ref (h 12)])), (h 12, .inl (cI, 16, .inl t.2.2))]
abbrev w_Model (h : Nat → Nat) (cI cJ : ClassId) (t : S_Model) : va_W := [(h 13, .inr (8, [.int (t.1 0), .ref (h 14), .ref (h 15), .int (t.1 3), .int (t.1 4), .int (t.1 5), .int (t.1 6), .int (t.1 7), .int (t.1 8), .int (t.1 9), .int (t.1 10), .int (t.1 11), .int (t.1 12), .int (t.1 13), .int (t.1 14), .int (t.1 15), .int (t.1 16), .int (t.1 17), .int (t.1 18), .int (t.1 19), .int (t.1 20), .int (t.1 21), .int (t.1 22), .int (t.1 23), .ref (h 16), .ref (h 17), .long (t.2.1 26), .long (t.2.1 27), .long (t.2.1 28), .int (t.1 29), .int (t.1 30), .ref (h 18), .ref (h 19)])), (h 14, .inl (cI, 81920, .inl (t.2.2 1))), (h 15, .inl (cI, 4, .inl (t.2.2 2))), (h 16, .inl (cI, 64, .inl (t.2.2 24))), (h 17, .inl (cI, 256, .inl (t.2.2 25))), (h 18, .inl (cI, 16, .inl (t.2.2 31))), (h 19, .inl (cI, 32, .inl (t.2.2 32)))]
end
section
theorem tw_1_0 : Cond.initialized RL ∈ tbl := tbl_1 (i := 0) rfl rfl
theorem tw_1_109 : Cond.arrayClass .long ∈ tbl := tbl_1 (i := 109) rfl rfl
theorem tw_1_128 : Cond.instantiable RX5 15 ∈ tbl := tbl_1 (i := 128) rfl rfl
theorem tw_1_134 : Cond.instantiable RX7 2 ∈ tbl := tbl_1 (i := 134) rfl rfl
theorem tw_1_16 : Cond.classLink RL 8 RX8 ∈ tbl := tbl_1 (i := 16) rfl rfl
theorem tw_1_17 : Cond.instantiable RX8 3 ∈ tbl := tbl_1 (i := 17) rfl rfl
theorem tw_1_18 : Cond.methodLink RL 26 yX8_init ∈ tbl := tbl_1 (i := 18) rfl rfl
theorem tw_1_19 : Cond.instanceMethod yX8_init ∈ tbl := tbl_1 (i := 19) rfl rfl
theorem tw_1_20 : Cond.code yX8_init cX8_init 1 none ∈ tbl := tbl_1 (i := 20) rfl rfl
theorem tw_1_206 : Cond.instantiable RX1 2 ∈ tbl := tbl_1 (i := 206) rfl rfl
theorem tw_1_25 : Cond.instantiable RX0 4 ∈ tbl := tbl_1 (i := 25) rfl rfl
theorem tw_1_31 : Cond.instantiable RX6 9 ∈ tbl := tbl_1 (i := 31) rfl rfl
theorem tw_1_71 : Cond.instantiable RX4 6 ∈ tbl := tbl_1 (i := 71) rfl rfl
theorem tw_1_97 : Cond.arrayClass .int ∈ tbl := tbl_1 (i := 97) rfl rfl
theorem tw_1_99 : Cond.instantiable RX3 1 ∈ tbl := tbl_1 (i := 99) rfl rfl
theorem tw_3_175 : Cond.classLink RL 27 RX9 ∈ tbl := tbl_3 (i := 175) rfl rfl
theorem tw_3_176 : Cond.instantiable RX9 33 ∈ tbl := tbl_3 (i := 176) rfl rfl
theorem tw_3_177 : Cond.methodLink RL 29 yX9_init ∈ tbl := tbl_3 (i := 177) rfl rfl
theorem tw_3_178 : Cond.instanceMethod yX9_init ∈ tbl := tbl_3 (i := 178) rfl rfl
theorem tw_3_179 : Cond.code yX9_init cX9_init 1 none ∈ tbl := tbl_3 (i := 179) rfl rfl
def RM (t : Int32) (g : Nat) (k : S_BM) (u : S_Model) : Prop := t = t ∧ g = g ∧ k = k ∧ u = u
theorem RM.mono {t : Int32} {g g' : Nat} {k : S_BM} {u : S_Model} (h : RM t g k u) (hg : g ≤ g') : RM t g' k u := ⟨rfl, rfl, rfl, rfl⟩
/-! THE CLAIM OUT OF ONE WALK OF THE LAW'S BODY. Your part is whole_start (and what it stands on); all else here is the same for every law, but numbers. -/
def R_law : String := "BoardMachineLaw"
def lw_P (b : Addr) (xs : List Int32) (args : Array Value) (s : State) : Prop := args = #[.ref b] ∧ s.IntsAt b xs ∧ xs.length ≤ 2560 ∧ (Jvm.Cond.and given_1 narrow_1).before args s = true
def lw_Q (_ : Array Value) (s : State) (o : Outcome) (t : State) : Prop := o = .returned (some (.int 1)) ∧ Framed s o t [] 601024 7293034
def lw_Z (below : List Frame) (a : Array Value) (s : State) : State → Prop := fun t => ∃ o, t.status = .running ∧ Ended t below o ∧ lw_Q a s o t
/-- the law's own end, with 1 on the stack, nothing written that was there before, its room as the claim has it -/
theorem lw_ret {p : Program} {l : Launch} {e : Env} {s : State} {m : MethodId} {below : List Frame} {meth : Method} {c : Code} {b : Nat} (hx : p.tables.exec = Jvm.exec) (hb : c.code = code) (hr : meth.sig.returnType = ret) (hlocks : meth.locks = false) {pc : Nat} {H : Heap} {ls : Array Slot} (hdg : decode code pc = .ok (.ireturn, 1)) : W p l e room_1 s m #[Value.ref b] below meth c H [] 601024 7293034 (lw_Z below #[Value.ref b] s) (F0 m pc ls [.int 1]) := by
  intro T hT X
  obtain ⟨fs, hret, hrun, hended, hW, hframe⟩ := X.leave (v := some (.int 1)) (hlocks := hlocks) (fun h => by rw [hr] at h; cases h)
  have hmeth' : T.vm.method? m = some meth := X.method'
  refine ⟨T.setFrames fs, ?_, .returned (some (.int 1)), hrun, hended, rfl, ⟨_, rfl⟩, hW, hframe⟩
  jvm_step X.here [X.here.top, hx, hb, hdg, hmeth', hr, ret, narrow_b1]
  (try refine ⟨rfl, ?_⟩); (try refine ⟨rfl, ?_⟩)
  first | (intro acts; rw [hret _ acts rfl rfl rfl]) | rw [hret _ _ rfl rfl rfl]
  exact Steps.refl _
/-- what holds at the law's entry: the machine, the code, the tables' words (any of lw_tbl by 'hts w (by decide +kernel)'), the script of L ints xs at the cell b, what the Statement gives of the start (any of its parts by flat_of_before) -/
def lw_At (p : Program) (s : State) (m : MethodId) (meth : Method) (c : Code) (b L : Nat) (xs : Nat → Int32) : Prop :=
  p.tables.exec = Jvm.exec ∧ c.code = code ∧ meth.sig.returnType = ret ∧ c.maxLocals = 7 ∧ s.vm.findClass R_law = some m.cls ∧ (∀ w ∈ lw_tbl, w.before #[Value.ref b] s = true) ∧ va_X b L xs s s.heap ∧ b < s.heap.size ∧ meth.locks = false ∧ (Jvm.Cond.and given_1 narrow_1).before #[Value.ref b] s = true
abbrev K0 : S_BM := ((upd (fun _ => 0) 4 48, 0, ((fun _ => 0), (fun _ => 0)), ((fun _ => 0), (upd (upd (fun _ => 0) 0 65535) 1 65535), ((fun _ => 0), (fun _ => 0), (fun _ => 0)), (fun _ => 0))), ((fun _ => 0), (fun _ => 0)))
abbrev U0 : S_Model := (upd (upd (upd (upd (upd (upd (upd (upd (upd (upd (upd (upd (fun _ => 0) 12 65535) 13 65535) 5 0) 22 0) 19 0) 18 0) 17 0) 16 0) 15 0) 14 0) 20 0) 21 0, (fun _ => 0), (fun _ _ => 0))
theorem init_RM : RM 0 0 K0 U0 := ⟨rfl, rfl, rfl, rfl⟩
def zxx (zs : Nat → Nat) (A : Nat → Prop) (U : State) (H : Heap) : Prop := va_Zq "java/lang/Throwable" "UNASSIGNED_STACK" "[Ljava/lang/StackTraceElement;" A U H ∧ va_Zq "java/lang/Throwable" "SUPPRESSED_SENTINEL" "Ljava/util/List;" A U H ∧ vk_R RX8 34 "n is not 1 .. 8" (zs 0) U ∧ vk_R RX8 40 "not all addresses are 0 .. 65535" (zs 1) U ∧ vk_R RX8 55 "n is not 0 .. 100000" (zs 2) U ∧ vk_R RX8 88 "the address is not 0 .. 65535" (zs 3) U ∧ vk_R RX8 109 "i is not 0 .. 5" (zs 4) U ∧ va_Nw (.castable "java/lang/IllegalArgumentException" "java/lang/IllegalArgumentException") U ∧ va_Nw (.declares ⟨"java/lang/RuntimeException", "<init>", "(Ljava/lang/String;)V"⟩) U ∧ va_Nw (.declares ⟨"java/lang/Exception", "<init>", "(Ljava/lang/String;)V"⟩) U ∧ va_Nw (.declares ⟨"java/lang/Throwable", "<init>", "(Ljava/lang/String;)V"⟩) U
abbrev w_Law (h : Nat → Nat) (cI cJ : ClassId) (x : S_BM × S_Model × (Nat → Int64)) : va_W := w_BM h cI cJ x.1 ++ (w_Model h cI cJ x.2.1 ++ [(h 20, .inl (cJ, 1, .inr (.inl x.2.2)))])
theorem law_hts {b : Nat} {s : State} (hts : ∀ w ∈ lw_tbl, w.before #[Value.ref b] s = true) : ∀ w ∈ Cond.initialized RL :: tbl, w.before #[Value.ref b] s = true := by
  intro w hw
  rcases List.mem_cons.mp hw with rfl | h
  · exact hts _ (tbl_lw tw_1_0)
  · exact hts _ (tbl_lw h)
def Kont (p : Program) (l : Launch) (e : Env) (s : State) (m : MethodId) (below : List Frame) (meth : Method) (c : Code) (b : Nat) (dC : Nat → ClassId) (dI : Nat → Nat → Nat) (cI cJ : ClassId) (h : Nat → Nat) (x4 : Int32) (j : Nat) : Prop := ∀ (k : S_BM) (u : S_Model) (f : Nat → Int64) (tq : Int32) (H : Heap) (locs : List Loc) (ls : Array Slot), RM tq (600000 * (j + 1)) k u → va_P (dC, dI) vwCl (w_Law h cI cJ (k, u, f)) H → va_D (fun q : Nat => s.heap.size ≤ q) (w_Law h cI cJ (k, u, f)) → va_S (fun q : Nat => s.heap.size ≤ q) s.heap H locs → lv_has ls 7 [(0, .ref b), (1, .ref (h 0)), (2, .ref (h 13)), (3, .ref (h 20)), (4, .int x4)] → W p l e room_1 s m #[Value.ref b] below meth c H locs (21 + (j + 1)) (92976 + 6 * (j + 1)) (lw_Z below #[Value.ref b] s) (F0 m 571 ls [])

theorem vc_I (n : Nat) : ∀ cA : ClassId, vp_cell cA (n, .inl (fun _ => 0)) = arrV cA n (fun _ => defaultValue .int) := fun _ => rfl
theorem vc_J (n : Nat) : ∀ cA : ClassId, vp_cell cA (n, .inr (.inl (fun _ => 0))) = arrV cA n (fun _ => defaultValue .long) := fun _ => rfl
theorem tb_gI {n : Nat} {y : MethodName} {b : ByteArray} {r : Option FieldType} {hd : Cond} (h5 : Cond.code y b n r ∈ tbl) : GoodIn (hd :: tbl) (Cond.code y b n r :: tbl) := by
  intro w hw
  have hm : w ∈ tbl := by
    rcases List.mem_cons.mp hw with rfl | h
    · exact h5
    · exact h
  exact ⟨List.mem_cons_of_mem _ hm, good_of_word (tbl_good hm)⟩
def nst (U : State) : Prop := va_Nw (Cond.methodLinkNest RX8 9 yX0_init RX8) U ∧ va_Nw (Cond.methodLinkNest RX0 13 yX6_init RX8) U ∧ va_Nw (Cond.methodLinkNest RX0 20 yX4_init RX8) U ∧ va_Nw (Cond.methodLinkNest RX5 15 yX7_init RX8) U ∧ va_Nw (Cond.methodLinkNest RX8 27 yX1_init RX8) U
theorem nst.warm {s U : State} (hW : s.WarmedH U.vm) (h : nst s) : nst U := ⟨va_Nw.warmM hW h.1, va_Nw.warmM hW h.2.1, va_Nw.warmM hW h.2.2.1, va_Nw.warmM hW h.2.2.2.1, va_Nw.warmM hW h.2.2.2.2⟩
theorem nst.same {s U : State} (hv : U.vm = s.vm) (h : nst s) : nst U := ⟨h.1.same rfl hv.symm, h.2.1.same rfl hv.symm, h.2.2.1.same rfl hv.symm, h.2.2.2.1.same rfl hv.symm, h.2.2.2.2.same rfl hv.symm⟩
abbrev cpreK (dC : Nat → ClassId) (dI : Nat → Nat → Nat) (cI cJ : ClassId) (w : va_W) (sz : Nat) (U : State) : Prop := cpre dC dI cI cJ w sz U ∧ nst U
theorem cpreK_blind {av : List Value} {dC : Nat → ClassId} {dI : Nat → Nat → Nat} {cI cJ : ClassId} {w : va_W} {sz : Nat} : FrameBlind (va_Pc av (cpreK dC dI cI cJ w sz)) := fun a U g mk q => by
  obtain ⟨q0, ⟨q1, qP, qK, qD⟩, qN⟩ := q
  exact ⟨q0, ⟨q1, qP, va_K.moved (u := U) (U := U.calling g mk a) (Vm.Alike.refl U.vm) qK, qD⟩, nst.same (s := U) (U := U.calling g mk a) rfl qN⟩
theorem cpre_SK {s : State} {H : Heap} {dC : Nat → ClassId} {dI : Nat → Nat → Nat} {cI cJ : ClassId} {w : va_W} {A : Nat → Prop} {As : List Value} (hK : va_K (dC, dI) vwCl [(cI, .int), (cJ, .long)] s) (hP : va_P (dC, dI) vwCl w H) (hD : va_D A w) (hN : nst s) : PreS s H (va_Pc As (cpreK dC dI cI cJ w H.size)) As :=
  ⟨cpreK_blind, fun U hU hW => ⟨rfl, ⟨by rw [hU], by rw [hU]; exact hP, va_K.moved hW.alike hK, hD.weaken (fun _ _ _ _ => trivial)⟩, nst.warm hW hN⟩⟩
theorem c_X8_init (l : Launch) (dC : Nat → ClassId) (dI : Nat → Nat → Nat) (cI cJ : ClassId) (a : Nat) (sz : Nat) : Met l yX8_init wsX8_init ({ frames := 3, cells := 12, slots := 10647, locals := 53 }) (va_Pc [.ref a] (cpreK dC dI cI cJ [(a, .inr (7, [.null, .null, .null]))] sz)) (va_Qv (fun u : Nat → Nat => u 0 = a) (fun u => cpost dC dI cI cJ (va_A [(a, .inr (7, [.null, .null, .null]))] sz) (w_BM u cI cJ ((upd (fun _ => 0) 4 48, 0, ((fun _ => 0), (fun _ => 0)), ((fun _ => 0), (upd (upd (fun _ => 0) 0 65535) 1 65535), ((fun _ => 0), (fun _ => 0), (fun _ => 0)), (fun _ => 0))), ((fun _ => 0), (fun _ => 0))))) (va_A [(a, .inr (7, [.null, .null, .null]))] sz)) 12 10647 (va_A [(a, .inr (7, [.null, .null, .null]))] sz) := by sorry
theorem c_X9_init (l : Launch) (dC : Nat → ClassId) (dI : Nat → Nat → Nat) (cI cJ : ClassId) (a : Nat) (sz : Nat) : Met l yX9_init wsX9_init ({ frames := 1, cells := 6, slots := 82292, locals := 20 }) (va_Pc [.ref a] (cpre dC dI cI cJ [(a, .inr (8, [.int 0, .null, .null, .int 0, .int 0, .int 0, .int 0, .int 0, .int 0, .int 0, .int 0, .int 0, .int 0, .int 0, .int 0, .int 0, .int 0, .int 0, .int 0, .int 0, .int 0, .int 0, .int 0, .int 0, .null, .null, .long 0, .long 0, .long 0, .int 0, .int 0, .null, .null]))] sz)) (va_Qv (fun u : Nat → Nat => u 13 = a) (fun u => cpost dC dI cI cJ (va_A [(a, .inr (8, [.int 0, .null, .null, .int 0, .int 0, .int 0, .int 0, .int 0, .int 0, .int 0, .int 0, .int 0, .int 0, .int 0, .int 0, .int 0, .int 0, .int 0, .int 0, .int 0, .int 0, .int 0, .int 0, .int 0, .null, .null, .long 0, .long 0, .long 0, .int 0, .int 0, .null, .null]))] sz) (w_Model u cI cJ (upd (upd (upd (upd (upd (upd (upd (upd (upd (upd (upd (upd (fun _ => 0) 12 65535) 13 65535) 5 0) 22 0) 19 0) 18 0) 17 0) 16 0) 15 0) 14 0) 20 0) 21 0, (fun _ => 0), (fun _ _ => 0)))) (va_A [(a, .inr (8, [.int 0, .null, .null, .int 0, .int 0, .int 0, .int 0, .int 0, .int 0, .int 0, .int 0, .int 0, .int 0, .int 0, .int 0, .int 0, .int 0, .int 0, .int 0, .int 0, .int 0, .int 0, .int 0, .int 0, .null, .null, .long 0, .long 0, .long 0, .int 0, .int 0, .null, .null]))] sz)) 6 82292 (va_A [(a, .inr (8, [.int 0, .null, .null, .int 0, .int 0, .int 0, .int 0, .int 0, .int 0, .int 0, .int 0, .int 0, .int 0, .int 0, .int 0, .int 0, .int 0, .int 0, .int 0, .int 0, .int 0, .int 0, .int 0, .int 0, .null, .null, .long 0, .long 0, .long 0, .int 0, .int 0, .null, .null]))] sz) := by sorry
theorem law_load {p : Program} {e : Env} {s : State} {m : MethodId} {below : List Frame} {meth : Method} {c : Code} {l : Launch} (hl9 : l.stackTraces = false) {b L : Nat} {xs : Nat → Int32} (hL : L ≤ 2560) (C0 : lw_At p s m meth c b L xs) {dC : Nat → ClassId} {dI : Nat → Nat → Nat} {cI cJ : ClassId} {h tt zs : Nat → Nat} (hK : va_K (dC, dI) vwCl [(cI, .int), (cJ, .long)] s) (hT : cstat tt (fun q : Nat => s.heap.size ≤ q) s s.heap) (hZ : zxx zs (fun q : Nat => s.heap.size ≤ q) s s.heap) {j : Nat} {x4 : Int32} (hj : 5 * j + 5 ≤ L) (ex4 : x4 = nI (5 * j)) (kont : Kont p l e s m below meth c b dC dI cI cJ h x4 j) {k : S_BM} {u : S_Model} {f : Nat → Int64} {tq : Int32} (hR : RM tq (600000 * j) k u) {H : Heap} {locs : List Loc} (hP : va_P (dC, dI) vwCl (w_Law h cI cJ (k, u, f)) H) (hD : va_D (fun q : Nat => s.heap.size ≤ q) (w_Law h cI cJ (k, u, f))) (hS : va_S (fun q : Nat => s.heap.size ≤ q) s.heap H locs) {ls : Array Slot} (hl : lv_has ls 7 [(0, .ref b), (1, .ref (h 0)), (2, .ref (h 13)), (3, .ref (h 20)), (4, .int x4)]) : W p l e room_1 s m #[Value.ref b] below meth c H locs (21 + j) (92976 + 6 * j) (lw_Z below #[Value.ref b] s) (F0 m 108 ls []) := by sorry
theorem law_reset {p : Program} {e : Env} {s : State} {m : MethodId} {below : List Frame} {meth : Method} {c : Code} {l : Launch} (hl9 : l.stackTraces = false) {b L : Nat} {xs : Nat → Int32} (hL : L ≤ 2560) (C0 : lw_At p s m meth c b L xs) {dC : Nat → ClassId} {dI : Nat → Nat → Nat} {cI cJ : ClassId} {h tt zs : Nat → Nat} (hK : va_K (dC, dI) vwCl [(cI, .int), (cJ, .long)] s) (hT : cstat tt (fun q : Nat => s.heap.size ≤ q) s s.heap) (hZ : zxx zs (fun q : Nat => s.heap.size ≤ q) s s.heap) {j : Nat} {x4 : Int32} (hj : 5 * j + 5 ≤ L) (ex4 : x4 = nI (5 * j)) (kont : Kont p l e s m below meth c b dC dI cI cJ h x4 j) {k : S_BM} {u : S_Model} {f : Nat → Int64} {tq : Int32} (hR : RM tq (600000 * j) k u) {H : Heap} {locs : List Loc} (hP : va_P (dC, dI) vwCl (w_Law h cI cJ (k, u, f)) H) (hD : va_D (fun q : Nat => s.heap.size ≤ q) (w_Law h cI cJ (k, u, f))) (hS : va_S (fun q : Nat => s.heap.size ≤ q) s.heap H locs) {ls : Array Slot} (hl : lv_has ls 7 [(0, .ref b), (1, .ref (h 0)), (2, .ref (h 13)), (3, .ref (h 20)), (4, .int x4)]) : W p l e room_1 s m #[Value.ref b] below meth c H locs (21 + j) (92976 + 6 * j) (lw_Z below #[Value.ref b] s) (F0 m 200 ls []) := by sorry
theorem law_step {p : Program} {e : Env} {s : State} {m : MethodId} {below : List Frame} {meth : Method} {c : Code} {l : Launch} (hl9 : l.stackTraces = false) {b L : Nat} {xs : Nat → Int32} (hL : L ≤ 2560) (C0 : lw_At p s m meth c b L xs) {dC : Nat → ClassId} {dI : Nat → Nat → Nat} {cI cJ : ClassId} {h tt zs : Nat → Nat} (hK : va_K (dC, dI) vwCl [(cI, .int), (cJ, .long)] s) (hT : cstat tt (fun q : Nat => s.heap.size ≤ q) s s.heap) (hZ : zxx zs (fun q : Nat => s.heap.size ≤ q) s s.heap) {j : Nat} {x4 : Int32} (hj : 5 * j + 5 ≤ L) (ex4 : x4 = nI (5 * j)) (kont : Kont p l e s m below meth c b dC dI cI cJ h x4 j) {k : S_BM} {u : S_Model} {f : Nat → Int64} {tq : Int32} (hR : RM tq (600000 * j) k u) {H : Heap} {locs : List Loc} (hP : va_P (dC, dI) vwCl (w_Law h cI cJ (k, u, f)) H) (hD : va_D (fun q : Nat => s.heap.size ≤ q) (w_Law h cI cJ (k, u, f))) (hS : va_S (fun q : Nat => s.heap.size ≤ q) s.heap H locs) {ls : Array Slot} (hl : lv_has ls 7 [(0, .ref b), (1, .ref (h 0)), (2, .ref (h 13)), (3, .ref (h 20)), (4, .int x4)]) : W p l e room_1 s m #[Value.ref b] below meth c H locs (21 + j) (92976 + 6 * j) (lw_Z below #[Value.ref b] s) (F0 m 211 ls []) := by sorry
theorem law_run {p : Program} {e : Env} {s : State} {m : MethodId} {below : List Frame} {meth : Method} {c : Code} {l : Launch} (hl9 : l.stackTraces = false) {b L : Nat} {xs : Nat → Int32} (hL : L ≤ 2560) (C0 : lw_At p s m meth c b L xs) {dC : Nat → ClassId} {dI : Nat → Nat → Nat} {cI cJ : ClassId} {h tt zs : Nat → Nat} (hK : va_K (dC, dI) vwCl [(cI, .int), (cJ, .long)] s) (hT : cstat tt (fun q : Nat => s.heap.size ≤ q) s s.heap) (hZ : zxx zs (fun q : Nat => s.heap.size ≤ q) s s.heap) {j : Nat} {x4 : Int32} (hj : 5 * j + 5 ≤ L) (ex4 : x4 = nI (5 * j)) (kont : Kont p l e s m below meth c b dC dI cI cJ h x4 j) {k : S_BM} {u : S_Model} {f : Nat → Int64} {tq : Int32} (hR : RM tq (600000 * j) k u) {H : Heap} {locs : List Loc} (hP : va_P (dC, dI) vwCl (w_Law h cI cJ (k, u, f)) H) (hD : va_D (fun q : Nat => s.heap.size ≤ q) (w_Law h cI cJ (k, u, f))) (hS : va_S (fun q : Nat => s.heap.size ≤ q) s.heap H locs) {ls : Array Slot} (hl : lv_has ls 7 [(0, .ref b), (1, .ref (h 0)), (2, .ref (h 13)), (3, .ref (h 20)), (4, .int x4)]) : W p l e room_1 s m #[Value.ref b] below meth c H locs (21 + j) (92976 + 6 * j) (lw_Z below #[Value.ref b] s) (F0 m 224 ls []) := by sorry
theorem law_nmi {p : Program} {e : Env} {s : State} {m : MethodId} {below : List Frame} {meth : Method} {c : Code} {l : Launch} (hl9 : l.stackTraces = false) {b L : Nat} {xs : Nat → Int32} (hL : L ≤ 2560) (C0 : lw_At p s m meth c b L xs) {dC : Nat → ClassId} {dI : Nat → Nat → Nat} {cI cJ : ClassId} {h tt zs : Nat → Nat} (hK : va_K (dC, dI) vwCl [(cI, .int), (cJ, .long)] s) (hT : cstat tt (fun q : Nat => s.heap.size ≤ q) s s.heap) (hZ : zxx zs (fun q : Nat => s.heap.size ≤ q) s s.heap) {j : Nat} {x4 : Int32} (hj : 5 * j + 5 ≤ L) (ex4 : x4 = nI (5 * j)) (kont : Kont p l e s m below meth c b dC dI cI cJ h x4 j) {k : S_BM} {u : S_Model} {f : Nat → Int64} {tq : Int32} (hR : RM tq (600000 * j) k u) {H : Heap} {locs : List Loc} (hP : va_P (dC, dI) vwCl (w_Law h cI cJ (k, u, f)) H) (hD : va_D (fun q : Nat => s.heap.size ≤ q) (w_Law h cI cJ (k, u, f))) (hS : va_S (fun q : Nat => s.heap.size ≤ q) s.heap H locs) {ls : Array Slot} (hl : lv_has ls 7 [(0, .ref b), (1, .ref (h 0)), (2, .ref (h 13)), (3, .ref (h 20)), (4, .int x4)]) : W p l e room_1 s m #[Value.ref b] below meth c H locs (21 + j) (92976 + 6 * j) (lw_Z below #[Value.ref b] s) (F0 m 280 ls []) := by sorry
theorem law_receive {p : Program} {e : Env} {s : State} {m : MethodId} {below : List Frame} {meth : Method} {c : Code} {l : Launch} (hl9 : l.stackTraces = false) {b L : Nat} {xs : Nat → Int32} (hL : L ≤ 2560) (C0 : lw_At p s m meth c b L xs) {dC : Nat → ClassId} {dI : Nat → Nat → Nat} {cI cJ : ClassId} {h tt zs : Nat → Nat} (hK : va_K (dC, dI) vwCl [(cI, .int), (cJ, .long)] s) (hT : cstat tt (fun q : Nat => s.heap.size ≤ q) s s.heap) (hZ : zxx zs (fun q : Nat => s.heap.size ≤ q) s s.heap) {j : Nat} {x4 : Int32} (hj : 5 * j + 5 ≤ L) (ex4 : x4 = nI (5 * j)) (kont : Kont p l e s m below meth c b dC dI cI cJ h x4 j) {k : S_BM} {u : S_Model} {f : Nat → Int64} {tq : Int32} (hR : RM tq (600000 * j) k u) {H : Heap} {locs : List Loc} (hP : va_P (dC, dI) vwCl (w_Law h cI cJ (k, u, f)) H) (hD : va_D (fun q : Nat => s.heap.size ≤ q) (w_Law h cI cJ (k, u, f))) (hS : va_S (fun q : Nat => s.heap.size ≤ q) s.heap H locs) {ls : Array Slot} (hl : lv_has ls 7 [(0, .ref b), (1, .ref (h 0)), (2, .ref (h 13)), (3, .ref (h 20)), (4, .int x4)]) : W p l e room_1 s m #[Value.ref b] below meth c H locs (21 + j) (92976 + 6 * j) (lw_Z below #[Value.ref b] s) (F0 m 291 ls []) := by sorry
theorem law_sent {p : Program} {e : Env} {s : State} {m : MethodId} {below : List Frame} {meth : Method} {c : Code} {l : Launch} (hl9 : l.stackTraces = false) {b L : Nat} {xs : Nat → Int32} (hL : L ≤ 2560) (C0 : lw_At p s m meth c b L xs) {dC : Nat → ClassId} {dI : Nat → Nat → Nat} {cI cJ : ClassId} {h tt zs : Nat → Nat} (hK : va_K (dC, dI) vwCl [(cI, .int), (cJ, .long)] s) (hT : cstat tt (fun q : Nat => s.heap.size ≤ q) s s.heap) (hZ : zxx zs (fun q : Nat => s.heap.size ≤ q) s s.heap) {j : Nat} {x4 : Int32} (hj : 5 * j + 5 ≤ L) (ex4 : x4 = nI (5 * j)) (kont : Kont p l e s m below meth c b dC dI cI cJ h x4 j) {k : S_BM} {u : S_Model} {f : Nat → Int64} {tq : Int32} (hR : RM tq (600000 * j) k u) {H : Heap} {locs : List Loc} (hP : va_P (dC, dI) vwCl (w_Law h cI cJ (k, u, f)) H) (hD : va_D (fun q : Nat => s.heap.size ≤ q) (w_Law h cI cJ (k, u, f))) (hS : va_S (fun q : Nat => s.heap.size ≤ q) s.heap H locs) {ls : Array Slot} (hl : lv_has ls 7 [(0, .ref b), (1, .ref (h 0)), (2, .ref (h 13)), (3, .ref (h 20)), (4, .int x4)]) : W p l e room_1 s m #[Value.ref b] below meth c H locs (21 + j) (92976 + 6 * j) (lw_Z below #[Value.ref b] s) (F0 m 316 ls []) := by sorry
theorem law_look {p : Program} {e : Env} {s : State} {m : MethodId} {below : List Frame} {meth : Method} {c : Code} {l : Launch} (hl9 : l.stackTraces = false) {b L : Nat} {xs : Nat → Int32} (hL : L ≤ 2560) (C0 : lw_At p s m meth c b L xs) {dC : Nat → ClassId} {dI : Nat → Nat → Nat} {cI cJ : ClassId} {h tt zs : Nat → Nat} (hK : va_K (dC, dI) vwCl [(cI, .int), (cJ, .long)] s) (hT : cstat tt (fun q : Nat => s.heap.size ≤ q) s s.heap) (hZ : zxx zs (fun q : Nat => s.heap.size ≤ q) s s.heap) {j : Nat} {x4 : Int32} (hj : 5 * j + 5 ≤ L) (ex4 : x4 = nI (5 * j)) (kont : Kont p l e s m below meth c b dC dI cI cJ h x4 j) {k : S_BM} {u : S_Model} {f : Nat → Int64} {tq : Int32} (hR : RM tq (600000 * j) k u) {H : Heap} {locs : List Loc} (hP : va_P (dC, dI) vwCl (w_Law h cI cJ (k, u, f)) H) (hD : va_D (fun q : Nat => s.heap.size ≤ q) (w_Law h cI cJ (k, u, f))) (hS : va_S (fun q : Nat => s.heap.size ≤ q) s.heap H locs) {ls : Array Slot} (hl : lv_has ls 7 [(0, .ref b), (1, .ref (h 0)), (2, .ref (h 13)), (3, .ref (h 20)), (4, .int x4)]) : W p l e room_1 s m #[Value.ref b] below meth c H locs (21 + j) (92976 + 6 * j) (lw_Z below #[Value.ref b] s) (F0 m 341 ls []) := by sorry
theorem law_register {p : Program} {e : Env} {s : State} {m : MethodId} {below : List Frame} {meth : Method} {c : Code} {l : Launch} (hl9 : l.stackTraces = false) {b L : Nat} {xs : Nat → Int32} (hL : L ≤ 2560) (C0 : lw_At p s m meth c b L xs) {dC : Nat → ClassId} {dI : Nat → Nat → Nat} {cI cJ : ClassId} {h tt zs : Nat → Nat} (hK : va_K (dC, dI) vwCl [(cI, .int), (cJ, .long)] s) (hT : cstat tt (fun q : Nat => s.heap.size ≤ q) s s.heap) (hZ : zxx zs (fun q : Nat => s.heap.size ≤ q) s s.heap) {j : Nat} {x4 : Int32} (hj : 5 * j + 5 ≤ L) (ex4 : x4 = nI (5 * j)) (kont : Kont p l e s m below meth c b dC dI cI cJ h x4 j) {k : S_BM} {u : S_Model} {f : Nat → Int64} {tq : Int32} (hR : RM tq (600000 * j) k u) {H : Heap} {locs : List Loc} (hP : va_P (dC, dI) vwCl (w_Law h cI cJ (k, u, f)) H) (hD : va_D (fun q : Nat => s.heap.size ≤ q) (w_Law h cI cJ (k, u, f))) (hS : va_S (fun q : Nat => s.heap.size ≤ q) s.heap H locs) {ls : Array Slot} (hl : lv_has ls 7 [(0, .ref b), (1, .ref (h 0)), (2, .ref (h 13)), (3, .ref (h 20)), (4, .int x4)]) : W p l e room_1 s m #[Value.ref b] below meth c H locs (21 + j) (92976 + 6 * j) (lw_Z below #[Value.ref b] s) (F0 m 397 ls []) := by sorry
theorem law_set {p : Program} {e : Env} {s : State} {m : MethodId} {below : List Frame} {meth : Method} {c : Code} {l : Launch} (hl9 : l.stackTraces = false) {b L : Nat} {xs : Nat → Int32} (hL : L ≤ 2560) (C0 : lw_At p s m meth c b L xs) {dC : Nat → ClassId} {dI : Nat → Nat → Nat} {cI cJ : ClassId} {h tt zs : Nat → Nat} (hK : va_K (dC, dI) vwCl [(cI, .int), (cJ, .long)] s) (hT : cstat tt (fun q : Nat => s.heap.size ≤ q) s s.heap) (hZ : zxx zs (fun q : Nat => s.heap.size ≤ q) s s.heap) {j : Nat} {x4 : Int32} (hj : 5 * j + 5 ≤ L) (ex4 : x4 = nI (5 * j)) (kont : Kont p l e s m below meth c b dC dI cI cJ h x4 j) {k : S_BM} {u : S_Model} {f : Nat → Int64} {tq : Int32} (hR : RM tq (600000 * j) k u) {H : Heap} {locs : List Loc} (hP : va_P (dC, dI) vwCl (w_Law h cI cJ (k, u, f)) H) (hD : va_D (fun q : Nat => s.heap.size ≤ q) (w_Law h cI cJ (k, u, f))) (hS : va_S (fun q : Nat => s.heap.size ≤ q) s.heap H locs) {ls : Array Slot} (hl : lv_has ls 7 [(0, .ref b), (1, .ref (h 0)), (2, .ref (h 13)), (3, .ref (h 20)), (4, .int x4)]) : W p l e room_1 s m #[Value.ref b] below meth c H locs (21 + j) (92976 + 6 * j) (lw_Z below #[Value.ref b] s) (F0 m 422 ls []) := by sorry
theorem law_setBreak {p : Program} {e : Env} {s : State} {m : MethodId} {below : List Frame} {meth : Method} {c : Code} {l : Launch} (hl9 : l.stackTraces = false) {b L : Nat} {xs : Nat → Int32} (hL : L ≤ 2560) (C0 : lw_At p s m meth c b L xs) {dC : Nat → ClassId} {dI : Nat → Nat → Nat} {cI cJ : ClassId} {h tt zs : Nat → Nat} (hK : va_K (dC, dI) vwCl [(cI, .int), (cJ, .long)] s) (hT : cstat tt (fun q : Nat => s.heap.size ≤ q) s s.heap) (hZ : zxx zs (fun q : Nat => s.heap.size ≤ q) s s.heap) {j : Nat} {x4 : Int32} (hj : 5 * j + 5 ≤ L) (ex4 : x4 = nI (5 * j)) (kont : Kont p l e s m below meth c b dC dI cI cJ h x4 j) {k : S_BM} {u : S_Model} {f : Nat → Int64} {tq : Int32} (hR : RM tq (600000 * j) k u) {H : Heap} {locs : List Loc} (hP : va_P (dC, dI) vwCl (w_Law h cI cJ (k, u, f)) H) (hD : va_D (fun q : Nat => s.heap.size ≤ q) (w_Law h cI cJ (k, u, f))) (hS : va_S (fun q : Nat => s.heap.size ≤ q) s.heap H locs) {ls : Array Slot} (hl : lv_has ls 7 [(0, .ref b), (1, .ref (h 0)), (2, .ref (h 13)), (3, .ref (h 20)), (4, .int x4)]) : W p l e room_1 s m #[Value.ref b] below meth c H locs (21 + j) (92976 + 6 * j) (lw_Z below #[Value.ref b] s) (F0 m 470 ls []) := by sorry
theorem law_clearBreak {p : Program} {e : Env} {s : State} {m : MethodId} {below : List Frame} {meth : Method} {c : Code} {l : Launch} (hl9 : l.stackTraces = false) {b L : Nat} {xs : Nat → Int32} (hL : L ≤ 2560) (C0 : lw_At p s m meth c b L xs) {dC : Nat → ClassId} {dI : Nat → Nat → Nat} {cI cJ : ClassId} {h tt zs : Nat → Nat} (hK : va_K (dC, dI) vwCl [(cI, .int), (cJ, .long)] s) (hT : cstat tt (fun q : Nat => s.heap.size ≤ q) s s.heap) (hZ : zxx zs (fun q : Nat => s.heap.size ≤ q) s s.heap) {j : Nat} {x4 : Int32} (hj : 5 * j + 5 ≤ L) (ex4 : x4 = nI (5 * j)) (kont : Kont p l e s m below meth c b dC dI cI cJ h x4 j) {k : S_BM} {u : S_Model} {f : Nat → Int64} {tq : Int32} (hR : RM tq (600000 * j) k u) {H : Heap} {locs : List Loc} (hP : va_P (dC, dI) vwCl (w_Law h cI cJ (k, u, f)) H) (hD : va_D (fun q : Nat => s.heap.size ≤ q) (w_Law h cI cJ (k, u, f))) (hS : va_S (fun q : Nat => s.heap.size ≤ q) s.heap H locs) {ls : Array Slot} (hl : lv_has ls 7 [(0, .ref b), (1, .ref (h 0)), (2, .ref (h 13)), (3, .ref (h 20)), (4, .int x4)]) : W p l e room_1 s m #[Value.ref b] below meth c H locs (21 + j) (92976 + 6 * j) (lw_Z below #[Value.ref b] s) (F0 m 495 ls []) := by sorry
theorem law_trace {p : Program} {e : Env} {s : State} {m : MethodId} {below : List Frame} {meth : Method} {c : Code} {l : Launch} (hl9 : l.stackTraces = false) {b L : Nat} {xs : Nat → Int32} (hL : L ≤ 2560) (C0 : lw_At p s m meth c b L xs) {dC : Nat → ClassId} {dI : Nat → Nat → Nat} {cI cJ : ClassId} {h tt zs : Nat → Nat} (hK : va_K (dC, dI) vwCl [(cI, .int), (cJ, .long)] s) (hT : cstat tt (fun q : Nat => s.heap.size ≤ q) s s.heap) (hZ : zxx zs (fun q : Nat => s.heap.size ≤ q) s s.heap) {j : Nat} {x4 : Int32} (hj : 5 * j + 5 ≤ L) (ex4 : x4 = nI (5 * j)) (kont : Kont p l e s m below meth c b dC dI cI cJ h x4 j) {k : S_BM} {u : S_Model} {f : Nat → Int64} {tq : Int32} (hR : RM tq (600000 * j) k u) {H : Heap} {locs : List Loc} (hP : va_P (dC, dI) vwCl (w_Law h cI cJ (k, u, f)) H) (hD : va_D (fun q : Nat => s.heap.size ≤ q) (w_Law h cI cJ (k, u, f))) (hS : va_S (fun q : Nat => s.heap.size ≤ q) s.heap H locs) {ls : Array Slot} (hl : lv_has ls 7 [(0, .ref b), (1, .ref (h 0)), (2, .ref (h 13)), (3, .ref (h 20)), (4, .int x4)]) : W p l e room_1 s m #[Value.ref b] below meth c H locs (21 + j) (92976 + 6 * j) (lw_Z below #[Value.ref b] s) (F0 m 520 ls []) := by sorry
theorem law_count {p : Program} {e : Env} {s : State} {m : MethodId} {below : List Frame} {meth : Method} {c : Code} {l : Launch} (hl9 : l.stackTraces = false) {b L : Nat} {xs : Nat → Int32} (hL : L ≤ 2560) (C0 : lw_At p s m meth c b L xs) {dC : Nat → ClassId} {dI : Nat → Nat → Nat} {cI cJ : ClassId} {h tt zs : Nat → Nat} (hK : va_K (dC, dI) vwCl [(cI, .int), (cJ, .long)] s) (hT : cstat tt (fun q : Nat => s.heap.size ≤ q) s s.heap) (hZ : zxx zs (fun q : Nat => s.heap.size ≤ q) s s.heap) {j : Nat} {x4 : Int32} (hj : 5 * j + 5 ≤ L) (ex4 : x4 = nI (5 * j)) (kont : Kont p l e s m below meth c b dC dI cI cJ h x4 j) {k : S_BM} {u : S_Model} {f : Nat → Int64} {tq : Int32} (hR : RM tq (600000 * j) k u) {H : Heap} {locs : List Loc} (hP : va_P (dC, dI) vwCl (w_Law h cI cJ (k, u, f)) H) (hD : va_D (fun q : Nat => s.heap.size ≤ q) (w_Law h cI cJ (k, u, f))) (hS : va_S (fun q : Nat => s.heap.size ≤ q) s.heap H locs) {ls : Array Slot} (hl : lv_has ls 7 [(0, .ref b), (1, .ref (h 0)), (2, .ref (h 13)), (3, .ref (h 20)), (4, .int x4)]) : W p l e room_1 s m #[Value.ref b] below meth c H locs (21 + j) (92976 + 6 * j) (lw_Z below #[Value.ref b] s) (F0 m 545 ls []) := by sorry
set_option maxHeartbeats 4000000 in
set_option maxRecDepth 100000 in
theorem law_pass {p : Program} {e : Env} {s : State} {m : MethodId} {below : List Frame} {meth : Method} {c : Code} {l : Launch} (hl9 : l.stackTraces = false) {b L : Nat} {xs : Nat → Int32} (hL : L ≤ 2560) (C0 : lw_At p s m meth c b L xs) {dC : Nat → ClassId} {dI : Nat → Nat → Nat} {cI cJ : ClassId} {h tt zs : Nat → Nat} (hK : va_K (dC, dI) vwCl [(cI, .int), (cJ, .long)] s) (hT : cstat tt (fun q : Nat => s.heap.size ≤ q) s s.heap) (hZ : zxx zs (fun q : Nat => s.heap.size ≤ q) s s.heap) {j : Nat} {x4 : Int32} (hj : 5 * j ≤ L) (ex4 : x4 = nI (5 * j)) (kk : 5 * j + 5 ≤ L → Kont p l e s m below meth c b dC dI cI cJ h x4 j) {k : S_BM} {u : S_Model} {f : Nat → Int64} {tq : Int32} (hR : RM tq (600000 * j) k u) {H : Heap} {locs : List Loc} (hP : va_P (dC, dI) vwCl (w_Law h cI cJ (k, u, f)) H) (hD : va_D (fun q : Nat => s.heap.size ≤ q) (w_Law h cI cJ (k, u, f))) (hS : va_S (fun q : Nat => s.heap.size ≤ q) s.heap H locs) {ls : Array Slot} (hl : lv_has ls 7 [(0, .ref b), (1, .ref (h 0)), (2, .ref (h 13)), (3, .ref (h 20)), (4, .int x4)]) : W p l e room_1 s m #[Value.ref b] below meth c H locs (21 + j) (92976 + 6 * j) (lw_Z below #[Value.ref b] s) (F0 m 23 ls []) := by
  obtain ⟨hx, hb, hr, hml, hown, hts0, hX, hbl, hlocks, hgv⟩ := id C0
  have hbA : ¬ (fun q : Nat => s.heap.size ≤ q) b := Nat.not_le.mpr hbl
  refine lv_iload hx hb dL_law_23 (lv_at hl 4 rfl) ?_
  refine lv_aload_n hx hb dL_law_25 rfl (lv_at hl 0 rfl) ?_
  refine va_slen hx hb hX hbl hbA hS dL_law_26 ?_
  refine lv_iconst (v := 5) hx hb dL_law_27 (by decide) ?_
  refine lv_isub hx hb dL_law_28 ?_
  refine lv_icmp_gt (tgt := 577) hx hb dL_law_29 (by decide) (fun c9 => ?_) (fun c9 => ?_)
  · refine lv_iconst (v := 1) hx hb dL_law_577 (by decide) ?_
    refine va_forget hS.2.2 ?_
    refine W.widen (k := 601024) (n := 7293034) (by omega) (by omega) ?_
    exact lw_ret hx hb hr hlocks dL_law_578
  · have hj5 : 5 * j + 5 ≤ L := by
      have h1 : (nI L - nI 5).toInt = (L : Int) - ((5 : Nat) : Int) := pk_sub_toInt (by omega) (by omega)
      have h2 : (nI (5 * j)).toInt = ((5 * j : Nat) : Int) := nI_toInt (by omega)
      have h3 : ¬ (nI L - nI 5 < nI (5 * j)) := by rw [← ex4]; exact c9
      rw [Int32.lt_iff_toInt_lt, h1, h2] at h3
      omega
    have kont := kk hj5
    refine lv_aload_n hx hb dL_law_32 rfl (lv_at hl 0 rfl) ?_
    refine lv_iload hx hb dL_law_33 (lv_at hl 4 rfl) ?_
    refine va_sld hx hb hX hbl hbA hS (by rw [ex4]; exact vp_in_nI (by omega) (by omega)) dL_law_35 ?_
    refine lv_bipush (v := 15) hx hb dL_law_36 (by decide) ?_
    refine lv_iand hx hb dL_law_38 ?_
    refine lv_topi (fun w ew => ?_)
    clear ew
    by_cases c0 : w = 0
    · refine lv_tableIn (tgt := 108) (off := 69) hx hb dL_law_39 (by rw [c0]; decide) (by rw [c0]; decide) (by rw [c0]; decide) (by decide) ?_
      exact law_load hl9 hL C0 hK hT hZ hj5 ex4 kont hR hP hD hS hl
    by_cases c1 : w = 1
    · refine lv_tableIn (tgt := 200) (off := 161) hx hb dL_law_39 (by rw [c1]; decide) (by rw [c1]; decide) (by rw [c1]; decide) (by decide) ?_
      exact law_reset hl9 hL C0 hK hT hZ hj5 ex4 kont hR hP hD hS hl
    by_cases c2 : w = 2
    · refine lv_tableIn (tgt := 211) (off := 172) hx hb dL_law_39 (by rw [c2]; decide) (by rw [c2]; decide) (by rw [c2]; decide) (by decide) ?_
      exact law_step hl9 hL C0 hK hT hZ hj5 ex4 kont hR hP hD hS hl
    by_cases c3 : w = 3
    · refine lv_tableIn (tgt := 224) (off := 185) hx hb dL_law_39 (by rw [c3]; decide) (by rw [c3]; decide) (by rw [c3]; decide) (by decide) ?_
      exact law_run hl9 hL C0 hK hT hZ hj5 ex4 kont hR hP hD hS hl
    by_cases c4 : w = 4
    · refine lv_tableIn (tgt := 280) (off := 241) hx hb dL_law_39 (by rw [c4]; decide) (by rw [c4]; decide) (by rw [c4]; decide) (by decide) ?_
      exact law_nmi hl9 hL C0 hK hT hZ hj5 ex4 kont hR hP hD hS hl
    by_cases c5 : w = 5
    · refine lv_tableIn (tgt := 291) (off := 252) hx hb dL_law_39 (by rw [c5]; decide) (by rw [c5]; decide) (by rw [c5]; decide) (by decide) ?_
      exact law_receive hl9 hL C0 hK hT hZ hj5 ex4 kont hR hP hD hS hl
    by_cases c6 : w = 6
    · refine lv_tableIn (tgt := 316) (off := 277) hx hb dL_law_39 (by rw [c6]; decide) (by rw [c6]; decide) (by rw [c6]; decide) (by decide) ?_
      exact law_sent hl9 hL C0 hK hT hZ hj5 ex4 kont hR hP hD hS hl
    by_cases c7 : w = 7
    · refine lv_tableIn (tgt := 341) (off := 302) hx hb dL_law_39 (by rw [c7]; decide) (by rw [c7]; decide) (by rw [c7]; decide) (by decide) ?_
      exact law_look hl9 hL C0 hK hT hZ hj5 ex4 kont hR hP hD hS hl
    by_cases c8 : w = 8
    · refine lv_tableIn (tgt := 397) (off := 358) hx hb dL_law_39 (by rw [c8]; decide) (by rw [c8]; decide) (by rw [c8]; decide) (by decide) ?_
      exact law_register hl9 hL C0 hK hT hZ hj5 ex4 kont hR hP hD hS hl
    by_cases c9 : w = 9
    · refine lv_tableIn (tgt := 422) (off := 383) hx hb dL_law_39 (by rw [c9]; decide) (by rw [c9]; decide) (by rw [c9]; decide) (by decide) ?_
      exact law_set hl9 hL C0 hK hT hZ hj5 ex4 kont hR hP hD hS hl
    by_cases c10 : w = 10
    · refine lv_tableIn (tgt := 470) (off := 431) hx hb dL_law_39 (by rw [c10]; decide) (by rw [c10]; decide) (by rw [c10]; decide) (by decide) ?_
      exact law_setBreak hl9 hL C0 hK hT hZ hj5 ex4 kont hR hP hD hS hl
    by_cases c11 : w = 11
    · refine lv_tableIn (tgt := 495) (off := 456) hx hb dL_law_39 (by rw [c11]; decide) (by rw [c11]; decide) (by rw [c11]; decide) (by decide) ?_
      exact law_clearBreak hl9 hL C0 hK hT hZ hj5 ex4 kont hR hP hD hS hl
    by_cases c12 : w = 12
    · refine lv_tableIn (tgt := 520) (off := 481) hx hb dL_law_39 (by rw [c12]; decide) (by rw [c12]; decide) (by rw [c12]; decide) (by decide) ?_
      exact law_trace hl9 hL C0 hK hT hZ hj5 ex4 kont hR hP hD hS hl
    by_cases c13 : w = 13
    · refine lv_tableIn (tgt := 545) (off := 506) hx hb dL_law_39 (by rw [c13]; decide) (by rw [c13]; decide) (by rw [c13]; decide) (by decide) ?_
      exact law_count hl9 hL C0 hK hT hZ hj5 ex4 kont hR hP hD hS hl
    have kz : ∀ k ∈ ([0, 1, 2, 3, 4, 5, 6, 7, 8, 9, 10, 11, 12, 13] : List Int), w.toInt ≠ k := List.forall_mem_cons.mpr ⟨tb_ne c0 rfl, List.forall_mem_cons.mpr ⟨tb_ne c1 rfl, List.forall_mem_cons.mpr ⟨tb_ne c2 rfl, List.forall_mem_cons.mpr ⟨tb_ne c3 rfl, List.forall_mem_cons.mpr ⟨tb_ne c4 rfl, List.forall_mem_cons.mpr ⟨tb_ne c5 rfl, List.forall_mem_cons.mpr ⟨tb_ne c6 rfl, List.forall_mem_cons.mpr ⟨tb_ne c7 rfl, List.forall_mem_cons.mpr ⟨tb_ne c8 rfl, List.forall_mem_cons.mpr ⟨tb_ne c9 rfl, List.forall_mem_cons.mpr ⟨tb_ne c10 rfl, List.forall_mem_cons.mpr ⟨tb_ne c11 rfl, List.forall_mem_cons.mpr ⟨tb_ne c12 rfl, List.forall_mem_cons.mpr ⟨tb_ne c13 rfl, fun k h => absurd h List.not_mem_nil⟩⟩⟩⟩⟩⟩⟩⟩⟩⟩⟩⟩⟩⟩
    refine tb_def (tgt := 571) (keys := [0, 1, 2, 3, 4, 5, 6, 7, 8, 9, 10, 11, 12, 13]) hx hb dL_law_39 kz (by decide) (by decide) ?_
    refine W.widen (k := 21 + (j + 1)) (n := 92976 + 6 * (j + 1)) (by omega) (by omega) ?_
    exact kont k u f tq _ _ _ (hR.mono (by omega)) hP hD hS hl
set_option maxHeartbeats 4000000 in
set_option maxRecDepth 100000 in
theorem law_loop {p : Program} {e : Env} {s : State} {m : MethodId} {below : List Frame} {meth : Method} {c : Code} {l : Launch} (hl9 : l.stackTraces = false) {b L : Nat} {xs : Nat → Int32} (hL : L ≤ 2560) (C0 : lw_At p s m meth c b L xs) {dC : Nat → ClassId} {dI : Nat → Nat → Nat} {cI cJ : ClassId} {h tt zs : Nat → Nat} (hK : va_K (dC, dI) vwCl [(cI, .int), (cJ, .long)] s) (hT : cstat tt (fun q : Nat => s.heap.size ≤ q) s s.heap) (hZ : zxx zs (fun q : Nat => s.heap.size ≤ q) s s.heap) : ∀ (n j : Nat) (x4 : Int32), j + n = 512 → 5 * j ≤ L → x4 = nI (5 * j) → ∀ (k : S_BM) (u : S_Model) (f : Nat → Int64) (tq : Int32) (H : Heap) (locs : List Loc) (ls : Array Slot), RM tq (600000 * j) k u → va_P (dC, dI) vwCl (w_Law h cI cJ (k, u, f)) H → va_D (fun q : Nat => s.heap.size ≤ q) (w_Law h cI cJ (k, u, f)) → va_S (fun q : Nat => s.heap.size ≤ q) s.heap H locs → lv_has ls 7 [(0, .ref b), (1, .ref (h 0)), (2, .ref (h 13)), (3, .ref (h 20)), (4, .int x4)] → W p l e room_1 s m #[Value.ref b] below meth c H locs (21 + j) (92976 + 6 * j) (lw_Z below #[Value.ref b] s) (F0 m 23 ls []) := by
  intro n
  induction n with
  | zero =>
    intro j x4 hn hj ex4 k u f tq H locs ls hR hP hD hS hl
    exact law_pass hl9 hL C0 hK hT hZ hj ex4 (fun h5 => absurd h5 (by omega)) hR hP hD hS hl
  | succ n ih =>
    intro j x4 hn hj ex4 k u f tq H locs ls hR hP hD hS hl
    refine law_pass hl9 hL C0 hK hT hZ hj ex4 (fun h5 => ?_) hR hP hD hS hl
    intro k u f tq H locs ls hR hP hD hS hl
    obtain ⟨hx, hb, -⟩ := id C0
    refine lv_iinc (v := nI (5 * (j + 1))) (lv' := [(4, .int (nI (5 * (j + 1)))), (0, .ref b), (1, .ref (h 0)), (2, .ref (h 13)), (3, .ref (h 20))]) hx hb dL_law_571 hl (k := 4) rfl (by rw [ex4, show 5 * (j + 1) = 5 * j + 5 by omega]; exact nI_add (5 * j) 5) (by decide) rfl (fun ls hl => ?_)
    refine lv_goto (tgt := 23) hx hb dL_law_574 (by decide) ?_
    exact ih (j + 1) _ (by omega) (by omega) rfl k u f tq _ _ _ hR hP hD hS (lv_sub hl [1, 2, 3, 4, 0] rfl)

theorem lwt_1 {w : Cond} {i : Nat} (h : tables_1_1[i]? = some w) : w ∈ lw_tbl := List.mem_append_right _ (List.mem_append_left _ (List.mem_of_getElem? h))
theorem lwt_2 {w : Cond} {i : Nat} (h : tables_1_2[i]? = some w) : w ∈ lw_tbl := List.mem_append_right _ (List.mem_append_right _ (List.mem_append_left _ (List.mem_of_getElem? h)))
theorem lwt_3 {w : Cond} {i : Nat} (h : tables_1_3[i]? = some w) : w ∈ lw_tbl := List.mem_append_right _ (List.mem_append_right _ (List.mem_append_right _ (List.mem_append_left _ (List.mem_of_getElem? h))))
theorem lwt_4 {w : Cond} {i : Nat} (h : tables_1_4[i]? = some w) : w ∈ lw_tbl := List.mem_append_right _ (List.mem_append_right _ (List.mem_append_right _ (List.mem_append_right _ (List.mem_append_left _ (List.mem_of_getElem? h)))))
theorem lwt_5 {w : Cond} {i : Nat} (h : tables_1_5[i]? = some w) : w ∈ lw_tbl := List.mem_append_right _ (List.mem_append_right _ (List.mem_append_right _ (List.mem_append_right _ (List.mem_append_right _ (List.mem_of_getElem? h)))))
theorem lq_1_10 : Cond.initialized "java/lang/Throwable" ∈ lw_tbl := lwt_1 (i := 10) rfl
theorem lq_1_14 : Cond.initialized RX2 ∈ lw_tbl := lwt_1 (i := 14) rfl
theorem lq_1_17 : Cond.instantiable RX8 3 ∈ lw_tbl := lwt_1 (i := 17) rfl
theorem lq_1_26 : Cond.methodLinkNest RX8 9 yX0_init RX8 ∈ lw_tbl := lwt_1 (i := 26) rfl
theorem lq_1_32 : Cond.methodLinkNest RX0 13 yX6_init RX8 ∈ lw_tbl := lwt_1 (i := 32) rfl
theorem lq_1_72 : Cond.methodLinkNest RX0 20 yX4_init RX8 ∈ lw_tbl := lwt_1 (i := 72) rfl
theorem lq_1_135 : Cond.methodLinkNest RX5 15 yX7_init RX8 ∈ lw_tbl := lwt_1 (i := 135) rfl
theorem lq_1_207 : Cond.methodLinkNest RX8 27 yX1_init RX8 ∈ lw_tbl := lwt_1 (i := 207) rfl
theorem lq_2_129 : Cond.laysStatic RX2 "OPERATIONS" "[I" ∈ lw_tbl := lwt_2 (i := 129) rfl
theorem lq_2_131 : Cond.laysStatic RX2 "MODES" "[I" ∈ lw_tbl := lwt_2 (i := 131) rfl
theorem lq_2_145 : Cond.laysStatic RX2 "CYCLES" "[I" ∈ lw_tbl := lwt_2 (i := 145) rfl
theorem lq_3_75 : Cond.castable "java/lang/IllegalArgumentException" "java/lang/IllegalArgumentException" ∈ lw_tbl := lwt_3 (i := 75) rfl
theorem lq_3_77 : Cond.declares ⟨"java/lang/RuntimeException", "<init>", "(Ljava/lang/String;)V"⟩ ∈ lw_tbl := lwt_3 (i := 77) rfl
theorem lq_3_79 : Cond.declares ⟨"java/lang/Exception", "<init>", "(Ljava/lang/String;)V"⟩ ∈ lw_tbl := lwt_3 (i := 79) rfl
theorem lq_3_81 : Cond.declares ⟨"java/lang/Throwable", "<init>", "(Ljava/lang/String;)V"⟩ ∈ lw_tbl := lwt_3 (i := 81) rfl
theorem lq_3_100 : Cond.laysStatic "java/lang/Throwable" "UNASSIGNED_STACK" "[Ljava/lang/StackTraceElement;" ∈ lw_tbl := lwt_3 (i := 100) rfl
theorem lq_3_102 : Cond.laysStatic "java/lang/Throwable" "SUPPRESSED_SENTINEL" "Ljava/util/List;" ∈ lw_tbl := lwt_3 (i := 102) rfl
theorem lq_3_112 : Cond.stringRef RX8 34 "n is not 1 .. 8" ∈ lw_tbl := lwt_3 (i := 112) rfl
theorem lq_3_139 : Cond.stringRef RX8 40 "not all addresses are 0 .. 65535" ∈ lw_tbl := lwt_3 (i := 139) rfl
theorem lq_3_152 : Cond.stringRef RX8 55 "n is not 0 .. 100000" ∈ lw_tbl := lwt_3 (i := 152) rfl
theorem lq_3_161 : Cond.stringRef RX8 88 "the address is not 0 .. 65535" ∈ lw_tbl := lwt_3 (i := 161) rfl
theorem lq_3_174 : Cond.stringRef RX8 109 "i is not 0 .. 5" ∈ lw_tbl := lwt_3 (i := 174) rfl
theorem lw_runs {L : List Cond} {N p : Nat} {f : Nat → Cond} (h : (List.range N).map f = (L.drop p).take N) (j : Nat) (hj : j < N) : f j ∈ L := List.mem_of_mem_drop (List.mem_of_mem_take (h ▸ List.mem_map.mpr ⟨j, List.mem_range.mpr hj, rfl⟩))
set_option maxHeartbeats 4000000 in
set_option maxRecDepth 100000 in
theorem law_cstat {b : Nat} {s : State} (hts0 : ∀ w ∈ lw_tbl, w.before #[Value.ref b] s = true) (hgv : (Jvm.Cond.and given_1 narrow_1).before #[Value.ref b] s = true) : ∃ tt : Nat → Nat, cstat tt (fun q : Nat => s.heap.size ≤ q) s s.heap := by
  have hs := flat_of_before _ hgv
  have hA : ∀ a : Nat, a < s.heap.size → ¬ (fun q : Nat => s.heap.size ≤ q) a := fun a h9 => Nat.not_le.mpr h9
  have ha0 : (Cond.arrayOf (Jvm.Term.static "BoardMachine$Codes" "OPERATIONS" "[I") .int).before #[Value.ref b] s = true := hs _ (by decide +kernel)
  have hl0 : (Cond.eq (.length (Jvm.Term.static "BoardMachine$Codes" "OPERATIONS" "[I")) (.int (Int32.ofNat 256))).before #[Value.ref b] s = true := hs _ (by decide +kernel)
  have he0 : ∀ j : Nat, j < 256 → (Jvm.Cond.eq (Jvm.Term.elem (Jvm.Term.static "BoardMachine$Codes" "OPERATIONS" "[I") (Jvm.Term.int (Int32.ofNat j))) (Jvm.Term.int (tab 0 j))).before #[Value.ref b] s = true := fun j hj => hs _ (lw_runs (p := 7) (N := 256) (f := fun j => Jvm.Cond.eq (Jvm.Term.elem (Jvm.Term.static "BoardMachine$Codes" "OPERATIONS" "[I") (Jvm.Term.int (Int32.ofNat j))) (Jvm.Term.int (tab 0 j))) (by decide +kernel) j hj)
  obtain ⟨t0, ht0, hT0⟩ := va_Tof (f := fun j => .int (tab 0 j)) (N := 256) (A := (fun q : Nat => s.heap.size ≤ q)) (by decide) ha0 (va_eqt hl0) (fun j hj => va_eqt (he0 j hj)) hA
  have ha1 : (Cond.arrayOf (Jvm.Term.static "BoardMachine$Codes" "MODES" "[I") .int).before #[Value.ref b] s = true := hs _ (by decide +kernel)
  have hl1 : (Cond.eq (.length (Jvm.Term.static "BoardMachine$Codes" "MODES" "[I")) (.int (Int32.ofNat 256))).before #[Value.ref b] s = true := hs _ (by decide +kernel)
  have he1 : ∀ j : Nat, j < 256 → (Jvm.Cond.eq (Jvm.Term.elem (Jvm.Term.static "BoardMachine$Codes" "MODES" "[I") (Jvm.Term.int (Int32.ofNat j))) (Jvm.Term.int (tab 1 j))).before #[Value.ref b] s = true := fun j hj => hs _ (lw_runs (p := 266) (N := 256) (f := fun j => Jvm.Cond.eq (Jvm.Term.elem (Jvm.Term.static "BoardMachine$Codes" "MODES" "[I") (Jvm.Term.int (Int32.ofNat j))) (Jvm.Term.int (tab 1 j))) (by decide +kernel) j hj)
  obtain ⟨t1, ht1, hT1⟩ := va_Tof (f := fun j => .int (tab 1 j)) (N := 256) (A := (fun q : Nat => s.heap.size ≤ q)) (by decide) ha1 (va_eqt hl1) (fun j hj => va_eqt (he1 j hj)) hA
  have ha2 : (Cond.arrayOf (Jvm.Term.static "BoardMachine$Codes" "CYCLES" "[I") .int).before #[Value.ref b] s = true := hs _ (by decide +kernel)
  have hl2 : (Cond.eq (.length (Jvm.Term.static "BoardMachine$Codes" "CYCLES" "[I")) (.int (Int32.ofNat 256))).before #[Value.ref b] s = true := hs _ (by decide +kernel)
  have he2 : ∀ j : Nat, j < 256 → (Jvm.Cond.eq (Jvm.Term.elem (Jvm.Term.static "BoardMachine$Codes" "CYCLES" "[I") (Jvm.Term.int (Int32.ofNat j))) (Jvm.Term.int (tab 2 j))).before #[Value.ref b] s = true := fun j hj => hs _ (lw_runs (p := 525) (N := 256) (f := fun j => Jvm.Cond.eq (Jvm.Term.elem (Jvm.Term.static "BoardMachine$Codes" "CYCLES" "[I") (Jvm.Term.int (Int32.ofNat j))) (Jvm.Term.int (tab 2 j))) (by decide +kernel) j hj)
  obtain ⟨t2, ht2, hT2⟩ := va_Tof (f := fun j => .int (tab 2 j)) (N := 256) (A := (fun q : Nat => s.heap.size ≤ q)) (by decide) ha2 (va_eqt hl2) (fun j hj => va_eqt (he2 j hj)) hA
  exact ⟨fun i => match i with | 0 => t0 | 1 => t1 | _ => t2, ⟨va_Zref (hts0 _ lq_2_129) (hts0 _ lq_1_14) ht0 hA, hT0⟩, ⟨va_Zref (hts0 _ lq_2_131) (hts0 _ lq_1_14) ht1 hA, hT1⟩, ⟨va_Zref (hts0 _ lq_2_145) (hts0 _ lq_1_14) ht2 hA, hT2⟩⟩
set_option maxHeartbeats 4000000 in
set_option maxRecDepth 100000 in
theorem law_zxx {b : Nat} {s : State} (hts0 : ∀ w ∈ lw_tbl, w.before #[Value.ref b] s = true) (hgv : (Jvm.Cond.and given_1 narrow_1).before #[Value.ref b] s = true) : ∃ zs : Nat → Nat, zxx zs (fun q : Nat => s.heap.size ≤ q) s s.heap := by
  have hs := flat_of_before _ hgv
  have hA : ∀ a : Nat, a < s.heap.size → ¬ (fun q : Nat => s.heap.size ≤ q) a := fun a h9 => Nat.not_le.mpr h9
  obtain ⟨c9, k9, hc, -⟩ := Cond.instantiable_spec (hts0 _ lq_1_17)
  obtain ⟨-, -, -, a0, -, -, -, -, -, e0⟩ := Cond.stringRef_spec hc (hts0 _ lq_3_112)
  obtain ⟨-, -, -, a1, -, -, -, -, -, e1⟩ := Cond.stringRef_spec hc (hts0 _ lq_3_139)
  obtain ⟨-, -, -, a2, -, -, -, -, -, e2⟩ := Cond.stringRef_spec hc (hts0 _ lq_3_152)
  obtain ⟨-, -, -, a3, -, -, -, -, -, e3⟩ := Cond.stringRef_spec hc (hts0 _ lq_3_161)
  obtain ⟨-, -, -, a4, -, -, -, -, -, e4⟩ := Cond.stringRef_spec hc (hts0 _ lq_3_174)
  exact ⟨fun i => match i with | 0 => a0 | 1 => a1 | 2 => a2 | 3 => a3 | _ => a4, va_Zqof (hts0 _ lq_3_100) (hts0 _ lq_1_10) (hs _ (by decide +kernel)) hA, va_Zqof (hts0 _ lq_3_102) (hts0 _ lq_1_10) (hs _ (by decide +kernel)) hA, vk_R.of (hts0 _ lq_3_112) e0, vk_R.of (hts0 _ lq_3_139) e1, vk_R.of (hts0 _ lq_3_152) e2, vk_R.of (hts0 _ lq_3_161) e3, vk_R.of (hts0 _ lq_3_174) e4, va_Nw.of rfl (hts0 _ lq_3_75), va_Nw.of rfl (hts0 _ lq_3_77), va_Nw.of rfl (hts0 _ lq_3_79), va_Nw.of rfl (hts0 _ lq_3_81)⟩
theorem law_nst {b : Nat} {s : State} (hts0 : ∀ w ∈ lw_tbl, w.before #[Value.ref b] s = true) : nst s := ⟨va_Nw.of rfl (hts0 _ lq_1_26), va_Nw.of rfl (hts0 _ lq_1_32), va_Nw.of rfl (hts0 _ lq_1_72), va_Nw.of rfl (hts0 _ lq_1_135), va_Nw.of rfl (hts0 _ lq_1_207)⟩
set_option maxHeartbeats 4000000 in
set_option maxRecDepth 100000 in
theorem law_known {b : Nat} {s : State} (hts0 : ∀ w ∈ lw_tbl, w.before #[Value.ref b] s = true) : ∃ (dC : Nat → ClassId) (dI : Nat → Nat → Nat) (cI cJ : ClassId), va_K (dC, dI) vwCl [(cI, .int), (cJ, .long)] s := by
  have hts := law_hts hts0
  obtain ⟨c0, iS0, hKn0⟩ := u_known (C := RX0) (T := TX0) (N := 4) hts (fun w h => List.mem_cons_of_mem _ (in_X0 w h)) (hts _ (List.mem_cons_of_mem _ tw_1_25))
  obtain ⟨c1, iS1, hKn1⟩ := u_known (C := RX1) (T := TX1) (N := 2) hts (fun w h => List.mem_cons_of_mem _ (in_X1 w h)) (hts _ (List.mem_cons_of_mem _ tw_1_206))
  obtain ⟨c2, iS2, hKn2⟩ := u_known (C := RX3) (T := TX3) (N := 1) hts (fun w h => List.mem_cons_of_mem _ (in_X3 w h)) (hts _ (List.mem_cons_of_mem _ tw_1_99))
  obtain ⟨c3, iS3, hKn3⟩ := u_known (C := RX4) (T := TX4) (N := 6) hts (fun w h => List.mem_cons_of_mem _ (in_X4 w h)) (hts _ (List.mem_cons_of_mem _ tw_1_71))
  obtain ⟨c4, iS4, hKn4⟩ := u_known (C := RX5) (T := TX5) (N := 15) hts (fun w h => List.mem_cons_of_mem _ (in_X5 w h)) (hts _ (List.mem_cons_of_mem _ tw_1_128))
  obtain ⟨c5, iS5, hKn5⟩ := u_known (C := RX6) (T := TX6) (N := 9) hts (fun w h => List.mem_cons_of_mem _ (in_X6 w h)) (hts _ (List.mem_cons_of_mem _ tw_1_31))
  obtain ⟨c6, iS6, hKn6⟩ := u_known (C := RX7) (T := TX7) (N := 2) hts (fun w h => List.mem_cons_of_mem _ (in_X7 w h)) (hts _ (List.mem_cons_of_mem _ tw_1_134))
  obtain ⟨c7, iS7, hKn7⟩ := u_known (C := RX8) (T := TX8) (N := 3) hts (fun w h => List.mem_cons_of_mem _ (in_X8 w h)) (hts _ (List.mem_cons_of_mem _ tw_1_17))
  obtain ⟨c8, iS8, hKn8⟩ := u_known (C := RX9) (T := TX9) (N := 33) hts (fun w h => List.mem_cons_of_mem _ (in_X9 w h)) (hts _ (List.mem_cons_of_mem _ tw_3_176))
  obtain ⟨cI, kI, pI, h1, h2, h3⟩ := Cond.arrayClass_spec (hts _ (List.mem_cons_of_mem _ tw_1_97))
  obtain ⟨cJ, kJ, pJ, h4, h5, h6⟩ := Cond.arrayClass_spec (hts _ (List.mem_cons_of_mem _ tw_1_109))
  refine ⟨fun k => match k with | 0 => c0 | 1 => c1 | 2 => c2 | 3 => c3 | 4 => c4 | 5 => c5 | 6 => c6 | 7 => c7 | _ => c8, fun k => match k with | 0 => iS0 | 1 => iS1 | 2 => iS2 | 3 => iS3 | 4 => iS4 | 5 => iS5 | 6 => iS6 | 7 => iS7 | _ => iS8, cI, cJ, fun k q hq => ?_, fun k q hq => ?_⟩
  · match k, hq with
    | 0, hq => cases hq; exact hKn0
    | 1, hq => cases hq; exact hKn1
    | 2, hq => cases hq; exact hKn2
    | 3, hq => cases hq; exact hKn3
    | 4, hq => cases hq; exact hKn4
    | 5, hq => cases hq; exact hKn5
    | 6, hq => cases hq; exact hKn6
    | 7, hq => cases hq; exact hKn7
    | 8, hq => cases hq; exact hKn8
    | k + 9, hq => simp [vwCl] at hq
  · match k, hq with
    | 0, hq => cases hq; exact ⟨fun n z => ⟨fun k h => (by cases h), kI, h2, pI, h3⟩, h1⟩
    | 1, hq => cases hq; exact ⟨fun n z => ⟨fun k h => (by cases h), kJ, h5, pJ, h6⟩, h4⟩
    | k + 2, hq => simp at hq
set_option maxHeartbeats 4000000 in
set_option maxRecDepth 100000 in
theorem whole_start {p : Program} {e : Env} {s : State} {m : MethodId} {below : List Frame} {meth : Method} {c : Code} (l : Launch) (hl9 : l.stackTraces = false) {b L : Nat} {xs : Nat → Int32} (hL : L ≤ 2560) (C0 : lw_At p s m meth c b L xs) : W p l e room_1 s m #[Value.ref b] below meth c s.heap [] 0 0 (lw_Z below #[Value.ref b] s) (entryFrame m ([Value.ref b] : List Value).toArray 7) := by
  obtain ⟨hx, hb, hr, hml, hown, hts0, hX, hbl, hlocks, hgv⟩ := id C0
  have hts := law_hts hts0
  have hown : s.vm.findClass RL = some m.cls := hown
  have hA : ∀ q : Nat, s.heap.size ≤ q → (fun q : Nat => s.heap.size ≤ q) q := fun _ h => h
  obtain ⟨dC, dI, cI, cJ, hK⟩ := law_known hts0
  obtain ⟨tt, hT⟩ := law_cstat hts0 hgv
  obtain ⟨zs, hZ⟩ := law_zxx hts0 hgv
  have hN := law_nst hts0
  have hS : va_S (fun q : Nat => s.heap.size ≤ q) s.heap s.heap [] := va_S.rf
  have hP : va_P (dC, dI) vwCl [] s.heap := fun k q h => by simp at h
  have hD : va_D (fun q : Nat => s.heap.size ≤ q) [] := ⟨fun i j p q h => by simp at h, fun k q h => by simp at h⟩
  have hl := lv_entry ([.ref b]) (n := 7) (Nat.le_of_ble_eq_true rfl)
  rw [lg_entry_eq]
  generalize (lg_sl ([.ref b]) ++ List.replicate (7 - (lg_sl ([.ref b])).length) Slot.unset).toArray = ls at hl ⊢
  have hl : lv_has ls 7 [(0, .ref b)] := hl
  refine va_new (ci := 7) (fs := [.null, .null, .null]) (C := RX8) (T := TX8) (N := 3) hx hb hts (fun w h => List.mem_cons_of_mem _ (in_X8 w h)) tyX8 tyX8_ok hown (hts _ (List.mem_cons_of_mem _ tw_1_16)) (hts _ (List.mem_cons_of_mem _ tw_1_17)) (hts _ (List.mem_cons_of_mem _ tw_1_1)) hK hP hD hS hA rfl (fun j hj => match j, hj with | 0, _ => rfl | 1, _ => rfl | 2, _ => rfl | j + 3, h9 => absurd h9 (by omega)) (Nat.le_of_ble_eq_true rfl) (Nat.le_of_ble_eq_true rfl) dL_law_0 (fun q0 H hP hD hS => ?_)
  have hP : va_P (dC, dI) vwCl [(q0, .inr (7, [.null, .null, .null]))] H := hP
  have hD : va_D (fun q : Nat => s.heap.size ≤ q) [(q0, .inr (7, [.null, .null, .null]))] := hD
  refine W.widen (k := 1) (n := 3) (Nat.le_of_ble_eq_true rfl) (Nat.le_of_ble_eq_true rfl) ?_
  refine lv_dup hx hb dL_law_3 rfl ?_
  have hFc := va_free (wc := [(q0, .inr (7, [.null, .null, .null]))]) hD hS hA [0] rfl
  refine va_callv (va_runI (As := []) (rest := [.ref q0]) ⟨hx, hb, hml, hown, hts⟩ (c_X8_init l dC dI cI cJ q0 _) (cwI 0 hts (tb_gI tw_1_20) rfl rfl rfl (hts _ (List.mem_cons_of_mem _ tw_1_1)) (hts _ (List.mem_cons_of_mem _ tw_1_18)) (hts _ (List.mem_cons_of_mem _ tw_1_19)) rfl (by decide +kernel) ⟨Nat.le_of_ble_eq_true rfl, Nat.le_of_ble_eq_true rfl⟩) (cpre_SK hK hP hD hN) rfl rfl hl.1 rfl (lv_room (Nat.le_of_ble_eq_true rfl)) dL_law_4 ⟨Nat.le_of_ble_eq_true rfl, Nat.le_of_ble_eq_true rfl⟩) hS (fun q _ h => hFc q h) hFc (fun u4 t H1 locs ht hvm hu hB hz1 hk1 hS => ?_)
  obtain ⟨hP9, hD9⟩ := cjoin_w (w1 := w_BM u4 cI cJ K0) ht hB hFc
  generalize H1 = H at hP9 hS ⊢
  have hu : u4 0 = q0 := hu
  clear hz1 hk1 hB ht hvm hFc hP hD
  subst hu
  have hP := hP9
  have hD := hD9
  clear hP9 hD9
  refine W.widen (k := 13) (n := 10650) (Nat.le_of_ble_eq_true rfl) (Nat.le_of_ble_eq_true rfl) ?_
  refine lv_astore_n (lv' := [(1, .ref (u4 0)), (0, .ref b)]) hx hb dL_law_7 rfl hl (by decide) rfl (fun ls hl => ?_)
  refine va_new (ci := 8) (fs := [.int 0, .null, .null, .int 0, .int 0, .int 0, .int 0, .int 0, .int 0, .int 0, .int 0, .int 0, .int 0, .int 0, .int 0, .int 0, .int 0, .int 0, .int 0, .int 0, .int 0, .int 0, .int 0, .int 0, .null, .null, .long 0, .long 0, .long 0, .int 0, .int 0, .null, .null]) (C := RX9) (T := TX9) (N := 33) hx hb hts (fun w h => List.mem_cons_of_mem _ (in_X9 w h)) tyX9 tyX9_ok hown (hts _ (List.mem_cons_of_mem _ tw_3_175)) (hts _ (List.mem_cons_of_mem _ tw_3_176)) (hts _ (List.mem_cons_of_mem _ tw_1_9)) hK hP hD hS hA rfl (fun j hj => match j, hj with | 0, _ => rfl | 1, _ => rfl | 2, _ => rfl | 3, _ => rfl | 4, _ => rfl | 5, _ => rfl | 6, _ => rfl | 7, _ => rfl | 8, _ => rfl | 9, _ => rfl | 10, _ => rfl | 11, _ => rfl | 12, _ => rfl | 13, _ => rfl | 14, _ => rfl | 15, _ => rfl | 16, _ => rfl | 17, _ => rfl | 18, _ => rfl | 19, _ => rfl | 20, _ => rfl | 21, _ => rfl | 22, _ => rfl | 23, _ => rfl | 24, _ => rfl | 25, _ => rfl | 26, _ => rfl | 27, _ => rfl | 28, _ => rfl | 29, _ => rfl | 30, _ => rfl | 31, _ => rfl | 32, _ => rfl | j + 33, h9 => absurd h9 (by omega)) (Nat.le_of_ble_eq_true rfl) (Nat.le_of_ble_eq_true rfl) dL_law_8 (fun q8 H hP hD hS => ?_)
  refine W.widen (k := 14) (n := 10683) (Nat.le_of_ble_eq_true rfl) (Nat.le_of_ble_eq_true rfl) ?_
  refine lv_dup hx hb dL_law_11 rfl ?_
  have hPc := hP.sub (ws' := [(q8, .inr (8, [.int 0, .null, .null, .int 0, .int 0, .int 0, .int 0, .int 0, .int 0, .int 0, .int 0, .int 0, .int 0, .int 0, .int 0, .int 0, .int 0, .int 0, .int 0, .int 0, .int 0, .int 0, .int 0, .int 0, .null, .null, .long 0, .long 0, .long 0, .int 0, .int 0, .null, .null]))]) [13] rfl
  have hDc := hD.sub (ws' := [(q8, .inr (8, [.int 0, .null, .null, .int 0, .int 0, .int 0, .int 0, .int 0, .int 0, .int 0, .int 0, .int 0, .int 0, .int 0, .int 0, .int 0, .int 0, .int 0, .int 0, .int 0, .int 0, .int 0, .int 0, .int 0, .null, .null, .long 0, .long 0, .long 0, .int 0, .int 0, .null, .null]))]) [13] (by decide) rfl
  have hFc := va_free (wc := [(q8, .inr (8, [.int 0, .null, .null, .int 0, .int 0, .int 0, .int 0, .int 0, .int 0, .int 0, .int 0, .int 0, .int 0, .int 0, .int 0, .int 0, .int 0, .int 0, .int 0, .int 0, .int 0, .int 0, .int 0, .int 0, .null, .null, .long 0, .long 0, .long 0, .int 0, .int 0, .null, .null]))]) hD hS hA [13] rfl
  refine va_callv (va_runI (As := []) (rest := [.ref q8]) ⟨hx, hb, hml, hown, hts⟩ (c_X9_init l dC dI cI cJ q8 _) (cwI 0 hts (tb_gI tw_3_179) rfl rfl rfl (hts _ (List.mem_cons_of_mem _ tw_1_9)) (hts _ (List.mem_cons_of_mem _ tw_3_177)) (hts _ (List.mem_cons_of_mem _ tw_3_178)) rfl (by decide +kernel) ⟨Nat.le_of_ble_eq_true rfl, Nat.le_of_ble_eq_true rfl⟩) (cpre_S hK hPc hDc) rfl rfl hl.1 rfl (lv_room (Nat.le_of_ble_eq_true rfl)) dL_law_12 ⟨Nat.le_of_ble_eq_true rfl, Nat.le_of_ble_eq_true rfl⟩) hS (fun q _ h => hFc q h) hFc (fun u12 t H1 locs ht hvm hu hB hz1 hk1 hS => ?_)
  obtain ⟨hP9, hD9⟩ := cjoin (w1 := w_Model u12 cI cJ U0) ht hP hD [13] [0, 1, 2, 3, 4, 5, 6, 7, 8, 9, 10, 11, 12] rfl rfl (by decide) (by decide) hk1 hFc hB
  generalize H1 = H at hP9 hS ⊢
  have hP9 := hP9.sub (ws' := w_BM u4 cI cJ K0 ++ w_Model u12 cI cJ U0) [0, 1, 2, 3, 4, 5, 6, 7, 8, 9, 10, 11, 12, 13, 14, 15, 16, 17, 18, 19] rfl
  have hD9 := hD9.sub (ws' := w_BM u4 cI cJ K0 ++ w_Model u12 cI cJ U0) [0, 1, 2, 3, 4, 5, 6, 7, 8, 9, 10, 11, 12, 13, 14, 15, 16, 17, 18, 19] (by decide) rfl
  have hu : u12 13 = q8 := hu
  clear hz1 hk1 hB ht hvm hFc hPc hDc hP hD
  subst hu
  have hP := hP9
  have hD := hD9
  clear hP9 hD9
  refine W.widen (k := 20) (n := 92975) (Nat.le_of_ble_eq_true rfl) (Nat.le_of_ble_eq_true rfl) ?_
  refine lv_astore_n (lv' := [(2, .ref (u12 13)), (1, .ref (u4 0)), (0, .ref b)]) hx hb dL_law_15 rfl hl (by decide) rfl (fun ls hl => ?_)
  refine lv_iconst (v := 1) hx hb dL_law_16 (by decide) ?_
  refine va_newa (N' := 1) (a0 := (1, .inr (.inl (fun _ => 0)))) (atype := .long) (ty := .long) hx hb (hts _ (List.mem_cons_of_mem _ tw_1_109)) rfl hK hP hD hS hA (vc_J 1) (by decide) (by decide) (Nat.le_of_ble_eq_true rfl) (Nat.le_of_ble_eq_true rfl) (Nat.le_of_ble_eq_true rfl) dL_law_17 (fun q17 cA H hK9 hP hD hS => ?_)
  have hq9 : cA = cJ := Option.some.inj ((hK9.2 2 _ rfl).2.symm.trans (hK.2 1 _ rfl).2)
  rw [hq9] at hP hD
  clear hq9 hK9
  refine W.widen (k := 21) (n := 92976) (Nat.le_of_ble_eq_true rfl) (Nat.le_of_ble_eq_true rfl) ?_
  have hP := hP.sub (ws' := w_Law (fun i : Nat => match i with | 0 => u4 0 | 1 => u4 1 | 2 => u4 2 | 3 => u4 3 | 4 => u4 4 | 5 => u4 5 | 6 => u4 6 | 7 => u4 7 | 8 => u4 8 | 9 => u4 9 | 10 => u4 10 | 11 => u4 11 | 12 => u4 12 | 13 => u12 13 | 14 => u12 14 | 15 => u12 15 | 16 => u12 16 | 17 => u12 17 | 18 => u12 18 | 19 => u12 19 | _ => q17) cI cJ (K0, U0, fun _ => 0)) [0, 1, 2, 3, 4, 5, 6, 7, 8, 9, 10, 11, 12, 13, 14, 15, 16, 17, 18, 19, 20] rfl
  have hD := hD.sub (ws' := w_Law (fun i : Nat => match i with | 0 => u4 0 | 1 => u4 1 | 2 => u4 2 | 3 => u4 3 | 4 => u4 4 | 5 => u4 5 | 6 => u4 6 | 7 => u4 7 | 8 => u4 8 | 9 => u4 9 | 10 => u4 10 | 11 => u4 11 | 12 => u4 12 | 13 => u12 13 | 14 => u12 14 | 15 => u12 15 | 16 => u12 16 | 17 => u12 17 | 18 => u12 18 | 19 => u12 19 | _ => q17) cI cJ (K0, U0, fun _ => 0)) [0, 1, 2, 3, 4, 5, 6, 7, 8, 9, 10, 11, 12, 13, 14, 15, 16, 17, 18, 19, 20] (by decide) rfl
  refine lv_astore_n (lv' := [(3, .ref q17), (2, .ref (u12 13)), (1, .ref (u4 0)), (0, .ref b)]) hx hb dL_law_19 rfl hl (by decide) rfl (fun ls hl => ?_)
  refine lv_iconst (v := 0) hx hb dL_law_20 (by decide) ?_
  refine lv_istore (lv' := [(4, .int 0), (3, .ref q17), (2, .ref (u12 13)), (1, .ref (u4 0)), (0, .ref b)]) hx hb dL_law_21 hl (by decide) rfl (fun ls hl => ?_)
  exact law_loop hl9 hL C0 hK hT hZ 512 0 0 (by omega) (by omega) nI_0.symm K0 U0 (fun _ => 0) 0 _ _ _ init_RM hP hD hS (lv_sub hl [4, 3, 2, 1, 0] rfl)

set_option maxHeartbeats 4000000 in
theorem lw_walk (l : Launch) (hl9 : l.stackTraces = false) (b : Addr) (xs : List Int32) : MetFree l x (headSpec (Jvm.Cond.code x code maxLocals ret :: tables_1) room_1) (lw_P b xs) (fun _ _ _ _ _ => True) lw_Q := by
  refine MetFree.of_bodyS (code := code) (maxLocals := maxLocals) (ret := ret) (by decide) ?_ ?_
  · intro args s m h hn
    obtain ⟨meth, c, h1, h2, h3, h4, h5, h6, -, -⟩ := Cond.code_spec hn (atoms_spec (ws := Jvm.Cond.code x code maxLocals ret :: tables_1) h _ List.mem_cons_self)
    exact ⟨meth, c, h1, h2, h3, h4, h5, h6⟩
  · intro p e s m args below meth c s₁ B hml0 hP _
    obtain ⟨rfl, hx, hbd, hgv⟩ := hP
    obtain ⟨scr, harrAt, hlist, hof, hsmall⟩ := hx
    obtain ⟨hcb, hkn, -, -⟩ := State.arrayAt?_spec harrAt
    have hown : s.vm.findClass R_law = some m.cls := findClass_of_methodNamed B.named
    have hts0 : ∀ c ∈ (Jvm.Cond.code x code maxLocals ret :: tables_1), c.before #[Value.ref b] s = true := atoms_spec (ws := Jvm.Cond.code x code maxLocals ret :: tables_1) B.pre
    have hts : ∀ w ∈ lw_tbl, w.before #[Value.ref b] s = true := k2_hts_sels lw_privs (fun w hw => hts0 w (List.mem_cons_of_mem _ hw)) lw_privs_ok
    have hml : c.maxLocals = 7 := B.maxLocals_eq (hts0 _ List.mem_cons_self)
    have X₀ : Stand p l e room_1 s m #[Value.ref b] below meth c s₁ [] 0 0 := Stand.of_body B
    have hh0 : s₁.heap = s.heap := by rw [B.state]; rfl
    have hsz : scr.slots.size = xs.length := by rw [← Array.length_toList, hlist, List.length_map]
    have hval : ∀ j : Nat, j < xs.length → scr.slots[j]? = some (.int (xs.getD j 0)) := fun j hj => by
      rw [← Array.getElem?_toList, hlist]
      simp [hj]
    have hbl : b < s.heap.size := (Array.getElem?_eq_some_iff.mp hcb).1
    have hX : va_X b xs.length (fun j => xs.getD j 0) s s.heap := ⟨scr, hcb, hof, hkn, hsz, hval⟩
    have K : W p l e room_1 s m #[Value.ref b] below meth c s₁.heap [] 0 0 (lw_Z below #[Value.ref b] s) (entryFrame m ([Value.ref b] : List Value).toArray 7) := by
      rw [hh0]
      exact whole_start l hl9 hbd ⟨B.exec, B.bytes, B.returns, hml, hown, hts, hX, hbl, B.notSynchronized, hgv⟩
    obtain ⟨t, a1, o, b1, b2, b3⟩ := K s₁ rfl X₀
    exact ⟨t, o, a1, b1, b2, b3⟩
theorem lw_pre_spec {args : Array Value} {s : State} (h : (Jvm.Cond.and given_1 narrow_1).before args s = true) (hr : rest_1_c.before args s = true) : ∃ (b : Addr) (xs : List Int32), lw_P b xs args s := by
  have hs := flat_of_before _ h
  have hq := flat_of_before _ hr
  have hc : (Cond.count 1).before args s = true := hs _ (by decide +kernel)
  have harr : (Cond.arrayOf (.arg 0) .int).before args s = true := hs _ (by decide +kernel)
  have hle : (Cond.le (.length (.arg 0)) (.int 2560)).before args s = true := hs _ (by decide +kernel)
  have hlen : (Cond.isInt (.length (.arg 0))).before args s = true := hq _ (by decide +kernel)
  have hall : (Cond.all (.arg 0) (.isInt (.elem (.arg 0) (.index 0)))).before args s = true := hq _ (by decide +kernel)
  obtain ⟨b, xs, hb, hx⟩ := State.ints_of_pre rfl harr hlen hall
  have hsm : xs.length < 2 ^ 31 := hx.choose_spec.2.2.2
  have hev : (Term.length (.arg 0)).eval args s none [] s = some (.int xs.length.toInt32) := hx.length_eval hb
  have hv := Cond.le_ints hev (show (Term.int 2560).eval args s none [] s = some (.int 2560) from rfl)
  have hd : xs.length.toInt32 ≤ 2560 := by
    simpa [Cond.before, Cond.holds, hv] using hle
  have hN : xs.length ≤ 2560 := (Int32.ofNat_le_ofNat hsm (by decide)).mp (show Int32.ofNat xs.length ≤ Int32.ofNat 2560 from hd)
  exact ⟨b, xs, Cond.one_arg hc (show args[0]? = some (.ref b) from hb), hx, hN, h⟩
theorem lw_comes (l : Launch) (hl9 : l.stackTraces = false) : Comes l x (Jvm.Cond.code x code maxLocals ret :: tables_1) room_1 (fun tb e args s => Calls_1 tb e args s ∧ rest_1 tb e args s ∧ Pre_1 tb e args s)
    (fun _ _ args s o t => lw_Q args s o t) := by
  intro p e ha hc hk s m args below hf hfit hheap happ hpre
  obtain ⟨b, xs, hP⟩ := lw_pre_spec hpre.2.2 hpre.2.1
  obtain ⟨k, o, h1, h2, h3, hQ⟩ := lw_walk l hl9 b xs p e ha hc hk s m args below hf ((Spec.applies_iff_loose hf).mp happ).1 hP trivial
  exact ⟨k, o, h1, h2, h3, hQ⟩
theorem lw_frame {s t : State} {o : Outcome} {args : Array Value} (h : Framed s o t [] 601024 7293034) :
    Framed s o t (fieldLocs frame_1_writes args s ++ arrayLocs frame_1_arrays args s ++ staticLocs frame_1_statics s) 601024 7293034 := h
theorem lw_limb (L : Cond) (hL : ∀ (args : Array Value) (s t : State), L.after args s (.returned (some (.int 1))) t = true) :
    ArmFor flags0 classFile x code maxLocals ret World_1 tables_1 room_1 Calls_1 rest_1 Pre_1
      (fun tb e a s o t => postC L tb e a s o t ∧ Framed s o t (fieldLocs frame_1_writes a s ++ arrayLocs frame_1_arrays a s ++ staticLocs frame_1_statics s) 601024 7293034) := by
  intro l hfl _ _ p e ha hc hk s m args below hf hfit hheap happ hpre
  obtain ⟨k, o, h1, h2, h3, rfl, hF⟩ := lw_comes l (by show (!l.flags.contains Jvm.noTraceFlag) = false; rw [hfl]; decide +kernel) p e ha hc hk s m args below hf hfit hheap happ hpre
  exact ⟨k, _, h1, h2, h3, hL args s _, lw_frame hF⟩
theorem i_vc : Claimed_1_1 ∧ Claimed_1_2 := ⟨lw_limb limb_1_1 (fun args s t => by simp [limb_1_1, Cond.after, Cond.holds, Cond.value]), lw_limb limb_1_2 (fun args s t => Cond.after_iff.mpr (by
  first | (rw [show limb_1_2 = Cond.eq .result (.int 1) from rfl, Cond.eq_ints (x := 1) (y := 1) rfl rfl]; simp; done) | (simp [limb_1_2, Cond.value, Term.eval]; done)))⟩
end
