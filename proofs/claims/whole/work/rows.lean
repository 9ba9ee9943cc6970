section
-- ===== PART A: goes FIRST, ahead of the names: the tables' words, and 'selects' of the private methods out of them =====
/-- a private method of a class that the tables say can be made, by its rows of tables_1 -/
def lw_okq (q : MethodName × Nat) : Prop := (q.1.cls ≠ "java/lang/invoke/MethodHandle" ∧ q.1.cls ≠ "java/lang/invoke/VarHandle") ∧ Cond.instantiable q.1.cls q.2 ∈ tables_1 ∧ Cond.privateMethod q.1 ∈ tables_1 ∧ Cond.instanceMethod q.1 ∈ tables_1
theorem lw_p0 : lw_okq (⟨"FormulaScales$Reader", "beginFormula", "()V"⟩, 9) := ⟨⟨by decide +kernel, by decide +kernel⟩, List.mem_of_getElem? (i := 26) (by decide +kernel), List.mem_of_getElem? (i := 215) (by decide +kernel), List.mem_of_getElem? (i := 216) (by decide +kernel)⟩
theorem lw_p1 : lw_okq (⟨"FormulaScales$Reader", "meet", "(II)V"⟩, 9) := ⟨⟨by decide +kernel, by decide +kernel⟩, List.mem_of_getElem? (i := 26) (by decide +kernel), List.mem_of_getElem? (i := 222) (by decide +kernel), List.mem_of_getElem? (i := 223) (by decide +kernel)⟩
theorem lw_p2 : lw_okq (⟨"FormulaScales$Reader", "readElectron", "()V"⟩, 9) := ⟨⟨by decide +kernel, by decide +kernel⟩, List.mem_of_getElem? (i := 26) (by decide +kernel), List.mem_of_getElem? (i := 230) (by decide +kernel), List.mem_of_getElem? (i := 231) (by decide +kernel)⟩
theorem lw_p3 : lw_okq (⟨"FormulaScales$Reader", "readFormula", "()V"⟩, 9) := ⟨⟨by decide +kernel, by decide +kernel⟩, List.mem_of_getElem? (i := 26) (by decide +kernel), List.mem_of_getElem? (i := 242) (by decide +kernel), List.mem_of_getElem? (i := 243) (by decide +kernel)⟩
theorem lw_p4 : lw_okq (⟨"FormulaScales$Reader", "readNumber", "()I"⟩, 9) := ⟨⟨by decide +kernel, by decide +kernel⟩, List.mem_of_getElem? (i := 26) (by decide +kernel), List.mem_of_getElem? (i := 246) (by decide +kernel), List.mem_of_getElem? (i := 247) (by decide +kernel)⟩
theorem lw_p5 : lw_okq (⟨"FormulaScales$Reader", "readUnits", "()V"⟩, 9) := ⟨⟨by decide +kernel, by decide +kernel⟩, List.mem_of_getElem? (i := 26) (by decide +kernel), List.mem_of_getElem? (i := 253) (by decide +kernel), List.mem_of_getElem? (i := 254) (by decide +kernel)⟩
theorem lw_p6 : lw_okq (⟨"FormulaScales$Reader", "readElement", "(C)V"⟩, 9) := ⟨⟨by decide +kernel, by decide +kernel⟩, List.mem_of_getElem? (i := 26) (by decide +kernel), List.mem_of_getElem? (i := 260) (by decide +kernel), List.mem_of_getElem? (i := 261) (by decide +kernel)⟩
theorem lw_p7 : lw_okq (⟨"FormulaScales$Reader", "openGroup", "(C)V"⟩, 9) := ⟨⟨by decide +kernel, by decide +kernel⟩, List.mem_of_getElem? (i := 26) (by decide +kernel), List.mem_of_getElem? (i := 275) (by decide +kernel), List.mem_of_getElem? (i := 276) (by decide +kernel)⟩
theorem lw_p8 : lw_okq (⟨"FormulaScales$Reader", "closeGroup", "()V"⟩, 9) := ⟨⟨by decide +kernel, by decide +kernel⟩, List.mem_of_getElem? (i := 26) (by decide +kernel), List.mem_of_getElem? (i := 279) (by decide +kernel), List.mem_of_getElem? (i := 280) (by decide +kernel)⟩
theorem lw_p9 : lw_okq (⟨"FormulaScales$Reader", "readCharge", "()V"⟩, 9) := ⟨⟨by decide +kernel, by decide +kernel⟩, List.mem_of_getElem? (i := 26) (by decide +kernel), List.mem_of_getElem? (i := 286) (by decide +kernel), List.mem_of_getElem? (i := 287) (by decide +kernel)⟩
theorem lw_p10 : lw_okq (⟨"FormulaScales$Reader", "endFormula", "(I)V"⟩, 9) := ⟨⟨by decide +kernel, by decide +kernel⟩, List.mem_of_getElem? (i := 26) (by decide +kernel), List.mem_of_getElem? (i := 290) (by decide +kernel), List.mem_of_getElem? (i := 291) (by decide +kernel)⟩
theorem lw_p11 : lw_okq (⟨"FormulaScales$Reader", "isTooMuch", "()Z"⟩, 9) := ⟨⟨by decide +kernel, by decide +kernel⟩, List.mem_of_getElem? (i := 26) (by decide +kernel), List.mem_of_getElem? (i := 294) (by decide +kernel), List.mem_of_getElem? (i := 295) (by decide +kernel)⟩
theorem lw_p12 : lw_okq (⟨"FormulaScales$Reader", "readSign", "()Z"⟩, 9) := ⟨⟨by decide +kernel, by decide +kernel⟩, List.mem_of_getElem? (i := 26) (by decide +kernel), List.mem_of_getElem? (i := 303) (by decide +kernel), List.mem_of_getElem? (i := 304) (by decide +kernel)⟩
theorem lw_p13 : lw_okq (⟨"FormulaScales$Balance", "takeRows", "(LFormulaScales$Equation;)V"⟩, 10) := ⟨⟨by decide +kernel, by decide +kernel⟩, List.mem_of_getElem? (i := 133) (by decide +kernel), List.mem_of_getElem? (i := 311) (by decide +kernel), List.mem_of_getElem? (i := 312) (by decide +kernel)⟩
theorem lw_p14 : lw_okq (⟨"FormulaScales$Balance", "reduce", "()V"⟩, 10) := ⟨⟨by decide +kernel, by decide +kernel⟩, List.mem_of_getElem? (i := 133) (by decide +kernel), List.mem_of_getElem? (i := 332) (by decide +kernel), List.mem_of_getElem? (i := 333) (by decide +kernel)⟩
theorem lw_p15 : lw_okq (⟨"FormulaScales$Balance", "pivotRow", "(I)I"⟩, 10) := ⟨⟨by decide +kernel, by decide +kernel⟩, List.mem_of_getElem? (i := 133) (by decide +kernel), List.mem_of_getElem? (i := 336) (by decide +kernel), List.mem_of_getElem? (i := 337) (by decide +kernel)⟩
def lw_privs_1 : List (MethodName × Nat) := [(⟨"FormulaScales$Reader", "beginFormula", "()V"⟩, 9), (⟨"FormulaScales$Reader", "meet", "(II)V"⟩, 9), (⟨"FormulaScales$Reader", "readElectron", "()V"⟩, 9), (⟨"FormulaScales$Reader", "readFormula", "()V"⟩, 9), (⟨"FormulaScales$Reader", "readNumber", "()I"⟩, 9), (⟨"FormulaScales$Reader", "readUnits", "()V"⟩, 9), (⟨"FormulaScales$Reader", "readElement", "(C)V"⟩, 9), (⟨"FormulaScales$Reader", "openGroup", "(C)V"⟩, 9), (⟨"FormulaScales$Reader", "closeGroup", "()V"⟩, 9), (⟨"FormulaScales$Reader", "readCharge", "()V"⟩, 9), (⟨"FormulaScales$Reader", "endFormula", "(I)V"⟩, 9), (⟨"FormulaScales$Reader", "isTooMuch", "()Z"⟩, 9), (⟨"FormulaScales$Reader", "readSign", "()Z"⟩, 9), (⟨"FormulaScales$Balance", "takeRows", "(LFormulaScales$Equation;)V"⟩, 10), (⟨"FormulaScales$Balance", "reduce", "()V"⟩, 10), (⟨"FormulaScales$Balance", "pivotRow", "(I)I"⟩, 10)]
theorem lw_r1 : ∀ q ∈ lw_privs_1, lw_okq q := List.forall_mem_cons.mpr ⟨lw_p0, List.forall_mem_cons.mpr ⟨lw_p1, List.forall_mem_cons.mpr ⟨lw_p2, List.forall_mem_cons.mpr ⟨lw_p3, List.forall_mem_cons.mpr ⟨lw_p4, List.forall_mem_cons.mpr ⟨lw_p5, List.forall_mem_cons.mpr ⟨lw_p6, List.forall_mem_cons.mpr ⟨lw_p7, List.forall_mem_cons.mpr ⟨lw_p8, List.forall_mem_cons.mpr ⟨lw_p9, List.forall_mem_cons.mpr ⟨lw_p10, List.forall_mem_cons.mpr ⟨lw_p11, List.forall_mem_cons.mpr ⟨lw_p12, List.forall_mem_cons.mpr ⟨lw_p13, List.forall_mem_cons.mpr ⟨lw_p14, List.forall_mem_cons.mpr ⟨lw_p15, fun _ h => absurd h List.not_mem_nil⟩⟩⟩⟩⟩⟩⟩⟩⟩⟩⟩⟩⟩⟩⟩⟩
theorem lw_p16 : lw_okq (⟨"FormulaScales$Balance", "swapRows", "(II)V"⟩, 10) := ⟨⟨by decide +kernel, by decide +kernel⟩, List.mem_of_getElem? (i := 133) (by decide +kernel), List.mem_of_getElem? (i := 340) (by decide +kernel), List.mem_of_getElem? (i := 341) (by decide +kernel)⟩
theorem lw_p17 : lw_okq (⟨"FormulaScales$Balance", "clearColumn", "(I)V"⟩, 10) := ⟨⟨by decide +kernel, by decide +kernel⟩, List.mem_of_getElem? (i := 133) (by decide +kernel), List.mem_of_getElem? (i := 344) (by decide +kernel), List.mem_of_getElem? (i := 345) (by decide +kernel)⟩
theorem lw_p18 : lw_okq (⟨"FormulaScales$Balance", "makeBase", "([JI)V"⟩, 10) := ⟨⟨by decide +kernel, by decide +kernel⟩, List.mem_of_getElem? (i := 133) (by decide +kernel), List.mem_of_getElem? (i := 351) (by decide +kernel), List.mem_of_getElem? (i := 352) (by decide +kernel)⟩
theorem lw_p19 : lw_okq (⟨"FormulaScales$Balance", "judge", "()I"⟩, 10) := ⟨⟨by decide +kernel, by decide +kernel⟩, List.mem_of_getElem? (i := 133) (by decide +kernel), List.mem_of_getElem? (i := 362) (by decide +kernel), List.mem_of_getElem? (i := 363) (by decide +kernel)⟩
theorem lw_p20 : lw_okq (⟨"FormulaScales$Line", "addSign", "(C)V"⟩, 2) := ⟨⟨by decide +kernel, by decide +kernel⟩, List.mem_of_getElem? (i := 176) (by decide +kernel), List.mem_of_getElem? (i := 375) (by decide +kernel), List.mem_of_getElem? (i := 376) (by decide +kernel)⟩
theorem lw_p21 : lw_okq (⟨"FormulaScales$Line", "add", "(C)V"⟩, 2) := ⟨⟨by decide +kernel, by decide +kernel⟩, List.mem_of_getElem? (i := 176) (by decide +kernel), List.mem_of_getElem? (i := 379) (by decide +kernel), List.mem_of_getElem? (i := 380) (by decide +kernel)⟩
theorem lw_p22 : lw_okq (⟨"FormulaScales$Line", "addNumber", "(J)V"⟩, 2) := ⟨⟨by decide +kernel, by decide +kernel⟩, List.mem_of_getElem? (i := 176) (by decide +kernel), List.mem_of_getElem? (i := 383) (by decide +kernel), List.mem_of_getElem? (i := 384) (by decide +kernel)⟩
theorem lw_p23 : lw_okq (⟨"FormulaScales$Line", "turnRound", "(I)V"⟩, 2) := ⟨⟨by decide +kernel, by decide +kernel⟩, List.mem_of_getElem? (i := 176) (by decide +kernel), List.mem_of_getElem? (i := 389) (by decide +kernel), List.mem_of_getElem? (i := 390) (by decide +kernel)⟩
theorem lw_p24 : lw_okq (⟨"java/lang/Throwable", "fillInStackTrace", "(I)Ljava/lang/Throwable;"⟩, 6) := ⟨⟨by decide +kernel, by decide +kernel⟩, List.mem_of_getElem? (i := 475) (by decide +kernel), List.mem_of_getElem? (i := 473) (by decide +kernel), List.mem_of_getElem? (i := 474) (by decide +kernel)⟩
theorem lw_p25 : lw_okq (⟨"FormulaScalesModel", "readSide", "(Z)V"⟩, 31) := ⟨⟨by decide +kernel, by decide +kernel⟩, List.mem_of_getElem? (i := 623) (by decide +kernel), List.mem_of_getElem? (i := 738) (by decide +kernel), List.mem_of_getElem? (i := 739) (by decide +kernel)⟩
theorem lw_p26 : lw_okq (⟨"FormulaScalesModel", "skip", "()V"⟩, 31) := ⟨⟨by decide +kernel, by decide +kernel⟩, List.mem_of_getElem? (i := 623) (by decide +kernel), List.mem_of_getElem? (i := 742) (by decide +kernel), List.mem_of_getElem? (i := 743) (by decide +kernel)⟩
theorem lw_p27 : lw_okq (⟨"FormulaScalesModel", "charAt", "(I)C"⟩, 31) := ⟨⟨by decide +kernel, by decide +kernel⟩, List.mem_of_getElem? (i := 623) (by decide +kernel), List.mem_of_getElem? (i := 746) (by decide +kernel), List.mem_of_getElem? (i := 747) (by decide +kernel)⟩
theorem lw_p28 : lw_okq (⟨"FormulaScalesModel", "failIf", "(ZII)V"⟩, 31) := ⟨⟨by decide +kernel, by decide +kernel⟩, List.mem_of_getElem? (i := 623) (by decide +kernel), List.mem_of_getElem? (i := 750) (by decide +kernel), List.mem_of_getElem? (i := 751) (by decide +kernel)⟩
theorem lw_p29 : lw_okq (⟨"FormulaScalesModel", "fail", "(II)V"⟩, 31) := ⟨⟨by decide +kernel, by decide +kernel⟩, List.mem_of_getElem? (i := 623) (by decide +kernel), List.mem_of_getElem? (i := 754) (by decide +kernel), List.mem_of_getElem? (i := 755) (by decide +kernel)⟩
theorem lw_p30 : lw_okq (⟨"FormulaScalesModel", "readFormula", "(Z)V"⟩, 31) := ⟨⟨by decide +kernel, by decide +kernel⟩, List.mem_of_getElem? (i := 623) (by decide +kernel), List.mem_of_getElem? (i := 758) (by decide +kernel), List.mem_of_getElem? (i := 759) (by decide +kernel)⟩
theorem lw_p31 : lw_okq (⟨"FormulaScalesModel", "noteCharge", "(I)V"⟩, 31) := ⟨⟨by decide +kernel, by decide +kernel⟩, List.mem_of_getElem? (i := 623) (by decide +kernel), List.mem_of_getElem? (i := 762) (by decide +kernel), List.mem_of_getElem? (i := 763) (by decide +kernel)⟩
def lw_privs_2 : List (MethodName × Nat) := [(⟨"FormulaScales$Balance", "swapRows", "(II)V"⟩, 10), (⟨"FormulaScales$Balance", "clearColumn", "(I)V"⟩, 10), (⟨"FormulaScales$Balance", "makeBase", "([JI)V"⟩, 10), (⟨"FormulaScales$Balance", "judge", "()I"⟩, 10), (⟨"FormulaScales$Line", "addSign", "(C)V"⟩, 2), (⟨"FormulaScales$Line", "add", "(C)V"⟩, 2), (⟨"FormulaScales$Line", "addNumber", "(J)V"⟩, 2), (⟨"FormulaScales$Line", "turnRound", "(I)V"⟩, 2), (⟨"java/lang/Throwable", "fillInStackTrace", "(I)Ljava/lang/Throwable;"⟩, 6), (⟨"FormulaScalesModel", "readSide", "(Z)V"⟩, 31), (⟨"FormulaScalesModel", "skip", "()V"⟩, 31), (⟨"FormulaScalesModel", "charAt", "(I)C"⟩, 31), (⟨"FormulaScalesModel", "failIf", "(ZII)V"⟩, 31), (⟨"FormulaScalesModel", "fail", "(II)V"⟩, 31), (⟨"FormulaScalesModel", "readFormula", "(Z)V"⟩, 31), (⟨"FormulaScalesModel", "noteCharge", "(I)V"⟩, 31)]
theorem lw_r2 : ∀ q ∈ lw_privs_2, lw_okq q := List.forall_mem_cons.mpr ⟨lw_p16, List.forall_mem_cons.mpr ⟨lw_p17, List.forall_mem_cons.mpr ⟨lw_p18, List.forall_mem_cons.mpr ⟨lw_p19, List.forall_mem_cons.mpr ⟨lw_p20, List.forall_mem_cons.mpr ⟨lw_p21, List.forall_mem_cons.mpr ⟨lw_p22, List.forall_mem_cons.mpr ⟨lw_p23, List.forall_mem_cons.mpr ⟨lw_p24, List.forall_mem_cons.mpr ⟨lw_p25, List.forall_mem_cons.mpr ⟨lw_p26, List.forall_mem_cons.mpr ⟨lw_p27, List.forall_mem_cons.mpr ⟨lw_p28, List.forall_mem_cons.mpr ⟨lw_p29, List.forall_mem_cons.mpr ⟨lw_p30, List.forall_mem_cons.mpr ⟨lw_p31, fun _ h => absurd h List.not_mem_nil⟩⟩⟩⟩⟩⟩⟩⟩⟩⟩⟩⟩⟩⟩⟩⟩
theorem lw_p32 : lw_okq (⟨"FormulaScalesModel", "readPart", "()V"⟩, 31) := ⟨⟨by decide +kernel, by decide +kernel⟩, List.mem_of_getElem? (i := 623) (by decide +kernel), List.mem_of_getElem? (i := 767) (by decide +kernel), List.mem_of_getElem? (i := 768) (by decide +kernel)⟩
theorem lw_p33 : lw_okq (⟨"FormulaScalesModel", "number0", "()J"⟩, 31) := ⟨⟨by decide +kernel, by decide +kernel⟩, List.mem_of_getElem? (i := 623) (by decide +kernel), List.mem_of_getElem? (i := 771) (by decide +kernel), List.mem_of_getElem? (i := 772) (by decide +kernel)⟩
theorem lw_p34 : lw_okq (⟨"FormulaScalesModel", "clearSums", "()V"⟩, 31) := ⟨⟨by decide +kernel, by decide +kernel⟩, List.mem_of_getElem? (i := 623) (by decide +kernel), List.mem_of_getElem? (i := 778) (by decide +kernel), List.mem_of_getElem? (i := 779) (by decide +kernel)⟩
theorem lw_p35 : lw_okq (⟨"FormulaScalesModel", "readStep", "(Z)Z"⟩, 31) := ⟨⟨by decide +kernel, by decide +kernel⟩, List.mem_of_getElem? (i := 623) (by decide +kernel), List.mem_of_getElem? (i := 782) (by decide +kernel), List.mem_of_getElem? (i := 783) (by decide +kernel)⟩
theorem lw_p36 : lw_okq (⟨"FormulaScalesModel", "element", "()I"⟩, 31) := ⟨⟨by decide +kernel, by decide +kernel⟩, List.mem_of_getElem? (i := 623) (by decide +kernel), List.mem_of_getElem? (i := 789) (by decide +kernel), List.mem_of_getElem? (i := 790) (by decide +kernel)⟩
theorem lw_p37 : lw_okq (⟨"FormulaScalesModel", "readCharge", "()V"⟩, 31) := ⟨⟨by decide +kernel, by decide +kernel⟩, List.mem_of_getElem? (i := 623) (by decide +kernel), List.mem_of_getElem? (i := 793) (by decide +kernel), List.mem_of_getElem? (i := 794) (by decide +kernel)⟩
theorem lw_p38 : lw_okq (⟨"FormulaScalesModel", "solve", "()V"⟩, 31) := ⟨⟨by decide +kernel, by decide +kernel⟩, List.mem_of_getElem? (i := 623) (by decide +kernel), List.mem_of_getElem? (i := 799) (by decide +kernel), List.mem_of_getElem? (i := 800) (by decide +kernel)⟩
theorem lw_p39 : lw_okq (⟨"FormulaScalesModel", "noteLeads", "()V"⟩, 31) := ⟨⟨by decide +kernel, by decide +kernel⟩, List.mem_of_getElem? (i := 623) (by decide +kernel), List.mem_of_getElem? (i := 803) (by decide +kernel), List.mem_of_getElem? (i := 804) (by decide +kernel)⟩
theorem lw_p40 : lw_okq (⟨"FormulaScalesModel", "kindCount", "()I"⟩, 31) := ⟨⟨by decide +kernel, by decide +kernel⟩, List.mem_of_getElem? (i := 623) (by decide +kernel), List.mem_of_getElem? (i := 807) (by decide +kernel), List.mem_of_getElem? (i := 808) (by decide +kernel)⟩
theorem lw_p41 : lw_okq (⟨"FormulaScalesModel", "rowsFor", "(I)I"⟩, 31) := ⟨⟨by decide +kernel, by decide +kernel⟩, List.mem_of_getElem? (i := 623) (by decide +kernel), List.mem_of_getElem? (i := 811) (by decide +kernel), List.mem_of_getElem? (i := 812) (by decide +kernel)⟩
theorem lw_p42 : lw_okq (⟨"FormulaScalesModel", "determinant", "(II)J"⟩, 31) := ⟨⟨by decide +kernel, by decide +kernel⟩, List.mem_of_getElem? (i := 623) (by decide +kernel), List.mem_of_getElem? (i := 818) (by decide +kernel), List.mem_of_getElem? (i := 819) (by decide +kernel)⟩
theorem lw_p43 : lw_okq (⟨"FormulaScalesModel", "hasOf", "(II)J"⟩, 31) := ⟨⟨by decide +kernel, by decide +kernel⟩, List.mem_of_getElem? (i := 623) (by decide +kernel), List.mem_of_getElem? (i := 822) (by decide +kernel), List.mem_of_getElem? (i := 823) (by decide +kernel)⟩
theorem lw_p44 : lw_okq (⟨"FormulaScalesModel", "makeBase", "(I)V"⟩, 31) := ⟨⟨by decide +kernel, by decide +kernel⟩, List.mem_of_getElem? (i := 623) (by decide +kernel), List.mem_of_getElem? (i := 826) (by decide +kernel), List.mem_of_getElem? (i := 827) (by decide +kernel)⟩
theorem lw_p45 : lw_okq (⟨"FormulaScalesModel", "write", "()V"⟩, 31) := ⟨⟨by decide +kernel, by decide +kernel⟩, List.mem_of_getElem? (i := 623) (by decide +kernel), List.mem_of_getElem? (i := 833) (by decide +kernel), List.mem_of_getElem? (i := 834) (by decide +kernel)⟩
theorem lw_p46 : lw_okq (⟨"FormulaScalesModel", "isBalanced", "()Z"⟩, 31) := ⟨⟨by decide +kernel, by decide +kernel⟩, List.mem_of_getElem? (i := 623) (by decide +kernel), List.mem_of_getElem? (i := 837) (by decide +kernel), List.mem_of_getElem? (i := 838) (by decide +kernel)⟩
theorem lw_p47 : lw_okq (⟨"FormulaScalesModel", "put", "(I)V"⟩, 31) := ⟨⟨by decide +kernel, by decide +kernel⟩, List.mem_of_getElem? (i := 623) (by decide +kernel), List.mem_of_getElem? (i := 841) (by decide +kernel), List.mem_of_getElem? (i := 842) (by decide +kernel)⟩
def lw_privs_3 : List (MethodName × Nat) := [(⟨"FormulaScalesModel", "readPart", "()V"⟩, 31), (⟨"FormulaScalesModel", "number0", "()J"⟩, 31), (⟨"FormulaScalesModel", "clearSums", "()V"⟩, 31), (⟨"FormulaScalesModel", "readStep", "(Z)Z"⟩, 31), (⟨"FormulaScalesModel", "element", "()I"⟩, 31), (⟨"FormulaScalesModel", "readCharge", "()V"⟩, 31), (⟨"FormulaScalesModel", "solve", "()V"⟩, 31), (⟨"FormulaScalesModel", "noteLeads", "()V"⟩, 31), (⟨"FormulaScalesModel", "kindCount", "()I"⟩, 31), (⟨"FormulaScalesModel", "rowsFor", "(I)I"⟩, 31), (⟨"FormulaScalesModel", "determinant", "(II)J"⟩, 31), (⟨"FormulaScalesModel", "hasOf", "(II)J"⟩, 31), (⟨"FormulaScalesModel", "makeBase", "(I)V"⟩, 31), (⟨"FormulaScalesModel", "write", "()V"⟩, 31), (⟨"FormulaScalesModel", "isBalanced", "()Z"⟩, 31), (⟨"FormulaScalesModel", "put", "(I)V"⟩, 31)]
theorem lw_r3 : ∀ q ∈ lw_privs_3, lw_okq q := List.forall_mem_cons.mpr ⟨lw_p32, List.forall_mem_cons.mpr ⟨lw_p33, List.forall_mem_cons.mpr ⟨lw_p34, List.forall_mem_cons.mpr ⟨lw_p35, List.forall_mem_cons.mpr ⟨lw_p36, List.forall_mem_cons.mpr ⟨lw_p37, List.forall_mem_cons.mpr ⟨lw_p38, List.forall_mem_cons.mpr ⟨lw_p39, List.forall_mem_cons.mpr ⟨lw_p40, List.forall_mem_cons.mpr ⟨lw_p41, List.forall_mem_cons.mpr ⟨lw_p42, List.forall_mem_cons.mpr ⟨lw_p43, List.forall_mem_cons.mpr ⟨lw_p44, List.forall_mem_cons.mpr ⟨lw_p45, List.forall_mem_cons.mpr ⟨lw_p46, List.forall_mem_cons.mpr ⟨lw_p47, fun _ h => absurd h List.not_mem_nil⟩⟩⟩⟩⟩⟩⟩⟩⟩⟩⟩⟩⟩⟩⟩⟩
theorem lw_p48 : lw_okq (⟨"FormulaScalesModel", "putNumber", "(J)V"⟩, 31) := ⟨⟨by decide +kernel, by decide +kernel⟩, List.mem_of_getElem? (i := 623) (by decide +kernel), List.mem_of_getElem? (i := 845) (by decide +kernel), List.mem_of_getElem? (i := 846) (by decide +kernel)⟩
theorem lw_p49 : lw_okq (⟨"FormulaScalesModel", "isKind", "(I)Z"⟩, 31) := ⟨⟨by decide +kernel, by decide +kernel⟩, List.mem_of_getElem? (i := 623) (by decide +kernel), List.mem_of_getElem? (i := 876) (by decide +kernel), List.mem_of_getElem? (i := 877) (by decide +kernel)⟩
theorem lw_p50 : lw_okq (⟨"FormulaScalesModel", "isFormula", "(I)Z"⟩, 31) := ⟨⟨by decide +kernel, by decide +kernel⟩, List.mem_of_getElem? (i := 623) (by decide +kernel), List.mem_of_getElem? (i := 884) (by decide +kernel), List.mem_of_getElem? (i := 885) (by decide +kernel)⟩
def lw_privs_4 : List (MethodName × Nat) := [(⟨"FormulaScalesModel", "putNumber", "(J)V"⟩, 31), (⟨"FormulaScalesModel", "isKind", "(I)Z"⟩, 31), (⟨"FormulaScalesModel", "isFormula", "(I)Z"⟩, 31)]
theorem lw_r4 : ∀ q ∈ lw_privs_4, lw_okq q := List.forall_mem_cons.mpr ⟨lw_p48, List.forall_mem_cons.mpr ⟨lw_p49, List.forall_mem_cons.mpr ⟨lw_p50, fun _ h => absurd h List.not_mem_nil⟩⟩⟩
def lw_privs : List (MethodName × Nat) := lw_privs_1 ++ (lw_privs_2 ++ (lw_privs_3 ++ (lw_privs_4)))
def lw_tbl : List Cond := k2_sels lw_privs ++ tables_1
theorem lw_privs_ok : ∀ q ∈ lw_privs, lw_okq q := by
  show ∀ q ∈ lw_privs_1 ++ (lw_privs_2 ++ (lw_privs_3 ++ (lw_privs_4))), lw_okq q
  exact List.forall_mem_append.mpr ⟨lw_r1, List.forall_mem_append.mpr ⟨lw_r2, List.forall_mem_append.mpr ⟨lw_r3, lw_r4⟩⟩⟩
end
section
def RX0 : String := "FormulaScales$Balance"
def RX1 : String := "FormulaScales$Equation"
def RX2 : String := "FormulaScales$Line"
def RX3 : String := "FormulaScales$Reader"
def RX4 : String := "FormulaScales$Text"
def RX5 : String := "FormulaScales"
def RX6 : String := "FormulaScalesModel"
def RL : String := "FormulaScalesLaw"
def RJ0 : String := "java/util/Arrays"
def RJ1 : String := "java/lang/Math"
def TX0 : u_T := fun k => match k with
  | 0 => ("FormulaScales$Balance", "dependent", "[Z", true)
  | 1 => ("FormulaScales$Balance", "bases", "[[J", true)
  | 2 => ("FormulaScales$Balance", "freeCount", "I", false)
  | 3 => ("FormulaScales$Balance", "verdict", "I", false)
  | 4 => ("FormulaScales$Balance", "rows", "[[J", true)
  | 5 => ("FormulaScales$Balance", "leading", "[I", true)
  | 6 => ("FormulaScales$Balance", "rank", "I", false)
  | 7 => ("FormulaScales$Balance", "height", "I", false)
  | 8 => ("FormulaScales$Balance", "width", "I", false)
  | _ => ("FormulaScales$Balance", "pivot", "J", false)
def tyX0 : Nat → FieldType := fun k => match k with
  | 0 => .array .boolean
  | 1 => .array (.array .long)
  | 2 => .int
  | 3 => .int
  | 4 => .array (.array .long)
  | 5 => .array .int
  | 6 => .int
  | 7 => .int
  | 8 => .int
  | _ => .long
theorem nmX0 : ∀ a, a < 10 → ∀ b, b < 10 → a ≠ b → (TX0 a).2.1 ≠ (TX0 b).2.1 := by decide +kernel
theorem tyX0_ok : ∀ k, k < 10 → parseFieldDescriptor (TX0 k).2.2.1 = some (tyX0 k) := by decide +kernel
def TX1 : u_T := fun k => match k with
  | 0 => ("FormulaScales$Equation", "elementNames", "[I", true)
  | 1 => ("FormulaScales$Equation", "amounts", "[[I", true)
  | 2 => ("FormulaScales$Equation", "charges", "[I", true)
  | 3 => ("FormulaScales$Equation", "begins", "[I", true)
  | 4 => ("FormulaScales$Equation", "ends", "[I", true)
  | 5 => ("FormulaScales$Equation", "formulaCount", "I", false)
  | 6 => ("FormulaScales$Equation", "reactantCount", "I", false)
  | 7 => ("FormulaScales$Equation", "elementCount", "I", false)
  | _ => ("FormulaScales$Equation", "charged", "Z", false)
def tyX1 : Nat → FieldType := fun k => match k with
  | 0 => .array .int
  | 1 => .array (.array .int)
  | 2 => .array .int
  | 3 => .array .int
  | 4 => .array .int
  | 5 => .int
  | 6 => .int
  | 7 => .int
  | _ => .boolean
theorem nmX1 : ∀ a, a < 9 → ∀ b, b < 9 → a ≠ b → (TX1 a).2.1 ≠ (TX1 b).2.1 := by decide +kernel
theorem tyX1_ok : ∀ k, k < 9 → parseFieldDescriptor (TX1 k).2.2.1 = some (tyX1 k) := by decide +kernel
def TX2 : u_T := fun k => match k with
  | 0 => ("FormulaScales$Line", "characters", "[C", true)
  | _ => ("FormulaScales$Line", "length", "I", false)
def tyX2 : Nat → FieldType := fun k => match k with
  | 0 => .array .char
  | _ => .int
theorem nmX2 : ∀ a, a < 2 → ∀ b, b < 2 → a ≠ b → (TX2 a).2.1 ≠ (TX2 b).2.1 := by decide +kernel
theorem tyX2_ok : ∀ k, k < 2 → parseFieldDescriptor (TX2 k).2.2.1 = some (tyX2 k) := by decide +kernel
def TX3 : u_T := fun k => match k with
  | 0 => ("FormulaScales$Reader", "text", "LFormulaScales$Text;", true)
  | 1 => ("FormulaScales$Reader", "equation", "LFormulaScales$Equation;", true)
  | 2 => ("FormulaScales$Reader", "fault", "I", false)
  | 3 => ("FormulaScales$Reader", "faultPlace", "I", false)
  | 4 => ("FormulaScales$Reader", "sums", "[[J", true)
  | 5 => ("FormulaScales$Reader", "closings", "[C", true)
  | 6 => ("FormulaScales$Reader", "depth", "I", false)
  | 7 => ("FormulaScales$Reader", "totals", "[J", true)
  | _ => ("FormulaScales$Reader", "charge", "I", false)
def tyX3 : Nat → FieldType := fun k => match k with
  | 0 => .object "FormulaScales$Text"
  | 1 => .object "FormulaScales$Equation"
  | 2 => .int
  | 3 => .int
  | 4 => .array (.array .long)
  | 5 => .array .char
  | 6 => .int
  | 7 => .array .long
  | _ => .int
theorem nmX3 : ∀ a, a < 9 → ∀ b, b < 9 → a ≠ b → (TX3 a).2.1 ≠ (TX3 b).2.1 := by decide +kernel
theorem tyX3_ok : ∀ k, k < 9 → parseFieldDescriptor (TX3 k).2.2.1 = some (tyX3 k) := by decide +kernel
def TX4 : u_T := fun k => match k with
  | 0 => ("FormulaScales$Text", "characters", "[C", true)
  | 1 => ("FormulaScales$Text", "length", "I", false)
  | _ => ("FormulaScales$Text", "place", "I", false)
def tyX4 : Nat → FieldType := fun k => match k with
  | 0 => .array .char
  | 1 => .int
  | _ => .int
theorem nmX4 : ∀ a, a < 3 → ∀ b, b < 3 → a ≠ b → (TX4 a).2.1 ≠ (TX4 b).2.1 := by decide +kernel
theorem tyX4_ok : ∀ k, k < 3 → parseFieldDescriptor (TX4 k).2.2.1 = some (tyX4 k) := by decide +kernel
def TX5 : u_T := fun k => match k with
  | 0 => ("FormulaScales", "reader", "LFormulaScales$Reader;", true)
  | 1 => ("FormulaScales", "balance", "LFormulaScales$Balance;", true)
  | _ => ("FormulaScales", "line", "LFormulaScales$Line;", true)
def tyX5 : Nat → FieldType := fun k => match k with
  | 0 => .object "FormulaScales$Reader"
  | 1 => .object "FormulaScales$Balance"
  | _ => .object "FormulaScales$Line"
theorem nmX5 : ∀ a, a < 3 → ∀ b, b < 3 → a ≠ b → (TX5 a).2.1 ≠ (TX5 b).2.1 := by decide +kernel
theorem tyX5_ok : ∀ k, k < 3 → parseFieldDescriptor (TX5 k).2.2.1 = some (tyX5 k) := by decide +kernel
def TX6 : u_T := fun k => match k with
  | 0 => ("FormulaScalesModel", "thrown", "I", false)
  | 1 => ("FormulaScalesModel", "typed", "I", false)
  | 2 => ("FormulaScalesModel", "draft", "[C", true)
  | 3 => ("FormulaScalesModel", "size", "I", false)
  | 4 => ("FormulaScalesModel", "text", "[C", true)
  | 5 => ("FormulaScalesModel", "pos", "I", false)
  | 6 => ("FormulaScalesModel", "fault", "I", false)
  | 7 => ("FormulaScalesModel", "faultAt", "I", false)
  | 8 => ("FormulaScalesModel", "told", "I", false)
  | 9 => ("FormulaScalesModel", "there", "Z", false)
  | 10 => ("FormulaScalesModel", "count", "I", false)
  | 11 => ("FormulaScalesModel", "begins", "[I", true)
  | 12 => ("FormulaScalesModel", "ends", "[I", true)
  | 13 => ("FormulaScalesModel", "right", "[Z", true)
  | 14 => ("FormulaScalesModel", "charges", "[J", true)
  | 15 => ("FormulaScalesModel", "has", "[J", true)
  | 16 => ("FormulaScalesModel", "elements", "I", false)
  | 17 => ("FormulaScalesModel", "names", "[I", true)
  | 18 => ("FormulaScalesModel", "charged", "Z", false)
  | 19 => ("FormulaScalesModel", "sums", "[J", true)
  | 20 => ("FormulaScalesModel", "bracket", "[C", true)
  | 21 => ("FormulaScalesModel", "open", "I", false)
  | 22 => ("FormulaScalesModel", "leads", "I", false)
  | 23 => ("FormulaScalesModel", "lead", "[I", true)
  | 24 => ("FormulaScalesModel", "isFree", "[Z", true)
  | 25 => ("FormulaScalesModel", "free", "I", false)
  | 26 => ("FormulaScalesModel", "bases", "[J", true)
  | 27 => ("FormulaScalesModel", "column", "[I", true)
  | 28 => ("FormulaScalesModel", "cells", "[J", true)
  | 29 => ("FormulaScalesModel", "lineSize", "I", false)
  | _ => ("FormulaScalesModel", "line", "[C", true)
def tyX6 : Nat → FieldType := fun k => match k with
  | 0 => .int
  | 1 => .int
  | 2 => .array .char
  | 3 => .int
  | 4 => .array .char
  | 5 => .int
  | 6 => .int
  | 7 => .int
  | 8 => .int
  | 9 => .boolean
  | 10 => .int
  | 11 => .array .int
  | 12 => .array .int
  | 13 => .array .boolean
  | 14 => .array .long
  | 15 => .array .long
  | 16 => .int
  | 17 => .array .int
  | 18 => .boolean
  | 19 => .array .long
  | 20 => .array .char
  | 21 => .int
  | 22 => .int
  | 23 => .array .int
  | 24 => .array .boolean
  | 25 => .int
  | 26 => .array .long
  | 27 => .array .int
  | 28 => .array .long
  | 29 => .int
  | _ => .array .char
theorem nmX6 : ∀ a, a < 31 → ∀ b, b < 31 → a ≠ b → (TX6 a).2.1 ≠ (TX6 b).2.1 := by decide +kernel
theorem tyX6_ok : ∀ k, k < 31 → parseFieldDescriptor (TX6 k).2.2.1 = some (tyX6 k) := by decide +kernel
abbrev vwCl : List vw_C := [(RX0, TX0, 10), (RX1, TX1, 9), (RX2, TX2, 2), (RX3, TX3, 9), (RX4, TX4, 3), (RX5, TX5, 3), (RX6, TX6, 31)]
def yX5_init : MethodName := ⟨RX5, "<init>", "()V"⟩
abbrev cX5_init : ByteArray := prog_1_method_1_code
def yX5_type : MethodName := ⟨RX5, "type", "(J)I"⟩
abbrev cX5_type : ByteArray := prog_1_method_2_code
def yX5_read : MethodName := ⟨RX5, "read", "()I"⟩
abbrev cX5_read : ByteArray := prog_1_method_3_code
def yX5_at : MethodName := ⟨RX5, "at", "()I"⟩
abbrev cX5_at : ByteArray := prog_1_method_4_code
def yX5_state : MethodName := ⟨RX5, "state", "()I"⟩
abbrev cX5_state : ByteArray := prog_1_method_5_code
def yX5_freedom : MethodName := ⟨RX5, "freedom", "()I"⟩
abbrev cX5_freedom : ByteArray := prog_1_method_6_code
def yX5_formulas : MethodName := ⟨RX5, "formulas", "()I"⟩
abbrev cX5_formulas : ByteArray := prog_1_method_7_code
def yX5_kinds : MethodName := ⟨RX5, "kinds", "()I"⟩
abbrev cX5_kinds : ByteArray := prog_1_method_8_code
def yX5_name : MethodName := ⟨RX5, "name", "(I)I"⟩
abbrev cX5_name : ByteArray := prog_1_method_9_code
def yX5_has : MethodName := ⟨RX5, "has", "(II)I"⟩
abbrev cX5_has : ByteArray := prog_1_method_10_code
def yX5_product : MethodName := ⟨RX5, "product", "(I)Z"⟩
abbrev cX5_product : ByteArray := prog_1_method_11_code
def yX5_free : MethodName := ⟨RX5, "free", "(I)Z"⟩
abbrev cX5_free : ByteArray := prog_1_method_12_code
def yX5_number : MethodName := ⟨RX5, "number", "(II)J"⟩
abbrev cX5_number : ByteArray := prog_1_method_13_code
def yX5_weight : MethodName := ⟨RX5, "weight", "(I)J"⟩
abbrev cX5_weight : ByteArray := prog_1_method_14_code
def yX5_written : MethodName := ⟨RX5, "written", "(I)I"⟩
abbrev cX5_written : ByteArray := prog_1_method_15_code
def yX5_solves : MethodName := ⟨RX5, "solves", "(IIIII)Z"⟩
abbrev cX5_solves : ByteArray := prog_1_method_16_code
def yX5_charactersIn : MethodName := ⟨RX5, "charactersIn", "(J)I"⟩
abbrev cX5_charactersIn : ByteArray := prog_1_method_17_code
def yX5_byteOf : MethodName := ⟨RX5, "byteOf", "(JI)I"⟩
abbrev cX5_byteOf : ByteArray := prog_1_method_18_code
def yX5_isPrintable : MethodName := ⟨RX5, "isPrintable", "(I)Z"⟩
abbrev cX5_isPrintable : ByteArray := prog_1_method_19_code
def yX5_isDigit : MethodName := ⟨RX5, "isDigit", "(C)Z"⟩
abbrev cX5_isDigit : ByteArray := prog_1_method_20_code
def yX5_isCapital : MethodName := ⟨RX5, "isCapital", "(C)Z"⟩
abbrev cX5_isCapital : ByteArray := prog_1_method_21_code
def yX5_isSmall : MethodName := ⟨RX5, "isSmall", "(C)Z"⟩
abbrev cX5_isSmall : ByteArray := prog_1_method_22_code
def yX6_init : MethodName := ⟨RX6, "<init>", "()V"⟩
abbrev cX6_init : ByteArray := prog_8_method_1_code
def yX6_thrown : MethodName := ⟨RX6, "thrown", "()I"⟩
abbrev cX6_thrown : ByteArray := prog_8_method_2_code
def yX6_type : MethodName := ⟨RX6, "type", "(J)I"⟩
abbrev cX6_type : ByteArray := prog_8_method_3_code
def yX6_fail : MethodName := ⟨RX6, "fail", "(II)V"⟩
abbrev cX6_fail : ByteArray := prog_8_method_4_code
def yX6_failIf : MethodName := ⟨RX6, "failIf", "(ZII)V"⟩
abbrev cX6_failIf : ByteArray := prog_8_method_5_code
def yX6_charAt : MethodName := ⟨RX6, "charAt", "(I)C"⟩
abbrev cX6_charAt : ByteArray := prog_8_method_6_code
def yX6_isDigit : MethodName := ⟨RX6, "isDigit", "(C)Z"⟩
abbrev cX6_isDigit : ByteArray := prog_8_method_7_code
def yX6_isCapital : MethodName := ⟨RX6, "isCapital", "(C)Z"⟩
abbrev cX6_isCapital : ByteArray := prog_8_method_8_code
def yX6_skip : MethodName := ⟨RX6, "skip", "()V"⟩
abbrev cX6_skip : ByteArray := prog_8_method_9_code
def yX6_number0 : MethodName := ⟨RX6, "number0", "()J"⟩
abbrev cX6_number0 : ByteArray := prog_8_method_10_code
def yX6_noteCharge : MethodName := ⟨RX6, "noteCharge", "(I)V"⟩
abbrev cX6_noteCharge : ByteArray := prog_8_method_11_code
def yX6_element : MethodName := ⟨RX6, "element", "()I"⟩
abbrev cX6_element : ByteArray := prog_8_method_12_code
def yX6_clearSums : MethodName := ⟨RX6, "clearSums", "()V"⟩
abbrev cX6_clearSums : ByteArray := prog_8_method_13_code
def yX6_readStep : MethodName := ⟨RX6, "readStep", "(Z)Z"⟩
abbrev cX6_readStep : ByteArray := prog_8_method_14_code
def yX6_readPart : MethodName := ⟨RX6, "readPart", "()V"⟩
abbrev cX6_readPart : ByteArray := prog_8_method_15_code
def yX6_readCharge : MethodName := ⟨RX6, "readCharge", "()V"⟩
abbrev cX6_readCharge : ByteArray := prog_8_method_16_code
def yX6_readFormula : MethodName := ⟨RX6, "readFormula", "(Z)V"⟩
abbrev cX6_readFormula : ByteArray := prog_8_method_17_code
def yX6_readSide : MethodName := ⟨RX6, "readSide", "(Z)V"⟩
abbrev cX6_readSide : ByteArray := prog_8_method_18_code
def yX6_read : MethodName := ⟨RX6, "read", "()I"⟩
abbrev cX6_read : ByteArray := prog_8_method_19_code
def yX6_at : MethodName := ⟨RX6, "at", "()I"⟩
abbrev cX6_at : ByteArray := prog_8_method_20_code
def yX6_kindCount : MethodName := ⟨RX6, "kindCount", "()I"⟩
abbrev cX6_kindCount : ByteArray := prog_8_method_21_code
def yX6_hasOf : MethodName := ⟨RX6, "hasOf", "(II)J"⟩
abbrev cX6_hasOf : ByteArray := prog_8_method_22_code
def yX6_determinant : MethodName := ⟨RX6, "determinant", "(II)J"⟩
abbrev cX6_determinant : ByteArray := prog_8_method_23_code
def yX6_sizeOf : MethodName := ⟨RX6, "sizeOf", "(I)I"⟩
abbrev cX6_sizeOf : ByteArray := prog_8_method_24_code
def yX6_rowsFor : MethodName := ⟨RX6, "rowsFor", "(I)I"⟩
abbrev cX6_rowsFor : ByteArray := prog_8_method_25_code
def yX6_common : MethodName := ⟨RX6, "common", "(JJ)J"⟩
abbrev cX6_common : ByteArray := prog_8_method_26_code
def yX6_noteLeads : MethodName := ⟨RX6, "noteLeads", "()V"⟩
abbrev cX6_noteLeads : ByteArray := prog_8_method_27_code
def yX6_makeBase : MethodName := ⟨RX6, "makeBase", "(I)V"⟩
abbrev cX6_makeBase : ByteArray := prog_8_method_28_code
def yX6_solve : MethodName := ⟨RX6, "solve", "()V"⟩
abbrev cX6_solve : ByteArray := prog_8_method_29_code
def yX6_isBalanced : MethodName := ⟨RX6, "isBalanced", "()Z"⟩
abbrev cX6_isBalanced : ByteArray := prog_8_method_30_code
def yX6_put : MethodName := ⟨RX6, "put", "(I)V"⟩
abbrev cX6_put : ByteArray := prog_8_method_31_code
def yX6_putNumber : MethodName := ⟨RX6, "putNumber", "(J)V"⟩
abbrev cX6_putNumber : ByteArray := prog_8_method_32_code
def yX6_write : MethodName := ⟨RX6, "write", "()V"⟩
abbrev cX6_write : ByteArray := prog_8_method_33_code
def yX6_state : MethodName := ⟨RX6, "state", "()I"⟩
abbrev cX6_state : ByteArray := prog_8_method_34_code
def yX6_freedom : MethodName := ⟨RX6, "freedom", "()I"⟩
abbrev cX6_freedom : ByteArray := prog_8_method_35_code
def yX6_formulas : MethodName := ⟨RX6, "formulas", "()I"⟩
abbrev cX6_formulas : ByteArray := prog_8_method_36_code
def yX6_kinds : MethodName := ⟨RX6, "kinds", "()I"⟩
abbrev cX6_kinds : ByteArray := prog_8_method_37_code
def yX6_isKind : MethodName := ⟨RX6, "isKind", "(I)Z"⟩
abbrev cX6_isKind : ByteArray := prog_8_method_38_code
def yX6_isFormula : MethodName := ⟨RX6, "isFormula", "(I)Z"⟩
abbrev cX6_isFormula : ByteArray := prog_8_method_39_code
def yX6_name : MethodName := ⟨RX6, "name", "(I)I"⟩
abbrev cX6_name : ByteArray := prog_8_method_40_code
def yX6_has : MethodName := ⟨RX6, "has", "(II)I"⟩
abbrev cX6_has : ByteArray := prog_8_method_41_code
def yX6_product : MethodName := ⟨RX6, "product", "(I)Z"⟩
abbrev cX6_product : ByteArray := prog_8_method_42_code
def yX6_free : MethodName := ⟨RX6, "free", "(I)Z"⟩
abbrev cX6_free : ByteArray := prog_8_method_43_code
def yX6_number : MethodName := ⟨RX6, "number", "(II)J"⟩
abbrev cX6_number : ByteArray := prog_8_method_44_code
def yX6_weight : MethodName := ⟨RX6, "weight", "(I)J"⟩
abbrev cX6_weight : ByteArray := prog_8_method_45_code
def yX6_written : MethodName := ⟨RX6, "written", "(I)I"⟩
abbrev cX6_written : ByteArray := prog_8_method_46_code
def yX6_solves : MethodName := ⟨RX6, "solves", "(IIIII)Z"⟩
abbrev cX6_solves : ByteArray := prog_8_method_47_code
def yX0_init : MethodName := ⟨RX0, "<init>", "()V"⟩
abbrev cX0_init : ByteArray := prog_2_method_1_code
def yX0_forget : MethodName := ⟨RX0, "forget", "()V"⟩
abbrev cX0_forget : ByteArray := prog_2_method_2_code
def yX0_solve : MethodName := ⟨RX0, "solve", "(LFormulaScales$Equation;)V"⟩
abbrev cX0_solve : ByteArray := prog_2_method_3_code
def yX0_takeRows : MethodName := ⟨RX0, "takeRows", "(LFormulaScales$Equation;)V"⟩
abbrev cX0_takeRows : ByteArray := prog_2_method_4_code
def yX0_reduce : MethodName := ⟨RX0, "reduce", "()V"⟩
abbrev cX0_reduce : ByteArray := prog_2_method_5_code
def yX0_pivotRow : MethodName := ⟨RX0, "pivotRow", "(I)I"⟩
abbrev cX0_pivotRow : ByteArray := prog_2_method_6_code
def yX0_swapRows : MethodName := ⟨RX0, "swapRows", "(II)V"⟩
abbrev cX0_swapRows : ByteArray := prog_2_method_7_code
def yX0_clearColumn : MethodName := ⟨RX0, "clearColumn", "(I)V"⟩
abbrev cX0_clearColumn : ByteArray := prog_2_method_8_code
def yX0_makeBase : MethodName := ⟨RX0, "makeBase", "([JI)V"⟩
abbrev cX0_makeBase : ByteArray := prog_2_method_9_code
def yX0_judge : MethodName := ⟨RX0, "judge", "()I"⟩
abbrev cX0_judge : ByteArray := prog_2_method_10_code
def yX0_quotient : MethodName := ⟨RX0, "quotient", "(JJ)J"⟩
abbrev cX0_quotient : ByteArray := prog_2_method_11_code
def yX0_commonDivisor : MethodName := ⟨RX0, "commonDivisor", "(JJ)J"⟩
abbrev cX0_commonDivisor : ByteArray := prog_2_method_12_code
def yX1_init : MethodName := ⟨RX1, "<init>", "()V"⟩
abbrev cX1_init : ByteArray := prog_3_method_1_code
def yX1_clear : MethodName := ⟨RX1, "clear", "()V"⟩
abbrev cX1_clear : ByteArray := prog_3_method_2_code
def yX1_kindCount : MethodName := ⟨RX1, "kindCount", "()I"⟩
abbrev cX1_kindCount : ByteArray := prog_3_method_3_code
def yX1_containsFormula : MethodName := ⟨RX1, "containsFormula", "(I)Z"⟩
abbrev cX1_containsFormula : ByteArray := prog_3_method_4_code
def yX1_containsKind : MethodName := ⟨RX1, "containsKind", "(I)Z"⟩
abbrev cX1_containsKind : ByteArray := prog_3_method_5_code
def yX1_isProduct : MethodName := ⟨RX1, "isProduct", "(I)Z"⟩
abbrev cX1_isProduct : ByteArray := prog_3_method_6_code
def yX1_kindName : MethodName := ⟨RX1, "kindName", "(I)I"⟩
abbrev cX1_kindName : ByteArray := prog_3_method_7_code
def yX1_amount : MethodName := ⟨RX1, "amount", "(II)I"⟩
abbrev cX1_amount : ByteArray := prog_3_method_8_code
def yX1_share : MethodName := ⟨RX1, "share", "(IIJ)J"⟩
abbrev cX1_share : ByteArray := prog_3_method_9_code
def yX1_elementKind : MethodName := ⟨RX1, "elementKind", "(I)I"⟩
abbrev cX1_elementKind : ByteArray := prog_3_method_10_code
def yX1_admitCharge : MethodName := ⟨RX1, "admitCharge", "()Z"⟩
abbrev cX1_admitCharge : ByteArray := prog_3_method_11_code
def yX1_addFormula : MethodName := ⟨RX1, "addFormula", "(II[JI)V"⟩
abbrev cX1_addFormula : ByteArray := prog_3_method_12_code
def yX2_init : MethodName := ⟨RX2, "<init>", "()V"⟩
abbrev cX2_init : ByteArray := prog_4_method_1_code
def yX2_characterAt : MethodName := ⟨RX2, "characterAt", "(I)I"⟩
abbrev cX2_characterAt : ByteArray := prog_4_method_2_code
def yX2_write : MethodName := ⟨RX2, "write", "(LFormulaScales$Equation;LFormulaScales$Text;[J)V"⟩
abbrev cX2_write : ByteArray := prog_4_method_3_code
def yX2_add : MethodName := ⟨RX2, "add", "(C)V"⟩
abbrev cX2_add : ByteArray := prog_4_method_4_code
def yX2_addSign : MethodName := ⟨RX2, "addSign", "(C)V"⟩
abbrev cX2_addSign : ByteArray := prog_4_method_5_code
def yX2_addNumber : MethodName := ⟨RX2, "addNumber", "(J)V"⟩
abbrev cX2_addNumber : ByteArray := prog_4_method_6_code
def yX2_turnRound : MethodName := ⟨RX2, "turnRound", "(I)V"⟩
abbrev cX2_turnRound : ByteArray := prog_4_method_7_code
def yX3_init : MethodName := ⟨RX3, "<init>", "()V"⟩
abbrev cX3_init : ByteArray := prog_5_method_1_code
def yX3_readEquation : MethodName := ⟨RX3, "readEquation", "()V"⟩
abbrev cX3_readEquation : ByteArray := prog_5_method_2_code
def yX3_meet : MethodName := ⟨RX3, "meet", "(II)V"⟩
abbrev cX3_meet : ByteArray := prog_5_method_3_code
def yX3_beginFormula : MethodName := ⟨RX3, "beginFormula", "()V"⟩
abbrev cX3_beginFormula : ByteArray := prog_5_method_4_code
def yX3_endFormula : MethodName := ⟨RX3, "endFormula", "(I)V"⟩
abbrev cX3_endFormula : ByteArray := prog_5_method_5_code
def yX3_isTooMuch : MethodName := ⟨RX3, "isTooMuch", "()Z"⟩
abbrev cX3_isTooMuch : ByteArray := prog_5_method_6_code
def yX3_readSign : MethodName := ⟨RX3, "readSign", "()Z"⟩
abbrev cX3_readSign : ByteArray := prog_5_method_7_code
def yX3_readElectron : MethodName := ⟨RX3, "readElectron", "()V"⟩
abbrev cX3_readElectron : ByteArray := prog_5_method_8_code
def yX3_readFormula : MethodName := ⟨RX3, "readFormula", "()V"⟩
abbrev cX3_readFormula : ByteArray := prog_5_method_9_code
def yX3_readCharge : MethodName := ⟨RX3, "readCharge", "()V"⟩
abbrev cX3_readCharge : ByteArray := prog_5_method_10_code
def yX3_readUnits : MethodName := ⟨RX3, "readUnits", "()V"⟩
abbrev cX3_readUnits : ByteArray := prog_5_method_11_code
def yX3_readElement : MethodName := ⟨RX3, "readElement", "(C)V"⟩
abbrev cX3_readElement : ByteArray := prog_5_method_12_code
def yX3_openGroup : MethodName := ⟨RX3, "openGroup", "(C)V"⟩
abbrev cX3_openGroup : ByteArray := prog_5_method_13_code
def yX3_closeGroup : MethodName := ⟨RX3, "closeGroup", "()V"⟩
abbrev cX3_closeGroup : ByteArray := prog_5_method_14_code
def yX3_readNumber : MethodName := ⟨RX3, "readNumber", "()I"⟩
abbrev cX3_readNumber : ByteArray := prog_5_method_15_code
def yX3_addTimes : MethodName := ⟨RX3, "addTimes", "([J[JI)V"⟩
abbrev cX3_addTimes : ByteArray := prog_5_method_16_code
def yX4_init : MethodName := ⟨RX4, "<init>", "()V"⟩
abbrev cX4_init : ByteArray := prog_6_method_1_code
def yX4_add : MethodName := ⟨RX4, "add", "(C)V"⟩
abbrev cX4_add : ByteArray := prog_6_method_2_code
def yX4_clear : MethodName := ⟨RX4, "clear", "()V"⟩
abbrev cX4_clear : ByteArray := prog_6_method_3_code
def yX4_here : MethodName := ⟨RX4, "here", "()C"⟩
abbrev cX4_here : ByteArray := prog_6_method_4_code
def yX4_ahead : MethodName := ⟨RX4, "ahead", "(I)C"⟩
abbrev cX4_ahead : ByteArray := prog_6_method_5_code
def yX4_skipBlanks : MethodName := ⟨RX4, "skipBlanks", "()V"⟩
abbrev cX4_skipBlanks : ByteArray := prog_6_method_6_code
def yL_type : MethodName := ⟨RL, "type", "(LFormulaScales;J[J)I"⟩
abbrev cL_type : ByteArray := method_3_code
def yL_name : MethodName := ⟨RL, "name", "(LFormulaScales;I[J)I"⟩
abbrev cL_name : ByteArray := method_4_code
def yL_has : MethodName := ⟨RL, "has", "(LFormulaScales;II[J)I"⟩
abbrev cL_has : ByteArray := method_5_code
def yL_product : MethodName := ⟨RL, "product", "(LFormulaScales;I[J)I"⟩
abbrev cL_product : ByteArray := method_6_code
def yL_free : MethodName := ⟨RL, "free", "(LFormulaScales;I[J)I"⟩
abbrev cL_free : ByteArray := method_7_code
def yL_number : MethodName := ⟨RL, "number", "(LFormulaScales;II[J)I"⟩
abbrev cL_number : ByteArray := method_8_code
def yL_weight : MethodName := ⟨RL, "weight", "(LFormulaScales;I[J)I"⟩
abbrev cL_weight : ByteArray := method_9_code
def yL_written : MethodName := ⟨RL, "written", "(LFormulaScales;I[J)I"⟩
abbrev cL_written : ByteArray := method_10_code
def yL_solves : MethodName := ⟨RL, "solves", "(LFormulaScales;IIIII[J)I"⟩
abbrev cL_solves : ByteArray := method_11_code
def yJ1_abs : MethodName := ⟨RJ1, "abs", "(J)J"⟩
abbrev cJ1_abs : ByteArray := prog_12_method_61_code
def yJ0_fill : MethodName := ⟨RJ0, "fill", "([JJ)V"⟩
abbrev cJ0_fill : ByteArray := prog_16_method_101_code
end
section
def kws : List Cond := lw_tbl.filter goodWord
theorem k_in {w : Cond} (h : w ∈ lw_tbl) (g : goodWord w = true) : w ∈ kws := List.mem_filter.mpr ⟨h, g⟩
theorem k_good {w : Cond} (h : w ∈ kws) : GoodIn kws (w :: kws) := fun x hx => by
  have hx2 : x ∈ kws := by
    rcases List.mem_cons.mp hx with e | e
    · rw [e]; exact h
    · exact e
  exact ⟨hx2, good_of_word (List.mem_filter.mp hx2).2⟩
theorem hinX0 : ∀ w ∈ u_ws RX0 TX0 10, w ∈ kws := by
  have h : (u_ws RX0 TX0 10).all (fun w => decide (w ∈ lw_tbl) && goodWord w) = true := by decide +kernel
  intro w hw
  have h1 := List.all_eq_true.mp h w hw
  rw [Bool.and_eq_true, decide_eq_true_eq] at h1
  exact k_in h1.1 h1.2
theorem hinX1 : ∀ w ∈ u_ws RX1 TX1 9, w ∈ kws := by
  have h : (u_ws RX1 TX1 9).all (fun w => decide (w ∈ lw_tbl) && goodWord w) = true := by decide +kernel
  intro w hw
  have h1 := List.all_eq_true.mp h w hw
  rw [Bool.and_eq_true, decide_eq_true_eq] at h1
  exact k_in h1.1 h1.2
theorem hinX2 : ∀ w ∈ u_ws RX2 TX2 2, w ∈ kws := by
  have h : (u_ws RX2 TX2 2).all (fun w => decide (w ∈ lw_tbl) && goodWord w) = true := by decide +kernel
  intro w hw
  have h1 := List.all_eq_true.mp h w hw
  rw [Bool.and_eq_true, decide_eq_true_eq] at h1
  exact k_in h1.1 h1.2
theorem hinX3 : ∀ w ∈ u_ws RX3 TX3 9, w ∈ kws := by
  have h : (u_ws RX3 TX3 9).all (fun w => decide (w ∈ lw_tbl) && goodWord w) = true := by decide +kernel
  intro w hw
  have h1 := List.all_eq_true.mp h w hw
  rw [Bool.and_eq_true, decide_eq_true_eq] at h1
  exact k_in h1.1 h1.2
theorem hinX4 : ∀ w ∈ u_ws RX4 TX4 3, w ∈ kws := by
  have h : (u_ws RX4 TX4 3).all (fun w => decide (w ∈ lw_tbl) && goodWord w) = true := by decide +kernel
  intro w hw
  have h1 := List.all_eq_true.mp h w hw
  rw [Bool.and_eq_true, decide_eq_true_eq] at h1
  exact k_in h1.1 h1.2
theorem hinX5 : ∀ w ∈ u_ws RX5 TX5 3, w ∈ kws := by
  have h : (u_ws RX5 TX5 3).all (fun w => decide (w ∈ lw_tbl) && goodWord w) = true := by decide +kernel
  intro w hw
  have h1 := List.all_eq_true.mp h w hw
  rw [Bool.and_eq_true, decide_eq_true_eq] at h1
  exact k_in h1.1 h1.2
theorem hinX6 : ∀ w ∈ u_ws RX6 TX6 31, w ∈ kws := by
  have h : (u_ws RX6 TX6 31).all (fun w => decide (w ∈ lw_tbl) && goodWord w) = true := by decide +kernel
  intro w hw
  have h1 := List.all_eq_true.mp h w hw
  rw [Bool.and_eq_true, decide_eq_true_eq] at h1
  exact k_in h1.1 h1.2
theorem kw_0 {args : Array Value} {s : State} (h : ∀ w ∈ kws, w.before args s = true) : (Cond.selects RX3 yX3_beginFormula yX3_beginFormula).before args s = true := h _ (k_in (List.mem_of_getElem? (i := 0) (by decide +kernel)) (by decide +kernel))
theorem kw_1 {args : Array Value} {s : State} (h : ∀ w ∈ kws, w.before args s = true) : (Cond.selects RX3 yX3_meet yX3_meet).before args s = true := h _ (k_in (List.mem_of_getElem? (i := 1) (by decide +kernel)) (by decide +kernel))
theorem kw_2 {args : Array Value} {s : State} (h : ∀ w ∈ kws, w.before args s = true) : (Cond.selects RX3 yX3_readElectron yX3_readElectron).before args s = true := h _ (k_in (List.mem_of_getElem? (i := 2) (by decide +kernel)) (by decide +kernel))
theorem kw_3 {args : Array Value} {s : State} (h : ∀ w ∈ kws, w.before args s = true) : (Cond.selects RX3 yX3_readFormula yX3_readFormula).before args s = true := h _ (k_in (List.mem_of_getElem? (i := 3) (by decide +kernel)) (by decide +kernel))
theorem kw_4 {args : Array Value} {s : State} (h : ∀ w ∈ kws, w.before args s = true) : (Cond.selects RX3 yX3_readNumber yX3_readNumber).before args s = true := h _ (k_in (List.mem_of_getElem? (i := 4) (by decide +kernel)) (by decide +kernel))
theorem kw_5 {args : Array Value} {s : State} (h : ∀ w ∈ kws, w.before args s = true) : (Cond.selects RX3 yX3_readUnits yX3_readUnits).before args s = true := h _ (k_in (List.mem_of_getElem? (i := 5) (by decide +kernel)) (by decide +kernel))
theorem kw_6 {args : Array Value} {s : State} (h : ∀ w ∈ kws, w.before args s = true) : (Cond.selects RX3 yX3_readElement yX3_readElement).before args s = true := h _ (k_in (List.mem_of_getElem? (i := 6) (by decide +kernel)) (by decide +kernel))
theorem kw_7 {args : Array Value} {s : State} (h : ∀ w ∈ kws, w.before args s = true) : (Cond.selects RX3 yX3_openGroup yX3_openGroup).before args s = true := h _ (k_in (List.mem_of_getElem? (i := 7) (by decide +kernel)) (by decide +kernel))
theorem kw_8 {args : Array Value} {s : State} (h : ∀ w ∈ kws, w.before args s = true) : (Cond.selects RX3 yX3_closeGroup yX3_closeGroup).before args s = true := h _ (k_in (List.mem_of_getElem? (i := 8) (by decide +kernel)) (by decide +kernel))
theorem kw_9 {args : Array Value} {s : State} (h : ∀ w ∈ kws, w.before args s = true) : (Cond.selects RX3 yX3_readCharge yX3_readCharge).before args s = true := h _ (k_in (List.mem_of_getElem? (i := 9) (by decide +kernel)) (by decide +kernel))
theorem kw_10 {args : Array Value} {s : State} (h : ∀ w ∈ kws, w.before args s = true) : (Cond.selects RX3 yX3_endFormula yX3_endFormula).before args s = true := h _ (k_in (List.mem_of_getElem? (i := 10) (by decide +kernel)) (by decide +kernel))
theorem kw_11 {args : Array Value} {s : State} (h : ∀ w ∈ kws, w.before args s = true) : (Cond.selects RX3 yX3_isTooMuch yX3_isTooMuch).before args s = true := h _ (k_in (List.mem_of_getElem? (i := 11) (by decide +kernel)) (by decide +kernel))
theorem kw_12 {args : Array Value} {s : State} (h : ∀ w ∈ kws, w.before args s = true) : (Cond.selects RX3 yX3_readSign yX3_readSign).before args s = true := h _ (k_in (List.mem_of_getElem? (i := 12) (by decide +kernel)) (by decide +kernel))
theorem kw_13 {args : Array Value} {s : State} (h : ∀ w ∈ kws, w.before args s = true) : (Cond.selects RX0 yX0_takeRows yX0_takeRows).before args s = true := h _ (k_in (List.mem_of_getElem? (i := 13) (by decide +kernel)) (by decide +kernel))
theorem kw_14 {args : Array Value} {s : State} (h : ∀ w ∈ kws, w.before args s = true) : (Cond.selects RX0 yX0_reduce yX0_reduce).before args s = true := h _ (k_in (List.mem_of_getElem? (i := 14) (by decide +kernel)) (by decide +kernel))
theorem kw_15 {args : Array Value} {s : State} (h : ∀ w ∈ kws, w.before args s = true) : (Cond.selects RX0 yX0_pivotRow yX0_pivotRow).before args s = true := h _ (k_in (List.mem_of_getElem? (i := 15) (by decide +kernel)) (by decide +kernel))
theorem kw_16 {args : Array Value} {s : State} (h : ∀ w ∈ kws, w.before args s = true) : (Cond.selects RX0 yX0_swapRows yX0_swapRows).before args s = true := h _ (k_in (List.mem_of_getElem? (i := 16) (by decide +kernel)) (by decide +kernel))
theorem kw_17 {args : Array Value} {s : State} (h : ∀ w ∈ kws, w.before args s = true) : (Cond.selects RX0 yX0_clearColumn yX0_clearColumn).before args s = true := h _ (k_in (List.mem_of_getElem? (i := 17) (by decide +kernel)) (by decide +kernel))
theorem kw_18 {args : Array Value} {s : State} (h : ∀ w ∈ kws, w.before args s = true) : (Cond.selects RX0 yX0_makeBase yX0_makeBase).before args s = true := h _ (k_in (List.mem_of_getElem? (i := 18) (by decide +kernel)) (by decide +kernel))
theorem kw_19 {args : Array Value} {s : State} (h : ∀ w ∈ kws, w.before args s = true) : (Cond.selects RX0 yX0_judge yX0_judge).before args s = true := h _ (k_in (List.mem_of_getElem? (i := 19) (by decide +kernel)) (by decide +kernel))
theorem kw_20 {args : Array Value} {s : State} (h : ∀ w ∈ kws, w.before args s = true) : (Cond.selects RX2 yX2_addSign yX2_addSign).before args s = true := h _ (k_in (List.mem_of_getElem? (i := 20) (by decide +kernel)) (by decide +kernel))
theorem kw_21 {args : Array Value} {s : State} (h : ∀ w ∈ kws, w.before args s = true) : (Cond.selects RX2 yX2_add yX2_add).before args s = true := h _ (k_in (List.mem_of_getElem? (i := 21) (by decide +kernel)) (by decide +kernel))
theorem kw_22 {args : Array Value} {s : State} (h : ∀ w ∈ kws, w.before args s = true) : (Cond.selects RX2 yX2_addNumber yX2_addNumber).before args s = true := h _ (k_in (List.mem_of_getElem? (i := 22) (by decide +kernel)) (by decide +kernel))
theorem kw_23 {args : Array Value} {s : State} (h : ∀ w ∈ kws, w.before args s = true) : (Cond.selects RX2 yX2_turnRound yX2_turnRound).before args s = true := h _ (k_in (List.mem_of_getElem? (i := 23) (by decide +kernel)) (by decide +kernel))
theorem kw_25 {args : Array Value} {s : State} (h : ∀ w ∈ kws, w.before args s = true) : (Cond.selects RX6 yX6_readSide yX6_readSide).before args s = true := h _ (k_in (List.mem_of_getElem? (i := 25) (by decide +kernel)) (by decide +kernel))
theorem kw_26 {args : Array Value} {s : State} (h : ∀ w ∈ kws, w.before args s = true) : (Cond.selects RX6 yX6_skip yX6_skip).before args s = true := h _ (k_in (List.mem_of_getElem? (i := 26) (by decide +kernel)) (by decide +kernel))
theorem kw_27 {args : Array Value} {s : State} (h : ∀ w ∈ kws, w.before args s = true) : (Cond.selects RX6 yX6_charAt yX6_charAt).before args s = true := h _ (k_in (List.mem_of_getElem? (i := 27) (by decide +kernel)) (by decide +kernel))
theorem kw_28 {args : Array Value} {s : State} (h : ∀ w ∈ kws, w.before args s = true) : (Cond.selects RX6 yX6_failIf yX6_failIf).before args s = true := h _ (k_in (List.mem_of_getElem? (i := 28) (by decide +kernel)) (by decide +kernel))
theorem kw_29 {args : Array Value} {s : State} (h : ∀ w ∈ kws, w.before args s = true) : (Cond.selects RX6 yX6_fail yX6_fail).before args s = true := h _ (k_in (List.mem_of_getElem? (i := 29) (by decide +kernel)) (by decide +kernel))
theorem kw_30 {args : Array Value} {s : State} (h : ∀ w ∈ kws, w.before args s = true) : (Cond.selects RX6 yX6_readFormula yX6_readFormula).before args s = true := h _ (k_in (List.mem_of_getElem? (i := 30) (by decide +kernel)) (by decide +kernel))
theorem kw_31 {args : Array Value} {s : State} (h : ∀ w ∈ kws, w.before args s = true) : (Cond.selects RX6 yX6_noteCharge yX6_noteCharge).before args s = true := h _ (k_in (List.mem_of_getElem? (i := 31) (by decide +kernel)) (by decide +kernel))
theorem kw_32 {args : Array Value} {s : State} (h : ∀ w ∈ kws, w.before args s = true) : (Cond.selects RX6 yX6_readPart yX6_readPart).before args s = true := h _ (k_in (List.mem_of_getElem? (i := 32) (by decide +kernel)) (by decide +kernel))
theorem kw_33 {args : Array Value} {s : State} (h : ∀ w ∈ kws, w.before args s = true) : (Cond.selects RX6 yX6_number0 yX6_number0).before args s = true := h _ (k_in (List.mem_of_getElem? (i := 33) (by decide +kernel)) (by decide +kernel))
theorem kw_34 {args : Array Value} {s : State} (h : ∀ w ∈ kws, w.before args s = true) : (Cond.selects RX6 yX6_clearSums yX6_clearSums).before args s = true := h _ (k_in (List.mem_of_getElem? (i := 34) (by decide +kernel)) (by decide +kernel))
theorem kw_35 {args : Array Value} {s : State} (h : ∀ w ∈ kws, w.before args s = true) : (Cond.selects RX6 yX6_readStep yX6_readStep).before args s = true := h _ (k_in (List.mem_of_getElem? (i := 35) (by decide +kernel)) (by decide +kernel))
theorem kw_36 {args : Array Value} {s : State} (h : ∀ w ∈ kws, w.before args s = true) : (Cond.selects RX6 yX6_element yX6_element).before args s = true := h _ (k_in (List.mem_of_getElem? (i := 36) (by decide +kernel)) (by decide +kernel))
theorem kw_37 {args : Array Value} {s : State} (h : ∀ w ∈ kws, w.before args s = true) : (Cond.selects RX6 yX6_readCharge yX6_readCharge).before args s = true := h _ (k_in (List.mem_of_getElem? (i := 37) (by decide +kernel)) (by decide +kernel))
theorem kw_38 {args : Array Value} {s : State} (h : ∀ w ∈ kws, w.before args s = true) : (Cond.selects RX6 yX6_solve yX6_solve).before args s = true := h _ (k_in (List.mem_of_getElem? (i := 38) (by decide +kernel)) (by decide +kernel))
theorem kw_39 {args : Array Value} {s : State} (h : ∀ w ∈ kws, w.before args s = true) : (Cond.selects RX6 yX6_noteLeads yX6_noteLeads).before args s = true := h _ (k_in (List.mem_of_getElem? (i := 39) (by decide +kernel)) (by decide +kernel))
theorem kw_40 {args : Array Value} {s : State} (h : ∀ w ∈ kws, w.before args s = true) : (Cond.selects RX6 yX6_kindCount yX6_kindCount).before args s = true := h _ (k_in (List.mem_of_getElem? (i := 40) (by decide +kernel)) (by decide +kernel))
theorem kw_41 {args : Array Value} {s : State} (h : ∀ w ∈ kws, w.before args s = true) : (Cond.selects RX6 yX6_rowsFor yX6_rowsFor).before args s = true := h _ (k_in (List.mem_of_getElem? (i := 41) (by decide +kernel)) (by decide +kernel))
theorem kw_42 {args : Array Value} {s : State} (h : ∀ w ∈ kws, w.before args s = true) : (Cond.selects RX6 yX6_determinant yX6_determinant).before args s = true := h _ (k_in (List.mem_of_getElem? (i := 42) (by decide +kernel)) (by decide +kernel))
theorem kw_43 {args : Array Value} {s : State} (h : ∀ w ∈ kws, w.before args s = true) : (Cond.selects RX6 yX6_hasOf yX6_hasOf).before args s = true := h _ (k_in (List.mem_of_getElem? (i := 43) (by decide +kernel)) (by decide +kernel))
theorem kw_44 {args : Array Value} {s : State} (h : ∀ w ∈ kws, w.before args s = true) : (Cond.selects RX6 yX6_makeBase yX6_makeBase).before args s = true := h _ (k_in (List.mem_of_getElem? (i := 44) (by decide +kernel)) (by decide +kernel))
theorem kw_45 {args : Array Value} {s : State} (h : ∀ w ∈ kws, w.before args s = true) : (Cond.selects RX6 yX6_write yX6_write).before args s = true := h _ (k_in (List.mem_of_getElem? (i := 45) (by decide +kernel)) (by decide +kernel))
theorem kw_46 {args : Array Value} {s : State} (h : ∀ w ∈ kws, w.before args s = true) : (Cond.selects RX6 yX6_isBalanced yX6_isBalanced).before args s = true := h _ (k_in (List.mem_of_getElem? (i := 46) (by decide +kernel)) (by decide +kernel))
theorem kw_47 {args : Array Value} {s : State} (h : ∀ w ∈ kws, w.before args s = true) : (Cond.selects RX6 yX6_put yX6_put).before args s = true := h _ (k_in (List.mem_of_getElem? (i := 47) (by decide +kernel)) (by decide +kernel))
theorem kw_48 {args : Array Value} {s : State} (h : ∀ w ∈ kws, w.before args s = true) : (Cond.selects RX6 yX6_putNumber yX6_putNumber).before args s = true := h _ (k_in (List.mem_of_getElem? (i := 48) (by decide +kernel)) (by decide +kernel))
theorem kw_49 {args : Array Value} {s : State} (h : ∀ w ∈ kws, w.before args s = true) : (Cond.selects RX6 yX6_isKind yX6_isKind).before args s = true := h _ (k_in (List.mem_of_getElem? (i := 49) (by decide +kernel)) (by decide +kernel))
theorem kw_50 {args : Array Value} {s : State} (h : ∀ w ∈ kws, w.before args s = true) : (Cond.selects RX6 yX6_isFormula yX6_isFormula).before args s = true := h _ (k_in (List.mem_of_getElem? (i := 50) (by decide +kernel)) (by decide +kernel))
theorem kw_52 {args : Array Value} {s : State} (h : ∀ w ∈ kws, w.before args s = true) : (Cond.initialized RX5).before args s = true := h _ (k_in (List.mem_of_getElem? (i := 52) (by decide +kernel)) (by decide +kernel))
theorem kw_53 {args : Array Value} {s : State} (h : ∀ w ∈ kws, w.before args s = true) : (Cond.initialized RX3).before args s = true := h _ (k_in (List.mem_of_getElem? (i := 53) (by decide +kernel)) (by decide +kernel))
theorem kw_54 {args : Array Value} {s : State} (h : ∀ w ∈ kws, w.before args s = true) : (Cond.initialized RX4).before args s = true := h _ (k_in (List.mem_of_getElem? (i := 54) (by decide +kernel)) (by decide +kernel))
theorem kw_55 {args : Array Value} {s : State} (h : ∀ w ∈ kws, w.before args s = true) : (Cond.initialized RX1).before args s = true := h _ (k_in (List.mem_of_getElem? (i := 55) (by decide +kernel)) (by decide +kernel))
theorem kw_56 {args : Array Value} {s : State} (h : ∀ w ∈ kws, w.before args s = true) : (Cond.initialized RX0).before args s = true := h _ (k_in (List.mem_of_getElem? (i := 56) (by decide +kernel)) (by decide +kernel))
theorem kw_57 {args : Array Value} {s : State} (h : ∀ w ∈ kws, w.before args s = true) : (Cond.initialized RX2).before args s = true := h _ (k_in (List.mem_of_getElem? (i := 57) (by decide +kernel)) (by decide +kernel))
theorem kw_58 {args : Array Value} {s : State} (h : ∀ w ∈ kws, w.before args s = true) : (Cond.initialized RX6).before args s = true := h _ (k_in (List.mem_of_getElem? (i := 58) (by decide +kernel)) (by decide +kernel))
theorem kw_62 {args : Array Value} {s : State} (h : ∀ w ∈ kws, w.before args s = true) : (Cond.initialized "java/lang/IllegalArgumentException").before args s = true := h _ (k_in (List.mem_of_getElem? (i := 62) (by decide +kernel)) (by decide +kernel))
theorem kw_63 {args : Array Value} {s : State} (h : ∀ w ∈ kws, w.before args s = true) : (Cond.initialized "java/lang/UnsupportedOperationException").before args s = true := h _ (k_in (List.mem_of_getElem? (i := 63) (by decide +kernel)) (by decide +kernel))
theorem kw_64 {args : Array Value} {s : State} (h : ∀ w ∈ kws, w.before args s = true) : (Cond.initialized RJ0).before args s = true := h _ (k_in (List.mem_of_getElem? (i := 64) (by decide +kernel)) (by decide +kernel))
theorem kw_65 {args : Array Value} {s : State} (h : ∀ w ∈ kws, w.before args s = true) : (Cond.initialized RJ1).before args s = true := h _ (k_in (List.mem_of_getElem? (i := 65) (by decide +kernel)) (by decide +kernel))
theorem kw_66 {args : Array Value} {s : State} (h : ∀ w ∈ kws, w.before args s = true) : (Cond.initialized "java/util/NoSuchElementException").before args s = true := h _ (k_in (List.mem_of_getElem? (i := 66) (by decide +kernel)) (by decide +kernel))
theorem kw_67 {args : Array Value} {s : State} (h : ∀ w ∈ kws, w.before args s = true) : (Cond.initialized "java/lang/IllegalStateException").before args s = true := h _ (k_in (List.mem_of_getElem? (i := 67) (by decide +kernel)) (by decide +kernel))
theorem kw_88 {args : Array Value} {s : State} (h : ∀ w ∈ kws, w.before args s = true) : (Cond.fieldLink RX4 9 RX4 "characters" "[C").before args s = true := h _ (k_in (List.mem_of_getElem? (i := 88) (by decide +kernel)) (by decide +kernel))
theorem kw_89 {args : Array Value} {s : State} (h : ∀ w ∈ kws, w.before args s = true) : (Cond.fieldLink RX2 45 RX4 "characters" "[C").before args s = true := h _ (k_in (List.mem_of_getElem? (i := 89) (by decide +kernel)) (by decide +kernel))
theorem kw_90 {args : Array Value} {s : State} (h : ∀ w ∈ kws, w.before args s = true) : (Cond.fieldLink RX4 15 RX4 "length" "I").before args s = true := h _ (k_in (List.mem_of_getElem? (i := 90) (by decide +kernel)) (by decide +kernel))
theorem kw_91 {args : Array Value} {s : State} (h : ∀ w ∈ kws, w.before args s = true) : (Cond.fieldLink RX5 49 RX4 "length" "I").before args s = true := h _ (k_in (List.mem_of_getElem? (i := 91) (by decide +kernel)) (by decide +kernel))
theorem kw_92 {args : Array Value} {s : State} (h : ∀ w ∈ kws, w.before args s = true) : (Cond.fieldLink RX4 19 RX4 "place" "I").before args s = true := h _ (k_in (List.mem_of_getElem? (i := 92) (by decide +kernel)) (by decide +kernel))
theorem kw_93 {args : Array Value} {s : State} (h : ∀ w ∈ kws, w.before args s = true) : (Cond.fieldLink RX3 51 RX4 "place" "I").before args s = true := h _ (k_in (List.mem_of_getElem? (i := 93) (by decide +kernel)) (by decide +kernel))
theorem kw_110 {args : Array Value} {s : State} (h : ∀ w ∈ kws, w.before args s = true) : (Cond.fieldLink RX1 9 RX1 "elementNames" "[I").before args s = true := h _ (k_in (List.mem_of_getElem? (i := 110) (by decide +kernel)) (by decide +kernel))
theorem kw_111 {args : Array Value} {s : State} (h : ∀ w ∈ kws, w.before args s = true) : (Cond.fieldLink RX1 17 RX1 "amounts" "[[I").before args s = true := h _ (k_in (List.mem_of_getElem? (i := 111) (by decide +kernel)) (by decide +kernel))
theorem kw_112 {args : Array Value} {s : State} (h : ∀ w ∈ kws, w.before args s = true) : (Cond.fieldLink RX1 20 RX1 "charges" "[I").before args s = true := h _ (k_in (List.mem_of_getElem? (i := 112) (by decide +kernel)) (by decide +kernel))
theorem kw_113 {args : Array Value} {s : State} (h : ∀ w ∈ kws, w.before args s = true) : (Cond.fieldLink RX1 23 RX1 "begins" "[I").before args s = true := h _ (k_in (List.mem_of_getElem? (i := 113) (by decide +kernel)) (by decide +kernel))
theorem kw_114 {args : Array Value} {s : State} (h : ∀ w ∈ kws, w.before args s = true) : (Cond.fieldLink RX2 38 RX1 "begins" "[I").before args s = true := h _ (k_in (List.mem_of_getElem? (i := 114) (by decide +kernel)) (by decide +kernel))
theorem kw_115 {args : Array Value} {s : State} (h : ∀ w ∈ kws, w.before args s = true) : (Cond.fieldLink RX1 26 RX1 "ends" "[I").before args s = true := h _ (k_in (List.mem_of_getElem? (i := 115) (by decide +kernel)) (by decide +kernel))
theorem kw_116 {args : Array Value} {s : State} (h : ∀ w ∈ kws, w.before args s = true) : (Cond.fieldLink RX2 42 RX1 "ends" "[I").before args s = true := h _ (k_in (List.mem_of_getElem? (i := 116) (by decide +kernel)) (by decide +kernel))
theorem kw_117 {args : Array Value} {s : State} (h : ∀ w ∈ kws, w.before args s = true) : (Cond.fieldLink RX1 29 RX1 "formulaCount" "I").before args s = true := h _ (k_in (List.mem_of_getElem? (i := 117) (by decide +kernel)) (by decide +kernel))
theorem kw_118 {args : Array Value} {s : State} (h : ∀ w ∈ kws, w.before args s = true) : (Cond.fieldLink RX3 63 RX1 "formulaCount" "I").before args s = true := h _ (k_in (List.mem_of_getElem? (i := 118) (by decide +kernel)) (by decide +kernel))
theorem kw_119 {args : Array Value} {s : State} (h : ∀ w ∈ kws, w.before args s = true) : (Cond.fieldLink RX2 19 RX1 "formulaCount" "I").before args s = true := h _ (k_in (List.mem_of_getElem? (i := 119) (by decide +kernel)) (by decide +kernel))
theorem kw_120 {args : Array Value} {s : State} (h : ∀ w ∈ kws, w.before args s = true) : (Cond.fieldLink RX5 96 RX1 "formulaCount" "I").before args s = true := h _ (k_in (List.mem_of_getElem? (i := 120) (by decide +kernel)) (by decide +kernel))
theorem kw_121 {args : Array Value} {s : State} (h : ∀ w ∈ kws, w.before args s = true) : (Cond.fieldLink RX0 67 RX1 "formulaCount" "I").before args s = true := h _ (k_in (List.mem_of_getElem? (i := 121) (by decide +kernel)) (by decide +kernel))
theorem kw_122 {args : Array Value} {s : State} (h : ∀ w ∈ kws, w.before args s = true) : (Cond.fieldLink RX1 33 RX1 "reactantCount" "I").before args s = true := h _ (k_in (List.mem_of_getElem? (i := 122) (by decide +kernel)) (by decide +kernel))
theorem kw_123 {args : Array Value} {s : State} (h : ∀ w ∈ kws, w.before args s = true) : (Cond.fieldLink RX2 24 RX1 "reactantCount" "I").before args s = true := h _ (k_in (List.mem_of_getElem? (i := 123) (by decide +kernel)) (by decide +kernel))
theorem kw_124 {args : Array Value} {s : State} (h : ∀ w ∈ kws, w.before args s = true) : (Cond.fieldLink RX3 103 RX1 "reactantCount" "I").before args s = true := h _ (k_in (List.mem_of_getElem? (i := 124) (by decide +kernel)) (by decide +kernel))
theorem kw_125 {args : Array Value} {s : State} (h : ∀ w ∈ kws, w.before args s = true) : (Cond.fieldLink RX5 136 RX1 "reactantCount" "I").before args s = true := h _ (k_in (List.mem_of_getElem? (i := 125) (by decide +kernel)) (by decide +kernel))
theorem kw_126 {args : Array Value} {s : State} (h : ∀ w ∈ kws, w.before args s = true) : (Cond.fieldLink RX1 36 RX1 "elementCount" "I").before args s = true := h _ (k_in (List.mem_of_getElem? (i := 126) (by decide +kernel)) (by decide +kernel))
theorem kw_127 {args : Array Value} {s : State} (h : ∀ w ∈ kws, w.before args s = true) : (Cond.fieldLink RX1 39 RX1 "charged" "Z").before args s = true := h _ (k_in (List.mem_of_getElem? (i := 127) (by decide +kernel)) (by decide +kernel))
theorem kw_150 {args : Array Value} {s : State} (h : ∀ w ∈ kws, w.before args s = true) : (Cond.fieldLink RX3 12 RX3 "text" "LFormulaScales$Text;").before args s = true := h _ (k_in (List.mem_of_getElem? (i := 150) (by decide +kernel)) (by decide +kernel))
theorem kw_151 {args : Array Value} {s : State} (h : ∀ w ∈ kws, w.before args s = true) : (Cond.fieldLink RX5 45 RX3 "text" "LFormulaScales$Text;").before args s = true := h _ (k_in (List.mem_of_getElem? (i := 151) (by decide +kernel)) (by decide +kernel))
theorem kw_152 {args : Array Value} {s : State} (h : ∀ w ∈ kws, w.before args s = true) : (Cond.fieldLink RX3 21 RX3 "equation" "LFormulaScales$Equation;").before args s = true := h _ (k_in (List.mem_of_getElem? (i := 152) (by decide +kernel)) (by decide +kernel))
theorem kw_153 {args : Array Value} {s : State} (h : ∀ w ∈ kws, w.before args s = true) : (Cond.fieldLink RX5 62 RX3 "equation" "LFormulaScales$Equation;").before args s = true := h _ (k_in (List.mem_of_getElem? (i := 153) (by decide +kernel)) (by decide +kernel))
theorem kw_154 {args : Array Value} {s : State} (h : ∀ w ∈ kws, w.before args s = true) : (Cond.fieldLink RX3 25 RX3 "fault" "I").before args s = true := h _ (k_in (List.mem_of_getElem? (i := 154) (by decide +kernel)) (by decide +kernel))
theorem kw_155 {args : Array Value} {s : State} (h : ∀ w ∈ kws, w.before args s = true) : (Cond.fieldLink RX5 69 RX3 "fault" "I").before args s = true := h _ (k_in (List.mem_of_getElem? (i := 155) (by decide +kernel)) (by decide +kernel))
theorem kw_156 {args : Array Value} {s : State} (h : ∀ w ∈ kws, w.before args s = true) : (Cond.fieldLink RX3 29 RX3 "faultPlace" "I").before args s = true := h _ (k_in (List.mem_of_getElem? (i := 156) (by decide +kernel)) (by decide +kernel))
theorem kw_157 {args : Array Value} {s : State} (h : ∀ w ∈ kws, w.before args s = true) : (Cond.fieldLink RX5 99 RX3 "faultPlace" "I").before args s = true := h _ (k_in (List.mem_of_getElem? (i := 157) (by decide +kernel)) (by decide +kernel))
theorem kw_158 {args : Array Value} {s : State} (h : ∀ w ∈ kws, w.before args s = true) : (Cond.fieldLink RX3 34 RX3 "sums" "[[J").before args s = true := h _ (k_in (List.mem_of_getElem? (i := 158) (by decide +kernel)) (by decide +kernel))
theorem kw_159 {args : Array Value} {s : State} (h : ∀ w ∈ kws, w.before args s = true) : (Cond.fieldLink RX3 37 RX3 "closings" "[C").before args s = true := h _ (k_in (List.mem_of_getElem? (i := 159) (by decide +kernel)) (by decide +kernel))
theorem kw_160 {args : Array Value} {s : State} (h : ∀ w ∈ kws, w.before args s = true) : (Cond.fieldLink RX3 41 RX3 "depth" "I").before args s = true := h _ (k_in (List.mem_of_getElem? (i := 160) (by decide +kernel)) (by decide +kernel))
theorem kw_161 {args : Array Value} {s : State} (h : ∀ w ∈ kws, w.before args s = true) : (Cond.fieldLink RX3 44 RX3 "totals" "[J").before args s = true := h _ (k_in (List.mem_of_getElem? (i := 161) (by decide +kernel)) (by decide +kernel))
theorem kw_162 {args : Array Value} {s : State} (h : ∀ w ∈ kws, w.before args s = true) : (Cond.fieldLink RX3 48 RX3 "charge" "I").before args s = true := h _ (k_in (List.mem_of_getElem? (i := 162) (by decide +kernel)) (by decide +kernel))
theorem kw_190 {args : Array Value} {s : State} (h : ∀ w ∈ kws, w.before args s = true) : (Cond.fieldLink RX0 9 RX0 "dependent" "[Z").before args s = true := h _ (k_in (List.mem_of_getElem? (i := 190) (by decide +kernel)) (by decide +kernel))
theorem kw_191 {args : Array Value} {s : State} (h : ∀ w ∈ kws, w.before args s = true) : (Cond.fieldLink RX5 129 RX0 "dependent" "[Z").before args s = true := h _ (k_in (List.mem_of_getElem? (i := 191) (by decide +kernel)) (by decide +kernel))
theorem kw_192 {args : Array Value} {s : State} (h : ∀ w ∈ kws, w.before args s = true) : (Cond.fieldLink RX0 17 RX0 "bases" "[[J").before args s = true := h _ (k_in (List.mem_of_getElem? (i := 192) (by decide +kernel)) (by decide +kernel))
theorem kw_193 {args : Array Value} {s : State} (h : ∀ w ∈ kws, w.before args s = true) : (Cond.fieldLink RX5 87 RX0 "bases" "[[J").before args s = true := h _ (k_in (List.mem_of_getElem? (i := 193) (by decide +kernel)) (by decide +kernel))
theorem kw_194 {args : Array Value} {s : State} (h : ∀ w ∈ kws, w.before args s = true) : (Cond.fieldLink RX0 20 RX0 "freeCount" "I").before args s = true := h _ (k_in (List.mem_of_getElem? (i := 194) (by decide +kernel)) (by decide +kernel))
theorem kw_195 {args : Array Value} {s : State} (h : ∀ w ∈ kws, w.before args s = true) : (Cond.fieldLink RX5 102 RX0 "freeCount" "I").before args s = true := h _ (k_in (List.mem_of_getElem? (i := 195) (by decide +kernel)) (by decide +kernel))
theorem kw_196 {args : Array Value} {s : State} (h : ∀ w ∈ kws, w.before args s = true) : (Cond.fieldLink RX0 24 RX0 "verdict" "I").before args s = true := h _ (k_in (List.mem_of_getElem? (i := 196) (by decide +kernel)) (by decide +kernel))
theorem kw_197 {args : Array Value} {s : State} (h : ∀ w ∈ kws, w.before args s = true) : (Cond.fieldLink RX5 84 RX0 "verdict" "I").before args s = true := h _ (k_in (List.mem_of_getElem? (i := 197) (by decide +kernel)) (by decide +kernel))
theorem kw_198 {args : Array Value} {s : State} (h : ∀ w ∈ kws, w.before args s = true) : (Cond.fieldLink RX0 27 RX0 "rows" "[[J").before args s = true := h _ (k_in (List.mem_of_getElem? (i := 198) (by decide +kernel)) (by decide +kernel))
theorem kw_199 {args : Array Value} {s : State} (h : ∀ w ∈ kws, w.before args s = true) : (Cond.fieldLink RX0 30 RX0 "leading" "[I").before args s = true := h _ (k_in (List.mem_of_getElem? (i := 199) (by decide +kernel)) (by decide +kernel))
theorem kw_200 {args : Array Value} {s : State} (h : ∀ w ∈ kws, w.before args s = true) : (Cond.fieldLink RX0 34 RX0 "rank" "I").before args s = true := h _ (k_in (List.mem_of_getElem? (i := 200) (by decide +kernel)) (by decide +kernel))
theorem kw_201 {args : Array Value} {s : State} (h : ∀ w ∈ kws, w.before args s = true) : (Cond.fieldLink RX0 37 RX0 "height" "I").before args s = true := h _ (k_in (List.mem_of_getElem? (i := 201) (by decide +kernel)) (by decide +kernel))
theorem kw_202 {args : Array Value} {s : State} (h : ∀ w ∈ kws, w.before args s = true) : (Cond.fieldLink RX0 40 RX0 "width" "I").before args s = true := h _ (k_in (List.mem_of_getElem? (i := 202) (by decide +kernel)) (by decide +kernel))
theorem kw_203 {args : Array Value} {s : State} (h : ∀ w ∈ kws, w.before args s = true) : (Cond.fieldLink RX0 43 RX0 "pivot" "J").before args s = true := h _ (k_in (List.mem_of_getElem? (i := 203) (by decide +kernel)) (by decide +kernel))
theorem kw_232 {args : Array Value} {s : State} (h : ∀ w ∈ kws, w.before args s = true) : (Cond.fieldLink RX2 9 RX2 "characters" "[C").before args s = true := h _ (k_in (List.mem_of_getElem? (i := 232) (by decide +kernel)) (by decide +kernel))
theorem kw_233 {args : Array Value} {s : State} (h : ∀ w ∈ kws, w.before args s = true) : (Cond.fieldLink RX2 15 RX2 "length" "I").before args s = true := h _ (k_in (List.mem_of_getElem? (i := 233) (by decide +kernel)) (by decide +kernel))
theorem kw_239 {args : Array Value} {s : State} (h : ∀ w ∈ kws, w.before args s = true) : (Cond.fieldLink RX5 10 RX5 "reader" "LFormulaScales$Reader;").before args s = true := h _ (k_in (List.mem_of_getElem? (i := 239) (by decide +kernel)) (by decide +kernel))
theorem kw_240 {args : Array Value} {s : State} (h : ∀ w ∈ kws, w.before args s = true) : (Cond.fieldLink RX5 19 RX5 "balance" "LFormulaScales$Balance;").before args s = true := h _ (k_in (List.mem_of_getElem? (i := 240) (by decide +kernel)) (by decide +kernel))
theorem kw_241 {args : Array Value} {s : State} (h : ∀ w ∈ kws, w.before args s = true) : (Cond.fieldLink RX5 26 RX5 "line" "LFormulaScales$Line;").before args s = true := h _ (k_in (List.mem_of_getElem? (i := 241) (by decide +kernel)) (by decide +kernel))
theorem kw_250 {args : Array Value} {s : State} (h : ∀ w ∈ kws, w.before args s = true) : (Cond.instanceMethod yX5_read).before args s = true := h _ (k_in (List.mem_of_getElem? (i := 250) (by decide +kernel)) (by decide +kernel))
theorem kw_251 {args : Array Value} {s : State} (h : ∀ w ∈ kws, w.before args s = true) : (Cond.selects RX5 yX5_read yX5_read).before args s = true := h _ (k_in (List.mem_of_getElem? (i := 251) (by decide +kernel)) (by decide +kernel))
theorem kc_252 : Cond.code yX5_read prog_1_method_3_code 2 (some .int) ∈ kws := k_in (List.mem_of_getElem? (i := 252) (by decide +kernel)) (by decide +kernel)
theorem kw_253 {args : Array Value} {s : State} (h : ∀ w ∈ kws, w.before args s = true) : (Cond.methodLink RX5 66 yX3_readEquation).before args s = true := h _ (k_in (List.mem_of_getElem? (i := 253) (by decide +kernel)) (by decide +kernel))
theorem kw_254 {args : Array Value} {s : State} (h : ∀ w ∈ kws, w.before args s = true) : (Cond.instanceMethod yX3_readEquation).before args s = true := h _ (k_in (List.mem_of_getElem? (i := 254) (by decide +kernel)) (by decide +kernel))
theorem kw_255 {args : Array Value} {s : State} (h : ∀ w ∈ kws, w.before args s = true) : (Cond.selects RX3 yX3_readEquation yX3_readEquation).before args s = true := h _ (k_in (List.mem_of_getElem? (i := 255) (by decide +kernel)) (by decide +kernel))
theorem kc_256 : Cond.code yX3_readEquation prog_5_method_2_code 4 none ∈ kws := k_in (List.mem_of_getElem? (i := 256) (by decide +kernel)) (by decide +kernel)
theorem kw_257 {args : Array Value} {s : State} (h : ∀ w ∈ kws, w.before args s = true) : (Cond.methodLink RX3 54 yX1_clear).before args s = true := h _ (k_in (List.mem_of_getElem? (i := 257) (by decide +kernel)) (by decide +kernel))
theorem kw_258 {args : Array Value} {s : State} (h : ∀ w ∈ kws, w.before args s = true) : (Cond.instanceMethod yX1_clear).before args s = true := h _ (k_in (List.mem_of_getElem? (i := 258) (by decide +kernel)) (by decide +kernel))
theorem kw_259 {args : Array Value} {s : State} (h : ∀ w ∈ kws, w.before args s = true) : (Cond.selects RX1 yX1_clear yX1_clear).before args s = true := h _ (k_in (List.mem_of_getElem? (i := 259) (by decide +kernel)) (by decide +kernel))
theorem kc_260 : Cond.code yX1_clear prog_3_method_2_code 1 none ∈ kws := k_in (List.mem_of_getElem? (i := 260) (by decide +kernel)) (by decide +kernel)
theorem kw_261 {args : Array Value} {s : State} (h : ∀ w ∈ kws, w.before args s = true) : (Cond.methodLink RX3 57 yX4_skipBlanks).before args s = true := h _ (k_in (List.mem_of_getElem? (i := 261) (by decide +kernel)) (by decide +kernel))
theorem kw_262 {args : Array Value} {s : State} (h : ∀ w ∈ kws, w.before args s = true) : (Cond.instanceMethod yX4_skipBlanks).before args s = true := h _ (k_in (List.mem_of_getElem? (i := 262) (by decide +kernel)) (by decide +kernel))
theorem kw_263 {args : Array Value} {s : State} (h : ∀ w ∈ kws, w.before args s = true) : (Cond.selects RX4 yX4_skipBlanks yX4_skipBlanks).before args s = true := h _ (k_in (List.mem_of_getElem? (i := 263) (by decide +kernel)) (by decide +kernel))
theorem kc_264 : Cond.code yX4_skipBlanks prog_6_method_6_code 1 none ∈ kws := k_in (List.mem_of_getElem? (i := 264) (by decide +kernel)) (by decide +kernel)
theorem kw_265 {args : Array Value} {s : State} (h : ∀ w ∈ kws, w.before args s = true) : (Cond.methodLink RX3 60 yX3_beginFormula).before args s = true := h _ (k_in (List.mem_of_getElem? (i := 265) (by decide +kernel)) (by decide +kernel))
theorem kw_267 {args : Array Value} {s : State} (h : ∀ w ∈ kws, w.before args s = true) : (Cond.instanceMethod yX3_beginFormula).before args s = true := h _ (k_in (List.mem_of_getElem? (i := 267) (by decide +kernel)) (by decide +kernel))
theorem kc_268 : Cond.code yX3_beginFormula prog_5_method_4_code 1 none ∈ kws := k_in (List.mem_of_getElem? (i := 268) (by decide +kernel)) (by decide +kernel)
theorem kw_269 {args : Array Value} {s : State} (h : ∀ w ∈ kws, w.before args s = true) : (Cond.methodLink RX3 88 yJ0_fill).before args s = true := h _ (k_in (List.mem_of_getElem? (i := 269) (by decide +kernel)) (by decide +kernel))
theorem kw_270 {args : Array Value} {s : State} (h : ∀ w ∈ kws, w.before args s = true) : (Cond.static yJ0_fill).before args s = true := h _ (k_in (List.mem_of_getElem? (i := 270) (by decide +kernel)) (by decide +kernel))
theorem kc_271 : Cond.code yJ0_fill prog_16_method_101_code 5 none ∈ kws := k_in (List.mem_of_getElem? (i := 271) (by decide +kernel)) (by decide +kernel)
theorem kw_272 {args : Array Value} {s : State} (h : ∀ w ∈ kws, w.before args s = true) : (Cond.methodLink RX3 66 yX3_meet).before args s = true := h _ (k_in (List.mem_of_getElem? (i := 272) (by decide +kernel)) (by decide +kernel))
theorem kw_274 {args : Array Value} {s : State} (h : ∀ w ∈ kws, w.before args s = true) : (Cond.instanceMethod yX3_meet).before args s = true := h _ (k_in (List.mem_of_getElem? (i := 274) (by decide +kernel)) (by decide +kernel))
theorem kc_275 : Cond.code yX3_meet prog_5_method_3_code 3 none ∈ kws := k_in (List.mem_of_getElem? (i := 275) (by decide +kernel)) (by decide +kernel)
theorem kw_276 {args : Array Value} {s : State} (h : ∀ w ∈ kws, w.before args s = true) : (Cond.methodLink RX3 70 yX4_here).before args s = true := h _ (k_in (List.mem_of_getElem? (i := 276) (by decide +kernel)) (by decide +kernel))
theorem kw_277 {args : Array Value} {s : State} (h : ∀ w ∈ kws, w.before args s = true) : (Cond.instanceMethod yX4_here).before args s = true := h _ (k_in (List.mem_of_getElem? (i := 277) (by decide +kernel)) (by decide +kernel))
theorem kw_278 {args : Array Value} {s : State} (h : ∀ w ∈ kws, w.before args s = true) : (Cond.selects RX4 yX4_here yX4_here).before args s = true := h _ (k_in (List.mem_of_getElem? (i := 278) (by decide +kernel)) (by decide +kernel))
theorem kc_279 : Cond.code yX4_here prog_6_method_4_code 1 (some .char) ∈ kws := k_in (List.mem_of_getElem? (i := 279) (by decide +kernel)) (by decide +kernel)
theorem kw_280 {args : Array Value} {s : State} (h : ∀ w ∈ kws, w.before args s = true) : (Cond.methodLink RX3 74 yX3_readElectron).before args s = true := h _ (k_in (List.mem_of_getElem? (i := 280) (by decide +kernel)) (by decide +kernel))
theorem kw_282 {args : Array Value} {s : State} (h : ∀ w ∈ kws, w.before args s = true) : (Cond.instanceMethod yX3_readElectron).before args s = true := h _ (k_in (List.mem_of_getElem? (i := 282) (by decide +kernel)) (by decide +kernel))
theorem kc_283 : Cond.code yX3_readElectron prog_5_method_8_code 1 none ∈ kws := k_in (List.mem_of_getElem? (i := 283) (by decide +kernel)) (by decide +kernel)
theorem kw_284 {args : Array Value} {s : State} (h : ∀ w ∈ kws, w.before args s = true) : (Cond.methodLink RX3 106 yX4_ahead).before args s = true := h _ (k_in (List.mem_of_getElem? (i := 284) (by decide +kernel)) (by decide +kernel))
theorem kw_285 {args : Array Value} {s : State} (h : ∀ w ∈ kws, w.before args s = true) : (Cond.instanceMethod yX4_ahead).before args s = true := h _ (k_in (List.mem_of_getElem? (i := 285) (by decide +kernel)) (by decide +kernel))
theorem kw_286 {args : Array Value} {s : State} (h : ∀ w ∈ kws, w.before args s = true) : (Cond.selects RX4 yX4_ahead yX4_ahead).before args s = true := h _ (k_in (List.mem_of_getElem? (i := 286) (by decide +kernel)) (by decide +kernel))
theorem kc_287 : Cond.code yX4_ahead prog_6_method_5_code 3 (some .char) ∈ kws := k_in (List.mem_of_getElem? (i := 287) (by decide +kernel)) (by decide +kernel)
theorem kw_288 {args : Array Value} {s : State} (h : ∀ w ∈ kws, w.before args s = true) : (Cond.methodLink RX3 110 yX1_admitCharge).before args s = true := h _ (k_in (List.mem_of_getElem? (i := 288) (by decide +kernel)) (by decide +kernel))
theorem kw_289 {args : Array Value} {s : State} (h : ∀ w ∈ kws, w.before args s = true) : (Cond.instanceMethod yX1_admitCharge).before args s = true := h _ (k_in (List.mem_of_getElem? (i := 289) (by decide +kernel)) (by decide +kernel))
theorem kw_290 {args : Array Value} {s : State} (h : ∀ w ∈ kws, w.before args s = true) : (Cond.selects RX1 yX1_admitCharge yX1_admitCharge).before args s = true := h _ (k_in (List.mem_of_getElem? (i := 290) (by decide +kernel)) (by decide +kernel))
theorem kc_291 : Cond.code yX1_admitCharge prog_3_method_11_code 1 (some .boolean) ∈ kws := k_in (List.mem_of_getElem? (i := 291) (by decide +kernel)) (by decide +kernel)
theorem kw_292 {args : Array Value} {s : State} (h : ∀ w ∈ kws, w.before args s = true) : (Cond.methodLink RX3 77 yX3_readFormula).before args s = true := h _ (k_in (List.mem_of_getElem? (i := 292) (by decide +kernel)) (by decide +kernel))
theorem kw_294 {args : Array Value} {s : State} (h : ∀ w ∈ kws, w.before args s = true) : (Cond.instanceMethod yX3_readFormula).before args s = true := h _ (k_in (List.mem_of_getElem? (i := 294) (by decide +kernel)) (by decide +kernel))
theorem kc_295 : Cond.code yX3_readFormula prog_5_method_9_code 4 none ∈ kws := k_in (List.mem_of_getElem? (i := 295) (by decide +kernel)) (by decide +kernel)
theorem kw_296 {args : Array Value} {s : State} (h : ∀ w ∈ kws, w.before args s = true) : (Cond.methodLink RX3 113 yX3_readNumber).before args s = true := h _ (k_in (List.mem_of_getElem? (i := 296) (by decide +kernel)) (by decide +kernel))
theorem kw_298 {args : Array Value} {s : State} (h : ∀ w ∈ kws, w.before args s = true) : (Cond.instanceMethod yX3_readNumber).before args s = true := h _ (k_in (List.mem_of_getElem? (i := 298) (by decide +kernel)) (by decide +kernel))
theorem kc_299 : Cond.code yX3_readNumber prog_5_method_15_code 5 (some .int) ∈ kws := k_in (List.mem_of_getElem? (i := 299) (by decide +kernel)) (by decide +kernel)
theorem kw_301 {args : Array Value} {s : State} (h : ∀ w ∈ kws, w.before args s = true) : (Cond.static yX5_isDigit).before args s = true := h _ (k_in (List.mem_of_getElem? (i := 301) (by decide +kernel)) (by decide +kernel))
theorem kc_302 : Cond.code yX5_isDigit prog_1_method_20_code 1 (some .boolean) ∈ kws := k_in (List.mem_of_getElem? (i := 302) (by decide +kernel)) (by decide +kernel)
theorem kw_303 {args : Array Value} {s : State} (h : ∀ w ∈ kws, w.before args s = true) : (Cond.methodLink RX3 117 yX3_readUnits).before args s = true := h _ (k_in (List.mem_of_getElem? (i := 303) (by decide +kernel)) (by decide +kernel))
theorem kw_305 {args : Array Value} {s : State} (h : ∀ w ∈ kws, w.before args s = true) : (Cond.instanceMethod yX3_readUnits).before args s = true := h _ (k_in (List.mem_of_getElem? (i := 305) (by decide +kernel)) (by decide +kernel))
theorem kc_306 : Cond.code yX3_readUnits prog_5_method_11_code 5 none ∈ kws := k_in (List.mem_of_getElem? (i := 306) (by decide +kernel)) (by decide +kernel)
theorem kw_308 {args : Array Value} {s : State} (h : ∀ w ∈ kws, w.before args s = true) : (Cond.static yX5_isCapital).before args s = true := h _ (k_in (List.mem_of_getElem? (i := 308) (by decide +kernel)) (by decide +kernel))
theorem kc_309 : Cond.code yX5_isCapital prog_1_method_21_code 1 (some .boolean) ∈ kws := k_in (List.mem_of_getElem? (i := 309) (by decide +kernel)) (by decide +kernel)
theorem kw_310 {args : Array Value} {s : State} (h : ∀ w ∈ kws, w.before args s = true) : (Cond.methodLink RX3 131 yX3_readElement).before args s = true := h _ (k_in (List.mem_of_getElem? (i := 310) (by decide +kernel)) (by decide +kernel))
theorem kw_312 {args : Array Value} {s : State} (h : ∀ w ∈ kws, w.before args s = true) : (Cond.instanceMethod yX3_readElement).before args s = true := h _ (k_in (List.mem_of_getElem? (i := 312) (by decide +kernel)) (by decide +kernel))
theorem kc_313 : Cond.code yX3_readElement prog_5_method_12_code 5 none ∈ kws := k_in (List.mem_of_getElem? (i := 313) (by decide +kernel)) (by decide +kernel)
theorem kw_315 {args : Array Value} {s : State} (h : ∀ w ∈ kws, w.before args s = true) : (Cond.static yX5_isSmall).before args s = true := h _ (k_in (List.mem_of_getElem? (i := 315) (by decide +kernel)) (by decide +kernel))
theorem kc_316 : Cond.code yX5_isSmall prog_1_method_22_code 1 (some .boolean) ∈ kws := k_in (List.mem_of_getElem? (i := 316) (by decide +kernel)) (by decide +kernel)
theorem kw_317 {args : Array Value} {s : State} (h : ∀ w ∈ kws, w.before args s = true) : (Cond.methodLink RX3 144 yX1_elementKind).before args s = true := h _ (k_in (List.mem_of_getElem? (i := 317) (by decide +kernel)) (by decide +kernel))
theorem kw_318 {args : Array Value} {s : State} (h : ∀ w ∈ kws, w.before args s = true) : (Cond.instanceMethod yX1_elementKind).before args s = true := h _ (k_in (List.mem_of_getElem? (i := 318) (by decide +kernel)) (by decide +kernel))
theorem kw_319 {args : Array Value} {s : State} (h : ∀ w ∈ kws, w.before args s = true) : (Cond.selects RX1 yX1_elementKind yX1_elementKind).before args s = true := h _ (k_in (List.mem_of_getElem? (i := 319) (by decide +kernel)) (by decide +kernel))
theorem kc_320 : Cond.code yX1_elementKind prog_3_method_10_code 3 (some .int) ∈ kws := k_in (List.mem_of_getElem? (i := 320) (by decide +kernel)) (by decide +kernel)
theorem kw_321 {args : Array Value} {s : State} (h : ∀ w ∈ kws, w.before args s = true) : (Cond.methodLink RX1 43 yX1_kindCount).before args s = true := h _ (k_in (List.mem_of_getElem? (i := 321) (by decide +kernel)) (by decide +kernel))
theorem kw_322 {args : Array Value} {s : State} (h : ∀ w ∈ kws, w.before args s = true) : (Cond.instanceMethod yX1_kindCount).before args s = true := h _ (k_in (List.mem_of_getElem? (i := 322) (by decide +kernel)) (by decide +kernel))
theorem kw_323 {args : Array Value} {s : State} (h : ∀ w ∈ kws, w.before args s = true) : (Cond.selects RX1 yX1_kindCount yX1_kindCount).before args s = true := h _ (k_in (List.mem_of_getElem? (i := 323) (by decide +kernel)) (by decide +kernel))
theorem kc_324 : Cond.code yX1_kindCount prog_3_method_3_code 1 (some .int) ∈ kws := k_in (List.mem_of_getElem? (i := 324) (by decide +kernel)) (by decide +kernel)
theorem kw_325 {args : Array Value} {s : State} (h : ∀ w ∈ kws, w.before args s = true) : (Cond.methodLink RX3 135 yX3_openGroup).before args s = true := h _ (k_in (List.mem_of_getElem? (i := 325) (by decide +kernel)) (by decide +kernel))
theorem kw_327 {args : Array Value} {s : State} (h : ∀ w ∈ kws, w.before args s = true) : (Cond.instanceMethod yX3_openGroup).before args s = true := h _ (k_in (List.mem_of_getElem? (i := 327) (by decide +kernel)) (by decide +kernel))
theorem kc_328 : Cond.code yX3_openGroup prog_5_method_13_code 2 none ∈ kws := k_in (List.mem_of_getElem? (i := 328) (by decide +kernel)) (by decide +kernel)
theorem kw_329 {args : Array Value} {s : State} (h : ∀ w ∈ kws, w.before args s = true) : (Cond.methodLink RX3 138 yX3_closeGroup).before args s = true := h _ (k_in (List.mem_of_getElem? (i := 329) (by decide +kernel)) (by decide +kernel))
theorem kw_331 {args : Array Value} {s : State} (h : ∀ w ∈ kws, w.before args s = true) : (Cond.instanceMethod yX3_closeGroup).before args s = true := h _ (k_in (List.mem_of_getElem? (i := 331) (by decide +kernel)) (by decide +kernel))
theorem kc_332 : Cond.code yX3_closeGroup prog_5_method_14_code 2 none ∈ kws := k_in (List.mem_of_getElem? (i := 332) (by decide +kernel)) (by decide +kernel)
theorem kw_333 {args : Array Value} {s : State} (h : ∀ w ∈ kws, w.before args s = true) : (Cond.methodLink RX3 120 yX3_addTimes).before args s = true := h _ (k_in (List.mem_of_getElem? (i := 333) (by decide +kernel)) (by decide +kernel))
theorem kw_334 {args : Array Value} {s : State} (h : ∀ w ∈ kws, w.before args s = true) : (Cond.static yX3_addTimes).before args s = true := h _ (k_in (List.mem_of_getElem? (i := 334) (by decide +kernel)) (by decide +kernel))
theorem kc_335 : Cond.code yX3_addTimes prog_5_method_16_code 4 none ∈ kws := k_in (List.mem_of_getElem? (i := 335) (by decide +kernel)) (by decide +kernel)
theorem kw_336 {args : Array Value} {s : State} (h : ∀ w ∈ kws, w.before args s = true) : (Cond.methodLink RX3 124 yX3_readCharge).before args s = true := h _ (k_in (List.mem_of_getElem? (i := 336) (by decide +kernel)) (by decide +kernel))
theorem kw_338 {args : Array Value} {s : State} (h : ∀ w ∈ kws, w.before args s = true) : (Cond.instanceMethod yX3_readCharge).before args s = true := h _ (k_in (List.mem_of_getElem? (i := 338) (by decide +kernel)) (by decide +kernel))
theorem kc_339 : Cond.code yX3_readCharge prog_5_method_10_code 3 none ∈ kws := k_in (List.mem_of_getElem? (i := 339) (by decide +kernel)) (by decide +kernel)
theorem kw_340 {args : Array Value} {s : State} (h : ∀ w ∈ kws, w.before args s = true) : (Cond.methodLink RX3 80 yX3_endFormula).before args s = true := h _ (k_in (List.mem_of_getElem? (i := 340) (by decide +kernel)) (by decide +kernel))
theorem kw_342 {args : Array Value} {s : State} (h : ∀ w ∈ kws, w.before args s = true) : (Cond.instanceMethod yX3_endFormula).before args s = true := h _ (k_in (List.mem_of_getElem? (i := 342) (by decide +kernel)) (by decide +kernel))
theorem kc_343 : Cond.code yX3_endFormula prog_5_method_5_code 2 none ∈ kws := k_in (List.mem_of_getElem? (i := 343) (by decide +kernel)) (by decide +kernel)
theorem kw_344 {args : Array Value} {s : State} (h : ∀ w ∈ kws, w.before args s = true) : (Cond.methodLink RX3 94 yX3_isTooMuch).before args s = true := h _ (k_in (List.mem_of_getElem? (i := 344) (by decide +kernel)) (by decide +kernel))
theorem kw_346 {args : Array Value} {s : State} (h : ∀ w ∈ kws, w.before args s = true) : (Cond.instanceMethod yX3_isTooMuch).before args s = true := h _ (k_in (List.mem_of_getElem? (i := 346) (by decide +kernel)) (by decide +kernel))
theorem kc_347 : Cond.code yX3_isTooMuch prog_5_method_6_code 2 (some .boolean) ∈ kws := k_in (List.mem_of_getElem? (i := 347) (by decide +kernel)) (by decide +kernel)
theorem kw_348 {args : Array Value} {s : State} (h : ∀ w ∈ kws, w.before args s = true) : (Cond.constantLong RX3 101 40).before args s = true := h _ (k_in (List.mem_of_getElem? (i := 348) (by decide +kernel)) (by decide +kernel))
theorem kw_349 {args : Array Value} {s : State} (h : ∀ w ∈ kws, w.before args s = true) : (Cond.methodLink RX3 97 yX1_addFormula).before args s = true := h _ (k_in (List.mem_of_getElem? (i := 349) (by decide +kernel)) (by decide +kernel))
theorem kw_350 {args : Array Value} {s : State} (h : ∀ w ∈ kws, w.before args s = true) : (Cond.instanceMethod yX1_addFormula).before args s = true := h _ (k_in (List.mem_of_getElem? (i := 350) (by decide +kernel)) (by decide +kernel))
theorem kw_351 {args : Array Value} {s : State} (h : ∀ w ∈ kws, w.before args s = true) : (Cond.selects RX1 yX1_addFormula yX1_addFormula).before args s = true := h _ (k_in (List.mem_of_getElem? (i := 351) (by decide +kernel)) (by decide +kernel))
theorem kc_352 : Cond.code yX1_addFormula prog_3_method_12_code 6 none ∈ kws := k_in (List.mem_of_getElem? (i := 352) (by decide +kernel)) (by decide +kernel)
theorem kw_353 {args : Array Value} {s : State} (h : ∀ w ∈ kws, w.before args s = true) : (Cond.methodLink RX3 84 yX3_readSign).before args s = true := h _ (k_in (List.mem_of_getElem? (i := 353) (by decide +kernel)) (by decide +kernel))
theorem kw_355 {args : Array Value} {s : State} (h : ∀ w ∈ kws, w.before args s = true) : (Cond.instanceMethod yX3_readSign).before args s = true := h _ (k_in (List.mem_of_getElem? (i := 355) (by decide +kernel)) (by decide +kernel))
theorem kc_356 : Cond.code yX3_readSign prog_5_method_7_code 3 (some .boolean) ∈ kws := k_in (List.mem_of_getElem? (i := 356) (by decide +kernel)) (by decide +kernel)
theorem kw_357 {args : Array Value} {s : State} (h : ∀ w ∈ kws, w.before args s = true) : (Cond.methodLink RX5 72 yX0_solve).before args s = true := h _ (k_in (List.mem_of_getElem? (i := 357) (by decide +kernel)) (by decide +kernel))
theorem kw_358 {args : Array Value} {s : State} (h : ∀ w ∈ kws, w.before args s = true) : (Cond.instanceMethod yX0_solve).before args s = true := h _ (k_in (List.mem_of_getElem? (i := 358) (by decide +kernel)) (by decide +kernel))
theorem kw_359 {args : Array Value} {s : State} (h : ∀ w ∈ kws, w.before args s = true) : (Cond.selects RX0 yX0_solve yX0_solve).before args s = true := h _ (k_in (List.mem_of_getElem? (i := 359) (by decide +kernel)) (by decide +kernel))
theorem kc_360 : Cond.code yX0_solve prog_2_method_3_code 3 none ∈ kws := k_in (List.mem_of_getElem? (i := 360) (by decide +kernel)) (by decide +kernel)
theorem kw_361 {args : Array Value} {s : State} (h : ∀ w ∈ kws, w.before args s = true) : (Cond.methodLink RX0 47 yX0_takeRows).before args s = true := h _ (k_in (List.mem_of_getElem? (i := 361) (by decide +kernel)) (by decide +kernel))
theorem kw_363 {args : Array Value} {s : State} (h : ∀ w ∈ kws, w.before args s = true) : (Cond.instanceMethod yX0_takeRows).before args s = true := h _ (k_in (List.mem_of_getElem? (i := 363) (by decide +kernel)) (by decide +kernel))
theorem kc_364 : Cond.code yX0_takeRows prog_2_method_4_code 4 none ∈ kws := k_in (List.mem_of_getElem? (i := 364) (by decide +kernel)) (by decide +kernel)
theorem kw_365 {args : Array Value} {s : State} (h : ∀ w ∈ kws, w.before args s = true) : (Cond.methodLink RX0 62 yX1_kindCount).before args s = true := h _ (k_in (List.mem_of_getElem? (i := 365) (by decide +kernel)) (by decide +kernel))
theorem kw_366 {args : Array Value} {s : State} (h : ∀ w ∈ kws, w.before args s = true) : (Cond.methodLink RX0 70 yX1_share).before args s = true := h _ (k_in (List.mem_of_getElem? (i := 366) (by decide +kernel)) (by decide +kernel))
theorem kw_367 {args : Array Value} {s : State} (h : ∀ w ∈ kws, w.before args s = true) : (Cond.instanceMethod yX1_share).before args s = true := h _ (k_in (List.mem_of_getElem? (i := 367) (by decide +kernel)) (by decide +kernel))
theorem kw_368 {args : Array Value} {s : State} (h : ∀ w ∈ kws, w.before args s = true) : (Cond.selects RX1 yX1_share yX1_share).before args s = true := h _ (k_in (List.mem_of_getElem? (i := 368) (by decide +kernel)) (by decide +kernel))
theorem kc_369 : Cond.code yX1_share prog_3_method_9_code 7 (some .long) ∈ kws := k_in (List.mem_of_getElem? (i := 369) (by decide +kernel)) (by decide +kernel)
theorem kw_370 {args : Array Value} {s : State} (h : ∀ w ∈ kws, w.before args s = true) : (Cond.methodLink RX1 47 yX1_containsFormula).before args s = true := h _ (k_in (List.mem_of_getElem? (i := 370) (by decide +kernel)) (by decide +kernel))
theorem kw_371 {args : Array Value} {s : State} (h : ∀ w ∈ kws, w.before args s = true) : (Cond.instanceMethod yX1_containsFormula).before args s = true := h _ (k_in (List.mem_of_getElem? (i := 371) (by decide +kernel)) (by decide +kernel))
theorem kw_372 {args : Array Value} {s : State} (h : ∀ w ∈ kws, w.before args s = true) : (Cond.selects RX1 yX1_containsFormula yX1_containsFormula).before args s = true := h _ (k_in (List.mem_of_getElem? (i := 372) (by decide +kernel)) (by decide +kernel))
theorem kc_373 : Cond.code yX1_containsFormula prog_3_method_4_code 2 (some .boolean) ∈ kws := k_in (List.mem_of_getElem? (i := 373) (by decide +kernel)) (by decide +kernel)
theorem kw_374 {args : Array Value} {s : State} (h : ∀ w ∈ kws, w.before args s = true) : (Cond.methodLink RX1 51 yX1_amount).before args s = true := h _ (k_in (List.mem_of_getElem? (i := 374) (by decide +kernel)) (by decide +kernel))
theorem kw_375 {args : Array Value} {s : State} (h : ∀ w ∈ kws, w.before args s = true) : (Cond.instanceMethod yX1_amount).before args s = true := h _ (k_in (List.mem_of_getElem? (i := 375) (by decide +kernel)) (by decide +kernel))
theorem kw_376 {args : Array Value} {s : State} (h : ∀ w ∈ kws, w.before args s = true) : (Cond.selects RX1 yX1_amount yX1_amount).before args s = true := h _ (k_in (List.mem_of_getElem? (i := 376) (by decide +kernel)) (by decide +kernel))
theorem kc_377 : Cond.code yX1_amount prog_3_method_8_code 3 (some .int) ∈ kws := k_in (List.mem_of_getElem? (i := 377) (by decide +kernel)) (by decide +kernel)
theorem kw_378 {args : Array Value} {s : State} (h : ∀ w ∈ kws, w.before args s = true) : (Cond.methodLink RX1 55 yX1_isProduct).before args s = true := h _ (k_in (List.mem_of_getElem? (i := 378) (by decide +kernel)) (by decide +kernel))
theorem kw_379 {args : Array Value} {s : State} (h : ∀ w ∈ kws, w.before args s = true) : (Cond.instanceMethod yX1_isProduct).before args s = true := h _ (k_in (List.mem_of_getElem? (i := 379) (by decide +kernel)) (by decide +kernel))
theorem kw_380 {args : Array Value} {s : State} (h : ∀ w ∈ kws, w.before args s = true) : (Cond.selects RX1 yX1_isProduct yX1_isProduct).before args s = true := h _ (k_in (List.mem_of_getElem? (i := 380) (by decide +kernel)) (by decide +kernel))
theorem kc_381 : Cond.code yX1_isProduct prog_3_method_6_code 2 (some .boolean) ∈ kws := k_in (List.mem_of_getElem? (i := 381) (by decide +kernel)) (by decide +kernel)
theorem kw_382 {args : Array Value} {s : State} (h : ∀ w ∈ kws, w.before args s = true) : (Cond.methodLink RX0 51 yX0_reduce).before args s = true := h _ (k_in (List.mem_of_getElem? (i := 382) (by decide +kernel)) (by decide +kernel))
theorem kw_384 {args : Array Value} {s : State} (h : ∀ w ∈ kws, w.before args s = true) : (Cond.instanceMethod yX0_reduce).before args s = true := h _ (k_in (List.mem_of_getElem? (i := 384) (by decide +kernel)) (by decide +kernel))
theorem kc_385 : Cond.code yX0_reduce prog_2_method_5_code 3 none ∈ kws := k_in (List.mem_of_getElem? (i := 385) (by decide +kernel)) (by decide +kernel)
theorem kw_386 {args : Array Value} {s : State} (h : ∀ w ∈ kws, w.before args s = true) : (Cond.methodLink RX0 74 yX0_pivotRow).before args s = true := h _ (k_in (List.mem_of_getElem? (i := 386) (by decide +kernel)) (by decide +kernel))
theorem kw_388 {args : Array Value} {s : State} (h : ∀ w ∈ kws, w.before args s = true) : (Cond.instanceMethod yX0_pivotRow).before args s = true := h _ (k_in (List.mem_of_getElem? (i := 388) (by decide +kernel)) (by decide +kernel))
theorem kc_389 : Cond.code yX0_pivotRow prog_2_method_6_code 3 (some .int) ∈ kws := k_in (List.mem_of_getElem? (i := 389) (by decide +kernel)) (by decide +kernel)
theorem kw_390 {args : Array Value} {s : State} (h : ∀ w ∈ kws, w.before args s = true) : (Cond.methodLink RX0 78 yX0_swapRows).before args s = true := h _ (k_in (List.mem_of_getElem? (i := 390) (by decide +kernel)) (by decide +kernel))
theorem kw_392 {args : Array Value} {s : State} (h : ∀ w ∈ kws, w.before args s = true) : (Cond.instanceMethod yX0_swapRows).before args s = true := h _ (k_in (List.mem_of_getElem? (i := 392) (by decide +kernel)) (by decide +kernel))
theorem kc_393 : Cond.code yX0_swapRows prog_2_method_7_code 6 none ∈ kws := k_in (List.mem_of_getElem? (i := 393) (by decide +kernel)) (by decide +kernel)
theorem kw_394 {args : Array Value} {s : State} (h : ∀ w ∈ kws, w.before args s = true) : (Cond.methodLink RX0 82 yX0_clearColumn).before args s = true := h _ (k_in (List.mem_of_getElem? (i := 394) (by decide +kernel)) (by decide +kernel))
theorem kw_396 {args : Array Value} {s : State} (h : ∀ w ∈ kws, w.before args s = true) : (Cond.instanceMethod yX0_clearColumn).before args s = true := h _ (k_in (List.mem_of_getElem? (i := 396) (by decide +kernel)) (by decide +kernel))
theorem kc_397 : Cond.code yX0_clearColumn prog_2_method_8_code 8 none ∈ kws := k_in (List.mem_of_getElem? (i := 397) (by decide +kernel)) (by decide +kernel)
theorem kw_398 {args : Array Value} {s : State} (h : ∀ w ∈ kws, w.before args s = true) : (Cond.methodLink RX0 86 yX0_quotient).before args s = true := h _ (k_in (List.mem_of_getElem? (i := 398) (by decide +kernel)) (by decide +kernel))
theorem kw_399 {args : Array Value} {s : State} (h : ∀ w ∈ kws, w.before args s = true) : (Cond.static yX0_quotient).before args s = true := h _ (k_in (List.mem_of_getElem? (i := 399) (by decide +kernel)) (by decide +kernel))
theorem kc_400 : Cond.code yX0_quotient prog_2_method_11_code 4 (some .long) ∈ kws := k_in (List.mem_of_getElem? (i := 400) (by decide +kernel)) (by decide +kernel)
theorem kw_401 {args : Array Value} {s : State} (h : ∀ w ∈ kws, w.before args s = true) : (Cond.methodLink RX0 54 yX0_makeBase).before args s = true := h _ (k_in (List.mem_of_getElem? (i := 401) (by decide +kernel)) (by decide +kernel))
theorem kw_403 {args : Array Value} {s : State} (h : ∀ w ∈ kws, w.before args s = true) : (Cond.instanceMethod yX0_makeBase).before args s = true := h _ (k_in (List.mem_of_getElem? (i := 403) (by decide +kernel)) (by decide +kernel))
theorem kc_404 : Cond.code yX0_makeBase prog_2_method_9_code 8 none ∈ kws := k_in (List.mem_of_getElem? (i := 404) (by decide +kernel)) (by decide +kernel)
theorem kw_405 {args : Array Value} {s : State} (h : ∀ w ∈ kws, w.before args s = true) : (Cond.methodLink RX0 90 yJ0_fill).before args s = true := h _ (k_in (List.mem_of_getElem? (i := 405) (by decide +kernel)) (by decide +kernel))
theorem kw_406 {args : Array Value} {s : State} (h : ∀ w ∈ kws, w.before args s = true) : (Cond.methodLink RX0 96 yX0_commonDivisor).before args s = true := h _ (k_in (List.mem_of_getElem? (i := 406) (by decide +kernel)) (by decide +kernel))
theorem kw_407 {args : Array Value} {s : State} (h : ∀ w ∈ kws, w.before args s = true) : (Cond.static yX0_commonDivisor).before args s = true := h _ (k_in (List.mem_of_getElem? (i := 407) (by decide +kernel)) (by decide +kernel))
theorem kc_408 : Cond.code yX0_commonDivisor prog_2_method_12_code 11 (some .long) ∈ kws := k_in (List.mem_of_getElem? (i := 408) (by decide +kernel)) (by decide +kernel)
theorem kw_409 {args : Array Value} {s : State} (h : ∀ w ∈ kws, w.before args s = true) : (Cond.methodLink RX0 99 yJ1_abs).before args s = true := h _ (k_in (List.mem_of_getElem? (i := 409) (by decide +kernel)) (by decide +kernel))
theorem kw_410 {args : Array Value} {s : State} (h : ∀ w ∈ kws, w.before args s = true) : (Cond.static yJ1_abs).before args s = true := h _ (k_in (List.mem_of_getElem? (i := 410) (by decide +kernel)) (by decide +kernel))
theorem kc_411 : Cond.code yJ1_abs prog_12_method_61_code 2 (some .long) ∈ kws := k_in (List.mem_of_getElem? (i := 411) (by decide +kernel)) (by decide +kernel)
theorem kw_412 {args : Array Value} {s : State} (h : ∀ w ∈ kws, w.before args s = true) : (Cond.methodLink RX0 58 yX0_judge).before args s = true := h _ (k_in (List.mem_of_getElem? (i := 412) (by decide +kernel)) (by decide +kernel))
theorem kw_414 {args : Array Value} {s : State} (h : ∀ w ∈ kws, w.before args s = true) : (Cond.instanceMethod yX0_judge).before args s = true := h _ (k_in (List.mem_of_getElem? (i := 414) (by decide +kernel)) (by decide +kernel))
theorem kc_415 : Cond.code yX0_judge prog_2_method_10_code 2 (some .int) ∈ kws := k_in (List.mem_of_getElem? (i := 415) (by decide +kernel)) (by decide +kernel)
theorem kw_416 {args : Array Value} {s : State} (h : ∀ w ∈ kws, w.before args s = true) : (Cond.methodLink RX5 76 yX1_clear).before args s = true := h _ (k_in (List.mem_of_getElem? (i := 416) (by decide +kernel)) (by decide +kernel))
theorem kw_417 {args : Array Value} {s : State} (h : ∀ w ∈ kws, w.before args s = true) : (Cond.methodLink RX5 81 yX0_forget).before args s = true := h _ (k_in (List.mem_of_getElem? (i := 417) (by decide +kernel)) (by decide +kernel))
theorem kw_418 {args : Array Value} {s : State} (h : ∀ w ∈ kws, w.before args s = true) : (Cond.instanceMethod yX0_forget).before args s = true := h _ (k_in (List.mem_of_getElem? (i := 418) (by decide +kernel)) (by decide +kernel))
theorem kw_419 {args : Array Value} {s : State} (h : ∀ w ∈ kws, w.before args s = true) : (Cond.selects RX0 yX0_forget yX0_forget).before args s = true := h _ (k_in (List.mem_of_getElem? (i := 419) (by decide +kernel)) (by decide +kernel))
theorem kc_420 : Cond.code yX0_forget prog_2_method_2_code 1 none ∈ kws := k_in (List.mem_of_getElem? (i := 420) (by decide +kernel)) (by decide +kernel)
theorem kw_421 {args : Array Value} {s : State} (h : ∀ w ∈ kws, w.before args s = true) : (Cond.methodLink RX5 91 yX2_write).before args s = true := h _ (k_in (List.mem_of_getElem? (i := 421) (by decide +kernel)) (by decide +kernel))
theorem kw_422 {args : Array Value} {s : State} (h : ∀ w ∈ kws, w.before args s = true) : (Cond.instanceMethod yX2_write).before args s = true := h _ (k_in (List.mem_of_getElem? (i := 422) (by decide +kernel)) (by decide +kernel))
theorem kw_423 {args : Array Value} {s : State} (h : ∀ w ∈ kws, w.before args s = true) : (Cond.selects RX2 yX2_write yX2_write).before args s = true := h _ (k_in (List.mem_of_getElem? (i := 423) (by decide +kernel)) (by decide +kernel))
theorem kc_424 : Cond.code yX2_write prog_4_method_3_code 6 none ∈ kws := k_in (List.mem_of_getElem? (i := 424) (by decide +kernel)) (by decide +kernel)
theorem kw_425 {args : Array Value} {s : State} (h : ∀ w ∈ kws, w.before args s = true) : (Cond.methodLink RX2 27 yX2_addSign).before args s = true := h _ (k_in (List.mem_of_getElem? (i := 425) (by decide +kernel)) (by decide +kernel))
theorem kw_427 {args : Array Value} {s : State} (h : ∀ w ∈ kws, w.before args s = true) : (Cond.instanceMethod yX2_addSign).before args s = true := h _ (k_in (List.mem_of_getElem? (i := 427) (by decide +kernel)) (by decide +kernel))
theorem kc_428 : Cond.code yX2_addSign prog_4_method_5_code 2 none ∈ kws := k_in (List.mem_of_getElem? (i := 428) (by decide +kernel)) (by decide +kernel)
theorem kw_429 {args : Array Value} {s : State} (h : ∀ w ∈ kws, w.before args s = true) : (Cond.methodLink RX2 35 yX2_add).before args s = true := h _ (k_in (List.mem_of_getElem? (i := 429) (by decide +kernel)) (by decide +kernel))
theorem kw_431 {args : Array Value} {s : State} (h : ∀ w ∈ kws, w.before args s = true) : (Cond.instanceMethod yX2_add).before args s = true := h _ (k_in (List.mem_of_getElem? (i := 431) (by decide +kernel)) (by decide +kernel))
theorem kc_432 : Cond.code yX2_add prog_4_method_4_code 2 none ∈ kws := k_in (List.mem_of_getElem? (i := 432) (by decide +kernel)) (by decide +kernel)
theorem kw_433 {args : Array Value} {s : State} (h : ∀ w ∈ kws, w.before args s = true) : (Cond.methodLink RX2 31 yX2_addNumber).before args s = true := h _ (k_in (List.mem_of_getElem? (i := 433) (by decide +kernel)) (by decide +kernel))
theorem kw_435 {args : Array Value} {s : State} (h : ∀ w ∈ kws, w.before args s = true) : (Cond.instanceMethod yX2_addNumber).before args s = true := h _ (k_in (List.mem_of_getElem? (i := 435) (by decide +kernel)) (by decide +kernel))
theorem kc_436 : Cond.code yX2_addNumber prog_4_method_6_code 7 none ∈ kws := k_in (List.mem_of_getElem? (i := 436) (by decide +kernel)) (by decide +kernel)
theorem kw_437 {args : Array Value} {s : State} (h : ∀ w ∈ kws, w.before args s = true) : (Cond.constantLong RX2 48 48).before args s = true := h _ (k_in (List.mem_of_getElem? (i := 437) (by decide +kernel)) (by decide +kernel))
theorem kw_438 {args : Array Value} {s : State} (h : ∀ w ∈ kws, w.before args s = true) : (Cond.constantLong RX2 50 10).before args s = true := h _ (k_in (List.mem_of_getElem? (i := 438) (by decide +kernel)) (by decide +kernel))
theorem kw_439 {args : Array Value} {s : State} (h : ∀ w ∈ kws, w.before args s = true) : (Cond.methodLink RX2 52 yX2_turnRound).before args s = true := h _ (k_in (List.mem_of_getElem? (i := 439) (by decide +kernel)) (by decide +kernel))
theorem kw_441 {args : Array Value} {s : State} (h : ∀ w ∈ kws, w.before args s = true) : (Cond.instanceMethod yX2_turnRound).before args s = true := h _ (k_in (List.mem_of_getElem? (i := 441) (by decide +kernel)) (by decide +kernel))
theorem kc_442 : Cond.code yX2_turnRound prog_4_method_7_code 5 none ∈ kws := k_in (List.mem_of_getElem? (i := 442) (by decide +kernel)) (by decide +kernel)
theorem kw_443 {args : Array Value} {s : State} (h : ∀ w ∈ kws, w.before args s = true) : (Cond.methodLink RX5 95 yX4_clear).before args s = true := h _ (k_in (List.mem_of_getElem? (i := 443) (by decide +kernel)) (by decide +kernel))
theorem kw_444 {args : Array Value} {s : State} (h : ∀ w ∈ kws, w.before args s = true) : (Cond.instanceMethod yX4_clear).before args s = true := h _ (k_in (List.mem_of_getElem? (i := 444) (by decide +kernel)) (by decide +kernel))
theorem kw_445 {args : Array Value} {s : State} (h : ∀ w ∈ kws, w.before args s = true) : (Cond.selects RX4 yX4_clear yX4_clear).before args s = true := h _ (k_in (List.mem_of_getElem? (i := 445) (by decide +kernel)) (by decide +kernel))
theorem kc_446 : Cond.code yX4_clear prog_6_method_3_code 1 none ∈ kws := k_in (List.mem_of_getElem? (i := 446) (by decide +kernel)) (by decide +kernel)
theorem kw_448 {args : Array Value} {s : State} (h : ∀ w ∈ kws, w.before args s = true) : (Cond.instanceMethod yX5_at).before args s = true := h _ (k_in (List.mem_of_getElem? (i := 448) (by decide +kernel)) (by decide +kernel))
theorem kw_449 {args : Array Value} {s : State} (h : ∀ w ∈ kws, w.before args s = true) : (Cond.selects RX5 yX5_at yX5_at).before args s = true := h _ (k_in (List.mem_of_getElem? (i := 449) (by decide +kernel)) (by decide +kernel))
theorem kc_450 : Cond.code yX5_at prog_1_method_4_code 1 (some .int) ∈ kws := k_in (List.mem_of_getElem? (i := 450) (by decide +kernel)) (by decide +kernel)
theorem kw_452 {args : Array Value} {s : State} (h : ∀ w ∈ kws, w.before args s = true) : (Cond.instanceMethod yX5_state).before args s = true := h _ (k_in (List.mem_of_getElem? (i := 452) (by decide +kernel)) (by decide +kernel))
theorem kw_453 {args : Array Value} {s : State} (h : ∀ w ∈ kws, w.before args s = true) : (Cond.selects RX5 yX5_state yX5_state).before args s = true := h _ (k_in (List.mem_of_getElem? (i := 453) (by decide +kernel)) (by decide +kernel))
theorem kc_454 : Cond.code yX5_state prog_1_method_5_code 1 (some .int) ∈ kws := k_in (List.mem_of_getElem? (i := 454) (by decide +kernel)) (by decide +kernel)
theorem kw_456 {args : Array Value} {s : State} (h : ∀ w ∈ kws, w.before args s = true) : (Cond.instanceMethod yX5_freedom).before args s = true := h _ (k_in (List.mem_of_getElem? (i := 456) (by decide +kernel)) (by decide +kernel))
theorem kw_457 {args : Array Value} {s : State} (h : ∀ w ∈ kws, w.before args s = true) : (Cond.selects RX5 yX5_freedom yX5_freedom).before args s = true := h _ (k_in (List.mem_of_getElem? (i := 457) (by decide +kernel)) (by decide +kernel))
theorem kc_458 : Cond.code yX5_freedom prog_1_method_6_code 1 (some .int) ∈ kws := k_in (List.mem_of_getElem? (i := 458) (by decide +kernel)) (by decide +kernel)
theorem kw_460 {args : Array Value} {s : State} (h : ∀ w ∈ kws, w.before args s = true) : (Cond.instanceMethod yX5_formulas).before args s = true := h _ (k_in (List.mem_of_getElem? (i := 460) (by decide +kernel)) (by decide +kernel))
theorem kw_461 {args : Array Value} {s : State} (h : ∀ w ∈ kws, w.before args s = true) : (Cond.selects RX5 yX5_formulas yX5_formulas).before args s = true := h _ (k_in (List.mem_of_getElem? (i := 461) (by decide +kernel)) (by decide +kernel))
theorem kc_462 : Cond.code yX5_formulas prog_1_method_7_code 1 (some .int) ∈ kws := k_in (List.mem_of_getElem? (i := 462) (by decide +kernel)) (by decide +kernel)
theorem kw_464 {args : Array Value} {s : State} (h : ∀ w ∈ kws, w.before args s = true) : (Cond.instanceMethod yX5_kinds).before args s = true := h _ (k_in (List.mem_of_getElem? (i := 464) (by decide +kernel)) (by decide +kernel))
theorem kw_465 {args : Array Value} {s : State} (h : ∀ w ∈ kws, w.before args s = true) : (Cond.selects RX5 yX5_kinds yX5_kinds).before args s = true := h _ (k_in (List.mem_of_getElem? (i := 465) (by decide +kernel)) (by decide +kernel))
theorem kc_466 : Cond.code yX5_kinds prog_1_method_8_code 1 (some .int) ∈ kws := k_in (List.mem_of_getElem? (i := 466) (by decide +kernel)) (by decide +kernel)
theorem kw_467 {args : Array Value} {s : State} (h : ∀ w ∈ kws, w.before args s = true) : (Cond.methodLink RX5 105 yX1_kindCount).before args s = true := h _ (k_in (List.mem_of_getElem? (i := 467) (by decide +kernel)) (by decide +kernel))
theorem kw_474 {args : Array Value} {s : State} (h : ∀ w ∈ kws, w.before args s = true) : (Cond.instanceMethod yX5_type).before args s = true := h _ (k_in (List.mem_of_getElem? (i := 474) (by decide +kernel)) (by decide +kernel))
theorem kw_475 {args : Array Value} {s : State} (h : ∀ w ∈ kws, w.before args s = true) : (Cond.selects RX5 yX5_type yX5_type).before args s = true := h _ (k_in (List.mem_of_getElem? (i := 475) (by decide +kernel)) (by decide +kernel))
theorem kc_476 : Cond.code yX5_type prog_1_method_2_code 6 (some .int) ∈ kws := k_in (List.mem_of_getElem? (i := 476) (by decide +kernel)) (by decide +kernel)
theorem kw_477 {args : Array Value} {s : State} (h : ∀ w ∈ kws, w.before args s = true) : (Cond.methodLink RX5 30 yX5_charactersIn).before args s = true := h _ (k_in (List.mem_of_getElem? (i := 477) (by decide +kernel)) (by decide +kernel))
theorem kw_478 {args : Array Value} {s : State} (h : ∀ w ∈ kws, w.before args s = true) : (Cond.static yX5_charactersIn).before args s = true := h _ (k_in (List.mem_of_getElem? (i := 478) (by decide +kernel)) (by decide +kernel))
theorem kc_479 : Cond.code yX5_charactersIn prog_1_method_17_code 3 (some .int) ∈ kws := k_in (List.mem_of_getElem? (i := 479) (by decide +kernel)) (by decide +kernel)
theorem kw_480 {args : Array Value} {s : State} (h : ∀ w ∈ kws, w.before args s = true) : (Cond.methodLink RX5 34 yX5_byteOf).before args s = true := h _ (k_in (List.mem_of_getElem? (i := 480) (by decide +kernel)) (by decide +kernel))
theorem kw_481 {args : Array Value} {s : State} (h : ∀ w ∈ kws, w.before args s = true) : (Cond.static yX5_byteOf).before args s = true := h _ (k_in (List.mem_of_getElem? (i := 481) (by decide +kernel)) (by decide +kernel))
theorem kc_482 : Cond.code yX5_byteOf prog_1_method_18_code 3 (some .int) ∈ kws := k_in (List.mem_of_getElem? (i := 482) (by decide +kernel)) (by decide +kernel)
theorem kw_483 {args : Array Value} {s : State} (h : ∀ w ∈ kws, w.before args s = true) : (Cond.methodLink RX5 38 yX5_isPrintable).before args s = true := h _ (k_in (List.mem_of_getElem? (i := 483) (by decide +kernel)) (by decide +kernel))
theorem kw_484 {args : Array Value} {s : State} (h : ∀ w ∈ kws, w.before args s = true) : (Cond.static yX5_isPrintable).before args s = true := h _ (k_in (List.mem_of_getElem? (i := 484) (by decide +kernel)) (by decide +kernel))
theorem kc_485 : Cond.code yX5_isPrintable prog_1_method_19_code 1 (some .boolean) ∈ kws := k_in (List.mem_of_getElem? (i := 485) (by decide +kernel)) (by decide +kernel)
theorem kw_486 {args : Array Value} {s : State} (h : ∀ w ∈ kws, w.before args s = true) : (Cond.classLink RX5 42 "java/lang/IllegalArgumentException").before args s = true := h _ (k_in (List.mem_of_getElem? (i := 486) (by decide +kernel)) (by decide +kernel))
theorem kw_487 {args : Array Value} {s : State} (h : ∀ w ∈ kws, w.before args s = true) : (Cond.instantiable "java/lang/IllegalArgumentException" 6).before args s = true := h _ (k_in (List.mem_of_getElem? (i := 487) (by decide +kernel)) (by decide +kernel))
theorem kw_550 {args : Array Value} {s : State} (h : ∀ w ∈ kws, w.before args s = true) : (Cond.classLink RX5 55 "java/lang/UnsupportedOperationException").before args s = true := h _ (k_in (List.mem_of_getElem? (i := 550) (by decide +kernel)) (by decide +kernel))
theorem kw_551 {args : Array Value} {s : State} (h : ∀ w ∈ kws, w.before args s = true) : (Cond.instantiable "java/lang/UnsupportedOperationException" 6).before args s = true := h _ (k_in (List.mem_of_getElem? (i := 551) (by decide +kernel)) (by decide +kernel))
theorem kw_565 {args : Array Value} {s : State} (h : ∀ w ∈ kws, w.before args s = true) : (Cond.methodLink RX5 58 yX4_add).before args s = true := h _ (k_in (List.mem_of_getElem? (i := 565) (by decide +kernel)) (by decide +kernel))
theorem kw_566 {args : Array Value} {s : State} (h : ∀ w ∈ kws, w.before args s = true) : (Cond.instanceMethod yX4_add).before args s = true := h _ (k_in (List.mem_of_getElem? (i := 566) (by decide +kernel)) (by decide +kernel))
theorem kw_567 {args : Array Value} {s : State} (h : ∀ w ∈ kws, w.before args s = true) : (Cond.selects RX4 yX4_add yX4_add).before args s = true := h _ (k_in (List.mem_of_getElem? (i := 567) (by decide +kernel)) (by decide +kernel))
theorem kc_568 : Cond.code yX4_add prog_6_method_2_code 2 none ∈ kws := k_in (List.mem_of_getElem? (i := 568) (by decide +kernel)) (by decide +kernel)
theorem kw_574 {args : Array Value} {s : State} (h : ∀ w ∈ kws, w.before args s = true) : (Cond.instanceMethod yX5_name).before args s = true := h _ (k_in (List.mem_of_getElem? (i := 574) (by decide +kernel)) (by decide +kernel))
theorem kw_575 {args : Array Value} {s : State} (h : ∀ w ∈ kws, w.before args s = true) : (Cond.selects RX5 yX5_name yX5_name).before args s = true := h _ (k_in (List.mem_of_getElem? (i := 575) (by decide +kernel)) (by decide +kernel))
theorem kc_576 : Cond.code yX5_name prog_1_method_9_code 2 (some .int) ∈ kws := k_in (List.mem_of_getElem? (i := 576) (by decide +kernel)) (by decide +kernel)
theorem kw_577 {args : Array Value} {s : State} (h : ∀ w ∈ kws, w.before args s = true) : (Cond.methodLink RX5 109 yX1_containsKind).before args s = true := h _ (k_in (List.mem_of_getElem? (i := 577) (by decide +kernel)) (by decide +kernel))
theorem kw_578 {args : Array Value} {s : State} (h : ∀ w ∈ kws, w.before args s = true) : (Cond.instanceMethod yX1_containsKind).before args s = true := h _ (k_in (List.mem_of_getElem? (i := 578) (by decide +kernel)) (by decide +kernel))
theorem kw_579 {args : Array Value} {s : State} (h : ∀ w ∈ kws, w.before args s = true) : (Cond.selects RX1 yX1_containsKind yX1_containsKind).before args s = true := h _ (k_in (List.mem_of_getElem? (i := 579) (by decide +kernel)) (by decide +kernel))
theorem kc_580 : Cond.code yX1_containsKind prog_3_method_5_code 2 (some .boolean) ∈ kws := k_in (List.mem_of_getElem? (i := 580) (by decide +kernel)) (by decide +kernel)
theorem kw_581 {args : Array Value} {s : State} (h : ∀ w ∈ kws, w.before args s = true) : (Cond.classLink RX5 112 "java/util/NoSuchElementException").before args s = true := h _ (k_in (List.mem_of_getElem? (i := 581) (by decide +kernel)) (by decide +kernel))
theorem kw_582 {args : Array Value} {s : State} (h : ∀ w ∈ kws, w.before args s = true) : (Cond.instantiable "java/util/NoSuchElementException" 6).before args s = true := h _ (k_in (List.mem_of_getElem? (i := 582) (by decide +kernel)) (by decide +kernel))
theorem kw_596 {args : Array Value} {s : State} (h : ∀ w ∈ kws, w.before args s = true) : (Cond.methodLink RX5 115 yX1_kindName).before args s = true := h _ (k_in (List.mem_of_getElem? (i := 596) (by decide +kernel)) (by decide +kernel))
theorem kw_597 {args : Array Value} {s : State} (h : ∀ w ∈ kws, w.before args s = true) : (Cond.instanceMethod yX1_kindName).before args s = true := h _ (k_in (List.mem_of_getElem? (i := 597) (by decide +kernel)) (by decide +kernel))
theorem kw_598 {args : Array Value} {s : State} (h : ∀ w ∈ kws, w.before args s = true) : (Cond.selects RX1 yX1_kindName yX1_kindName).before args s = true := h _ (k_in (List.mem_of_getElem? (i := 598) (by decide +kernel)) (by decide +kernel))
theorem kc_599 : Cond.code yX1_kindName prog_3_method_7_code 2 (some .int) ∈ kws := k_in (List.mem_of_getElem? (i := 599) (by decide +kernel)) (by decide +kernel)
theorem kw_604 {args : Array Value} {s : State} (h : ∀ w ∈ kws, w.before args s = true) : (Cond.instanceMethod yX5_has).before args s = true := h _ (k_in (List.mem_of_getElem? (i := 604) (by decide +kernel)) (by decide +kernel))
theorem kw_605 {args : Array Value} {s : State} (h : ∀ w ∈ kws, w.before args s = true) : (Cond.selects RX5 yX5_has yX5_has).before args s = true := h _ (k_in (List.mem_of_getElem? (i := 605) (by decide +kernel)) (by decide +kernel))
theorem kc_606 : Cond.code yX5_has prog_1_method_10_code 3 (some .int) ∈ kws := k_in (List.mem_of_getElem? (i := 606) (by decide +kernel)) (by decide +kernel)
theorem kw_607 {args : Array Value} {s : State} (h : ∀ w ∈ kws, w.before args s = true) : (Cond.methodLink RX5 119 yX1_containsFormula).before args s = true := h _ (k_in (List.mem_of_getElem? (i := 607) (by decide +kernel)) (by decide +kernel))
theorem kw_608 {args : Array Value} {s : State} (h : ∀ w ∈ kws, w.before args s = true) : (Cond.methodLink RX5 122 yX1_amount).before args s = true := h _ (k_in (List.mem_of_getElem? (i := 608) (by decide +kernel)) (by decide +kernel))
theorem kw_613 {args : Array Value} {s : State} (h : ∀ w ∈ kws, w.before args s = true) : (Cond.instanceMethod yX5_product).before args s = true := h _ (k_in (List.mem_of_getElem? (i := 613) (by decide +kernel)) (by decide +kernel))
theorem kw_614 {args : Array Value} {s : State} (h : ∀ w ∈ kws, w.before args s = true) : (Cond.selects RX5 yX5_product yX5_product).before args s = true := h _ (k_in (List.mem_of_getElem? (i := 614) (by decide +kernel)) (by decide +kernel))
theorem kc_615 : Cond.code yX5_product prog_1_method_11_code 2 (some .boolean) ∈ kws := k_in (List.mem_of_getElem? (i := 615) (by decide +kernel)) (by decide +kernel)
theorem kw_616 {args : Array Value} {s : State} (h : ∀ w ∈ kws, w.before args s = true) : (Cond.methodLink RX5 126 yX1_isProduct).before args s = true := h _ (k_in (List.mem_of_getElem? (i := 616) (by decide +kernel)) (by decide +kernel))
theorem kw_621 {args : Array Value} {s : State} (h : ∀ w ∈ kws, w.before args s = true) : (Cond.instanceMethod yX5_free).before args s = true := h _ (k_in (List.mem_of_getElem? (i := 621) (by decide +kernel)) (by decide +kernel))
theorem kw_622 {args : Array Value} {s : State} (h : ∀ w ∈ kws, w.before args s = true) : (Cond.selects RX5 yX5_free yX5_free).before args s = true := h _ (k_in (List.mem_of_getElem? (i := 622) (by decide +kernel)) (by decide +kernel))
theorem kc_623 : Cond.code yX5_free prog_1_method_12_code 2 (some .boolean) ∈ kws := k_in (List.mem_of_getElem? (i := 623) (by decide +kernel)) (by decide +kernel)
theorem kw_628 {args : Array Value} {s : State} (h : ∀ w ∈ kws, w.before args s = true) : (Cond.instanceMethod yX5_number).before args s = true := h _ (k_in (List.mem_of_getElem? (i := 628) (by decide +kernel)) (by decide +kernel))
theorem kw_629 {args : Array Value} {s : State} (h : ∀ w ∈ kws, w.before args s = true) : (Cond.selects RX5 yX5_number yX5_number).before args s = true := h _ (k_in (List.mem_of_getElem? (i := 629) (by decide +kernel)) (by decide +kernel))
theorem kc_630 : Cond.code yX5_number prog_1_method_13_code 3 (some .long) ∈ kws := k_in (List.mem_of_getElem? (i := 630) (by decide +kernel)) (by decide +kernel)
theorem kw_636 {args : Array Value} {s : State} (h : ∀ w ∈ kws, w.before args s = true) : (Cond.instanceMethod yX5_weight).before args s = true := h _ (k_in (List.mem_of_getElem? (i := 636) (by decide +kernel)) (by decide +kernel))
theorem kw_637 {args : Array Value} {s : State} (h : ∀ w ∈ kws, w.before args s = true) : (Cond.selects RX5 yX5_weight yX5_weight).before args s = true := h _ (k_in (List.mem_of_getElem? (i := 637) (by decide +kernel)) (by decide +kernel))
theorem kc_638 : Cond.code yX5_weight prog_1_method_14_code 6 (some .long) ∈ kws := k_in (List.mem_of_getElem? (i := 638) (by decide +kernel)) (by decide +kernel)
theorem kw_639 {args : Array Value} {s : State} (h : ∀ w ∈ kws, w.before args s = true) : (Cond.classLink RX5 133 "java/lang/IllegalStateException").before args s = true := h _ (k_in (List.mem_of_getElem? (i := 639) (by decide +kernel)) (by decide +kernel))
theorem kw_640 {args : Array Value} {s : State} (h : ∀ w ∈ kws, w.before args s = true) : (Cond.instantiable "java/lang/IllegalStateException" 6).before args s = true := h _ (k_in (List.mem_of_getElem? (i := 640) (by decide +kernel)) (by decide +kernel))
theorem kw_658 {args : Array Value} {s : State} (h : ∀ w ∈ kws, w.before args s = true) : (Cond.instanceMethod yX5_written).before args s = true := h _ (k_in (List.mem_of_getElem? (i := 658) (by decide +kernel)) (by decide +kernel))
theorem kw_659 {args : Array Value} {s : State} (h : ∀ w ∈ kws, w.before args s = true) : (Cond.selects RX5 yX5_written yX5_written).before args s = true := h _ (k_in (List.mem_of_getElem? (i := 659) (by decide +kernel)) (by decide +kernel))
theorem kc_660 : Cond.code yX5_written prog_1_method_15_code 2 (some .int) ∈ kws := k_in (List.mem_of_getElem? (i := 660) (by decide +kernel)) (by decide +kernel)
theorem kw_661 {args : Array Value} {s : State} (h : ∀ w ∈ kws, w.before args s = true) : (Cond.methodLink RX5 139 yX2_characterAt).before args s = true := h _ (k_in (List.mem_of_getElem? (i := 661) (by decide +kernel)) (by decide +kernel))
theorem kw_662 {args : Array Value} {s : State} (h : ∀ w ∈ kws, w.before args s = true) : (Cond.instanceMethod yX2_characterAt).before args s = true := h _ (k_in (List.mem_of_getElem? (i := 662) (by decide +kernel)) (by decide +kernel))
theorem kw_663 {args : Array Value} {s : State} (h : ∀ w ∈ kws, w.before args s = true) : (Cond.selects RX2 yX2_characterAt yX2_characterAt).before args s = true := h _ (k_in (List.mem_of_getElem? (i := 663) (by decide +kernel)) (by decide +kernel))
theorem kc_664 : Cond.code yX2_characterAt prog_4_method_2_code 2 (some .int) ∈ kws := k_in (List.mem_of_getElem? (i := 664) (by decide +kernel)) (by decide +kernel)
theorem kw_669 {args : Array Value} {s : State} (h : ∀ w ∈ kws, w.before args s = true) : (Cond.instanceMethod yX5_solves).before args s = true := h _ (k_in (List.mem_of_getElem? (i := 669) (by decide +kernel)) (by decide +kernel))
theorem kw_670 {args : Array Value} {s : State} (h : ∀ w ∈ kws, w.before args s = true) : (Cond.selects RX5 yX5_solves yX5_solves).before args s = true := h _ (k_in (List.mem_of_getElem? (i := 670) (by decide +kernel)) (by decide +kernel))
theorem kc_671 : Cond.code yX5_solves prog_1_method_16_code 10 (some .boolean) ∈ kws := k_in (List.mem_of_getElem? (i := 671) (by decide +kernel)) (by decide +kernel)
theorem kw_672 {args : Array Value} {s : State} (h : ∀ w ∈ kws, w.before args s = true) : (Cond.methodLink RX5 142 yX1_share).before args s = true := h _ (k_in (List.mem_of_getElem? (i := 672) (by decide +kernel)) (by decide +kernel))
theorem kw_679 {args : Array Value} {s : State} (h : ∀ w ∈ kws, w.before args s = true) : (Cond.fieldLink RX6 65 RX6 "thrown" "I").before args s = true := h _ (k_in (List.mem_of_getElem? (i := 679) (by decide +kernel)) (by decide +kernel))
theorem kw_680 {args : Array Value} {s : State} (h : ∀ w ∈ kws, w.before args s = true) : (Cond.fieldLink RX6 74 RX6 "typed" "I").before args s = true := h _ (k_in (List.mem_of_getElem? (i := 680) (by decide +kernel)) (by decide +kernel))
theorem kw_681 {args : Array Value} {s : State} (h : ∀ w ∈ kws, w.before args s = true) : (Cond.fieldLink RX6 7 RX6 "draft" "[C").before args s = true := h _ (k_in (List.mem_of_getElem? (i := 681) (by decide +kernel)) (by decide +kernel))
theorem kw_682 {args : Array Value} {s : State} (h : ∀ w ∈ kws, w.before args s = true) : (Cond.fieldLink RX6 87 RX6 "size" "I").before args s = true := h _ (k_in (List.mem_of_getElem? (i := 682) (by decide +kernel)) (by decide +kernel))
theorem kw_683 {args : Array Value} {s : State} (h : ∀ w ∈ kws, w.before args s = true) : (Cond.fieldLink RX6 13 RX6 "text" "[C").before args s = true := h _ (k_in (List.mem_of_getElem? (i := 683) (by decide +kernel)) (by decide +kernel))
theorem kw_684 {args : Array Value} {s : State} (h : ∀ w ∈ kws, w.before args s = true) : (Cond.fieldLink RX6 90 RX6 "pos" "I").before args s = true := h _ (k_in (List.mem_of_getElem? (i := 684) (by decide +kernel)) (by decide +kernel))
theorem kw_685 {args : Array Value} {s : State} (h : ∀ w ∈ kws, w.before args s = true) : (Cond.fieldLink RX6 77 RX6 "fault" "I").before args s = true := h _ (k_in (List.mem_of_getElem? (i := 685) (by decide +kernel)) (by decide +kernel))
theorem kw_686 {args : Array Value} {s : State} (h : ∀ w ∈ kws, w.before args s = true) : (Cond.fieldLink RX6 80 RX6 "faultAt" "I").before args s = true := h _ (k_in (List.mem_of_getElem? (i := 686) (by decide +kernel)) (by decide +kernel))
theorem kw_687 {args : Array Value} {s : State} (h : ∀ w ∈ kws, w.before args s = true) : (Cond.fieldLink RX6 16 RX6 "told" "I").before args s = true := h _ (k_in (List.mem_of_getElem? (i := 687) (by decide +kernel)) (by decide +kernel))
theorem kw_688 {args : Array Value} {s : State} (h : ∀ w ∈ kws, w.before args s = true) : (Cond.fieldLink RX6 162 RX6 "there" "Z").before args s = true := h _ (k_in (List.mem_of_getElem? (i := 688) (by decide +kernel)) (by decide +kernel))
theorem kw_689 {args : Array Value} {s : State} (h : ∀ w ∈ kws, w.before args s = true) : (Cond.fieldLink RX6 133 RX6 "count" "I").before args s = true := h _ (k_in (List.mem_of_getElem? (i := 689) (by decide +kernel)) (by decide +kernel))
theorem kw_690 {args : Array Value} {s : State} (h : ∀ w ∈ kws, w.before args s = true) : (Cond.fieldLink RX6 20 RX6 "begins" "[I").before args s = true := h _ (k_in (List.mem_of_getElem? (i := 690) (by decide +kernel)) (by decide +kernel))
theorem kw_691 {args : Array Value} {s : State} (h : ∀ w ∈ kws, w.before args s = true) : (Cond.fieldLink RX6 24 RX6 "ends" "[I").before args s = true := h _ (k_in (List.mem_of_getElem? (i := 691) (by decide +kernel)) (by decide +kernel))
theorem kw_692 {args : Array Value} {s : State} (h : ∀ w ∈ kws, w.before args s = true) : (Cond.fieldLink RX6 27 RX6 "right" "[Z").before args s = true := h _ (k_in (List.mem_of_getElem? (i := 692) (by decide +kernel)) (by decide +kernel))
theorem kw_693 {args : Array Value} {s : State} (h : ∀ w ∈ kws, w.before args s = true) : (Cond.fieldLink RX6 31 RX6 "charges" "[J").before args s = true := h _ (k_in (List.mem_of_getElem? (i := 693) (by decide +kernel)) (by decide +kernel))
theorem kw_694 {args : Array Value} {s : State} (h : ∀ w ∈ kws, w.before args s = true) : (Cond.fieldLink RX6 35 RX6 "has" "[J").before args s = true := h _ (k_in (List.mem_of_getElem? (i := 694) (by decide +kernel)) (by decide +kernel))
theorem kw_695 {args : Array Value} {s : State} (h : ∀ w ∈ kws, w.before args s = true) : (Cond.fieldLink RX6 109 RX6 "elements" "I").before args s = true := h _ (k_in (List.mem_of_getElem? (i := 695) (by decide +kernel)) (by decide +kernel))
theorem kw_696 {args : Array Value} {s : State} (h : ∀ w ∈ kws, w.before args s = true) : (Cond.fieldLink RX6 38 RX6 "names" "[I").before args s = true := h _ (k_in (List.mem_of_getElem? (i := 696) (by decide +kernel)) (by decide +kernel))
theorem kw_697 {args : Array Value} {s : State} (h : ∀ w ∈ kws, w.before args s = true) : (Cond.fieldLink RX6 105 RX6 "charged" "Z").before args s = true := h _ (k_in (List.mem_of_getElem? (i := 697) (by decide +kernel)) (by decide +kernel))
theorem kw_698 {args : Array Value} {s : State} (h : ∀ w ∈ kws, w.before args s = true) : (Cond.fieldLink RX6 41 RX6 "sums" "[J").before args s = true := h _ (k_in (List.mem_of_getElem? (i := 698) (by decide +kernel)) (by decide +kernel))
theorem kw_699 {args : Array Value} {s : State} (h : ∀ w ∈ kws, w.before args s = true) : (Cond.fieldLink RX6 44 RX6 "bracket" "[C").before args s = true := h _ (k_in (List.mem_of_getElem? (i := 699) (by decide +kernel)) (by decide +kernel))
theorem kw_700 {args : Array Value} {s : State} (h : ∀ w ∈ kws, w.before args s = true) : (Cond.fieldLink RX6 112 RX6 "open" "I").before args s = true := h _ (k_in (List.mem_of_getElem? (i := 700) (by decide +kernel)) (by decide +kernel))
theorem kw_701 {args : Array Value} {s : State} (h : ∀ w ∈ kws, w.before args s = true) : (Cond.fieldLink RX6 185 RX6 "leads" "I").before args s = true := h _ (k_in (List.mem_of_getElem? (i := 701) (by decide +kernel)) (by decide +kernel))
theorem kw_702 {args : Array Value} {s : State} (h : ∀ w ∈ kws, w.before args s = true) : (Cond.fieldLink RX6 47 RX6 "lead" "[I").before args s = true := h _ (k_in (List.mem_of_getElem? (i := 702) (by decide +kernel)) (by decide +kernel))
theorem kw_703 {args : Array Value} {s : State} (h : ∀ w ∈ kws, w.before args s = true) : (Cond.fieldLink RX6 50 RX6 "isFree" "[Z").before args s = true := h _ (k_in (List.mem_of_getElem? (i := 703) (by decide +kernel)) (by decide +kernel))
theorem kw_704 {args : Array Value} {s : State} (h : ∀ w ∈ kws, w.before args s = true) : (Cond.fieldLink RX6 188 RX6 "free" "I").before args s = true := h _ (k_in (List.mem_of_getElem? (i := 704) (by decide +kernel)) (by decide +kernel))
theorem kw_705 {args : Array Value} {s : State} (h : ∀ w ∈ kws, w.before args s = true) : (Cond.fieldLink RX6 53 RX6 "bases" "[J").before args s = true := h _ (k_in (List.mem_of_getElem? (i := 705) (by decide +kernel)) (by decide +kernel))
theorem kw_706 {args : Array Value} {s : State} (h : ∀ w ∈ kws, w.before args s = true) : (Cond.fieldLink RX6 56 RX6 "column" "[I").before args s = true := h _ (k_in (List.mem_of_getElem? (i := 706) (by decide +kernel)) (by decide +kernel))
theorem kw_707 {args : Array Value} {s : State} (h : ∀ w ∈ kws, w.before args s = true) : (Cond.fieldLink RX6 59 RX6 "cells" "[J").before args s = true := h _ (k_in (List.mem_of_getElem? (i := 707) (by decide +kernel)) (by decide +kernel))
theorem kw_708 {args : Array Value} {s : State} (h : ∀ w ∈ kws, w.before args s = true) : (Cond.fieldLink RX6 204 RX6 "lineSize" "I").before args s = true := h _ (k_in (List.mem_of_getElem? (i := 708) (by decide +kernel)) (by decide +kernel))
theorem kw_709 {args : Array Value} {s : State} (h : ∀ w ∈ kws, w.before args s = true) : (Cond.fieldLink RX6 62 RX6 "line" "[C").before args s = true := h _ (k_in (List.mem_of_getElem? (i := 709) (by decide +kernel)) (by decide +kernel))
theorem kw_774 {args : Array Value} {s : State} (h : ∀ w ∈ kws, w.before args s = true) : (Cond.instanceMethod yX6_thrown).before args s = true := h _ (k_in (List.mem_of_getElem? (i := 774) (by decide +kernel)) (by decide +kernel))
theorem kw_775 {args : Array Value} {s : State} (h : ∀ w ∈ kws, w.before args s = true) : (Cond.selects RX6 yX6_thrown yX6_thrown).before args s = true := h _ (k_in (List.mem_of_getElem? (i := 775) (by decide +kernel)) (by decide +kernel))
theorem kc_776 : Cond.code yX6_thrown prog_8_method_2_code 1 (some .int) ∈ kws := k_in (List.mem_of_getElem? (i := 776) (by decide +kernel)) (by decide +kernel)
theorem kw_778 {args : Array Value} {s : State} (h : ∀ w ∈ kws, w.before args s = true) : (Cond.instanceMethod yX6_type).before args s = true := h _ (k_in (List.mem_of_getElem? (i := 778) (by decide +kernel)) (by decide +kernel))
theorem kw_779 {args : Array Value} {s : State} (h : ∀ w ∈ kws, w.before args s = true) : (Cond.selects RX6 yX6_type yX6_type).before args s = true := h _ (k_in (List.mem_of_getElem? (i := 779) (by decide +kernel)) (by decide +kernel))
theorem kc_780 : Cond.code yX6_type prog_8_method_3_code 8 (some .int) ∈ kws := k_in (List.mem_of_getElem? (i := 780) (by decide +kernel)) (by decide +kernel)
theorem kw_781 {args : Array Value} {s : State} (h : ∀ w ∈ kws, w.before args s = true) : (Cond.constantLong RX6 68 255).before args s = true := h _ (k_in (List.mem_of_getElem? (i := 781) (by decide +kernel)) (by decide +kernel))
theorem kw_782 {args : Array Value} {s : State} (h : ∀ w ∈ kws, w.before args s = true) : (Cond.constantLong RX6 70 32).before args s = true := h _ (k_in (List.mem_of_getElem? (i := 782) (by decide +kernel)) (by decide +kernel))
theorem kw_783 {args : Array Value} {s : State} (h : ∀ w ∈ kws, w.before args s = true) : (Cond.constantLong RX6 72 126).before args s = true := h _ (k_in (List.mem_of_getElem? (i := 783) (by decide +kernel)) (by decide +kernel))
theorem kw_785 {args : Array Value} {s : State} (h : ∀ w ∈ kws, w.before args s = true) : (Cond.instanceMethod yX6_read).before args s = true := h _ (k_in (List.mem_of_getElem? (i := 785) (by decide +kernel)) (by decide +kernel))
theorem kw_786 {args : Array Value} {s : State} (h : ∀ w ∈ kws, w.before args s = true) : (Cond.selects RX6 yX6_read yX6_read).before args s = true := h _ (k_in (List.mem_of_getElem? (i := 786) (by decide +kernel)) (by decide +kernel))
theorem kc_787 : Cond.code yX6_read prog_8_method_19_code 2 (some .int) ∈ kws := k_in (List.mem_of_getElem? (i := 787) (by decide +kernel)) (by decide +kernel)
theorem kw_788 {args : Array Value} {s : State} (h : ∀ w ∈ kws, w.before args s = true) : (Cond.methodLink RX6 159 yX6_readSide).before args s = true := h _ (k_in (List.mem_of_getElem? (i := 788) (by decide +kernel)) (by decide +kernel))
theorem kw_790 {args : Array Value} {s : State} (h : ∀ w ∈ kws, w.before args s = true) : (Cond.instanceMethod yX6_readSide).before args s = true := h _ (k_in (List.mem_of_getElem? (i := 790) (by decide +kernel)) (by decide +kernel))
theorem kc_791 : Cond.code yX6_readSide prog_8_method_18_code 3 none ∈ kws := k_in (List.mem_of_getElem? (i := 791) (by decide +kernel)) (by decide +kernel)
theorem kw_792 {args : Array Value} {s : State} (h : ∀ w ∈ kws, w.before args s = true) : (Cond.methodLink RX6 152 yX6_skip).before args s = true := h _ (k_in (List.mem_of_getElem? (i := 792) (by decide +kernel)) (by decide +kernel))
theorem kw_794 {args : Array Value} {s : State} (h : ∀ w ∈ kws, w.before args s = true) : (Cond.instanceMethod yX6_skip).before args s = true := h _ (k_in (List.mem_of_getElem? (i := 794) (by decide +kernel)) (by decide +kernel))
theorem kc_795 : Cond.code yX6_skip prog_8_method_9_code 1 none ∈ kws := k_in (List.mem_of_getElem? (i := 795) (by decide +kernel)) (by decide +kernel)
theorem kw_796 {args : Array Value} {s : State} (h : ∀ w ∈ kws, w.before args s = true) : (Cond.methodLink RX6 93 yX6_charAt).before args s = true := h _ (k_in (List.mem_of_getElem? (i := 796) (by decide +kernel)) (by decide +kernel))
theorem kw_798 {args : Array Value} {s : State} (h : ∀ w ∈ kws, w.before args s = true) : (Cond.instanceMethod yX6_charAt).before args s = true := h _ (k_in (List.mem_of_getElem? (i := 798) (by decide +kernel)) (by decide +kernel))
theorem kc_799 : Cond.code yX6_charAt prog_8_method_6_code 2 (some .char) ∈ kws := k_in (List.mem_of_getElem? (i := 799) (by decide +kernel)) (by decide +kernel)
theorem kw_800 {args : Array Value} {s : State} (h : ∀ w ∈ kws, w.before args s = true) : (Cond.methodLink RX6 101 yX6_failIf).before args s = true := h _ (k_in (List.mem_of_getElem? (i := 800) (by decide +kernel)) (by decide +kernel))
theorem kw_802 {args : Array Value} {s : State} (h : ∀ w ∈ kws, w.before args s = true) : (Cond.instanceMethod yX6_failIf).before args s = true := h _ (k_in (List.mem_of_getElem? (i := 802) (by decide +kernel)) (by decide +kernel))
theorem kc_803 : Cond.code yX6_failIf prog_8_method_5_code 4 none ∈ kws := k_in (List.mem_of_getElem? (i := 803) (by decide +kernel)) (by decide +kernel)
theorem kw_804 {args : Array Value} {s : State} (h : ∀ w ∈ kws, w.before args s = true) : (Cond.methodLink RX6 83 yX6_fail).before args s = true := h _ (k_in (List.mem_of_getElem? (i := 804) (by decide +kernel)) (by decide +kernel))
theorem kw_806 {args : Array Value} {s : State} (h : ∀ w ∈ kws, w.before args s = true) : (Cond.instanceMethod yX6_fail).before args s = true := h _ (k_in (List.mem_of_getElem? (i := 806) (by decide +kernel)) (by decide +kernel))
theorem kc_807 : Cond.code yX6_fail prog_8_method_4_code 3 none ∈ kws := k_in (List.mem_of_getElem? (i := 807) (by decide +kernel)) (by decide +kernel)
theorem kw_808 {args : Array Value} {s : State} (h : ∀ w ∈ kws, w.before args s = true) : (Cond.methodLink RX6 155 yX6_readFormula).before args s = true := h _ (k_in (List.mem_of_getElem? (i := 808) (by decide +kernel)) (by decide +kernel))
theorem kw_810 {args : Array Value} {s : State} (h : ∀ w ∈ kws, w.before args s = true) : (Cond.instanceMethod yX6_readFormula).before args s = true := h _ (k_in (List.mem_of_getElem? (i := 810) (by decide +kernel)) (by decide +kernel))
theorem kc_811 : Cond.code yX6_readFormula prog_8_method_17_code 4 none ∈ kws := k_in (List.mem_of_getElem? (i := 811) (by decide +kernel)) (by decide +kernel)
theorem kw_812 {args : Array Value} {s : State} (h : ∀ w ∈ kws, w.before args s = true) : (Cond.methodLink RX6 136 yX6_noteCharge).before args s = true := h _ (k_in (List.mem_of_getElem? (i := 812) (by decide +kernel)) (by decide +kernel))
theorem kw_814 {args : Array Value} {s : State} (h : ∀ w ∈ kws, w.before args s = true) : (Cond.instanceMethod yX6_noteCharge).before args s = true := h _ (k_in (List.mem_of_getElem? (i := 814) (by decide +kernel)) (by decide +kernel))
theorem kc_815 : Cond.code yX6_noteCharge prog_8_method_11_code 2 none ∈ kws := k_in (List.mem_of_getElem? (i := 815) (by decide +kernel)) (by decide +kernel)
theorem kw_816 {args : Array Value} {s : State} (h : ∀ w ∈ kws, w.before args s = true) : (Cond.constantLong RX6 140 (-1)).before args s = true := h _ (k_in (List.mem_of_getElem? (i := 816) (by decide +kernel)) (by decide +kernel))
theorem kw_817 {args : Array Value} {s : State} (h : ∀ w ∈ kws, w.before args s = true) : (Cond.methodLink RX6 142 yX6_readPart).before args s = true := h _ (k_in (List.mem_of_getElem? (i := 817) (by decide +kernel)) (by decide +kernel))
theorem kw_819 {args : Array Value} {s : State} (h : ∀ w ∈ kws, w.before args s = true) : (Cond.instanceMethod yX6_readPart).before args s = true := h _ (k_in (List.mem_of_getElem? (i := 819) (by decide +kernel)) (by decide +kernel))
theorem kc_820 : Cond.code yX6_readPart prog_8_method_15_code 6 none ∈ kws := k_in (List.mem_of_getElem? (i := 820) (by decide +kernel)) (by decide +kernel)
theorem kw_821 {args : Array Value} {s : State} (h : ∀ w ∈ kws, w.before args s = true) : (Cond.methodLink RX6 125 yX6_number0).before args s = true := h _ (k_in (List.mem_of_getElem? (i := 821) (by decide +kernel)) (by decide +kernel))
theorem kw_823 {args : Array Value} {s : State} (h : ∀ w ∈ kws, w.before args s = true) : (Cond.instanceMethod yX6_number0).before args s = true := h _ (k_in (List.mem_of_getElem? (i := 823) (by decide +kernel)) (by decide +kernel))
theorem kc_824 : Cond.code yX6_number0 prog_8_method_10_code 3 (some .long) ∈ kws := k_in (List.mem_of_getElem? (i := 824) (by decide +kernel)) (by decide +kernel)
theorem kw_825 {args : Array Value} {s : State} (h : ∀ w ∈ kws, w.before args s = true) : (Cond.methodLink RX6 97 yX6_isDigit).before args s = true := h _ (k_in (List.mem_of_getElem? (i := 825) (by decide +kernel)) (by decide +kernel))
theorem kw_826 {args : Array Value} {s : State} (h : ∀ w ∈ kws, w.before args s = true) : (Cond.static yX6_isDigit).before args s = true := h _ (k_in (List.mem_of_getElem? (i := 826) (by decide +kernel)) (by decide +kernel))
theorem kc_827 : Cond.code yX6_isDigit prog_8_method_7_code 1 (some .boolean) ∈ kws := k_in (List.mem_of_getElem? (i := 827) (by decide +kernel)) (by decide +kernel)
theorem kw_828 {args : Array Value} {s : State} (h : ∀ w ∈ kws, w.before args s = true) : (Cond.methodLink RX6 115 yX6_clearSums).before args s = true := h _ (k_in (List.mem_of_getElem? (i := 828) (by decide +kernel)) (by decide +kernel))
theorem kw_830 {args : Array Value} {s : State} (h : ∀ w ∈ kws, w.before args s = true) : (Cond.instanceMethod yX6_clearSums).before args s = true := h _ (k_in (List.mem_of_getElem? (i := 830) (by decide +kernel)) (by decide +kernel))
theorem kc_831 : Cond.code yX6_clearSums prog_8_method_13_code 2 none ∈ kws := k_in (List.mem_of_getElem? (i := 831) (by decide +kernel)) (by decide +kernel)
theorem kw_832 {args : Array Value} {s : State} (h : ∀ w ∈ kws, w.before args s = true) : (Cond.methodLink RX6 129 yX6_readStep).before args s = true := h _ (k_in (List.mem_of_getElem? (i := 832) (by decide +kernel)) (by decide +kernel))
theorem kw_834 {args : Array Value} {s : State} (h : ∀ w ∈ kws, w.before args s = true) : (Cond.instanceMethod yX6_readStep).before args s = true := h _ (k_in (List.mem_of_getElem? (i := 834) (by decide +kernel)) (by decide +kernel))
theorem kc_835 : Cond.code yX6_readStep prog_8_method_14_code 6 (some .boolean) ∈ kws := k_in (List.mem_of_getElem? (i := 835) (by decide +kernel)) (by decide +kernel)
theorem kw_836 {args : Array Value} {s : State} (h : ∀ w ∈ kws, w.before args s = true) : (Cond.methodLink RX6 118 yX6_isCapital).before args s = true := h _ (k_in (List.mem_of_getElem? (i := 836) (by decide +kernel)) (by decide +kernel))
theorem kw_837 {args : Array Value} {s : State} (h : ∀ w ∈ kws, w.before args s = true) : (Cond.static yX6_isCapital).before args s = true := h _ (k_in (List.mem_of_getElem? (i := 837) (by decide +kernel)) (by decide +kernel))
theorem kc_838 : Cond.code yX6_isCapital prog_8_method_8_code 1 (some .boolean) ∈ kws := k_in (List.mem_of_getElem? (i := 838) (by decide +kernel)) (by decide +kernel)
theorem kw_839 {args : Array Value} {s : State} (h : ∀ w ∈ kws, w.before args s = true) : (Cond.methodLink RX6 121 yX6_element).before args s = true := h _ (k_in (List.mem_of_getElem? (i := 839) (by decide +kernel)) (by decide +kernel))
theorem kw_841 {args : Array Value} {s : State} (h : ∀ w ∈ kws, w.before args s = true) : (Cond.instanceMethod yX6_element).before args s = true := h _ (k_in (List.mem_of_getElem? (i := 841) (by decide +kernel)) (by decide +kernel))
theorem kc_842 : Cond.code yX6_element prog_8_method_12_code 5 (some .int) ∈ kws := k_in (List.mem_of_getElem? (i := 842) (by decide +kernel)) (by decide +kernel)
theorem kw_843 {args : Array Value} {s : State} (h : ∀ w ∈ kws, w.before args s = true) : (Cond.methodLink RX6 145 yX6_readCharge).before args s = true := h _ (k_in (List.mem_of_getElem? (i := 843) (by decide +kernel)) (by decide +kernel))
theorem kw_845 {args : Array Value} {s : State} (h : ∀ w ∈ kws, w.before args s = true) : (Cond.instanceMethod yX6_readCharge).before args s = true := h _ (k_in (List.mem_of_getElem? (i := 845) (by decide +kernel)) (by decide +kernel))
theorem kc_846 : Cond.code yX6_readCharge prog_8_method_16_code 4 none ∈ kws := k_in (List.mem_of_getElem? (i := 846) (by decide +kernel)) (by decide +kernel)
theorem kw_847 {args : Array Value} {s : State} (h : ∀ w ∈ kws, w.before args s = true) : (Cond.constantLong RX6 148 40).before args s = true := h _ (k_in (List.mem_of_getElem? (i := 847) (by decide +kernel)) (by decide +kernel))
theorem kw_848 {args : Array Value} {s : State} (h : ∀ w ∈ kws, w.before args s = true) : (Cond.constantLong RX6 150 (-40)).before args s = true := h _ (k_in (List.mem_of_getElem? (i := 848) (by decide +kernel)) (by decide +kernel))
theorem kw_849 {args : Array Value} {s : State} (h : ∀ w ∈ kws, w.before args s = true) : (Cond.methodLink RX6 165 yX6_solve).before args s = true := h _ (k_in (List.mem_of_getElem? (i := 849) (by decide +kernel)) (by decide +kernel))
theorem kw_851 {args : Array Value} {s : State} (h : ∀ w ∈ kws, w.before args s = true) : (Cond.instanceMethod yX6_solve).before args s = true := h _ (k_in (List.mem_of_getElem? (i := 851) (by decide +kernel)) (by decide +kernel))
theorem kc_852 : Cond.code yX6_solve prog_8_method_29_code 2 none ∈ kws := k_in (List.mem_of_getElem? (i := 852) (by decide +kernel)) (by decide +kernel)
theorem kw_853 {args : Array Value} {s : State} (h : ∀ w ∈ kws, w.before args s = true) : (Cond.methodLink RX6 191 yX6_noteLeads).before args s = true := h _ (k_in (List.mem_of_getElem? (i := 853) (by decide +kernel)) (by decide +kernel))
theorem kw_855 {args : Array Value} {s : State} (h : ∀ w ∈ kws, w.before args s = true) : (Cond.instanceMethod yX6_noteLeads).before args s = true := h _ (k_in (List.mem_of_getElem? (i := 855) (by decide +kernel)) (by decide +kernel))
theorem kc_856 : Cond.code yX6_noteLeads prog_8_method_27_code 2 none ∈ kws := k_in (List.mem_of_getElem? (i := 856) (by decide +kernel)) (by decide +kernel)
theorem kw_857 {args : Array Value} {s : State} (h : ∀ w ∈ kws, w.before args s = true) : (Cond.methodLink RX6 175 yX6_kindCount).before args s = true := h _ (k_in (List.mem_of_getElem? (i := 857) (by decide +kernel)) (by decide +kernel))
theorem kw_859 {args : Array Value} {s : State} (h : ∀ w ∈ kws, w.before args s = true) : (Cond.instanceMethod yX6_kindCount).before args s = true := h _ (k_in (List.mem_of_getElem? (i := 859) (by decide +kernel)) (by decide +kernel))
theorem kc_860 : Cond.code yX6_kindCount prog_8_method_21_code 1 (some .int) ∈ kws := k_in (List.mem_of_getElem? (i := 860) (by decide +kernel)) (by decide +kernel)
theorem kw_861 {args : Array Value} {s : State} (h : ∀ w ∈ kws, w.before args s = true) : (Cond.methodLink RX6 194 yX6_rowsFor).before args s = true := h _ (k_in (List.mem_of_getElem? (i := 861) (by decide +kernel)) (by decide +kernel))
theorem kw_863 {args : Array Value} {s : State} (h : ∀ w ∈ kws, w.before args s = true) : (Cond.instanceMethod yX6_rowsFor).before args s = true := h _ (k_in (List.mem_of_getElem? (i := 863) (by decide +kernel)) (by decide +kernel))
theorem kc_864 : Cond.code yX6_rowsFor prog_8_method_25_code 3 (some .int) ∈ kws := k_in (List.mem_of_getElem? (i := 864) (by decide +kernel)) (by decide +kernel)
theorem kw_865 {args : Array Value} {s : State} (h : ∀ w ∈ kws, w.before args s = true) : (Cond.methodLink RX6 178 yX6_sizeOf).before args s = true := h _ (k_in (List.mem_of_getElem? (i := 865) (by decide +kernel)) (by decide +kernel))
theorem kw_866 {args : Array Value} {s : State} (h : ∀ w ∈ kws, w.before args s = true) : (Cond.static yX6_sizeOf).before args s = true := h _ (k_in (List.mem_of_getElem? (i := 866) (by decide +kernel)) (by decide +kernel))
theorem kc_867 : Cond.code yX6_sizeOf prog_8_method_24_code 3 (some .int) ∈ kws := k_in (List.mem_of_getElem? (i := 867) (by decide +kernel)) (by decide +kernel)
theorem kw_868 {args : Array Value} {s : State} (h : ∀ w ∈ kws, w.before args s = true) : (Cond.methodLink RX6 182 yX6_determinant).before args s = true := h _ (k_in (List.mem_of_getElem? (i := 868) (by decide +kernel)) (by decide +kernel))
theorem kw_870 {args : Array Value} {s : State} (h : ∀ w ∈ kws, w.before args s = true) : (Cond.instanceMethod yX6_determinant).before args s = true := h _ (k_in (List.mem_of_getElem? (i := 870) (by decide +kernel)) (by decide +kernel))
theorem kc_871 : Cond.code yX6_determinant prog_8_method_23_code 13 (some .long) ∈ kws := k_in (List.mem_of_getElem? (i := 871) (by decide +kernel)) (by decide +kernel)
theorem kw_872 {args : Array Value} {s : State} (h : ∀ w ∈ kws, w.before args s = true) : (Cond.methodLink RX6 171 yX6_hasOf).before args s = true := h _ (k_in (List.mem_of_getElem? (i := 872) (by decide +kernel)) (by decide +kernel))
theorem kw_874 {args : Array Value} {s : State} (h : ∀ w ∈ kws, w.before args s = true) : (Cond.instanceMethod yX6_hasOf).before args s = true := h _ (k_in (List.mem_of_getElem? (i := 874) (by decide +kernel)) (by decide +kernel))
theorem kc_875 : Cond.code yX6_hasOf prog_8_method_22_code 3 (some .long) ∈ kws := k_in (List.mem_of_getElem? (i := 875) (by decide +kernel)) (by decide +kernel)
theorem kw_876 {args : Array Value} {s : State} (h : ∀ w ∈ kws, w.before args s = true) : (Cond.methodLink RX6 201 yX6_makeBase).before args s = true := h _ (k_in (List.mem_of_getElem? (i := 876) (by decide +kernel)) (by decide +kernel))
theorem kw_878 {args : Array Value} {s : State} (h : ∀ w ∈ kws, w.before args s = true) : (Cond.instanceMethod yX6_makeBase).before args s = true := h _ (k_in (List.mem_of_getElem? (i := 878) (by decide +kernel)) (by decide +kernel))
theorem kc_879 : Cond.code yX6_makeBase prog_8_method_28_code 10 none ∈ kws := k_in (List.mem_of_getElem? (i := 879) (by decide +kernel)) (by decide +kernel)
theorem kw_880 {args : Array Value} {s : State} (h : ∀ w ∈ kws, w.before args s = true) : (Cond.methodLink RX6 197 yX6_common).before args s = true := h _ (k_in (List.mem_of_getElem? (i := 880) (by decide +kernel)) (by decide +kernel))
theorem kw_881 {args : Array Value} {s : State} (h : ∀ w ∈ kws, w.before args s = true) : (Cond.static yX6_common).before args s = true := h _ (k_in (List.mem_of_getElem? (i := 881) (by decide +kernel)) (by decide +kernel))
theorem kc_882 : Cond.code yX6_common prog_8_method_26_code 10 (some .long) ∈ kws := k_in (List.mem_of_getElem? (i := 882) (by decide +kernel)) (by decide +kernel)
theorem kw_883 {args : Array Value} {s : State} (h : ∀ w ∈ kws, w.before args s = true) : (Cond.methodLink RX6 168 yX6_write).before args s = true := h _ (k_in (List.mem_of_getElem? (i := 883) (by decide +kernel)) (by decide +kernel))
theorem kw_885 {args : Array Value} {s : State} (h : ∀ w ∈ kws, w.before args s = true) : (Cond.instanceMethod yX6_write).before args s = true := h _ (k_in (List.mem_of_getElem? (i := 885) (by decide +kernel)) (by decide +kernel))
theorem kc_886 : Cond.code yX6_write prog_8_method_33_code 3 none ∈ kws := k_in (List.mem_of_getElem? (i := 886) (by decide +kernel)) (by decide +kernel)
theorem kw_887 {args : Array Value} {s : State} (h : ∀ w ∈ kws, w.before args s = true) : (Cond.methodLink RX6 216 yX6_isBalanced).before args s = true := h _ (k_in (List.mem_of_getElem? (i := 887) (by decide +kernel)) (by decide +kernel))
theorem kw_889 {args : Array Value} {s : State} (h : ∀ w ∈ kws, w.before args s = true) : (Cond.instanceMethod yX6_isBalanced).before args s = true := h _ (k_in (List.mem_of_getElem? (i := 889) (by decide +kernel)) (by decide +kernel))
theorem kc_890 : Cond.code yX6_isBalanced prog_8_method_30_code 3 (some .boolean) ∈ kws := k_in (List.mem_of_getElem? (i := 890) (by decide +kernel)) (by decide +kernel)
theorem kw_891 {args : Array Value} {s : State} (h : ∀ w ∈ kws, w.before args s = true) : (Cond.methodLink RX6 213 yX6_put).before args s = true := h _ (k_in (List.mem_of_getElem? (i := 891) (by decide +kernel)) (by decide +kernel))
theorem kw_893 {args : Array Value} {s : State} (h : ∀ w ∈ kws, w.before args s = true) : (Cond.instanceMethod yX6_put).before args s = true := h _ (k_in (List.mem_of_getElem? (i := 893) (by decide +kernel)) (by decide +kernel))
theorem kc_894 : Cond.code yX6_put prog_8_method_31_code 2 none ∈ kws := k_in (List.mem_of_getElem? (i := 894) (by decide +kernel)) (by decide +kernel)
theorem kw_895 {args : Array Value} {s : State} (h : ∀ w ∈ kws, w.before args s = true) : (Cond.methodLink RX6 220 yX6_putNumber).before args s = true := h _ (k_in (List.mem_of_getElem? (i := 895) (by decide +kernel)) (by decide +kernel))
theorem kw_897 {args : Array Value} {s : State} (h : ∀ w ∈ kws, w.before args s = true) : (Cond.instanceMethod yX6_putNumber).before args s = true := h _ (k_in (List.mem_of_getElem? (i := 897) (by decide +kernel)) (by decide +kernel))
theorem kc_898 : Cond.code yX6_putNumber prog_8_method_32_code 7 none ∈ kws := k_in (List.mem_of_getElem? (i := 898) (by decide +kernel)) (by decide +kernel)
theorem kw_899 {args : Array Value} {s : State} (h : ∀ w ∈ kws, w.before args s = true) : (Cond.constantLong RX6 207 9).before args s = true := h _ (k_in (List.mem_of_getElem? (i := 899) (by decide +kernel)) (by decide +kernel))
theorem kw_900 {args : Array Value} {s : State} (h : ∀ w ∈ kws, w.before args s = true) : (Cond.constantLong RX6 209 10).before args s = true := h _ (k_in (List.mem_of_getElem? (i := 900) (by decide +kernel)) (by decide +kernel))
theorem kw_901 {args : Array Value} {s : State} (h : ∀ w ∈ kws, w.before args s = true) : (Cond.constantLong RX6 211 48).before args s = true := h _ (k_in (List.mem_of_getElem? (i := 901) (by decide +kernel)) (by decide +kernel))
theorem kw_903 {args : Array Value} {s : State} (h : ∀ w ∈ kws, w.before args s = true) : (Cond.instanceMethod yX6_at).before args s = true := h _ (k_in (List.mem_of_getElem? (i := 903) (by decide +kernel)) (by decide +kernel))
theorem kw_904 {args : Array Value} {s : State} (h : ∀ w ∈ kws, w.before args s = true) : (Cond.selects RX6 yX6_at yX6_at).before args s = true := h _ (k_in (List.mem_of_getElem? (i := 904) (by decide +kernel)) (by decide +kernel))
theorem kc_905 : Cond.code yX6_at prog_8_method_20_code 1 (some .int) ∈ kws := k_in (List.mem_of_getElem? (i := 905) (by decide +kernel)) (by decide +kernel)
theorem kw_907 {args : Array Value} {s : State} (h : ∀ w ∈ kws, w.before args s = true) : (Cond.instanceMethod yX6_state).before args s = true := h _ (k_in (List.mem_of_getElem? (i := 907) (by decide +kernel)) (by decide +kernel))
theorem kw_908 {args : Array Value} {s : State} (h : ∀ w ∈ kws, w.before args s = true) : (Cond.selects RX6 yX6_state yX6_state).before args s = true := h _ (k_in (List.mem_of_getElem? (i := 908) (by decide +kernel)) (by decide +kernel))
theorem kc_909 : Cond.code yX6_state prog_8_method_34_code 1 (some .int) ∈ kws := k_in (List.mem_of_getElem? (i := 909) (by decide +kernel)) (by decide +kernel)
theorem kw_911 {args : Array Value} {s : State} (h : ∀ w ∈ kws, w.before args s = true) : (Cond.instanceMethod yX6_freedom).before args s = true := h _ (k_in (List.mem_of_getElem? (i := 911) (by decide +kernel)) (by decide +kernel))
theorem kw_912 {args : Array Value} {s : State} (h : ∀ w ∈ kws, w.before args s = true) : (Cond.selects RX6 yX6_freedom yX6_freedom).before args s = true := h _ (k_in (List.mem_of_getElem? (i := 912) (by decide +kernel)) (by decide +kernel))
theorem kc_913 : Cond.code yX6_freedom prog_8_method_35_code 1 (some .int) ∈ kws := k_in (List.mem_of_getElem? (i := 913) (by decide +kernel)) (by decide +kernel)
theorem kw_915 {args : Array Value} {s : State} (h : ∀ w ∈ kws, w.before args s = true) : (Cond.instanceMethod yX6_formulas).before args s = true := h _ (k_in (List.mem_of_getElem? (i := 915) (by decide +kernel)) (by decide +kernel))
theorem kw_916 {args : Array Value} {s : State} (h : ∀ w ∈ kws, w.before args s = true) : (Cond.selects RX6 yX6_formulas yX6_formulas).before args s = true := h _ (k_in (List.mem_of_getElem? (i := 916) (by decide +kernel)) (by decide +kernel))
theorem kc_917 : Cond.code yX6_formulas prog_8_method_36_code 1 (some .int) ∈ kws := k_in (List.mem_of_getElem? (i := 917) (by decide +kernel)) (by decide +kernel)
theorem kw_919 {args : Array Value} {s : State} (h : ∀ w ∈ kws, w.before args s = true) : (Cond.instanceMethod yX6_kinds).before args s = true := h _ (k_in (List.mem_of_getElem? (i := 919) (by decide +kernel)) (by decide +kernel))
theorem kw_920 {args : Array Value} {s : State} (h : ∀ w ∈ kws, w.before args s = true) : (Cond.selects RX6 yX6_kinds yX6_kinds).before args s = true := h _ (k_in (List.mem_of_getElem? (i := 920) (by decide +kernel)) (by decide +kernel))
theorem kc_921 : Cond.code yX6_kinds prog_8_method_37_code 1 (some .int) ∈ kws := k_in (List.mem_of_getElem? (i := 921) (by decide +kernel)) (by decide +kernel)
theorem kw_923 {args : Array Value} {s : State} (h : ∀ w ∈ kws, w.before args s = true) : (Cond.instanceMethod yX6_name).before args s = true := h _ (k_in (List.mem_of_getElem? (i := 923) (by decide +kernel)) (by decide +kernel))
theorem kw_924 {args : Array Value} {s : State} (h : ∀ w ∈ kws, w.before args s = true) : (Cond.selects RX6 yX6_name yX6_name).before args s = true := h _ (k_in (List.mem_of_getElem? (i := 924) (by decide +kernel)) (by decide +kernel))
theorem kc_925 : Cond.code yX6_name prog_8_method_40_code 2 (some .int) ∈ kws := k_in (List.mem_of_getElem? (i := 925) (by decide +kernel)) (by decide +kernel)
theorem kw_926 {args : Array Value} {s : State} (h : ∀ w ∈ kws, w.before args s = true) : (Cond.methodLink RX6 224 yX6_isKind).before args s = true := h _ (k_in (List.mem_of_getElem? (i := 926) (by decide +kernel)) (by decide +kernel))
theorem kw_928 {args : Array Value} {s : State} (h : ∀ w ∈ kws, w.before args s = true) : (Cond.instanceMethod yX6_isKind).before args s = true := h _ (k_in (List.mem_of_getElem? (i := 928) (by decide +kernel)) (by decide +kernel))
theorem kc_929 : Cond.code yX6_isKind prog_8_method_38_code 2 (some .boolean) ∈ kws := k_in (List.mem_of_getElem? (i := 929) (by decide +kernel)) (by decide +kernel)
theorem kw_931 {args : Array Value} {s : State} (h : ∀ w ∈ kws, w.before args s = true) : (Cond.instanceMethod yX6_has).before args s = true := h _ (k_in (List.mem_of_getElem? (i := 931) (by decide +kernel)) (by decide +kernel))
theorem kw_932 {args : Array Value} {s : State} (h : ∀ w ∈ kws, w.before args s = true) : (Cond.selects RX6 yX6_has yX6_has).before args s = true := h _ (k_in (List.mem_of_getElem? (i := 932) (by decide +kernel)) (by decide +kernel))
theorem kc_933 : Cond.code yX6_has prog_8_method_41_code 3 (some .int) ∈ kws := k_in (List.mem_of_getElem? (i := 933) (by decide +kernel)) (by decide +kernel)
theorem kw_934 {args : Array Value} {s : State} (h : ∀ w ∈ kws, w.before args s = true) : (Cond.methodLink RX6 228 yX6_isFormula).before args s = true := h _ (k_in (List.mem_of_getElem? (i := 934) (by decide +kernel)) (by decide +kernel))
theorem kw_936 {args : Array Value} {s : State} (h : ∀ w ∈ kws, w.before args s = true) : (Cond.instanceMethod yX6_isFormula).before args s = true := h _ (k_in (List.mem_of_getElem? (i := 936) (by decide +kernel)) (by decide +kernel))
theorem kc_937 : Cond.code yX6_isFormula prog_8_method_39_code 2 (some .boolean) ∈ kws := k_in (List.mem_of_getElem? (i := 937) (by decide +kernel)) (by decide +kernel)
theorem kw_939 {args : Array Value} {s : State} (h : ∀ w ∈ kws, w.before args s = true) : (Cond.instanceMethod yX6_product).before args s = true := h _ (k_in (List.mem_of_getElem? (i := 939) (by decide +kernel)) (by decide +kernel))
theorem kw_940 {args : Array Value} {s : State} (h : ∀ w ∈ kws, w.before args s = true) : (Cond.selects RX6 yX6_product yX6_product).before args s = true := h _ (k_in (List.mem_of_getElem? (i := 940) (by decide +kernel)) (by decide +kernel))
theorem kc_941 : Cond.code yX6_product prog_8_method_42_code 2 (some .boolean) ∈ kws := k_in (List.mem_of_getElem? (i := 941) (by decide +kernel)) (by decide +kernel)
theorem kw_943 {args : Array Value} {s : State} (h : ∀ w ∈ kws, w.before args s = true) : (Cond.instanceMethod yX6_free).before args s = true := h _ (k_in (List.mem_of_getElem? (i := 943) (by decide +kernel)) (by decide +kernel))
theorem kw_944 {args : Array Value} {s : State} (h : ∀ w ∈ kws, w.before args s = true) : (Cond.selects RX6 yX6_free yX6_free).before args s = true := h _ (k_in (List.mem_of_getElem? (i := 944) (by decide +kernel)) (by decide +kernel))
theorem kc_945 : Cond.code yX6_free prog_8_method_43_code 2 (some .boolean) ∈ kws := k_in (List.mem_of_getElem? (i := 945) (by decide +kernel)) (by decide +kernel)
theorem kw_947 {args : Array Value} {s : State} (h : ∀ w ∈ kws, w.before args s = true) : (Cond.instanceMethod yX6_number).before args s = true := h _ (k_in (List.mem_of_getElem? (i := 947) (by decide +kernel)) (by decide +kernel))
theorem kw_948 {args : Array Value} {s : State} (h : ∀ w ∈ kws, w.before args s = true) : (Cond.selects RX6 yX6_number yX6_number).before args s = true := h _ (k_in (List.mem_of_getElem? (i := 948) (by decide +kernel)) (by decide +kernel))
theorem kc_949 : Cond.code yX6_number prog_8_method_44_code 3 (some .long) ∈ kws := k_in (List.mem_of_getElem? (i := 949) (by decide +kernel)) (by decide +kernel)
theorem kw_951 {args : Array Value} {s : State} (h : ∀ w ∈ kws, w.before args s = true) : (Cond.instanceMethod yX6_weight).before args s = true := h _ (k_in (List.mem_of_getElem? (i := 951) (by decide +kernel)) (by decide +kernel))
theorem kw_952 {args : Array Value} {s : State} (h : ∀ w ∈ kws, w.before args s = true) : (Cond.selects RX6 yX6_weight yX6_weight).before args s = true := h _ (k_in (List.mem_of_getElem? (i := 952) (by decide +kernel)) (by decide +kernel))
theorem kc_953 : Cond.code yX6_weight prog_8_method_45_code 5 (some .long) ∈ kws := k_in (List.mem_of_getElem? (i := 953) (by decide +kernel)) (by decide +kernel)
theorem kw_955 {args : Array Value} {s : State} (h : ∀ w ∈ kws, w.before args s = true) : (Cond.instanceMethod yX6_written).before args s = true := h _ (k_in (List.mem_of_getElem? (i := 955) (by decide +kernel)) (by decide +kernel))
theorem kw_956 {args : Array Value} {s : State} (h : ∀ w ∈ kws, w.before args s = true) : (Cond.selects RX6 yX6_written yX6_written).before args s = true := h _ (k_in (List.mem_of_getElem? (i := 956) (by decide +kernel)) (by decide +kernel))
theorem kc_957 : Cond.code yX6_written prog_8_method_46_code 2 (some .int) ∈ kws := k_in (List.mem_of_getElem? (i := 957) (by decide +kernel)) (by decide +kernel)
theorem kw_959 {args : Array Value} {s : State} (h : ∀ w ∈ kws, w.before args s = true) : (Cond.instanceMethod yX6_solves).before args s = true := h _ (k_in (List.mem_of_getElem? (i := 959) (by decide +kernel)) (by decide +kernel))
theorem kw_960 {args : Array Value} {s : State} (h : ∀ w ∈ kws, w.before args s = true) : (Cond.selects RX6 yX6_solves yX6_solves).before args s = true := h _ (k_in (List.mem_of_getElem? (i := 960) (by decide +kernel)) (by decide +kernel))
theorem kc_961 : Cond.code yX6_solves prog_8_method_47_code 15 (some .boolean) ∈ kws := k_in (List.mem_of_getElem? (i := 961) (by decide +kernel)) (by decide +kernel)
def k_nest : List Cond := [.methodLinkNest RX5 9 yX3_init RX5, .methodLinkNest RX3 11 yX4_init RX5, .methodLinkNest RX3 20 yX1_init RX5, .methodLinkNest RX5 18 yX0_init RX5, .methodLinkNest RX5 25 yX2_init RX5, .methodLinkNest RX3 148 yX5_isDigit RX5, .methodLinkNest RX3 127 yX5_isCapital RX5, .methodLinkNest RX3 141 yX5_isSmall RX5, .castable "java/lang/IllegalArgumentException" "java/lang/IllegalArgumentException", .declares ⟨"java/lang/RuntimeException", "<init>", "()V"⟩, .declares ⟨"java/lang/Exception", "<init>", "()V"⟩, .declares ⟨"java/lang/Throwable", "<init>", "()V"⟩, .castable "java/lang/UnsupportedOperationException" "java/lang/UnsupportedOperationException", .castable "java/util/NoSuchElementException" "java/util/NoSuchElementException", .castable "java/lang/IllegalStateException" "java/lang/IllegalStateException"]
def k_N (U : State) : Prop := ∀ w ∈ k_nest, va_Nw w U
theorem kn_0 {s : State} (h : k_N s) : va_Nw (.methodLinkNest RX5 9 yX3_init RX5) s := h _ (List.mem_of_getElem? (i := 0) rfl)
theorem kn_1 {s : State} (h : k_N s) : va_Nw (.methodLinkNest RX3 11 yX4_init RX5) s := h _ (List.mem_of_getElem? (i := 1) rfl)
theorem kn_2 {s : State} (h : k_N s) : va_Nw (.methodLinkNest RX3 20 yX1_init RX5) s := h _ (List.mem_of_getElem? (i := 2) rfl)
theorem kn_3 {s : State} (h : k_N s) : va_Nw (.methodLinkNest RX5 18 yX0_init RX5) s := h _ (List.mem_of_getElem? (i := 3) rfl)
theorem kn_4 {s : State} (h : k_N s) : va_Nw (.methodLinkNest RX5 25 yX2_init RX5) s := h _ (List.mem_of_getElem? (i := 4) rfl)
theorem kn_5 {s : State} (h : k_N s) : va_Nw (.methodLinkNest RX3 148 yX5_isDigit RX5) s := h _ (List.mem_of_getElem? (i := 5) rfl)
theorem kn_6 {s : State} (h : k_N s) : va_Nw (.methodLinkNest RX3 127 yX5_isCapital RX5) s := h _ (List.mem_of_getElem? (i := 6) rfl)
theorem kn_7 {s : State} (h : k_N s) : va_Nw (.methodLinkNest RX3 141 yX5_isSmall RX5) s := h _ (List.mem_of_getElem? (i := 7) rfl)
theorem kn_8 {s : State} (h : k_N s) : va_Nw (.castable "java/lang/IllegalArgumentException" "java/lang/IllegalArgumentException") s := h _ (List.mem_of_getElem? (i := 8) rfl)
theorem kn_9 {s : State} (h : k_N s) : va_Nw (.declares ⟨"java/lang/RuntimeException", "<init>", "()V"⟩) s := h _ (List.mem_of_getElem? (i := 9) rfl)
theorem kn_10 {s : State} (h : k_N s) : va_Nw (.declares ⟨"java/lang/Exception", "<init>", "()V"⟩) s := h _ (List.mem_of_getElem? (i := 10) rfl)
theorem kn_11 {s : State} (h : k_N s) : va_Nw (.declares ⟨"java/lang/Throwable", "<init>", "()V"⟩) s := h _ (List.mem_of_getElem? (i := 11) rfl)
theorem kn_12 {s : State} (h : k_N s) : va_Nw (.castable "java/lang/UnsupportedOperationException" "java/lang/UnsupportedOperationException") s := h _ (List.mem_of_getElem? (i := 12) rfl)
theorem kn_13 {s : State} (h : k_N s) : va_Nw (.castable "java/util/NoSuchElementException" "java/util/NoSuchElementException") s := h _ (List.mem_of_getElem? (i := 13) rfl)
theorem kn_14 {s : State} (h : k_N s) : va_Nw (.castable "java/lang/IllegalStateException" "java/lang/IllegalStateException") s := h _ (List.mem_of_getElem? (i := 14) rfl)
theorem k_N.warm {s U : State} (hW : s.WarmedH U.vm) (h : k_N s) : k_N U := by
  intro w hw
  have h1 := h w hw
  simp only [k_nest, List.mem_cons, List.not_mem_nil, or_false] at hw
  rcases hw with rfl | rfl | rfl | rfl | rfl | rfl | rfl | rfl | rfl | rfl | rfl | rfl | rfl | rfl | rfl <;> first | exact va_Nw.warmM hW h1 | exact va_Nw.warmC hW h1 | exact va_Nw.warmD hW h1
theorem k_N.same {s U : State} (hv : s.vm = U.vm) (h : k_N s) : k_N U := by
  intro w hw
  have h1 := h w hw
  simp only [k_nest, List.mem_cons, List.not_mem_nil, or_false] at hw
  rcases hw with rfl | rfl | rfl | rfl | rfl | rfl | rfl | rfl | rfl | rfl | rfl | rfl | rfl | rfl | rfl <;> exact va_Nw.same rfl hv h1
end
section
/-! The state of a system as plain functions; pure functions with 'none' for what can't be; loops by fuel; contracts that say 'as the pure function has it'. -/
abbrev vS : Type := (Nat → Int32) × (Nat → Nat → Int32) × (Nat → Int64) × (Nat → Nat → Int64)
def p_i (σ : vS) (k : Nat) (v : Int32) : vS := (upd σ.1 k v, σ.2.1, σ.2.2.1, σ.2.2.2)
def p_a (σ : vS) (a i : Nat) (v : Int32) : vS := (σ.1, va_up σ.2.1 a (upd (σ.2.1 a) i v), σ.2.2.1, σ.2.2.2)
def p_j (σ : vS) (k : Nat) (v : Int64) : vS := (σ.1, σ.2.1, vp_updL σ.2.2.1 k v, σ.2.2.2)
def p_b (σ : vS) (b i : Nat) (v : Int64) : vS := (σ.1, σ.2.1, σ.2.2.1, va_up σ.2.2.2 b (vp_updL (σ.2.2.2 b) i v))
def k_lt {α β : Type} (a : α) (F : α → β) : β := F a
theorem k_lte {α β : Type} {T : β} {a : α} {F : α → β} (h : T = k_lt a F) : ∃ x, x = a ∧ T = F x := ⟨a, rfl, h⟩
theorem k_lts {α β : Type} {T : β} {a x : α} {F : α → β} (h : T = k_lt a F) (e : x = a) : T = F x := by rw [e]; exact h
theorem ite_t {c : Prop} {d : Decidable c} {α : Type} {T A B : α} (h : T = @ite α c d A B) (hc : c) : T = A := by rw [if_pos hc] at h; exact h
theorem ite_f {c : Prop} {d : Decidable c} {α : Type} {T A B : α} (h : T = @ite α c d A B) (hc : ¬ c) : T = B := by rw [if_neg hc] at h; exact h
theorem gd_e {c : Prop} {d : Decidable c} {α : Type} {T A : Option α} (h : T = @ite _ c d none A) (hn : T ≠ none) : ¬ c ∧ T = A := by
  by_cases hc : c
  · rw [if_pos hc] at h; exact absurd h hn
  · rw [if_neg hc] at h; exact ⟨hc, h⟩
def bd1 {α β : Type} (X : Option α) (F : α → Option β) : Option β := match X with
  | none => none
  | some a => F a
def bd2 {α β γ : Type} (X : Option (α × β)) (F : α → β → Option γ) : Option γ := match X with
  | none => none
  | some q => F q.1 q.2
def bds {E T : Type} (X : Option (E ⊕ T)) (F : E → Option T) : Option T := match X with
  | none => none
  | some (.inl e) => F e
  | some (.inr t) => some t
theorem bd1_e {α β : Type} {T : Option β} {X : Option α} {F : α → Option β} (h : T = bd1 X F) (hn : T ≠ none) : ∃ a, X = some a ∧ T = F a := by
  cases X with
  | none => exact absurd h hn
  | some a => exact ⟨a, rfl, h⟩
theorem bd2_e {α β γ : Type} {T : Option γ} {X : Option (α × β)} {F : α → β → Option γ} (h : T = bd2 X F) (hn : T ≠ none) : ∃ a b, X = some (a, b) ∧ T = F a b := by
  cases X with
  | none => exact absurd h hn
  | some q => exact ⟨q.1, q.2, rfl, h⟩
theorem bds_e {E T : Type} {Y : Option T} {X : Option (E ⊕ T)} {F : E → Option T} (h : Y = bds X F) (hn : Y ≠ none) : ∃ q, X = some q ∧ (∀ e, q = .inl e → Y = F e) ∧ (∀ t, q = .inr t → Y = some t) := by
  cases X with
  | none => exact absurd h hn
  | some q =>
    cases q with
    | inl e => exact ⟨_, rfl, (fun e' he => by cases he; exact h), (fun t ht => by cases ht)⟩
    | inr t => exact ⟨_, rfl, (fun e' he => by cases he), (fun t' ht => by cases ht; exact h)⟩
def k_itr {S R : Type} (body : S → Option (S ⊕ R)) : Nat → S → Option R
  | 0, _ => none
  | n + 1, s => match body s with
    | none => none
    | some (.inl s') => k_itr body n s'
    | some (.inr r) => some r
theorem k_ind {S R : Type} {body : S → Option (S ⊕ R)} {P : S → Prop} {r : R}
    (hb : ∀ (s : S) (T : Option (S ⊕ R)), T = body s → T ≠ none → (∀ s', T = some (.inl s') → P s') → (∀ r', T = some (.inr r') → r' = r) → P s) :
    ∀ (n : Nat) (s : S), k_itr body n s = some r → P s := by
  intro n
  induction n with
  | zero => intro s h; cases h
  | succ n ih =>
    intro s h
    cases ho : body s with
    | none => simp [k_itr, ho] at h
    | some o =>
      cases o with
      | inl s' =>
        have h2 : k_itr body n s' = some r := by simpa [k_itr, ho] using h
        exact hb s _ ho.symm (fun q => by cases q) (fun s2 e2 => by cases e2; exact ih s' h2) (fun r' e2 => by cases e2)
      | inr r1 =>
        have h2 : r1 = r := by simpa [k_itr, ho] using h
        exact hb s _ ho.symm (fun q => by cases q) (fun s2 e2 => by cases e2) (fun r' e2 => by cases e2; exact h2)
theorem rt1 {α : Type} {T : Option α} {u v : α} (h : T = some u) (h2 : T = some v) : u = v := Option.some.inj (h.symm.trans h2)
theorem rt2 {α : Type} {T : Option (α × vS)} {r x : α} {u v : vS} (h : T = some (r, u)) (h2 : T = some (x, v)) : r = x ∧ u = v := by
  have h3 := Option.some.inj (h.symm.trans h2)
  exact ⟨congrArg Prod.fst h3, congrArg Prod.snd h3⟩
theorem nr_b {v : Int32} (h : ¬ ¬ (v &&& 1 = v)) : narrow .boolean (.int v) = .int v := by
  have h := Decidable.not_not.mp h
  show Value.int (v &&& 1) = .int v
  rw [h]
theorem nr_c {v : Int32} (h : ¬ ¬ (v.toUInt32.toUInt16.toUInt32.toInt32 = v)) : narrow .char (.int v) = .int v := by
  have h := Decidable.not_not.mp h
  show Value.int (v.toUInt32.toUInt16.toUInt32.toInt32) = .int v
  rw [h]
/-- the cells of a world, by number -/
def k_A (n : Nat) (ad : Nat → Nat) : Nat → Prop := fun q => ∃ k, k < n ∧ q = ad k
def k_H (D : va_G) (wf : vS → va_W) (A : Nat → Prop) (σ : vS) (H0 H : Heap) (locs : List Loc) : Prop := va_P D vwCl (wf σ) H ∧ va_D (fun _ => True) (wf σ) ∧ va_S A H0 H locs
def k_B (D : va_G) (tys : List (ClassId × FieldType)) (wf : vS → va_W) (σ : vS) (t : State) : Prop := va_P D vwCl (wf σ) t.heap ∧ va_K D vwCl tys t ∧ va_D (fun _ => True) (wf σ)
def k_Q (D : va_G) (tys : List (ClassId × FieldType)) (wf : vS → va_W) (A : Nat → Prop) (r : Option Value) (σ : vS) : Array Value → State → Outcome → State → Prop :=
  fun _ st o t => o = .returned r ∧ k_B D tys wf σ t ∧ va_F A st t
def k_QP (r : Value) : Array Value → State → Outcome → State → Prop := fun _ st o t => o = .returned (some r) ∧ t.heap = st.heap
/-- the method y, called with av at the state σ, returns r and leaves the state σ'; no other cell changes -/
def k_Met (l : Launch) (y : MethodName) (ws : List Cond) (rm : Room) (D : va_G) (tys : List (ClassId × FieldType)) (wf : vS → va_W) (A : Nat → Prop) (av : List Value) (σ : vS) (r : Option Value) (σ' : vS) : Prop :=
  Met l y ws rm (va_Pc av (fun U => k_B D tys wf σ U ∧ k_N U)) (k_Q D tys wf A r σ') 0 0 A
/-- the method y, called with av at the state σ, returns r and changes nothing -/
def k_MP (l : Launch) (y : MethodName) (ws : List Cond) (rm : Room) (D : va_G) (tys : List (ClassId × FieldType)) (wf : vS → va_W) (av : List Value) (σ : vS) (r : Value) : Prop :=
  Met l y ws rm (va_Pc av (fun U => k_B D tys wf σ U ∧ k_N U)) (k_QP r) 0 0 (fun _ => False)
theorem k_of {l : Launch} {y : MethodName} {ws ws' : List Cond} {rm : Room} {D : va_G} {tys : List (ClassId × FieldType)} {wf : vS → va_W} {A : Nat → Prop} {av : List Value} {σ : vS} {r : Option Value} {σ' : vS} {cc : ByteArray} {maxL : Nat} {ret : Option FieldType}
    (hy : plainName y.cls = true) (hw : ws = Cond.code y cc maxL ret :: ws') (hav : (lg_sl av).length ≤ maxL)
    (body : ∀ (p : Program) (e : Env) (s : State) (m : MethodId) (args : Array Value) (below : List Frame) (meth : Method) (c : Code) (ls : Array Slot) (H : Heap) (locs : List Loc), CallFix p m c cc maxL s args ws' y.cls → meth.sig.returnType = ret → meth.locks = false → va_K D vwCl tys s → k_N s →
      lv_has ls maxL (lv_args 0 av) → k_H D wf A σ s.heap H locs → W p l e rm s m args below meth c H locs 0 0 (MQ below (k_Q D tys wf A r σ') args s 0 0 A) (F0 m 0 ls [])) :
    k_Met l y ws rm D tys wf A av σ r σ' := by
  refine Met.ofW (cc := cc) (maxL := maxL) (ret := ret) hy hw ?_
  intro p e s m args below meth c s₁ B hml hv
  obtain ⟨rfl, ⟨hP, hK, hD⟩, hZ⟩ := hv
  have hts := atoms_spec (ws := ws) B.pre
  rw [hw] at hts
  have hl := lv_entry av (n := maxL) hav
  rw [lg_entry_eq]
  exact body p e s m _ below meth c _ _ _ ⟨B.exec, B.bytes, hml, findClass_of_methodNamed B.named, fun w h => hts w (List.mem_cons_of_mem _ h)⟩ B.returns B.notSynchronized hK hZ hl ⟨hP, hD, va_S.rf⟩
theorem k_of0 {l : Launch} {y : MethodName} {ws ws' : List Cond} {rm : Room} {D : va_G} {tys : List (ClassId × FieldType)} {wf : vS → va_W} {A : Nat → Prop} {av : List Value} {σ : vS} {r : Option Value} {σ' : vS} {cc : ByteArray} {maxL : Nat} {ret : Option FieldType}
    (hy : plainName y.cls = true) (hw : ws = Cond.code y cc maxL ret :: ws') (hav : (lg_sl av).length ≤ maxL)
    (body : ∀ (p : Program) (e : Env) (s : State) (m : MethodId) (args : Array Value) (below : List Frame) (meth : Method) (c : Code) (ls : Array Slot), CallFix p m c cc maxL s args ws' y.cls → meth.sig.returnType = ret → meth.locks = false → va_K D vwCl tys s → k_N s →
      lv_has ls maxL (lv_args 0 av) → k_H D wf A σ s.heap s.heap [] → W p l e rm s m args below meth c s.heap [] 0 0 (MQ below (k_Q D tys wf A r σ') args s 0 0 A) (F0 m 0 ls [])) :
    k_Met l y ws rm D tys wf A av σ r σ' := by
  refine Met.ofW (cc := cc) (maxL := maxL) (ret := ret) hy hw ?_
  intro p e s m args below meth c s₁ B hml hv
  obtain ⟨rfl, ⟨hP, hK, hD⟩, hZ⟩ := hv
  have hts := atoms_spec (ws := ws) B.pre
  rw [hw] at hts
  have hl := lv_entry av (n := maxL) hav
  rw [lg_entry_eq]
  exact body p e s m _ below meth c _ ⟨B.exec, B.bytes, hml, findClass_of_methodNamed B.named, fun w h => hts w (List.mem_cons_of_mem _ h)⟩ B.returns B.notSynchronized hK hZ hl ⟨hP, hD, va_S.rf⟩
theorem k_ofP {l : Launch} {y : MethodName} {ws ws' : List Cond} {rm : Room} {D : va_G} {tys : List (ClassId × FieldType)} {wf : vS → va_W} {av : List Value} {σ : vS} {r : Value} {cc : ByteArray} {maxL : Nat} {ret : Option FieldType}
    (hy : plainName y.cls = true) (hw : ws = Cond.code y cc maxL ret :: ws') (hav : (lg_sl av).length ≤ maxL)
    (body : ∀ (p : Program) (e : Env) (s : State) (m : MethodId) (args : Array Value) (below : List Frame) (meth : Method) (c : Code) (ls : Array Slot), CallFix p m c cc maxL s args ws' y.cls → meth.sig.returnType = ret → meth.locks = false → va_K D vwCl tys s → k_N s →
      lv_has ls maxL (lv_args 0 av) → k_H D wf (fun _ => False) σ s.heap s.heap [] → W p l e rm s m args below meth c s.heap [] 0 0 (MQ below (k_QP r) args s 0 0 (fun _ => False)) (F0 m 0 ls [])) :
    k_MP l y ws rm D tys wf av σ r := by
  refine Met.ofW (cc := cc) (maxL := maxL) (ret := ret) hy hw ?_
  intro p e s m args below meth c s₁ B hml hv
  obtain ⟨rfl, ⟨hP, hK, hD⟩, hZ⟩ := hv
  have hts := atoms_spec (ws := ws) B.pre
  rw [hw] at hts
  have hl := lv_entry av (n := maxL) hav
  rw [lg_entry_eq]
  exact body p e s m _ below meth c _ ⟨B.exec, B.bytes, hml, findClass_of_methodNamed B.named, fun w h => hts w (List.mem_cons_of_mem _ h)⟩ B.returns B.notSynchronized hK hZ hl ⟨hP, hD, va_S.rf⟩
section KW
variable {p : Program} {l : Launch} {e : Env} {R : Room} {s : State} {m : MethodId} {args : Array Value} {below : List Frame} {meth : Method} {c : Code} {H : Heap} {locs : List Loc} {Q : State → Prop}
variable {cc : ByteArray} {nL pc : Nat} {ls : Array Slot} {rest st0 : List Value} {D : va_G} {tys : List (ClassId × FieldType)} {wf : vS → va_W} {A : Nat → Prop} {σ σ' : vS} {Ts : List Cond} {own : String}
theorem kret_v (hcf : CallFix p m c cc nL s args Ts own) (hr : meth.sig.returnType = none) (hlk : meth.locks = false) (hK : va_K D vwCl tys s) (hw : k_H D wf A σ s.heap H locs) (h : σ' = σ)
    (hQ : MQ below (k_Q D tys wf A none σ') args s 0 0 A = Q) (hdg : decode cc pc = .ok (.return_, 1)) : W p l e R s m args below meth c H locs 0 0 Q (F0 m pc ls []) := by
  subst hQ; subst h
  exact W.vret hcf.1 hcf.2.1 hr (fun t ht hW => ⟨rfl, ⟨by rw [ht]; exact hw.1, va_K.moved hW.alike hK, hw.2.1⟩, hw.2.2.F ht⟩) hw.2.2.2.2 hdg hlk
theorem kret_i {v r : Int32} (hcf : CallFix p m c cc nL s args Ts own) (hr : meth.sig.returnType = some .int) (hlk : meth.locks = false) (hK : va_K D vwCl tys s) (hw : k_H D wf A σ s.heap H locs) (h : r = v ∧ σ' = σ)
    (hQ : MQ below (k_Q D tys wf A (some (.int r)) σ') args s 0 0 A = Q) (hdg : decode cc pc = .ok (.ireturn, 1)) : W p l e R s m args below meth c H locs 0 0 Q (F0 m pc ls [.int v]) := by
  subst hQ; obtain ⟨rfl, rfl⟩ := h
  exact W.iret hcf.1 hcf.2.1 hr (fun t ht hW => ⟨rfl, ⟨by rw [ht]; exact hw.1, va_K.moved hW.alike hK, hw.2.1⟩, hw.2.2.F ht⟩) hw.2.2.2.2 hdg hlk
theorem kretP_i {v r : Int32} (hcf : CallFix p m c cc nL s args Ts own) (hr : meth.sig.returnType = some .int) (hlk : meth.locks = false) (hK : va_K D vwCl tys s) (hw : k_H D wf A σ s.heap s.heap []) (h : r = v)
    (hQ : MQ below (k_QP (.int r)) args s 0 0 (fun _ => False) = Q) (hdg : decode cc pc = .ok (.ireturn, 1)) : W p l e R s m args below meth c s.heap [] 0 0 Q (F0 m pc ls [.int v]) := by
  subst hQ; subst h
  exact W.iret hcf.1 hcf.2.1 hr (fun t ht hW => ⟨rfl, ht⟩) (fun q hq => by cases hq) hdg hlk
theorem kret_l {v r : Int64} (hcf : CallFix p m c cc nL s args Ts own) (hr : meth.sig.returnType = some .long) (hlk : meth.locks = false) (hK : va_K D vwCl tys s) (hw : k_H D wf A σ s.heap H locs) (h : r = v ∧ σ' = σ)
    (hQ : MQ below (k_Q D tys wf A (some (.long r)) σ') args s 0 0 A = Q) (hdg : decode cc pc = .ok (.lreturn, 1)) : W p l e R s m args below meth c H locs 0 0 Q (F0 m pc ls [.long v]) := by
  subst hQ; obtain ⟨rfl, rfl⟩ := h
  exact W.lret hcf.1 hcf.2.1 hr (fun t ht hW => ⟨rfl, ⟨by rw [ht]; exact hw.1, va_K.moved hW.alike hK, hw.2.1⟩, hw.2.2.F ht⟩) hw.2.2.2.2 hdg hlk
theorem kretP_l {v r : Int64} (hcf : CallFix p m c cc nL s args Ts own) (hr : meth.sig.returnType = some .long) (hlk : meth.locks = false) (hK : va_K D vwCl tys s) (hw : k_H D wf A σ s.heap s.heap []) (h : r = v)
    (hQ : MQ below (k_QP (.long r)) args s 0 0 (fun _ => False) = Q) (hdg : decode cc pc = .ok (.lreturn, 1)) : W p l e R s m args below meth c s.heap [] 0 0 Q (F0 m pc ls [.long v]) := by
  subst hQ; subst h
  exact W.lret hcf.1 hcf.2.1 hr (fun t ht hW => ⟨rfl, ht⟩) (fun q hq => by cases hq) hdg hlk
theorem kret_z {v r : Int32} {ty : FieldType} (hcf : CallFix p m c cc nL s args Ts own) (hr : meth.sig.returnType = some ty) (hlk : meth.locks = false) (hK : va_K D vwCl tys s) (hw : k_H D wf A σ s.heap H locs) (h : r = v ∧ σ' = σ)
    (hQ : MQ below (k_Q D tys wf A (some (.int r)) σ') args s 0 0 A = Q) (hn : narrow ty (.int v) = .int v) (hdg : decode cc pc = .ok (.ireturn, 1)) : W p l e R s m args below meth c H locs 0 0 Q (F0 m pc ls [.int v]) := by
  subst hQ; obtain ⟨rfl, rfl⟩ := h
  exact W.zret hcf.1 hcf.2.1 hr hn (fun t ht hW => ⟨rfl, ⟨by rw [ht]; exact hw.1, va_K.moved hW.alike hK, hw.2.1⟩, hw.2.2.F ht⟩) hw.2.2.2.2 hdg hlk
theorem kretP_z {v r : Int32} {ty : FieldType} (hcf : CallFix p m c cc nL s args Ts own) (hr : meth.sig.returnType = some ty) (hlk : meth.locks = false) (hK : va_K D vwCl tys s) (hw : k_H D wf A σ s.heap s.heap []) (h : r = v)
    (hQ : MQ below (k_QP (.int r)) args s 0 0 (fun _ => False) = Q) (hn : narrow ty (.int v) = .int v) (hdg : decode cc pc = .ok (.ireturn, 1)) : W p l e R s m args below meth c s.heap [] 0 0 Q (F0 m pc ls [.int v]) := by
  subst hQ; subst h
  exact W.zret hcf.1 hcf.2.1 hr hn (fun t ht hW => ⟨rfl, ht⟩) (fun q hq => by cases hq) hdg hlk
theorem k_call {r : Option Value} {a : Array Value} (hr : va_Run p l e R s m args below meth c H locs 0 0 0 0 (F0 m pc ls st0) rest (k_Q D tys wf A r σ' a) A) (hw : k_H D wf A σ s.heap H locs)
    (kk : ∀ (H1 : Heap) (locs1 : List Loc), k_H D wf A σ' s.heap H1 locs1 → W p l e R s m args below meth c H1 locs1 0 0 Q (F0 m (pc + 3) ls (r.toList ++ rest))) : W p l e R s m args below meth c H locs 0 0 Q (F0 m pc ls st0) := by
  intro T hT X
  obtain ⟨v, st₀, t, T', L, h0, X', hL, e1, e2, ⟨hv, hB, hz, hk⟩, st⟩ := hr T hT X
  cases hv
  rw [h0] at hz hk
  have hS := hw.2.2
  obtain ⟨t2, a1, b1⟩ := kk T'.heap (locs ++ L) ⟨by rw [e1]; exact hB.1, hB.2.2,
    Nat.le_trans hS.1 (by rw [e1]; exact hz), fun q h1 h2 => by rw [e1, hk q (Nat.lt_of_lt_of_le h1 hS.1) h2]; exact hS.2.1 q h1 h2, fun q hq => by
      rcases List.mem_append.mp hq with h | h
      · exact hS.2.2 q h
      · exact hL q h⟩ T' rfl X'
  exact ⟨t2, st t2 a1, b1⟩
theorem k_callP {r : Value} {a : Array Value} (hr : va_Run p l e R s m args below meth c H locs 0 0 0 0 (F0 m pc ls st0) rest (k_QP r a) (fun _ => False))
    (kk : W p l e R s m args below meth c H locs 0 0 Q (F0 m (pc + 3) ls (r :: rest))) : W p l e R s m args below meth c H locs 0 0 Q (F0 m pc ls st0) := by
  intro T hT X
  obtain ⟨v, st₀, t, T', L, h0, X', hL, e1, e2, ⟨hv, hh⟩, st⟩ := hr T hT X
  cases hv
  have hL0 : L = [] := by
    cases L with
    | nil => rfl
    | cons q L => exact absurd (hL q List.mem_cons_self) (fun h => h)
  subst hL0
  rw [List.append_nil] at X'
  obtain ⟨t2, a1, b1⟩ := kk T' (by rw [e1, hh, h0]) X'
  exact ⟨t2, st t2 a1, b1⟩
theorem k_blind {av : List Value} : FrameBlind (va_Pc av (fun U => k_B D tys wf σ U ∧ k_N U)) := fun a U g mk q => ⟨q.1, ⟨q.2.1.1, va_K.moved (u := U) (U := U.calling g mk a) (Vm.Alike.refl U.vm) q.2.1.2.1, q.2.1.2.2⟩, k_N.same (s := U) rfl q.2.2⟩
theorem k_pre {av : List Value} (hK : va_K D vwCl tys s) (hZ : k_N s) (hw : k_H D wf A σ s.heap H locs) : ∀ U : State, U.heap = H → s.WarmedH U.vm → va_Pc av (fun U => k_B D tys wf σ U ∧ k_N U) av.toArray U :=
  fun U hU hW => ⟨rfl, ⟨by rw [hU]; exact hw.1, va_K.moved hW.alike hK, hw.2.1⟩, hZ.warm hW⟩
end KW
theorem nz_0 : narrow .boolean (.int 0) = .int 0 ∧ fits .boolean (.int 0) = true := ⟨rfl, rfl⟩
theorem nz_1 : narrow .boolean (.int 1) = .int 1 ∧ fits .boolean (.int 1) = true := ⟨rfl, rfl⟩
abbrev k_abs (x : Int64) : Int64 := if 0 < x then x else -x
end
section
def wK (cs : Nat → ClassId) (ad : Nat → Nat) (σ : vS) : va_W :=
  [(ad 0, .inr (5, [.ref (ad 1), .ref (ad 2), .ref (ad 3)])),
   (ad 1, .inr (3, [.ref (ad 4), .ref (ad 5), .int (σ.1 6), .int (σ.1 7), .ref (ad 6), .ref (ad 15), .int (σ.1 8), .ref (ad 25), .int (σ.1 9)])),
   (ad 2, .inr (0, [.ref (ad 16), .ref (ad 7), .int (σ.1 10), .int (σ.1 11), .ref (ad 8), .ref (ad 17), .int (σ.1 12), .int (σ.1 13), .int (σ.1 14), .long (σ.2.2.1 0)])),
   (ad 3, .inr (2, [.ref (ad 18), .int (σ.1 15)])),
   (ad 4, .inr (4, [.ref (ad 10), .int (σ.1 0), .int (σ.1 1)])),
   (ad 5, .inr (1, [.ref (ad 11), .ref (ad 9), .ref (ad 12), .ref (ad 13), .ref (ad 14), .int (σ.1 2), .int (σ.1 3), .int (σ.1 4), .int (σ.1 5)])),
   (ad 6, .inl (cs 5, 4, .inr (.inr (.inr (.inr fun i => some (ad (25 + (1 + i)))))))),
   (ad 7, .inl (cs 5, 6, .inr (.inr (.inr (.inr fun i => some (ad (25 + (5 + i)))))))),
   (ad 8, .inl (cs 5, 5, .inr (.inr (.inr (.inr fun i => some (ad (25 + (11 + i)))))))),
   (ad 9, .inl (cs 4, 6, .inr (.inr (.inr (.inr fun i => some (ad (10 + (9 + i)))))))),
   (ad 10, .inl (cs 1, 100, .inl (σ.2.1 0))),
   (ad 11, .inl (cs 0, 5, .inl (σ.2.1 1))),
   (ad 12, .inl (cs 0, 6, .inl (σ.2.1 2))),
   (ad 13, .inl (cs 0, 6, .inl (σ.2.1 3))),
   (ad 14, .inl (cs 0, 6, .inl (σ.2.1 4))),
   (ad 15, .inl (cs 1, 4, .inl (σ.2.1 5))),
   (ad 16, .inl (cs 2, 6, .inl (σ.2.1 6))),
   (ad 17, .inl (cs 0, 5, .inl (σ.2.1 7))),
   (ad 18, .inl (cs 1, 200, .inl (σ.2.1 8))),
   (ad 19, .inl (cs 0, 5, .inl (σ.2.1 9))),
   (ad 20, .inl (cs 0, 5, .inl (σ.2.1 10))),
   (ad 21, .inl (cs 0, 5, .inl (σ.2.1 11))),
   (ad 22, .inl (cs 0, 5, .inl (σ.2.1 12))),
   (ad 23, .inl (cs 0, 5, .inl (σ.2.1 13))),
   (ad 24, .inl (cs 0, 5, .inl (σ.2.1 14))),
   (ad 25, .inl (cs 3, 5, .inr (.inl (σ.2.2.2 0)))),
   (ad 26, .inl (cs 3, 5, .inr (.inl (σ.2.2.2 1)))),
   (ad 27, .inl (cs 3, 5, .inr (.inl (σ.2.2.2 2)))),
   (ad 28, .inl (cs 3, 5, .inr (.inl (σ.2.2.2 3)))),
   (ad 29, .inl (cs 3, 5, .inr (.inl (σ.2.2.2 4)))),
   (ad 30, .inl (cs 3, 6, .inr (.inl (σ.2.2.2 5)))),
   (ad 31, .inl (cs 3, 6, .inr (.inl (σ.2.2.2 6)))),
   (ad 32, .inl (cs 3, 6, .inr (.inl (σ.2.2.2 7)))),
   (ad 33, .inl (cs 3, 6, .inr (.inl (σ.2.2.2 8)))),
   (ad 34, .inl (cs 3, 6, .inr (.inl (σ.2.2.2 9)))),
   (ad 35, .inl (cs 3, 6, .inr (.inl (σ.2.2.2 10)))),
   (ad 36, .inl (cs 3, 6, .inr (.inl (σ.2.2.2 11)))),
   (ad 37, .inl (cs 3, 6, .inr (.inl (σ.2.2.2 12)))),
   (ad 38, .inl (cs 3, 6, .inr (.inl (σ.2.2.2 13)))),
   (ad 39, .inl (cs 3, 6, .inr (.inl (σ.2.2.2 14)))),
   (ad 40, .inl (cs 3, 6, .inr (.inl (σ.2.2.2 15))))]
def tK (cs : Nat → ClassId) : List (ClassId × FieldType) := [(cs 0, .int), (cs 1, .char), (cs 2, .boolean), (cs 3, .long), (cs 4, .array .int), (cs 5, .array .long)]
theorem wK_ad (cs : Nat → ClassId) (ad : Nat → Nat) (σ : vS) : (wK cs ad σ).map Prod.fst = (List.range 41).map ad := rfl
theorem wK_D {cs : Nat → ClassId} {ad : Nat → Nat} {σ : vS} (h : va_D (fun _ => True) (wK cs ad σ)) : va_D (k_A 41 ad) (wK cs ad σ) := by
  refine ⟨h.1, fun k q hk => ?_⟩
  have h1 : q.1 ∈ (wK cs ad σ).map Prod.fst := List.mem_map.mpr ⟨q, List.mem_of_getElem? hk, rfl⟩
  rw [wK_ad] at h1
  obtain ⟨j, hj, e⟩ := List.mem_map.mp h1
  exact ⟨j, List.mem_range.mp hj, e.symm⟩
def k_len (b : Nat) : Nat := if b < 5 then 5 else 6
section AK
variable {p : Program} {l : Launch} {e : Env} {R : Room} {s : State} {m : MethodId} {args : Array Value} {below : List Frame} {meth : Method} {c : Code} {H0 H : Heap} {locs : List Loc} {cells slots : Nat} {Q : State → Prop}
variable {cc : ByteArray} {nL pc : Nat} {ls : Array Slot} {rest : List Value} {D : va_G} {A : Nat → Prop} {cs : Nat → ClassId} {ad : Nat → Nat} {σ : vS} {own : String} {index : Nat}
theorem kg_X5_reader (hcf : CallFix p m c cc nL s args kws own) (hK : va_K D vwCl (tK cs) s) (hlink : (Cond.fieldLink own index RX5 "reader" "LFormulaScales$Reader;").before args s = true) (hdg : decode cc pc = .ok (.getfield index, 3)) (hw : k_H D (wK cs ad) A σ H0 H locs) (kk : W p l e R s m args below meth c H locs cells slots Q (F0 m (pc + 3) ls (.ref (ad 1) :: rest))) : W p l e R s m args below meth c H locs cells slots Q (F0 m pc ls (.ref (ad 0) :: rest)) := va_get (D := D) (ci := 5) (C := RX5) (T := TX5) (N := 3) hcf.1 hcf.2.1 hcf.2.2.2.2 hinX5 hcf.2.2.2.1 hK hw.1 0 rfl rfl 0 (by decide) hlink (fun _ h => h) rfl hdg kk
theorem kg_X5_balance (hcf : CallFix p m c cc nL s args kws own) (hK : va_K D vwCl (tK cs) s) (hlink : (Cond.fieldLink own index RX5 "balance" "LFormulaScales$Balance;").before args s = true) (hdg : decode cc pc = .ok (.getfield index, 3)) (hw : k_H D (wK cs ad) A σ H0 H locs) (kk : W p l e R s m args below meth c H locs cells slots Q (F0 m (pc + 3) ls (.ref (ad 2) :: rest))) : W p l e R s m args below meth c H locs cells slots Q (F0 m pc ls (.ref (ad 0) :: rest)) := va_get (D := D) (ci := 5) (C := RX5) (T := TX5) (N := 3) hcf.1 hcf.2.1 hcf.2.2.2.2 hinX5 hcf.2.2.2.1 hK hw.1 0 rfl rfl 1 (by decide) hlink (fun _ h => h) rfl hdg kk
theorem kg_X5_line (hcf : CallFix p m c cc nL s args kws own) (hK : va_K D vwCl (tK cs) s) (hlink : (Cond.fieldLink own index RX5 "line" "LFormulaScales$Line;").before args s = true) (hdg : decode cc pc = .ok (.getfield index, 3)) (hw : k_H D (wK cs ad) A σ H0 H locs) (kk : W p l e R s m args below meth c H locs cells slots Q (F0 m (pc + 3) ls (.ref (ad 3) :: rest))) : W p l e R s m args below meth c H locs cells slots Q (F0 m pc ls (.ref (ad 0) :: rest)) := va_get (D := D) (ci := 5) (C := RX5) (T := TX5) (N := 3) hcf.1 hcf.2.1 hcf.2.2.2.2 hinX5 hcf.2.2.2.1 hK hw.1 0 rfl rfl 2 (by decide) hlink (fun _ h => h) rfl hdg kk
theorem kg_X3_text (hcf : CallFix p m c cc nL s args kws own) (hK : va_K D vwCl (tK cs) s) (hlink : (Cond.fieldLink own index RX3 "text" "LFormulaScales$Text;").before args s = true) (hdg : decode cc pc = .ok (.getfield index, 3)) (hw : k_H D (wK cs ad) A σ H0 H locs) (kk : W p l e R s m args below meth c H locs cells slots Q (F0 m (pc + 3) ls (.ref (ad 4) :: rest))) : W p l e R s m args below meth c H locs cells slots Q (F0 m pc ls (.ref (ad 1) :: rest)) := va_get (D := D) (ci := 3) (C := RX3) (T := TX3) (N := 9) hcf.1 hcf.2.1 hcf.2.2.2.2 hinX3 hcf.2.2.2.1 hK hw.1 1 rfl rfl 0 (by decide) hlink (fun _ h => h) rfl hdg kk
theorem kg_X3_equation (hcf : CallFix p m c cc nL s args kws own) (hK : va_K D vwCl (tK cs) s) (hlink : (Cond.fieldLink own index RX3 "equation" "LFormulaScales$Equation;").before args s = true) (hdg : decode cc pc = .ok (.getfield index, 3)) (hw : k_H D (wK cs ad) A σ H0 H locs) (kk : W p l e R s m args below meth c H locs cells slots Q (F0 m (pc + 3) ls (.ref (ad 5) :: rest))) : W p l e R s m args below meth c H locs cells slots Q (F0 m pc ls (.ref (ad 1) :: rest)) := va_get (D := D) (ci := 3) (C := RX3) (T := TX3) (N := 9) hcf.1 hcf.2.1 hcf.2.2.2.2 hinX3 hcf.2.2.2.1 hK hw.1 1 rfl rfl 1 (by decide) hlink (fun _ h => h) rfl hdg kk
theorem kg_X3_fault (hcf : CallFix p m c cc nL s args kws own) (hK : va_K D vwCl (tK cs) s) (hlink : (Cond.fieldLink own index RX3 "fault" "I").before args s = true) {x : Int32} (hdg : decode cc pc = .ok (.getfield index, 3)) (hw : k_H D (wK cs ad) A σ H0 H locs) (hv : σ.1 6 = x) (kk : W p l e R s m args below meth c H locs cells slots Q (F0 m (pc + 3) ls (.int x :: rest))) : W p l e R s m args below meth c H locs cells slots Q (F0 m pc ls (.ref (ad 1) :: rest)) := by
  subst hv
  exact va_get (D := D) (ci := 3) (C := RX3) (T := TX3) (N := 9) hcf.1 hcf.2.1 hcf.2.2.2.2 hinX3 hcf.2.2.2.1 hK hw.1 1 rfl rfl 2 (by decide) hlink (fun _ h => h) rfl hdg kk
theorem kp_X3_fault (hcf : CallFix p m c cc nL s args kws own) (hK : va_K D vwCl (tK cs) s) (hlink : (Cond.fieldLink own index RX3 "fault" "I").before args s = true) {v : Int32} (hdg : decode cc pc = .ok (.putfield index, 3)) (hw : k_H D (wK cs ad) (k_A 41 ad) σ H0 H locs) (kk : ∀ (H1 : Heap) (locs1 : List Loc), k_H D (wK cs ad) (k_A 41 ad) (p_i σ 6 v) H0 H1 locs1 → W p l e R s m args below meth c H1 locs1 cells slots Q (F0 m (pc + 3) ls rest)) : W p l e R s m args below meth c H locs cells slots Q (F0 m pc ls (.int v :: .ref (ad 1) :: rest)) := by
  exact va_put (D := D) (ci := 3) (v := .int v) (ty := .int) (C := RX3) (T := TX3) (N := 9) hcf.1 hcf.2.1 hcf.2.2.2.2 hinX3 tyX3 tyX3_ok nmX3 hcf.2.2.2.1 hK hw.1 (wK_D hw.2.1) hw.2.2 1 rfl rfl 2 (by decide) hlink (fun _ h => h) rfl (by decide +kernel) rfl rfl (Nat.le_of_ble_eq_true rfl) hdg (fun H1 locs1 hP hD hS => kk H1 locs1 ⟨hP, hD.weaken (fun _ _ _ _ => trivial), hS⟩)
theorem kg_X3_faultPlace (hcf : CallFix p m c cc nL s args kws own) (hK : va_K D vwCl (tK cs) s) (hlink : (Cond.fieldLink own index RX3 "faultPlace" "I").before args s = true) {x : Int32} (hdg : decode cc pc = .ok (.getfield index, 3)) (hw : k_H D (wK cs ad) A σ H0 H locs) (hv : σ.1 7 = x) (kk : W p l e R s m args below meth c H locs cells slots Q (F0 m (pc + 3) ls (.int x :: rest))) : W p l e R s m args below meth c H locs cells slots Q (F0 m pc ls (.ref (ad 1) :: rest)) := by
  subst hv
  exact va_get (D := D) (ci := 3) (C := RX3) (T := TX3) (N := 9) hcf.1 hcf.2.1 hcf.2.2.2.2 hinX3 hcf.2.2.2.1 hK hw.1 1 rfl rfl 3 (by decide) hlink (fun _ h => h) rfl hdg kk
theorem kp_X3_faultPlace (hcf : CallFix p m c cc nL s args kws own) (hK : va_K D vwCl (tK cs) s) (hlink : (Cond.fieldLink own index RX3 "faultPlace" "I").before args s = true) {v : Int32} (hdg : decode cc pc = .ok (.putfield index, 3)) (hw : k_H D (wK cs ad) (k_A 41 ad) σ H0 H locs) (kk : ∀ (H1 : Heap) (locs1 : List Loc), k_H D (wK cs ad) (k_A 41 ad) (p_i σ 7 v) H0 H1 locs1 → W p l e R s m args below meth c H1 locs1 cells slots Q (F0 m (pc + 3) ls rest)) : W p l e R s m args below meth c H locs cells slots Q (F0 m pc ls (.int v :: .ref (ad 1) :: rest)) := by
  exact va_put (D := D) (ci := 3) (v := .int v) (ty := .int) (C := RX3) (T := TX3) (N := 9) hcf.1 hcf.2.1 hcf.2.2.2.2 hinX3 tyX3 tyX3_ok nmX3 hcf.2.2.2.1 hK hw.1 (wK_D hw.2.1) hw.2.2 1 rfl rfl 3 (by decide) hlink (fun _ h => h) rfl (by decide +kernel) rfl rfl (Nat.le_of_ble_eq_true rfl) hdg (fun H1 locs1 hP hD hS => kk H1 locs1 ⟨hP, hD.weaken (fun _ _ _ _ => trivial), hS⟩)
theorem kg_X3_sums (hcf : CallFix p m c cc nL s args kws own) (hK : va_K D vwCl (tK cs) s) (hlink : (Cond.fieldLink own index RX3 "sums" "[[J").before args s = true) (hdg : decode cc pc = .ok (.getfield index, 3)) (hw : k_H D (wK cs ad) A σ H0 H locs) (kk : W p l e R s m args below meth c H locs cells slots Q (F0 m (pc + 3) ls (.ref (ad 6) :: rest))) : W p l e R s m args below meth c H locs cells slots Q (F0 m pc ls (.ref (ad 1) :: rest)) := va_get (D := D) (ci := 3) (C := RX3) (T := TX3) (N := 9) hcf.1 hcf.2.1 hcf.2.2.2.2 hinX3 hcf.2.2.2.1 hK hw.1 1 rfl rfl 4 (by decide) hlink (fun _ h => h) rfl hdg kk
theorem kg_X3_closings (hcf : CallFix p m c cc nL s args kws own) (hK : va_K D vwCl (tK cs) s) (hlink : (Cond.fieldLink own index RX3 "closings" "[C").before args s = true) (hdg : decode cc pc = .ok (.getfield index, 3)) (hw : k_H D (wK cs ad) A σ H0 H locs) (kk : W p l e R s m args below meth c H locs cells slots Q (F0 m (pc + 3) ls (.ref (ad 15) :: rest))) : W p l e R s m args below meth c H locs cells slots Q (F0 m pc ls (.ref (ad 1) :: rest)) := va_get (D := D) (ci := 3) (C := RX3) (T := TX3) (N := 9) hcf.1 hcf.2.1 hcf.2.2.2.2 hinX3 hcf.2.2.2.1 hK hw.1 1 rfl rfl 5 (by decide) hlink (fun _ h => h) rfl hdg kk
theorem kg_X3_depth (hcf : CallFix p m c cc nL s args kws own) (hK : va_K D vwCl (tK cs) s) (hlink : (Cond.fieldLink own index RX3 "depth" "I").before args s = true) {x : Int32} (hdg : decode cc pc = .ok (.getfield index, 3)) (hw : k_H D (wK cs ad) A σ H0 H locs) (hv : σ.1 8 = x) (kk : W p l e R s m args below meth c H locs cells slots Q (F0 m (pc + 3) ls (.int x :: rest))) : W p l e R s m args below meth c H locs cells slots Q (F0 m pc ls (.ref (ad 1) :: rest)) := by
  subst hv
  exact va_get (D := D) (ci := 3) (C := RX3) (T := TX3) (N := 9) hcf.1 hcf.2.1 hcf.2.2.2.2 hinX3 hcf.2.2.2.1 hK hw.1 1 rfl rfl 6 (by decide) hlink (fun _ h => h) rfl hdg kk
theorem kp_X3_depth (hcf : CallFix p m c cc nL s args kws own) (hK : va_K D vwCl (tK cs) s) (hlink : (Cond.fieldLink own index RX3 "depth" "I").before args s = true) {v : Int32} (hdg : decode cc pc = .ok (.putfield index, 3)) (hw : k_H D (wK cs ad) (k_A 41 ad) σ H0 H locs) (kk : ∀ (H1 : Heap) (locs1 : List Loc), k_H D (wK cs ad) (k_A 41 ad) (p_i σ 8 v) H0 H1 locs1 → W p l e R s m args below meth c H1 locs1 cells slots Q (F0 m (pc + 3) ls rest)) : W p l e R s m args below meth c H locs cells slots Q (F0 m pc ls (.int v :: .ref (ad 1) :: rest)) := by
  exact va_put (D := D) (ci := 3) (v := .int v) (ty := .int) (C := RX3) (T := TX3) (N := 9) hcf.1 hcf.2.1 hcf.2.2.2.2 hinX3 tyX3 tyX3_ok nmX3 hcf.2.2.2.1 hK hw.1 (wK_D hw.2.1) hw.2.2 1 rfl rfl 6 (by decide) hlink (fun _ h => h) rfl (by decide +kernel) rfl rfl (Nat.le_of_ble_eq_true rfl) hdg (fun H1 locs1 hP hD hS => kk H1 locs1 ⟨hP, hD.weaken (fun _ _ _ _ => trivial), hS⟩)
theorem kg_X3_totals (hcf : CallFix p m c cc nL s args kws own) (hK : va_K D vwCl (tK cs) s) (hlink : (Cond.fieldLink own index RX3 "totals" "[J").before args s = true) (hdg : decode cc pc = .ok (.getfield index, 3)) (hw : k_H D (wK cs ad) A σ H0 H locs) (kk : W p l e R s m args below meth c H locs cells slots Q (F0 m (pc + 3) ls (.ref (ad 25) :: rest))) : W p l e R s m args below meth c H locs cells slots Q (F0 m pc ls (.ref (ad 1) :: rest)) := va_get (D := D) (ci := 3) (C := RX3) (T := TX3) (N := 9) hcf.1 hcf.2.1 hcf.2.2.2.2 hinX3 hcf.2.2.2.1 hK hw.1 1 rfl rfl 7 (by decide) hlink (fun _ h => h) rfl hdg kk
theorem kg_X3_charge (hcf : CallFix p m c cc nL s args kws own) (hK : va_K D vwCl (tK cs) s) (hlink : (Cond.fieldLink own index RX3 "charge" "I").before args s = true) {x : Int32} (hdg : decode cc pc = .ok (.getfield index, 3)) (hw : k_H D (wK cs ad) A σ H0 H locs) (hv : σ.1 9 = x) (kk : W p l e R s m args below meth c H locs cells slots Q (F0 m (pc + 3) ls (.int x :: rest))) : W p l e R s m args below meth c H locs cells slots Q (F0 m pc ls (.ref (ad 1) :: rest)) := by
  subst hv
  exact va_get (D := D) (ci := 3) (C := RX3) (T := TX3) (N := 9) hcf.1 hcf.2.1 hcf.2.2.2.2 hinX3 hcf.2.2.2.1 hK hw.1 1 rfl rfl 8 (by decide) hlink (fun _ h => h) rfl hdg kk
theorem kp_X3_charge (hcf : CallFix p m c cc nL s args kws own) (hK : va_K D vwCl (tK cs) s) (hlink : (Cond.fieldLink own index RX3 "charge" "I").before args s = true) {v : Int32} (hdg : decode cc pc = .ok (.putfield index, 3)) (hw : k_H D (wK cs ad) (k_A 41 ad) σ H0 H locs) (kk : ∀ (H1 : Heap) (locs1 : List Loc), k_H D (wK cs ad) (k_A 41 ad) (p_i σ 9 v) H0 H1 locs1 → W p l e R s m args below meth c H1 locs1 cells slots Q (F0 m (pc + 3) ls rest)) : W p l e R s m args below meth c H locs cells slots Q (F0 m pc ls (.int v :: .ref (ad 1) :: rest)) := by
  exact va_put (D := D) (ci := 3) (v := .int v) (ty := .int) (C := RX3) (T := TX3) (N := 9) hcf.1 hcf.2.1 hcf.2.2.2.2 hinX3 tyX3 tyX3_ok nmX3 hcf.2.2.2.1 hK hw.1 (wK_D hw.2.1) hw.2.2 1 rfl rfl 8 (by decide) hlink (fun _ h => h) rfl (by decide +kernel) rfl rfl (Nat.le_of_ble_eq_true rfl) hdg (fun H1 locs1 hP hD hS => kk H1 locs1 ⟨hP, hD.weaken (fun _ _ _ _ => trivial), hS⟩)
theorem kg_X0_dependent (hcf : CallFix p m c cc nL s args kws own) (hK : va_K D vwCl (tK cs) s) (hlink : (Cond.fieldLink own index RX0 "dependent" "[Z").before args s = true) (hdg : decode cc pc = .ok (.getfield index, 3)) (hw : k_H D (wK cs ad) A σ H0 H locs) (kk : W p l e R s m args below meth c H locs cells slots Q (F0 m (pc + 3) ls (.ref (ad 16) :: rest))) : W p l e R s m args below meth c H locs cells slots Q (F0 m pc ls (.ref (ad 2) :: rest)) := va_get (D := D) (ci := 0) (C := RX0) (T := TX0) (N := 10) hcf.1 hcf.2.1 hcf.2.2.2.2 hinX0 hcf.2.2.2.1 hK hw.1 2 rfl rfl 0 (by decide) hlink (fun _ h => h) rfl hdg kk
theorem kg_X0_bases (hcf : CallFix p m c cc nL s args kws own) (hK : va_K D vwCl (tK cs) s) (hlink : (Cond.fieldLink own index RX0 "bases" "[[J").before args s = true) (hdg : decode cc pc = .ok (.getfield index, 3)) (hw : k_H D (wK cs ad) A σ H0 H locs) (kk : W p l e R s m args below meth c H locs cells slots Q (F0 m (pc + 3) ls (.ref (ad 7) :: rest))) : W p l e R s m args below meth c H locs cells slots Q (F0 m pc ls (.ref (ad 2) :: rest)) := va_get (D := D) (ci := 0) (C := RX0) (T := TX0) (N := 10) hcf.1 hcf.2.1 hcf.2.2.2.2 hinX0 hcf.2.2.2.1 hK hw.1 2 rfl rfl 1 (by decide) hlink (fun _ h => h) rfl hdg kk
theorem kg_X0_freeCount (hcf : CallFix p m c cc nL s args kws own) (hK : va_K D vwCl (tK cs) s) (hlink : (Cond.fieldLink own index RX0 "freeCount" "I").before args s = true) {x : Int32} (hdg : decode cc pc = .ok (.getfield index, 3)) (hw : k_H D (wK cs ad) A σ H0 H locs) (hv : σ.1 10 = x) (kk : W p l e R s m args below meth c H locs cells slots Q (F0 m (pc + 3) ls (.int x :: rest))) : W p l e R s m args below meth c H locs cells slots Q (F0 m pc ls (.ref (ad 2) :: rest)) := by
  subst hv
  exact va_get (D := D) (ci := 0) (C := RX0) (T := TX0) (N := 10) hcf.1 hcf.2.1 hcf.2.2.2.2 hinX0 hcf.2.2.2.1 hK hw.1 2 rfl rfl 2 (by decide) hlink (fun _ h => h) rfl hdg kk
theorem kp_X0_freeCount (hcf : CallFix p m c cc nL s args kws own) (hK : va_K D vwCl (tK cs) s) (hlink : (Cond.fieldLink own index RX0 "freeCount" "I").before args s = true) {v : Int32} (hdg : decode cc pc = .ok (.putfield index, 3)) (hw : k_H D (wK cs ad) (k_A 41 ad) σ H0 H locs) (kk : ∀ (H1 : Heap) (locs1 : List Loc), k_H D (wK cs ad) (k_A 41 ad) (p_i σ 10 v) H0 H1 locs1 → W p l e R s m args below meth c H1 locs1 cells slots Q (F0 m (pc + 3) ls rest)) : W p l e R s m args below meth c H locs cells slots Q (F0 m pc ls (.int v :: .ref (ad 2) :: rest)) := by
  exact va_put (D := D) (ci := 0) (v := .int v) (ty := .int) (C := RX0) (T := TX0) (N := 10) hcf.1 hcf.2.1 hcf.2.2.2.2 hinX0 tyX0 tyX0_ok nmX0 hcf.2.2.2.1 hK hw.1 (wK_D hw.2.1) hw.2.2 2 rfl rfl 2 (by decide) hlink (fun _ h => h) rfl (by decide +kernel) rfl rfl (Nat.le_of_ble_eq_true rfl) hdg (fun H1 locs1 hP hD hS => kk H1 locs1 ⟨hP, hD.weaken (fun _ _ _ _ => trivial), hS⟩)
theorem kg_X0_verdict (hcf : CallFix p m c cc nL s args kws own) (hK : va_K D vwCl (tK cs) s) (hlink : (Cond.fieldLink own index RX0 "verdict" "I").before args s = true) {x : Int32} (hdg : decode cc pc = .ok (.getfield index, 3)) (hw : k_H D (wK cs ad) A σ H0 H locs) (hv : σ.1 11 = x) (kk : W p l e R s m args below meth c H locs cells slots Q (F0 m (pc + 3) ls (.int x :: rest))) : W p l e R s m args below meth c H locs cells slots Q (F0 m pc ls (.ref (ad 2) :: rest)) := by
  subst hv
  exact va_get (D := D) (ci := 0) (C := RX0) (T := TX0) (N := 10) hcf.1 hcf.2.1 hcf.2.2.2.2 hinX0 hcf.2.2.2.1 hK hw.1 2 rfl rfl 3 (by decide) hlink (fun _ h => h) rfl hdg kk
theorem kp_X0_verdict (hcf : CallFix p m c cc nL s args kws own) (hK : va_K D vwCl (tK cs) s) (hlink : (Cond.fieldLink own index RX0 "verdict" "I").before args s = true) {v : Int32} (hdg : decode cc pc = .ok (.putfield index, 3)) (hw : k_H D (wK cs ad) (k_A 41 ad) σ H0 H locs) (kk : ∀ (H1 : Heap) (locs1 : List Loc), k_H D (wK cs ad) (k_A 41 ad) (p_i σ 11 v) H0 H1 locs1 → W p l e R s m args below meth c H1 locs1 cells slots Q (F0 m (pc + 3) ls rest)) : W p l e R s m args below meth c H locs cells slots Q (F0 m pc ls (.int v :: .ref (ad 2) :: rest)) := by
  exact va_put (D := D) (ci := 0) (v := .int v) (ty := .int) (C := RX0) (T := TX0) (N := 10) hcf.1 hcf.2.1 hcf.2.2.2.2 hinX0 tyX0 tyX0_ok nmX0 hcf.2.2.2.1 hK hw.1 (wK_D hw.2.1) hw.2.2 2 rfl rfl 3 (by decide) hlink (fun _ h => h) rfl (by decide +kernel) rfl rfl (Nat.le_of_ble_eq_true rfl) hdg (fun H1 locs1 hP hD hS => kk H1 locs1 ⟨hP, hD.weaken (fun _ _ _ _ => trivial), hS⟩)
theorem kg_X0_rows (hcf : CallFix p m c cc nL s args kws own) (hK : va_K D vwCl (tK cs) s) (hlink : (Cond.fieldLink own index RX0 "rows" "[[J").before args s = true) (hdg : decode cc pc = .ok (.getfield index, 3)) (hw : k_H D (wK cs ad) A σ H0 H locs) (kk : W p l e R s m args below meth c H locs cells slots Q (F0 m (pc + 3) ls (.ref (ad 8) :: rest))) : W p l e R s m args below meth c H locs cells slots Q (F0 m pc ls (.ref (ad 2) :: rest)) := va_get (D := D) (ci := 0) (C := RX0) (T := TX0) (N := 10) hcf.1 hcf.2.1 hcf.2.2.2.2 hinX0 hcf.2.2.2.1 hK hw.1 2 rfl rfl 4 (by decide) hlink (fun _ h => h) rfl hdg kk
theorem kg_X0_leading (hcf : CallFix p m c cc nL s args kws own) (hK : va_K D vwCl (tK cs) s) (hlink : (Cond.fieldLink own index RX0 "leading" "[I").before args s = true) (hdg : decode cc pc = .ok (.getfield index, 3)) (hw : k_H D (wK cs ad) A σ H0 H locs) (kk : W p l e R s m args below meth c H locs cells slots Q (F0 m (pc + 3) ls (.ref (ad 17) :: rest))) : W p l e R s m args below meth c H locs cells slots Q (F0 m pc ls (.ref (ad 2) :: rest)) := va_get (D := D) (ci := 0) (C := RX0) (T := TX0) (N := 10) hcf.1 hcf.2.1 hcf.2.2.2.2 hinX0 hcf.2.2.2.1 hK hw.1 2 rfl rfl 5 (by decide) hlink (fun _ h => h) rfl hdg kk
theorem kg_X0_rank (hcf : CallFix p m c cc nL s args kws own) (hK : va_K D vwCl (tK cs) s) (hlink : (Cond.fieldLink own index RX0 "rank" "I").before args s = true) {x : Int32} (hdg : decode cc pc = .ok (.getfield index, 3)) (hw : k_H D (wK cs ad) A σ H0 H locs) (hv : σ.1 12 = x) (kk : W p l e R s m args below meth c H locs cells slots Q (F0 m (pc + 3) ls (.int x :: rest))) : W p l e R s m args below meth c H locs cells slots Q (F0 m pc ls (.ref (ad 2) :: rest)) := by
  subst hv
  exact va_get (D := D) (ci := 0) (C := RX0) (T := TX0) (N := 10) hcf.1 hcf.2.1 hcf.2.2.2.2 hinX0 hcf.2.2.2.1 hK hw.1 2 rfl rfl 6 (by decide) hlink (fun _ h => h) rfl hdg kk
theorem kp_X0_rank (hcf : CallFix p m c cc nL s args kws own) (hK : va_K D vwCl (tK cs) s) (hlink : (Cond.fieldLink own index RX0 "rank" "I").before args s = true) {v : Int32} (hdg : decode cc pc = .ok (.putfield index, 3)) (hw : k_H D (wK cs ad) (k_A 41 ad) σ H0 H locs) (kk : ∀ (H1 : Heap) (locs1 : List Loc), k_H D (wK cs ad) (k_A 41 ad) (p_i σ 12 v) H0 H1 locs1 → W p l e R s m args below meth c H1 locs1 cells slots Q (F0 m (pc + 3) ls rest)) : W p l e R s m args below meth c H locs cells slots Q (F0 m pc ls (.int v :: .ref (ad 2) :: rest)) := by
  exact va_put (D := D) (ci := 0) (v := .int v) (ty := .int) (C := RX0) (T := TX0) (N := 10) hcf.1 hcf.2.1 hcf.2.2.2.2 hinX0 tyX0 tyX0_ok nmX0 hcf.2.2.2.1 hK hw.1 (wK_D hw.2.1) hw.2.2 2 rfl rfl 6 (by decide) hlink (fun _ h => h) rfl (by decide +kernel) rfl rfl (Nat.le_of_ble_eq_true rfl) hdg (fun H1 locs1 hP hD hS => kk H1 locs1 ⟨hP, hD.weaken (fun _ _ _ _ => trivial), hS⟩)
theorem kg_X0_height (hcf : CallFix p m c cc nL s args kws own) (hK : va_K D vwCl (tK cs) s) (hlink : (Cond.fieldLink own index RX0 "height" "I").before args s = true) {x : Int32} (hdg : decode cc pc = .ok (.getfield index, 3)) (hw : k_H D (wK cs ad) A σ H0 H locs) (hv : σ.1 13 = x) (kk : W p l e R s m args below meth c H locs cells slots Q (F0 m (pc + 3) ls (.int x :: rest))) : W p l e R s m args below meth c H locs cells slots Q (F0 m pc ls (.ref (ad 2) :: rest)) := by
  subst hv
  exact va_get (D := D) (ci := 0) (C := RX0) (T := TX0) (N := 10) hcf.1 hcf.2.1 hcf.2.2.2.2 hinX0 hcf.2.2.2.1 hK hw.1 2 rfl rfl 7 (by decide) hlink (fun _ h => h) rfl hdg kk
theorem kp_X0_height (hcf : CallFix p m c cc nL s args kws own) (hK : va_K D vwCl (tK cs) s) (hlink : (Cond.fieldLink own index RX0 "height" "I").before args s = true) {v : Int32} (hdg : decode cc pc = .ok (.putfield index, 3)) (hw : k_H D (wK cs ad) (k_A 41 ad) σ H0 H locs) (kk : ∀ (H1 : Heap) (locs1 : List Loc), k_H D (wK cs ad) (k_A 41 ad) (p_i σ 13 v) H0 H1 locs1 → W p l e R s m args below meth c H1 locs1 cells slots Q (F0 m (pc + 3) ls rest)) : W p l e R s m args below meth c H locs cells slots Q (F0 m pc ls (.int v :: .ref (ad 2) :: rest)) := by
  exact va_put (D := D) (ci := 0) (v := .int v) (ty := .int) (C := RX0) (T := TX0) (N := 10) hcf.1 hcf.2.1 hcf.2.2.2.2 hinX0 tyX0 tyX0_ok nmX0 hcf.2.2.2.1 hK hw.1 (wK_D hw.2.1) hw.2.2 2 rfl rfl 7 (by decide) hlink (fun _ h => h) rfl (by decide +kernel) rfl rfl (Nat.le_of_ble_eq_true rfl) hdg (fun H1 locs1 hP hD hS => kk H1 locs1 ⟨hP, hD.weaken (fun _ _ _ _ => trivial), hS⟩)
theorem kg_X0_width (hcf : CallFix p m c cc nL s args kws own) (hK : va_K D vwCl (tK cs) s) (hlink : (Cond.fieldLink own index RX0 "width" "I").before args s = true) {x : Int32} (hdg : decode cc pc = .ok (.getfield index, 3)) (hw : k_H D (wK cs ad) A σ H0 H locs) (hv : σ.1 14 = x) (kk : W p l e R s m args below meth c H locs cells slots Q (F0 m (pc + 3) ls (.int x :: rest))) : W p l e R s m args below meth c H locs cells slots Q (F0 m pc ls (.ref (ad 2) :: rest)) := by
  subst hv
  exact va_get (D := D) (ci := 0) (C := RX0) (T := TX0) (N := 10) hcf.1 hcf.2.1 hcf.2.2.2.2 hinX0 hcf.2.2.2.1 hK hw.1 2 rfl rfl 8 (by decide) hlink (fun _ h => h) rfl hdg kk
theorem kp_X0_width (hcf : CallFix p m c cc nL s args kws own) (hK : va_K D vwCl (tK cs) s) (hlink : (Cond.fieldLink own index RX0 "width" "I").before args s = true) {v : Int32} (hdg : decode cc pc = .ok (.putfield index, 3)) (hw : k_H D (wK cs ad) (k_A 41 ad) σ H0 H locs) (kk : ∀ (H1 : Heap) (locs1 : List Loc), k_H D (wK cs ad) (k_A 41 ad) (p_i σ 14 v) H0 H1 locs1 → W p l e R s m args below meth c H1 locs1 cells slots Q (F0 m (pc + 3) ls rest)) : W p l e R s m args below meth c H locs cells slots Q (F0 m pc ls (.int v :: .ref (ad 2) :: rest)) := by
  exact va_put (D := D) (ci := 0) (v := .int v) (ty := .int) (C := RX0) (T := TX0) (N := 10) hcf.1 hcf.2.1 hcf.2.2.2.2 hinX0 tyX0 tyX0_ok nmX0 hcf.2.2.2.1 hK hw.1 (wK_D hw.2.1) hw.2.2 2 rfl rfl 8 (by decide) hlink (fun _ h => h) rfl (by decide +kernel) rfl rfl (Nat.le_of_ble_eq_true rfl) hdg (fun H1 locs1 hP hD hS => kk H1 locs1 ⟨hP, hD.weaken (fun _ _ _ _ => trivial), hS⟩)
theorem kg_X0_pivot (hcf : CallFix p m c cc nL s args kws own) (hK : va_K D vwCl (tK cs) s) (hlink : (Cond.fieldLink own index RX0 "pivot" "J").before args s = true) {x : Int64} (hdg : decode cc pc = .ok (.getfield index, 3)) (hw : k_H D (wK cs ad) A σ H0 H locs) (hv : σ.2.2.1 0 = x) (kk : W p l e R s m args below meth c H locs cells slots Q (F0 m (pc + 3) ls (.long x :: rest))) : W p l e R s m args below meth c H locs cells slots Q (F0 m pc ls (.ref (ad 2) :: rest)) := by
  subst hv
  exact va_get (D := D) (ci := 0) (C := RX0) (T := TX0) (N := 10) hcf.1 hcf.2.1 hcf.2.2.2.2 hinX0 hcf.2.2.2.1 hK hw.1 2 rfl rfl 9 (by decide) hlink (fun _ h => h) rfl hdg kk
theorem kp_X0_pivot (hcf : CallFix p m c cc nL s args kws own) (hK : va_K D vwCl (tK cs) s) (hlink : (Cond.fieldLink own index RX0 "pivot" "J").before args s = true) {v : Int64} (hdg : decode cc pc = .ok (.putfield index, 3)) (hw : k_H D (wK cs ad) (k_A 41 ad) σ H0 H locs) (kk : ∀ (H1 : Heap) (locs1 : List Loc), k_H D (wK cs ad) (k_A 41 ad) (p_j σ 0 v) H0 H1 locs1 → W p l e R s m args below meth c H1 locs1 cells slots Q (F0 m (pc + 3) ls rest)) : W p l e R s m args below meth c H locs cells slots Q (F0 m pc ls (.long v :: .ref (ad 2) :: rest)) := by
  exact va_put (D := D) (ci := 0) (v := .long v) (ty := .long) (C := RX0) (T := TX0) (N := 10) hcf.1 hcf.2.1 hcf.2.2.2.2 hinX0 tyX0 tyX0_ok nmX0 hcf.2.2.2.1 hK hw.1 (wK_D hw.2.1) hw.2.2 2 rfl rfl 9 (by decide) hlink (fun _ h => h) rfl (by decide +kernel) rfl rfl (Nat.le_of_ble_eq_true rfl) hdg (fun H1 locs1 hP hD hS => kk H1 locs1 ⟨hP, hD.weaken (fun _ _ _ _ => trivial), hS⟩)
theorem kg_X2_characters (hcf : CallFix p m c cc nL s args kws own) (hK : va_K D vwCl (tK cs) s) (hlink : (Cond.fieldLink own index RX2 "characters" "[C").before args s = true) (hdg : decode cc pc = .ok (.getfield index, 3)) (hw : k_H D (wK cs ad) A σ H0 H locs) (kk : W p l e R s m args below meth c H locs cells slots Q (F0 m (pc + 3) ls (.ref (ad 18) :: rest))) : W p l e R s m args below meth c H locs cells slots Q (F0 m pc ls (.ref (ad 3) :: rest)) := va_get (D := D) (ci := 2) (C := RX2) (T := TX2) (N := 2) hcf.1 hcf.2.1 hcf.2.2.2.2 hinX2 hcf.2.2.2.1 hK hw.1 3 rfl rfl 0 (by decide) hlink (fun _ h => h) rfl hdg kk
theorem kg_X2_length (hcf : CallFix p m c cc nL s args kws own) (hK : va_K D vwCl (tK cs) s) (hlink : (Cond.fieldLink own index RX2 "length" "I").before args s = true) {x : Int32} (hdg : decode cc pc = .ok (.getfield index, 3)) (hw : k_H D (wK cs ad) A σ H0 H locs) (hv : σ.1 15 = x) (kk : W p l e R s m args below meth c H locs cells slots Q (F0 m (pc + 3) ls (.int x :: rest))) : W p l e R s m args below meth c H locs cells slots Q (F0 m pc ls (.ref (ad 3) :: rest)) := by
  subst hv
  exact va_get (D := D) (ci := 2) (C := RX2) (T := TX2) (N := 2) hcf.1 hcf.2.1 hcf.2.2.2.2 hinX2 hcf.2.2.2.1 hK hw.1 3 rfl rfl 1 (by decide) hlink (fun _ h => h) rfl hdg kk
theorem kp_X2_length (hcf : CallFix p m c cc nL s args kws own) (hK : va_K D vwCl (tK cs) s) (hlink : (Cond.fieldLink own index RX2 "length" "I").before args s = true) {v : Int32} (hdg : decode cc pc = .ok (.putfield index, 3)) (hw : k_H D (wK cs ad) (k_A 41 ad) σ H0 H locs) (kk : ∀ (H1 : Heap) (locs1 : List Loc), k_H D (wK cs ad) (k_A 41 ad) (p_i σ 15 v) H0 H1 locs1 → W p l e R s m args below meth c H1 locs1 cells slots Q (F0 m (pc + 3) ls rest)) : W p l e R s m args below meth c H locs cells slots Q (F0 m pc ls (.int v :: .ref (ad 3) :: rest)) := by
  exact va_put (D := D) (ci := 2) (v := .int v) (ty := .int) (C := RX2) (T := TX2) (N := 2) hcf.1 hcf.2.1 hcf.2.2.2.2 hinX2 tyX2 tyX2_ok nmX2 hcf.2.2.2.1 hK hw.1 (wK_D hw.2.1) hw.2.2 3 rfl rfl 1 (by decide) hlink (fun _ h => h) rfl (by decide +kernel) rfl rfl (Nat.le_of_ble_eq_true rfl) hdg (fun H1 locs1 hP hD hS => kk H1 locs1 ⟨hP, hD.weaken (fun _ _ _ _ => trivial), hS⟩)
theorem kg_X4_characters (hcf : CallFix p m c cc nL s args kws own) (hK : va_K D vwCl (tK cs) s) (hlink : (Cond.fieldLink own index RX4 "characters" "[C").before args s = true) (hdg : decode cc pc = .ok (.getfield index, 3)) (hw : k_H D (wK cs ad) A σ H0 H locs) (kk : W p l e R s m args below meth c H locs cells slots Q (F0 m (pc + 3) ls (.ref (ad 10) :: rest))) : W p l e R s m args below meth c H locs cells slots Q (F0 m pc ls (.ref (ad 4) :: rest)) := va_get (D := D) (ci := 4) (C := RX4) (T := TX4) (N := 3) hcf.1 hcf.2.1 hcf.2.2.2.2 hinX4 hcf.2.2.2.1 hK hw.1 4 rfl rfl 0 (by decide) hlink (fun _ h => h) rfl hdg kk
theorem kg_X4_length (hcf : CallFix p m c cc nL s args kws own) (hK : va_K D vwCl (tK cs) s) (hlink : (Cond.fieldLink own index RX4 "length" "I").before args s = true) {x : Int32} (hdg : decode cc pc = .ok (.getfield index, 3)) (hw : k_H D (wK cs ad) A σ H0 H locs) (hv : σ.1 0 = x) (kk : W p l e R s m args below meth c H locs cells slots Q (F0 m (pc + 3) ls (.int x :: rest))) : W p l e R s m args below meth c H locs cells slots Q (F0 m pc ls (.ref (ad 4) :: rest)) := by
  subst hv
  exact va_get (D := D) (ci := 4) (C := RX4) (T := TX4) (N := 3) hcf.1 hcf.2.1 hcf.2.2.2.2 hinX4 hcf.2.2.2.1 hK hw.1 4 rfl rfl 1 (by decide) hlink (fun _ h => h) rfl hdg kk
theorem kp_X4_length (hcf : CallFix p m c cc nL s args kws own) (hK : va_K D vwCl (tK cs) s) (hlink : (Cond.fieldLink own index RX4 "length" "I").before args s = true) {v : Int32} (hdg : decode cc pc = .ok (.putfield index, 3)) (hw : k_H D (wK cs ad) (k_A 41 ad) σ H0 H locs) (kk : ∀ (H1 : Heap) (locs1 : List Loc), k_H D (wK cs ad) (k_A 41 ad) (p_i σ 0 v) H0 H1 locs1 → W p l e R s m args below meth c H1 locs1 cells slots Q (F0 m (pc + 3) ls rest)) : W p l e R s m args below meth c H locs cells slots Q (F0 m pc ls (.int v :: .ref (ad 4) :: rest)) := by
  exact va_put (D := D) (ci := 4) (v := .int v) (ty := .int) (C := RX4) (T := TX4) (N := 3) hcf.1 hcf.2.1 hcf.2.2.2.2 hinX4 tyX4 tyX4_ok nmX4 hcf.2.2.2.1 hK hw.1 (wK_D hw.2.1) hw.2.2 4 rfl rfl 1 (by decide) hlink (fun _ h => h) rfl (by decide +kernel) rfl rfl (Nat.le_of_ble_eq_true rfl) hdg (fun H1 locs1 hP hD hS => kk H1 locs1 ⟨hP, hD.weaken (fun _ _ _ _ => trivial), hS⟩)
theorem kg_X4_place (hcf : CallFix p m c cc nL s args kws own) (hK : va_K D vwCl (tK cs) s) (hlink : (Cond.fieldLink own index RX4 "place" "I").before args s = true) {x : Int32} (hdg : decode cc pc = .ok (.getfield index, 3)) (hw : k_H D (wK cs ad) A σ H0 H locs) (hv : σ.1 1 = x) (kk : W p l e R s m args below meth c H locs cells slots Q (F0 m (pc + 3) ls (.int x :: rest))) : W p l e R s m args below meth c H locs cells slots Q (F0 m pc ls (.ref (ad 4) :: rest)) := by
  subst hv
  exact va_get (D := D) (ci := 4) (C := RX4) (T := TX4) (N := 3) hcf.1 hcf.2.1 hcf.2.2.2.2 hinX4 hcf.2.2.2.1 hK hw.1 4 rfl rfl 2 (by decide) hlink (fun _ h => h) rfl hdg kk
theorem kp_X4_place (hcf : CallFix p m c cc nL s args kws own) (hK : va_K D vwCl (tK cs) s) (hlink : (Cond.fieldLink own index RX4 "place" "I").before args s = true) {v : Int32} (hdg : decode cc pc = .ok (.putfield index, 3)) (hw : k_H D (wK cs ad) (k_A 41 ad) σ H0 H locs) (kk : ∀ (H1 : Heap) (locs1 : List Loc), k_H D (wK cs ad) (k_A 41 ad) (p_i σ 1 v) H0 H1 locs1 → W p l e R s m args below meth c H1 locs1 cells slots Q (F0 m (pc + 3) ls rest)) : W p l e R s m args below meth c H locs cells slots Q (F0 m pc ls (.int v :: .ref (ad 4) :: rest)) := by
  exact va_put (D := D) (ci := 4) (v := .int v) (ty := .int) (C := RX4) (T := TX4) (N := 3) hcf.1 hcf.2.1 hcf.2.2.2.2 hinX4 tyX4 tyX4_ok nmX4 hcf.2.2.2.1 hK hw.1 (wK_D hw.2.1) hw.2.2 4 rfl rfl 2 (by decide) hlink (fun _ h => h) rfl (by decide +kernel) rfl rfl (Nat.le_of_ble_eq_true rfl) hdg (fun H1 locs1 hP hD hS => kk H1 locs1 ⟨hP, hD.weaken (fun _ _ _ _ => trivial), hS⟩)
theorem kg_X1_elementNames (hcf : CallFix p m c cc nL s args kws own) (hK : va_K D vwCl (tK cs) s) (hlink : (Cond.fieldLink own index RX1 "elementNames" "[I").before args s = true) (hdg : decode cc pc = .ok (.getfield index, 3)) (hw : k_H D (wK cs ad) A σ H0 H locs) (kk : W p l e R s m args below meth c H locs cells slots Q (F0 m (pc + 3) ls (.ref (ad 11) :: rest))) : W p l e R s m args below meth c H locs cells slots Q (F0 m pc ls (.ref (ad 5) :: rest)) := va_get (D := D) (ci := 1) (C := RX1) (T := TX1) (N := 9) hcf.1 hcf.2.1 hcf.2.2.2.2 hinX1 hcf.2.2.2.1 hK hw.1 5 rfl rfl 0 (by decide) hlink (fun _ h => h) rfl hdg kk
theorem kg_X1_amounts (hcf : CallFix p m c cc nL s args kws own) (hK : va_K D vwCl (tK cs) s) (hlink : (Cond.fieldLink own index RX1 "amounts" "[[I").before args s = true) (hdg : decode cc pc = .ok (.getfield index, 3)) (hw : k_H D (wK cs ad) A σ H0 H locs) (kk : W p l e R s m args below meth c H locs cells slots Q (F0 m (pc + 3) ls (.ref (ad 9) :: rest))) : W p l e R s m args below meth c H locs cells slots Q (F0 m pc ls (.ref (ad 5) :: rest)) := va_get (D := D) (ci := 1) (C := RX1) (T := TX1) (N := 9) hcf.1 hcf.2.1 hcf.2.2.2.2 hinX1 hcf.2.2.2.1 hK hw.1 5 rfl rfl 1 (by decide) hlink (fun _ h => h) rfl hdg kk
theorem kg_X1_charges (hcf : CallFix p m c cc nL s args kws own) (hK : va_K D vwCl (tK cs) s) (hlink : (Cond.fieldLink own index RX1 "charges" "[I").before args s = true) (hdg : decode cc pc = .ok (.getfield index, 3)) (hw : k_H D (wK cs ad) A σ H0 H locs) (kk : W p l e R s m args below meth c H locs cells slots Q (F0 m (pc + 3) ls (.ref (ad 12) :: rest))) : W p l e R s m args below meth c H locs cells slots Q (F0 m pc ls (.ref (ad 5) :: rest)) := va_get (D := D) (ci := 1) (C := RX1) (T := TX1) (N := 9) hcf.1 hcf.2.1 hcf.2.2.2.2 hinX1 hcf.2.2.2.1 hK hw.1 5 rfl rfl 2 (by decide) hlink (fun _ h => h) rfl hdg kk
theorem kg_X1_begins (hcf : CallFix p m c cc nL s args kws own) (hK : va_K D vwCl (tK cs) s) (hlink : (Cond.fieldLink own index RX1 "begins" "[I").before args s = true) (hdg : decode cc pc = .ok (.getfield index, 3)) (hw : k_H D (wK cs ad) A σ H0 H locs) (kk : W p l e R s m args below meth c H locs cells slots Q (F0 m (pc + 3) ls (.ref (ad 13) :: rest))) : W p l e R s m args below meth c H locs cells slots Q (F0 m pc ls (.ref (ad 5) :: rest)) := va_get (D := D) (ci := 1) (C := RX1) (T := TX1) (N := 9) hcf.1 hcf.2.1 hcf.2.2.2.2 hinX1 hcf.2.2.2.1 hK hw.1 5 rfl rfl 3 (by decide) hlink (fun _ h => h) rfl hdg kk
theorem kg_X1_ends (hcf : CallFix p m c cc nL s args kws own) (hK : va_K D vwCl (tK cs) s) (hlink : (Cond.fieldLink own index RX1 "ends" "[I").before args s = true) (hdg : decode cc pc = .ok (.getfield index, 3)) (hw : k_H D (wK cs ad) A σ H0 H locs) (kk : W p l e R s m args below meth c H locs cells slots Q (F0 m (pc + 3) ls (.ref (ad 14) :: rest))) : W p l e R s m args below meth c H locs cells slots Q (F0 m pc ls (.ref (ad 5) :: rest)) := va_get (D := D) (ci := 1) (C := RX1) (T := TX1) (N := 9) hcf.1 hcf.2.1 hcf.2.2.2.2 hinX1 hcf.2.2.2.1 hK hw.1 5 rfl rfl 4 (by decide) hlink (fun _ h => h) rfl hdg kk
theorem kg_X1_formulaCount (hcf : CallFix p m c cc nL s args kws own) (hK : va_K D vwCl (tK cs) s) (hlink : (Cond.fieldLink own index RX1 "formulaCount" "I").before args s = true) {x : Int32} (hdg : decode cc pc = .ok (.getfield index, 3)) (hw : k_H D (wK cs ad) A σ H0 H locs) (hv : σ.1 2 = x) (kk : W p l e R s m args below meth c H locs cells slots Q (F0 m (pc + 3) ls (.int x :: rest))) : W p l e R s m args below meth c H locs cells slots Q (F0 m pc ls (.ref (ad 5) :: rest)) := by
  subst hv
  exact va_get (D := D) (ci := 1) (C := RX1) (T := TX1) (N := 9) hcf.1 hcf.2.1 hcf.2.2.2.2 hinX1 hcf.2.2.2.1 hK hw.1 5 rfl rfl 5 (by decide) hlink (fun _ h => h) rfl hdg kk
theorem kp_X1_formulaCount (hcf : CallFix p m c cc nL s args kws own) (hK : va_K D vwCl (tK cs) s) (hlink : (Cond.fieldLink own index RX1 "formulaCount" "I").before args s = true) {v : Int32} (hdg : decode cc pc = .ok (.putfield index, 3)) (hw : k_H D (wK cs ad) (k_A 41 ad) σ H0 H locs) (kk : ∀ (H1 : Heap) (locs1 : List Loc), k_H D (wK cs ad) (k_A 41 ad) (p_i σ 2 v) H0 H1 locs1 → W p l e R s m args below meth c H1 locs1 cells slots Q (F0 m (pc + 3) ls rest)) : W p l e R s m args below meth c H locs cells slots Q (F0 m pc ls (.int v :: .ref (ad 5) :: rest)) := by
  exact va_put (D := D) (ci := 1) (v := .int v) (ty := .int) (C := RX1) (T := TX1) (N := 9) hcf.1 hcf.2.1 hcf.2.2.2.2 hinX1 tyX1 tyX1_ok nmX1 hcf.2.2.2.1 hK hw.1 (wK_D hw.2.1) hw.2.2 5 rfl rfl 5 (by decide) hlink (fun _ h => h) rfl (by decide +kernel) rfl rfl (Nat.le_of_ble_eq_true rfl) hdg (fun H1 locs1 hP hD hS => kk H1 locs1 ⟨hP, hD.weaken (fun _ _ _ _ => trivial), hS⟩)
theorem kg_X1_reactantCount (hcf : CallFix p m c cc nL s args kws own) (hK : va_K D vwCl (tK cs) s) (hlink : (Cond.fieldLink own index RX1 "reactantCount" "I").before args s = true) {x : Int32} (hdg : decode cc pc = .ok (.getfield index, 3)) (hw : k_H D (wK cs ad) A σ H0 H locs) (hv : σ.1 3 = x) (kk : W p l e R s m args below meth c H locs cells slots Q (F0 m (pc + 3) ls (.int x :: rest))) : W p l e R s m args below meth c H locs cells slots Q (F0 m pc ls (.ref (ad 5) :: rest)) := by
  subst hv
  exact va_get (D := D) (ci := 1) (C := RX1) (T := TX1) (N := 9) hcf.1 hcf.2.1 hcf.2.2.2.2 hinX1 hcf.2.2.2.1 hK hw.1 5 rfl rfl 6 (by decide) hlink (fun _ h => h) rfl hdg kk
theorem kp_X1_reactantCount (hcf : CallFix p m c cc nL s args kws own) (hK : va_K D vwCl (tK cs) s) (hlink : (Cond.fieldLink own index RX1 "reactantCount" "I").before args s = true) {v : Int32} (hdg : decode cc pc = .ok (.putfield index, 3)) (hw : k_H D (wK cs ad) (k_A 41 ad) σ H0 H locs) (kk : ∀ (H1 : Heap) (locs1 : List Loc), k_H D (wK cs ad) (k_A 41 ad) (p_i σ 3 v) H0 H1 locs1 → W p l e R s m args below meth c H1 locs1 cells slots Q (F0 m (pc + 3) ls rest)) : W p l e R s m args below meth c H locs cells slots Q (F0 m pc ls (.int v :: .ref (ad 5) :: rest)) := by
  exact va_put (D := D) (ci := 1) (v := .int v) (ty := .int) (C := RX1) (T := TX1) (N := 9) hcf.1 hcf.2.1 hcf.2.2.2.2 hinX1 tyX1 tyX1_ok nmX1 hcf.2.2.2.1 hK hw.1 (wK_D hw.2.1) hw.2.2 5 rfl rfl 6 (by decide) hlink (fun _ h => h) rfl (by decide +kernel) rfl rfl (Nat.le_of_ble_eq_true rfl) hdg (fun H1 locs1 hP hD hS => kk H1 locs1 ⟨hP, hD.weaken (fun _ _ _ _ => trivial), hS⟩)
theorem kg_X1_elementCount (hcf : CallFix p m c cc nL s args kws own) (hK : va_K D vwCl (tK cs) s) (hlink : (Cond.fieldLink own index RX1 "elementCount" "I").before args s = true) {x : Int32} (hdg : decode cc pc = .ok (.getfield index, 3)) (hw : k_H D (wK cs ad) A σ H0 H locs) (hv : σ.1 4 = x) (kk : W p l e R s m args below meth c H locs cells slots Q (F0 m (pc + 3) ls (.int x :: rest))) : W p l e R s m args below meth c H locs cells slots Q (F0 m pc ls (.ref (ad 5) :: rest)) := by
  subst hv
  exact va_get (D := D) (ci := 1) (C := RX1) (T := TX1) (N := 9) hcf.1 hcf.2.1 hcf.2.2.2.2 hinX1 hcf.2.2.2.1 hK hw.1 5 rfl rfl 7 (by decide) hlink (fun _ h => h) rfl hdg kk
theorem kp_X1_elementCount (hcf : CallFix p m c cc nL s args kws own) (hK : va_K D vwCl (tK cs) s) (hlink : (Cond.fieldLink own index RX1 "elementCount" "I").before args s = true) {v : Int32} (hdg : decode cc pc = .ok (.putfield index, 3)) (hw : k_H D (wK cs ad) (k_A 41 ad) σ H0 H locs) (kk : ∀ (H1 : Heap) (locs1 : List Loc), k_H D (wK cs ad) (k_A 41 ad) (p_i σ 4 v) H0 H1 locs1 → W p l e R s m args below meth c H1 locs1 cells slots Q (F0 m (pc + 3) ls rest)) : W p l e R s m args below meth c H locs cells slots Q (F0 m pc ls (.int v :: .ref (ad 5) :: rest)) := by
  exact va_put (D := D) (ci := 1) (v := .int v) (ty := .int) (C := RX1) (T := TX1) (N := 9) hcf.1 hcf.2.1 hcf.2.2.2.2 hinX1 tyX1 tyX1_ok nmX1 hcf.2.2.2.1 hK hw.1 (wK_D hw.2.1) hw.2.2 5 rfl rfl 7 (by decide) hlink (fun _ h => h) rfl (by decide +kernel) rfl rfl (Nat.le_of_ble_eq_true rfl) hdg (fun H1 locs1 hP hD hS => kk H1 locs1 ⟨hP, hD.weaken (fun _ _ _ _ => trivial), hS⟩)
theorem kg_X1_charged (hcf : CallFix p m c cc nL s args kws own) (hK : va_K D vwCl (tK cs) s) (hlink : (Cond.fieldLink own index RX1 "charged" "Z").before args s = true) {x : Int32} (hdg : decode cc pc = .ok (.getfield index, 3)) (hw : k_H D (wK cs ad) A σ H0 H locs) (hv : σ.1 5 = x) (kk : W p l e R s m args below meth c H locs cells slots Q (F0 m (pc + 3) ls (.int x :: rest))) : W p l e R s m args below meth c H locs cells slots Q (F0 m pc ls (.ref (ad 5) :: rest)) := by
  subst hv
  exact va_get (D := D) (ci := 1) (C := RX1) (T := TX1) (N := 9) hcf.1 hcf.2.1 hcf.2.2.2.2 hinX1 hcf.2.2.2.1 hK hw.1 5 rfl rfl 8 (by decide) hlink (fun _ h => h) rfl hdg kk
theorem kp_X1_charged (hcf : CallFix p m c cc nL s args kws own) (hK : va_K D vwCl (tK cs) s) (hlink : (Cond.fieldLink own index RX1 "charged" "Z").before args s = true) {v : Int32} (hdg : decode cc pc = .ok (.putfield index, 3)) (hz : narrow .boolean (.int v) = .int v ∧ fits .boolean (.int v) = true) (hw : k_H D (wK cs ad) (k_A 41 ad) σ H0 H locs) (kk : ∀ (H1 : Heap) (locs1 : List Loc), k_H D (wK cs ad) (k_A 41 ad) (p_i σ 5 v) H0 H1 locs1 → W p l e R s m args below meth c H1 locs1 cells slots Q (F0 m (pc + 3) ls rest)) : W p l e R s m args below meth c H locs cells slots Q (F0 m pc ls (.int v :: .ref (ad 5) :: rest)) := by
  exact va_put (D := D) (ci := 1) (v := .int v) (ty := .boolean) (C := RX1) (T := TX1) (N := 9) hcf.1 hcf.2.1 hcf.2.2.2.2 hinX1 tyX1 tyX1_ok nmX1 hcf.2.2.2.1 hK hw.1 (wK_D hw.2.1) hw.2.2 5 rfl rfl 8 (by decide) hlink (fun _ h => h) rfl (by decide +kernel) hz.1 hz.2 (Nat.le_of_ble_eq_true rfl) hdg (fun H1 locs1 hP hD hS => kk H1 locs1 ⟨hP, hD.weaken (fun _ _ _ _ => trivial), hS⟩)
theorem kald_A0 (hcf : CallFix p m c cc nL s args kws own) (hK : va_K D vwCl (tK cs) s) {i x : Int32} (hdg : decode cc pc = .ok (.caload, 1)) (hi : ¬ (i < 0 ∨ 100 ≤ i.toNatClampNeg)) (hw : k_H D (wK cs ad) A σ H0 H locs) (hv : σ.2.1 0 i.toNatClampNeg = x) (kk : W p l e R s m args below meth c H locs cells slots Q (F0 m (pc + 1) ls (.int x :: rest))) : W p l e R s m args below meth c H locs cells slots Q (F0 m pc ls (.int i :: .ref (ad 10) :: rest)) := by
  subst hv
  exact va_cald hcf.1 hcf.2.1 hK hw.1 10 1 rfl rfl hi hdg kk
theorem kast_A0 (hcf : CallFix p m c cc nL s args kws own) (hK : va_K D vwCl (tK cs) s) {i v : Int32} (hdg : decode cc pc = .ok (.castore, 1)) (hi : ¬ (i < 0 ∨ 100 ≤ i.toNatClampNeg)) (hw : k_H D (wK cs ad) (k_A 41 ad) σ H0 H locs) (kk : ∀ (H1 : Heap) (locs1 : List Loc), k_H D (wK cs ad) (k_A 41 ad) (p_a σ 0 i.toNatClampNeg (vp_nar .char v)) H0 H1 locs1 → W p l e R s m args below meth c H1 locs1 cells slots Q (F0 m (pc + 1) ls rest)) : W p l e R s m args below meth c H locs cells slots Q (F0 m pc ls (.int v :: .int i :: .ref (ad 10) :: rest)) := by
  exact va_cast hcf.1 hcf.2.1 hK hw.1 (wK_D hw.2.1) hw.2.2 10 1 rfl rfl hi hdg (fun H1 locs1 hP hD hS => kk H1 locs1 ⟨hP, hD.weaken (fun _ _ _ _ => trivial), hS⟩)
theorem kald_A1 (hcf : CallFix p m c cc nL s args kws own) (hK : va_K D vwCl (tK cs) s) {i x : Int32} (hdg : decode cc pc = .ok (.iaload, 1)) (hi : ¬ (i < 0 ∨ 5 ≤ i.toNatClampNeg)) (hw : k_H D (wK cs ad) A σ H0 H locs) (hv : σ.2.1 1 i.toNatClampNeg = x) (kk : W p l e R s m args below meth c H locs cells slots Q (F0 m (pc + 1) ls (.int x :: rest))) : W p l e R s m args below meth c H locs cells slots Q (F0 m pc ls (.int i :: .ref (ad 11) :: rest)) := by
  subst hv
  exact va_iald hcf.1 hcf.2.1 hK hw.1 11 0 rfl rfl hi hdg kk
theorem kast_A1 (hcf : CallFix p m c cc nL s args kws own) (hK : va_K D vwCl (tK cs) s) {i v : Int32} (hdg : decode cc pc = .ok (.iastore, 1)) (hi : ¬ (i < 0 ∨ 5 ≤ i.toNatClampNeg)) (hw : k_H D (wK cs ad) (k_A 41 ad) σ H0 H locs) (kk : ∀ (H1 : Heap) (locs1 : List Loc), k_H D (wK cs ad) (k_A 41 ad) (p_a σ 1 i.toNatClampNeg v) H0 H1 locs1 → W p l e R s m args below meth c H1 locs1 cells slots Q (F0 m (pc + 1) ls rest)) : W p l e R s m args below meth c H locs cells slots Q (F0 m pc ls (.int v :: .int i :: .ref (ad 11) :: rest)) := by
  exact va_iast hcf.1 hcf.2.1 hK hw.1 (wK_D hw.2.1) hw.2.2 11 0 rfl rfl hi hdg (fun H1 locs1 hP hD hS => kk H1 locs1 ⟨hP, hD.weaken (fun _ _ _ _ => trivial), hS⟩)
theorem kald_A2 (hcf : CallFix p m c cc nL s args kws own) (hK : va_K D vwCl (tK cs) s) {i x : Int32} (hdg : decode cc pc = .ok (.iaload, 1)) (hi : ¬ (i < 0 ∨ 6 ≤ i.toNatClampNeg)) (hw : k_H D (wK cs ad) A σ H0 H locs) (hv : σ.2.1 2 i.toNatClampNeg = x) (kk : W p l e R s m args below meth c H locs cells slots Q (F0 m (pc + 1) ls (.int x :: rest))) : W p l e R s m args below meth c H locs cells slots Q (F0 m pc ls (.int i :: .ref (ad 12) :: rest)) := by
  subst hv
  exact va_iald hcf.1 hcf.2.1 hK hw.1 12 0 rfl rfl hi hdg kk
theorem kast_A2 (hcf : CallFix p m c cc nL s args kws own) (hK : va_K D vwCl (tK cs) s) {i v : Int32} (hdg : decode cc pc = .ok (.iastore, 1)) (hi : ¬ (i < 0 ∨ 6 ≤ i.toNatClampNeg)) (hw : k_H D (wK cs ad) (k_A 41 ad) σ H0 H locs) (kk : ∀ (H1 : Heap) (locs1 : List Loc), k_H D (wK cs ad) (k_A 41 ad) (p_a σ 2 i.toNatClampNeg v) H0 H1 locs1 → W p l e R s m args below meth c H1 locs1 cells slots Q (F0 m (pc + 1) ls rest)) : W p l e R s m args below meth c H locs cells slots Q (F0 m pc ls (.int v :: .int i :: .ref (ad 12) :: rest)) := by
  exact va_iast hcf.1 hcf.2.1 hK hw.1 (wK_D hw.2.1) hw.2.2 12 0 rfl rfl hi hdg (fun H1 locs1 hP hD hS => kk H1 locs1 ⟨hP, hD.weaken (fun _ _ _ _ => trivial), hS⟩)
theorem kald_A3 (hcf : CallFix p m c cc nL s args kws own) (hK : va_K D vwCl (tK cs) s) {i x : Int32} (hdg : decode cc pc = .ok (.iaload, 1)) (hi : ¬ (i < 0 ∨ 6 ≤ i.toNatClampNeg)) (hw : k_H D (wK cs ad) A σ H0 H locs) (hv : σ.2.1 3 i.toNatClampNeg = x) (kk : W p l e R s m args below meth c H locs cells slots Q (F0 m (pc + 1) ls (.int x :: rest))) : W p l e R s m args below meth c H locs cells slots Q (F0 m pc ls (.int i :: .ref (ad 13) :: rest)) := by
  subst hv
  exact va_iald hcf.1 hcf.2.1 hK hw.1 13 0 rfl rfl hi hdg kk
theorem kast_A3 (hcf : CallFix p m c cc nL s args kws own) (hK : va_K D vwCl (tK cs) s) {i v : Int32} (hdg : decode cc pc = .ok (.iastore, 1)) (hi : ¬ (i < 0 ∨ 6 ≤ i.toNatClampNeg)) (hw : k_H D (wK cs ad) (k_A 41 ad) σ H0 H locs) (kk : ∀ (H1 : Heap) (locs1 : List Loc), k_H D (wK cs ad) (k_A 41 ad) (p_a σ 3 i.toNatClampNeg v) H0 H1 locs1 → W p l e R s m args below meth c H1 locs1 cells slots Q (F0 m (pc + 1) ls rest)) : W p l e R s m args below meth c H locs cells slots Q (F0 m pc ls (.int v :: .int i :: .ref (ad 13) :: rest)) := by
  exact va_iast hcf.1 hcf.2.1 hK hw.1 (wK_D hw.2.1) hw.2.2 13 0 rfl rfl hi hdg (fun H1 locs1 hP hD hS => kk H1 locs1 ⟨hP, hD.weaken (fun _ _ _ _ => trivial), hS⟩)
theorem kald_A4 (hcf : CallFix p m c cc nL s args kws own) (hK : va_K D vwCl (tK cs) s) {i x : Int32} (hdg : decode cc pc = .ok (.iaload, 1)) (hi : ¬ (i < 0 ∨ 6 ≤ i.toNatClampNeg)) (hw : k_H D (wK cs ad) A σ H0 H locs) (hv : σ.2.1 4 i.toNatClampNeg = x) (kk : W p l e R s m args below meth c H locs cells slots Q (F0 m (pc + 1) ls (.int x :: rest))) : W p l e R s m args below meth c H locs cells slots Q (F0 m pc ls (.int i :: .ref (ad 14) :: rest)) := by
  subst hv
  exact va_iald hcf.1 hcf.2.1 hK hw.1 14 0 rfl rfl hi hdg kk
theorem kast_A4 (hcf : CallFix p m c cc nL s args kws own) (hK : va_K D vwCl (tK cs) s) {i v : Int32} (hdg : decode cc pc = .ok (.iastore, 1)) (hi : ¬ (i < 0 ∨ 6 ≤ i.toNatClampNeg)) (hw : k_H D (wK cs ad) (k_A 41 ad) σ H0 H locs) (kk : ∀ (H1 : Heap) (locs1 : List Loc), k_H D (wK cs ad) (k_A 41 ad) (p_a σ 4 i.toNatClampNeg v) H0 H1 locs1 → W p l e R s m args below meth c H1 locs1 cells slots Q (F0 m (pc + 1) ls rest)) : W p l e R s m args below meth c H locs cells slots Q (F0 m pc ls (.int v :: .int i :: .ref (ad 14) :: rest)) := by
  exact va_iast hcf.1 hcf.2.1 hK hw.1 (wK_D hw.2.1) hw.2.2 14 0 rfl rfl hi hdg (fun H1 locs1 hP hD hS => kk H1 locs1 ⟨hP, hD.weaken (fun _ _ _ _ => trivial), hS⟩)
theorem kald_A5 (hcf : CallFix p m c cc nL s args kws own) (hK : va_K D vwCl (tK cs) s) {i x : Int32} (hdg : decode cc pc = .ok (.caload, 1)) (hi : ¬ (i < 0 ∨ 4 ≤ i.toNatClampNeg)) (hw : k_H D (wK cs ad) A σ H0 H locs) (hv : σ.2.1 5 i.toNatClampNeg = x) (kk : W p l e R s m args below meth c H locs cells slots Q (F0 m (pc + 1) ls (.int x :: rest))) : W p l e R s m args below meth c H locs cells slots Q (F0 m pc ls (.int i :: .ref (ad 15) :: rest)) := by
  subst hv
  exact va_cald hcf.1 hcf.2.1 hK hw.1 15 1 rfl rfl hi hdg kk
theorem kast_A5 (hcf : CallFix p m c cc nL s args kws own) (hK : va_K D vwCl (tK cs) s) {i v : Int32} (hdg : decode cc pc = .ok (.castore, 1)) (hi : ¬ (i < 0 ∨ 4 ≤ i.toNatClampNeg)) (hw : k_H D (wK cs ad) (k_A 41 ad) σ H0 H locs) (kk : ∀ (H1 : Heap) (locs1 : List Loc), k_H D (wK cs ad) (k_A 41 ad) (p_a σ 5 i.toNatClampNeg (vp_nar .char v)) H0 H1 locs1 → W p l e R s m args below meth c H1 locs1 cells slots Q (F0 m (pc + 1) ls rest)) : W p l e R s m args below meth c H locs cells slots Q (F0 m pc ls (.int v :: .int i :: .ref (ad 15) :: rest)) := by
  exact va_cast hcf.1 hcf.2.1 hK hw.1 (wK_D hw.2.1) hw.2.2 15 1 rfl rfl hi hdg (fun H1 locs1 hP hD hS => kk H1 locs1 ⟨hP, hD.weaken (fun _ _ _ _ => trivial), hS⟩)
theorem kald_A6 (hcf : CallFix p m c cc nL s args kws own) (hK : va_K D vwCl (tK cs) s) {i x : Int32} (hdg : decode cc pc = .ok (.baload, 1)) (hi : ¬ (i < 0 ∨ 6 ≤ i.toNatClampNeg)) (hw : k_H D (wK cs ad) A σ H0 H locs) (hv : σ.2.1 6 i.toNatClampNeg = x) (kk : W p l e R s m args below meth c H locs cells slots Q (F0 m (pc + 1) ls (.int x :: rest))) : W p l e R s m args below meth c H locs cells slots Q (F0 m pc ls (.int i :: .ref (ad 16) :: rest)) := by
  subst hv
  exact va_zald hcf.1 hcf.2.1 hK hw.1 16 2 rfl rfl hi hdg kk
theorem kast_A6 (hcf : CallFix p m c cc nL s args kws own) (hK : va_K D vwCl (tK cs) s) {i v : Int32} (hdg : decode cc pc = .ok (.bastore, 1)) (hi : ¬ (i < 0 ∨ 6 ≤ i.toNatClampNeg)) (hw : k_H D (wK cs ad) (k_A 41 ad) σ H0 H locs) (kk : ∀ (H1 : Heap) (locs1 : List Loc), k_H D (wK cs ad) (k_A 41 ad) (p_a σ 6 i.toNatClampNeg (vp_nar .boolean v)) H0 H1 locs1 → W p l e R s m args below meth c H1 locs1 cells slots Q (F0 m (pc + 1) ls rest)) : W p l e R s m args below meth c H locs cells slots Q (F0 m pc ls (.int v :: .int i :: .ref (ad 16) :: rest)) := by
  exact va_zast hcf.1 hcf.2.1 hK hw.1 (wK_D hw.2.1) hw.2.2 16 2 rfl rfl hi hdg (fun H1 locs1 hP hD hS => kk H1 locs1 ⟨hP, hD.weaken (fun _ _ _ _ => trivial), hS⟩)
theorem kald_A7 (hcf : CallFix p m c cc nL s args kws own) (hK : va_K D vwCl (tK cs) s) {i x : Int32} (hdg : decode cc pc = .ok (.iaload, 1)) (hi : ¬ (i < 0 ∨ 5 ≤ i.toNatClampNeg)) (hw : k_H D (wK cs ad) A σ H0 H locs) (hv : σ.2.1 7 i.toNatClampNeg = x) (kk : W p l e R s m args below meth c H locs cells slots Q (F0 m (pc + 1) ls (.int x :: rest))) : W p l e R s m args below meth c H locs cells slots Q (F0 m pc ls (.int i :: .ref (ad 17) :: rest)) := by
  subst hv
  exact va_iald hcf.1 hcf.2.1 hK hw.1 17 0 rfl rfl hi hdg kk
theorem kast_A7 (hcf : CallFix p m c cc nL s args kws own) (hK : va_K D vwCl (tK cs) s) {i v : Int32} (hdg : decode cc pc = .ok (.iastore, 1)) (hi : ¬ (i < 0 ∨ 5 ≤ i.toNatClampNeg)) (hw : k_H D (wK cs ad) (k_A 41 ad) σ H0 H locs) (kk : ∀ (H1 : Heap) (locs1 : List Loc), k_H D (wK cs ad) (k_A 41 ad) (p_a σ 7 i.toNatClampNeg v) H0 H1 locs1 → W p l e R s m args below meth c H1 locs1 cells slots Q (F0 m (pc + 1) ls rest)) : W p l e R s m args below meth c H locs cells slots Q (F0 m pc ls (.int v :: .int i :: .ref (ad 17) :: rest)) := by
  exact va_iast hcf.1 hcf.2.1 hK hw.1 (wK_D hw.2.1) hw.2.2 17 0 rfl rfl hi hdg (fun H1 locs1 hP hD hS => kk H1 locs1 ⟨hP, hD.weaken (fun _ _ _ _ => trivial), hS⟩)
theorem kald_A8 (hcf : CallFix p m c cc nL s args kws own) (hK : va_K D vwCl (tK cs) s) {i x : Int32} (hdg : decode cc pc = .ok (.caload, 1)) (hi : ¬ (i < 0 ∨ 200 ≤ i.toNatClampNeg)) (hw : k_H D (wK cs ad) A σ H0 H locs) (hv : σ.2.1 8 i.toNatClampNeg = x) (kk : W p l e R s m args below meth c H locs cells slots Q (F0 m (pc + 1) ls (.int x :: rest))) : W p l e R s m args below meth c H locs cells slots Q (F0 m pc ls (.int i :: .ref (ad 18) :: rest)) := by
  subst hv
  exact va_cald hcf.1 hcf.2.1 hK hw.1 18 1 rfl rfl hi hdg kk
theorem kast_A8 (hcf : CallFix p m c cc nL s args kws own) (hK : va_K D vwCl (tK cs) s) {i v : Int32} (hdg : decode cc pc = .ok (.castore, 1)) (hi : ¬ (i < 0 ∨ 200 ≤ i.toNatClampNeg)) (hw : k_H D (wK cs ad) (k_A 41 ad) σ H0 H locs) (kk : ∀ (H1 : Heap) (locs1 : List Loc), k_H D (wK cs ad) (k_A 41 ad) (p_a σ 8 i.toNatClampNeg (vp_nar .char v)) H0 H1 locs1 → W p l e R s m args below meth c H1 locs1 cells slots Q (F0 m (pc + 1) ls rest)) : W p l e R s m args below meth c H locs cells slots Q (F0 m pc ls (.int v :: .int i :: .ref (ad 18) :: rest)) := by
  exact va_cast hcf.1 hcf.2.1 hK hw.1 (wK_D hw.2.1) hw.2.2 18 1 rfl rfl hi hdg (fun H1 locs1 hP hD hS => kk H1 locs1 ⟨hP, hD.weaken (fun _ _ _ _ => trivial), hS⟩)
theorem kald_A9 (hcf : CallFix p m c cc nL s args kws own) (hK : va_K D vwCl (tK cs) s) {i x : Int32} (hdg : decode cc pc = .ok (.iaload, 1)) (hi : ¬ (i < 0 ∨ 5 ≤ i.toNatClampNeg)) (hw : k_H D (wK cs ad) A σ H0 H locs) (hv : σ.2.1 9 i.toNatClampNeg = x) (kk : W p l e R s m args below meth c H locs cells slots Q (F0 m (pc + 1) ls (.int x :: rest))) : W p l e R s m args below meth c H locs cells slots Q (F0 m pc ls (.int i :: .ref (ad 19) :: rest)) := by
  subst hv
  exact va_iald hcf.1 hcf.2.1 hK hw.1 19 0 rfl rfl hi hdg kk
theorem kast_A9 (hcf : CallFix p m c cc nL s args kws own) (hK : va_K D vwCl (tK cs) s) {i v : Int32} (hdg : decode cc pc = .ok (.iastore, 1)) (hi : ¬ (i < 0 ∨ 5 ≤ i.toNatClampNeg)) (hw : k_H D (wK cs ad) (k_A 41 ad) σ H0 H locs) (kk : ∀ (H1 : Heap) (locs1 : List Loc), k_H D (wK cs ad) (k_A 41 ad) (p_a σ 9 i.toNatClampNeg v) H0 H1 locs1 → W p l e R s m args below meth c H1 locs1 cells slots Q (F0 m (pc + 1) ls rest)) : W p l e R s m args below meth c H locs cells slots Q (F0 m pc ls (.int v :: .int i :: .ref (ad 19) :: rest)) := by
  exact va_iast hcf.1 hcf.2.1 hK hw.1 (wK_D hw.2.1) hw.2.2 19 0 rfl rfl hi hdg (fun H1 locs1 hP hD hS => kk H1 locs1 ⟨hP, hD.weaken (fun _ _ _ _ => trivial), hS⟩)
theorem kald_A10 (hcf : CallFix p m c cc nL s args kws own) (hK : va_K D vwCl (tK cs) s) {i x : Int32} (hdg : decode cc pc = .ok (.iaload, 1)) (hi : ¬ (i < 0 ∨ 5 ≤ i.toNatClampNeg)) (hw : k_H D (wK cs ad) A σ H0 H locs) (hv : σ.2.1 10 i.toNatClampNeg = x) (kk : W p l e R s m args below meth c H locs cells slots Q (F0 m (pc + 1) ls (.int x :: rest))) : W p l e R s m args below meth c H locs cells slots Q (F0 m pc ls (.int i :: .ref (ad 20) :: rest)) := by
  subst hv
  exact va_iald hcf.1 hcf.2.1 hK hw.1 20 0 rfl rfl hi hdg kk
theorem kast_A10 (hcf : CallFix p m c cc nL s args kws own) (hK : va_K D vwCl (tK cs) s) {i v : Int32} (hdg : decode cc pc = .ok (.iastore, 1)) (hi : ¬ (i < 0 ∨ 5 ≤ i.toNatClampNeg)) (hw : k_H D (wK cs ad) (k_A 41 ad) σ H0 H locs) (kk : ∀ (H1 : Heap) (locs1 : List Loc), k_H D (wK cs ad) (k_A 41 ad) (p_a σ 10 i.toNatClampNeg v) H0 H1 locs1 → W p l e R s m args below meth c H1 locs1 cells slots Q (F0 m (pc + 1) ls rest)) : W p l e R s m args below meth c H locs cells slots Q (F0 m pc ls (.int v :: .int i :: .ref (ad 20) :: rest)) := by
  exact va_iast hcf.1 hcf.2.1 hK hw.1 (wK_D hw.2.1) hw.2.2 20 0 rfl rfl hi hdg (fun H1 locs1 hP hD hS => kk H1 locs1 ⟨hP, hD.weaken (fun _ _ _ _ => trivial), hS⟩)
theorem kald_A11 (hcf : CallFix p m c cc nL s args kws own) (hK : va_K D vwCl (tK cs) s) {i x : Int32} (hdg : decode cc pc = .ok (.iaload, 1)) (hi : ¬ (i < 0 ∨ 5 ≤ i.toNatClampNeg)) (hw : k_H D (wK cs ad) A σ H0 H locs) (hv : σ.2.1 11 i.toNatClampNeg = x) (kk : W p l e R s m args below meth c H locs cells slots Q (F0 m (pc + 1) ls (.int x :: rest))) : W p l e R s m args below meth c H locs cells slots Q (F0 m pc ls (.int i :: .ref (ad 21) :: rest)) := by
  subst hv
  exact va_iald hcf.1 hcf.2.1 hK hw.1 21 0 rfl rfl hi hdg kk
theorem kast_A11 (hcf : CallFix p m c cc nL s args kws own) (hK : va_K D vwCl (tK cs) s) {i v : Int32} (hdg : decode cc pc = .ok (.iastore, 1)) (hi : ¬ (i < 0 ∨ 5 ≤ i.toNatClampNeg)) (hw : k_H D (wK cs ad) (k_A 41 ad) σ H0 H locs) (kk : ∀ (H1 : Heap) (locs1 : List Loc), k_H D (wK cs ad) (k_A 41 ad) (p_a σ 11 i.toNatClampNeg v) H0 H1 locs1 → W p l e R s m args below meth c H1 locs1 cells slots Q (F0 m (pc + 1) ls rest)) : W p l e R s m args below meth c H locs cells slots Q (F0 m pc ls (.int v :: .int i :: .ref (ad 21) :: rest)) := by
  exact va_iast hcf.1 hcf.2.1 hK hw.1 (wK_D hw.2.1) hw.2.2 21 0 rfl rfl hi hdg (fun H1 locs1 hP hD hS => kk H1 locs1 ⟨hP, hD.weaken (fun _ _ _ _ => trivial), hS⟩)
theorem kald_A12 (hcf : CallFix p m c cc nL s args kws own) (hK : va_K D vwCl (tK cs) s) {i x : Int32} (hdg : decode cc pc = .ok (.iaload, 1)) (hi : ¬ (i < 0 ∨ 5 ≤ i.toNatClampNeg)) (hw : k_H D (wK cs ad) A σ H0 H locs) (hv : σ.2.1 12 i.toNatClampNeg = x) (kk : W p l e R s m args below meth c H locs cells slots Q (F0 m (pc + 1) ls (.int x :: rest))) : W p l e R s m args below meth c H locs cells slots Q (F0 m pc ls (.int i :: .ref (ad 22) :: rest)) := by
  subst hv
  exact va_iald hcf.1 hcf.2.1 hK hw.1 22 0 rfl rfl hi hdg kk
theorem kast_A12 (hcf : CallFix p m c cc nL s args kws own) (hK : va_K D vwCl (tK cs) s) {i v : Int32} (hdg : decode cc pc = .ok (.iastore, 1)) (hi : ¬ (i < 0 ∨ 5 ≤ i.toNatClampNeg)) (hw : k_H D (wK cs ad) (k_A 41 ad) σ H0 H locs) (kk : ∀ (H1 : Heap) (locs1 : List Loc), k_H D (wK cs ad) (k_A 41 ad) (p_a σ 12 i.toNatClampNeg v) H0 H1 locs1 → W p l e R s m args below meth c H1 locs1 cells slots Q (F0 m (pc + 1) ls rest)) : W p l e R s m args below meth c H locs cells slots Q (F0 m pc ls (.int v :: .int i :: .ref (ad 22) :: rest)) := by
  exact va_iast hcf.1 hcf.2.1 hK hw.1 (wK_D hw.2.1) hw.2.2 22 0 rfl rfl hi hdg (fun H1 locs1 hP hD hS => kk H1 locs1 ⟨hP, hD.weaken (fun _ _ _ _ => trivial), hS⟩)
theorem kald_A13 (hcf : CallFix p m c cc nL s args kws own) (hK : va_K D vwCl (tK cs) s) {i x : Int32} (hdg : decode cc pc = .ok (.iaload, 1)) (hi : ¬ (i < 0 ∨ 5 ≤ i.toNatClampNeg)) (hw : k_H D (wK cs ad) A σ H0 H locs) (hv : σ.2.1 13 i.toNatClampNeg = x) (kk : W p l e R s m args below meth c H locs cells slots Q (F0 m (pc + 1) ls (.int x :: rest))) : W p l e R s m args below meth c H locs cells slots Q (F0 m pc ls (.int i :: .ref (ad 23) :: rest)) := by
  subst hv
  exact va_iald hcf.1 hcf.2.1 hK hw.1 23 0 rfl rfl hi hdg kk
theorem kast_A13 (hcf : CallFix p m c cc nL s args kws own) (hK : va_K D vwCl (tK cs) s) {i v : Int32} (hdg : decode cc pc = .ok (.iastore, 1)) (hi : ¬ (i < 0 ∨ 5 ≤ i.toNatClampNeg)) (hw : k_H D (wK cs ad) (k_A 41 ad) σ H0 H locs) (kk : ∀ (H1 : Heap) (locs1 : List Loc), k_H D (wK cs ad) (k_A 41 ad) (p_a σ 13 i.toNatClampNeg v) H0 H1 locs1 → W p l e R s m args below meth c H1 locs1 cells slots Q (F0 m (pc + 1) ls rest)) : W p l e R s m args below meth c H locs cells slots Q (F0 m pc ls (.int v :: .int i :: .ref (ad 23) :: rest)) := by
  exact va_iast hcf.1 hcf.2.1 hK hw.1 (wK_D hw.2.1) hw.2.2 23 0 rfl rfl hi hdg (fun H1 locs1 hP hD hS => kk H1 locs1 ⟨hP, hD.weaken (fun _ _ _ _ => trivial), hS⟩)
theorem kald_A14 (hcf : CallFix p m c cc nL s args kws own) (hK : va_K D vwCl (tK cs) s) {i x : Int32} (hdg : decode cc pc = .ok (.iaload, 1)) (hi : ¬ (i < 0 ∨ 5 ≤ i.toNatClampNeg)) (hw : k_H D (wK cs ad) A σ H0 H locs) (hv : σ.2.1 14 i.toNatClampNeg = x) (kk : W p l e R s m args below meth c H locs cells slots Q (F0 m (pc + 1) ls (.int x :: rest))) : W p l e R s m args below meth c H locs cells slots Q (F0 m pc ls (.int i :: .ref (ad 24) :: rest)) := by
  subst hv
  exact va_iald hcf.1 hcf.2.1 hK hw.1 24 0 rfl rfl hi hdg kk
theorem kast_A14 (hcf : CallFix p m c cc nL s args kws own) (hK : va_K D vwCl (tK cs) s) {i v : Int32} (hdg : decode cc pc = .ok (.iastore, 1)) (hi : ¬ (i < 0 ∨ 5 ≤ i.toNatClampNeg)) (hw : k_H D (wK cs ad) (k_A 41 ad) σ H0 H locs) (kk : ∀ (H1 : Heap) (locs1 : List Loc), k_H D (wK cs ad) (k_A 41 ad) (p_a σ 14 i.toNatClampNeg v) H0 H1 locs1 → W p l e R s m args below meth c H1 locs1 cells slots Q (F0 m (pc + 1) ls rest)) : W p l e R s m args below meth c H locs cells slots Q (F0 m pc ls (.int v :: .int i :: .ref (ad 24) :: rest)) := by
  exact va_iast hcf.1 hcf.2.1 hK hw.1 (wK_D hw.2.1) hw.2.2 24 0 rfl rfl hi hdg (fun H1 locs1 hP hD hS => kk H1 locs1 ⟨hP, hD.weaken (fun _ _ _ _ => trivial), hS⟩)
theorem kald_B0 (hcf : CallFix p m c cc nL s args kws own) (hK : va_K D vwCl (tK cs) s) {i : Int32} {x : Int64} (hdg : decode cc pc = .ok (.laload, 1)) (hi : ¬ (i < 0 ∨ 5 ≤ i.toNatClampNeg)) (hw : k_H D (wK cs ad) A σ H0 H locs) (hv : σ.2.2.2 0 i.toNatClampNeg = x) (kk : W p l e R s m args below meth c H locs cells slots Q (F0 m (pc + 1) ls (.long x :: rest))) : W p l e R s m args below meth c H locs cells slots Q (F0 m pc ls (.int i :: .ref (ad 25) :: rest)) := by
  subst hv
  exact va_lald hcf.1 hcf.2.1 hK hw.1 25 3 rfl rfl hi hdg kk
theorem kast_B0 (hcf : CallFix p m c cc nL s args kws own) (hK : va_K D vwCl (tK cs) s) {i : Int32} {v : Int64} (hdg : decode cc pc = .ok (.lastore, 1)) (hi : ¬ (i < 0 ∨ 5 ≤ i.toNatClampNeg)) (hw : k_H D (wK cs ad) (k_A 41 ad) σ H0 H locs) (kk : ∀ (H1 : Heap) (locs1 : List Loc), k_H D (wK cs ad) (k_A 41 ad) (p_b σ 0 i.toNatClampNeg v) H0 H1 locs1 → W p l e R s m args below meth c H1 locs1 cells slots Q (F0 m (pc + 1) ls rest)) : W p l e R s m args below meth c H locs cells slots Q (F0 m pc ls (.long v :: .int i :: .ref (ad 25) :: rest)) := by
  exact va_last hcf.1 hcf.2.1 hK hw.1 (wK_D hw.2.1) hw.2.2 25 3 rfl rfl hi hdg (fun H1 locs1 hP hD hS => kk H1 locs1 ⟨hP, hD.weaken (fun _ _ _ _ => trivial), hS⟩)
theorem kald_B1 (hcf : CallFix p m c cc nL s args kws own) (hK : va_K D vwCl (tK cs) s) {i : Int32} {x : Int64} (hdg : decode cc pc = .ok (.laload, 1)) (hi : ¬ (i < 0 ∨ 5 ≤ i.toNatClampNeg)) (hw : k_H D (wK cs ad) A σ H0 H locs) (hv : σ.2.2.2 1 i.toNatClampNeg = x) (kk : W p l e R s m args below meth c H locs cells slots Q (F0 m (pc + 1) ls (.long x :: rest))) : W p l e R s m args below meth c H locs cells slots Q (F0 m pc ls (.int i :: .ref (ad 26) :: rest)) := by
  subst hv
  exact va_lald hcf.1 hcf.2.1 hK hw.1 26 3 rfl rfl hi hdg kk
theorem kast_B1 (hcf : CallFix p m c cc nL s args kws own) (hK : va_K D vwCl (tK cs) s) {i : Int32} {v : Int64} (hdg : decode cc pc = .ok (.lastore, 1)) (hi : ¬ (i < 0 ∨ 5 ≤ i.toNatClampNeg)) (hw : k_H D (wK cs ad) (k_A 41 ad) σ H0 H locs) (kk : ∀ (H1 : Heap) (locs1 : List Loc), k_H D (wK cs ad) (k_A 41 ad) (p_b σ 1 i.toNatClampNeg v) H0 H1 locs1 → W p l e R s m args below meth c H1 locs1 cells slots Q (F0 m (pc + 1) ls rest)) : W p l e R s m args below meth c H locs cells slots Q (F0 m pc ls (.long v :: .int i :: .ref (ad 26) :: rest)) := by
  exact va_last hcf.1 hcf.2.1 hK hw.1 (wK_D hw.2.1) hw.2.2 26 3 rfl rfl hi hdg (fun H1 locs1 hP hD hS => kk H1 locs1 ⟨hP, hD.weaken (fun _ _ _ _ => trivial), hS⟩)
theorem kald_B2 (hcf : CallFix p m c cc nL s args kws own) (hK : va_K D vwCl (tK cs) s) {i : Int32} {x : Int64} (hdg : decode cc pc = .ok (.laload, 1)) (hi : ¬ (i < 0 ∨ 5 ≤ i.toNatClampNeg)) (hw : k_H D (wK cs ad) A σ H0 H locs) (hv : σ.2.2.2 2 i.toNatClampNeg = x) (kk : W p l e R s m args below meth c H locs cells slots Q (F0 m (pc + 1) ls (.long x :: rest))) : W p l e R s m args below meth c H locs cells slots Q (F0 m pc ls (.int i :: .ref (ad 27) :: rest)) := by
  subst hv
  exact va_lald hcf.1 hcf.2.1 hK hw.1 27 3 rfl rfl hi hdg kk
theorem kast_B2 (hcf : CallFix p m c cc nL s args kws own) (hK : va_K D vwCl (tK cs) s) {i : Int32} {v : Int64} (hdg : decode cc pc = .ok (.lastore, 1)) (hi : ¬ (i < 0 ∨ 5 ≤ i.toNatClampNeg)) (hw : k_H D (wK cs ad) (k_A 41 ad) σ H0 H locs) (kk : ∀ (H1 : Heap) (locs1 : List Loc), k_H D (wK cs ad) (k_A 41 ad) (p_b σ 2 i.toNatClampNeg v) H0 H1 locs1 → W p l e R s m args below meth c H1 locs1 cells slots Q (F0 m (pc + 1) ls rest)) : W p l e R s m args below meth c H locs cells slots Q (F0 m pc ls (.long v :: .int i :: .ref (ad 27) :: rest)) := by
  exact va_last hcf.1 hcf.2.1 hK hw.1 (wK_D hw.2.1) hw.2.2 27 3 rfl rfl hi hdg (fun H1 locs1 hP hD hS => kk H1 locs1 ⟨hP, hD.weaken (fun _ _ _ _ => trivial), hS⟩)
theorem kald_B3 (hcf : CallFix p m c cc nL s args kws own) (hK : va_K D vwCl (tK cs) s) {i : Int32} {x : Int64} (hdg : decode cc pc = .ok (.laload, 1)) (hi : ¬ (i < 0 ∨ 5 ≤ i.toNatClampNeg)) (hw : k_H D (wK cs ad) A σ H0 H locs) (hv : σ.2.2.2 3 i.toNatClampNeg = x) (kk : W p l e R s m args below meth c H locs cells slots Q (F0 m (pc + 1) ls (.long x :: rest))) : W p l e R s m args below meth c H locs cells slots Q (F0 m pc ls (.int i :: .ref (ad 28) :: rest)) := by
  subst hv
  exact va_lald hcf.1 hcf.2.1 hK hw.1 28 3 rfl rfl hi hdg kk
theorem kast_B3 (hcf : CallFix p m c cc nL s args kws own) (hK : va_K D vwCl (tK cs) s) {i : Int32} {v : Int64} (hdg : decode cc pc = .ok (.lastore, 1)) (hi : ¬ (i < 0 ∨ 5 ≤ i.toNatClampNeg)) (hw : k_H D (wK cs ad) (k_A 41 ad) σ H0 H locs) (kk : ∀ (H1 : Heap) (locs1 : List Loc), k_H D (wK cs ad) (k_A 41 ad) (p_b σ 3 i.toNatClampNeg v) H0 H1 locs1 → W p l e R s m args below meth c H1 locs1 cells slots Q (F0 m (pc + 1) ls rest)) : W p l e R s m args below meth c H locs cells slots Q (F0 m pc ls (.long v :: .int i :: .ref (ad 28) :: rest)) := by
  exact va_last hcf.1 hcf.2.1 hK hw.1 (wK_D hw.2.1) hw.2.2 28 3 rfl rfl hi hdg (fun H1 locs1 hP hD hS => kk H1 locs1 ⟨hP, hD.weaken (fun _ _ _ _ => trivial), hS⟩)
theorem kald_B4 (hcf : CallFix p m c cc nL s args kws own) (hK : va_K D vwCl (tK cs) s) {i : Int32} {x : Int64} (hdg : decode cc pc = .ok (.laload, 1)) (hi : ¬ (i < 0 ∨ 5 ≤ i.toNatClampNeg)) (hw : k_H D (wK cs ad) A σ H0 H locs) (hv : σ.2.2.2 4 i.toNatClampNeg = x) (kk : W p l e R s m args below meth c H locs cells slots Q (F0 m (pc + 1) ls (.long x :: rest))) : W p l e R s m args below meth c H locs cells slots Q (F0 m pc ls (.int i :: .ref (ad 29) :: rest)) := by
  subst hv
  exact va_lald hcf.1 hcf.2.1 hK hw.1 29 3 rfl rfl hi hdg kk
theorem kast_B4 (hcf : CallFix p m c cc nL s args kws own) (hK : va_K D vwCl (tK cs) s) {i : Int32} {v : Int64} (hdg : decode cc pc = .ok (.lastore, 1)) (hi : ¬ (i < 0 ∨ 5 ≤ i.toNatClampNeg)) (hw : k_H D (wK cs ad) (k_A 41 ad) σ H0 H locs) (kk : ∀ (H1 : Heap) (locs1 : List Loc), k_H D (wK cs ad) (k_A 41 ad) (p_b σ 4 i.toNatClampNeg v) H0 H1 locs1 → W p l e R s m args below meth c H1 locs1 cells slots Q (F0 m (pc + 1) ls rest)) : W p l e R s m args below meth c H locs cells slots Q (F0 m pc ls (.long v :: .int i :: .ref (ad 29) :: rest)) := by
  exact va_last hcf.1 hcf.2.1 hK hw.1 (wK_D hw.2.1) hw.2.2 29 3 rfl rfl hi hdg (fun H1 locs1 hP hD hS => kk H1 locs1 ⟨hP, hD.weaken (fun _ _ _ _ => trivial), hS⟩)
theorem kald_B5 (hcf : CallFix p m c cc nL s args kws own) (hK : va_K D vwCl (tK cs) s) {i : Int32} {x : Int64} (hdg : decode cc pc = .ok (.laload, 1)) (hi : ¬ (i < 0 ∨ 6 ≤ i.toNatClampNeg)) (hw : k_H D (wK cs ad) A σ H0 H locs) (hv : σ.2.2.2 5 i.toNatClampNeg = x) (kk : W p l e R s m args below meth c H locs cells slots Q (F0 m (pc + 1) ls (.long x :: rest))) : W p l e R s m args below meth c H locs cells slots Q (F0 m pc ls (.int i :: .ref (ad 30) :: rest)) := by
  subst hv
  exact va_lald hcf.1 hcf.2.1 hK hw.1 30 3 rfl rfl hi hdg kk
theorem kast_B5 (hcf : CallFix p m c cc nL s args kws own) (hK : va_K D vwCl (tK cs) s) {i : Int32} {v : Int64} (hdg : decode cc pc = .ok (.lastore, 1)) (hi : ¬ (i < 0 ∨ 6 ≤ i.toNatClampNeg)) (hw : k_H D (wK cs ad) (k_A 41 ad) σ H0 H locs) (kk : ∀ (H1 : Heap) (locs1 : List Loc), k_H D (wK cs ad) (k_A 41 ad) (p_b σ 5 i.toNatClampNeg v) H0 H1 locs1 → W p l e R s m args below meth c H1 locs1 cells slots Q (F0 m (pc + 1) ls rest)) : W p l e R s m args below meth c H locs cells slots Q (F0 m pc ls (.long v :: .int i :: .ref (ad 30) :: rest)) := by
  exact va_last hcf.1 hcf.2.1 hK hw.1 (wK_D hw.2.1) hw.2.2 30 3 rfl rfl hi hdg (fun H1 locs1 hP hD hS => kk H1 locs1 ⟨hP, hD.weaken (fun _ _ _ _ => trivial), hS⟩)
theorem kald_B6 (hcf : CallFix p m c cc nL s args kws own) (hK : va_K D vwCl (tK cs) s) {i : Int32} {x : Int64} (hdg : decode cc pc = .ok (.laload, 1)) (hi : ¬ (i < 0 ∨ 6 ≤ i.toNatClampNeg)) (hw : k_H D (wK cs ad) A σ H0 H locs) (hv : σ.2.2.2 6 i.toNatClampNeg = x) (kk : W p l e R s m args below meth c H locs cells slots Q (F0 m (pc + 1) ls (.long x :: rest))) : W p l e R s m args below meth c H locs cells slots Q (F0 m pc ls (.int i :: .ref (ad 31) :: rest)) := by
  subst hv
  exact va_lald hcf.1 hcf.2.1 hK hw.1 31 3 rfl rfl hi hdg kk
theorem kast_B6 (hcf : CallFix p m c cc nL s args kws own) (hK : va_K D vwCl (tK cs) s) {i : Int32} {v : Int64} (hdg : decode cc pc = .ok (.lastore, 1)) (hi : ¬ (i < 0 ∨ 6 ≤ i.toNatClampNeg)) (hw : k_H D (wK cs ad) (k_A 41 ad) σ H0 H locs) (kk : ∀ (H1 : Heap) (locs1 : List Loc), k_H D (wK cs ad) (k_A 41 ad) (p_b σ 6 i.toNatClampNeg v) H0 H1 locs1 → W p l e R s m args below meth c H1 locs1 cells slots Q (F0 m (pc + 1) ls rest)) : W p l e R s m args below meth c H locs cells slots Q (F0 m pc ls (.long v :: .int i :: .ref (ad 31) :: rest)) := by
  exact va_last hcf.1 hcf.2.1 hK hw.1 (wK_D hw.2.1) hw.2.2 31 3 rfl rfl hi hdg (fun H1 locs1 hP hD hS => kk H1 locs1 ⟨hP, hD.weaken (fun _ _ _ _ => trivial), hS⟩)
theorem kald_B7 (hcf : CallFix p m c cc nL s args kws own) (hK : va_K D vwCl (tK cs) s) {i : Int32} {x : Int64} (hdg : decode cc pc = .ok (.laload, 1)) (hi : ¬ (i < 0 ∨ 6 ≤ i.toNatClampNeg)) (hw : k_H D (wK cs ad) A σ H0 H locs) (hv : σ.2.2.2 7 i.toNatClampNeg = x) (kk : W p l e R s m args below meth c H locs cells slots Q (F0 m (pc + 1) ls (.long x :: rest))) : W p l e R s m args below meth c H locs cells slots Q (F0 m pc ls (.int i :: .ref (ad 32) :: rest)) := by
  subst hv
  exact va_lald hcf.1 hcf.2.1 hK hw.1 32 3 rfl rfl hi hdg kk
theorem kast_B7 (hcf : CallFix p m c cc nL s args kws own) (hK : va_K D vwCl (tK cs) s) {i : Int32} {v : Int64} (hdg : decode cc pc = .ok (.lastore, 1)) (hi : ¬ (i < 0 ∨ 6 ≤ i.toNatClampNeg)) (hw : k_H D (wK cs ad) (k_A 41 ad) σ H0 H locs) (kk : ∀ (H1 : Heap) (locs1 : List Loc), k_H D (wK cs ad) (k_A 41 ad) (p_b σ 7 i.toNatClampNeg v) H0 H1 locs1 → W p l e R s m args below meth c H1 locs1 cells slots Q (F0 m (pc + 1) ls rest)) : W p l e R s m args below meth c H locs cells slots Q (F0 m pc ls (.long v :: .int i :: .ref (ad 32) :: rest)) := by
  exact va_last hcf.1 hcf.2.1 hK hw.1 (wK_D hw.2.1) hw.2.2 32 3 rfl rfl hi hdg (fun H1 locs1 hP hD hS => kk H1 locs1 ⟨hP, hD.weaken (fun _ _ _ _ => trivial), hS⟩)
theorem kald_B8 (hcf : CallFix p m c cc nL s args kws own) (hK : va_K D vwCl (tK cs) s) {i : Int32} {x : Int64} (hdg : decode cc pc = .ok (.laload, 1)) (hi : ¬ (i < 0 ∨ 6 ≤ i.toNatClampNeg)) (hw : k_H D (wK cs ad) A σ H0 H locs) (hv : σ.2.2.2 8 i.toNatClampNeg = x) (kk : W p l e R s m args below meth c H locs cells slots Q (F0 m (pc + 1) ls (.long x :: rest))) : W p l e R s m args below meth c H locs cells slots Q (F0 m pc ls (.int i :: .ref (ad 33) :: rest)) := by
  subst hv
  exact va_lald hcf.1 hcf.2.1 hK hw.1 33 3 rfl rfl hi hdg kk
theorem kast_B8 (hcf : CallFix p m c cc nL s args kws own) (hK : va_K D vwCl (tK cs) s) {i : Int32} {v : Int64} (hdg : decode cc pc = .ok (.lastore, 1)) (hi : ¬ (i < 0 ∨ 6 ≤ i.toNatClampNeg)) (hw : k_H D (wK cs ad) (k_A 41 ad) σ H0 H locs) (kk : ∀ (H1 : Heap) (locs1 : List Loc), k_H D (wK cs ad) (k_A 41 ad) (p_b σ 8 i.toNatClampNeg v) H0 H1 locs1 → W p l e R s m args below meth c H1 locs1 cells slots Q (F0 m (pc + 1) ls rest)) : W p l e R s m args below meth c H locs cells slots Q (F0 m pc ls (.long v :: .int i :: .ref (ad 33) :: rest)) := by
  exact va_last hcf.1 hcf.2.1 hK hw.1 (wK_D hw.2.1) hw.2.2 33 3 rfl rfl hi hdg (fun H1 locs1 hP hD hS => kk H1 locs1 ⟨hP, hD.weaken (fun _ _ _ _ => trivial), hS⟩)
theorem kald_B9 (hcf : CallFix p m c cc nL s args kws own) (hK : va_K D vwCl (tK cs) s) {i : Int32} {x : Int64} (hdg : decode cc pc = .ok (.laload, 1)) (hi : ¬ (i < 0 ∨ 6 ≤ i.toNatClampNeg)) (hw : k_H D (wK cs ad) A σ H0 H locs) (hv : σ.2.2.2 9 i.toNatClampNeg = x) (kk : W p l e R s m args below meth c H locs cells slots Q (F0 m (pc + 1) ls (.long x :: rest))) : W p l e R s m args below meth c H locs cells slots Q (F0 m pc ls (.int i :: .ref (ad 34) :: rest)) := by
  subst hv
  exact va_lald hcf.1 hcf.2.1 hK hw.1 34 3 rfl rfl hi hdg kk
theorem kast_B9 (hcf : CallFix p m c cc nL s args kws own) (hK : va_K D vwCl (tK cs) s) {i : Int32} {v : Int64} (hdg : decode cc pc = .ok (.lastore, 1)) (hi : ¬ (i < 0 ∨ 6 ≤ i.toNatClampNeg)) (hw : k_H D (wK cs ad) (k_A 41 ad) σ H0 H locs) (kk : ∀ (H1 : Heap) (locs1 : List Loc), k_H D (wK cs ad) (k_A 41 ad) (p_b σ 9 i.toNatClampNeg v) H0 H1 locs1 → W p l e R s m args below meth c H1 locs1 cells slots Q (F0 m (pc + 1) ls rest)) : W p l e R s m args below meth c H locs cells slots Q (F0 m pc ls (.long v :: .int i :: .ref (ad 34) :: rest)) := by
  exact va_last hcf.1 hcf.2.1 hK hw.1 (wK_D hw.2.1) hw.2.2 34 3 rfl rfl hi hdg (fun H1 locs1 hP hD hS => kk H1 locs1 ⟨hP, hD.weaken (fun _ _ _ _ => trivial), hS⟩)
theorem kald_B10 (hcf : CallFix p m c cc nL s args kws own) (hK : va_K D vwCl (tK cs) s) {i : Int32} {x : Int64} (hdg : decode cc pc = .ok (.laload, 1)) (hi : ¬ (i < 0 ∨ 6 ≤ i.toNatClampNeg)) (hw : k_H D (wK cs ad) A σ H0 H locs) (hv : σ.2.2.2 10 i.toNatClampNeg = x) (kk : W p l e R s m args below meth c H locs cells slots Q (F0 m (pc + 1) ls (.long x :: rest))) : W p l e R s m args below meth c H locs cells slots Q (F0 m pc ls (.int i :: .ref (ad 35) :: rest)) := by
  subst hv
  exact va_lald hcf.1 hcf.2.1 hK hw.1 35 3 rfl rfl hi hdg kk
theorem kast_B10 (hcf : CallFix p m c cc nL s args kws own) (hK : va_K D vwCl (tK cs) s) {i : Int32} {v : Int64} (hdg : decode cc pc = .ok (.lastore, 1)) (hi : ¬ (i < 0 ∨ 6 ≤ i.toNatClampNeg)) (hw : k_H D (wK cs ad) (k_A 41 ad) σ H0 H locs) (kk : ∀ (H1 : Heap) (locs1 : List Loc), k_H D (wK cs ad) (k_A 41 ad) (p_b σ 10 i.toNatClampNeg v) H0 H1 locs1 → W p l e R s m args below meth c H1 locs1 cells slots Q (F0 m (pc + 1) ls rest)) : W p l e R s m args below meth c H locs cells slots Q (F0 m pc ls (.long v :: .int i :: .ref (ad 35) :: rest)) := by
  exact va_last hcf.1 hcf.2.1 hK hw.1 (wK_D hw.2.1) hw.2.2 35 3 rfl rfl hi hdg (fun H1 locs1 hP hD hS => kk H1 locs1 ⟨hP, hD.weaken (fun _ _ _ _ => trivial), hS⟩)
theorem kald_B11 (hcf : CallFix p m c cc nL s args kws own) (hK : va_K D vwCl (tK cs) s) {i : Int32} {x : Int64} (hdg : decode cc pc = .ok (.laload, 1)) (hi : ¬ (i < 0 ∨ 6 ≤ i.toNatClampNeg)) (hw : k_H D (wK cs ad) A σ H0 H locs) (hv : σ.2.2.2 11 i.toNatClampNeg = x) (kk : W p l e R s m args below meth c H locs cells slots Q (F0 m (pc + 1) ls (.long x :: rest))) : W p l e R s m args below meth c H locs cells slots Q (F0 m pc ls (.int i :: .ref (ad 36) :: rest)) := by
  subst hv
  exact va_lald hcf.1 hcf.2.1 hK hw.1 36 3 rfl rfl hi hdg kk
theorem kast_B11 (hcf : CallFix p m c cc nL s args kws own) (hK : va_K D vwCl (tK cs) s) {i : Int32} {v : Int64} (hdg : decode cc pc = .ok (.lastore, 1)) (hi : ¬ (i < 0 ∨ 6 ≤ i.toNatClampNeg)) (hw : k_H D (wK cs ad) (k_A 41 ad) σ H0 H locs) (kk : ∀ (H1 : Heap) (locs1 : List Loc), k_H D (wK cs ad) (k_A 41 ad) (p_b σ 11 i.toNatClampNeg v) H0 H1 locs1 → W p l e R s m args below meth c H1 locs1 cells slots Q (F0 m (pc + 1) ls rest)) : W p l e R s m args below meth c H locs cells slots Q (F0 m pc ls (.long v :: .int i :: .ref (ad 36) :: rest)) := by
  exact va_last hcf.1 hcf.2.1 hK hw.1 (wK_D hw.2.1) hw.2.2 36 3 rfl rfl hi hdg (fun H1 locs1 hP hD hS => kk H1 locs1 ⟨hP, hD.weaken (fun _ _ _ _ => trivial), hS⟩)
theorem kald_B12 (hcf : CallFix p m c cc nL s args kws own) (hK : va_K D vwCl (tK cs) s) {i : Int32} {x : Int64} (hdg : decode cc pc = .ok (.laload, 1)) (hi : ¬ (i < 0 ∨ 6 ≤ i.toNatClampNeg)) (hw : k_H D (wK cs ad) A σ H0 H locs) (hv : σ.2.2.2 12 i.toNatClampNeg = x) (kk : W p l e R s m args below meth c H locs cells slots Q (F0 m (pc + 1) ls (.long x :: rest))) : W p l e R s m args below meth c H locs cells slots Q (F0 m pc ls (.int i :: .ref (ad 37) :: rest)) := by
  subst hv
  exact va_lald hcf.1 hcf.2.1 hK hw.1 37 3 rfl rfl hi hdg kk
theorem kast_B12 (hcf : CallFix p m c cc nL s args kws own) (hK : va_K D vwCl (tK cs) s) {i : Int32} {v : Int64} (hdg : decode cc pc = .ok (.lastore, 1)) (hi : ¬ (i < 0 ∨ 6 ≤ i.toNatClampNeg)) (hw : k_H D (wK cs ad) (k_A 41 ad) σ H0 H locs) (kk : ∀ (H1 : Heap) (locs1 : List Loc), k_H D (wK cs ad) (k_A 41 ad) (p_b σ 12 i.toNatClampNeg v) H0 H1 locs1 → W p l e R s m args below meth c H1 locs1 cells slots Q (F0 m (pc + 1) ls rest)) : W p l e R s m args below meth c H locs cells slots Q (F0 m pc ls (.long v :: .int i :: .ref (ad 37) :: rest)) := by
  exact va_last hcf.1 hcf.2.1 hK hw.1 (wK_D hw.2.1) hw.2.2 37 3 rfl rfl hi hdg (fun H1 locs1 hP hD hS => kk H1 locs1 ⟨hP, hD.weaken (fun _ _ _ _ => trivial), hS⟩)
theorem kald_B13 (hcf : CallFix p m c cc nL s args kws own) (hK : va_K D vwCl (tK cs) s) {i : Int32} {x : Int64} (hdg : decode cc pc = .ok (.laload, 1)) (hi : ¬ (i < 0 ∨ 6 ≤ i.toNatClampNeg)) (hw : k_H D (wK cs ad) A σ H0 H locs) (hv : σ.2.2.2 13 i.toNatClampNeg = x) (kk : W p l e R s m args below meth c H locs cells slots Q (F0 m (pc + 1) ls (.long x :: rest))) : W p l e R s m args below meth c H locs cells slots Q (F0 m pc ls (.int i :: .ref (ad 38) :: rest)) := by
  subst hv
  exact va_lald hcf.1 hcf.2.1 hK hw.1 38 3 rfl rfl hi hdg kk
theorem kast_B13 (hcf : CallFix p m c cc nL s args kws own) (hK : va_K D vwCl (tK cs) s) {i : Int32} {v : Int64} (hdg : decode cc pc = .ok (.lastore, 1)) (hi : ¬ (i < 0 ∨ 6 ≤ i.toNatClampNeg)) (hw : k_H D (wK cs ad) (k_A 41 ad) σ H0 H locs) (kk : ∀ (H1 : Heap) (locs1 : List Loc), k_H D (wK cs ad) (k_A 41 ad) (p_b σ 13 i.toNatClampNeg v) H0 H1 locs1 → W p l e R s m args below meth c H1 locs1 cells slots Q (F0 m (pc + 1) ls rest)) : W p l e R s m args below meth c H locs cells slots Q (F0 m pc ls (.long v :: .int i :: .ref (ad 38) :: rest)) := by
  exact va_last hcf.1 hcf.2.1 hK hw.1 (wK_D hw.2.1) hw.2.2 38 3 rfl rfl hi hdg (fun H1 locs1 hP hD hS => kk H1 locs1 ⟨hP, hD.weaken (fun _ _ _ _ => trivial), hS⟩)
theorem kald_B14 (hcf : CallFix p m c cc nL s args kws own) (hK : va_K D vwCl (tK cs) s) {i : Int32} {x : Int64} (hdg : decode cc pc = .ok (.laload, 1)) (hi : ¬ (i < 0 ∨ 6 ≤ i.toNatClampNeg)) (hw : k_H D (wK cs ad) A σ H0 H locs) (hv : σ.2.2.2 14 i.toNatClampNeg = x) (kk : W p l e R s m args below meth c H locs cells slots Q (F0 m (pc + 1) ls (.long x :: rest))) : W p l e R s m args below meth c H locs cells slots Q (F0 m pc ls (.int i :: .ref (ad 39) :: rest)) := by
  subst hv
  exact va_lald hcf.1 hcf.2.1 hK hw.1 39 3 rfl rfl hi hdg kk
theorem kast_B14 (hcf : CallFix p m c cc nL s args kws own) (hK : va_K D vwCl (tK cs) s) {i : Int32} {v : Int64} (hdg : decode cc pc = .ok (.lastore, 1)) (hi : ¬ (i < 0 ∨ 6 ≤ i.toNatClampNeg)) (hw : k_H D (wK cs ad) (k_A 41 ad) σ H0 H locs) (kk : ∀ (H1 : Heap) (locs1 : List Loc), k_H D (wK cs ad) (k_A 41 ad) (p_b σ 14 i.toNatClampNeg v) H0 H1 locs1 → W p l e R s m args below meth c H1 locs1 cells slots Q (F0 m (pc + 1) ls rest)) : W p l e R s m args below meth c H locs cells slots Q (F0 m pc ls (.long v :: .int i :: .ref (ad 39) :: rest)) := by
  exact va_last hcf.1 hcf.2.1 hK hw.1 (wK_D hw.2.1) hw.2.2 39 3 rfl rfl hi hdg (fun H1 locs1 hP hD hS => kk H1 locs1 ⟨hP, hD.weaken (fun _ _ _ _ => trivial), hS⟩)
theorem kald_B15 (hcf : CallFix p m c cc nL s args kws own) (hK : va_K D vwCl (tK cs) s) {i : Int32} {x : Int64} (hdg : decode cc pc = .ok (.laload, 1)) (hi : ¬ (i < 0 ∨ 6 ≤ i.toNatClampNeg)) (hw : k_H D (wK cs ad) A σ H0 H locs) (hv : σ.2.2.2 15 i.toNatClampNeg = x) (kk : W p l e R s m args below meth c H locs cells slots Q (F0 m (pc + 1) ls (.long x :: rest))) : W p l e R s m args below meth c H locs cells slots Q (F0 m pc ls (.int i :: .ref (ad 40) :: rest)) := by
  subst hv
  exact va_lald hcf.1 hcf.2.1 hK hw.1 40 3 rfl rfl hi hdg kk
theorem kast_B15 (hcf : CallFix p m c cc nL s args kws own) (hK : va_K D vwCl (tK cs) s) {i : Int32} {v : Int64} (hdg : decode cc pc = .ok (.lastore, 1)) (hi : ¬ (i < 0 ∨ 6 ≤ i.toNatClampNeg)) (hw : k_H D (wK cs ad) (k_A 41 ad) σ H0 H locs) (kk : ∀ (H1 : Heap) (locs1 : List Loc), k_H D (wK cs ad) (k_A 41 ad) (p_b σ 15 i.toNatClampNeg v) H0 H1 locs1 → W p l e R s m args below meth c H1 locs1 cells slots Q (F0 m (pc + 1) ls rest)) : W p l e R s m args below meth c H locs cells slots Q (F0 m pc ls (.long v :: .int i :: .ref (ad 40) :: rest)) := by
  exact va_last hcf.1 hcf.2.1 hK hw.1 (wK_D hw.2.1) hw.2.2 40 3 rfl rfl hi hdg (fun H1 locs1 hP hD hS => kk H1 locs1 ⟨hP, hD.weaken (fun _ _ _ _ => trivial), hS⟩)
theorem wK_B (b : Nat) (h : b < 16) : (wK cs ad σ)[25 + b]? = some (ad (25 + b), .inl (cs 3, k_len b, .inr (.inl (σ.2.2.2 b)))) := by
  match b, h with
  | 0, _ => rfl
  | 1, _ => rfl
  | 2, _ => rfl
  | 3, _ => rfl
  | 4, _ => rfl
  | 5, _ => rfl
  | 6, _ => rfl
  | 7, _ => rfl
  | 8, _ => rfl
  | 9, _ => rfl
  | 10, _ => rfl
  | 11, _ => rfl
  | 12, _ => rfl
  | 13, _ => rfl
  | 14, _ => rfl
  | 15, _ => rfl
  | n + 16, h => exact absurd h (by omega)
theorem wK_setB (b i : Nat) (v : Int64) (h : b < 16) : (wK cs ad σ).set (25 + b) (ad (25 + b), .inl (cs 3, k_len b, .inr (.inl (vp_updL (σ.2.2.2 b) i v)))) = wK cs ad (p_b σ b i v) := by
  match b, h with
  | 0, _ => rfl
  | 1, _ => rfl
  | 2, _ => rfl
  | 3, _ => rfl
  | 4, _ => rfl
  | 5, _ => rfl
  | 6, _ => rfl
  | 7, _ => rfl
  | 8, _ => rfl
  | 9, _ => rfl
  | 10, _ => rfl
  | 11, _ => rfl
  | 12, _ => rfl
  | 13, _ => rfl
  | 14, _ => rfl
  | 15, _ => rfl
  | n + 16, h => exact absurd h (by omega)
theorem kald_B (hcf : CallFix p m c cc nL s args kws own) (hK : va_K D vwCl (tK cs) s) {b : Nat} {i : Int32} {x : Int64} (hdg : decode cc pc = .ok (.laload, 1)) (hb : b < 16) (hi : ¬ (i < 0 ∨ k_len b ≤ i.toNatClampNeg)) (hw : k_H D (wK cs ad) A σ H0 H locs) (hv : σ.2.2.2 b i.toNatClampNeg = x) (kk : W p l e R s m args below meth c H locs cells slots Q (F0 m (pc + 1) ls (.long x :: rest))) : W p l e R s m args below meth c H locs cells slots Q (F0 m pc ls (.int i :: .ref (ad (25 + b)) :: rest)) := by
  subst hv
  exact va_lald hcf.1 hcf.2.1 hK hw.1 (25 + b) 3 (wK_B b hb) rfl hi hdg kk
theorem kast_B (hcf : CallFix p m c cc nL s args kws own) (hK : va_K D vwCl (tK cs) s) {b : Nat} {i : Int32} {v : Int64} (hdg : decode cc pc = .ok (.lastore, 1)) (hb : b < 16) (hi : ¬ (i < 0 ∨ k_len b ≤ i.toNatClampNeg)) (hw : k_H D (wK cs ad) (k_A 41 ad) σ H0 H locs) (kk : ∀ (H1 : Heap) (locs1 : List Loc), k_H D (wK cs ad) (k_A 41 ad) (p_b σ b i.toNatClampNeg v) H0 H1 locs1 → W p l e R s m args below meth c H1 locs1 cells slots Q (F0 m (pc + 1) ls rest)) : W p l e R s m args below meth c H locs cells slots Q (F0 m pc ls (.long v :: .int i :: .ref (ad (25 + b)) :: rest)) := by
  refine va_last hcf.1 hcf.2.1 hK hw.1 (wK_D hw.2.1) hw.2.2 (25 + b) 3 (wK_B b hb) rfl hi hdg (fun H1 locs1 hP hD hS => kk H1 locs1 ⟨?_, ?_, hS⟩)
  · rw [← wK_setB b _ _ hb]; exact hP
  · rw [← wK_setB b _ _ hb]; exact hD.weaken (fun _ _ _ _ => trivial)
theorem klen_B (hcf : CallFix p m c cc nL s args kws own) (hK : va_K D vwCl (tK cs) s) {b : Nat} (hdg : decode cc pc = .ok (.arraylength, 1)) (hb : b < 16) (hw : k_H D (wK cs ad) A σ H0 H locs) (kk : W p l e R s m args below meth c H locs cells slots Q (F0 m (pc + 1) ls (.int (Int32.ofNat (k_len b)) :: rest))) : W p l e R s m args below meth c H locs cells slots Q (F0 m pc ls (.ref (ad (25 + b)) :: rest)) :=
  va_alen hcf.1 hcf.2.1 hK hw.1 (25 + b) 3 (wK_B b hb) rfl rfl hdg kk
theorem wK_A (b : Nat) (h : b < 6) : (wK cs ad σ)[10 + (9 + b)]? = some (ad (10 + (9 + b)), .inl (cs 0, 5, .inl (σ.2.1 (9 + b)))) := by
  match b, h with
  | 0, _ => rfl
  | 1, _ => rfl
  | 2, _ => rfl
  | 3, _ => rfl
  | 4, _ => rfl
  | 5, _ => rfl
theorem wK_setA (b i : Nat) (v : Int32) (h : b < 6) : (wK cs ad σ).set (10 + (9 + b)) (ad (10 + (9 + b)), .inl (cs 0, 5, .inl (upd (σ.2.1 (9 + b)) i v))) = wK cs ad (p_a σ (9 + b) i v) := by
  match b, h with
  | 0, _ => rfl
  | 1, _ => rfl
  | 2, _ => rfl
  | 3, _ => rfl
  | 4, _ => rfl
  | 5, _ => rfl
theorem k_inlt {i : Int32} {n : Nat} (h : ¬ (i < 0 ∨ n ≤ i.toNatClampNeg)) : i.toNatClampNeg < n := Nat.not_le.mp fun q => h (Or.inr q)
theorem kald_amounts (hcf : CallFix p m c cc nL s args kws own) (hK : va_K D vwCl (tK cs) s) {r i x : Int32} (hdg : decode cc pc = .ok (.iaload, 1)) (hr : ¬ (r < 0 ∨ 6 ≤ r.toNatClampNeg)) (hi : ¬ (i < 0 ∨ 5 ≤ i.toNatClampNeg)) (hw : k_H D (wK cs ad) A σ H0 H locs) (hv : σ.2.1 (9 + r.toNatClampNeg) i.toNatClampNeg = x) (kk : W p l e R s m args below meth c H locs cells slots Q (F0 m (pc + 1) ls (.int x :: rest))) : W p l e R s m args below meth c H locs cells slots Q (F0 m pc ls (.int i :: .ref (ad (10 + (9 + r.toNatClampNeg))) :: rest)) := by
  subst hv
  exact va_iald hcf.1 hcf.2.1 hK hw.1 (10 + (9 + r.toNatClampNeg)) 0 (wK_A _ (k_inlt hr)) rfl hi hdg kk
theorem kast_amounts (hcf : CallFix p m c cc nL s args kws own) (hK : va_K D vwCl (tK cs) s) {r i v : Int32} (hdg : decode cc pc = .ok (.iastore, 1)) (hr : ¬ (r < 0 ∨ 6 ≤ r.toNatClampNeg)) (hi : ¬ (i < 0 ∨ 5 ≤ i.toNatClampNeg)) (hw : k_H D (wK cs ad) (k_A 41 ad) σ H0 H locs) (kk : ∀ (H1 : Heap) (locs1 : List Loc), k_H D (wK cs ad) (k_A 41 ad) (p_a σ (9 + r.toNatClampNeg) i.toNatClampNeg v) H0 H1 locs1 → W p l e R s m args below meth c H1 locs1 cells slots Q (F0 m (pc + 1) ls rest)) : W p l e R s m args below meth c H locs cells slots Q (F0 m pc ls (.int v :: .int i :: .ref (ad (10 + (9 + r.toNatClampNeg))) :: rest)) := by
  refine va_iast hcf.1 hcf.2.1 hK hw.1 (wK_D hw.2.1) hw.2.2 (10 + (9 + r.toNatClampNeg)) 0 (wK_A _ (k_inlt hr)) rfl hi hdg (fun H1 locs1 hP hD hS => kk H1 locs1 ⟨?_, ?_, hS⟩)
  · rw [← wK_setA _ _ _ (k_inlt hr)]; exact hP
  · rw [← wK_setA _ _ _ (k_inlt hr)]; exact hD.weaken (fun _ _ _ _ => trivial)
theorem kaald_sums (hcf : CallFix p m c cc nL s args kws own) (hK : va_K D vwCl (tK cs) s) {i : Int32} {k : Nat} (hdg : decode cc pc = .ok (.aaload, 1)) (hk : 25 + (1 + i.toNatClampNeg) = k) (hi : ¬ (i < 0 ∨ 4 ≤ i.toNatClampNeg)) (hw : k_H D (wK cs ad) A σ H0 H locs) (kk : W p l e R s m args below meth c H locs cells slots Q (F0 m (pc + 1) ls (.ref (ad k) :: rest))) : W p l e R s m args below meth c H locs cells slots Q (F0 m pc ls (.int i :: .ref (ad 6) :: rest)) := by
  subst hk
  have hlt := k_inlt hi
  exact W.aald (v := .ref (ad (25 + (1 + i.toNatClampNeg)))) (ty := .array .long) hcf.1 hcf.2.1 (hw.1 6 _ rfl) ((hK.2 5 _ rfl).1 4 (fun j => va_rf (some (ad (25 + (1 + j)))))) rfl (fun q => by cases q) (by show ¬ (i < 0 ∨ (arrV _ _ _).slots.size ≤ _); rw [arrV_size]; exact hi) (by show (arrV _ _ _).slots[_]? = _; rw [arrV_read _ _ hlt]; rfl) rfl rfl hdg kk
theorem rng_sums {r : Int32} (hr : ¬ (r < 0 ∨ 4 ≤ r.toNatClampNeg)) : 1 + r.toNatClampNeg < 16 := by have := k_inlt hr; omega
theorem klen_sums {r : Int32} (hr : ¬ (r < 0 ∨ 4 ≤ r.toNatClampNeg)) : k_len (1 + r.toNatClampNeg) = 5 := by have := k_inlt hr; unfold k_len; split <;> omega
theorem kald_sums (hcf : CallFix p m c cc nL s args kws own) (hK : va_K D vwCl (tK cs) s) {r i : Int32} {x : Int64} (hdg : decode cc pc = .ok (.laload, 1)) (hr : ¬ (r < 0 ∨ 4 ≤ r.toNatClampNeg)) (hi : ¬ (i < 0 ∨ 5 ≤ i.toNatClampNeg)) (hw : k_H D (wK cs ad) A σ H0 H locs) (hv : σ.2.2.2 (1 + r.toNatClampNeg) i.toNatClampNeg = x) (kk : W p l e R s m args below meth c H locs cells slots Q (F0 m (pc + 1) ls (.long x :: rest))) : W p l e R s m args below meth c H locs cells slots Q (F0 m pc ls (.int i :: .ref (ad (25 + (1 + r.toNatClampNeg))) :: rest)) := kald_B hcf hK hdg (rng_sums hr) (by rw [klen_sums hr]; exact hi) hw hv kk
theorem kast_sums (hcf : CallFix p m c cc nL s args kws own) (hK : va_K D vwCl (tK cs) s) {r i : Int32} {v : Int64} (hdg : decode cc pc = .ok (.lastore, 1)) (hr : ¬ (r < 0 ∨ 4 ≤ r.toNatClampNeg)) (hi : ¬ (i < 0 ∨ 5 ≤ i.toNatClampNeg)) (hw : k_H D (wK cs ad) (k_A 41 ad) σ H0 H locs) (kk : ∀ (H1 : Heap) (locs1 : List Loc), k_H D (wK cs ad) (k_A 41 ad) (p_b σ (1 + r.toNatClampNeg) i.toNatClampNeg v) H0 H1 locs1 → W p l e R s m args below meth c H1 locs1 cells slots Q (F0 m (pc + 1) ls rest)) : W p l e R s m args below meth c H locs cells slots Q (F0 m pc ls (.long v :: .int i :: .ref (ad (25 + (1 + r.toNatClampNeg))) :: rest)) := kast_B hcf hK hdg (rng_sums hr) (by rw [klen_sums hr]; exact hi) hw kk
theorem kaald_bases (hcf : CallFix p m c cc nL s args kws own) (hK : va_K D vwCl (tK cs) s) {i : Int32} {k : Nat} (hdg : decode cc pc = .ok (.aaload, 1)) (hk : 25 + (5 + i.toNatClampNeg) = k) (hi : ¬ (i < 0 ∨ 6 ≤ i.toNatClampNeg)) (hw : k_H D (wK cs ad) A σ H0 H locs) (kk : W p l e R s m args below meth c H locs cells slots Q (F0 m (pc + 1) ls (.ref (ad k) :: rest))) : W p l e R s m args below meth c H locs cells slots Q (F0 m pc ls (.int i :: .ref (ad 7) :: rest)) := by
  subst hk
  have hlt := k_inlt hi
  exact W.aald (v := .ref (ad (25 + (5 + i.toNatClampNeg)))) (ty := .array .long) hcf.1 hcf.2.1 (hw.1 7 _ rfl) ((hK.2 5 _ rfl).1 6 (fun j => va_rf (some (ad (25 + (5 + j)))))) rfl (fun q => by cases q) (by show ¬ (i < 0 ∨ (arrV _ _ _).slots.size ≤ _); rw [arrV_size]; exact hi) (by show (arrV _ _ _).slots[_]? = _; rw [arrV_read _ _ hlt]; rfl) rfl rfl hdg kk
theorem rng_bases {r : Int32} (hr : ¬ (r < 0 ∨ 6 ≤ r.toNatClampNeg)) : 5 + r.toNatClampNeg < 16 := by have := k_inlt hr; omega
theorem klen_bases {r : Int32} (hr : ¬ (r < 0 ∨ 6 ≤ r.toNatClampNeg)) : k_len (5 + r.toNatClampNeg) = 6 := by have := k_inlt hr; unfold k_len; split <;> omega
theorem kald_bases (hcf : CallFix p m c cc nL s args kws own) (hK : va_K D vwCl (tK cs) s) {r i : Int32} {x : Int64} (hdg : decode cc pc = .ok (.laload, 1)) (hr : ¬ (r < 0 ∨ 6 ≤ r.toNatClampNeg)) (hi : ¬ (i < 0 ∨ 6 ≤ i.toNatClampNeg)) (hw : k_H D (wK cs ad) A σ H0 H locs) (hv : σ.2.2.2 (5 + r.toNatClampNeg) i.toNatClampNeg = x) (kk : W p l e R s m args below meth c H locs cells slots Q (F0 m (pc + 1) ls (.long x :: rest))) : W p l e R s m args below meth c H locs cells slots Q (F0 m pc ls (.int i :: .ref (ad (25 + (5 + r.toNatClampNeg))) :: rest)) := kald_B hcf hK hdg (rng_bases hr) (by rw [klen_bases hr]; exact hi) hw hv kk
theorem kast_bases (hcf : CallFix p m c cc nL s args kws own) (hK : va_K D vwCl (tK cs) s) {r i : Int32} {v : Int64} (hdg : decode cc pc = .ok (.lastore, 1)) (hr : ¬ (r < 0 ∨ 6 ≤ r.toNatClampNeg)) (hi : ¬ (i < 0 ∨ 6 ≤ i.toNatClampNeg)) (hw : k_H D (wK cs ad) (k_A 41 ad) σ H0 H locs) (kk : ∀ (H1 : Heap) (locs1 : List Loc), k_H D (wK cs ad) (k_A 41 ad) (p_b σ (5 + r.toNatClampNeg) i.toNatClampNeg v) H0 H1 locs1 → W p l e R s m args below meth c H1 locs1 cells slots Q (F0 m (pc + 1) ls rest)) : W p l e R s m args below meth c H locs cells slots Q (F0 m pc ls (.long v :: .int i :: .ref (ad (25 + (5 + r.toNatClampNeg))) :: rest)) := kast_B hcf hK hdg (rng_bases hr) (by rw [klen_bases hr]; exact hi) hw kk
theorem kaald_rows (hcf : CallFix p m c cc nL s args kws own) (hK : va_K D vwCl (tK cs) s) {i : Int32} {k : Nat} (hdg : decode cc pc = .ok (.aaload, 1)) (hk : 25 + (11 + i.toNatClampNeg) = k) (hi : ¬ (i < 0 ∨ 5 ≤ i.toNatClampNeg)) (hw : k_H D (wK cs ad) A σ H0 H locs) (kk : W p l e R s m args below meth c H locs cells slots Q (F0 m (pc + 1) ls (.ref (ad k) :: rest))) : W p l e R s m args below meth c H locs cells slots Q (F0 m pc ls (.int i :: .ref (ad 8) :: rest)) := by
  subst hk
  have hlt := k_inlt hi
  exact W.aald (v := .ref (ad (25 + (11 + i.toNatClampNeg)))) (ty := .array .long) hcf.1 hcf.2.1 (hw.1 8 _ rfl) ((hK.2 5 _ rfl).1 5 (fun j => va_rf (some (ad (25 + (11 + j)))))) rfl (fun q => by cases q) (by show ¬ (i < 0 ∨ (arrV _ _ _).slots.size ≤ _); rw [arrV_size]; exact hi) (by show (arrV _ _ _).slots[_]? = _; rw [arrV_read _ _ hlt]; rfl) rfl rfl hdg kk
theorem rng_rows {r : Int32} (hr : ¬ (r < 0 ∨ 5 ≤ r.toNatClampNeg)) : 11 + r.toNatClampNeg < 16 := by have := k_inlt hr; omega
theorem klen_rows {r : Int32} (hr : ¬ (r < 0 ∨ 5 ≤ r.toNatClampNeg)) : k_len (11 + r.toNatClampNeg) = 6 := by have := k_inlt hr; unfold k_len; split <;> omega
theorem kald_rows (hcf : CallFix p m c cc nL s args kws own) (hK : va_K D vwCl (tK cs) s) {r i : Int32} {x : Int64} (hdg : decode cc pc = .ok (.laload, 1)) (hr : ¬ (r < 0 ∨ 5 ≤ r.toNatClampNeg)) (hi : ¬ (i < 0 ∨ 6 ≤ i.toNatClampNeg)) (hw : k_H D (wK cs ad) A σ H0 H locs) (hv : σ.2.2.2 (11 + r.toNatClampNeg) i.toNatClampNeg = x) (kk : W p l e R s m args below meth c H locs cells slots Q (F0 m (pc + 1) ls (.long x :: rest))) : W p l e R s m args below meth c H locs cells slots Q (F0 m pc ls (.int i :: .ref (ad (25 + (11 + r.toNatClampNeg))) :: rest)) := kald_B hcf hK hdg (rng_rows hr) (by rw [klen_rows hr]; exact hi) hw hv kk
theorem kast_rows (hcf : CallFix p m c cc nL s args kws own) (hK : va_K D vwCl (tK cs) s) {r i : Int32} {v : Int64} (hdg : decode cc pc = .ok (.lastore, 1)) (hr : ¬ (r < 0 ∨ 5 ≤ r.toNatClampNeg)) (hi : ¬ (i < 0 ∨ 6 ≤ i.toNatClampNeg)) (hw : k_H D (wK cs ad) (k_A 41 ad) σ H0 H locs) (kk : ∀ (H1 : Heap) (locs1 : List Loc), k_H D (wK cs ad) (k_A 41 ad) (p_b σ (11 + r.toNatClampNeg) i.toNatClampNeg v) H0 H1 locs1 → W p l e R s m args below meth c H1 locs1 cells slots Q (F0 m (pc + 1) ls rest)) : W p l e R s m args below meth c H locs cells slots Q (F0 m pc ls (.long v :: .int i :: .ref (ad (25 + (11 + r.toNatClampNeg))) :: rest)) := kast_B hcf hK hdg (rng_rows hr) (by rw [klen_rows hr]; exact hi) hw kk
theorem kaald_amounts (hcf : CallFix p m c cc nL s args kws own) (hK : va_K D vwCl (tK cs) s) {i : Int32} {k : Nat} (hdg : decode cc pc = .ok (.aaload, 1)) (hk : 10 + (9 + i.toNatClampNeg) = k) (hi : ¬ (i < 0 ∨ 6 ≤ i.toNatClampNeg)) (hw : k_H D (wK cs ad) A σ H0 H locs) (kk : W p l e R s m args below meth c H locs cells slots Q (F0 m (pc + 1) ls (.ref (ad k) :: rest))) : W p l e R s m args below meth c H locs cells slots Q (F0 m pc ls (.int i :: .ref (ad 9) :: rest)) := by
  subst hk
  have hlt := k_inlt hi
  exact W.aald (v := .ref (ad (10 + (9 + i.toNatClampNeg)))) (ty := .array .int) hcf.1 hcf.2.1 (hw.1 9 _ rfl) ((hK.2 4 _ rfl).1 6 (fun j => va_rf (some (ad (10 + (9 + j)))))) rfl (fun q => by cases q) (by show ¬ (i < 0 ∨ (arrV _ _ _).slots.size ≤ _); rw [arrV_size]; exact hi) (by show (arrV _ _ _).slots[_]? = _; rw [arrV_read _ _ hlt]; rfl) rfl rfl hdg kk
end AK
end
section
theorem dJ0_fill_0 : decode cJ0_fill 0 = .ok (.iconst 0, 1) := by decide +kernel
theorem dJ0_fill_1 : decode cJ0_fill 1 = .ok (.istore_n 3, 1) := by decide +kernel
theorem dJ0_fill_2 : decode cJ0_fill 2 = .ok (.aload_n 0, 1) := by decide +kernel
theorem dJ0_fill_3 : decode cJ0_fill 3 = .ok (.arraylength, 1) := by decide +kernel
theorem dJ0_fill_4 : decode cJ0_fill 4 = .ok (.istore 4, 2) := by decide +kernel
theorem dJ0_fill_6 : decode cJ0_fill 6 = .ok (.iload_n 3, 1) := by decide +kernel
theorem dJ0_fill_7 : decode cJ0_fill 7 = .ok (.iload 4, 2) := by decide +kernel
theorem dJ0_fill_9 : decode cJ0_fill 9 = .ok (.if_icmp .ge 13, 3) := by decide +kernel
theorem dJ0_fill_12 : decode cJ0_fill 12 = .ok (.aload_n 0, 1) := by decide +kernel
theorem dJ0_fill_13 : decode cJ0_fill 13 = .ok (.iload_n 3, 1) := by decide +kernel
theorem dJ0_fill_14 : decode cJ0_fill 14 = .ok (.lload_n 1, 1) := by decide +kernel
theorem dJ0_fill_15 : decode cJ0_fill 15 = .ok (.lastore, 1) := by decide +kernel
theorem dJ0_fill_16 : decode cJ0_fill 16 = .ok (.iinc 3 1, 3) := by decide +kernel
theorem dJ0_fill_19 : decode cJ0_fill 19 = .ok (.goto (-13), 3) := by decide +kernel
theorem dJ0_fill_22 : decode cJ0_fill 22 = .ok (.return_, 1) := by decide +kernel
end
section
theorem dX0_solve_0 : decode cX0_solve 0 = .ok (.aload_n 0, 1) := by decide +kernel
theorem dX0_solve_1 : decode cX0_solve 1 = .ok (.aload_n 1, 1) := by decide +kernel
theorem dX0_solve_2 : decode cX0_solve 2 = .ok (.invokevirtual 47, 3) := by decide +kernel
theorem dX0_solve_5 : decode cX0_solve 5 = .ok (.aload_n 0, 1) := by decide +kernel
theorem dX0_solve_6 : decode cX0_solve 6 = .ok (.invokevirtual 51, 3) := by decide +kernel
theorem dX0_solve_9 : decode cX0_solve 9 = .ok (.aload_n 0, 1) := by decide +kernel
theorem dX0_solve_10 : decode cX0_solve 10 = .ok (.iconst 0, 1) := by decide +kernel
theorem dX0_solve_11 : decode cX0_solve 11 = .ok (.putfield 20, 3) := by decide +kernel
theorem dX0_solve_14 : decode cX0_solve 14 = .ok (.iconst 0, 1) := by decide +kernel
theorem dX0_solve_15 : decode cX0_solve 15 = .ok (.istore_n 2, 1) := by decide +kernel
theorem dX0_solve_16 : decode cX0_solve 16 = .ok (.iload_n 2, 1) := by decide +kernel
theorem dX0_solve_17 : decode cX0_solve 17 = .ok (.aload_n 0, 1) := by decide +kernel
theorem dX0_solve_18 : decode cX0_solve 18 = .ok (.getfield 40, 3) := by decide +kernel
theorem dX0_solve_21 : decode cX0_solve 21 = .ok (.if_icmp .ge 42, 3) := by decide +kernel
theorem dX0_solve_24 : decode cX0_solve 24 = .ok (.aload_n 0, 1) := by decide +kernel
theorem dX0_solve_25 : decode cX0_solve 25 = .ok (.getfield 9, 3) := by decide +kernel
theorem dX0_solve_28 : decode cX0_solve 28 = .ok (.iload_n 2, 1) := by decide +kernel
theorem dX0_solve_29 : decode cX0_solve 29 = .ok (.baload, 1) := by decide +kernel
theorem dX0_solve_30 : decode cX0_solve 30 = .ok (.ifCond .eq 27, 3) := by decide +kernel
theorem dX0_solve_33 : decode cX0_solve 33 = .ok (.aload_n 0, 1) := by decide +kernel
theorem dX0_solve_34 : decode cX0_solve 34 = .ok (.aload_n 0, 1) := by decide +kernel
theorem dX0_solve_35 : decode cX0_solve 35 = .ok (.getfield 17, 3) := by decide +kernel
theorem dX0_solve_38 : decode cX0_solve 38 = .ok (.aload_n 0, 1) := by decide +kernel
theorem dX0_solve_39 : decode cX0_solve 39 = .ok (.getfield 20, 3) := by decide +kernel
theorem dX0_solve_42 : decode cX0_solve 42 = .ok (.aaload, 1) := by decide +kernel
theorem dX0_solve_43 : decode cX0_solve 43 = .ok (.iload_n 2, 1) := by decide +kernel
theorem dX0_solve_44 : decode cX0_solve 44 = .ok (.invokevirtual 54, 3) := by decide +kernel
theorem dX0_solve_47 : decode cX0_solve 47 = .ok (.aload_n 0, 1) := by decide +kernel
theorem dX0_solve_48 : decode cX0_solve 48 = .ok (.dup, 1) := by decide +kernel
theorem dX0_solve_49 : decode cX0_solve 49 = .ok (.getfield 20, 3) := by decide +kernel
theorem dX0_solve_52 : decode cX0_solve 52 = .ok (.iconst 1, 1) := by decide +kernel
theorem dX0_solve_53 : decode cX0_solve 53 = .ok (.iadd, 1) := by decide +kernel
theorem dX0_solve_54 : decode cX0_solve 54 = .ok (.putfield 20, 3) := by decide +kernel
theorem dX0_solve_57 : decode cX0_solve 57 = .ok (.iinc 2 1, 3) := by decide +kernel
theorem dX0_solve_60 : decode cX0_solve 60 = .ok (.goto (-44), 3) := by decide +kernel
theorem dX0_solve_63 : decode cX0_solve 63 = .ok (.aload_n 0, 1) := by decide +kernel
theorem dX0_solve_64 : decode cX0_solve 64 = .ok (.aload_n 0, 1) := by decide +kernel
theorem dX0_solve_65 : decode cX0_solve 65 = .ok (.invokevirtual 58, 3) := by decide +kernel
theorem dX0_solve_68 : decode cX0_solve 68 = .ok (.putfield 24, 3) := by decide +kernel
theorem dX0_solve_71 : decode cX0_solve 71 = .ok (.return_, 1) := by decide +kernel
theorem dX0_takeRows_0 : decode cX0_takeRows 0 = .ok (.aload_n 0, 1) := by decide +kernel
theorem dX0_takeRows_1 : decode cX0_takeRows 1 = .ok (.aload_n 1, 1) := by decide +kernel
theorem dX0_takeRows_2 : decode cX0_takeRows 2 = .ok (.invokevirtual 62, 3) := by decide +kernel
theorem dX0_takeRows_5 : decode cX0_takeRows 5 = .ok (.putfield 37, 3) := by decide +kernel
theorem dX0_takeRows_8 : decode cX0_takeRows 8 = .ok (.aload_n 0, 1) := by decide +kernel
theorem dX0_takeRows_9 : decode cX0_takeRows 9 = .ok (.aload_n 1, 1) := by decide +kernel
theorem dX0_takeRows_10 : decode cX0_takeRows 10 = .ok (.getfield 67, 3) := by decide +kernel
theorem dX0_takeRows_13 : decode cX0_takeRows 13 = .ok (.putfield 40, 3) := by decide +kernel
theorem dX0_takeRows_16 : decode cX0_takeRows 16 = .ok (.iconst 0, 1) := by decide +kernel
theorem dX0_takeRows_17 : decode cX0_takeRows 17 = .ok (.istore_n 2, 1) := by decide +kernel
theorem dX0_takeRows_18 : decode cX0_takeRows 18 = .ok (.iload_n 2, 1) := by decide +kernel
theorem dX0_takeRows_19 : decode cX0_takeRows 19 = .ok (.aload_n 0, 1) := by decide +kernel
theorem dX0_takeRows_20 : decode cX0_takeRows 20 = .ok (.getfield 37, 3) := by decide +kernel
theorem dX0_takeRows_23 : decode cX0_takeRows 23 = .ok (.if_icmp .ge 40, 3) := by decide +kernel
theorem dX0_takeRows_26 : decode cX0_takeRows 26 = .ok (.iconst 0, 1) := by decide +kernel
theorem dX0_takeRows_27 : decode cX0_takeRows 27 = .ok (.istore_n 3, 1) := by decide +kernel
theorem dX0_takeRows_28 : decode cX0_takeRows 28 = .ok (.iload_n 3, 1) := by decide +kernel
theorem dX0_takeRows_29 : decode cX0_takeRows 29 = .ok (.aload_n 0, 1) := by decide +kernel
theorem dX0_takeRows_30 : decode cX0_takeRows 30 = .ok (.getfield 40, 3) := by decide +kernel
theorem dX0_takeRows_33 : decode cX0_takeRows 33 = .ok (.if_icmp .ge 24, 3) := by decide +kernel
theorem dX0_takeRows_36 : decode cX0_takeRows 36 = .ok (.aload_n 0, 1) := by decide +kernel
theorem dX0_takeRows_37 : decode cX0_takeRows 37 = .ok (.getfield 27, 3) := by decide +kernel
theorem dX0_takeRows_40 : decode cX0_takeRows 40 = .ok (.iload_n 2, 1) := by decide +kernel
theorem dX0_takeRows_41 : decode cX0_takeRows 41 = .ok (.aaload, 1) := by decide +kernel
theorem dX0_takeRows_42 : decode cX0_takeRows 42 = .ok (.iload_n 3, 1) := by decide +kernel
theorem dX0_takeRows_43 : decode cX0_takeRows 43 = .ok (.aload_n 1, 1) := by decide +kernel
theorem dX0_takeRows_44 : decode cX0_takeRows 44 = .ok (.iload_n 3, 1) := by decide +kernel
theorem dX0_takeRows_45 : decode cX0_takeRows 45 = .ok (.iload_n 2, 1) := by decide +kernel
theorem dX0_takeRows_46 : decode cX0_takeRows 46 = .ok (.lconst 1, 1) := by decide +kernel
theorem dX0_takeRows_47 : decode cX0_takeRows 47 = .ok (.invokevirtual 70, 3) := by decide +kernel
theorem dX0_takeRows_50 : decode cX0_takeRows 50 = .ok (.lastore, 1) := by decide +kernel
theorem dX0_takeRows_51 : decode cX0_takeRows 51 = .ok (.iinc 3 1, 3) := by decide +kernel
theorem dX0_takeRows_54 : decode cX0_takeRows 54 = .ok (.goto (-26), 3) := by decide +kernel
theorem dX0_takeRows_57 : decode cX0_takeRows 57 = .ok (.iinc 2 1, 3) := by decide +kernel
theorem dX0_takeRows_60 : decode cX0_takeRows 60 = .ok (.goto (-42), 3) := by decide +kernel
theorem dX0_takeRows_63 : decode cX0_takeRows 63 = .ok (.return_, 1) := by decide +kernel
theorem dX0_reduce_0 : decode cX0_reduce 0 = .ok (.aload_n 0, 1) := by decide +kernel
theorem dX0_reduce_1 : decode cX0_reduce 1 = .ok (.iconst 0, 1) := by decide +kernel
theorem dX0_reduce_2 : decode cX0_reduce 2 = .ok (.putfield 34, 3) := by decide +kernel
theorem dX0_reduce_5 : decode cX0_reduce 5 = .ok (.aload_n 0, 1) := by decide +kernel
theorem dX0_reduce_6 : decode cX0_reduce 6 = .ok (.lconst 1, 1) := by decide +kernel
theorem dX0_reduce_7 : decode cX0_reduce 7 = .ok (.putfield 43, 3) := by decide +kernel
theorem dX0_reduce_10 : decode cX0_reduce 10 = .ok (.iconst 0, 1) := by decide +kernel
theorem dX0_reduce_11 : decode cX0_reduce 11 = .ok (.istore_n 1, 1) := by decide +kernel
theorem dX0_reduce_12 : decode cX0_reduce 12 = .ok (.iload_n 1, 1) := by decide +kernel
theorem dX0_reduce_13 : decode cX0_reduce 13 = .ok (.aload_n 0, 1) := by decide +kernel
theorem dX0_reduce_14 : decode cX0_reduce 14 = .ok (.getfield 40, 3) := by decide +kernel
theorem dX0_reduce_17 : decode cX0_reduce 17 = .ok (.if_icmp .ge 70, 3) := by decide +kernel
theorem dX0_reduce_20 : decode cX0_reduce 20 = .ok (.aload_n 0, 1) := by decide +kernel
theorem dX0_reduce_21 : decode cX0_reduce 21 = .ok (.iload_n 1, 1) := by decide +kernel
theorem dX0_reduce_22 : decode cX0_reduce 22 = .ok (.invokevirtual 74, 3) := by decide +kernel
theorem dX0_reduce_25 : decode cX0_reduce 25 = .ok (.istore_n 2, 1) := by decide +kernel
theorem dX0_reduce_26 : decode cX0_reduce 26 = .ok (.aload_n 0, 1) := by decide +kernel
theorem dX0_reduce_27 : decode cX0_reduce 27 = .ok (.getfield 9, 3) := by decide +kernel
theorem dX0_reduce_30 : decode cX0_reduce 30 = .ok (.iload_n 1, 1) := by decide +kernel
theorem dX0_reduce_31 : decode cX0_reduce 31 = .ok (.iload_n 2, 1) := by decide +kernel
theorem dX0_reduce_32 : decode cX0_reduce 32 = .ok (.iconst (-1), 1) := by decide +kernel
theorem dX0_reduce_33 : decode cX0_reduce 33 = .ok (.if_icmp .ne 7, 3) := by decide +kernel
theorem dX0_reduce_36 : decode cX0_reduce 36 = .ok (.iconst 1, 1) := by decide +kernel
theorem dX0_reduce_37 : decode cX0_reduce 37 = .ok (.goto 4, 3) := by decide +kernel
theorem dX0_reduce_40 : decode cX0_reduce 40 = .ok (.iconst 0, 1) := by decide +kernel
theorem dX0_reduce_41 : decode cX0_reduce 41 = .ok (.bastore, 1) := by decide +kernel
theorem dX0_reduce_42 : decode cX0_reduce 42 = .ok (.iload_n 2, 1) := by decide +kernel
theorem dX0_reduce_43 : decode cX0_reduce 43 = .ok (.iconst (-1), 1) := by decide +kernel
theorem dX0_reduce_44 : decode cX0_reduce 44 = .ok (.if_icmp .eq 37, 3) := by decide +kernel
theorem dX0_reduce_47 : decode cX0_reduce 47 = .ok (.aload_n 0, 1) := by decide +kernel
theorem dX0_reduce_48 : decode cX0_reduce 48 = .ok (.aload_n 0, 1) := by decide +kernel
theorem dX0_reduce_49 : decode cX0_reduce 49 = .ok (.getfield 34, 3) := by decide +kernel
theorem dX0_reduce_52 : decode cX0_reduce 52 = .ok (.iload_n 2, 1) := by decide +kernel
theorem dX0_reduce_53 : decode cX0_reduce 53 = .ok (.invokevirtual 78, 3) := by decide +kernel
theorem dX0_reduce_56 : decode cX0_reduce 56 = .ok (.aload_n 0, 1) := by decide +kernel
theorem dX0_reduce_57 : decode cX0_reduce 57 = .ok (.iload_n 1, 1) := by decide +kernel
theorem dX0_reduce_58 : decode cX0_reduce 58 = .ok (.invokevirtual 82, 3) := by decide +kernel
theorem dX0_reduce_61 : decode cX0_reduce 61 = .ok (.aload_n 0, 1) := by decide +kernel
theorem dX0_reduce_62 : decode cX0_reduce 62 = .ok (.getfield 30, 3) := by decide +kernel
theorem dX0_reduce_65 : decode cX0_reduce 65 = .ok (.aload_n 0, 1) := by decide +kernel
theorem dX0_reduce_66 : decode cX0_reduce 66 = .ok (.getfield 34, 3) := by decide +kernel
theorem dX0_reduce_69 : decode cX0_reduce 69 = .ok (.iload_n 1, 1) := by decide +kernel
theorem dX0_reduce_70 : decode cX0_reduce 70 = .ok (.iastore, 1) := by decide +kernel
theorem dX0_reduce_71 : decode cX0_reduce 71 = .ok (.aload_n 0, 1) := by decide +kernel
theorem dX0_reduce_72 : decode cX0_reduce 72 = .ok (.dup, 1) := by decide +kernel
theorem dX0_reduce_73 : decode cX0_reduce 73 = .ok (.getfield 34, 3) := by decide +kernel
theorem dX0_reduce_76 : decode cX0_reduce 76 = .ok (.iconst 1, 1) := by decide +kernel
theorem dX0_reduce_77 : decode cX0_reduce 77 = .ok (.iadd, 1) := by decide +kernel
theorem dX0_reduce_78 : decode cX0_reduce 78 = .ok (.putfield 34, 3) := by decide +kernel
theorem dX0_reduce_81 : decode cX0_reduce 81 = .ok (.iinc 1 1, 3) := by decide +kernel
theorem dX0_reduce_84 : decode cX0_reduce 84 = .ok (.goto (-72), 3) := by decide +kernel
theorem dX0_reduce_87 : decode cX0_reduce 87 = .ok (.return_, 1) := by decide +kernel
theorem dX0_pivotRow_0 : decode cX0_pivotRow 0 = .ok (.aload_n 0, 1) := by decide +kernel
theorem dX0_pivotRow_1 : decode cX0_pivotRow 1 = .ok (.getfield 34, 3) := by decide +kernel
theorem dX0_pivotRow_4 : decode cX0_pivotRow 4 = .ok (.istore_n 2, 1) := by decide +kernel
theorem dX0_pivotRow_5 : decode cX0_pivotRow 5 = .ok (.iload_n 2, 1) := by decide +kernel
theorem dX0_pivotRow_6 : decode cX0_pivotRow 6 = .ok (.aload_n 0, 1) := by decide +kernel
theorem dX0_pivotRow_7 : decode cX0_pivotRow 7 = .ok (.getfield 37, 3) := by decide +kernel
theorem dX0_pivotRow_10 : decode cX0_pivotRow 10 = .ok (.if_icmp .ge 24, 3) := by decide +kernel
theorem dX0_pivotRow_13 : decode cX0_pivotRow 13 = .ok (.aload_n 0, 1) := by decide +kernel
theorem dX0_pivotRow_14 : decode cX0_pivotRow 14 = .ok (.getfield 27, 3) := by decide +kernel
theorem dX0_pivotRow_17 : decode cX0_pivotRow 17 = .ok (.iload_n 2, 1) := by decide +kernel
theorem dX0_pivotRow_18 : decode cX0_pivotRow 18 = .ok (.aaload, 1) := by decide +kernel
theorem dX0_pivotRow_19 : decode cX0_pivotRow 19 = .ok (.iload_n 1, 1) := by decide +kernel
theorem dX0_pivotRow_20 : decode cX0_pivotRow 20 = .ok (.laload, 1) := by decide +kernel
theorem dX0_pivotRow_21 : decode cX0_pivotRow 21 = .ok (.lconst 0, 1) := by decide +kernel
theorem dX0_pivotRow_22 : decode cX0_pivotRow 22 = .ok (.lcmp, 1) := by decide +kernel
theorem dX0_pivotRow_23 : decode cX0_pivotRow 23 = .ok (.ifCond .eq 5, 3) := by decide +kernel
theorem dX0_pivotRow_26 : decode cX0_pivotRow 26 = .ok (.iload_n 2, 1) := by decide +kernel
theorem dX0_pivotRow_27 : decode cX0_pivotRow 27 = .ok (.ireturn, 1) := by decide +kernel
theorem dX0_pivotRow_28 : decode cX0_pivotRow 28 = .ok (.iinc 2 1, 3) := by decide +kernel
theorem dX0_pivotRow_31 : decode cX0_pivotRow 31 = .ok (.goto (-26), 3) := by decide +kernel
theorem dX0_pivotRow_34 : decode cX0_pivotRow 34 = .ok (.iconst (-1), 1) := by decide +kernel
theorem dX0_pivotRow_35 : decode cX0_pivotRow 35 = .ok (.ireturn, 1) := by decide +kernel
theorem dX0_swapRows_0 : decode cX0_swapRows 0 = .ok (.iconst 0, 1) := by decide +kernel
theorem dX0_swapRows_1 : decode cX0_swapRows 1 = .ok (.istore_n 3, 1) := by decide +kernel
theorem dX0_swapRows_2 : decode cX0_swapRows 2 = .ok (.iload_n 3, 1) := by decide +kernel
theorem dX0_swapRows_3 : decode cX0_swapRows 3 = .ok (.aload_n 0, 1) := by decide +kernel
theorem dX0_swapRows_4 : decode cX0_swapRows 4 = .ok (.getfield 40, 3) := by decide +kernel
theorem dX0_swapRows_7 : decode cX0_swapRows 7 = .ok (.if_icmp .ge 45, 3) := by decide +kernel
theorem dX0_swapRows_10 : decode cX0_swapRows 10 = .ok (.aload_n 0, 1) := by decide +kernel
theorem dX0_swapRows_11 : decode cX0_swapRows 11 = .ok (.getfield 27, 3) := by decide +kernel
theorem dX0_swapRows_14 : decode cX0_swapRows 14 = .ok (.iload_n 1, 1) := by decide +kernel
theorem dX0_swapRows_15 : decode cX0_swapRows 15 = .ok (.aaload, 1) := by decide +kernel
theorem dX0_swapRows_16 : decode cX0_swapRows 16 = .ok (.iload_n 3, 1) := by decide +kernel
theorem dX0_swapRows_17 : decode cX0_swapRows 17 = .ok (.laload, 1) := by decide +kernel
theorem dX0_swapRows_18 : decode cX0_swapRows 18 = .ok (.lstore 4, 2) := by decide +kernel
theorem dX0_swapRows_20 : decode cX0_swapRows 20 = .ok (.aload_n 0, 1) := by decide +kernel
theorem dX0_swapRows_21 : decode cX0_swapRows 21 = .ok (.getfield 27, 3) := by decide +kernel
theorem dX0_swapRows_24 : decode cX0_swapRows 24 = .ok (.iload_n 1, 1) := by decide +kernel
theorem dX0_swapRows_25 : decode cX0_swapRows 25 = .ok (.aaload, 1) := by decide +kernel
theorem dX0_swapRows_26 : decode cX0_swapRows 26 = .ok (.iload_n 3, 1) := by decide +kernel
theorem dX0_swapRows_27 : decode cX0_swapRows 27 = .ok (.aload_n 0, 1) := by decide +kernel
theorem dX0_swapRows_28 : decode cX0_swapRows 28 = .ok (.getfield 27, 3) := by decide +kernel
theorem dX0_swapRows_31 : decode cX0_swapRows 31 = .ok (.iload_n 2, 1) := by decide +kernel
theorem dX0_swapRows_32 : decode cX0_swapRows 32 = .ok (.aaload, 1) := by decide +kernel
theorem dX0_swapRows_33 : decode cX0_swapRows 33 = .ok (.iload_n 3, 1) := by decide +kernel
theorem dX0_swapRows_34 : decode cX0_swapRows 34 = .ok (.laload, 1) := by decide +kernel
theorem dX0_swapRows_35 : decode cX0_swapRows 35 = .ok (.lastore, 1) := by decide +kernel
theorem dX0_swapRows_36 : decode cX0_swapRows 36 = .ok (.aload_n 0, 1) := by decide +kernel
theorem dX0_swapRows_37 : decode cX0_swapRows 37 = .ok (.getfield 27, 3) := by decide +kernel
theorem dX0_swapRows_40 : decode cX0_swapRows 40 = .ok (.iload_n 2, 1) := by decide +kernel
theorem dX0_swapRows_41 : decode cX0_swapRows 41 = .ok (.aaload, 1) := by decide +kernel
theorem dX0_swapRows_42 : decode cX0_swapRows 42 = .ok (.iload_n 3, 1) := by decide +kernel
theorem dX0_swapRows_43 : decode cX0_swapRows 43 = .ok (.lload 4, 2) := by decide +kernel
theorem dX0_swapRows_45 : decode cX0_swapRows 45 = .ok (.lastore, 1) := by decide +kernel
theorem dX0_swapRows_46 : decode cX0_swapRows 46 = .ok (.iinc 3 1, 3) := by decide +kernel
theorem dX0_swapRows_49 : decode cX0_swapRows 49 = .ok (.goto (-47), 3) := by decide +kernel
theorem dX0_swapRows_52 : decode cX0_swapRows 52 = .ok (.return_, 1) := by decide +kernel
theorem dX0_clearColumn_0 : decode cX0_clearColumn 0 = .ok (.aload_n 0, 1) := by decide +kernel
theorem dX0_clearColumn_1 : decode cX0_clearColumn 1 = .ok (.getfield 43, 3) := by decide +kernel
theorem dX0_clearColumn_4 : decode cX0_clearColumn 4 = .ok (.lstore_n 2, 1) := by decide +kernel
theorem dX0_clearColumn_5 : decode cX0_clearColumn 5 = .ok (.aload_n 0, 1) := by decide +kernel
theorem dX0_clearColumn_6 : decode cX0_clearColumn 6 = .ok (.aload_n 0, 1) := by decide +kernel
theorem dX0_clearColumn_7 : decode cX0_clearColumn 7 = .ok (.getfield 27, 3) := by decide +kernel
theorem dX0_clearColumn_10 : decode cX0_clearColumn 10 = .ok (.aload_n 0, 1) := by decide +kernel
theorem dX0_clearColumn_11 : decode cX0_clearColumn 11 = .ok (.getfield 34, 3) := by decide +kernel
theorem dX0_clearColumn_14 : decode cX0_clearColumn 14 = .ok (.aaload, 1) := by decide +kernel
theorem dX0_clearColumn_15 : decode cX0_clearColumn 15 = .ok (.iload_n 1, 1) := by decide +kernel
theorem dX0_clearColumn_16 : decode cX0_clearColumn 16 = .ok (.laload, 1) := by decide +kernel
theorem dX0_clearColumn_17 : decode cX0_clearColumn 17 = .ok (.putfield 43, 3) := by decide +kernel
theorem dX0_clearColumn_20 : decode cX0_clearColumn 20 = .ok (.iconst 0, 1) := by decide +kernel
theorem dX0_clearColumn_21 : decode cX0_clearColumn 21 = .ok (.istore 4, 2) := by decide +kernel
theorem dX0_clearColumn_23 : decode cX0_clearColumn 23 = .ok (.iload 4, 2) := by decide +kernel
theorem dX0_clearColumn_25 : decode cX0_clearColumn 25 = .ok (.aload_n 0, 1) := by decide +kernel
theorem dX0_clearColumn_26 : decode cX0_clearColumn 26 = .ok (.getfield 37, 3) := by decide +kernel
theorem dX0_clearColumn_29 : decode cX0_clearColumn 29 = .ok (.if_icmp .ge 92, 3) := by decide +kernel
theorem dX0_clearColumn_32 : decode cX0_clearColumn 32 = .ok (.aload_n 0, 1) := by decide +kernel
theorem dX0_clearColumn_33 : decode cX0_clearColumn 33 = .ok (.getfield 27, 3) := by decide +kernel
theorem dX0_clearColumn_36 : decode cX0_clearColumn 36 = .ok (.iload 4, 2) := by decide +kernel
theorem dX0_clearColumn_38 : decode cX0_clearColumn 38 = .ok (.aaload, 1) := by decide +kernel
theorem dX0_clearColumn_39 : decode cX0_clearColumn 39 = .ok (.iload_n 1, 1) := by decide +kernel
theorem dX0_clearColumn_40 : decode cX0_clearColumn 40 = .ok (.laload, 1) := by decide +kernel
theorem dX0_clearColumn_41 : decode cX0_clearColumn 41 = .ok (.lstore 5, 2) := by decide +kernel
theorem dX0_clearColumn_43 : decode cX0_clearColumn 43 = .ok (.iconst 0, 1) := by decide +kernel
theorem dX0_clearColumn_44 : decode cX0_clearColumn 44 = .ok (.istore 7, 2) := by decide +kernel
theorem dX0_clearColumn_46 : decode cX0_clearColumn 46 = .ok (.iload 7, 2) := by decide +kernel
theorem dX0_clearColumn_48 : decode cX0_clearColumn 48 = .ok (.aload_n 0, 1) := by decide +kernel
theorem dX0_clearColumn_49 : decode cX0_clearColumn 49 = .ok (.getfield 40, 3) := by decide +kernel
theorem dX0_clearColumn_52 : decode cX0_clearColumn 52 = .ok (.if_icmp .ge 63, 3) := by decide +kernel
theorem dX0_clearColumn_55 : decode cX0_clearColumn 55 = .ok (.iload 4, 2) := by decide +kernel
theorem dX0_clearColumn_57 : decode cX0_clearColumn 57 = .ok (.aload_n 0, 1) := by decide +kernel
theorem dX0_clearColumn_58 : decode cX0_clearColumn 58 = .ok (.getfield 34, 3) := by decide +kernel
theorem dX0_clearColumn_61 : decode cX0_clearColumn 61 = .ok (.if_icmp .eq 54, 3) := by decide +kernel
theorem dX0_clearColumn_64 : decode cX0_clearColumn 64 = .ok (.aload_n 0, 1) := by decide +kernel
theorem dX0_clearColumn_65 : decode cX0_clearColumn 65 = .ok (.getfield 27, 3) := by decide +kernel
theorem dX0_clearColumn_68 : decode cX0_clearColumn 68 = .ok (.iload 4, 2) := by decide +kernel
theorem dX0_clearColumn_70 : decode cX0_clearColumn 70 = .ok (.aaload, 1) := by decide +kernel
theorem dX0_clearColumn_71 : decode cX0_clearColumn 71 = .ok (.iload 7, 2) := by decide +kernel
theorem dX0_clearColumn_73 : decode cX0_clearColumn 73 = .ok (.aload_n 0, 1) := by decide +kernel
theorem dX0_clearColumn_74 : decode cX0_clearColumn 74 = .ok (.getfield 43, 3) := by decide +kernel
theorem dX0_clearColumn_77 : decode cX0_clearColumn 77 = .ok (.aload_n 0, 1) := by decide +kernel
theorem dX0_clearColumn_78 : decode cX0_clearColumn 78 = .ok (.getfield 27, 3) := by decide +kernel
theorem dX0_clearColumn_81 : decode cX0_clearColumn 81 = .ok (.iload 4, 2) := by decide +kernel
theorem dX0_clearColumn_83 : decode cX0_clearColumn 83 = .ok (.aaload, 1) := by decide +kernel
theorem dX0_clearColumn_84 : decode cX0_clearColumn 84 = .ok (.iload 7, 2) := by decide +kernel
theorem dX0_clearColumn_86 : decode cX0_clearColumn 86 = .ok (.laload, 1) := by decide +kernel
theorem dX0_clearColumn_87 : decode cX0_clearColumn 87 = .ok (.lmul, 1) := by decide +kernel
theorem dX0_clearColumn_88 : decode cX0_clearColumn 88 = .ok (.lload 5, 2) := by decide +kernel
theorem dX0_clearColumn_90 : decode cX0_clearColumn 90 = .ok (.aload_n 0, 1) := by decide +kernel
theorem dX0_clearColumn_91 : decode cX0_clearColumn 91 = .ok (.getfield 27, 3) := by decide +kernel
theorem dX0_clearColumn_94 : decode cX0_clearColumn 94 = .ok (.aload_n 0, 1) := by decide +kernel
theorem dX0_clearColumn_95 : decode cX0_clearColumn 95 = .ok (.getfield 34, 3) := by decide +kernel
theorem dX0_clearColumn_98 : decode cX0_clearColumn 98 = .ok (.aaload, 1) := by decide +kernel
theorem dX0_clearColumn_99 : decode cX0_clearColumn 99 = .ok (.iload 7, 2) := by decide +kernel
theorem dX0_clearColumn_101 : decode cX0_clearColumn 101 = .ok (.laload, 1) := by decide +kernel
theorem dX0_clearColumn_102 : decode cX0_clearColumn 102 = .ok (.lmul, 1) := by decide +kernel
theorem dX0_clearColumn_103 : decode cX0_clearColumn 103 = .ok (.lsub, 1) := by decide +kernel
theorem dX0_clearColumn_104 : decode cX0_clearColumn 104 = .ok (.lload_n 2, 1) := by decide +kernel
theorem dX0_clearColumn_105 : decode cX0_clearColumn 105 = .ok (.invokestatic 86, 3) := by decide +kernel
theorem dX0_clearColumn_108 : decode cX0_clearColumn 108 = .ok (.lastore, 1) := by decide +kernel
theorem dX0_clearColumn_109 : decode cX0_clearColumn 109 = .ok (.iinc 7 1, 3) := by decide +kernel
theorem dX0_clearColumn_112 : decode cX0_clearColumn 112 = .ok (.goto (-66), 3) := by decide +kernel
theorem dX0_clearColumn_115 : decode cX0_clearColumn 115 = .ok (.iinc 4 1, 3) := by decide +kernel
theorem dX0_clearColumn_118 : decode cX0_clearColumn 118 = .ok (.goto (-95), 3) := by decide +kernel
theorem dX0_clearColumn_121 : decode cX0_clearColumn 121 = .ok (.return_, 1) := by decide +kernel
theorem dX0_quotient_0 : decode cX0_quotient 0 = .ok (.lload_n 2, 1) := by decide +kernel
theorem dX0_quotient_1 : decode cX0_quotient 1 = .ok (.lconst 0, 1) := by decide +kernel
theorem dX0_quotient_2 : decode cX0_quotient 2 = .ok (.lcmp, 1) := by decide +kernel
theorem dX0_quotient_3 : decode cX0_quotient 3 = .ok (.ifCond .ne 7, 3) := by decide +kernel
theorem dX0_quotient_6 : decode cX0_quotient 6 = .ok (.lconst 0, 1) := by decide +kernel
theorem dX0_quotient_7 : decode cX0_quotient 7 = .ok (.goto 6, 3) := by decide +kernel
theorem dX0_quotient_10 : decode cX0_quotient 10 = .ok (.lload_n 0, 1) := by decide +kernel
theorem dX0_quotient_11 : decode cX0_quotient 11 = .ok (.lload_n 2, 1) := by decide +kernel
theorem dX0_quotient_12 : decode cX0_quotient 12 = .ok (.ldiv, 1) := by decide +kernel
theorem dX0_quotient_13 : decode cX0_quotient 13 = .ok (.lreturn, 1) := by decide +kernel
theorem dX0_makeBase_0 : decode cX0_makeBase 0 = .ok (.aload_n 1, 1) := by decide +kernel
theorem dX0_makeBase_1 : decode cX0_makeBase 1 = .ok (.lconst 0, 1) := by decide +kernel
theorem dX0_makeBase_2 : decode cX0_makeBase 2 = .ok (.invokestatic 90, 3) := by decide +kernel
theorem dX0_makeBase_5 : decode cX0_makeBase 5 = .ok (.aload_n 1, 1) := by decide +kernel
theorem dX0_makeBase_6 : decode cX0_makeBase 6 = .ok (.iload_n 2, 1) := by decide +kernel
theorem dX0_makeBase_7 : decode cX0_makeBase 7 = .ok (.aload_n 0, 1) := by decide +kernel
theorem dX0_makeBase_8 : decode cX0_makeBase 8 = .ok (.getfield 43, 3) := by decide +kernel
theorem dX0_makeBase_11 : decode cX0_makeBase 11 = .ok (.lastore, 1) := by decide +kernel
theorem dX0_makeBase_12 : decode cX0_makeBase 12 = .ok (.iconst 0, 1) := by decide +kernel
theorem dX0_makeBase_13 : decode cX0_makeBase 13 = .ok (.istore_n 3, 1) := by decide +kernel
theorem dX0_makeBase_14 : decode cX0_makeBase 14 = .ok (.iload_n 3, 1) := by decide +kernel
theorem dX0_makeBase_15 : decode cX0_makeBase 15 = .ok (.aload_n 0, 1) := by decide +kernel
theorem dX0_makeBase_16 : decode cX0_makeBase 16 = .ok (.getfield 34, 3) := by decide +kernel
theorem dX0_makeBase_19 : decode cX0_makeBase 19 = .ok (.if_icmp .ge 26, 3) := by decide +kernel
theorem dX0_makeBase_22 : decode cX0_makeBase 22 = .ok (.aload_n 1, 1) := by decide +kernel
theorem dX0_makeBase_23 : decode cX0_makeBase 23 = .ok (.aload_n 0, 1) := by decide +kernel
theorem dX0_makeBase_24 : decode cX0_makeBase 24 = .ok (.getfield 30, 3) := by decide +kernel
theorem dX0_makeBase_27 : decode cX0_makeBase 27 = .ok (.iload_n 3, 1) := by decide +kernel
theorem dX0_makeBase_28 : decode cX0_makeBase 28 = .ok (.iaload, 1) := by decide +kernel
theorem dX0_makeBase_29 : decode cX0_makeBase 29 = .ok (.aload_n 0, 1) := by decide +kernel
theorem dX0_makeBase_30 : decode cX0_makeBase 30 = .ok (.getfield 27, 3) := by decide +kernel
theorem dX0_makeBase_33 : decode cX0_makeBase 33 = .ok (.iload_n 3, 1) := by decide +kernel
theorem dX0_makeBase_34 : decode cX0_makeBase 34 = .ok (.aaload, 1) := by decide +kernel
theorem dX0_makeBase_35 : decode cX0_makeBase 35 = .ok (.iload_n 2, 1) := by decide +kernel
theorem dX0_makeBase_36 : decode cX0_makeBase 36 = .ok (.laload, 1) := by decide +kernel
theorem dX0_makeBase_37 : decode cX0_makeBase 37 = .ok (.lneg, 1) := by decide +kernel
theorem dX0_makeBase_38 : decode cX0_makeBase 38 = .ok (.lastore, 1) := by decide +kernel
theorem dX0_makeBase_39 : decode cX0_makeBase 39 = .ok (.iinc 3 1, 3) := by decide +kernel
theorem dX0_makeBase_42 : decode cX0_makeBase 42 = .ok (.goto (-28), 3) := by decide +kernel
theorem dX0_makeBase_45 : decode cX0_makeBase 45 = .ok (.lconst 0, 1) := by decide +kernel
theorem dX0_makeBase_46 : decode cX0_makeBase 46 = .ok (.lstore_n 3, 1) := by decide +kernel
theorem dX0_makeBase_47 : decode cX0_makeBase 47 = .ok (.iconst 0, 1) := by decide +kernel
theorem dX0_makeBase_48 : decode cX0_makeBase 48 = .ok (.istore 5, 2) := by decide +kernel
theorem dX0_makeBase_50 : decode cX0_makeBase 50 = .ok (.iload 5, 2) := by decide +kernel
theorem dX0_makeBase_52 : decode cX0_makeBase 52 = .ok (.aload_n 0, 1) := by decide +kernel
theorem dX0_makeBase_53 : decode cX0_makeBase 53 = .ok (.getfield 40, 3) := by decide +kernel
theorem dX0_makeBase_56 : decode cX0_makeBase 56 = .ok (.if_icmp .ge 18, 3) := by decide +kernel
theorem dX0_makeBase_59 : decode cX0_makeBase 59 = .ok (.lload_n 3, 1) := by decide +kernel
theorem dX0_makeBase_60 : decode cX0_makeBase 60 = .ok (.aload_n 1, 1) := by decide +kernel
theorem dX0_makeBase_61 : decode cX0_makeBase 61 = .ok (.iload 5, 2) := by decide +kernel
theorem dX0_makeBase_63 : decode cX0_makeBase 63 = .ok (.laload, 1) := by decide +kernel
theorem dX0_makeBase_64 : decode cX0_makeBase 64 = .ok (.invokestatic 96, 3) := by decide +kernel
theorem dX0_makeBase_67 : decode cX0_makeBase 67 = .ok (.lstore_n 3, 1) := by decide +kernel
theorem dX0_makeBase_68 : decode cX0_makeBase 68 = .ok (.iinc 5 1, 3) := by decide +kernel
theorem dX0_makeBase_71 : decode cX0_makeBase 71 = .ok (.goto (-21), 3) := by decide +kernel
theorem dX0_makeBase_74 : decode cX0_makeBase 74 = .ok (.aload_n 0, 1) := by decide +kernel
theorem dX0_makeBase_75 : decode cX0_makeBase 75 = .ok (.getfield 43, 3) := by decide +kernel
theorem dX0_makeBase_78 : decode cX0_makeBase 78 = .ok (.lconst 0, 1) := by decide +kernel
theorem dX0_makeBase_79 : decode cX0_makeBase 79 = .ok (.lcmp, 1) := by decide +kernel
theorem dX0_makeBase_80 : decode cX0_makeBase 80 = .ok (.ifCond .ge 8, 3) := by decide +kernel
theorem dX0_makeBase_83 : decode cX0_makeBase 83 = .ok (.lload_n 3, 1) := by decide +kernel
theorem dX0_makeBase_84 : decode cX0_makeBase 84 = .ok (.lneg, 1) := by decide +kernel
theorem dX0_makeBase_85 : decode cX0_makeBase 85 = .ok (.goto 4, 3) := by decide +kernel
theorem dX0_makeBase_88 : decode cX0_makeBase 88 = .ok (.lload_n 3, 1) := by decide +kernel
theorem dX0_makeBase_89 : decode cX0_makeBase 89 = .ok (.lstore 5, 2) := by decide +kernel
theorem dX0_makeBase_91 : decode cX0_makeBase 91 = .ok (.iconst 0, 1) := by decide +kernel
theorem dX0_makeBase_92 : decode cX0_makeBase 92 = .ok (.istore 7, 2) := by decide +kernel
theorem dX0_makeBase_94 : decode cX0_makeBase 94 = .ok (.iload 7, 2) := by decide +kernel
theorem dX0_makeBase_96 : decode cX0_makeBase 96 = .ok (.aload_n 0, 1) := by decide +kernel
theorem dX0_makeBase_97 : decode cX0_makeBase 97 = .ok (.getfield 40, 3) := by decide +kernel
theorem dX0_makeBase_100 : decode cX0_makeBase 100 = .ok (.if_icmp .ge 22, 3) := by decide +kernel
theorem dX0_makeBase_103 : decode cX0_makeBase 103 = .ok (.aload_n 1, 1) := by decide +kernel
theorem dX0_makeBase_104 : decode cX0_makeBase 104 = .ok (.iload 7, 2) := by decide +kernel
theorem dX0_makeBase_106 : decode cX0_makeBase 106 = .ok (.aload_n 1, 1) := by decide +kernel
theorem dX0_makeBase_107 : decode cX0_makeBase 107 = .ok (.iload 7, 2) := by decide +kernel
theorem dX0_makeBase_109 : decode cX0_makeBase 109 = .ok (.laload, 1) := by decide +kernel
theorem dX0_makeBase_110 : decode cX0_makeBase 110 = .ok (.lload 5, 2) := by decide +kernel
theorem dX0_makeBase_112 : decode cX0_makeBase 112 = .ok (.invokestatic 86, 3) := by decide +kernel
theorem dX0_makeBase_115 : decode cX0_makeBase 115 = .ok (.lastore, 1) := by decide +kernel
theorem dX0_makeBase_116 : decode cX0_makeBase 116 = .ok (.iinc 7 1, 3) := by decide +kernel
theorem dX0_makeBase_119 : decode cX0_makeBase 119 = .ok (.goto (-25), 3) := by decide +kernel
theorem dX0_makeBase_122 : decode cX0_makeBase 122 = .ok (.return_, 1) := by decide +kernel
theorem dX0_commonDivisor_0 : decode cX0_commonDivisor 0 = .ok (.lload_n 0, 1) := by decide +kernel
theorem dX0_commonDivisor_1 : decode cX0_commonDivisor 1 = .ok (.invokestatic 99, 3) := by decide +kernel
theorem dX0_commonDivisor_4 : decode cX0_commonDivisor 4 = .ok (.lstore 4, 2) := by decide +kernel
theorem dX0_commonDivisor_6 : decode cX0_commonDivisor 6 = .ok (.lload_n 2, 1) := by decide +kernel
theorem dX0_commonDivisor_7 : decode cX0_commonDivisor 7 = .ok (.invokestatic 99, 3) := by decide +kernel
theorem dX0_commonDivisor_10 : decode cX0_commonDivisor 10 = .ok (.lstore 6, 2) := by decide +kernel
theorem dX0_commonDivisor_12 : decode cX0_commonDivisor 12 = .ok (.iconst 0, 1) := by decide +kernel
theorem dX0_commonDivisor_13 : decode cX0_commonDivisor 13 = .ok (.istore 8, 2) := by decide +kernel
theorem dX0_commonDivisor_15 : decode cX0_commonDivisor 15 = .ok (.iload 8, 2) := by decide +kernel
theorem dX0_commonDivisor_17 : decode cX0_commonDivisor 17 = .ok (.sipush 200, 3) := by decide +kernel
theorem dX0_commonDivisor_20 : decode cX0_commonDivisor 20 = .ok (.if_icmp .ge 31, 3) := by decide +kernel
theorem dX0_commonDivisor_23 : decode cX0_commonDivisor 23 = .ok (.lload 6, 2) := by decide +kernel
theorem dX0_commonDivisor_25 : decode cX0_commonDivisor 25 = .ok (.lconst 0, 1) := by decide +kernel
theorem dX0_commonDivisor_26 : decode cX0_commonDivisor 26 = .ok (.lcmp, 1) := by decide +kernel
theorem dX0_commonDivisor_27 : decode cX0_commonDivisor 27 = .ok (.ifCond .eq 24, 3) := by decide +kernel
theorem dX0_commonDivisor_30 : decode cX0_commonDivisor 30 = .ok (.lload 4, 2) := by decide +kernel
theorem dX0_commonDivisor_32 : decode cX0_commonDivisor 32 = .ok (.lload 6, 2) := by decide +kernel
theorem dX0_commonDivisor_34 : decode cX0_commonDivisor 34 = .ok (.lrem, 1) := by decide +kernel
theorem dX0_commonDivisor_35 : decode cX0_commonDivisor 35 = .ok (.lstore 9, 2) := by decide +kernel
theorem dX0_commonDivisor_37 : decode cX0_commonDivisor 37 = .ok (.lload 6, 2) := by decide +kernel
theorem dX0_commonDivisor_39 : decode cX0_commonDivisor 39 = .ok (.lstore 4, 2) := by decide +kernel
theorem dX0_commonDivisor_41 : decode cX0_commonDivisor 41 = .ok (.lload 9, 2) := by decide +kernel
theorem dX0_commonDivisor_43 : decode cX0_commonDivisor 43 = .ok (.lstore 6, 2) := by decide +kernel
theorem dX0_commonDivisor_45 : decode cX0_commonDivisor 45 = .ok (.iinc 8 1, 3) := by decide +kernel
theorem dX0_commonDivisor_48 : decode cX0_commonDivisor 48 = .ok (.goto (-33), 3) := by decide +kernel
theorem dX0_commonDivisor_51 : decode cX0_commonDivisor 51 = .ok (.lload 4, 2) := by decide +kernel
theorem dX0_commonDivisor_53 : decode cX0_commonDivisor 53 = .ok (.lreturn, 1) := by decide +kernel
theorem dX0_judge_0 : decode cX0_judge 0 = .ok (.aload_n 0, 1) := by decide +kernel
theorem dX0_judge_1 : decode cX0_judge 1 = .ok (.getfield 20, 3) := by decide +kernel
theorem dX0_judge_4 : decode cX0_judge 4 = .ok (.ifCond .ne 5, 3) := by decide +kernel
theorem dX0_judge_7 : decode cX0_judge 7 = .ok (.iconst 1, 1) := by decide +kernel
theorem dX0_judge_8 : decode cX0_judge 8 = .ok (.ireturn, 1) := by decide +kernel
theorem dX0_judge_9 : decode cX0_judge 9 = .ok (.aload_n 0, 1) := by decide +kernel
theorem dX0_judge_10 : decode cX0_judge 10 = .ok (.getfield 20, 3) := by decide +kernel
theorem dX0_judge_13 : decode cX0_judge 13 = .ok (.iconst 1, 1) := by decide +kernel
theorem dX0_judge_14 : decode cX0_judge 14 = .ok (.if_icmp .le 5, 3) := by decide +kernel
theorem dX0_judge_17 : decode cX0_judge 17 = .ok (.iconst 3, 1) := by decide +kernel
theorem dX0_judge_18 : decode cX0_judge 18 = .ok (.ireturn, 1) := by decide +kernel
theorem dX0_judge_19 : decode cX0_judge 19 = .ok (.iconst 0, 1) := by decide +kernel
theorem dX0_judge_20 : decode cX0_judge 20 = .ok (.istore_n 1, 1) := by decide +kernel
theorem dX0_judge_21 : decode cX0_judge 21 = .ok (.iload_n 1, 1) := by decide +kernel
theorem dX0_judge_22 : decode cX0_judge 22 = .ok (.aload_n 0, 1) := by decide +kernel
theorem dX0_judge_23 : decode cX0_judge 23 = .ok (.getfield 40, 3) := by decide +kernel
theorem dX0_judge_26 : decode cX0_judge 26 = .ok (.if_icmp .ge 24, 3) := by decide +kernel
theorem dX0_judge_29 : decode cX0_judge 29 = .ok (.aload_n 0, 1) := by decide +kernel
theorem dX0_judge_30 : decode cX0_judge 30 = .ok (.getfield 17, 3) := by decide +kernel
theorem dX0_judge_33 : decode cX0_judge 33 = .ok (.iconst 0, 1) := by decide +kernel
theorem dX0_judge_34 : decode cX0_judge 34 = .ok (.aaload, 1) := by decide +kernel
theorem dX0_judge_35 : decode cX0_judge 35 = .ok (.iload_n 1, 1) := by decide +kernel
theorem dX0_judge_36 : decode cX0_judge 36 = .ok (.laload, 1) := by decide +kernel
theorem dX0_judge_37 : decode cX0_judge 37 = .ok (.lconst 0, 1) := by decide +kernel
theorem dX0_judge_38 : decode cX0_judge 38 = .ok (.lcmp, 1) := by decide +kernel
theorem dX0_judge_39 : decode cX0_judge 39 = .ok (.ifCond .gt 5, 3) := by decide +kernel
theorem dX0_judge_42 : decode cX0_judge 42 = .ok (.iconst 2, 1) := by decide +kernel
theorem dX0_judge_43 : decode cX0_judge 43 = .ok (.ireturn, 1) := by decide +kernel
theorem dX0_judge_44 : decode cX0_judge 44 = .ok (.iinc 1 1, 3) := by decide +kernel
theorem dX0_judge_47 : decode cX0_judge 47 = .ok (.goto (-26), 3) := by decide +kernel
theorem dX0_judge_50 : decode cX0_judge 50 = .ok (.iconst 0, 1) := by decide +kernel
theorem dX0_judge_51 : decode cX0_judge 51 = .ok (.ireturn, 1) := by decide +kernel
theorem dX0_forget_0 : decode cX0_forget 0 = .ok (.aload_n 0, 1) := by decide +kernel
theorem dX0_forget_1 : decode cX0_forget 1 = .ok (.iconst 0, 1) := by decide +kernel
theorem dX0_forget_2 : decode cX0_forget 2 = .ok (.putfield 20, 3) := by decide +kernel
theorem dX0_forget_5 : decode cX0_forget 5 = .ok (.aload_n 0, 1) := by decide +kernel
theorem dX0_forget_6 : decode cX0_forget 6 = .ok (.iconst (-1), 1) := by decide +kernel
theorem dX0_forget_7 : decode cX0_forget 7 = .ok (.putfield 24, 3) := by decide +kernel
theorem dX0_forget_10 : decode cX0_forget 10 = .ok (.return_, 1) := by decide +kernel
end
section
theorem dX1_clear_0 : decode cX1_clear 0 = .ok (.aload_n 0, 1) := by decide +kernel
theorem dX1_clear_1 : decode cX1_clear 1 = .ok (.iconst 0, 1) := by decide +kernel
theorem dX1_clear_2 : decode cX1_clear 2 = .ok (.putfield 29, 3) := by decide +kernel
theorem dX1_clear_5 : decode cX1_clear 5 = .ok (.aload_n 0, 1) := by decide +kernel
theorem dX1_clear_6 : decode cX1_clear 6 = .ok (.iconst 0, 1) := by decide +kernel
theorem dX1_clear_7 : decode cX1_clear 7 = .ok (.putfield 33, 3) := by decide +kernel
theorem dX1_clear_10 : decode cX1_clear 10 = .ok (.aload_n 0, 1) := by decide +kernel
theorem dX1_clear_11 : decode cX1_clear 11 = .ok (.iconst 0, 1) := by decide +kernel
theorem dX1_clear_12 : decode cX1_clear 12 = .ok (.putfield 36, 3) := by decide +kernel
theorem dX1_clear_15 : decode cX1_clear 15 = .ok (.aload_n 0, 1) := by decide +kernel
theorem dX1_clear_16 : decode cX1_clear 16 = .ok (.iconst 0, 1) := by decide +kernel
theorem dX1_clear_17 : decode cX1_clear 17 = .ok (.putfield 39, 3) := by decide +kernel
theorem dX1_clear_20 : decode cX1_clear 20 = .ok (.return_, 1) := by decide +kernel
theorem dX1_admitCharge_0 : decode cX1_admitCharge 0 = .ok (.aload_n 0, 1) := by decide +kernel
theorem dX1_admitCharge_1 : decode cX1_admitCharge 1 = .ok (.aload_n 0, 1) := by decide +kernel
theorem dX1_admitCharge_2 : decode cX1_admitCharge 2 = .ok (.getfield 39, 3) := by decide +kernel
theorem dX1_admitCharge_5 : decode cX1_admitCharge 5 = .ok (.ifCond .ne 11, 3) := by decide +kernel
theorem dX1_admitCharge_8 : decode cX1_admitCharge 8 = .ok (.aload_n 0, 1) := by decide +kernel
theorem dX1_admitCharge_9 : decode cX1_admitCharge 9 = .ok (.getfield 36, 3) := by decide +kernel
theorem dX1_admitCharge_12 : decode cX1_admitCharge 12 = .ok (.iconst 5, 1) := by decide +kernel
theorem dX1_admitCharge_13 : decode cX1_admitCharge 13 = .ok (.if_icmp .ge 7, 3) := by decide +kernel
theorem dX1_admitCharge_16 : decode cX1_admitCharge 16 = .ok (.iconst 1, 1) := by decide +kernel
theorem dX1_admitCharge_17 : decode cX1_admitCharge 17 = .ok (.goto 4, 3) := by decide +kernel
theorem dX1_admitCharge_20 : decode cX1_admitCharge 20 = .ok (.iconst 0, 1) := by decide +kernel
theorem dX1_admitCharge_21 : decode cX1_admitCharge 21 = .ok (.putfield 39, 3) := by decide +kernel
theorem dX1_admitCharge_24 : decode cX1_admitCharge 24 = .ok (.aload_n 0, 1) := by decide +kernel
theorem dX1_admitCharge_25 : decode cX1_admitCharge 25 = .ok (.getfield 39, 3) := by decide +kernel
theorem dX1_admitCharge_28 : decode cX1_admitCharge 28 = .ok (.ireturn, 1) := by decide +kernel
theorem dX1_elementKind_0 : decode cX1_elementKind 0 = .ok (.iconst 0, 1) := by decide +kernel
theorem dX1_elementKind_1 : decode cX1_elementKind 1 = .ok (.istore_n 2, 1) := by decide +kernel
theorem dX1_elementKind_2 : decode cX1_elementKind 2 = .ok (.iload_n 2, 1) := by decide +kernel
theorem dX1_elementKind_3 : decode cX1_elementKind 3 = .ok (.aload_n 0, 1) := by decide +kernel
theorem dX1_elementKind_4 : decode cX1_elementKind 4 = .ok (.getfield 36, 3) := by decide +kernel
theorem dX1_elementKind_7 : decode cX1_elementKind 7 = .ok (.if_icmp .ge 21, 3) := by decide +kernel
theorem dX1_elementKind_10 : decode cX1_elementKind 10 = .ok (.aload_n 0, 1) := by decide +kernel
theorem dX1_elementKind_11 : decode cX1_elementKind 11 = .ok (.getfield 9, 3) := by decide +kernel
theorem dX1_elementKind_14 : decode cX1_elementKind 14 = .ok (.iload_n 2, 1) := by decide +kernel
theorem dX1_elementKind_15 : decode cX1_elementKind 15 = .ok (.iaload, 1) := by decide +kernel
theorem dX1_elementKind_16 : decode cX1_elementKind 16 = .ok (.iload_n 1, 1) := by decide +kernel
theorem dX1_elementKind_17 : decode cX1_elementKind 17 = .ok (.if_icmp .ne 5, 3) := by decide +kernel
theorem dX1_elementKind_20 : decode cX1_elementKind 20 = .ok (.iload_n 2, 1) := by decide +kernel
theorem dX1_elementKind_21 : decode cX1_elementKind 21 = .ok (.ireturn, 1) := by decide +kernel
theorem dX1_elementKind_22 : decode cX1_elementKind 22 = .ok (.iinc 2 1, 3) := by decide +kernel
theorem dX1_elementKind_25 : decode cX1_elementKind 25 = .ok (.goto (-23), 3) := by decide +kernel
theorem dX1_elementKind_28 : decode cX1_elementKind 28 = .ok (.aload_n 0, 1) := by decide +kernel
theorem dX1_elementKind_29 : decode cX1_elementKind 29 = .ok (.invokevirtual 43, 3) := by decide +kernel
theorem dX1_elementKind_32 : decode cX1_elementKind 32 = .ok (.iconst 5, 1) := by decide +kernel
theorem dX1_elementKind_33 : decode cX1_elementKind 33 = .ok (.if_icmp .lt 5, 3) := by decide +kernel
theorem dX1_elementKind_36 : decode cX1_elementKind 36 = .ok (.iconst (-1), 1) := by decide +kernel
theorem dX1_elementKind_37 : decode cX1_elementKind 37 = .ok (.ireturn, 1) := by decide +kernel
theorem dX1_elementKind_38 : decode cX1_elementKind 38 = .ok (.aload_n 0, 1) := by decide +kernel
theorem dX1_elementKind_39 : decode cX1_elementKind 39 = .ok (.getfield 9, 3) := by decide +kernel
theorem dX1_elementKind_42 : decode cX1_elementKind 42 = .ok (.aload_n 0, 1) := by decide +kernel
theorem dX1_elementKind_43 : decode cX1_elementKind 43 = .ok (.getfield 36, 3) := by decide +kernel
theorem dX1_elementKind_46 : decode cX1_elementKind 46 = .ok (.iload_n 1, 1) := by decide +kernel
theorem dX1_elementKind_47 : decode cX1_elementKind 47 = .ok (.iastore, 1) := by decide +kernel
theorem dX1_elementKind_48 : decode cX1_elementKind 48 = .ok (.aload_n 0, 1) := by decide +kernel
theorem dX1_elementKind_49 : decode cX1_elementKind 49 = .ok (.dup, 1) := by decide +kernel
theorem dX1_elementKind_50 : decode cX1_elementKind 50 = .ok (.getfield 36, 3) := by decide +kernel
theorem dX1_elementKind_53 : decode cX1_elementKind 53 = .ok (.iconst 1, 1) := by decide +kernel
theorem dX1_elementKind_54 : decode cX1_elementKind 54 = .ok (.iadd, 1) := by decide +kernel
theorem dX1_elementKind_55 : decode cX1_elementKind 55 = .ok (.putfield 36, 3) := by decide +kernel
theorem dX1_elementKind_58 : decode cX1_elementKind 58 = .ok (.aload_n 0, 1) := by decide +kernel
theorem dX1_elementKind_59 : decode cX1_elementKind 59 = .ok (.getfield 36, 3) := by decide +kernel
theorem dX1_elementKind_62 : decode cX1_elementKind 62 = .ok (.iconst 1, 1) := by decide +kernel
theorem dX1_elementKind_63 : decode cX1_elementKind 63 = .ok (.isub, 1) := by decide +kernel
theorem dX1_elementKind_64 : decode cX1_elementKind 64 = .ok (.ireturn, 1) := by decide +kernel
theorem dX1_kindCount_0 : decode cX1_kindCount 0 = .ok (.aload_n 0, 1) := by decide +kernel
theorem dX1_kindCount_1 : decode cX1_kindCount 1 = .ok (.getfield 39, 3) := by decide +kernel
theorem dX1_kindCount_4 : decode cX1_kindCount 4 = .ok (.ifCond .eq 12, 3) := by decide +kernel
theorem dX1_kindCount_7 : decode cX1_kindCount 7 = .ok (.aload_n 0, 1) := by decide +kernel
theorem dX1_kindCount_8 : decode cX1_kindCount 8 = .ok (.getfield 36, 3) := by decide +kernel
theorem dX1_kindCount_11 : decode cX1_kindCount 11 = .ok (.iconst 1, 1) := by decide +kernel
theorem dX1_kindCount_12 : decode cX1_kindCount 12 = .ok (.iadd, 1) := by decide +kernel
theorem dX1_kindCount_13 : decode cX1_kindCount 13 = .ok (.goto 7, 3) := by decide +kernel
theorem dX1_kindCount_16 : decode cX1_kindCount 16 = .ok (.aload_n 0, 1) := by decide +kernel
theorem dX1_kindCount_17 : decode cX1_kindCount 17 = .ok (.getfield 36, 3) := by decide +kernel
theorem dX1_kindCount_20 : decode cX1_kindCount 20 = .ok (.ireturn, 1) := by decide +kernel
theorem dX1_addFormula_0 : decode cX1_addFormula 0 = .ok (.aload_n 0, 1) := by decide +kernel
theorem dX1_addFormula_1 : decode cX1_addFormula 1 = .ok (.getfield 29, 3) := by decide +kernel
theorem dX1_addFormula_4 : decode cX1_addFormula 4 = .ok (.bipush 6, 2) := by decide +kernel
theorem dX1_addFormula_6 : decode cX1_addFormula 6 = .ok (.if_icmp .ge 76, 3) := by decide +kernel
theorem dX1_addFormula_9 : decode cX1_addFormula 9 = .ok (.iconst 0, 1) := by decide +kernel
theorem dX1_addFormula_10 : decode cX1_addFormula 10 = .ok (.istore 5, 2) := by decide +kernel
theorem dX1_addFormula_12 : decode cX1_addFormula 12 = .ok (.iload 5, 2) := by decide +kernel
theorem dX1_addFormula_14 : decode cX1_addFormula 14 = .ok (.iconst 5, 1) := by decide +kernel
theorem dX1_addFormula_15 : decode cX1_addFormula 15 = .ok (.if_icmp .ge 26, 3) := by decide +kernel
theorem dX1_addFormula_18 : decode cX1_addFormula 18 = .ok (.aload_n 0, 1) := by decide +kernel
theorem dX1_addFormula_19 : decode cX1_addFormula 19 = .ok (.getfield 17, 3) := by decide +kernel
theorem dX1_addFormula_22 : decode cX1_addFormula 22 = .ok (.aload_n 0, 1) := by decide +kernel
theorem dX1_addFormula_23 : decode cX1_addFormula 23 = .ok (.getfield 29, 3) := by decide +kernel
theorem dX1_addFormula_26 : decode cX1_addFormula 26 = .ok (.aaload, 1) := by decide +kernel
theorem dX1_addFormula_27 : decode cX1_addFormula 27 = .ok (.iload 5, 2) := by decide +kernel
theorem dX1_addFormula_29 : decode cX1_addFormula 29 = .ok (.aload_n 3, 1) := by decide +kernel
theorem dX1_addFormula_30 : decode cX1_addFormula 30 = .ok (.iload 5, 2) := by decide +kernel
theorem dX1_addFormula_32 : decode cX1_addFormula 32 = .ok (.laload, 1) := by decide +kernel
theorem dX1_addFormula_33 : decode cX1_addFormula 33 = .ok (.l2i, 1) := by decide +kernel
theorem dX1_addFormula_34 : decode cX1_addFormula 34 = .ok (.iastore, 1) := by decide +kernel
theorem dX1_addFormula_35 : decode cX1_addFormula 35 = .ok (.iinc 5 1, 3) := by decide +kernel
theorem dX1_addFormula_38 : decode cX1_addFormula 38 = .ok (.goto (-26), 3) := by decide +kernel
theorem dX1_addFormula_41 : decode cX1_addFormula 41 = .ok (.aload_n 0, 1) := by decide +kernel
theorem dX1_addFormula_42 : decode cX1_addFormula 42 = .ok (.getfield 20, 3) := by decide +kernel
theorem dX1_addFormula_45 : decode cX1_addFormula 45 = .ok (.aload_n 0, 1) := by decide +kernel
theorem dX1_addFormula_46 : decode cX1_addFormula 46 = .ok (.getfield 29, 3) := by decide +kernel
theorem dX1_addFormula_49 : decode cX1_addFormula 49 = .ok (.iload 4, 2) := by decide +kernel
theorem dX1_addFormula_51 : decode cX1_addFormula 51 = .ok (.iastore, 1) := by decide +kernel
theorem dX1_addFormula_52 : decode cX1_addFormula 52 = .ok (.aload_n 0, 1) := by decide +kernel
theorem dX1_addFormula_53 : decode cX1_addFormula 53 = .ok (.getfield 23, 3) := by decide +kernel
theorem dX1_addFormula_56 : decode cX1_addFormula 56 = .ok (.aload_n 0, 1) := by decide +kernel
theorem dX1_addFormula_57 : decode cX1_addFormula 57 = .ok (.getfield 29, 3) := by decide +kernel
theorem dX1_addFormula_60 : decode cX1_addFormula 60 = .ok (.iload_n 1, 1) := by decide +kernel
theorem dX1_addFormula_61 : decode cX1_addFormula 61 = .ok (.iastore, 1) := by decide +kernel
theorem dX1_addFormula_62 : decode cX1_addFormula 62 = .ok (.aload_n 0, 1) := by decide +kernel
theorem dX1_addFormula_63 : decode cX1_addFormula 63 = .ok (.getfield 26, 3) := by decide +kernel
theorem dX1_addFormula_66 : decode cX1_addFormula 66 = .ok (.aload_n 0, 1) := by decide +kernel
theorem dX1_addFormula_67 : decode cX1_addFormula 67 = .ok (.getfield 29, 3) := by decide +kernel
theorem dX1_addFormula_70 : decode cX1_addFormula 70 = .ok (.iload_n 2, 1) := by decide +kernel
theorem dX1_addFormula_71 : decode cX1_addFormula 71 = .ok (.iastore, 1) := by decide +kernel
theorem dX1_addFormula_72 : decode cX1_addFormula 72 = .ok (.aload_n 0, 1) := by decide +kernel
theorem dX1_addFormula_73 : decode cX1_addFormula 73 = .ok (.dup, 1) := by decide +kernel
theorem dX1_addFormula_74 : decode cX1_addFormula 74 = .ok (.getfield 29, 3) := by decide +kernel
theorem dX1_addFormula_77 : decode cX1_addFormula 77 = .ok (.iconst 1, 1) := by decide +kernel
theorem dX1_addFormula_78 : decode cX1_addFormula 78 = .ok (.iadd, 1) := by decide +kernel
theorem dX1_addFormula_79 : decode cX1_addFormula 79 = .ok (.putfield 29, 3) := by decide +kernel
theorem dX1_addFormula_82 : decode cX1_addFormula 82 = .ok (.return_, 1) := by decide +kernel
theorem dX1_share_0 : decode cX1_share 0 = .ok (.aload_n 0, 1) := by decide +kernel
theorem dX1_share_1 : decode cX1_share 1 = .ok (.iload_n 1, 1) := by decide +kernel
theorem dX1_share_2 : decode cX1_share 2 = .ok (.invokevirtual 47, 3) := by decide +kernel
theorem dX1_share_5 : decode cX1_share 5 = .ok (.ifCond .ne 5, 3) := by decide +kernel
theorem dX1_share_8 : decode cX1_share 8 = .ok (.lconst 0, 1) := by decide +kernel
theorem dX1_share_9 : decode cX1_share 9 = .ok (.lreturn, 1) := by decide +kernel
theorem dX1_share_10 : decode cX1_share 10 = .ok (.lload_n 3, 1) := by decide +kernel
theorem dX1_share_11 : decode cX1_share 11 = .ok (.aload_n 0, 1) := by decide +kernel
theorem dX1_share_12 : decode cX1_share 12 = .ok (.iload_n 1, 1) := by decide +kernel
theorem dX1_share_13 : decode cX1_share 13 = .ok (.iload_n 2, 1) := by decide +kernel
theorem dX1_share_14 : decode cX1_share 14 = .ok (.invokevirtual 51, 3) := by decide +kernel
theorem dX1_share_17 : decode cX1_share 17 = .ok (.i2l, 1) := by decide +kernel
theorem dX1_share_18 : decode cX1_share 18 = .ok (.lmul, 1) := by decide +kernel
theorem dX1_share_19 : decode cX1_share 19 = .ok (.lstore 5, 2) := by decide +kernel
theorem dX1_share_21 : decode cX1_share 21 = .ok (.aload_n 0, 1) := by decide +kernel
theorem dX1_share_22 : decode cX1_share 22 = .ok (.iload_n 1, 1) := by decide +kernel
theorem dX1_share_23 : decode cX1_share 23 = .ok (.invokevirtual 55, 3) := by decide +kernel
theorem dX1_share_26 : decode cX1_share 26 = .ok (.ifCond .eq 9, 3) := by decide +kernel
theorem dX1_share_29 : decode cX1_share 29 = .ok (.lload 5, 2) := by decide +kernel
theorem dX1_share_31 : decode cX1_share 31 = .ok (.lneg, 1) := by decide +kernel
theorem dX1_share_32 : decode cX1_share 32 = .ok (.goto 5, 3) := by decide +kernel
theorem dX1_share_35 : decode cX1_share 35 = .ok (.lload 5, 2) := by decide +kernel
theorem dX1_share_37 : decode cX1_share 37 = .ok (.lreturn, 1) := by decide +kernel
theorem dX1_containsFormula_0 : decode cX1_containsFormula 0 = .ok (.iload_n 1, 1) := by decide +kernel
theorem dX1_containsFormula_1 : decode cX1_containsFormula 1 = .ok (.ifCond .lt 15, 3) := by decide +kernel
theorem dX1_containsFormula_4 : decode cX1_containsFormula 4 = .ok (.iload_n 1, 1) := by decide +kernel
theorem dX1_containsFormula_5 : decode cX1_containsFormula 5 = .ok (.aload_n 0, 1) := by decide +kernel
theorem dX1_containsFormula_6 : decode cX1_containsFormula 6 = .ok (.getfield 29, 3) := by decide +kernel
theorem dX1_containsFormula_9 : decode cX1_containsFormula 9 = .ok (.if_icmp .ge 7, 3) := by decide +kernel
theorem dX1_containsFormula_12 : decode cX1_containsFormula 12 = .ok (.iconst 1, 1) := by decide +kernel
theorem dX1_containsFormula_13 : decode cX1_containsFormula 13 = .ok (.goto 4, 3) := by decide +kernel
theorem dX1_containsFormula_16 : decode cX1_containsFormula 16 = .ok (.iconst 0, 1) := by decide +kernel
theorem dX1_containsFormula_17 : decode cX1_containsFormula 17 = .ok (.ireturn, 1) := by decide +kernel
theorem dX1_amount_0 : decode cX1_amount 0 = .ok (.iload_n 2, 1) := by decide +kernel
theorem dX1_amount_1 : decode cX1_amount 1 = .ok (.aload_n 0, 1) := by decide +kernel
theorem dX1_amount_2 : decode cX1_amount 2 = .ok (.getfield 36, 3) := by decide +kernel
theorem dX1_amount_5 : decode cX1_amount 5 = .ok (.if_icmp .ge 14, 3) := by decide +kernel
theorem dX1_amount_8 : decode cX1_amount 8 = .ok (.aload_n 0, 1) := by decide +kernel
theorem dX1_amount_9 : decode cX1_amount 9 = .ok (.getfield 17, 3) := by decide +kernel
theorem dX1_amount_12 : decode cX1_amount 12 = .ok (.iload_n 1, 1) := by decide +kernel
theorem dX1_amount_13 : decode cX1_amount 13 = .ok (.aaload, 1) := by decide +kernel
theorem dX1_amount_14 : decode cX1_amount 14 = .ok (.iload_n 2, 1) := by decide +kernel
theorem dX1_amount_15 : decode cX1_amount 15 = .ok (.iaload, 1) := by decide +kernel
theorem dX1_amount_16 : decode cX1_amount 16 = .ok (.goto 9, 3) := by decide +kernel
theorem dX1_amount_19 : decode cX1_amount 19 = .ok (.aload_n 0, 1) := by decide +kernel
theorem dX1_amount_20 : decode cX1_amount 20 = .ok (.getfield 20, 3) := by decide +kernel
theorem dX1_amount_23 : decode cX1_amount 23 = .ok (.iload_n 1, 1) := by decide +kernel
theorem dX1_amount_24 : decode cX1_amount 24 = .ok (.iaload, 1) := by decide +kernel
theorem dX1_amount_25 : decode cX1_amount 25 = .ok (.ireturn, 1) := by decide +kernel
theorem dX1_isProduct_0 : decode cX1_isProduct 0 = .ok (.iload_n 1, 1) := by decide +kernel
theorem dX1_isProduct_1 : decode cX1_isProduct 1 = .ok (.aload_n 0, 1) := by decide +kernel
theorem dX1_isProduct_2 : decode cX1_isProduct 2 = .ok (.getfield 33, 3) := by decide +kernel
theorem dX1_isProduct_5 : decode cX1_isProduct 5 = .ok (.if_icmp .lt 7, 3) := by decide +kernel
theorem dX1_isProduct_8 : decode cX1_isProduct 8 = .ok (.iconst 1, 1) := by decide +kernel
theorem dX1_isProduct_9 : decode cX1_isProduct 9 = .ok (.goto 4, 3) := by decide +kernel
theorem dX1_isProduct_12 : decode cX1_isProduct 12 = .ok (.iconst 0, 1) := by decide +kernel
theorem dX1_isProduct_13 : decode cX1_isProduct 13 = .ok (.ireturn, 1) := by decide +kernel
theorem dX1_containsKind_0 : decode cX1_containsKind 0 = .ok (.iload_n 1, 1) := by decide +kernel
theorem dX1_containsKind_1 : decode cX1_containsKind 1 = .ok (.ifCond .lt 15, 3) := by decide +kernel
theorem dX1_containsKind_4 : decode cX1_containsKind 4 = .ok (.iload_n 1, 1) := by decide +kernel
theorem dX1_containsKind_5 : decode cX1_containsKind 5 = .ok (.aload_n 0, 1) := by decide +kernel
theorem dX1_containsKind_6 : decode cX1_containsKind 6 = .ok (.invokevirtual 43, 3) := by decide +kernel
theorem dX1_containsKind_9 : decode cX1_containsKind 9 = .ok (.if_icmp .ge 7, 3) := by decide +kernel
theorem dX1_containsKind_12 : decode cX1_containsKind 12 = .ok (.iconst 1, 1) := by decide +kernel
theorem dX1_containsKind_13 : decode cX1_containsKind 13 = .ok (.goto 4, 3) := by decide +kernel
theorem dX1_containsKind_16 : decode cX1_containsKind 16 = .ok (.iconst 0, 1) := by decide +kernel
theorem dX1_containsKind_17 : decode cX1_containsKind 17 = .ok (.ireturn, 1) := by decide +kernel
theorem dX1_kindName_0 : decode cX1_kindName 0 = .ok (.iload_n 1, 1) := by decide +kernel
theorem dX1_kindName_1 : decode cX1_kindName 1 = .ok (.aload_n 0, 1) := by decide +kernel
theorem dX1_kindName_2 : decode cX1_kindName 2 = .ok (.getfield 36, 3) := by decide +kernel
theorem dX1_kindName_5 : decode cX1_kindName 5 = .ok (.if_icmp .ge 12, 3) := by decide +kernel
theorem dX1_kindName_8 : decode cX1_kindName 8 = .ok (.aload_n 0, 1) := by decide +kernel
theorem dX1_kindName_9 : decode cX1_kindName 9 = .ok (.getfield 9, 3) := by decide +kernel
theorem dX1_kindName_12 : decode cX1_kindName 12 = .ok (.iload_n 1, 1) := by decide +kernel
theorem dX1_kindName_13 : decode cX1_kindName 13 = .ok (.iaload, 1) := by decide +kernel
theorem dX1_kindName_14 : decode cX1_kindName 14 = .ok (.goto 4, 3) := by decide +kernel
theorem dX1_kindName_17 : decode cX1_kindName 17 = .ok (.iconst 0, 1) := by decide +kernel
theorem dX1_kindName_18 : decode cX1_kindName 18 = .ok (.ireturn, 1) := by decide +kernel
end
section
theorem dX2_write_0 : decode cX2_write 0 = .ok (.aload_n 0, 1) := by decide +kernel
theorem dX2_write_1 : decode cX2_write 1 = .ok (.iconst 0, 1) := by decide +kernel
theorem dX2_write_2 : decode cX2_write 2 = .ok (.putfield 15, 3) := by decide +kernel
theorem dX2_write_5 : decode cX2_write 5 = .ok (.iconst 0, 1) := by decide +kernel
theorem dX2_write_6 : decode cX2_write 6 = .ok (.istore 4, 2) := by decide +kernel
theorem dX2_write_8 : decode cX2_write 8 = .ok (.iload 4, 2) := by decide +kernel
theorem dX2_write_10 : decode cX2_write 10 = .ok (.aload_n 1, 1) := by decide +kernel
theorem dX2_write_11 : decode cX2_write 11 = .ok (.getfield 19, 3) := by decide +kernel
theorem dX2_write_14 : decode cX2_write 14 = .ok (.if_icmp .ge 95, 3) := by decide +kernel
theorem dX2_write_17 : decode cX2_write 17 = .ok (.iload 4, 2) := by decide +kernel
theorem dX2_write_19 : decode cX2_write 19 = .ok (.ifCond .le 23, 3) := by decide +kernel
theorem dX2_write_22 : decode cX2_write 22 = .ok (.aload_n 0, 1) := by decide +kernel
theorem dX2_write_23 : decode cX2_write 23 = .ok (.iload 4, 2) := by decide +kernel
theorem dX2_write_25 : decode cX2_write 25 = .ok (.aload_n 1, 1) := by decide +kernel
theorem dX2_write_26 : decode cX2_write 26 = .ok (.getfield 24, 3) := by decide +kernel
theorem dX2_write_29 : decode cX2_write 29 = .ok (.if_icmp .ne 8, 3) := by decide +kernel
theorem dX2_write_32 : decode cX2_write 32 = .ok (.bipush 61, 2) := by decide +kernel
theorem dX2_write_34 : decode cX2_write 34 = .ok (.goto 5, 3) := by decide +kernel
theorem dX2_write_37 : decode cX2_write 37 = .ok (.bipush 43, 2) := by decide +kernel
theorem dX2_write_39 : decode cX2_write 39 = .ok (.invokevirtual 27, 3) := by decide +kernel
theorem dX2_write_42 : decode cX2_write 42 = .ok (.aload_n 3, 1) := by decide +kernel
theorem dX2_write_43 : decode cX2_write 43 = .ok (.iload 4, 2) := by decide +kernel
theorem dX2_write_45 : decode cX2_write 45 = .ok (.laload, 1) := by decide +kernel
theorem dX2_write_46 : decode cX2_write 46 = .ok (.lconst 1, 1) := by decide +kernel
theorem dX2_write_47 : decode cX2_write 47 = .ok (.lcmp, 1) := by decide +kernel
theorem dX2_write_48 : decode cX2_write 48 = .ok (.ifCond .eq 17, 3) := by decide +kernel
theorem dX2_write_51 : decode cX2_write 51 = .ok (.aload_n 0, 1) := by decide +kernel
theorem dX2_write_52 : decode cX2_write 52 = .ok (.aload_n 3, 1) := by decide +kernel
theorem dX2_write_53 : decode cX2_write 53 = .ok (.iload 4, 2) := by decide +kernel
theorem dX2_write_55 : decode cX2_write 55 = .ok (.laload, 1) := by decide +kernel
theorem dX2_write_56 : decode cX2_write 56 = .ok (.invokevirtual 31, 3) := by decide +kernel
theorem dX2_write_59 : decode cX2_write 59 = .ok (.aload_n 0, 1) := by decide +kernel
theorem dX2_write_60 : decode cX2_write 60 = .ok (.bipush 32, 2) := by decide +kernel
theorem dX2_write_62 : decode cX2_write 62 = .ok (.invokevirtual 35, 3) := by decide +kernel
theorem dX2_write_65 : decode cX2_write 65 = .ok (.aload_n 1, 1) := by decide +kernel
theorem dX2_write_66 : decode cX2_write 66 = .ok (.getfield 38, 3) := by decide +kernel
theorem dX2_write_69 : decode cX2_write 69 = .ok (.iload 4, 2) := by decide +kernel
theorem dX2_write_71 : decode cX2_write 71 = .ok (.iaload, 1) := by decide +kernel
theorem dX2_write_72 : decode cX2_write 72 = .ok (.istore 5, 2) := by decide +kernel
theorem dX2_write_74 : decode cX2_write 74 = .ok (.iload 5, 2) := by decide +kernel
theorem dX2_write_76 : decode cX2_write 76 = .ok (.aload_n 1, 1) := by decide +kernel
theorem dX2_write_77 : decode cX2_write 77 = .ok (.getfield 42, 3) := by decide +kernel
theorem dX2_write_80 : decode cX2_write 80 = .ok (.iload 4, 2) := by decide +kernel
theorem dX2_write_82 : decode cX2_write 82 = .ok (.iaload, 1) := by decide +kernel
theorem dX2_write_83 : decode cX2_write 83 = .ok (.if_icmp .ge 20, 3) := by decide +kernel
theorem dX2_write_86 : decode cX2_write 86 = .ok (.aload_n 0, 1) := by decide +kernel
theorem dX2_write_87 : decode cX2_write 87 = .ok (.aload_n 2, 1) := by decide +kernel
theorem dX2_write_88 : decode cX2_write 88 = .ok (.getfield 45, 3) := by decide +kernel
theorem dX2_write_91 : decode cX2_write 91 = .ok (.iload 5, 2) := by decide +kernel
theorem dX2_write_93 : decode cX2_write 93 = .ok (.caload, 1) := by decide +kernel
theorem dX2_write_94 : decode cX2_write 94 = .ok (.invokevirtual 35, 3) := by decide +kernel
theorem dX2_write_97 : decode cX2_write 97 = .ok (.iinc 5 1, 3) := by decide +kernel
theorem dX2_write_100 : decode cX2_write 100 = .ok (.goto (-26), 3) := by decide +kernel
theorem dX2_write_103 : decode cX2_write 103 = .ok (.iinc 4 1, 3) := by decide +kernel
theorem dX2_write_106 : decode cX2_write 106 = .ok (.goto (-98), 3) := by decide +kernel
theorem dX2_write_109 : decode cX2_write 109 = .ok (.return_, 1) := by decide +kernel
theorem dX2_addSign_0 : decode cX2_addSign 0 = .ok (.aload_n 0, 1) := by decide +kernel
theorem dX2_addSign_1 : decode cX2_addSign 1 = .ok (.bipush 32, 2) := by decide +kernel
theorem dX2_addSign_3 : decode cX2_addSign 3 = .ok (.invokevirtual 35, 3) := by decide +kernel
theorem dX2_addSign_6 : decode cX2_addSign 6 = .ok (.aload_n 0, 1) := by decide +kernel
theorem dX2_addSign_7 : decode cX2_addSign 7 = .ok (.iload_n 1, 1) := by decide +kernel
theorem dX2_addSign_8 : decode cX2_addSign 8 = .ok (.invokevirtual 35, 3) := by decide +kernel
theorem dX2_addSign_11 : decode cX2_addSign 11 = .ok (.aload_n 0, 1) := by decide +kernel
theorem dX2_addSign_12 : decode cX2_addSign 12 = .ok (.bipush 32, 2) := by decide +kernel
theorem dX2_addSign_14 : decode cX2_addSign 14 = .ok (.invokevirtual 35, 3) := by decide +kernel
theorem dX2_addSign_17 : decode cX2_addSign 17 = .ok (.return_, 1) := by decide +kernel
theorem dX2_add_0 : decode cX2_add 0 = .ok (.aload_n 0, 1) := by decide +kernel
theorem dX2_add_1 : decode cX2_add 1 = .ok (.getfield 15, 3) := by decide +kernel
theorem dX2_add_4 : decode cX2_add 4 = .ok (.sipush 200, 3) := by decide +kernel
theorem dX2_add_7 : decode cX2_add 7 = .ok (.if_icmp .ge 23, 3) := by decide +kernel
theorem dX2_add_10 : decode cX2_add 10 = .ok (.aload_n 0, 1) := by decide +kernel
theorem dX2_add_11 : decode cX2_add 11 = .ok (.getfield 9, 3) := by decide +kernel
theorem dX2_add_14 : decode cX2_add 14 = .ok (.aload_n 0, 1) := by decide +kernel
theorem dX2_add_15 : decode cX2_add 15 = .ok (.getfield 15, 3) := by decide +kernel
theorem dX2_add_18 : decode cX2_add 18 = .ok (.iload_n 1, 1) := by decide +kernel
theorem dX2_add_19 : decode cX2_add 19 = .ok (.castore, 1) := by decide +kernel
theorem dX2_add_20 : decode cX2_add 20 = .ok (.aload_n 0, 1) := by decide +kernel
theorem dX2_add_21 : decode cX2_add 21 = .ok (.dup, 1) := by decide +kernel
theorem dX2_add_22 : decode cX2_add 22 = .ok (.getfield 15, 3) := by decide +kernel
theorem dX2_add_25 : decode cX2_add 25 = .ok (.iconst 1, 1) := by decide +kernel
theorem dX2_add_26 : decode cX2_add 26 = .ok (.iadd, 1) := by decide +kernel
theorem dX2_add_27 : decode cX2_add 27 = .ok (.putfield 15, 3) := by decide +kernel
theorem dX2_add_30 : decode cX2_add 30 = .ok (.return_, 1) := by decide +kernel
theorem dX2_addNumber_0 : decode cX2_addNumber 0 = .ok (.aload_n 0, 1) := by decide +kernel
theorem dX2_addNumber_1 : decode cX2_addNumber 1 = .ok (.getfield 15, 3) := by decide +kernel
theorem dX2_addNumber_4 : decode cX2_addNumber 4 = .ok (.istore_n 3, 1) := by decide +kernel
theorem dX2_addNumber_5 : decode cX2_addNumber 5 = .ok (.lload_n 1, 1) := by decide +kernel
theorem dX2_addNumber_6 : decode cX2_addNumber 6 = .ok (.lstore 4, 2) := by decide +kernel
theorem dX2_addNumber_8 : decode cX2_addNumber 8 = .ok (.iconst 0, 1) := by decide +kernel
theorem dX2_addNumber_9 : decode cX2_addNumber 9 = .ok (.istore 6, 2) := by decide +kernel
theorem dX2_addNumber_11 : decode cX2_addNumber 11 = .ok (.iload 6, 2) := by decide +kernel
theorem dX2_addNumber_13 : decode cX2_addNumber 13 = .ok (.bipush 19, 2) := by decide +kernel
theorem dX2_addNumber_15 : decode cX2_addNumber 15 = .ok (.if_icmp .ge 40, 3) := by decide +kernel
theorem dX2_addNumber_18 : decode cX2_addNumber 18 = .ok (.lload 4, 2) := by decide +kernel
theorem dX2_addNumber_20 : decode cX2_addNumber 20 = .ok (.lconst 0, 1) := by decide +kernel
theorem dX2_addNumber_21 : decode cX2_addNumber 21 = .ok (.lcmp, 1) := by decide +kernel
theorem dX2_addNumber_22 : decode cX2_addNumber 22 = .ok (.ifCond .le 33, 3) := by decide +kernel
theorem dX2_addNumber_25 : decode cX2_addNumber 25 = .ok (.aload_n 0, 1) := by decide +kernel
theorem dX2_addNumber_26 : decode cX2_addNumber 26 = .ok (.ldc2_w 48, 3) := by decide +kernel
theorem dX2_addNumber_29 : decode cX2_addNumber 29 = .ok (.lload 4, 2) := by decide +kernel
theorem dX2_addNumber_31 : decode cX2_addNumber 31 = .ok (.ldc2_w 50, 3) := by decide +kernel
theorem dX2_addNumber_34 : decode cX2_addNumber 34 = .ok (.lrem, 1) := by decide +kernel
theorem dX2_addNumber_35 : decode cX2_addNumber 35 = .ok (.ladd, 1) := by decide +kernel
theorem dX2_addNumber_36 : decode cX2_addNumber 36 = .ok (.l2i, 1) := by decide +kernel
theorem dX2_addNumber_37 : decode cX2_addNumber 37 = .ok (.i2c, 1) := by decide +kernel
theorem dX2_addNumber_38 : decode cX2_addNumber 38 = .ok (.invokevirtual 35, 3) := by decide +kernel
theorem dX2_addNumber_41 : decode cX2_addNumber 41 = .ok (.lload 4, 2) := by decide +kernel
theorem dX2_addNumber_43 : decode cX2_addNumber 43 = .ok (.ldc2_w 50, 3) := by decide +kernel
theorem dX2_addNumber_46 : decode cX2_addNumber 46 = .ok (.ldiv, 1) := by decide +kernel
theorem dX2_addNumber_47 : decode cX2_addNumber 47 = .ok (.lstore 4, 2) := by decide +kernel
theorem dX2_addNumber_49 : decode cX2_addNumber 49 = .ok (.iinc 6 1, 3) := by decide +kernel
theorem dX2_addNumber_52 : decode cX2_addNumber 52 = .ok (.goto (-41), 3) := by decide +kernel
theorem dX2_addNumber_55 : decode cX2_addNumber 55 = .ok (.aload_n 0, 1) := by decide +kernel
theorem dX2_addNumber_56 : decode cX2_addNumber 56 = .ok (.iload_n 3, 1) := by decide +kernel
theorem dX2_addNumber_57 : decode cX2_addNumber 57 = .ok (.invokevirtual 52, 3) := by decide +kernel
theorem dX2_addNumber_60 : decode cX2_addNumber 60 = .ok (.return_, 1) := by decide +kernel
theorem dX2_turnRound_0 : decode cX2_turnRound 0 = .ok (.aload_n 0, 1) := by decide +kernel
theorem dX2_turnRound_1 : decode cX2_turnRound 1 = .ok (.getfield 15, 3) := by decide +kernel
theorem dX2_turnRound_4 : decode cX2_turnRound 4 = .ok (.iconst 1, 1) := by decide +kernel
theorem dX2_turnRound_5 : decode cX2_turnRound 5 = .ok (.isub, 1) := by decide +kernel
theorem dX2_turnRound_6 : decode cX2_turnRound 6 = .ok (.istore_n 2, 1) := by decide +kernel
theorem dX2_turnRound_7 : decode cX2_turnRound 7 = .ok (.iload_n 1, 1) := by decide +kernel
theorem dX2_turnRound_8 : decode cX2_turnRound 8 = .ok (.istore_n 3, 1) := by decide +kernel
theorem dX2_turnRound_9 : decode cX2_turnRound 9 = .ok (.iload_n 3, 1) := by decide +kernel
theorem dX2_turnRound_10 : decode cX2_turnRound 10 = .ok (.iload_n 2, 1) := by decide +kernel
theorem dX2_turnRound_11 : decode cX2_turnRound 11 = .ok (.if_icmp .ge 40, 3) := by decide +kernel
theorem dX2_turnRound_14 : decode cX2_turnRound 14 = .ok (.aload_n 0, 1) := by decide +kernel
theorem dX2_turnRound_15 : decode cX2_turnRound 15 = .ok (.getfield 9, 3) := by decide +kernel
theorem dX2_turnRound_18 : decode cX2_turnRound 18 = .ok (.iload_n 3, 1) := by decide +kernel
theorem dX2_turnRound_19 : decode cX2_turnRound 19 = .ok (.caload, 1) := by decide +kernel
theorem dX2_turnRound_20 : decode cX2_turnRound 20 = .ok (.istore 4, 2) := by decide +kernel
theorem dX2_turnRound_22 : decode cX2_turnRound 22 = .ok (.aload_n 0, 1) := by decide +kernel
theorem dX2_turnRound_23 : decode cX2_turnRound 23 = .ok (.getfield 9, 3) := by decide +kernel
theorem dX2_turnRound_26 : decode cX2_turnRound 26 = .ok (.iload_n 3, 1) := by decide +kernel
theorem dX2_turnRound_27 : decode cX2_turnRound 27 = .ok (.aload_n 0, 1) := by decide +kernel
theorem dX2_turnRound_28 : decode cX2_turnRound 28 = .ok (.getfield 9, 3) := by decide +kernel
theorem dX2_turnRound_31 : decode cX2_turnRound 31 = .ok (.iload_n 2, 1) := by decide +kernel
theorem dX2_turnRound_32 : decode cX2_turnRound 32 = .ok (.caload, 1) := by decide +kernel
theorem dX2_turnRound_33 : decode cX2_turnRound 33 = .ok (.castore, 1) := by decide +kernel
theorem dX2_turnRound_34 : decode cX2_turnRound 34 = .ok (.aload_n 0, 1) := by decide +kernel
theorem dX2_turnRound_35 : decode cX2_turnRound 35 = .ok (.getfield 9, 3) := by decide +kernel
theorem dX2_turnRound_38 : decode cX2_turnRound 38 = .ok (.iload_n 2, 1) := by decide +kernel
theorem dX2_turnRound_39 : decode cX2_turnRound 39 = .ok (.iload 4, 2) := by decide +kernel
theorem dX2_turnRound_41 : decode cX2_turnRound 41 = .ok (.castore, 1) := by decide +kernel
theorem dX2_turnRound_42 : decode cX2_turnRound 42 = .ok (.iinc 2 (-1), 3) := by decide +kernel
theorem dX2_turnRound_45 : decode cX2_turnRound 45 = .ok (.iinc 3 1, 3) := by decide +kernel
theorem dX2_turnRound_48 : decode cX2_turnRound 48 = .ok (.goto (-39), 3) := by decide +kernel
theorem dX2_turnRound_51 : decode cX2_turnRound 51 = .ok (.return_, 1) := by decide +kernel
theorem dX2_characterAt_0 : decode cX2_characterAt 0 = .ok (.iload_n 1, 1) := by decide +kernel
theorem dX2_characterAt_1 : decode cX2_characterAt 1 = .ok (.ifCond .lt 20, 3) := by decide +kernel
theorem dX2_characterAt_4 : decode cX2_characterAt 4 = .ok (.iload_n 1, 1) := by decide +kernel
theorem dX2_characterAt_5 : decode cX2_characterAt 5 = .ok (.aload_n 0, 1) := by decide +kernel
theorem dX2_characterAt_6 : decode cX2_characterAt 6 = .ok (.getfield 15, 3) := by decide +kernel
theorem dX2_characterAt_9 : decode cX2_characterAt 9 = .ok (.if_icmp .ge 12, 3) := by decide +kernel
theorem dX2_characterAt_12 : decode cX2_characterAt 12 = .ok (.aload_n 0, 1) := by decide +kernel
theorem dX2_characterAt_13 : decode cX2_characterAt 13 = .ok (.getfield 9, 3) := by decide +kernel
theorem dX2_characterAt_16 : decode cX2_characterAt 16 = .ok (.iload_n 1, 1) := by decide +kernel
theorem dX2_characterAt_17 : decode cX2_characterAt 17 = .ok (.caload, 1) := by decide +kernel
theorem dX2_characterAt_18 : decode cX2_characterAt 18 = .ok (.goto 4, 3) := by decide +kernel
theorem dX2_characterAt_21 : decode cX2_characterAt 21 = .ok (.iconst (-1), 1) := by decide +kernel
theorem dX2_characterAt_22 : decode cX2_characterAt 22 = .ok (.ireturn, 1) := by decide +kernel
end
section
theorem dX3_readEquation_0 : decode cX3_readEquation 0 = .ok (.aload_n 0, 1) := by decide +kernel
theorem dX3_readEquation_1 : decode cX3_readEquation 1 = .ok (.iconst 0, 1) := by decide +kernel
theorem dX3_readEquation_2 : decode cX3_readEquation 2 = .ok (.putfield 25, 3) := by decide +kernel
theorem dX3_readEquation_5 : decode cX3_readEquation 5 = .ok (.aload_n 0, 1) := by decide +kernel
theorem dX3_readEquation_6 : decode cX3_readEquation 6 = .ok (.iconst (-1), 1) := by decide +kernel
theorem dX3_readEquation_7 : decode cX3_readEquation 7 = .ok (.putfield 29, 3) := by decide +kernel
theorem dX3_readEquation_10 : decode cX3_readEquation 10 = .ok (.aload_n 0, 1) := by decide +kernel
theorem dX3_readEquation_11 : decode cX3_readEquation 11 = .ok (.getfield 12, 3) := by decide +kernel
theorem dX3_readEquation_14 : decode cX3_readEquation 14 = .ok (.iconst 0, 1) := by decide +kernel
theorem dX3_readEquation_15 : decode cX3_readEquation 15 = .ok (.putfield 51, 3) := by decide +kernel
theorem dX3_readEquation_18 : decode cX3_readEquation 18 = .ok (.aload_n 0, 1) := by decide +kernel
theorem dX3_readEquation_19 : decode cX3_readEquation 19 = .ok (.getfield 21, 3) := by decide +kernel
theorem dX3_readEquation_22 : decode cX3_readEquation 22 = .ok (.invokevirtual 54, 3) := by decide +kernel
theorem dX3_readEquation_25 : decode cX3_readEquation 25 = .ok (.iconst 1, 1) := by decide +kernel
theorem dX3_readEquation_26 : decode cX3_readEquation 26 = .ok (.istore_n 1, 1) := by decide +kernel
theorem dX3_readEquation_27 : decode cX3_readEquation 27 = .ok (.iconst 0, 1) := by decide +kernel
theorem dX3_readEquation_28 : decode cX3_readEquation 28 = .ok (.istore_n 2, 1) := by decide +kernel
theorem dX3_readEquation_29 : decode cX3_readEquation 29 = .ok (.iload_n 2, 1) := by decide +kernel
theorem dX3_readEquation_30 : decode cX3_readEquation 30 = .ok (.bipush 6, 2) := by decide +kernel
theorem dX3_readEquation_32 : decode cX3_readEquation 32 = .ok (.if_icmp .gt 102, 3) := by decide +kernel
theorem dX3_readEquation_35 : decode cX3_readEquation 35 = .ok (.iload_n 1, 1) := by decide +kernel
theorem dX3_readEquation_36 : decode cX3_readEquation 36 = .ok (.ifCond .eq 98, 3) := by decide +kernel
theorem dX3_readEquation_39 : decode cX3_readEquation 39 = .ok (.aload_n 0, 1) := by decide +kernel
theorem dX3_readEquation_40 : decode cX3_readEquation 40 = .ok (.getfield 12, 3) := by decide +kernel
theorem dX3_readEquation_43 : decode cX3_readEquation 43 = .ok (.invokevirtual 57, 3) := by decide +kernel
theorem dX3_readEquation_46 : decode cX3_readEquation 46 = .ok (.aload_n 0, 1) := by decide +kernel
theorem dX3_readEquation_47 : decode cX3_readEquation 47 = .ok (.getfield 12, 3) := by decide +kernel
theorem dX3_readEquation_50 : decode cX3_readEquation 50 = .ok (.getfield 51, 3) := by decide +kernel
theorem dX3_readEquation_53 : decode cX3_readEquation 53 = .ok (.istore_n 3, 1) := by decide +kernel
theorem dX3_readEquation_54 : decode cX3_readEquation 54 = .ok (.aload_n 0, 1) := by decide +kernel
theorem dX3_readEquation_55 : decode cX3_readEquation 55 = .ok (.invokevirtual 60, 3) := by decide +kernel
theorem dX3_readEquation_58 : decode cX3_readEquation 58 = .ok (.aload_n 0, 1) := by decide +kernel
theorem dX3_readEquation_59 : decode cX3_readEquation 59 = .ok (.getfield 21, 3) := by decide +kernel
theorem dX3_readEquation_62 : decode cX3_readEquation 62 = .ok (.getfield 63, 3) := by decide +kernel
theorem dX3_readEquation_65 : decode cX3_readEquation 65 = .ok (.bipush 6, 2) := by decide +kernel
theorem dX3_readEquation_67 : decode cX3_readEquation 67 = .ok (.if_icmp .lt 13, 3) := by decide +kernel
theorem dX3_readEquation_70 : decode cX3_readEquation 70 = .ok (.aload_n 0, 1) := by decide +kernel
theorem dX3_readEquation_71 : decode cX3_readEquation 71 = .ok (.bipush (-5), 2) := by decide +kernel
theorem dX3_readEquation_73 : decode cX3_readEquation 73 = .ok (.iload_n 3, 1) := by decide +kernel
theorem dX3_readEquation_74 : decode cX3_readEquation 74 = .ok (.invokevirtual 66, 3) := by decide +kernel
theorem dX3_readEquation_77 : decode cX3_readEquation 77 = .ok (.goto 26, 3) := by decide +kernel
theorem dX3_readEquation_80 : decode cX3_readEquation 80 = .ok (.aload_n 0, 1) := by decide +kernel
theorem dX3_readEquation_81 : decode cX3_readEquation 81 = .ok (.getfield 12, 3) := by decide +kernel
theorem dX3_readEquation_84 : decode cX3_readEquation 84 = .ok (.invokevirtual 70, 3) := by decide +kernel
theorem dX3_readEquation_87 : decode cX3_readEquation 87 = .ok (.bipush 101, 2) := by decide +kernel
theorem dX3_readEquation_89 : decode cX3_readEquation 89 = .ok (.if_icmp .ne 10, 3) := by decide +kernel
theorem dX3_readEquation_92 : decode cX3_readEquation 92 = .ok (.aload_n 0, 1) := by decide +kernel
theorem dX3_readEquation_93 : decode cX3_readEquation 93 = .ok (.invokevirtual 74, 3) := by decide +kernel
theorem dX3_readEquation_96 : decode cX3_readEquation 96 = .ok (.goto 7, 3) := by decide +kernel
theorem dX3_readEquation_99 : decode cX3_readEquation 99 = .ok (.aload_n 0, 1) := by decide +kernel
theorem dX3_readEquation_100 : decode cX3_readEquation 100 = .ok (.invokevirtual 77, 3) := by decide +kernel
theorem dX3_readEquation_103 : decode cX3_readEquation 103 = .ok (.aload_n 0, 1) := by decide +kernel
theorem dX3_readEquation_104 : decode cX3_readEquation 104 = .ok (.iload_n 3, 1) := by decide +kernel
theorem dX3_readEquation_105 : decode cX3_readEquation 105 = .ok (.invokevirtual 80, 3) := by decide +kernel
theorem dX3_readEquation_108 : decode cX3_readEquation 108 = .ok (.aload_n 0, 1) := by decide +kernel
theorem dX3_readEquation_109 : decode cX3_readEquation 109 = .ok (.getfield 25, 3) := by decide +kernel
theorem dX3_readEquation_112 : decode cX3_readEquation 112 = .ok (.ifCond .ne 14, 3) := by decide +kernel
theorem dX3_readEquation_115 : decode cX3_readEquation 115 = .ok (.aload_n 0, 1) := by decide +kernel
theorem dX3_readEquation_116 : decode cX3_readEquation 116 = .ok (.invokevirtual 84, 3) := by decide +kernel
theorem dX3_readEquation_119 : decode cX3_readEquation 119 = .ok (.ifCond .eq 7, 3) := by decide +kernel
theorem dX3_readEquation_122 : decode cX3_readEquation 122 = .ok (.iconst 1, 1) := by decide +kernel
theorem dX3_readEquation_123 : decode cX3_readEquation 123 = .ok (.goto 4, 3) := by decide +kernel
theorem dX3_readEquation_126 : decode cX3_readEquation 126 = .ok (.iconst 0, 1) := by decide +kernel
theorem dX3_readEquation_127 : decode cX3_readEquation 127 = .ok (.istore_n 1, 1) := by decide +kernel
theorem dX3_readEquation_128 : decode cX3_readEquation 128 = .ok (.iinc 2 1, 3) := by decide +kernel
theorem dX3_readEquation_131 : decode cX3_readEquation 131 = .ok (.goto (-102), 3) := by decide +kernel
theorem dX3_readEquation_134 : decode cX3_readEquation 134 = .ok (.return_, 1) := by decide +kernel
theorem dX3_beginFormula_0 : decode cX3_beginFormula 0 = .ok (.aload_n 0, 1) := by decide +kernel
theorem dX3_beginFormula_1 : decode cX3_beginFormula 1 = .ok (.getfield 44, 3) := by decide +kernel
theorem dX3_beginFormula_4 : decode cX3_beginFormula 4 = .ok (.lconst 0, 1) := by decide +kernel
theorem dX3_beginFormula_5 : decode cX3_beginFormula 5 = .ok (.invokestatic 88, 3) := by decide +kernel
theorem dX3_beginFormula_8 : decode cX3_beginFormula 8 = .ok (.aload_n 0, 1) := by decide +kernel
theorem dX3_beginFormula_9 : decode cX3_beginFormula 9 = .ok (.iconst 0, 1) := by decide +kernel
theorem dX3_beginFormula_10 : decode cX3_beginFormula 10 = .ok (.putfield 48, 3) := by decide +kernel
theorem dX3_beginFormula_13 : decode cX3_beginFormula 13 = .ok (.return_, 1) := by decide +kernel
theorem dX3_meet_0 : decode cX3_meet 0 = .ok (.aload_n 0, 1) := by decide +kernel
theorem dX3_meet_1 : decode cX3_meet 1 = .ok (.iload_n 1, 1) := by decide +kernel
theorem dX3_meet_2 : decode cX3_meet 2 = .ok (.putfield 25, 3) := by decide +kernel
theorem dX3_meet_5 : decode cX3_meet 5 = .ok (.aload_n 0, 1) := by decide +kernel
theorem dX3_meet_6 : decode cX3_meet 6 = .ok (.iload_n 2, 1) := by decide +kernel
theorem dX3_meet_7 : decode cX3_meet 7 = .ok (.putfield 29, 3) := by decide +kernel
theorem dX3_meet_10 : decode cX3_meet 10 = .ok (.return_, 1) := by decide +kernel
theorem dX3_readElectron_0 : decode cX3_readElectron 0 = .ok (.aload_n 0, 1) := by decide +kernel
theorem dX3_readElectron_1 : decode cX3_readElectron 1 = .ok (.getfield 12, 3) := by decide +kernel
theorem dX3_readElectron_4 : decode cX3_readElectron 4 = .ok (.iconst 1, 1) := by decide +kernel
theorem dX3_readElectron_5 : decode cX3_readElectron 5 = .ok (.invokevirtual 106, 3) := by decide +kernel
theorem dX3_readElectron_8 : decode cX3_readElectron 8 = .ok (.bipush 94, 2) := by decide +kernel
theorem dX3_readElectron_10 : decode cX3_readElectron 10 = .ok (.if_icmp .ne 16, 3) := by decide +kernel
theorem dX3_readElectron_13 : decode cX3_readElectron 13 = .ok (.aload_n 0, 1) := by decide +kernel
theorem dX3_readElectron_14 : decode cX3_readElectron 14 = .ok (.getfield 12, 3) := by decide +kernel
theorem dX3_readElectron_17 : decode cX3_readElectron 17 = .ok (.iconst 2, 1) := by decide +kernel
theorem dX3_readElectron_18 : decode cX3_readElectron 18 = .ok (.invokevirtual 106, 3) := by decide +kernel
theorem dX3_readElectron_21 : decode cX3_readElectron 21 = .ok (.bipush 45, 2) := by decide +kernel
theorem dX3_readElectron_23 : decode cX3_readElectron 23 = .ok (.if_icmp .eq 19, 3) := by decide +kernel
theorem dX3_readElectron_26 : decode cX3_readElectron 26 = .ok (.aload_n 0, 1) := by decide +kernel
theorem dX3_readElectron_27 : decode cX3_readElectron 27 = .ok (.bipush (-2), 2) := by decide +kernel
theorem dX3_readElectron_29 : decode cX3_readElectron 29 = .ok (.aload_n 0, 1) := by decide +kernel
theorem dX3_readElectron_30 : decode cX3_readElectron 30 = .ok (.getfield 12, 3) := by decide +kernel
theorem dX3_readElectron_33 : decode cX3_readElectron 33 = .ok (.getfield 51, 3) := by decide +kernel
theorem dX3_readElectron_36 : decode cX3_readElectron 36 = .ok (.invokevirtual 66, 3) := by decide +kernel
theorem dX3_readElectron_39 : decode cX3_readElectron 39 = .ok (.goto 47, 3) := by decide +kernel
theorem dX3_readElectron_42 : decode cX3_readElectron 42 = .ok (.aload_n 0, 1) := by decide +kernel
theorem dX3_readElectron_43 : decode cX3_readElectron 43 = .ok (.getfield 21, 3) := by decide +kernel
theorem dX3_readElectron_46 : decode cX3_readElectron 46 = .ok (.invokevirtual 110, 3) := by decide +kernel
theorem dX3_readElectron_49 : decode cX3_readElectron 49 = .ok (.ifCond .ne 19, 3) := by decide +kernel
theorem dX3_readElectron_52 : decode cX3_readElectron 52 = .ok (.aload_n 0, 1) := by decide +kernel
theorem dX3_readElectron_53 : decode cX3_readElectron 53 = .ok (.bipush (-5), 2) := by decide +kernel
theorem dX3_readElectron_55 : decode cX3_readElectron 55 = .ok (.aload_n 0, 1) := by decide +kernel
theorem dX3_readElectron_56 : decode cX3_readElectron 56 = .ok (.getfield 12, 3) := by decide +kernel
theorem dX3_readElectron_59 : decode cX3_readElectron 59 = .ok (.getfield 51, 3) := by decide +kernel
theorem dX3_readElectron_62 : decode cX3_readElectron 62 = .ok (.invokevirtual 66, 3) := by decide +kernel
theorem dX3_readElectron_65 : decode cX3_readElectron 65 = .ok (.goto 21, 3) := by decide +kernel
theorem dX3_readElectron_68 : decode cX3_readElectron 68 = .ok (.aload_n 0, 1) := by decide +kernel
theorem dX3_readElectron_69 : decode cX3_readElectron 69 = .ok (.iconst (-1), 1) := by decide +kernel
theorem dX3_readElectron_70 : decode cX3_readElectron 70 = .ok (.putfield 48, 3) := by decide +kernel
theorem dX3_readElectron_73 : decode cX3_readElectron 73 = .ok (.aload_n 0, 1) := by decide +kernel
theorem dX3_readElectron_74 : decode cX3_readElectron 74 = .ok (.getfield 12, 3) := by decide +kernel
theorem dX3_readElectron_77 : decode cX3_readElectron 77 = .ok (.dup, 1) := by decide +kernel
theorem dX3_readElectron_78 : decode cX3_readElectron 78 = .ok (.getfield 51, 3) := by decide +kernel
theorem dX3_readElectron_81 : decode cX3_readElectron 81 = .ok (.iconst 3, 1) := by decide +kernel
theorem dX3_readElectron_82 : decode cX3_readElectron 82 = .ok (.iadd, 1) := by decide +kernel
theorem dX3_readElectron_83 : decode cX3_readElectron 83 = .ok (.putfield 51, 3) := by decide +kernel
theorem dX3_readElectron_86 : decode cX3_readElectron 86 = .ok (.return_, 1) := by decide +kernel
theorem dX3_readFormula_0 : decode cX3_readFormula 0 = .ok (.iconst 1, 1) := by decide +kernel
theorem dX3_readFormula_1 : decode cX3_readFormula 1 = .ok (.istore_n 1, 1) := by decide +kernel
theorem dX3_readFormula_2 : decode cX3_readFormula 2 = .ok (.iconst 0, 1) := by decide +kernel
theorem dX3_readFormula_3 : decode cX3_readFormula 3 = .ok (.istore_n 2, 1) := by decide +kernel
theorem dX3_readFormula_4 : decode cX3_readFormula 4 = .ok (.iload_n 2, 1) := by decide +kernel
theorem dX3_readFormula_5 : decode cX3_readFormula 5 = .ok (.bipush 100, 2) := by decide +kernel
theorem dX3_readFormula_7 : decode cX3_readFormula 7 = .ok (.if_icmp .ge 85, 3) := by decide +kernel
theorem dX3_readFormula_10 : decode cX3_readFormula 10 = .ok (.iload_n 1, 1) := by decide +kernel
theorem dX3_readFormula_11 : decode cX3_readFormula 11 = .ok (.ifCond .eq 81, 3) := by decide +kernel
theorem dX3_readFormula_14 : decode cX3_readFormula 14 = .ok (.aload_n 0, 1) := by decide +kernel
theorem dX3_readFormula_15 : decode cX3_readFormula 15 = .ok (.invokevirtual 113, 3) := by decide +kernel
theorem dX3_readFormula_18 : decode cX3_readFormula 18 = .ok (.istore_n 3, 1) := by decide +kernel
theorem dX3_readFormula_19 : decode cX3_readFormula 19 = .ok (.aload_n 0, 1) := by decide +kernel
theorem dX3_readFormula_20 : decode cX3_readFormula 20 = .ok (.getfield 25, 3) := by decide +kernel
theorem dX3_readFormula_23 : decode cX3_readFormula 23 = .ok (.ifCond .ne 21, 3) := by decide +kernel
theorem dX3_readFormula_26 : decode cX3_readFormula 26 = .ok (.aload_n 0, 1) := by decide +kernel
theorem dX3_readFormula_27 : decode cX3_readFormula 27 = .ok (.invokevirtual 117, 3) := by decide +kernel
theorem dX3_readFormula_30 : decode cX3_readFormula 30 = .ok (.aload_n 0, 1) := by decide +kernel
theorem dX3_readFormula_31 : decode cX3_readFormula 31 = .ok (.getfield 44, 3) := by decide +kernel
theorem dX3_readFormula_34 : decode cX3_readFormula 34 = .ok (.aload_n 0, 1) := by decide +kernel
theorem dX3_readFormula_35 : decode cX3_readFormula 35 = .ok (.getfield 34, 3) := by decide +kernel
theorem dX3_readFormula_38 : decode cX3_readFormula 38 = .ok (.iconst 0, 1) := by decide +kernel
theorem dX3_readFormula_39 : decode cX3_readFormula 39 = .ok (.aaload, 1) := by decide +kernel
theorem dX3_readFormula_40 : decode cX3_readFormula 40 = .ok (.iload_n 3, 1) := by decide +kernel
theorem dX3_readFormula_41 : decode cX3_readFormula 41 = .ok (.invokestatic 120, 3) := by decide +kernel
theorem dX3_readFormula_44 : decode cX3_readFormula 44 = .ok (.aload_n 0, 1) := by decide +kernel
theorem dX3_readFormula_45 : decode cX3_readFormula 45 = .ok (.getfield 25, 3) := by decide +kernel
theorem dX3_readFormula_48 : decode cX3_readFormula 48 = .ok (.ifCond .ne 19, 3) := by decide +kernel
theorem dX3_readFormula_51 : decode cX3_readFormula 51 = .ok (.aload_n 0, 1) := by decide +kernel
theorem dX3_readFormula_52 : decode cX3_readFormula 52 = .ok (.getfield 12, 3) := by decide +kernel
theorem dX3_readFormula_55 : decode cX3_readFormula 55 = .ok (.invokevirtual 70, 3) := by decide +kernel
theorem dX3_readFormula_58 : decode cX3_readFormula 58 = .ok (.bipush 46, 2) := by decide +kernel
theorem dX3_readFormula_60 : decode cX3_readFormula 60 = .ok (.if_icmp .ne 7, 3) := by decide +kernel
theorem dX3_readFormula_63 : decode cX3_readFormula 63 = .ok (.iconst 1, 1) := by decide +kernel
theorem dX3_readFormula_64 : decode cX3_readFormula 64 = .ok (.goto 4, 3) := by decide +kernel
theorem dX3_readFormula_67 : decode cX3_readFormula 67 = .ok (.iconst 0, 1) := by decide +kernel
theorem dX3_readFormula_68 : decode cX3_readFormula 68 = .ok (.istore_n 1, 1) := by decide +kernel
theorem dX3_readFormula_69 : decode cX3_readFormula 69 = .ok (.iload_n 1, 1) := by decide +kernel
theorem dX3_readFormula_70 : decode cX3_readFormula 70 = .ok (.ifCond .eq 16, 3) := by decide +kernel
theorem dX3_readFormula_73 : decode cX3_readFormula 73 = .ok (.aload_n 0, 1) := by decide +kernel
theorem dX3_readFormula_74 : decode cX3_readFormula 74 = .ok (.getfield 12, 3) := by decide +kernel
theorem dX3_readFormula_77 : decode cX3_readFormula 77 = .ok (.dup, 1) := by decide +kernel
theorem dX3_readFormula_78 : decode cX3_readFormula 78 = .ok (.getfield 51, 3) := by decide +kernel
theorem dX3_readFormula_81 : decode cX3_readFormula 81 = .ok (.iconst 1, 1) := by decide +kernel
theorem dX3_readFormula_82 : decode cX3_readFormula 82 = .ok (.iadd, 1) := by decide +kernel
theorem dX3_readFormula_83 : decode cX3_readFormula 83 = .ok (.putfield 51, 3) := by decide +kernel
theorem dX3_readFormula_86 : decode cX3_readFormula 86 = .ok (.iinc 2 1, 3) := by decide +kernel
theorem dX3_readFormula_89 : decode cX3_readFormula 89 = .ok (.goto (-85), 3) := by decide +kernel
theorem dX3_readFormula_92 : decode cX3_readFormula 92 = .ok (.aload_n 0, 1) := by decide +kernel
theorem dX3_readFormula_93 : decode cX3_readFormula 93 = .ok (.getfield 25, 3) := by decide +kernel
theorem dX3_readFormula_96 : decode cX3_readFormula 96 = .ok (.ifCond .ne 19, 3) := by decide +kernel
theorem dX3_readFormula_99 : decode cX3_readFormula 99 = .ok (.aload_n 0, 1) := by decide +kernel
theorem dX3_readFormula_100 : decode cX3_readFormula 100 = .ok (.getfield 12, 3) := by decide +kernel
theorem dX3_readFormula_103 : decode cX3_readFormula 103 = .ok (.invokevirtual 70, 3) := by decide +kernel
theorem dX3_readFormula_106 : decode cX3_readFormula 106 = .ok (.bipush 94, 2) := by decide +kernel
theorem dX3_readFormula_108 : decode cX3_readFormula 108 = .ok (.if_icmp .ne 7, 3) := by decide +kernel
theorem dX3_readFormula_111 : decode cX3_readFormula 111 = .ok (.aload_n 0, 1) := by decide +kernel
theorem dX3_readFormula_112 : decode cX3_readFormula 112 = .ok (.invokevirtual 124, 3) := by decide +kernel
theorem dX3_readFormula_115 : decode cX3_readFormula 115 = .ok (.return_, 1) := by decide +kernel
theorem dX3_readNumber_0 : decode cX3_readNumber 0 = .ok (.aload_n 0, 1) := by decide +kernel
theorem dX3_readNumber_1 : decode cX3_readNumber 1 = .ok (.getfield 12, 3) := by decide +kernel
theorem dX3_readNumber_4 : decode cX3_readNumber 4 = .ok (.getfield 51, 3) := by decide +kernel
theorem dX3_readNumber_7 : decode cX3_readNumber 7 = .ok (.istore_n 1, 1) := by decide +kernel
theorem dX3_readNumber_8 : decode cX3_readNumber 8 = .ok (.aload_n 0, 1) := by decide +kernel
theorem dX3_readNumber_9 : decode cX3_readNumber 9 = .ok (.getfield 12, 3) := by decide +kernel
theorem dX3_readNumber_12 : decode cX3_readNumber 12 = .ok (.invokevirtual 70, 3) := by decide +kernel
theorem dX3_readNumber_15 : decode cX3_readNumber 15 = .ok (.bipush 48, 2) := by decide +kernel
theorem dX3_readNumber_17 : decode cX3_readNumber 17 = .ok (.if_icmp .ne 7, 3) := by decide +kernel
theorem dX3_readNumber_20 : decode cX3_readNumber 20 = .ok (.iconst 1, 1) := by decide +kernel
theorem dX3_readNumber_21 : decode cX3_readNumber 21 = .ok (.goto 4, 3) := by decide +kernel
theorem dX3_readNumber_24 : decode cX3_readNumber 24 = .ok (.iconst 0, 1) := by decide +kernel
theorem dX3_readNumber_25 : decode cX3_readNumber 25 = .ok (.istore_n 2, 1) := by decide +kernel
theorem dX3_readNumber_26 : decode cX3_readNumber 26 = .ok (.iconst 0, 1) := by decide +kernel
theorem dX3_readNumber_27 : decode cX3_readNumber 27 = .ok (.istore_n 3, 1) := by decide +kernel
theorem dX3_readNumber_28 : decode cX3_readNumber 28 = .ok (.iconst 0, 1) := by decide +kernel
theorem dX3_readNumber_29 : decode cX3_readNumber 29 = .ok (.istore 4, 2) := by decide +kernel
theorem dX3_readNumber_31 : decode cX3_readNumber 31 = .ok (.iload 4, 2) := by decide +kernel
theorem dX3_readNumber_33 : decode cX3_readNumber 33 = .ok (.bipush 100, 2) := by decide +kernel
theorem dX3_readNumber_35 : decode cX3_readNumber 35 = .ok (.if_icmp .ge 51, 3) := by decide +kernel
theorem dX3_readNumber_38 : decode cX3_readNumber 38 = .ok (.aload_n 0, 1) := by decide +kernel
theorem dX3_readNumber_39 : decode cX3_readNumber 39 = .ok (.getfield 12, 3) := by decide +kernel
theorem dX3_readNumber_42 : decode cX3_readNumber 42 = .ok (.invokevirtual 70, 3) := by decide +kernel
theorem dX3_readNumber_45 : decode cX3_readNumber 45 = .ok (.invokestatic 148, 3) := by decide +kernel
theorem dX3_readNumber_48 : decode cX3_readNumber 48 = .ok (.ifCond .eq 38, 3) := by decide +kernel
theorem dX3_readNumber_51 : decode cX3_readNumber 51 = .ok (.bipush 10, 2) := by decide +kernel
theorem dX3_readNumber_53 : decode cX3_readNumber 53 = .ok (.iload_n 3, 1) := by decide +kernel
theorem dX3_readNumber_54 : decode cX3_readNumber 54 = .ok (.imul, 1) := by decide +kernel
theorem dX3_readNumber_55 : decode cX3_readNumber 55 = .ok (.aload_n 0, 1) := by decide +kernel
theorem dX3_readNumber_56 : decode cX3_readNumber 56 = .ok (.getfield 12, 3) := by decide +kernel
theorem dX3_readNumber_59 : decode cX3_readNumber 59 = .ok (.invokevirtual 70, 3) := by decide +kernel
theorem dX3_readNumber_62 : decode cX3_readNumber 62 = .ok (.bipush 48, 2) := by decide +kernel
theorem dX3_readNumber_64 : decode cX3_readNumber 64 = .ok (.isub, 1) := by decide +kernel
theorem dX3_readNumber_65 : decode cX3_readNumber 65 = .ok (.iadd, 1) := by decide +kernel
theorem dX3_readNumber_66 : decode cX3_readNumber 66 = .ok (.istore_n 3, 1) := by decide +kernel
theorem dX3_readNumber_67 : decode cX3_readNumber 67 = .ok (.aload_n 0, 1) := by decide +kernel
theorem dX3_readNumber_68 : decode cX3_readNumber 68 = .ok (.getfield 12, 3) := by decide +kernel
theorem dX3_readNumber_71 : decode cX3_readNumber 71 = .ok (.dup, 1) := by decide +kernel
theorem dX3_readNumber_72 : decode cX3_readNumber 72 = .ok (.getfield 51, 3) := by decide +kernel
theorem dX3_readNumber_75 : decode cX3_readNumber 75 = .ok (.iconst 1, 1) := by decide +kernel
theorem dX3_readNumber_76 : decode cX3_readNumber 76 = .ok (.iadd, 1) := by decide +kernel
theorem dX3_readNumber_77 : decode cX3_readNumber 77 = .ok (.putfield 51, 3) := by decide +kernel
theorem dX3_readNumber_80 : decode cX3_readNumber 80 = .ok (.iinc 4 1, 3) := by decide +kernel
theorem dX3_readNumber_83 : decode cX3_readNumber 83 = .ok (.goto (-52), 3) := by decide +kernel
theorem dX3_readNumber_86 : decode cX3_readNumber 86 = .ok (.aload_n 0, 1) := by decide +kernel
theorem dX3_readNumber_87 : decode cX3_readNumber 87 = .ok (.getfield 12, 3) := by decide +kernel
theorem dX3_readNumber_90 : decode cX3_readNumber 90 = .ok (.getfield 51, 3) := by decide +kernel
theorem dX3_readNumber_93 : decode cX3_readNumber 93 = .ok (.iload_n 1, 1) := by decide +kernel
theorem dX3_readNumber_94 : decode cX3_readNumber 94 = .ok (.isub, 1) := by decide +kernel
theorem dX3_readNumber_95 : decode cX3_readNumber 95 = .ok (.istore 4, 2) := by decide +kernel
theorem dX3_readNumber_97 : decode cX3_readNumber 97 = .ok (.iload_n 2, 1) := by decide +kernel
theorem dX3_readNumber_98 : decode cX3_readNumber 98 = .ok (.ifCond .ne 9, 3) := by decide +kernel
theorem dX3_readNumber_101 : decode cX3_readNumber 101 = .ok (.iload 4, 2) := by decide +kernel
theorem dX3_readNumber_103 : decode cX3_readNumber 103 = .ok (.iconst 2, 1) := by decide +kernel
theorem dX3_readNumber_104 : decode cX3_readNumber 104 = .ok (.if_icmp .le 10, 3) := by decide +kernel
theorem dX3_readNumber_107 : decode cX3_readNumber 107 = .ok (.aload_n 0, 1) := by decide +kernel
theorem dX3_readNumber_108 : decode cX3_readNumber 108 = .ok (.bipush (-3), 2) := by decide +kernel
theorem dX3_readNumber_110 : decode cX3_readNumber 110 = .ok (.iload_n 1, 1) := by decide +kernel
theorem dX3_readNumber_111 : decode cX3_readNumber 111 = .ok (.invokevirtual 66, 3) := by decide +kernel
theorem dX3_readNumber_114 : decode cX3_readNumber 114 = .ok (.iload 4, 2) := by decide +kernel
theorem dX3_readNumber_116 : decode cX3_readNumber 116 = .ok (.ifCond .ne 7, 3) := by decide +kernel
theorem dX3_readNumber_119 : decode cX3_readNumber 119 = .ok (.iconst 1, 1) := by decide +kernel
theorem dX3_readNumber_120 : decode cX3_readNumber 120 = .ok (.goto 4, 3) := by decide +kernel
theorem dX3_readNumber_123 : decode cX3_readNumber 123 = .ok (.iload_n 3, 1) := by decide +kernel
theorem dX3_readNumber_124 : decode cX3_readNumber 124 = .ok (.ireturn, 1) := by decide +kernel
theorem dX3_readUnits_0 : decode cX3_readUnits 0 = .ok (.aload_n 0, 1) := by decide +kernel
theorem dX3_readUnits_1 : decode cX3_readUnits 1 = .ok (.iconst 0, 1) := by decide +kernel
theorem dX3_readUnits_2 : decode cX3_readUnits 2 = .ok (.putfield 41, 3) := by decide +kernel
theorem dX3_readUnits_5 : decode cX3_readUnits 5 = .ok (.aload_n 0, 1) := by decide +kernel
theorem dX3_readUnits_6 : decode cX3_readUnits 6 = .ok (.getfield 34, 3) := by decide +kernel
theorem dX3_readUnits_9 : decode cX3_readUnits 9 = .ok (.iconst 0, 1) := by decide +kernel
theorem dX3_readUnits_10 : decode cX3_readUnits 10 = .ok (.aaload, 1) := by decide +kernel
theorem dX3_readUnits_11 : decode cX3_readUnits 11 = .ok (.lconst 0, 1) := by decide +kernel
theorem dX3_readUnits_12 : decode cX3_readUnits 12 = .ok (.invokestatic 88, 3) := by decide +kernel
theorem dX3_readUnits_15 : decode cX3_readUnits 15 = .ok (.iconst 1, 1) := by decide +kernel
theorem dX3_readUnits_16 : decode cX3_readUnits 16 = .ok (.istore_n 1, 1) := by decide +kernel
theorem dX3_readUnits_17 : decode cX3_readUnits 17 = .ok (.iconst 1, 1) := by decide +kernel
theorem dX3_readUnits_18 : decode cX3_readUnits 18 = .ok (.istore_n 2, 1) := by decide +kernel
theorem dX3_readUnits_19 : decode cX3_readUnits 19 = .ok (.iconst 0, 1) := by decide +kernel
theorem dX3_readUnits_20 : decode cX3_readUnits 20 = .ok (.istore_n 3, 1) := by decide +kernel
theorem dX3_readUnits_21 : decode cX3_readUnits 21 = .ok (.iload_n 3, 1) := by decide +kernel
theorem dX3_readUnits_22 : decode cX3_readUnits 22 = .ok (.bipush 100, 2) := by decide +kernel
theorem dX3_readUnits_24 : decode cX3_readUnits 24 = .ok (.if_icmp .ge 117, 3) := by decide +kernel
theorem dX3_readUnits_27 : decode cX3_readUnits 27 = .ok (.iload_n 2, 1) := by decide +kernel
theorem dX3_readUnits_28 : decode cX3_readUnits 28 = .ok (.ifCond .eq 113, 3) := by decide +kernel
theorem dX3_readUnits_31 : decode cX3_readUnits 31 = .ok (.aload_n 0, 1) := by decide +kernel
theorem dX3_readUnits_32 : decode cX3_readUnits 32 = .ok (.getfield 12, 3) := by decide +kernel
theorem dX3_readUnits_35 : decode cX3_readUnits 35 = .ok (.invokevirtual 70, 3) := by decide +kernel
theorem dX3_readUnits_38 : decode cX3_readUnits 38 = .ok (.istore 4, 2) := by decide +kernel
theorem dX3_readUnits_40 : decode cX3_readUnits 40 = .ok (.iload 4, 2) := by decide +kernel
theorem dX3_readUnits_42 : decode cX3_readUnits 42 = .ok (.invokestatic 127, 3) := by decide +kernel
theorem dX3_readUnits_45 : decode cX3_readUnits 45 = .ok (.ifCond .eq 14, 3) := by decide +kernel
theorem dX3_readUnits_48 : decode cX3_readUnits 48 = .ok (.aload_n 0, 1) := by decide +kernel
theorem dX3_readUnits_49 : decode cX3_readUnits 49 = .ok (.iload 4, 2) := by decide +kernel
theorem dX3_readUnits_51 : decode cX3_readUnits 51 = .ok (.invokevirtual 131, 3) := by decide +kernel
theorem dX3_readUnits_54 : decode cX3_readUnits 54 = .ok (.iconst 0, 1) := by decide +kernel
theorem dX3_readUnits_55 : decode cX3_readUnits 55 = .ok (.istore_n 1, 1) := by decide +kernel
theorem dX3_readUnits_56 : decode cX3_readUnits 56 = .ok (.goto 62, 3) := by decide +kernel
theorem dX3_readUnits_59 : decode cX3_readUnits 59 = .ok (.iload 4, 2) := by decide +kernel
theorem dX3_readUnits_61 : decode cX3_readUnits 61 = .ok (.bipush 40, 2) := by decide +kernel
theorem dX3_readUnits_63 : decode cX3_readUnits 63 = .ok (.if_icmp .eq 10, 3) := by decide +kernel
theorem dX3_readUnits_66 : decode cX3_readUnits 66 = .ok (.iload 4, 2) := by decide +kernel
theorem dX3_readUnits_68 : decode cX3_readUnits 68 = .ok (.bipush 91, 2) := by decide +kernel
theorem dX3_readUnits_70 : decode cX3_readUnits 70 = .ok (.if_icmp .ne 14, 3) := by decide +kernel
theorem dX3_readUnits_73 : decode cX3_readUnits 73 = .ok (.aload_n 0, 1) := by decide +kernel
theorem dX3_readUnits_74 : decode cX3_readUnits 74 = .ok (.iload 4, 2) := by decide +kernel
theorem dX3_readUnits_76 : decode cX3_readUnits 76 = .ok (.invokevirtual 135, 3) := by decide +kernel
theorem dX3_readUnits_79 : decode cX3_readUnits 79 = .ok (.iconst 1, 1) := by decide +kernel
theorem dX3_readUnits_80 : decode cX3_readUnits 80 = .ok (.istore_n 1, 1) := by decide +kernel
theorem dX3_readUnits_81 : decode cX3_readUnits 81 = .ok (.goto 37, 3) := by decide +kernel
theorem dX3_readUnits_84 : decode cX3_readUnits 84 = .ok (.aload_n 0, 1) := by decide +kernel
theorem dX3_readUnits_85 : decode cX3_readUnits 85 = .ok (.getfield 41, 3) := by decide +kernel
theorem dX3_readUnits_88 : decode cX3_readUnits 88 = .ok (.ifCond .le 28, 3) := by decide +kernel
theorem dX3_readUnits_91 : decode cX3_readUnits 91 = .ok (.iload 4, 2) := by decide +kernel
theorem dX3_readUnits_93 : decode cX3_readUnits 93 = .ok (.aload_n 0, 1) := by decide +kernel
theorem dX3_readUnits_94 : decode cX3_readUnits 94 = .ok (.getfield 37, 3) := by decide +kernel
theorem dX3_readUnits_97 : decode cX3_readUnits 97 = .ok (.aload_n 0, 1) := by decide +kernel
theorem dX3_readUnits_98 : decode cX3_readUnits 98 = .ok (.getfield 41, 3) := by decide +kernel
theorem dX3_readUnits_101 : decode cX3_readUnits 101 = .ok (.caload, 1) := by decide +kernel
theorem dX3_readUnits_102 : decode cX3_readUnits 102 = .ok (.if_icmp .ne 14, 3) := by decide +kernel
theorem dX3_readUnits_105 : decode cX3_readUnits 105 = .ok (.iload_n 1, 1) := by decide +kernel
theorem dX3_readUnits_106 : decode cX3_readUnits 106 = .ok (.ifCond .ne 10, 3) := by decide +kernel
theorem dX3_readUnits_109 : decode cX3_readUnits 109 = .ok (.aload_n 0, 1) := by decide +kernel
theorem dX3_readUnits_110 : decode cX3_readUnits 110 = .ok (.invokevirtual 138, 3) := by decide +kernel
theorem dX3_readUnits_113 : decode cX3_readUnits 113 = .ok (.goto 5, 3) := by decide +kernel
theorem dX3_readUnits_116 : decode cX3_readUnits 116 = .ok (.iconst 0, 1) := by decide +kernel
theorem dX3_readUnits_117 : decode cX3_readUnits 117 = .ok (.istore_n 2, 1) := by decide +kernel
theorem dX3_readUnits_118 : decode cX3_readUnits 118 = .ok (.iload_n 2, 1) := by decide +kernel
theorem dX3_readUnits_119 : decode cX3_readUnits 119 = .ok (.ifCond .eq 14, 3) := by decide +kernel
theorem dX3_readUnits_122 : decode cX3_readUnits 122 = .ok (.aload_n 0, 1) := by decide +kernel
theorem dX3_readUnits_123 : decode cX3_readUnits 123 = .ok (.getfield 25, 3) := by decide +kernel
theorem dX3_readUnits_126 : decode cX3_readUnits 126 = .ok (.ifCond .ne 7, 3) := by decide +kernel
theorem dX3_readUnits_129 : decode cX3_readUnits 129 = .ok (.iconst 1, 1) := by decide +kernel
theorem dX3_readUnits_130 : decode cX3_readUnits 130 = .ok (.goto 4, 3) := by decide +kernel
theorem dX3_readUnits_133 : decode cX3_readUnits 133 = .ok (.iconst 0, 1) := by decide +kernel
theorem dX3_readUnits_134 : decode cX3_readUnits 134 = .ok (.istore_n 2, 1) := by decide +kernel
theorem dX3_readUnits_135 : decode cX3_readUnits 135 = .ok (.iinc 3 1, 3) := by decide +kernel
theorem dX3_readUnits_138 : decode cX3_readUnits 138 = .ok (.goto (-117), 3) := by decide +kernel
theorem dX3_readUnits_141 : decode cX3_readUnits 141 = .ok (.aload_n 0, 1) := by decide +kernel
theorem dX3_readUnits_142 : decode cX3_readUnits 142 = .ok (.getfield 25, 3) := by decide +kernel
theorem dX3_readUnits_145 : decode cX3_readUnits 145 = .ok (.ifCond .ne 27, 3) := by decide +kernel
theorem dX3_readUnits_148 : decode cX3_readUnits 148 = .ok (.iload_n 1, 1) := by decide +kernel
theorem dX3_readUnits_149 : decode cX3_readUnits 149 = .ok (.ifCond .ne 10, 3) := by decide +kernel
theorem dX3_readUnits_152 : decode cX3_readUnits 152 = .ok (.aload_n 0, 1) := by decide +kernel
theorem dX3_readUnits_153 : decode cX3_readUnits 153 = .ok (.getfield 41, 3) := by decide +kernel
theorem dX3_readUnits_156 : decode cX3_readUnits 156 = .ok (.ifCond .le 16, 3) := by decide +kernel
theorem dX3_readUnits_159 : decode cX3_readUnits 159 = .ok (.aload_n 0, 1) := by decide +kernel
theorem dX3_readUnits_160 : decode cX3_readUnits 160 = .ok (.bipush (-2), 2) := by decide +kernel
theorem dX3_readUnits_162 : decode cX3_readUnits 162 = .ok (.aload_n 0, 1) := by decide +kernel
theorem dX3_readUnits_163 : decode cX3_readUnits 163 = .ok (.getfield 12, 3) := by decide +kernel
theorem dX3_readUnits_166 : decode cX3_readUnits 166 = .ok (.getfield 51, 3) := by decide +kernel
theorem dX3_readUnits_169 : decode cX3_readUnits 169 = .ok (.invokevirtual 66, 3) := by decide +kernel
theorem dX3_readUnits_172 : decode cX3_readUnits 172 = .ok (.return_, 1) := by decide +kernel
theorem dX3_readElement_0 : decode cX3_readElement 0 = .ok (.aload_n 0, 1) := by decide +kernel
theorem dX3_readElement_1 : decode cX3_readElement 1 = .ok (.getfield 12, 3) := by decide +kernel
theorem dX3_readElement_4 : decode cX3_readElement 4 = .ok (.iconst 1, 1) := by decide +kernel
theorem dX3_readElement_5 : decode cX3_readElement 5 = .ok (.invokevirtual 106, 3) := by decide +kernel
theorem dX3_readElement_8 : decode cX3_readElement 8 = .ok (.istore_n 2, 1) := by decide +kernel
theorem dX3_readElement_9 : decode cX3_readElement 9 = .ok (.iload_n 2, 1) := by decide +kernel
theorem dX3_readElement_10 : decode cX3_readElement 10 = .ok (.invokestatic 141, 3) := by decide +kernel
theorem dX3_readElement_13 : decode cX3_readElement 13 = .ok (.istore_n 3, 1) := by decide +kernel
theorem dX3_readElement_14 : decode cX3_readElement 14 = .ok (.aload_n 0, 1) := by decide +kernel
theorem dX3_readElement_15 : decode cX3_readElement 15 = .ok (.getfield 21, 3) := by decide +kernel
theorem dX3_readElement_18 : decode cX3_readElement 18 = .ok (.iload_n 3, 1) := by decide +kernel
theorem dX3_readElement_19 : decode cX3_readElement 19 = .ok (.ifCond .eq 13, 3) := by decide +kernel
theorem dX3_readElement_22 : decode cX3_readElement 22 = .ok (.iload_n 1, 1) := by decide +kernel
theorem dX3_readElement_23 : decode cX3_readElement 23 = .ok (.sipush 256, 3) := by decide +kernel
theorem dX3_readElement_26 : decode cX3_readElement 26 = .ok (.iload_n 2, 1) := by decide +kernel
theorem dX3_readElement_27 : decode cX3_readElement 27 = .ok (.imul, 1) := by decide +kernel
theorem dX3_readElement_28 : decode cX3_readElement 28 = .ok (.iadd, 1) := by decide +kernel
theorem dX3_readElement_29 : decode cX3_readElement 29 = .ok (.goto 4, 3) := by decide +kernel
theorem dX3_readElement_32 : decode cX3_readElement 32 = .ok (.iload_n 1, 1) := by decide +kernel
theorem dX3_readElement_33 : decode cX3_readElement 33 = .ok (.invokevirtual 144, 3) := by decide +kernel
theorem dX3_readElement_36 : decode cX3_readElement 36 = .ok (.istore 4, 2) := by decide +kernel
theorem dX3_readElement_38 : decode cX3_readElement 38 = .ok (.iload 4, 2) := by decide +kernel
theorem dX3_readElement_40 : decode cX3_readElement 40 = .ok (.iconst (-1), 1) := by decide +kernel
theorem dX3_readElement_41 : decode cX3_readElement 41 = .ok (.if_icmp .ne 17, 3) := by decide +kernel
theorem dX3_readElement_44 : decode cX3_readElement 44 = .ok (.aload_n 0, 1) := by decide +kernel
theorem dX3_readElement_45 : decode cX3_readElement 45 = .ok (.bipush (-5), 2) := by decide +kernel
theorem dX3_readElement_47 : decode cX3_readElement 47 = .ok (.aload_n 0, 1) := by decide +kernel
theorem dX3_readElement_48 : decode cX3_readElement 48 = .ok (.getfield 12, 3) := by decide +kernel
theorem dX3_readElement_51 : decode cX3_readElement 51 = .ok (.getfield 51, 3) := by decide +kernel
theorem dX3_readElement_54 : decode cX3_readElement 54 = .ok (.invokevirtual 66, 3) := by decide +kernel
theorem dX3_readElement_57 : decode cX3_readElement 57 = .ok (.return_, 1) := by decide +kernel
theorem dX3_readElement_58 : decode cX3_readElement 58 = .ok (.aload_n 0, 1) := by decide +kernel
theorem dX3_readElement_59 : decode cX3_readElement 59 = .ok (.getfield 12, 3) := by decide +kernel
theorem dX3_readElement_62 : decode cX3_readElement 62 = .ok (.dup, 1) := by decide +kernel
theorem dX3_readElement_63 : decode cX3_readElement 63 = .ok (.getfield 51, 3) := by decide +kernel
theorem dX3_readElement_66 : decode cX3_readElement 66 = .ok (.iload_n 3, 1) := by decide +kernel
theorem dX3_readElement_67 : decode cX3_readElement 67 = .ok (.ifCond .eq 7, 3) := by decide +kernel
theorem dX3_readElement_70 : decode cX3_readElement 70 = .ok (.iconst 2, 1) := by decide +kernel
theorem dX3_readElement_71 : decode cX3_readElement 71 = .ok (.goto 4, 3) := by decide +kernel
theorem dX3_readElement_74 : decode cX3_readElement 74 = .ok (.iconst 1, 1) := by decide +kernel
theorem dX3_readElement_75 : decode cX3_readElement 75 = .ok (.iadd, 1) := by decide +kernel
theorem dX3_readElement_76 : decode cX3_readElement 76 = .ok (.putfield 51, 3) := by decide +kernel
theorem dX3_readElement_79 : decode cX3_readElement 79 = .ok (.aload_n 0, 1) := by decide +kernel
theorem dX3_readElement_80 : decode cX3_readElement 80 = .ok (.getfield 34, 3) := by decide +kernel
theorem dX3_readElement_83 : decode cX3_readElement 83 = .ok (.aload_n 0, 1) := by decide +kernel
theorem dX3_readElement_84 : decode cX3_readElement 84 = .ok (.getfield 41, 3) := by decide +kernel
theorem dX3_readElement_87 : decode cX3_readElement 87 = .ok (.aaload, 1) := by decide +kernel
theorem dX3_readElement_88 : decode cX3_readElement 88 = .ok (.iload 4, 2) := by decide +kernel
theorem dX3_readElement_90 : decode cX3_readElement 90 = .ok (.dup2, 1) := by decide +kernel
theorem dX3_readElement_91 : decode cX3_readElement 91 = .ok (.laload, 1) := by decide +kernel
theorem dX3_readElement_92 : decode cX3_readElement 92 = .ok (.aload_n 0, 1) := by decide +kernel
theorem dX3_readElement_93 : decode cX3_readElement 93 = .ok (.invokevirtual 113, 3) := by decide +kernel
theorem dX3_readElement_96 : decode cX3_readElement 96 = .ok (.i2l, 1) := by decide +kernel
theorem dX3_readElement_97 : decode cX3_readElement 97 = .ok (.ladd, 1) := by decide +kernel
theorem dX3_readElement_98 : decode cX3_readElement 98 = .ok (.lastore, 1) := by decide +kernel
theorem dX3_readElement_99 : decode cX3_readElement 99 = .ok (.return_, 1) := by decide +kernel
theorem dX3_openGroup_0 : decode cX3_openGroup 0 = .ok (.aload_n 0, 1) := by decide +kernel
theorem dX3_openGroup_1 : decode cX3_openGroup 1 = .ok (.getfield 41, 3) := by decide +kernel
theorem dX3_openGroup_4 : decode cX3_openGroup 4 = .ok (.iconst 3, 1) := by decide +kernel
theorem dX3_openGroup_5 : decode cX3_openGroup 5 = .ok (.if_icmp .lt 17, 3) := by decide +kernel
theorem dX3_openGroup_8 : decode cX3_openGroup 8 = .ok (.aload_n 0, 1) := by decide +kernel
theorem dX3_openGroup_9 : decode cX3_openGroup 9 = .ok (.bipush (-4), 2) := by decide +kernel
theorem dX3_openGroup_11 : decode cX3_openGroup 11 = .ok (.aload_n 0, 1) := by decide +kernel
theorem dX3_openGroup_12 : decode cX3_openGroup 12 = .ok (.getfield 12, 3) := by decide +kernel
theorem dX3_openGroup_15 : decode cX3_openGroup 15 = .ok (.getfield 51, 3) := by decide +kernel
theorem dX3_openGroup_18 : decode cX3_openGroup 18 = .ok (.invokevirtual 66, 3) := by decide +kernel
theorem dX3_openGroup_21 : decode cX3_openGroup 21 = .ok (.return_, 1) := by decide +kernel
theorem dX3_openGroup_22 : decode cX3_openGroup 22 = .ok (.aload_n 0, 1) := by decide +kernel
theorem dX3_openGroup_23 : decode cX3_openGroup 23 = .ok (.dup, 1) := by decide +kernel
theorem dX3_openGroup_24 : decode cX3_openGroup 24 = .ok (.getfield 41, 3) := by decide +kernel
theorem dX3_openGroup_27 : decode cX3_openGroup 27 = .ok (.iconst 1, 1) := by decide +kernel
theorem dX3_openGroup_28 : decode cX3_openGroup 28 = .ok (.iadd, 1) := by decide +kernel
theorem dX3_openGroup_29 : decode cX3_openGroup 29 = .ok (.putfield 41, 3) := by decide +kernel
theorem dX3_openGroup_32 : decode cX3_openGroup 32 = .ok (.aload_n 0, 1) := by decide +kernel
theorem dX3_openGroup_33 : decode cX3_openGroup 33 = .ok (.getfield 37, 3) := by decide +kernel
theorem dX3_openGroup_36 : decode cX3_openGroup 36 = .ok (.aload_n 0, 1) := by decide +kernel
theorem dX3_openGroup_37 : decode cX3_openGroup 37 = .ok (.getfield 41, 3) := by decide +kernel
theorem dX3_openGroup_40 : decode cX3_openGroup 40 = .ok (.iload_n 1, 1) := by decide +kernel
theorem dX3_openGroup_41 : decode cX3_openGroup 41 = .ok (.bipush 40, 2) := by decide +kernel
theorem dX3_openGroup_43 : decode cX3_openGroup 43 = .ok (.if_icmp .ne 8, 3) := by decide +kernel
theorem dX3_openGroup_46 : decode cX3_openGroup 46 = .ok (.bipush 41, 2) := by decide +kernel
theorem dX3_openGroup_48 : decode cX3_openGroup 48 = .ok (.goto 5, 3) := by decide +kernel
theorem dX3_openGroup_51 : decode cX3_openGroup 51 = .ok (.bipush 93, 2) := by decide +kernel
theorem dX3_openGroup_53 : decode cX3_openGroup 53 = .ok (.castore, 1) := by decide +kernel
theorem dX3_openGroup_54 : decode cX3_openGroup 54 = .ok (.aload_n 0, 1) := by decide +kernel
theorem dX3_openGroup_55 : decode cX3_openGroup 55 = .ok (.getfield 34, 3) := by decide +kernel
theorem dX3_openGroup_58 : decode cX3_openGroup 58 = .ok (.aload_n 0, 1) := by decide +kernel
theorem dX3_openGroup_59 : decode cX3_openGroup 59 = .ok (.getfield 41, 3) := by decide +kernel
theorem dX3_openGroup_62 : decode cX3_openGroup 62 = .ok (.aaload, 1) := by decide +kernel
theorem dX3_openGroup_63 : decode cX3_openGroup 63 = .ok (.lconst 0, 1) := by decide +kernel
theorem dX3_openGroup_64 : decode cX3_openGroup 64 = .ok (.invokestatic 88, 3) := by decide +kernel
theorem dX3_openGroup_67 : decode cX3_openGroup 67 = .ok (.aload_n 0, 1) := by decide +kernel
theorem dX3_openGroup_68 : decode cX3_openGroup 68 = .ok (.getfield 12, 3) := by decide +kernel
theorem dX3_openGroup_71 : decode cX3_openGroup 71 = .ok (.dup, 1) := by decide +kernel
theorem dX3_openGroup_72 : decode cX3_openGroup 72 = .ok (.getfield 51, 3) := by decide +kernel
theorem dX3_openGroup_75 : decode cX3_openGroup 75 = .ok (.iconst 1, 1) := by decide +kernel
theorem dX3_openGroup_76 : decode cX3_openGroup 76 = .ok (.iadd, 1) := by decide +kernel
theorem dX3_openGroup_77 : decode cX3_openGroup 77 = .ok (.putfield 51, 3) := by decide +kernel
theorem dX3_openGroup_80 : decode cX3_openGroup 80 = .ok (.return_, 1) := by decide +kernel
theorem dX3_closeGroup_0 : decode cX3_closeGroup 0 = .ok (.aload_n 0, 1) := by decide +kernel
theorem dX3_closeGroup_1 : decode cX3_closeGroup 1 = .ok (.getfield 12, 3) := by decide +kernel
theorem dX3_closeGroup_4 : decode cX3_closeGroup 4 = .ok (.dup, 1) := by decide +kernel
theorem dX3_closeGroup_5 : decode cX3_closeGroup 5 = .ok (.getfield 51, 3) := by decide +kernel
theorem dX3_closeGroup_8 : decode cX3_closeGroup 8 = .ok (.iconst 1, 1) := by decide +kernel
theorem dX3_closeGroup_9 : decode cX3_closeGroup 9 = .ok (.iadd, 1) := by decide +kernel
theorem dX3_closeGroup_10 : decode cX3_closeGroup 10 = .ok (.putfield 51, 3) := by decide +kernel
theorem dX3_closeGroup_13 : decode cX3_closeGroup 13 = .ok (.aload_n 0, 1) := by decide +kernel
theorem dX3_closeGroup_14 : decode cX3_closeGroup 14 = .ok (.invokevirtual 113, 3) := by decide +kernel
theorem dX3_closeGroup_17 : decode cX3_closeGroup 17 = .ok (.istore_n 1, 1) := by decide +kernel
theorem dX3_closeGroup_18 : decode cX3_closeGroup 18 = .ok (.aload_n 0, 1) := by decide +kernel
theorem dX3_closeGroup_19 : decode cX3_closeGroup 19 = .ok (.dup, 1) := by decide +kernel
theorem dX3_closeGroup_20 : decode cX3_closeGroup 20 = .ok (.getfield 41, 3) := by decide +kernel
theorem dX3_closeGroup_23 : decode cX3_closeGroup 23 = .ok (.iconst 1, 1) := by decide +kernel
theorem dX3_closeGroup_24 : decode cX3_closeGroup 24 = .ok (.isub, 1) := by decide +kernel
theorem dX3_closeGroup_25 : decode cX3_closeGroup 25 = .ok (.putfield 41, 3) := by decide +kernel
theorem dX3_closeGroup_28 : decode cX3_closeGroup 28 = .ok (.aload_n 0, 1) := by decide +kernel
theorem dX3_closeGroup_29 : decode cX3_closeGroup 29 = .ok (.getfield 34, 3) := by decide +kernel
theorem dX3_closeGroup_32 : decode cX3_closeGroup 32 = .ok (.aload_n 0, 1) := by decide +kernel
theorem dX3_closeGroup_33 : decode cX3_closeGroup 33 = .ok (.getfield 41, 3) := by decide +kernel
theorem dX3_closeGroup_36 : decode cX3_closeGroup 36 = .ok (.aaload, 1) := by decide +kernel
theorem dX3_closeGroup_37 : decode cX3_closeGroup 37 = .ok (.aload_n 0, 1) := by decide +kernel
theorem dX3_closeGroup_38 : decode cX3_closeGroup 38 = .ok (.getfield 34, 3) := by decide +kernel
theorem dX3_closeGroup_41 : decode cX3_closeGroup 41 = .ok (.aload_n 0, 1) := by decide +kernel
theorem dX3_closeGroup_42 : decode cX3_closeGroup 42 = .ok (.getfield 41, 3) := by decide +kernel
theorem dX3_closeGroup_45 : decode cX3_closeGroup 45 = .ok (.iconst 1, 1) := by decide +kernel
theorem dX3_closeGroup_46 : decode cX3_closeGroup 46 = .ok (.iadd, 1) := by decide +kernel
theorem dX3_closeGroup_47 : decode cX3_closeGroup 47 = .ok (.aaload, 1) := by decide +kernel
theorem dX3_closeGroup_48 : decode cX3_closeGroup 48 = .ok (.iload_n 1, 1) := by decide +kernel
theorem dX3_closeGroup_49 : decode cX3_closeGroup 49 = .ok (.invokestatic 120, 3) := by decide +kernel
theorem dX3_closeGroup_52 : decode cX3_closeGroup 52 = .ok (.return_, 1) := by decide +kernel
theorem dX3_addTimes_0 : decode cX3_addTimes 0 = .ok (.iconst 0, 1) := by decide +kernel
theorem dX3_addTimes_1 : decode cX3_addTimes 1 = .ok (.istore_n 3, 1) := by decide +kernel
theorem dX3_addTimes_2 : decode cX3_addTimes 2 = .ok (.iload_n 3, 1) := by decide +kernel
theorem dX3_addTimes_3 : decode cX3_addTimes 3 = .ok (.iconst 5, 1) := by decide +kernel
theorem dX3_addTimes_4 : decode cX3_addTimes 4 = .ok (.if_icmp .ge 21, 3) := by decide +kernel
theorem dX3_addTimes_7 : decode cX3_addTimes 7 = .ok (.aload_n 0, 1) := by decide +kernel
theorem dX3_addTimes_8 : decode cX3_addTimes 8 = .ok (.iload_n 3, 1) := by decide +kernel
theorem dX3_addTimes_9 : decode cX3_addTimes 9 = .ok (.dup2, 1) := by decide +kernel
theorem dX3_addTimes_10 : decode cX3_addTimes 10 = .ok (.laload, 1) := by decide +kernel
theorem dX3_addTimes_11 : decode cX3_addTimes 11 = .ok (.iload_n 2, 1) := by decide +kernel
theorem dX3_addTimes_12 : decode cX3_addTimes 12 = .ok (.i2l, 1) := by decide +kernel
theorem dX3_addTimes_13 : decode cX3_addTimes 13 = .ok (.aload_n 1, 1) := by decide +kernel
theorem dX3_addTimes_14 : decode cX3_addTimes 14 = .ok (.iload_n 3, 1) := by decide +kernel
theorem dX3_addTimes_15 : decode cX3_addTimes 15 = .ok (.laload, 1) := by decide +kernel
theorem dX3_addTimes_16 : decode cX3_addTimes 16 = .ok (.lmul, 1) := by decide +kernel
theorem dX3_addTimes_17 : decode cX3_addTimes 17 = .ok (.ladd, 1) := by decide +kernel
theorem dX3_addTimes_18 : decode cX3_addTimes 18 = .ok (.lastore, 1) := by decide +kernel
theorem dX3_addTimes_19 : decode cX3_addTimes 19 = .ok (.iinc 3 1, 3) := by decide +kernel
theorem dX3_addTimes_22 : decode cX3_addTimes 22 = .ok (.goto (-20), 3) := by decide +kernel
theorem dX3_addTimes_25 : decode cX3_addTimes 25 = .ok (.return_, 1) := by decide +kernel
theorem dX3_readCharge_0 : decode cX3_readCharge 0 = .ok (.aload_n 0, 1) := by decide +kernel
theorem dX3_readCharge_1 : decode cX3_readCharge 1 = .ok (.getfield 21, 3) := by decide +kernel
theorem dX3_readCharge_4 : decode cX3_readCharge 4 = .ok (.invokevirtual 110, 3) := by decide +kernel
theorem dX3_readCharge_7 : decode cX3_readCharge 7 = .ok (.ifCond .ne 17, 3) := by decide +kernel
theorem dX3_readCharge_10 : decode cX3_readCharge 10 = .ok (.aload_n 0, 1) := by decide +kernel
theorem dX3_readCharge_11 : decode cX3_readCharge 11 = .ok (.bipush (-5), 2) := by decide +kernel
theorem dX3_readCharge_13 : decode cX3_readCharge 13 = .ok (.aload_n 0, 1) := by decide +kernel
theorem dX3_readCharge_14 : decode cX3_readCharge 14 = .ok (.getfield 12, 3) := by decide +kernel
theorem dX3_readCharge_17 : decode cX3_readCharge 17 = .ok (.getfield 51, 3) := by decide +kernel
theorem dX3_readCharge_20 : decode cX3_readCharge 20 = .ok (.invokevirtual 66, 3) := by decide +kernel
theorem dX3_readCharge_23 : decode cX3_readCharge 23 = .ok (.return_, 1) := by decide +kernel
theorem dX3_readCharge_24 : decode cX3_readCharge 24 = .ok (.aload_n 0, 1) := by decide +kernel
theorem dX3_readCharge_25 : decode cX3_readCharge 25 = .ok (.getfield 12, 3) := by decide +kernel
theorem dX3_readCharge_28 : decode cX3_readCharge 28 = .ok (.dup, 1) := by decide +kernel
theorem dX3_readCharge_29 : decode cX3_readCharge 29 = .ok (.getfield 51, 3) := by decide +kernel
theorem dX3_readCharge_32 : decode cX3_readCharge 32 = .ok (.iconst 1, 1) := by decide +kernel
theorem dX3_readCharge_33 : decode cX3_readCharge 33 = .ok (.iadd, 1) := by decide +kernel
theorem dX3_readCharge_34 : decode cX3_readCharge 34 = .ok (.putfield 51, 3) := by decide +kernel
theorem dX3_readCharge_37 : decode cX3_readCharge 37 = .ok (.aload_n 0, 1) := by decide +kernel
theorem dX3_readCharge_38 : decode cX3_readCharge 38 = .ok (.invokevirtual 113, 3) := by decide +kernel
theorem dX3_readCharge_41 : decode cX3_readCharge 41 = .ok (.istore_n 1, 1) := by decide +kernel
theorem dX3_readCharge_42 : decode cX3_readCharge 42 = .ok (.aload_n 0, 1) := by decide +kernel
theorem dX3_readCharge_43 : decode cX3_readCharge 43 = .ok (.getfield 25, 3) := by decide +kernel
theorem dX3_readCharge_46 : decode cX3_readCharge 46 = .ok (.ifCond .eq 4, 3) := by decide +kernel
theorem dX3_readCharge_49 : decode cX3_readCharge 49 = .ok (.return_, 1) := by decide +kernel
theorem dX3_readCharge_50 : decode cX3_readCharge 50 = .ok (.aload_n 0, 1) := by decide +kernel
theorem dX3_readCharge_51 : decode cX3_readCharge 51 = .ok (.getfield 12, 3) := by decide +kernel
theorem dX3_readCharge_54 : decode cX3_readCharge 54 = .ok (.invokevirtual 70, 3) := by decide +kernel
theorem dX3_readCharge_57 : decode cX3_readCharge 57 = .ok (.istore_n 2, 1) := by decide +kernel
theorem dX3_readCharge_58 : decode cX3_readCharge 58 = .ok (.iload_n 2, 1) := by decide +kernel
theorem dX3_readCharge_59 : decode cX3_readCharge 59 = .ok (.bipush 43, 2) := by decide +kernel
theorem dX3_readCharge_61 : decode cX3_readCharge 61 = .ok (.if_icmp .eq 23, 3) := by decide +kernel
theorem dX3_readCharge_64 : decode cX3_readCharge 64 = .ok (.iload_n 2, 1) := by decide +kernel
theorem dX3_readCharge_65 : decode cX3_readCharge 65 = .ok (.bipush 45, 2) := by decide +kernel
theorem dX3_readCharge_67 : decode cX3_readCharge 67 = .ok (.if_icmp .eq 17, 3) := by decide +kernel
theorem dX3_readCharge_70 : decode cX3_readCharge 70 = .ok (.aload_n 0, 1) := by decide +kernel
theorem dX3_readCharge_71 : decode cX3_readCharge 71 = .ok (.bipush (-2), 2) := by decide +kernel
theorem dX3_readCharge_73 : decode cX3_readCharge 73 = .ok (.aload_n 0, 1) := by decide +kernel
theorem dX3_readCharge_74 : decode cX3_readCharge 74 = .ok (.getfield 12, 3) := by decide +kernel
theorem dX3_readCharge_77 : decode cX3_readCharge 77 = .ok (.getfield 51, 3) := by decide +kernel
theorem dX3_readCharge_80 : decode cX3_readCharge 80 = .ok (.invokevirtual 66, 3) := by decide +kernel
theorem dX3_readCharge_83 : decode cX3_readCharge 83 = .ok (.return_, 1) := by decide +kernel
theorem dX3_readCharge_84 : decode cX3_readCharge 84 = .ok (.aload_n 0, 1) := by decide +kernel
theorem dX3_readCharge_85 : decode cX3_readCharge 85 = .ok (.iload_n 2, 1) := by decide +kernel
theorem dX3_readCharge_86 : decode cX3_readCharge 86 = .ok (.bipush 43, 2) := by decide +kernel
theorem dX3_readCharge_88 : decode cX3_readCharge 88 = .ok (.if_icmp .ne 7, 3) := by decide +kernel
theorem dX3_readCharge_91 : decode cX3_readCharge 91 = .ok (.iload_n 1, 1) := by decide +kernel
theorem dX3_readCharge_92 : decode cX3_readCharge 92 = .ok (.goto 5, 3) := by decide +kernel
theorem dX3_readCharge_95 : decode cX3_readCharge 95 = .ok (.iload_n 1, 1) := by decide +kernel
theorem dX3_readCharge_96 : decode cX3_readCharge 96 = .ok (.ineg, 1) := by decide +kernel
theorem dX3_readCharge_97 : decode cX3_readCharge 97 = .ok (.putfield 48, 3) := by decide +kernel
theorem dX3_readCharge_100 : decode cX3_readCharge 100 = .ok (.aload_n 0, 1) := by decide +kernel
theorem dX3_readCharge_101 : decode cX3_readCharge 101 = .ok (.getfield 12, 3) := by decide +kernel
theorem dX3_readCharge_104 : decode cX3_readCharge 104 = .ok (.dup, 1) := by decide +kernel
theorem dX3_readCharge_105 : decode cX3_readCharge 105 = .ok (.getfield 51, 3) := by decide +kernel
theorem dX3_readCharge_108 : decode cX3_readCharge 108 = .ok (.iconst 1, 1) := by decide +kernel
theorem dX3_readCharge_109 : decode cX3_readCharge 109 = .ok (.iadd, 1) := by decide +kernel
theorem dX3_readCharge_110 : decode cX3_readCharge 110 = .ok (.putfield 51, 3) := by decide +kernel
theorem dX3_readCharge_113 : decode cX3_readCharge 113 = .ok (.return_, 1) := by decide +kernel
theorem dX3_endFormula_0 : decode cX3_endFormula 0 = .ok (.aload_n 0, 1) := by decide +kernel
theorem dX3_endFormula_1 : decode cX3_endFormula 1 = .ok (.getfield 25, 3) := by decide +kernel
theorem dX3_endFormula_4 : decode cX3_endFormula 4 = .ok (.ifCond .ne 17, 3) := by decide +kernel
theorem dX3_endFormula_7 : decode cX3_endFormula 7 = .ok (.aload_n 0, 1) := by decide +kernel
theorem dX3_endFormula_8 : decode cX3_endFormula 8 = .ok (.invokevirtual 94, 3) := by decide +kernel
theorem dX3_endFormula_11 : decode cX3_endFormula 11 = .ok (.ifCond .eq 10, 3) := by decide +kernel
theorem dX3_endFormula_14 : decode cX3_endFormula 14 = .ok (.aload_n 0, 1) := by decide +kernel
theorem dX3_endFormula_15 : decode cX3_endFormula 15 = .ok (.bipush (-6), 2) := by decide +kernel
theorem dX3_endFormula_17 : decode cX3_endFormula 17 = .ok (.iload_n 1, 1) := by decide +kernel
theorem dX3_endFormula_18 : decode cX3_endFormula 18 = .ok (.invokevirtual 66, 3) := by decide +kernel
theorem dX3_endFormula_21 : decode cX3_endFormula 21 = .ok (.aload_n 0, 1) := by decide +kernel
theorem dX3_endFormula_22 : decode cX3_endFormula 22 = .ok (.getfield 25, 3) := by decide +kernel
theorem dX3_endFormula_25 : decode cX3_endFormula 25 = .ok (.ifCond .ne 26, 3) := by decide +kernel
theorem dX3_endFormula_28 : decode cX3_endFormula 28 = .ok (.aload_n 0, 1) := by decide +kernel
theorem dX3_endFormula_29 : decode cX3_endFormula 29 = .ok (.getfield 21, 3) := by decide +kernel
theorem dX3_endFormula_32 : decode cX3_endFormula 32 = .ok (.iload_n 1, 1) := by decide +kernel
theorem dX3_endFormula_33 : decode cX3_endFormula 33 = .ok (.aload_n 0, 1) := by decide +kernel
theorem dX3_endFormula_34 : decode cX3_endFormula 34 = .ok (.getfield 12, 3) := by decide +kernel
theorem dX3_endFormula_37 : decode cX3_endFormula 37 = .ok (.getfield 51, 3) := by decide +kernel
theorem dX3_endFormula_40 : decode cX3_endFormula 40 = .ok (.aload_n 0, 1) := by decide +kernel
theorem dX3_endFormula_41 : decode cX3_endFormula 41 = .ok (.getfield 44, 3) := by decide +kernel
theorem dX3_endFormula_44 : decode cX3_endFormula 44 = .ok (.aload_n 0, 1) := by decide +kernel
theorem dX3_endFormula_45 : decode cX3_endFormula 45 = .ok (.getfield 48, 3) := by decide +kernel
theorem dX3_endFormula_48 : decode cX3_endFormula 48 = .ok (.invokevirtual 97, 3) := by decide +kernel
theorem dX3_endFormula_51 : decode cX3_endFormula 51 = .ok (.return_, 1) := by decide +kernel
theorem dX3_isTooMuch_0 : decode cX3_isTooMuch 0 = .ok (.iconst 0, 1) := by decide +kernel
theorem dX3_isTooMuch_1 : decode cX3_isTooMuch 1 = .ok (.istore_n 1, 1) := by decide +kernel
theorem dX3_isTooMuch_2 : decode cX3_isTooMuch 2 = .ok (.iload_n 1, 1) := by decide +kernel
theorem dX3_isTooMuch_3 : decode cX3_isTooMuch 3 = .ok (.iconst 5, 1) := by decide +kernel
theorem dX3_isTooMuch_4 : decode cX3_isTooMuch 4 = .ok (.if_icmp .ge 24, 3) := by decide +kernel
theorem dX3_isTooMuch_7 : decode cX3_isTooMuch 7 = .ok (.aload_n 0, 1) := by decide +kernel
theorem dX3_isTooMuch_8 : decode cX3_isTooMuch 8 = .ok (.getfield 44, 3) := by decide +kernel
theorem dX3_isTooMuch_11 : decode cX3_isTooMuch 11 = .ok (.iload_n 1, 1) := by decide +kernel
theorem dX3_isTooMuch_12 : decode cX3_isTooMuch 12 = .ok (.laload, 1) := by decide +kernel
theorem dX3_isTooMuch_13 : decode cX3_isTooMuch 13 = .ok (.ldc2_w 101, 3) := by decide +kernel
theorem dX3_isTooMuch_16 : decode cX3_isTooMuch 16 = .ok (.lcmp, 1) := by decide +kernel
theorem dX3_isTooMuch_17 : decode cX3_isTooMuch 17 = .ok (.ifCond .le 5, 3) := by decide +kernel
theorem dX3_isTooMuch_20 : decode cX3_isTooMuch 20 = .ok (.iconst 1, 1) := by decide +kernel
theorem dX3_isTooMuch_21 : decode cX3_isTooMuch 21 = .ok (.ireturn, 1) := by decide +kernel
theorem dX3_isTooMuch_22 : decode cX3_isTooMuch 22 = .ok (.iinc 1 1, 3) := by decide +kernel
theorem dX3_isTooMuch_25 : decode cX3_isTooMuch 25 = .ok (.goto (-23), 3) := by decide +kernel
theorem dX3_isTooMuch_28 : decode cX3_isTooMuch 28 = .ok (.aload_n 0, 1) := by decide +kernel
theorem dX3_isTooMuch_29 : decode cX3_isTooMuch 29 = .ok (.getfield 48, 3) := by decide +kernel
theorem dX3_isTooMuch_32 : decode cX3_isTooMuch 32 = .ok (.bipush 40, 2) := by decide +kernel
theorem dX3_isTooMuch_34 : decode cX3_isTooMuch 34 = .ok (.if_icmp .gt 12, 3) := by decide +kernel
theorem dX3_isTooMuch_37 : decode cX3_isTooMuch 37 = .ok (.aload_n 0, 1) := by decide +kernel
theorem dX3_isTooMuch_38 : decode cX3_isTooMuch 38 = .ok (.getfield 48, 3) := by decide +kernel
theorem dX3_isTooMuch_41 : decode cX3_isTooMuch 41 = .ok (.bipush (-40), 2) := by decide +kernel
theorem dX3_isTooMuch_43 : decode cX3_isTooMuch 43 = .ok (.if_icmp .ge 7, 3) := by decide +kernel
theorem dX3_isTooMuch_46 : decode cX3_isTooMuch 46 = .ok (.iconst 1, 1) := by decide +kernel
theorem dX3_isTooMuch_47 : decode cX3_isTooMuch 47 = .ok (.goto 4, 3) := by decide +kernel
theorem dX3_isTooMuch_50 : decode cX3_isTooMuch 50 = .ok (.iconst 0, 1) := by decide +kernel
theorem dX3_isTooMuch_51 : decode cX3_isTooMuch 51 = .ok (.ireturn, 1) := by decide +kernel
theorem dX3_readSign_0 : decode cX3_readSign 0 = .ok (.aload_n 0, 1) := by decide +kernel
theorem dX3_readSign_1 : decode cX3_readSign 1 = .ok (.getfield 12, 3) := by decide +kernel
theorem dX3_readSign_4 : decode cX3_readSign 4 = .ok (.invokevirtual 57, 3) := by decide +kernel
theorem dX3_readSign_7 : decode cX3_readSign 7 = .ok (.aload_n 0, 1) := by decide +kernel
theorem dX3_readSign_8 : decode cX3_readSign 8 = .ok (.getfield 12, 3) := by decide +kernel
theorem dX3_readSign_11 : decode cX3_readSign 11 = .ok (.invokevirtual 70, 3) := by decide +kernel
theorem dX3_readSign_14 : decode cX3_readSign 14 = .ok (.istore_n 1, 1) := by decide +kernel
theorem dX3_readSign_15 : decode cX3_readSign 15 = .ok (.aload_n 0, 1) := by decide +kernel
theorem dX3_readSign_16 : decode cX3_readSign 16 = .ok (.getfield 21, 3) := by decide +kernel
theorem dX3_readSign_19 : decode cX3_readSign 19 = .ok (.getfield 103, 3) := by decide +kernel
theorem dX3_readSign_22 : decode cX3_readSign 22 = .ok (.ifCond .le 7, 3) := by decide +kernel
theorem dX3_readSign_25 : decode cX3_readSign 25 = .ok (.iconst 1, 1) := by decide +kernel
theorem dX3_readSign_26 : decode cX3_readSign 26 = .ok (.goto 4, 3) := by decide +kernel
theorem dX3_readSign_29 : decode cX3_readSign 29 = .ok (.iconst 0, 1) := by decide +kernel
theorem dX3_readSign_30 : decode cX3_readSign 30 = .ok (.istore_n 2, 1) := by decide +kernel
theorem dX3_readSign_31 : decode cX3_readSign 31 = .ok (.iload_n 1, 1) := by decide +kernel
theorem dX3_readSign_32 : decode cX3_readSign 32 = .ok (.ifCond .ne 9, 3) := by decide +kernel
theorem dX3_readSign_35 : decode cX3_readSign 35 = .ok (.iload_n 2, 1) := by decide +kernel
theorem dX3_readSign_36 : decode cX3_readSign 36 = .ok (.ifCond .eq 5, 3) := by decide +kernel
theorem dX3_readSign_39 : decode cX3_readSign 39 = .ok (.iconst 0, 1) := by decide +kernel
theorem dX3_readSign_40 : decode cX3_readSign 40 = .ok (.ireturn, 1) := by decide +kernel
theorem dX3_readSign_41 : decode cX3_readSign 41 = .ok (.iload_n 1, 1) := by decide +kernel
theorem dX3_readSign_42 : decode cX3_readSign 42 = .ok (.bipush 61, 2) := by decide +kernel
theorem dX3_readSign_44 : decode cX3_readSign 44 = .ok (.if_icmp .ne 24, 3) := by decide +kernel
theorem dX3_readSign_47 : decode cX3_readSign 47 = .ok (.iload_n 2, 1) := by decide +kernel
theorem dX3_readSign_48 : decode cX3_readSign 48 = .ok (.ifCond .ne 20, 3) := by decide +kernel
theorem dX3_readSign_51 : decode cX3_readSign 51 = .ok (.aload_n 0, 1) := by decide +kernel
theorem dX3_readSign_52 : decode cX3_readSign 52 = .ok (.getfield 21, 3) := by decide +kernel
theorem dX3_readSign_55 : decode cX3_readSign 55 = .ok (.aload_n 0, 1) := by decide +kernel
theorem dX3_readSign_56 : decode cX3_readSign 56 = .ok (.getfield 21, 3) := by decide +kernel
theorem dX3_readSign_59 : decode cX3_readSign 59 = .ok (.getfield 63, 3) := by decide +kernel
theorem dX3_readSign_62 : decode cX3_readSign 62 = .ok (.putfield 103, 3) := by decide +kernel
theorem dX3_readSign_65 : decode cX3_readSign 65 = .ok (.goto 24, 3) := by decide +kernel
theorem dX3_readSign_68 : decode cX3_readSign 68 = .ok (.iload_n 1, 1) := by decide +kernel
theorem dX3_readSign_69 : decode cX3_readSign 69 = .ok (.bipush 43, 2) := by decide +kernel
theorem dX3_readSign_71 : decode cX3_readSign 71 = .ok (.if_icmp .eq 18, 3) := by decide +kernel
theorem dX3_readSign_74 : decode cX3_readSign 74 = .ok (.aload_n 0, 1) := by decide +kernel
theorem dX3_readSign_75 : decode cX3_readSign 75 = .ok (.bipush (-2), 2) := by decide +kernel
theorem dX3_readSign_77 : decode cX3_readSign 77 = .ok (.aload_n 0, 1) := by decide +kernel
theorem dX3_readSign_78 : decode cX3_readSign 78 = .ok (.getfield 12, 3) := by decide +kernel
theorem dX3_readSign_81 : decode cX3_readSign 81 = .ok (.getfield 51, 3) := by decide +kernel
theorem dX3_readSign_84 : decode cX3_readSign 84 = .ok (.invokevirtual 66, 3) := by decide +kernel
theorem dX3_readSign_87 : decode cX3_readSign 87 = .ok (.iconst 0, 1) := by decide +kernel
theorem dX3_readSign_88 : decode cX3_readSign 88 = .ok (.ireturn, 1) := by decide +kernel
theorem dX3_readSign_89 : decode cX3_readSign 89 = .ok (.aload_n 0, 1) := by decide +kernel
theorem dX3_readSign_90 : decode cX3_readSign 90 = .ok (.getfield 12, 3) := by decide +kernel
theorem dX3_readSign_93 : decode cX3_readSign 93 = .ok (.dup, 1) := by decide +kernel
theorem dX3_readSign_94 : decode cX3_readSign 94 = .ok (.getfield 51, 3) := by decide +kernel
theorem dX3_readSign_97 : decode cX3_readSign 97 = .ok (.iconst 1, 1) := by decide +kernel
theorem dX3_readSign_98 : decode cX3_readSign 98 = .ok (.iadd, 1) := by decide +kernel
theorem dX3_readSign_99 : decode cX3_readSign 99 = .ok (.putfield 51, 3) := by decide +kernel
theorem dX3_readSign_102 : decode cX3_readSign 102 = .ok (.iconst 1, 1) := by decide +kernel
theorem dX3_readSign_103 : decode cX3_readSign 103 = .ok (.ireturn, 1) := by decide +kernel
end
section
theorem dX4_add_0 : decode cX4_add 0 = .ok (.aload_n 0, 1) := by decide +kernel
theorem dX4_add_1 : decode cX4_add 1 = .ok (.getfield 15, 3) := by decide +kernel
theorem dX4_add_4 : decode cX4_add 4 = .ok (.bipush 100, 2) := by decide +kernel
theorem dX4_add_6 : decode cX4_add 6 = .ok (.if_icmp .ge 23, 3) := by decide +kernel
theorem dX4_add_9 : decode cX4_add 9 = .ok (.aload_n 0, 1) := by decide +kernel
theorem dX4_add_10 : decode cX4_add 10 = .ok (.getfield 9, 3) := by decide +kernel
theorem dX4_add_13 : decode cX4_add 13 = .ok (.aload_n 0, 1) := by decide +kernel
theorem dX4_add_14 : decode cX4_add 14 = .ok (.getfield 15, 3) := by decide +kernel
theorem dX4_add_17 : decode cX4_add 17 = .ok (.iload_n 1, 1) := by decide +kernel
theorem dX4_add_18 : decode cX4_add 18 = .ok (.castore, 1) := by decide +kernel
theorem dX4_add_19 : decode cX4_add 19 = .ok (.aload_n 0, 1) := by decide +kernel
theorem dX4_add_20 : decode cX4_add 20 = .ok (.dup, 1) := by decide +kernel
theorem dX4_add_21 : decode cX4_add 21 = .ok (.getfield 15, 3) := by decide +kernel
theorem dX4_add_24 : decode cX4_add 24 = .ok (.iconst 1, 1) := by decide +kernel
theorem dX4_add_25 : decode cX4_add 25 = .ok (.iadd, 1) := by decide +kernel
theorem dX4_add_26 : decode cX4_add 26 = .ok (.putfield 15, 3) := by decide +kernel
theorem dX4_add_29 : decode cX4_add 29 = .ok (.return_, 1) := by decide +kernel
theorem dX4_skipBlanks_0 : decode cX4_skipBlanks 0 = .ok (.aload_n 0, 1) := by decide +kernel
theorem dX4_skipBlanks_1 : decode cX4_skipBlanks 1 = .ok (.getfield 19, 3) := by decide +kernel
theorem dX4_skipBlanks_4 : decode cX4_skipBlanks 4 = .ok (.aload_n 0, 1) := by decide +kernel
theorem dX4_skipBlanks_5 : decode cX4_skipBlanks 5 = .ok (.getfield 15, 3) := by decide +kernel
theorem dX4_skipBlanks_8 : decode cX4_skipBlanks 8 = .ok (.if_icmp .ge 30, 3) := by decide +kernel
theorem dX4_skipBlanks_11 : decode cX4_skipBlanks 11 = .ok (.aload_n 0, 1) := by decide +kernel
theorem dX4_skipBlanks_12 : decode cX4_skipBlanks 12 = .ok (.getfield 9, 3) := by decide +kernel
theorem dX4_skipBlanks_15 : decode cX4_skipBlanks 15 = .ok (.aload_n 0, 1) := by decide +kernel
theorem dX4_skipBlanks_16 : decode cX4_skipBlanks 16 = .ok (.getfield 19, 3) := by decide +kernel
theorem dX4_skipBlanks_19 : decode cX4_skipBlanks 19 = .ok (.caload, 1) := by decide +kernel
theorem dX4_skipBlanks_20 : decode cX4_skipBlanks 20 = .ok (.bipush 32, 2) := by decide +kernel
theorem dX4_skipBlanks_22 : decode cX4_skipBlanks 22 = .ok (.if_icmp .ne 16, 3) := by decide +kernel
theorem dX4_skipBlanks_25 : decode cX4_skipBlanks 25 = .ok (.aload_n 0, 1) := by decide +kernel
theorem dX4_skipBlanks_26 : decode cX4_skipBlanks 26 = .ok (.dup, 1) := by decide +kernel
theorem dX4_skipBlanks_27 : decode cX4_skipBlanks 27 = .ok (.getfield 19, 3) := by decide +kernel
theorem dX4_skipBlanks_30 : decode cX4_skipBlanks 30 = .ok (.iconst 1, 1) := by decide +kernel
theorem dX4_skipBlanks_31 : decode cX4_skipBlanks 31 = .ok (.iadd, 1) := by decide +kernel
theorem dX4_skipBlanks_32 : decode cX4_skipBlanks 32 = .ok (.putfield 19, 3) := by decide +kernel
theorem dX4_skipBlanks_35 : decode cX4_skipBlanks 35 = .ok (.goto (-35), 3) := by decide +kernel
theorem dX4_skipBlanks_38 : decode cX4_skipBlanks 38 = .ok (.return_, 1) := by decide +kernel
theorem dX4_here_0 : decode cX4_here 0 = .ok (.aload_n 0, 1) := by decide +kernel
theorem dX4_here_1 : decode cX4_here 1 = .ok (.getfield 19, 3) := by decide +kernel
theorem dX4_here_4 : decode cX4_here 4 = .ok (.ifCond .lt 26, 3) := by decide +kernel
theorem dX4_here_7 : decode cX4_here 7 = .ok (.aload_n 0, 1) := by decide +kernel
theorem dX4_here_8 : decode cX4_here 8 = .ok (.getfield 19, 3) := by decide +kernel
theorem dX4_here_11 : decode cX4_here 11 = .ok (.aload_n 0, 1) := by decide +kernel
theorem dX4_here_12 : decode cX4_here 12 = .ok (.getfield 15, 3) := by decide +kernel
theorem dX4_here_15 : decode cX4_here 15 = .ok (.if_icmp .ge 15, 3) := by decide +kernel
theorem dX4_here_18 : decode cX4_here 18 = .ok (.aload_n 0, 1) := by decide +kernel
theorem dX4_here_19 : decode cX4_here 19 = .ok (.getfield 9, 3) := by decide +kernel
theorem dX4_here_22 : decode cX4_here 22 = .ok (.aload_n 0, 1) := by decide +kernel
theorem dX4_here_23 : decode cX4_here 23 = .ok (.getfield 19, 3) := by decide +kernel
theorem dX4_here_26 : decode cX4_here 26 = .ok (.caload, 1) := by decide +kernel
theorem dX4_here_27 : decode cX4_here 27 = .ok (.goto 4, 3) := by decide +kernel
theorem dX4_here_30 : decode cX4_here 30 = .ok (.iconst 0, 1) := by decide +kernel
theorem dX4_here_31 : decode cX4_here 31 = .ok (.ireturn, 1) := by decide +kernel
theorem dX4_ahead_0 : decode cX4_ahead 0 = .ok (.aload_n 0, 1) := by decide +kernel
theorem dX4_ahead_1 : decode cX4_ahead 1 = .ok (.getfield 19, 3) := by decide +kernel
theorem dX4_ahead_4 : decode cX4_ahead 4 = .ok (.iload_n 1, 1) := by decide +kernel
theorem dX4_ahead_5 : decode cX4_ahead 5 = .ok (.iadd, 1) := by decide +kernel
theorem dX4_ahead_6 : decode cX4_ahead 6 = .ok (.istore_n 2, 1) := by decide +kernel
theorem dX4_ahead_7 : decode cX4_ahead 7 = .ok (.iload_n 2, 1) := by decide +kernel
theorem dX4_ahead_8 : decode cX4_ahead 8 = .ok (.ifCond .lt 20, 3) := by decide +kernel
theorem dX4_ahead_11 : decode cX4_ahead 11 = .ok (.iload_n 2, 1) := by decide +kernel
theorem dX4_ahead_12 : decode cX4_ahead 12 = .ok (.aload_n 0, 1) := by decide +kernel
theorem dX4_ahead_13 : decode cX4_ahead 13 = .ok (.getfield 15, 3) := by decide +kernel
theorem dX4_ahead_16 : decode cX4_ahead 16 = .ok (.if_icmp .ge 12, 3) := by decide +kernel
theorem dX4_ahead_19 : decode cX4_ahead 19 = .ok (.aload_n 0, 1) := by decide +kernel
theorem dX4_ahead_20 : decode cX4_ahead 20 = .ok (.getfield 9, 3) := by decide +kernel
theorem dX4_ahead_23 : decode cX4_ahead 23 = .ok (.iload_n 2, 1) := by decide +kernel
theorem dX4_ahead_24 : decode cX4_ahead 24 = .ok (.caload, 1) := by decide +kernel
theorem dX4_ahead_25 : decode cX4_ahead 25 = .ok (.goto 4, 3) := by decide +kernel
theorem dX4_ahead_28 : decode cX4_ahead 28 = .ok (.iconst 0, 1) := by decide +kernel
theorem dX4_ahead_29 : decode cX4_ahead 29 = .ok (.ireturn, 1) := by decide +kernel
theorem dX4_clear_0 : decode cX4_clear 0 = .ok (.aload_n 0, 1) := by decide +kernel
theorem dX4_clear_1 : decode cX4_clear 1 = .ok (.iconst 0, 1) := by decide +kernel
theorem dX4_clear_2 : decode cX4_clear 2 = .ok (.putfield 15, 3) := by decide +kernel
theorem dX4_clear_5 : decode cX4_clear 5 = .ok (.aload_n 0, 1) := by decide +kernel
theorem dX4_clear_6 : decode cX4_clear 6 = .ok (.iconst 0, 1) := by decide +kernel
theorem dX4_clear_7 : decode cX4_clear 7 = .ok (.putfield 19, 3) := by decide +kernel
theorem dX4_clear_10 : decode cX4_clear 10 = .ok (.return_, 1) := by decide +kernel
end
section
theorem dX5_type_0 : decode cX5_type 0 = .ok (.lload_n 1, 1) := by decide +kernel
theorem dX5_type_1 : decode cX5_type 1 = .ok (.invokestatic 30, 3) := by decide +kernel
theorem dX5_type_4 : decode cX5_type 4 = .ok (.istore_n 3, 1) := by decide +kernel
theorem dX5_type_5 : decode cX5_type 5 = .ok (.iconst 0, 1) := by decide +kernel
theorem dX5_type_6 : decode cX5_type 6 = .ok (.istore 4, 2) := by decide +kernel
theorem dX5_type_8 : decode cX5_type 8 = .ok (.iload 4, 2) := by decide +kernel
theorem dX5_type_10 : decode cX5_type 10 = .ok (.iload_n 3, 1) := by decide +kernel
theorem dX5_type_11 : decode cX5_type 11 = .ok (.if_icmp .ge 29, 3) := by decide +kernel
theorem dX5_type_14 : decode cX5_type 14 = .ok (.lload_n 1, 1) := by decide +kernel
theorem dX5_type_15 : decode cX5_type 15 = .ok (.iload 4, 2) := by decide +kernel
theorem dX5_type_17 : decode cX5_type 17 = .ok (.invokestatic 34, 3) := by decide +kernel
theorem dX5_type_20 : decode cX5_type 20 = .ok (.invokestatic 38, 3) := by decide +kernel
theorem dX5_type_23 : decode cX5_type 23 = .ok (.ifCond .ne 11, 3) := by decide +kernel
theorem dX5_type_26 : decode cX5_type 26 = .ok (.new 42, 3) := by decide +kernel
theorem dX5_type_29 : decode cX5_type 29 = .ok (.dup, 1) := by decide +kernel
theorem dX5_type_30 : decode cX5_type 30 = .ok (.invokespecial 44, 3) := by decide +kernel
theorem dX5_type_33 : decode cX5_type 33 = .ok (.athrow, 1) := by decide +kernel
theorem dX5_type_34 : decode cX5_type 34 = .ok (.iinc 4 1, 3) := by decide +kernel
theorem dX5_type_37 : decode cX5_type 37 = .ok (.goto (-29), 3) := by decide +kernel
theorem dX5_type_40 : decode cX5_type 40 = .ok (.aload_n 0, 1) := by decide +kernel
theorem dX5_type_41 : decode cX5_type 41 = .ok (.getfield 10, 3) := by decide +kernel
theorem dX5_type_44 : decode cX5_type 44 = .ok (.getfield 45, 3) := by decide +kernel
theorem dX5_type_47 : decode cX5_type 47 = .ok (.astore 4, 2) := by decide +kernel
theorem dX5_type_49 : decode cX5_type 49 = .ok (.aload 4, 2) := by decide +kernel
theorem dX5_type_51 : decode cX5_type 51 = .ok (.getfield 49, 3) := by decide +kernel
theorem dX5_type_54 : decode cX5_type 54 = .ok (.iload_n 3, 1) := by decide +kernel
theorem dX5_type_55 : decode cX5_type 55 = .ok (.iadd, 1) := by decide +kernel
theorem dX5_type_56 : decode cX5_type 56 = .ok (.bipush 100, 2) := by decide +kernel
theorem dX5_type_58 : decode cX5_type 58 = .ok (.if_icmp .le 11, 3) := by decide +kernel
theorem dX5_type_61 : decode cX5_type 61 = .ok (.new 55, 3) := by decide +kernel
theorem dX5_type_64 : decode cX5_type 64 = .ok (.dup, 1) := by decide +kernel
theorem dX5_type_65 : decode cX5_type 65 = .ok (.invokespecial 57, 3) := by decide +kernel
theorem dX5_type_68 : decode cX5_type 68 = .ok (.athrow, 1) := by decide +kernel
theorem dX5_type_69 : decode cX5_type 69 = .ok (.iconst 0, 1) := by decide +kernel
theorem dX5_type_70 : decode cX5_type 70 = .ok (.istore 5, 2) := by decide +kernel
theorem dX5_type_72 : decode cX5_type 72 = .ok (.iload 5, 2) := by decide +kernel
theorem dX5_type_74 : decode cX5_type 74 = .ok (.iload_n 3, 1) := by decide +kernel
theorem dX5_type_75 : decode cX5_type 75 = .ok (.if_icmp .ge 21, 3) := by decide +kernel
theorem dX5_type_78 : decode cX5_type 78 = .ok (.aload 4, 2) := by decide +kernel
theorem dX5_type_80 : decode cX5_type 80 = .ok (.lload_n 1, 1) := by decide +kernel
theorem dX5_type_81 : decode cX5_type 81 = .ok (.iload 5, 2) := by decide +kernel
theorem dX5_type_83 : decode cX5_type 83 = .ok (.invokestatic 34, 3) := by decide +kernel
theorem dX5_type_86 : decode cX5_type 86 = .ok (.i2c, 1) := by decide +kernel
theorem dX5_type_87 : decode cX5_type 87 = .ok (.invokevirtual 58, 3) := by decide +kernel
theorem dX5_type_90 : decode cX5_type 90 = .ok (.iinc 5 1, 3) := by decide +kernel
theorem dX5_type_93 : decode cX5_type 93 = .ok (.goto (-21), 3) := by decide +kernel
theorem dX5_type_96 : decode cX5_type 96 = .ok (.aload 4, 2) := by decide +kernel
theorem dX5_type_98 : decode cX5_type 98 = .ok (.getfield 49, 3) := by decide +kernel
theorem dX5_type_101 : decode cX5_type 101 = .ok (.ireturn, 1) := by decide +kernel
theorem dX5_charactersIn_0 : decode cX5_charactersIn 0 = .ok (.iconst 0, 1) := by decide +kernel
theorem dX5_charactersIn_1 : decode cX5_charactersIn 1 = .ok (.istore_n 2, 1) := by decide +kernel
theorem dX5_charactersIn_2 : decode cX5_charactersIn 2 = .ok (.iload_n 2, 1) := by decide +kernel
theorem dX5_charactersIn_3 : decode cX5_charactersIn 3 = .ok (.bipush 8, 2) := by decide +kernel
theorem dX5_charactersIn_5 : decode cX5_charactersIn 5 = .ok (.if_icmp .ge 17, 3) := by decide +kernel
theorem dX5_charactersIn_8 : decode cX5_charactersIn 8 = .ok (.lload_n 0, 1) := by decide +kernel
theorem dX5_charactersIn_9 : decode cX5_charactersIn 9 = .ok (.iload_n 2, 1) := by decide +kernel
theorem dX5_charactersIn_10 : decode cX5_charactersIn 10 = .ok (.invokestatic 34, 3) := by decide +kernel
theorem dX5_charactersIn_13 : decode cX5_charactersIn 13 = .ok (.ifCond .eq 9, 3) := by decide +kernel
theorem dX5_charactersIn_16 : decode cX5_charactersIn 16 = .ok (.iinc 2 1, 3) := by decide +kernel
theorem dX5_charactersIn_19 : decode cX5_charactersIn 19 = .ok (.goto (-17), 3) := by decide +kernel
theorem dX5_charactersIn_22 : decode cX5_charactersIn 22 = .ok (.iload_n 2, 1) := by decide +kernel
theorem dX5_charactersIn_23 : decode cX5_charactersIn 23 = .ok (.ireturn, 1) := by decide +kernel
theorem dX5_byteOf_0 : decode cX5_byteOf 0 = .ok (.lload_n 0, 1) := by decide +kernel
theorem dX5_byteOf_1 : decode cX5_byteOf 1 = .ok (.bipush 8, 2) := by decide +kernel
theorem dX5_byteOf_3 : decode cX5_byteOf 3 = .ok (.iload_n 2, 1) := by decide +kernel
theorem dX5_byteOf_4 : decode cX5_byteOf 4 = .ok (.imul, 1) := by decide +kernel
theorem dX5_byteOf_5 : decode cX5_byteOf 5 = .ok (.lushr, 1) := by decide +kernel
theorem dX5_byteOf_6 : decode cX5_byteOf 6 = .ok (.l2i, 1) := by decide +kernel
theorem dX5_byteOf_7 : decode cX5_byteOf 7 = .ok (.sipush 255, 3) := by decide +kernel
theorem dX5_byteOf_10 : decode cX5_byteOf 10 = .ok (.iand, 1) := by decide +kernel
theorem dX5_byteOf_11 : decode cX5_byteOf 11 = .ok (.ireturn, 1) := by decide +kernel
theorem dX5_isPrintable_0 : decode cX5_isPrintable 0 = .ok (.iload_n 0, 1) := by decide +kernel
theorem dX5_isPrintable_1 : decode cX5_isPrintable 1 = .ok (.bipush 32, 2) := by decide +kernel
theorem dX5_isPrintable_3 : decode cX5_isPrintable 3 = .ok (.if_icmp .lt 13, 3) := by decide +kernel
theorem dX5_isPrintable_6 : decode cX5_isPrintable 6 = .ok (.iload_n 0, 1) := by decide +kernel
theorem dX5_isPrintable_7 : decode cX5_isPrintable 7 = .ok (.bipush 126, 2) := by decide +kernel
theorem dX5_isPrintable_9 : decode cX5_isPrintable 9 = .ok (.if_icmp .gt 7, 3) := by decide +kernel
theorem dX5_isPrintable_12 : decode cX5_isPrintable 12 = .ok (.iconst 1, 1) := by decide +kernel
theorem dX5_isPrintable_13 : decode cX5_isPrintable 13 = .ok (.goto 4, 3) := by decide +kernel
theorem dX5_isPrintable_16 : decode cX5_isPrintable 16 = .ok (.iconst 0, 1) := by decide +kernel
theorem dX5_isPrintable_17 : decode cX5_isPrintable 17 = .ok (.ireturn, 1) := by decide +kernel
theorem dX5_read_0 : decode cX5_read 0 = .ok (.aload_n 0, 1) := by decide +kernel
theorem dX5_read_1 : decode cX5_read 1 = .ok (.getfield 10, 3) := by decide +kernel
theorem dX5_read_4 : decode cX5_read 4 = .ok (.getfield 62, 3) := by decide +kernel
theorem dX5_read_7 : decode cX5_read 7 = .ok (.astore_n 1, 1) := by decide +kernel
theorem dX5_read_8 : decode cX5_read 8 = .ok (.aload_n 0, 1) := by decide +kernel
theorem dX5_read_9 : decode cX5_read 9 = .ok (.getfield 10, 3) := by decide +kernel
theorem dX5_read_12 : decode cX5_read 12 = .ok (.invokevirtual 66, 3) := by decide +kernel
theorem dX5_read_15 : decode cX5_read 15 = .ok (.aload_n 0, 1) := by decide +kernel
theorem dX5_read_16 : decode cX5_read 16 = .ok (.getfield 10, 3) := by decide +kernel
theorem dX5_read_19 : decode cX5_read 19 = .ok (.getfield 69, 3) := by decide +kernel
theorem dX5_read_22 : decode cX5_read 22 = .ok (.ifCond .ne 14, 3) := by decide +kernel
theorem dX5_read_25 : decode cX5_read 25 = .ok (.aload_n 0, 1) := by decide +kernel
theorem dX5_read_26 : decode cX5_read 26 = .ok (.getfield 19, 3) := by decide +kernel
theorem dX5_read_29 : decode cX5_read 29 = .ok (.aload_n 1, 1) := by decide +kernel
theorem dX5_read_30 : decode cX5_read 30 = .ok (.invokevirtual 72, 3) := by decide +kernel
theorem dX5_read_33 : decode cX5_read 33 = .ok (.goto 14, 3) := by decide +kernel
theorem dX5_read_36 : decode cX5_read 36 = .ok (.aload_n 1, 1) := by decide +kernel
theorem dX5_read_37 : decode cX5_read 37 = .ok (.invokevirtual 76, 3) := by decide +kernel
theorem dX5_read_40 : decode cX5_read 40 = .ok (.aload_n 0, 1) := by decide +kernel
theorem dX5_read_41 : decode cX5_read 41 = .ok (.getfield 19, 3) := by decide +kernel
theorem dX5_read_44 : decode cX5_read 44 = .ok (.invokevirtual 81, 3) := by decide +kernel
theorem dX5_read_47 : decode cX5_read 47 = .ok (.aload_n 0, 1) := by decide +kernel
theorem dX5_read_48 : decode cX5_read 48 = .ok (.getfield 19, 3) := by decide +kernel
theorem dX5_read_51 : decode cX5_read 51 = .ok (.getfield 84, 3) := by decide +kernel
theorem dX5_read_54 : decode cX5_read 54 = .ok (.ifCond .ne 27, 3) := by decide +kernel
theorem dX5_read_57 : decode cX5_read 57 = .ok (.aload_n 0, 1) := by decide +kernel
theorem dX5_read_58 : decode cX5_read 58 = .ok (.getfield 26, 3) := by decide +kernel
theorem dX5_read_61 : decode cX5_read 61 = .ok (.aload_n 1, 1) := by decide +kernel
theorem dX5_read_62 : decode cX5_read 62 = .ok (.aload_n 0, 1) := by decide +kernel
theorem dX5_read_63 : decode cX5_read 63 = .ok (.getfield 10, 3) := by decide +kernel
theorem dX5_read_66 : decode cX5_read 66 = .ok (.getfield 45, 3) := by decide +kernel
theorem dX5_read_69 : decode cX5_read 69 = .ok (.aload_n 0, 1) := by decide +kernel
theorem dX5_read_70 : decode cX5_read 70 = .ok (.getfield 19, 3) := by decide +kernel
theorem dX5_read_73 : decode cX5_read 73 = .ok (.getfield 87, 3) := by decide +kernel
theorem dX5_read_76 : decode cX5_read 76 = .ok (.iconst 0, 1) := by decide +kernel
theorem dX5_read_77 : decode cX5_read 77 = .ok (.aaload, 1) := by decide +kernel
theorem dX5_read_78 : decode cX5_read 78 = .ok (.invokevirtual 91, 3) := by decide +kernel
theorem dX5_read_81 : decode cX5_read 81 = .ok (.aload_n 0, 1) := by decide +kernel
theorem dX5_read_82 : decode cX5_read 82 = .ok (.getfield 10, 3) := by decide +kernel
theorem dX5_read_85 : decode cX5_read 85 = .ok (.getfield 45, 3) := by decide +kernel
theorem dX5_read_88 : decode cX5_read 88 = .ok (.invokevirtual 95, 3) := by decide +kernel
theorem dX5_read_91 : decode cX5_read 91 = .ok (.aload_n 0, 1) := by decide +kernel
theorem dX5_read_92 : decode cX5_read 92 = .ok (.getfield 10, 3) := by decide +kernel
theorem dX5_read_95 : decode cX5_read 95 = .ok (.getfield 69, 3) := by decide +kernel
theorem dX5_read_98 : decode cX5_read 98 = .ok (.ifCond .ne 10, 3) := by decide +kernel
theorem dX5_read_101 : decode cX5_read 101 = .ok (.aload_n 1, 1) := by decide +kernel
theorem dX5_read_102 : decode cX5_read 102 = .ok (.getfield 96, 3) := by decide +kernel
theorem dX5_read_105 : decode cX5_read 105 = .ok (.goto 10, 3) := by decide +kernel
theorem dX5_read_108 : decode cX5_read 108 = .ok (.aload_n 0, 1) := by decide +kernel
theorem dX5_read_109 : decode cX5_read 109 = .ok (.getfield 10, 3) := by decide +kernel
theorem dX5_read_112 : decode cX5_read 112 = .ok (.getfield 69, 3) := by decide +kernel
theorem dX5_read_115 : decode cX5_read 115 = .ok (.ireturn, 1) := by decide +kernel
theorem dX5_isDigit_0 : decode cX5_isDigit 0 = .ok (.iload_n 0, 1) := by decide +kernel
theorem dX5_isDigit_1 : decode cX5_isDigit 1 = .ok (.bipush 48, 2) := by decide +kernel
theorem dX5_isDigit_3 : decode cX5_isDigit 3 = .ok (.if_icmp .lt 13, 3) := by decide +kernel
theorem dX5_isDigit_6 : decode cX5_isDigit 6 = .ok (.iload_n 0, 1) := by decide +kernel
theorem dX5_isDigit_7 : decode cX5_isDigit 7 = .ok (.bipush 57, 2) := by decide +kernel
theorem dX5_isDigit_9 : decode cX5_isDigit 9 = .ok (.if_icmp .gt 7, 3) := by decide +kernel
theorem dX5_isDigit_12 : decode cX5_isDigit 12 = .ok (.iconst 1, 1) := by decide +kernel
theorem dX5_isDigit_13 : decode cX5_isDigit 13 = .ok (.goto 4, 3) := by decide +kernel
theorem dX5_isDigit_16 : decode cX5_isDigit 16 = .ok (.iconst 0, 1) := by decide +kernel
theorem dX5_isDigit_17 : decode cX5_isDigit 17 = .ok (.ireturn, 1) := by decide +kernel
theorem dX5_isCapital_0 : decode cX5_isCapital 0 = .ok (.iload_n 0, 1) := by decide +kernel
theorem dX5_isCapital_1 : decode cX5_isCapital 1 = .ok (.bipush 65, 2) := by decide +kernel
theorem dX5_isCapital_3 : decode cX5_isCapital 3 = .ok (.if_icmp .lt 13, 3) := by decide +kernel
theorem dX5_isCapital_6 : decode cX5_isCapital 6 = .ok (.iload_n 0, 1) := by decide +kernel
theorem dX5_isCapital_7 : decode cX5_isCapital 7 = .ok (.bipush 90, 2) := by decide +kernel
theorem dX5_isCapital_9 : decode cX5_isCapital 9 = .ok (.if_icmp .gt 7, 3) := by decide +kernel
theorem dX5_isCapital_12 : decode cX5_isCapital 12 = .ok (.iconst 1, 1) := by decide +kernel
theorem dX5_isCapital_13 : decode cX5_isCapital 13 = .ok (.goto 4, 3) := by decide +kernel
theorem dX5_isCapital_16 : decode cX5_isCapital 16 = .ok (.iconst 0, 1) := by decide +kernel
theorem dX5_isCapital_17 : decode cX5_isCapital 17 = .ok (.ireturn, 1) := by decide +kernel
theorem dX5_isSmall_0 : decode cX5_isSmall 0 = .ok (.iload_n 0, 1) := by decide +kernel
theorem dX5_isSmall_1 : decode cX5_isSmall 1 = .ok (.bipush 97, 2) := by decide +kernel
theorem dX5_isSmall_3 : decode cX5_isSmall 3 = .ok (.if_icmp .lt 13, 3) := by decide +kernel
theorem dX5_isSmall_6 : decode cX5_isSmall 6 = .ok (.iload_n 0, 1) := by decide +kernel
theorem dX5_isSmall_7 : decode cX5_isSmall 7 = .ok (.bipush 122, 2) := by decide +kernel
theorem dX5_isSmall_9 : decode cX5_isSmall 9 = .ok (.if_icmp .gt 7, 3) := by decide +kernel
theorem dX5_isSmall_12 : decode cX5_isSmall 12 = .ok (.iconst 1, 1) := by decide +kernel
theorem dX5_isSmall_13 : decode cX5_isSmall 13 = .ok (.goto 4, 3) := by decide +kernel
theorem dX5_isSmall_16 : decode cX5_isSmall 16 = .ok (.iconst 0, 1) := by decide +kernel
theorem dX5_isSmall_17 : decode cX5_isSmall 17 = .ok (.ireturn, 1) := by decide +kernel
theorem dX5_at_0 : decode cX5_at 0 = .ok (.aload_n 0, 1) := by decide +kernel
theorem dX5_at_1 : decode cX5_at 1 = .ok (.getfield 10, 3) := by decide +kernel
theorem dX5_at_4 : decode cX5_at 4 = .ok (.getfield 99, 3) := by decide +kernel
theorem dX5_at_7 : decode cX5_at 7 = .ok (.ireturn, 1) := by decide +kernel
theorem dX5_state_0 : decode cX5_state 0 = .ok (.aload_n 0, 1) := by decide +kernel
theorem dX5_state_1 : decode cX5_state 1 = .ok (.getfield 19, 3) := by decide +kernel
theorem dX5_state_4 : decode cX5_state 4 = .ok (.getfield 84, 3) := by decide +kernel
theorem dX5_state_7 : decode cX5_state 7 = .ok (.ireturn, 1) := by decide +kernel
theorem dX5_freedom_0 : decode cX5_freedom 0 = .ok (.aload_n 0, 1) := by decide +kernel
theorem dX5_freedom_1 : decode cX5_freedom 1 = .ok (.getfield 19, 3) := by decide +kernel
theorem dX5_freedom_4 : decode cX5_freedom 4 = .ok (.getfield 84, 3) := by decide +kernel
theorem dX5_freedom_7 : decode cX5_freedom 7 = .ok (.iconst (-1), 1) := by decide +kernel
theorem dX5_freedom_8 : decode cX5_freedom 8 = .ok (.if_icmp .ne 7, 3) := by decide +kernel
theorem dX5_freedom_11 : decode cX5_freedom 11 = .ok (.iconst (-1), 1) := by decide +kernel
theorem dX5_freedom_12 : decode cX5_freedom 12 = .ok (.goto 10, 3) := by decide +kernel
theorem dX5_freedom_15 : decode cX5_freedom 15 = .ok (.aload_n 0, 1) := by decide +kernel
theorem dX5_freedom_16 : decode cX5_freedom 16 = .ok (.getfield 19, 3) := by decide +kernel
theorem dX5_freedom_19 : decode cX5_freedom 19 = .ok (.getfield 102, 3) := by decide +kernel
theorem dX5_freedom_22 : decode cX5_freedom 22 = .ok (.ireturn, 1) := by decide +kernel
theorem dX5_formulas_0 : decode cX5_formulas 0 = .ok (.aload_n 0, 1) := by decide +kernel
theorem dX5_formulas_1 : decode cX5_formulas 1 = .ok (.getfield 10, 3) := by decide +kernel
theorem dX5_formulas_4 : decode cX5_formulas 4 = .ok (.getfield 62, 3) := by decide +kernel
theorem dX5_formulas_7 : decode cX5_formulas 7 = .ok (.getfield 96, 3) := by decide +kernel
theorem dX5_formulas_10 : decode cX5_formulas 10 = .ok (.ireturn, 1) := by decide +kernel
theorem dX5_kinds_0 : decode cX5_kinds 0 = .ok (.aload_n 0, 1) := by decide +kernel
theorem dX5_kinds_1 : decode cX5_kinds 1 = .ok (.getfield 10, 3) := by decide +kernel
theorem dX5_kinds_4 : decode cX5_kinds 4 = .ok (.getfield 62, 3) := by decide +kernel
theorem dX5_kinds_7 : decode cX5_kinds 7 = .ok (.invokevirtual 105, 3) := by decide +kernel
theorem dX5_kinds_10 : decode cX5_kinds 10 = .ok (.ireturn, 1) := by decide +kernel
theorem dX5_name_0 : decode cX5_name 0 = .ok (.aload_n 0, 1) := by decide +kernel
theorem dX5_name_1 : decode cX5_name 1 = .ok (.getfield 10, 3) := by decide +kernel
theorem dX5_name_4 : decode cX5_name 4 = .ok (.getfield 62, 3) := by decide +kernel
theorem dX5_name_7 : decode cX5_name 7 = .ok (.iload_n 1, 1) := by decide +kernel
theorem dX5_name_8 : decode cX5_name 8 = .ok (.invokevirtual 109, 3) := by decide +kernel
theorem dX5_name_11 : decode cX5_name 11 = .ok (.ifCond .ne 11, 3) := by decide +kernel
theorem dX5_name_14 : decode cX5_name 14 = .ok (.new 112, 3) := by decide +kernel
theorem dX5_name_17 : decode cX5_name 17 = .ok (.dup, 1) := by decide +kernel
theorem dX5_name_18 : decode cX5_name 18 = .ok (.invokespecial 114, 3) := by decide +kernel
theorem dX5_name_21 : decode cX5_name 21 = .ok (.athrow, 1) := by decide +kernel
theorem dX5_name_22 : decode cX5_name 22 = .ok (.aload_n 0, 1) := by decide +kernel
theorem dX5_name_23 : decode cX5_name 23 = .ok (.getfield 10, 3) := by decide +kernel
theorem dX5_name_26 : decode cX5_name 26 = .ok (.getfield 62, 3) := by decide +kernel
theorem dX5_name_29 : decode cX5_name 29 = .ok (.iload_n 1, 1) := by decide +kernel
theorem dX5_name_30 : decode cX5_name 30 = .ok (.invokevirtual 115, 3) := by decide +kernel
theorem dX5_name_33 : decode cX5_name 33 = .ok (.ireturn, 1) := by decide +kernel
theorem dX5_has_0 : decode cX5_has 0 = .ok (.aload_n 0, 1) := by decide +kernel
theorem dX5_has_1 : decode cX5_has 1 = .ok (.getfield 10, 3) := by decide +kernel
theorem dX5_has_4 : decode cX5_has 4 = .ok (.getfield 62, 3) := by decide +kernel
theorem dX5_has_7 : decode cX5_has 7 = .ok (.iload_n 1, 1) := by decide +kernel
theorem dX5_has_8 : decode cX5_has 8 = .ok (.invokevirtual 119, 3) := by decide +kernel
theorem dX5_has_11 : decode cX5_has 11 = .ok (.ifCond .eq 17, 3) := by decide +kernel
theorem dX5_has_14 : decode cX5_has 14 = .ok (.aload_n 0, 1) := by decide +kernel
theorem dX5_has_15 : decode cX5_has 15 = .ok (.getfield 10, 3) := by decide +kernel
theorem dX5_has_18 : decode cX5_has 18 = .ok (.getfield 62, 3) := by decide +kernel
theorem dX5_has_21 : decode cX5_has 21 = .ok (.iload_n 2, 1) := by decide +kernel
theorem dX5_has_22 : decode cX5_has 22 = .ok (.invokevirtual 109, 3) := by decide +kernel
theorem dX5_has_25 : decode cX5_has 25 = .ok (.ifCond .ne 11, 3) := by decide +kernel
theorem dX5_has_28 : decode cX5_has 28 = .ok (.new 112, 3) := by decide +kernel
theorem dX5_has_31 : decode cX5_has 31 = .ok (.dup, 1) := by decide +kernel
theorem dX5_has_32 : decode cX5_has 32 = .ok (.invokespecial 114, 3) := by decide +kernel
theorem dX5_has_35 : decode cX5_has 35 = .ok (.athrow, 1) := by decide +kernel
theorem dX5_has_36 : decode cX5_has 36 = .ok (.aload_n 0, 1) := by decide +kernel
theorem dX5_has_37 : decode cX5_has 37 = .ok (.getfield 10, 3) := by decide +kernel
theorem dX5_has_40 : decode cX5_has 40 = .ok (.getfield 62, 3) := by decide +kernel
theorem dX5_has_43 : decode cX5_has 43 = .ok (.iload_n 1, 1) := by decide +kernel
theorem dX5_has_44 : decode cX5_has 44 = .ok (.iload_n 2, 1) := by decide +kernel
theorem dX5_has_45 : decode cX5_has 45 = .ok (.invokevirtual 122, 3) := by decide +kernel
theorem dX5_has_48 : decode cX5_has 48 = .ok (.ireturn, 1) := by decide +kernel
theorem dX5_product_0 : decode cX5_product 0 = .ok (.aload_n 0, 1) := by decide +kernel
theorem dX5_product_1 : decode cX5_product 1 = .ok (.getfield 10, 3) := by decide +kernel
theorem dX5_product_4 : decode cX5_product 4 = .ok (.getfield 62, 3) := by decide +kernel
theorem dX5_product_7 : decode cX5_product 7 = .ok (.iload_n 1, 1) := by decide +kernel
theorem dX5_product_8 : decode cX5_product 8 = .ok (.invokevirtual 119, 3) := by decide +kernel
theorem dX5_product_11 : decode cX5_product 11 = .ok (.ifCond .ne 11, 3) := by decide +kernel
theorem dX5_product_14 : decode cX5_product 14 = .ok (.new 112, 3) := by decide +kernel
theorem dX5_product_17 : decode cX5_product 17 = .ok (.dup, 1) := by decide +kernel
theorem dX5_product_18 : decode cX5_product 18 = .ok (.invokespecial 114, 3) := by decide +kernel
theorem dX5_product_21 : decode cX5_product 21 = .ok (.athrow, 1) := by decide +kernel
theorem dX5_product_22 : decode cX5_product 22 = .ok (.aload_n 0, 1) := by decide +kernel
theorem dX5_product_23 : decode cX5_product 23 = .ok (.getfield 10, 3) := by decide +kernel
theorem dX5_product_26 : decode cX5_product 26 = .ok (.getfield 62, 3) := by decide +kernel
theorem dX5_product_29 : decode cX5_product 29 = .ok (.iload_n 1, 1) := by decide +kernel
theorem dX5_product_30 : decode cX5_product 30 = .ok (.invokevirtual 126, 3) := by decide +kernel
theorem dX5_product_33 : decode cX5_product 33 = .ok (.ireturn, 1) := by decide +kernel
theorem dX5_free_0 : decode cX5_free 0 = .ok (.aload_n 0, 1) := by decide +kernel
theorem dX5_free_1 : decode cX5_free 1 = .ok (.getfield 10, 3) := by decide +kernel
theorem dX5_free_4 : decode cX5_free 4 = .ok (.getfield 62, 3) := by decide +kernel
theorem dX5_free_7 : decode cX5_free 7 = .ok (.iload_n 1, 1) := by decide +kernel
theorem dX5_free_8 : decode cX5_free 8 = .ok (.invokevirtual 119, 3) := by decide +kernel
theorem dX5_free_11 : decode cX5_free 11 = .ok (.ifCond .ne 11, 3) := by decide +kernel
theorem dX5_free_14 : decode cX5_free 14 = .ok (.new 112, 3) := by decide +kernel
theorem dX5_free_17 : decode cX5_free 17 = .ok (.dup, 1) := by decide +kernel
theorem dX5_free_18 : decode cX5_free 18 = .ok (.invokespecial 114, 3) := by decide +kernel
theorem dX5_free_21 : decode cX5_free 21 = .ok (.athrow, 1) := by decide +kernel
theorem dX5_free_22 : decode cX5_free 22 = .ok (.aload_n 0, 1) := by decide +kernel
theorem dX5_free_23 : decode cX5_free 23 = .ok (.getfield 19, 3) := by decide +kernel
theorem dX5_free_26 : decode cX5_free 26 = .ok (.getfield 129, 3) := by decide +kernel
theorem dX5_free_29 : decode cX5_free 29 = .ok (.iload_n 1, 1) := by decide +kernel
theorem dX5_free_30 : decode cX5_free 30 = .ok (.baload, 1) := by decide +kernel
theorem dX5_free_31 : decode cX5_free 31 = .ok (.ireturn, 1) := by decide +kernel
theorem dX5_number_0 : decode cX5_number 0 = .ok (.iload_n 1, 1) := by decide +kernel
theorem dX5_number_1 : decode cX5_number 1 = .ok (.ifCond .lt 28, 3) := by decide +kernel
theorem dX5_number_4 : decode cX5_number 4 = .ok (.iload_n 1, 1) := by decide +kernel
theorem dX5_number_5 : decode cX5_number 5 = .ok (.aload_n 0, 1) := by decide +kernel
theorem dX5_number_6 : decode cX5_number 6 = .ok (.getfield 19, 3) := by decide +kernel
theorem dX5_number_9 : decode cX5_number 9 = .ok (.getfield 102, 3) := by decide +kernel
theorem dX5_number_12 : decode cX5_number 12 = .ok (.if_icmp .ge 17, 3) := by decide +kernel
theorem dX5_number_15 : decode cX5_number 15 = .ok (.aload_n 0, 1) := by decide +kernel
theorem dX5_number_16 : decode cX5_number 16 = .ok (.getfield 10, 3) := by decide +kernel
theorem dX5_number_19 : decode cX5_number 19 = .ok (.getfield 62, 3) := by decide +kernel
theorem dX5_number_22 : decode cX5_number 22 = .ok (.iload_n 2, 1) := by decide +kernel
theorem dX5_number_23 : decode cX5_number 23 = .ok (.invokevirtual 119, 3) := by decide +kernel
theorem dX5_number_26 : decode cX5_number 26 = .ok (.ifCond .ne 11, 3) := by decide +kernel
theorem dX5_number_29 : decode cX5_number 29 = .ok (.new 112, 3) := by decide +kernel
theorem dX5_number_32 : decode cX5_number 32 = .ok (.dup, 1) := by decide +kernel
theorem dX5_number_33 : decode cX5_number 33 = .ok (.invokespecial 114, 3) := by decide +kernel
theorem dX5_number_36 : decode cX5_number 36 = .ok (.athrow, 1) := by decide +kernel
theorem dX5_number_37 : decode cX5_number 37 = .ok (.aload_n 0, 1) := by decide +kernel
theorem dX5_number_38 : decode cX5_number 38 = .ok (.getfield 19, 3) := by decide +kernel
theorem dX5_number_41 : decode cX5_number 41 = .ok (.getfield 87, 3) := by decide +kernel
theorem dX5_number_44 : decode cX5_number 44 = .ok (.iload_n 1, 1) := by decide +kernel
theorem dX5_number_45 : decode cX5_number 45 = .ok (.aaload, 1) := by decide +kernel
theorem dX5_number_46 : decode cX5_number 46 = .ok (.iload_n 2, 1) := by decide +kernel
theorem dX5_number_47 : decode cX5_number 47 = .ok (.laload, 1) := by decide +kernel
theorem dX5_number_48 : decode cX5_number 48 = .ok (.lreturn, 1) := by decide +kernel
theorem dX5_weight_0 : decode cX5_weight 0 = .ok (.aload_n 0, 1) := by decide +kernel
theorem dX5_weight_1 : decode cX5_weight 1 = .ok (.getfield 10, 3) := by decide +kernel
theorem dX5_weight_4 : decode cX5_weight 4 = .ok (.getfield 62, 3) := by decide +kernel
theorem dX5_weight_7 : decode cX5_weight 7 = .ok (.astore_n 2, 1) := by decide +kernel
theorem dX5_weight_8 : decode cX5_weight 8 = .ok (.aload_n 2, 1) := by decide +kernel
theorem dX5_weight_9 : decode cX5_weight 9 = .ok (.iload_n 1, 1) := by decide +kernel
theorem dX5_weight_10 : decode cX5_weight 10 = .ok (.invokevirtual 109, 3) := by decide +kernel
theorem dX5_weight_13 : decode cX5_weight 13 = .ok (.ifCond .ne 11, 3) := by decide +kernel
theorem dX5_weight_16 : decode cX5_weight 16 = .ok (.new 112, 3) := by decide +kernel
theorem dX5_weight_19 : decode cX5_weight 19 = .ok (.dup, 1) := by decide +kernel
theorem dX5_weight_20 : decode cX5_weight 20 = .ok (.invokespecial 114, 3) := by decide +kernel
theorem dX5_weight_23 : decode cX5_weight 23 = .ok (.athrow, 1) := by decide +kernel
theorem dX5_weight_24 : decode cX5_weight 24 = .ok (.aload_n 0, 1) := by decide +kernel
theorem dX5_weight_25 : decode cX5_weight 25 = .ok (.getfield 19, 3) := by decide +kernel
theorem dX5_weight_28 : decode cX5_weight 28 = .ok (.getfield 84, 3) := by decide +kernel
theorem dX5_weight_31 : decode cX5_weight 31 = .ok (.ifCond .eq 11, 3) := by decide +kernel
theorem dX5_weight_34 : decode cX5_weight 34 = .ok (.new 133, 3) := by decide +kernel
theorem dX5_weight_37 : decode cX5_weight 37 = .ok (.dup, 1) := by decide +kernel
theorem dX5_weight_38 : decode cX5_weight 38 = .ok (.invokespecial 135, 3) := by decide +kernel
theorem dX5_weight_41 : decode cX5_weight 41 = .ok (.athrow, 1) := by decide +kernel
theorem dX5_weight_42 : decode cX5_weight 42 = .ok (.lconst 0, 1) := by decide +kernel
theorem dX5_weight_43 : decode cX5_weight 43 = .ok (.lstore_n 3, 1) := by decide +kernel
theorem dX5_weight_44 : decode cX5_weight 44 = .ok (.iconst 0, 1) := by decide +kernel
theorem dX5_weight_45 : decode cX5_weight 45 = .ok (.istore 5, 2) := by decide +kernel
theorem dX5_weight_47 : decode cX5_weight 47 = .ok (.iload 5, 2) := by decide +kernel
theorem dX5_weight_49 : decode cX5_weight 49 = .ok (.aload_n 2, 1) := by decide +kernel
theorem dX5_weight_50 : decode cX5_weight 50 = .ok (.getfield 136, 3) := by decide +kernel
theorem dX5_weight_53 : decode cX5_weight 53 = .ok (.if_icmp .ge 33, 3) := by decide +kernel
theorem dX5_weight_56 : decode cX5_weight 56 = .ok (.lload_n 3, 1) := by decide +kernel
theorem dX5_weight_57 : decode cX5_weight 57 = .ok (.aload_n 0, 1) := by decide +kernel
theorem dX5_weight_58 : decode cX5_weight 58 = .ok (.getfield 19, 3) := by decide +kernel
theorem dX5_weight_61 : decode cX5_weight 61 = .ok (.getfield 87, 3) := by decide +kernel
theorem dX5_weight_64 : decode cX5_weight 64 = .ok (.iconst 0, 1) := by decide +kernel
theorem dX5_weight_65 : decode cX5_weight 65 = .ok (.aaload, 1) := by decide +kernel
theorem dX5_weight_66 : decode cX5_weight 66 = .ok (.iload 5, 2) := by decide +kernel
theorem dX5_weight_68 : decode cX5_weight 68 = .ok (.laload, 1) := by decide +kernel
theorem dX5_weight_69 : decode cX5_weight 69 = .ok (.aload_n 2, 1) := by decide +kernel
theorem dX5_weight_70 : decode cX5_weight 70 = .ok (.iload 5, 2) := by decide +kernel
theorem dX5_weight_72 : decode cX5_weight 72 = .ok (.iload_n 1, 1) := by decide +kernel
theorem dX5_weight_73 : decode cX5_weight 73 = .ok (.invokevirtual 122, 3) := by decide +kernel
theorem dX5_weight_76 : decode cX5_weight 76 = .ok (.i2l, 1) := by decide +kernel
theorem dX5_weight_77 : decode cX5_weight 77 = .ok (.lmul, 1) := by decide +kernel
theorem dX5_weight_78 : decode cX5_weight 78 = .ok (.ladd, 1) := by decide +kernel
theorem dX5_weight_79 : decode cX5_weight 79 = .ok (.lstore_n 3, 1) := by decide +kernel
theorem dX5_weight_80 : decode cX5_weight 80 = .ok (.iinc 5 1, 3) := by decide +kernel
theorem dX5_weight_83 : decode cX5_weight 83 = .ok (.goto (-36), 3) := by decide +kernel
theorem dX5_weight_86 : decode cX5_weight 86 = .ok (.lload_n 3, 1) := by decide +kernel
theorem dX5_weight_87 : decode cX5_weight 87 = .ok (.lreturn, 1) := by decide +kernel
theorem dX5_written_0 : decode cX5_written 0 = .ok (.aload_n 0, 1) := by decide +kernel
theorem dX5_written_1 : decode cX5_written 1 = .ok (.getfield 19, 3) := by decide +kernel
theorem dX5_written_4 : decode cX5_written 4 = .ok (.getfield 84, 3) := by decide +kernel
theorem dX5_written_7 : decode cX5_written 7 = .ok (.ifCond .eq 11, 3) := by decide +kernel
theorem dX5_written_10 : decode cX5_written 10 = .ok (.new 133, 3) := by decide +kernel
theorem dX5_written_13 : decode cX5_written 13 = .ok (.dup, 1) := by decide +kernel
theorem dX5_written_14 : decode cX5_written 14 = .ok (.invokespecial 135, 3) := by decide +kernel
theorem dX5_written_17 : decode cX5_written 17 = .ok (.athrow, 1) := by decide +kernel
theorem dX5_written_18 : decode cX5_written 18 = .ok (.aload_n 0, 1) := by decide +kernel
theorem dX5_written_19 : decode cX5_written 19 = .ok (.getfield 26, 3) := by decide +kernel
theorem dX5_written_22 : decode cX5_written 22 = .ok (.iload_n 1, 1) := by decide +kernel
theorem dX5_written_23 : decode cX5_written 23 = .ok (.invokevirtual 139, 3) := by decide +kernel
theorem dX5_written_26 : decode cX5_written 26 = .ok (.ireturn, 1) := by decide +kernel
theorem dX5_solves_0 : decode cX5_solves 0 = .ok (.aload_n 0, 1) := by decide +kernel
theorem dX5_solves_1 : decode cX5_solves 1 = .ok (.getfield 10, 3) := by decide +kernel
theorem dX5_solves_4 : decode cX5_solves 4 = .ok (.getfield 62, 3) := by decide +kernel
theorem dX5_solves_7 : decode cX5_solves 7 = .ok (.astore 6, 2) := by decide +kernel
theorem dX5_solves_9 : decode cX5_solves 9 = .ok (.aload 6, 2) := by decide +kernel
theorem dX5_solves_11 : decode cX5_solves 11 = .ok (.getfield 96, 3) := by decide +kernel
theorem dX5_solves_14 : decode cX5_solves 14 = .ok (.ifCond .eq 13, 3) := by decide +kernel
theorem dX5_solves_17 : decode cX5_solves 17 = .ok (.aload 6, 2) := by decide +kernel
theorem dX5_solves_19 : decode cX5_solves 19 = .ok (.getfield 96, 3) := by decide +kernel
theorem dX5_solves_22 : decode cX5_solves 22 = .ok (.bipush 6, 2) := by decide +kernel
theorem dX5_solves_24 : decode cX5_solves 24 = .ok (.if_icmp .ne 11, 3) := by decide +kernel
theorem dX5_solves_27 : decode cX5_solves 27 = .ok (.new 133, 3) := by decide +kernel
theorem dX5_solves_30 : decode cX5_solves 30 = .ok (.dup, 1) := by decide +kernel
theorem dX5_solves_31 : decode cX5_solves 31 = .ok (.invokespecial 135, 3) := by decide +kernel
theorem dX5_solves_34 : decode cX5_solves 34 = .ok (.athrow, 1) := by decide +kernel
theorem dX5_solves_35 : decode cX5_solves 35 = .ok (.iconst 0, 1) := by decide +kernel
theorem dX5_solves_36 : decode cX5_solves 36 = .ok (.istore 7, 2) := by decide +kernel
theorem dX5_solves_38 : decode cX5_solves 38 = .ok (.iload 7, 2) := by decide +kernel
theorem dX5_solves_40 : decode cX5_solves 40 = .ok (.aload 6, 2) := by decide +kernel
theorem dX5_solves_42 : decode cX5_solves 42 = .ok (.invokevirtual 105, 3) := by decide +kernel
theorem dX5_solves_45 : decode cX5_solves 45 = .ok (.if_icmp .ge 76, 3) := by decide +kernel
theorem dX5_solves_48 : decode cX5_solves 48 = .ok (.aload 6, 2) := by decide +kernel
theorem dX5_solves_50 : decode cX5_solves 50 = .ok (.iconst 0, 1) := by decide +kernel
theorem dX5_solves_51 : decode cX5_solves 51 = .ok (.iload 7, 2) := by decide +kernel
theorem dX5_solves_53 : decode cX5_solves 53 = .ok (.iload_n 1, 1) := by decide +kernel
theorem dX5_solves_54 : decode cX5_solves 54 = .ok (.i2l, 1) := by decide +kernel
theorem dX5_solves_55 : decode cX5_solves 55 = .ok (.invokevirtual 142, 3) := by decide +kernel
theorem dX5_solves_58 : decode cX5_solves 58 = .ok (.aload 6, 2) := by decide +kernel
theorem dX5_solves_60 : decode cX5_solves 60 = .ok (.iconst 1, 1) := by decide +kernel
theorem dX5_solves_61 : decode cX5_solves 61 = .ok (.iload 7, 2) := by decide +kernel
theorem dX5_solves_63 : decode cX5_solves 63 = .ok (.iload_n 2, 1) := by decide +kernel
theorem dX5_solves_64 : decode cX5_solves 64 = .ok (.i2l, 1) := by decide +kernel
theorem dX5_solves_65 : decode cX5_solves 65 = .ok (.invokevirtual 142, 3) := by decide +kernel
theorem dX5_solves_68 : decode cX5_solves 68 = .ok (.ladd, 1) := by decide +kernel
theorem dX5_solves_69 : decode cX5_solves 69 = .ok (.aload 6, 2) := by decide +kernel
theorem dX5_solves_71 : decode cX5_solves 71 = .ok (.iconst 2, 1) := by decide +kernel
theorem dX5_solves_72 : decode cX5_solves 72 = .ok (.iload 7, 2) := by decide +kernel
theorem dX5_solves_74 : decode cX5_solves 74 = .ok (.iload_n 3, 1) := by decide +kernel
theorem dX5_solves_75 : decode cX5_solves 75 = .ok (.i2l, 1) := by decide +kernel
theorem dX5_solves_76 : decode cX5_solves 76 = .ok (.invokevirtual 142, 3) := by decide +kernel
theorem dX5_solves_79 : decode cX5_solves 79 = .ok (.ladd, 1) := by decide +kernel
theorem dX5_solves_80 : decode cX5_solves 80 = .ok (.aload 6, 2) := by decide +kernel
theorem dX5_solves_82 : decode cX5_solves 82 = .ok (.iconst 3, 1) := by decide +kernel
theorem dX5_solves_83 : decode cX5_solves 83 = .ok (.iload 7, 2) := by decide +kernel
theorem dX5_solves_85 : decode cX5_solves 85 = .ok (.iload 4, 2) := by decide +kernel
theorem dX5_solves_87 : decode cX5_solves 87 = .ok (.i2l, 1) := by decide +kernel
theorem dX5_solves_88 : decode cX5_solves 88 = .ok (.invokevirtual 142, 3) := by decide +kernel
theorem dX5_solves_91 : decode cX5_solves 91 = .ok (.ladd, 1) := by decide +kernel
theorem dX5_solves_92 : decode cX5_solves 92 = .ok (.aload 6, 2) := by decide +kernel
theorem dX5_solves_94 : decode cX5_solves 94 = .ok (.iconst 4, 1) := by decide +kernel
theorem dX5_solves_95 : decode cX5_solves 95 = .ok (.iload 7, 2) := by decide +kernel
theorem dX5_solves_97 : decode cX5_solves 97 = .ok (.iload 5, 2) := by decide +kernel
theorem dX5_solves_99 : decode cX5_solves 99 = .ok (.i2l, 1) := by decide +kernel
theorem dX5_solves_100 : decode cX5_solves 100 = .ok (.invokevirtual 142, 3) := by decide +kernel
theorem dX5_solves_103 : decode cX5_solves 103 = .ok (.ladd, 1) := by decide +kernel
theorem dX5_solves_104 : decode cX5_solves 104 = .ok (.lstore 8, 2) := by decide +kernel
theorem dX5_solves_106 : decode cX5_solves 106 = .ok (.lload 8, 2) := by decide +kernel
theorem dX5_solves_108 : decode cX5_solves 108 = .ok (.lconst 0, 1) := by decide +kernel
theorem dX5_solves_109 : decode cX5_solves 109 = .ok (.lcmp, 1) := by decide +kernel
theorem dX5_solves_110 : decode cX5_solves 110 = .ok (.ifCond .eq 5, 3) := by decide +kernel
theorem dX5_solves_113 : decode cX5_solves 113 = .ok (.iconst 0, 1) := by decide +kernel
theorem dX5_solves_114 : decode cX5_solves 114 = .ok (.ireturn, 1) := by decide +kernel
theorem dX5_solves_115 : decode cX5_solves 115 = .ok (.iinc 7 1, 3) := by decide +kernel
theorem dX5_solves_118 : decode cX5_solves 118 = .ok (.goto (-80), 3) := by decide +kernel
theorem dX5_solves_121 : decode cX5_solves 121 = .ok (.iconst 1, 1) := by decide +kernel
theorem dX5_solves_122 : decode cX5_solves 122 = .ok (.ireturn, 1) := by decide +kernel
end
section
def fX5_byteOf (N : Nat) (σ : vS) (p0 : Int64) (p2 : Int32) : Option (Int32) :=
  some (((p0.toUInt64 >>> (((8 : Int32) * p2).toInt64.toUInt64 &&& Int64.toUInt64 63)).toInt64).toInt32 &&& (255 : Int32))
abbrev rmX5_byteOf : Room := { frames := 0, cells := 0, slots := 0, locals := 0 }
abbrev wsX5_byteOf : List Cond := .code yX5_byteOf cX5_byteOf 3 (some .int) :: kws
theorem kcX5_byteOf {R : Room} {s : State} {args : Array Value} {own : String} {index : Nat} (htk : ∀ w ∈ kws, w.before args s = true) (hl : (Cond.methodLink own index yX5_byteOf).before args s = true) (hR : rmX5_byteOf.frames + 1 ≤ R.frames ∧ 8 + (3 + 11) + rmX5_byteOf.locals ≤ R.locals) : CallB R s args own index yX5_byteOf cX5_byteOf 3 (some .int) wsX5_byteOf rmX5_byteOf 0 0 2 ∧ (Cond.static yX5_byteOf).before args s = true :=
  ⟨callB_of 2 htk (k_good kc_482) rfl rfl rfl (kw_52 htk) hl (by decide +kernel) hR, (kw_481 htk)⟩
set_option maxRecDepth 100000 in
set_option maxHeartbeats 4000000 in
theorem mX5_byteOf (l : Launch) (D : va_G) (cs : Nat → ClassId) (ad : Nat → Nat) (N : Nat) (σ : vS) (p0 : Int64) (p2 : Int32) (r : Int32) (hf : fX5_byteOf N σ p0 p2 = some r) : k_MP l yX5_byteOf wsX5_byteOf rmX5_byteOf D (tK cs) (wK cs ad) [.long p0, .int p2] σ (.int r) := by
  refine k_ofP (cc := cX5_byteOf) (maxL := 3) (ret := (some .int)) (by decide) rfl (Nat.le_of_ble_eq_true rfl) ?_
  intro p e s m args below meth c ls hcf hr hlk hK hZ hl hw
  generalize hQ0 : MQ below _ args s 0 0 _ = Q0
  obtain ⟨T0, hE0⟩ : ∃ T, T = fX5_byteOf N σ p0 p2 := ⟨_, rfl⟩
  have hR := hE0.trans hf
  have hN0 : T0 ≠ none := by rw [hR]; exact fun h => nomatch h
  have hx := hcf.1
  have hb := hcf.2.1
  have htk := hcf.2.2.2.2
  have hown := hcf.2.2.2.1
  unfold fX5_byteOf at hE0
  replace hl : lv_has ls 3 [(0, .long p0), (2, .int p2)] := hl
  refine lv_lload_n hx hb dX5_byteOf_0 rfl (lv_at hl 0 rfl) ?_
  refine lv_bipush (v := 8) hx hb dX5_byteOf_1 rfl ?_
  refine lv_iload_n hx hb dX5_byteOf_3 rfl (lv_at hl 1 rfl) ?_
  refine lv_imul hx hb dX5_byteOf_4 ?_
  refine lv_lushr hx hb dX5_byteOf_5 rfl ?_
  refine lv_l2i hx hb dX5_byteOf_6 rfl ?_
  refine lv_sipush (v := 255) hx hb dX5_byteOf_7 rfl ?_
  refine lv_iand hx hb dX5_byteOf_10 ?_
  exact kretP_i hcf hr hlk hK hw (rt1 hR hE0) hQ0 dX5_byteOf_11
def jX5_charactersIn_22 (N : Nat) (σ : vS) (v2j22 : Int32) : Option (Int32) :=
  some v2j22
def bX5_charactersIn_2 (N : Nat) (σ : vS) (p0 : Int64) (v2h2 : Int32) : Option ((Int32) ⊕ (Int32)) :=
  if ((8 : Int32) ≤ v2h2) then (
    some (.inr v2h2)
  ) else (
    bd1 (fX5_byteOf N σ p0 v2h2) fun r1 =>
    if (r1 = 0) then (
      some (.inr v2h2)
    ) else (
      k_lt (v2h2 + (1 : Int32)) fun x2 =>
      some (.inl x2)
    )
  )
def fX5_charactersIn (N : Nat) (σ : vS) (p0 : Int64) : Option (Int32) :=
  bd1 (k_itr (fun zz => bX5_charactersIn_2 N σ p0 zz) N (0 : Int32)) fun q => jX5_charactersIn_22 N σ q
abbrev rmX5_charactersIn : Room := { frames := 1, cells := 0, slots := 0, locals := 22 }
abbrev wsX5_charactersIn : List Cond := .code yX5_charactersIn cX5_charactersIn 3 (some .int) :: kws
theorem kcX5_charactersIn {R : Room} {s : State} {args : Array Value} {own : String} {index : Nat} (htk : ∀ w ∈ kws, w.before args s = true) (hl : (Cond.methodLink own index yX5_charactersIn).before args s = true) (hR : rmX5_charactersIn.frames + 1 ≤ R.frames ∧ 8 + (3 + 11) + rmX5_charactersIn.locals ≤ R.locals) : CallB R s args own index yX5_charactersIn cX5_charactersIn 3 (some .int) wsX5_charactersIn rmX5_charactersIn 0 0 1 ∧ (Cond.static yX5_charactersIn).before args s = true :=
  ⟨callB_of 1 htk (k_good kc_479) rfl rfl rfl (kw_52 htk) hl (by decide +kernel) hR, (kw_478 htk)⟩
set_option maxRecDepth 100000 in
set_option maxHeartbeats 4000000 in
theorem mX5_charactersIn (l : Launch) (D : va_G) (cs : Nat → ClassId) (ad : Nat → Nat) (N : Nat) (σ : vS) (p0 : Int64) (r : Int32) (hf : fX5_charactersIn N σ p0 = some r) : k_MP l yX5_charactersIn wsX5_charactersIn rmX5_charactersIn D (tK cs) (wK cs ad) [.long p0] σ (.int r) := by
  refine k_ofP (cc := cX5_charactersIn) (maxL := 3) (ret := (some .int)) (by decide) rfl (Nat.le_of_ble_eq_true rfl) ?_
  intro p e s m args below meth c ls hcf hr hlk hK hZ hl hw
  generalize hQ0 : MQ below _ args s 0 0 _ = Q0
  obtain ⟨T0, hE0⟩ : ∃ T, T = fX5_charactersIn N σ p0 := ⟨_, rfl⟩
  have hR := hE0.trans hf
  have hN0 : T0 ≠ none := by rw [hR]; exact fun h => nomatch h
  have hx := hcf.1
  have hb := hcf.2.1
  have htk := hcf.2.2.2.2
  have hown := hcf.2.2.2.1
  unfold fX5_charactersIn at hE0
  replace hl : lv_has ls 3 [(0, .long p0)] := hl
  have J22 : ∀ (v2j22 : Int32) (ls : Array Slot), lv_has ls 3 [(2, .int v2j22)] → T0 = jX5_charactersIn_22 N σ v2j22 → W p l e rmX5_charactersIn s m args below meth c s.heap [] 0 0 Q0 (F0 m 22 ls []) := by
    intro v2j22 ls hl hE0
    unfold jX5_charactersIn_22 at hE0
    refine lv_iload_n hx hb dX5_charactersIn_22 rfl (lv_at hl 0 rfl) ?_
    exact kretP_i hcf hr hlk hK hw (rt1 hR hE0) hQ0 dX5_charactersIn_23
  refine lv_iconst (v := 0) hx hb dX5_charactersIn_0 rfl ?_
  refine lv_istore_n hx hb dX5_charactersIn_1 rfl hl (Nat.le_of_ble_eq_true rfl) rfl (fun ls (hl : lv_has ls 3 [(2, .int (0 : Int32)), (0, .long p0)]) => ?_)
  obtain ⟨q, hq, hE0⟩ := bd1_e hE0 hN0
  refine k_ind (P := fun zz => ∀ (ls : Array Slot), lv_has ls 3 [(0, .long p0), (2, .int zz)] → W p l e rmX5_charactersIn s m args below meth c s.heap [] 0 0 Q0 (F0 m 2 ls [])) ?_ N _ hq ls (lv_sub hl [1, 0] rfl)
  intro sX T1 hE1 hN1 hC1 hX1
  obtain ⟨v2h2, hsg⟩ : ∃ z, z = sX := ⟨_, rfl⟩
  subst hsg
  replace hE1 : T1 = bX5_charactersIn_2 N σ p0 v2h2 := hE1
  unfold bX5_charactersIn_2 at hE1
  intro ls hl
  replace hl : lv_has ls 3 [(0, .long p0), (2, .int v2h2)] := hl
  refine lv_iload_n hx hb dX5_charactersIn_2 rfl (lv_at hl 1 rfl) ?_
  refine lv_bipush (v := 8) hx hb dX5_charactersIn_3 rfl ?_
  refine lv_icmp_ge (tgt := 22) hx hb dX5_charactersIn_5 (by decide) (fun c4 => ?_) (fun c4 => ?_)
  · have hE1 := ite_t hE1 c4
    have hq := hX1 _ hE1
    subst hq
    exact J22 v2h2 ls (lv_sub hl [1] rfl) hE0
  · have hE1 := ite_f hE1 c4
    refine lv_lload_n hx hb dX5_charactersIn_8 rfl (lv_at hl 0 rfl) ?_
    refine lv_iload_n hx hb dX5_charactersIn_9 rfl (lv_at hl 1 rfl) ?_
    obtain ⟨r1, k1, hE1⟩ := bd1_e hE1 hN1
    refine k_callP (va_runS (As := [.long p0, .int v2h2]) (rest := []) hcf (mX5_byteOf l D cs ad N σ p0 v2h2 r1 k1) (kcX5_byteOf htk (kw_480 htk) ⟨Nat.le_of_ble_eq_true rfl, Nat.le_of_ble_eq_true rfl⟩) ⟨k_blind, k_pre hK hZ hw⟩ rfl rfl hl.1 rfl (lv_room (Nat.le_of_ble_eq_true rfl)) dX5_charactersIn_10 ⟨Nat.zero_le _, Nat.zero_le _⟩) ?_
    refine lv_if_eq (tgt := 22) hx hb dX5_charactersIn_13 (by decide) (fun c3 => ?_) (fun c3 => ?_)
    · have hE1 := ite_t hE1 c3
      have hq := hX1 _ hE1
      subst hq
      exact J22 v2h2 ls (lv_sub hl [1] rfl) hE0
    · have hE1 := ite_f hE1 c3
      obtain ⟨x2, e_x2, hE1⟩ := k_lte hE1
      refine lv_iinc (k := 1) (v := x2) hx hb dX5_charactersIn_16 hl rfl (Eq.symm e_x2) (Nat.le_of_ble_eq_true rfl) rfl (fun ls (hl : lv_has ls 3 [(2, .int x2), (0, .long p0)]) => ?_)
      refine lv_goto (tgt := 2) hx hb dX5_charactersIn_19 (by decide) ?_
      exact hC1 _ hE1 ls (lv_sub hl [1, 0] rfl)
def fX5_isPrintable (N : Nat) (σ : vS) (p0 : Int32) : Option (Int32) :=
  if (p0 < (32 : Int32)) then (
    some (0 : Int32)
  ) else (
    if ((126 : Int32) < p0) then (
      some (0 : Int32)
    ) else (
      some (1 : Int32)
    )
  )
abbrev rmX5_isPrintable : Room := { frames := 0, cells := 0, slots := 0, locals := 0 }
abbrev wsX5_isPrintable : List Cond := .code yX5_isPrintable cX5_isPrintable 1 (some .boolean) :: kws
theorem kcX5_isPrintable {R : Room} {s : State} {args : Array Value} {own : String} {index : Nat} (htk : ∀ w ∈ kws, w.before args s = true) (hl : (Cond.methodLink own index yX5_isPrintable).before args s = true) (hR : rmX5_isPrintable.frames + 1 ≤ R.frames ∧ 8 + (1 + 11) + rmX5_isPrintable.locals ≤ R.locals) : CallB R s args own index yX5_isPrintable cX5_isPrintable 1 (some .boolean) wsX5_isPrintable rmX5_isPrintable 0 0 1 ∧ (Cond.static yX5_isPrintable).before args s = true :=
  ⟨callB_of 1 htk (k_good kc_485) rfl rfl rfl (kw_52 htk) hl (by decide +kernel) hR, (kw_484 htk)⟩
set_option maxRecDepth 100000 in
set_option maxHeartbeats 4000000 in
theorem mX5_isPrintable (l : Launch) (D : va_G) (cs : Nat → ClassId) (ad : Nat → Nat) (N : Nat) (σ : vS) (p0 : Int32) (r : Int32) (hf : fX5_isPrintable N σ p0 = some r) : k_MP l yX5_isPrintable wsX5_isPrintable rmX5_isPrintable D (tK cs) (wK cs ad) [.int p0] σ (.int r) := by
  refine k_ofP (cc := cX5_isPrintable) (maxL := 1) (ret := (some .boolean)) (by decide) rfl (Nat.le_of_ble_eq_true rfl) ?_
  intro p e s m args below meth c ls hcf hr hlk hK hZ hl hw
  generalize hQ0 : MQ below _ args s 0 0 _ = Q0
  obtain ⟨T0, hE0⟩ : ∃ T, T = fX5_isPrintable N σ p0 := ⟨_, rfl⟩
  have hR := hE0.trans hf
  have hN0 : T0 ≠ none := by rw [hR]; exact fun h => nomatch h
  have hx := hcf.1
  have hb := hcf.2.1
  have htk := hcf.2.2.2.2
  have hown := hcf.2.2.2.1
  unfold fX5_isPrintable at hE0
  replace hl : lv_has ls 1 [(0, .int p0)] := hl
  refine lv_iload_n hx hb dX5_isPrintable_0 rfl (lv_at hl 0 rfl) ?_
  refine lv_bipush (v := 32) hx hb dX5_isPrintable_1 rfl ?_
  refine lv_icmp_lt (tgt := 16) hx hb dX5_isPrintable_3 (by decide) (fun c2 => ?_) (fun c2 => ?_)
  · have hE0 := ite_t hE0 c2
    refine lv_iconst (v := 0) hx hb dX5_isPrintable_16 rfl ?_
    exact kretP_z hcf hr hlk hK hw (rt1 hR hE0) hQ0 rfl dX5_isPrintable_17
  · have hE0 := ite_f hE0 c2
    refine lv_iload_n hx hb dX5_isPrintable_6 rfl (lv_at hl 0 rfl) ?_
    refine lv_bipush (v := 126) hx hb dX5_isPrintable_7 rfl ?_
    refine lv_icmp_gt (tgt := 16) hx hb dX5_isPrintable_9 (by decide) (fun c1 => ?_) (fun c1 => ?_)
    · have hE0 := ite_t hE0 c1
      refine lv_iconst (v := 0) hx hb dX5_isPrintable_16 rfl ?_
      exact kretP_z hcf hr hlk hK hw (rt1 hR hE0) hQ0 rfl dX5_isPrintable_17
    · have hE0 := ite_f hE0 c1
      refine lv_iconst (v := 1) hx hb dX5_isPrintable_12 rfl ?_
      refine lv_goto (tgt := 17) hx hb dX5_isPrintable_13 (by decide) ?_
      exact kretP_z hcf hr hlk hK hw (rt1 hR hE0) hQ0 rfl dX5_isPrintable_17
def fX4_add (N : Nat) (σ : vS) (p1 : Int32) : Option (vS) :=
  if ((100 : Int32) ≤ (σ.1 0)) then (
    some σ
  ) else (
    if ((σ.1 0) < 0 ∨ 100 ≤ ((σ.1 0)).toNatClampNeg) then none else
    some (p_i (p_a σ 0 (((σ.1 0)).toNatClampNeg) (vp_nar .char p1)) 0 ((σ.1 0) + (1 : Int32)))
  )
abbrev rmX4_add : Room := { frames := 0, cells := 0, slots := 0, locals := 0 }
abbrev wsX4_add : List Cond := .code yX4_add cX4_add 2 none :: kws
theorem kcX4_add {R : Room} {s : State} {args : Array Value} {own : String} {index : Nat} (htk : ∀ w ∈ kws, w.before args s = true) (hl : (Cond.methodLink own index yX4_add).before args s = true) (hR : rmX4_add.frames + 1 ≤ R.frames ∧ 8 + (2 + 11) + rmX4_add.locals ≤ R.locals) : CallW R s args own RX4 index yX4_add cX4_add 2 none wsX4_add rmX4_add 0 0 1 :=
  ⟨callB_of 1 htk (k_good kc_568) rfl rfl rfl (kw_54 htk) hl (by decide +kernel) hR, (kw_566 htk), (kw_567 htk)⟩
set_option maxRecDepth 100000 in
set_option maxHeartbeats 4000000 in
theorem mX4_add (l : Launch) (D : va_G) (cs : Nat → ClassId) (ad : Nat → Nat) (N : Nat) (σ : vS) (p1 : Int32) (σ' : vS) (hf : fX4_add N σ p1 = some σ') : k_Met l yX4_add wsX4_add rmX4_add D (tK cs) (wK cs ad) (k_A 41 ad) [.ref (ad 4), .int p1] σ none σ' := by
  refine k_of (cc := cX4_add) (maxL := 2) (ret := none) (by decide) rfl (Nat.le_of_ble_eq_true rfl) ?_
  intro p e s m args below meth c ls H locs hcf hr hlk hK hZ hl hw
  generalize hQ0 : MQ below _ args s 0 0 _ = Q0
  obtain ⟨T0, hE0⟩ : ∃ T, T = fX4_add N σ p1 := ⟨_, rfl⟩
  have hR := hE0.trans hf
  have hN0 : T0 ≠ none := by rw [hR]; exact fun h => nomatch h
  have hx := hcf.1
  have hb := hcf.2.1
  have htk := hcf.2.2.2.2
  have hown := hcf.2.2.2.1
  unfold fX4_add at hE0
  replace hl : lv_has ls 2 [(0, .ref (ad 4)), (1, .int p1)] := hl
  refine lv_aload_n hx hb dX4_add_0 rfl (lv_at hl 0 rfl) ?_
  refine kg_X4_length hcf hK (kw_90 htk) (x := (σ.1 0)) dX4_add_1 hw rfl ?_
  refine lv_bipush (v := 100) hx hb dX4_add_4 rfl ?_
  refine lv_icmp_ge (tgt := 29) hx hb dX4_add_6 (by decide) (fun c2 => ?_) (fun c2 => ?_)
  · have hE0 := ite_t hE0 c2
    exact kret_v hcf hr hlk hK hw (rt1 hR hE0) hQ0 dX4_add_29
  · have hE0 := ite_f hE0 c2
    refine lv_aload_n hx hb dX4_add_9 rfl (lv_at hl 0 rfl) ?_
    refine kg_X4_characters hcf hK (kw_88 htk) dX4_add_10 hw ?_
    refine lv_aload_n hx hb dX4_add_13 rfl (lv_at hl 0 rfl) ?_
    refine kg_X4_length hcf hK (kw_90 htk) (x := (σ.1 0)) dX4_add_14 hw rfl ?_
    refine lv_iload_n hx hb dX4_add_17 rfl (lv_at hl 1 rfl) ?_
    obtain ⟨g1, hE0⟩ := gd_e hE0 hN0
    refine kast_A0 hcf hK dX4_add_18 g1 hw (fun H locs hw => ?_)
    refine lv_aload_n hx hb dX4_add_19 rfl (lv_at hl 0 rfl) ?_
    refine lv_dup hx hb dX4_add_20 rfl ?_
    refine kg_X4_length hcf hK (kw_90 htk) (x := (σ.1 0)) dX4_add_21 hw rfl ?_
    refine lv_iconst (v := 1) hx hb dX4_add_24 rfl ?_
    refine lv_iadd hx hb dX4_add_25 ?_
    refine kp_X4_length hcf hK (kw_90 htk) dX4_add_26 hw (fun H locs hw => ?_)
    exact kret_v hcf hr hlk hK hw (rt1 hR hE0) hQ0 dX4_add_29
def fX1_clear (N : Nat) (σ : vS) : Option (vS) :=
  some (p_i (p_i (p_i (p_i σ 2 (0 : Int32)) 3 (0 : Int32)) 4 (0 : Int32)) 5 (0 : Int32))
abbrev rmX1_clear : Room := { frames := 0, cells := 0, slots := 0, locals := 0 }
abbrev wsX1_clear : List Cond := .code yX1_clear cX1_clear 1 none :: kws
theorem kcX1_clear {R : Room} {s : State} {args : Array Value} {own : String} {index : Nat} (htk : ∀ w ∈ kws, w.before args s = true) (hl : (Cond.methodLink own index yX1_clear).before args s = true) (hR : rmX1_clear.frames + 1 ≤ R.frames ∧ 8 + (1 + 11) + rmX1_clear.locals ≤ R.locals) : CallW R s args own RX1 index yX1_clear cX1_clear 1 none wsX1_clear rmX1_clear 0 0 0 :=
  ⟨callB_of 0 htk (k_good kc_260) rfl rfl rfl (kw_55 htk) hl (by decide +kernel) hR, (kw_258 htk), (kw_259 htk)⟩
set_option maxRecDepth 100000 in
set_option maxHeartbeats 4000000 in
theorem mX1_clear (l : Launch) (D : va_G) (cs : Nat → ClassId) (ad : Nat → Nat) (N : Nat) (σ : vS) (σ' : vS) (hf : fX1_clear N σ = some σ') : k_Met l yX1_clear wsX1_clear rmX1_clear D (tK cs) (wK cs ad) (k_A 41 ad) [.ref (ad 5)] σ none σ' := by
  refine k_of (cc := cX1_clear) (maxL := 1) (ret := none) (by decide) rfl (Nat.le_of_ble_eq_true rfl) ?_
  intro p e s m args below meth c ls H locs hcf hr hlk hK hZ hl hw
  generalize hQ0 : MQ below _ args s 0 0 _ = Q0
  obtain ⟨T0, hE0⟩ : ∃ T, T = fX1_clear N σ := ⟨_, rfl⟩
  have hR := hE0.trans hf
  have hN0 : T0 ≠ none := by rw [hR]; exact fun h => nomatch h
  have hx := hcf.1
  have hb := hcf.2.1
  have htk := hcf.2.2.2.2
  have hown := hcf.2.2.2.1
  unfold fX1_clear at hE0
  replace hl : lv_has ls 1 [(0, .ref (ad 5))] := hl
  refine lv_aload_n hx hb dX1_clear_0 rfl (lv_at hl 0 rfl) ?_
  refine lv_iconst (v := 0) hx hb dX1_clear_1 rfl ?_
  refine kp_X1_formulaCount hcf hK (kw_117 htk) dX1_clear_2 hw (fun H locs hw => ?_)
  refine lv_aload_n hx hb dX1_clear_5 rfl (lv_at hl 0 rfl) ?_
  refine lv_iconst (v := 0) hx hb dX1_clear_6 rfl ?_
  refine kp_X1_reactantCount hcf hK (kw_122 htk) dX1_clear_7 hw (fun H locs hw => ?_)
  refine lv_aload_n hx hb dX1_clear_10 rfl (lv_at hl 0 rfl) ?_
  refine lv_iconst (v := 0) hx hb dX1_clear_11 rfl ?_
  refine kp_X1_elementCount hcf hK (kw_126 htk) dX1_clear_12 hw (fun H locs hw => ?_)
  refine lv_aload_n hx hb dX1_clear_15 rfl (lv_at hl 0 rfl) ?_
  refine lv_iconst (v := 0) hx hb dX1_clear_16 rfl ?_
  refine kp_X1_charged hcf hK (kw_127 htk) dX1_clear_17 nz_0 hw (fun H locs hw => ?_)
  exact kret_v hcf hr hlk hK hw (rt1 hR hE0) hQ0 dX1_clear_20
def jX4_skipBlanks_38 (N : Nat) (σj38 : vS) : Option (vS) :=
  some σj38
def bX4_skipBlanks_0 (N : Nat) (σh0 : vS) : Option ((vS) ⊕ (vS)) :=
  if ((σh0.1 0) ≤ (σh0.1 1)) then (
    some (.inr σh0)
  ) else (
    if ((σh0.1 1) < 0 ∨ 100 ≤ ((σh0.1 1)).toNatClampNeg) then none else
    if ((σh0.2.1 0 (((σh0.1 1)).toNatClampNeg)) = (32 : Int32)) then (
      some (.inl (p_i σh0 1 ((σh0.1 1) + (1 : Int32))))
    ) else (
      some (.inr σh0)
    )
  )
def fX4_skipBlanks (N : Nat) (σ : vS) : Option (vS) :=
  bd1 (k_itr (fun zz => bX4_skipBlanks_0 N zz) N σ) fun q => jX4_skipBlanks_38 N q
abbrev rmX4_skipBlanks : Room := { frames := 0, cells := 0, slots := 0, locals := 0 }
abbrev wsX4_skipBlanks : List Cond := .code yX4_skipBlanks cX4_skipBlanks 1 none :: kws
theorem kcX4_skipBlanks {R : Room} {s : State} {args : Array Value} {own : String} {index : Nat} (htk : ∀ w ∈ kws, w.before args s = true) (hl : (Cond.methodLink own index yX4_skipBlanks).before args s = true) (hR : rmX4_skipBlanks.frames + 1 ≤ R.frames ∧ 8 + (1 + 11) + rmX4_skipBlanks.locals ≤ R.locals) : CallW R s args own RX4 index yX4_skipBlanks cX4_skipBlanks 1 none wsX4_skipBlanks rmX4_skipBlanks 0 0 0 :=
  ⟨callB_of 0 htk (k_good kc_264) rfl rfl rfl (kw_54 htk) hl (by decide +kernel) hR, (kw_262 htk), (kw_263 htk)⟩
set_option maxRecDepth 100000 in
set_option maxHeartbeats 4000000 in
theorem mX4_skipBlanks (l : Launch) (D : va_G) (cs : Nat → ClassId) (ad : Nat → Nat) (N : Nat) (σ : vS) (σ' : vS) (hf : fX4_skipBlanks N σ = some σ') : k_Met l yX4_skipBlanks wsX4_skipBlanks rmX4_skipBlanks D (tK cs) (wK cs ad) (k_A 41 ad) [.ref (ad 4)] σ none σ' := by
  refine k_of (cc := cX4_skipBlanks) (maxL := 1) (ret := none) (by decide) rfl (Nat.le_of_ble_eq_true rfl) ?_
  intro p e s m args below meth c ls H locs hcf hr hlk hK hZ hl hw
  generalize hQ0 : MQ below _ args s 0 0 _ = Q0
  obtain ⟨T0, hE0⟩ : ∃ T, T = fX4_skipBlanks N σ := ⟨_, rfl⟩
  have hR := hE0.trans hf
  have hN0 : T0 ≠ none := by rw [hR]; exact fun h => nomatch h
  have hx := hcf.1
  have hb := hcf.2.1
  have htk := hcf.2.2.2.2
  have hown := hcf.2.2.2.1
  unfold fX4_skipBlanks at hE0
  replace hl : lv_has ls 1 [(0, .ref (ad 4))] := hl
  have J38 : ∀ (σj38 : vS) (H : Heap) (locs : List Loc) (ls : Array Slot), lv_has ls 1 [] → k_H D (wK cs ad) (k_A 41 ad) σj38 s.heap H locs → T0 = jX4_skipBlanks_38 N σj38 → W p l e rmX4_skipBlanks s m args below meth c H locs 0 0 Q0 (F0 m 38 ls []) := by
    intro σj38 H locs ls hl hw hE0
    unfold jX4_skipBlanks_38 at hE0
    exact kret_v hcf hr hlk hK hw (rt1 hR hE0) hQ0 dX4_skipBlanks_38
  obtain ⟨q, hq, hE0⟩ := bd1_e hE0 hN0
  refine k_ind (P := fun zz => ∀ (H : Heap) (locs : List Loc) (ls : Array Slot), lv_has ls 1 [(0, .ref (ad 4))] → k_H D (wK cs ad) (k_A 41 ad) zz s.heap H locs → W p l e rmX4_skipBlanks s m args below meth c H locs 0 0 Q0 (F0 m 0 ls [])) ?_ N _ hq H locs ls (lv_sub hl [0] rfl) hw
  intro sX T1 hE1 hN1 hC1 hX1
  obtain ⟨σh0, hsg⟩ : ∃ z, z = sX := ⟨_, rfl⟩
  subst hsg
  replace hE1 : T1 = bX4_skipBlanks_0 N σh0 := hE1
  unfold bX4_skipBlanks_0 at hE1
  intro H locs ls hl hw
  replace hl : lv_has ls 1 [(0, .ref (ad 4))] := hl
  replace hw : k_H D (wK cs ad) (k_A 41 ad) σh0 s.heap H locs := hw
  refine lv_aload_n hx hb dX4_skipBlanks_0 rfl (lv_at hl 0 rfl) ?_
  refine kg_X4_place hcf hK (kw_92 htk) (x := (σh0.1 1)) dX4_skipBlanks_1 hw rfl ?_
  refine lv_aload_n hx hb dX4_skipBlanks_4 rfl (lv_at hl 0 rfl) ?_
  refine kg_X4_length hcf hK (kw_90 htk) (x := (σh0.1 0)) dX4_skipBlanks_5 hw rfl ?_
  refine lv_icmp_ge (tgt := 38) hx hb dX4_skipBlanks_8 (by decide) (fun c3 => ?_) (fun c3 => ?_)
  · have hE1 := ite_t hE1 c3
    have hq := hX1 _ hE1
    subst hq
    exact J38 σh0 H locs ls (lv_sub hl [] rfl) hw hE0
  · have hE1 := ite_f hE1 c3
    refine lv_aload_n hx hb dX4_skipBlanks_11 rfl (lv_at hl 0 rfl) ?_
    refine kg_X4_characters hcf hK (kw_88 htk) dX4_skipBlanks_12 hw ?_
    refine lv_aload_n hx hb dX4_skipBlanks_15 rfl (lv_at hl 0 rfl) ?_
    refine kg_X4_place hcf hK (kw_92 htk) (x := (σh0.1 1)) dX4_skipBlanks_16 hw rfl ?_
    obtain ⟨g1, hE1⟩ := gd_e hE1 hN1
    refine kald_A0 hcf hK (x := (σh0.2.1 0 (((σh0.1 1)).toNatClampNeg))) dX4_skipBlanks_19 g1 hw rfl ?_
    refine lv_bipush (v := 32) hx hb dX4_skipBlanks_20 rfl ?_
    refine lv_icmp_ne (tgt := 38) hx hb dX4_skipBlanks_22 (by decide) (fun c2 => ?_) (fun c2 => ?_)
    · have hE1 := ite_f hE1 c2
      have hq := hX1 _ hE1
      subst hq
      exact J38 σh0 H locs ls (lv_sub hl [] rfl) hw hE0
    · have hE1 := ite_t hE1 c2
      refine lv_aload_n hx hb dX4_skipBlanks_25 rfl (lv_at hl 0 rfl) ?_
      refine lv_dup hx hb dX4_skipBlanks_26 rfl ?_
      refine kg_X4_place hcf hK (kw_92 htk) (x := (σh0.1 1)) dX4_skipBlanks_27 hw rfl ?_
      refine lv_iconst (v := 1) hx hb dX4_skipBlanks_30 rfl ?_
      refine lv_iadd hx hb dX4_skipBlanks_31 ?_
      refine kp_X4_place hcf hK (kw_92 htk) dX4_skipBlanks_32 hw (fun H locs hw => ?_)
      refine lv_goto (tgt := 0) hx hb dX4_skipBlanks_35 (by decide) ?_
      exact hC1 _ hE1 H locs ls (lv_sub hl [0] rfl) hw
def jJ0_fill_22 (N : Nat) (b0 : Nat) (σj22 : vS) : Option (vS) :=
  some σj22
def bJ0_fill_6 (N : Nat) (b0 : Nat) (p1 : Int64) (x1 : Int32) (v3h6 : Int32) (σh6 : vS) : Option ((Int32 × vS) ⊕ (vS)) :=
  if (x1 ≤ v3h6) then (
    some (.inr σh6)
  ) else (
    if (v3h6 < 0 ∨ (k_len b0) ≤ (v3h6).toNatClampNeg) then none else
    k_lt (v3h6 + (1 : Int32)) fun x3 =>
    some (.inl (x3, (p_b σh6 b0 ((v3h6).toNatClampNeg) p1)))
  )
def fJ0_fill (N : Nat) (σ : vS) (b0 : Nat) (p1 : Int64) : Option (vS) :=
  k_lt (Int32.ofNat (k_len b0)) fun x1 =>
  bd1 (k_itr (fun zz => bJ0_fill_6 N b0 p1 x1 zz.1 zz.2) N ((0 : Int32), σ)) fun q => jJ0_fill_22 N b0 q
abbrev rmJ0_fill : Room := { frames := 0, cells := 0, slots := 0, locals := 0 }
abbrev wsJ0_fill : List Cond := .code yJ0_fill cJ0_fill 5 none :: kws
theorem kcJ0_fill {R : Room} {s : State} {args : Array Value} {own : String} {index : Nat} (htk : ∀ w ∈ kws, w.before args s = true) (hl : (Cond.methodLink own index yJ0_fill).before args s = true) (hR : rmJ0_fill.frames + 1 ≤ R.frames ∧ 8 + (5 + 11) + rmJ0_fill.locals ≤ R.locals) : CallB R s args own index yJ0_fill cJ0_fill 5 none wsJ0_fill rmJ0_fill 0 0 2 ∧ (Cond.static yJ0_fill).before args s = true :=
  ⟨callB_of 2 htk (k_good kc_271) rfl rfl rfl (kw_64 htk) hl (by decide +kernel) hR, (kw_270 htk)⟩
set_option maxRecDepth 100000 in
set_option maxHeartbeats 4000000 in
theorem mJ0_fill (l : Launch) (D : va_G) (cs : Nat → ClassId) (ad : Nat → Nat) (N : Nat) (σ : vS) (b0 : Nat) (p1 : Int64) (σ' : vS) (hf : fJ0_fill N σ b0 p1 = some σ') (h_b0 : b0 < 16) : k_Met l yJ0_fill wsJ0_fill rmJ0_fill D (tK cs) (wK cs ad) (k_A 41 ad) [.ref (ad (25 + b0)), .long p1] σ none σ' := by
  refine k_of (cc := cJ0_fill) (maxL := 5) (ret := none) (by decide) rfl (Nat.le_of_ble_eq_true rfl) ?_
  intro p e s m args below meth c ls H locs hcf hr hlk hK hZ hl hw
  generalize hQ0 : MQ below _ args s 0 0 _ = Q0
  obtain ⟨T0, hE0⟩ : ∃ T, T = fJ0_fill N σ b0 p1 := ⟨_, rfl⟩
  have hR := hE0.trans hf
  have hN0 : T0 ≠ none := by rw [hR]; exact fun h => nomatch h
  have hx := hcf.1
  have hb := hcf.2.1
  have htk := hcf.2.2.2.2
  have hown := hcf.2.2.2.1
  unfold fJ0_fill at hE0
  replace hl : lv_has ls 5 [(0, .ref (ad (25 + b0))), (1, .long p1)] := hl
  have J22 : ∀ (σj22 : vS) (H : Heap) (locs : List Loc) (ls : Array Slot), lv_has ls 5 [] → k_H D (wK cs ad) (k_A 41 ad) σj22 s.heap H locs → T0 = jJ0_fill_22 N b0 σj22 → W p l e rmJ0_fill s m args below meth c H locs 0 0 Q0 (F0 m 22 ls []) := by
    intro σj22 H locs ls hl hw hE0
    unfold jJ0_fill_22 at hE0
    exact kret_v hcf hr hlk hK hw (rt1 hR hE0) hQ0 dJ0_fill_22
  refine lv_iconst (v := 0) hx hb dJ0_fill_0 rfl ?_
  refine lv_istore_n hx hb dJ0_fill_1 rfl hl (Nat.le_of_ble_eq_true rfl) rfl (fun ls (hl : lv_has ls 5 [(3, .int (0 : Int32)), (0, .ref (ad (25 + b0))), (1, .long p1)]) => ?_)
  refine lv_aload_n hx hb dJ0_fill_2 rfl (lv_at hl 1 rfl) ?_
  refine klen_B hcf hK dJ0_fill_3 h_b0 hw ?_
  refine lv_topi (fun x1 e_x1 => ?_)
  have hE0 := k_lts hE0 e_x1
  refine lv_istore hx hb dJ0_fill_4 hl (Nat.le_of_ble_eq_true rfl) rfl (fun ls (hl : lv_has ls 5 [(4, .int x1), (3, .int (0 : Int32)), (0, .ref (ad (25 + b0))), (1, .long p1)]) => ?_)
  obtain ⟨q, hq, hE0⟩ := bd1_e hE0 hN0
  refine k_ind (P := fun zz => ∀ (H : Heap) (locs : List Loc) (ls : Array Slot), lv_has ls 5 [(0, .ref (ad (25 + b0))), (1, .long p1), (3, .int zz.1), (4, .int x1)] → k_H D (wK cs ad) (k_A 41 ad) zz.2 s.heap H locs → W p l e rmJ0_fill s m args below meth c H locs 0 0 Q0 (F0 m 6 ls [])) ?_ N _ hq H locs ls (lv_sub hl [2, 3, 1, 0] rfl) hw
  intro sX T1 hE1 hN1 hC1 hX1
  obtain ⟨v3h6, σh6⟩ := sX
  replace hE1 : T1 = bJ0_fill_6 N b0 p1 x1 v3h6 σh6 := hE1
  unfold bJ0_fill_6 at hE1
  intro H locs ls hl hw
  replace hl : lv_has ls 5 [(0, .ref (ad (25 + b0))), (1, .long p1), (3, .int v3h6), (4, .int x1)] := hl
  replace hw : k_H D (wK cs ad) (k_A 41 ad) σh6 s.heap H locs := hw
  refine lv_iload_n hx hb dJ0_fill_6 rfl (lv_at hl 2 rfl) ?_
  refine lv_iload hx hb dJ0_fill_7 (lv_at hl 3 rfl) ?_
  refine lv_icmp_ge (tgt := 22) hx hb dJ0_fill_9 (by decide) (fun c4 => ?_) (fun c4 => ?_)
  · have hE1 := ite_t hE1 c4
    have hq := hX1 _ hE1
    subst hq
    exact J22 σh6 H locs ls (lv_sub hl [] rfl) hw hE0
  · have hE1 := ite_f hE1 c4
    refine lv_aload_n hx hb dJ0_fill_12 rfl (lv_at hl 0 rfl) ?_
    refine lv_iload_n hx hb dJ0_fill_13 rfl (lv_at hl 2 rfl) ?_
    refine lv_lload_n hx hb dJ0_fill_14 rfl (lv_at hl 1 rfl) ?_
    obtain ⟨g2, hE1⟩ := gd_e hE1 hN1
    refine kast_B hcf hK dJ0_fill_15 h_b0 g2 hw (fun H locs hw => ?_)
    obtain ⟨x3, e_x3, hE1⟩ := k_lte hE1
    refine lv_iinc (k := 2) (v := x3) hx hb dJ0_fill_16 hl rfl (Eq.symm e_x3) (Nat.le_of_ble_eq_true rfl) rfl (fun ls (hl : lv_has ls 5 [(3, .int x3), (0, .ref (ad (25 + b0))), (1, .long p1), (4, .int x1)]) => ?_)
    refine lv_goto (tgt := 6) hx hb dJ0_fill_19 (by decide) ?_
    exact hC1 _ hE1 H locs ls (lv_sub hl [1, 2, 0, 3] rfl) hw
def fX3_beginFormula (N : Nat) (σ : vS) : Option (vS) :=
  bd1 (fJ0_fill N σ 0 (0 : Int64)) fun σ1 =>
  some (p_i σ1 9 (0 : Int32))
abbrev rmX3_beginFormula : Room := { frames := 1, cells := 0, slots := 0, locals := 24 }
abbrev wsX3_beginFormula : List Cond := .code yX3_beginFormula cX3_beginFormula 1 none :: kws
theorem kcX3_beginFormula {R : Room} {s : State} {args : Array Value} {own : String} {index : Nat} (htk : ∀ w ∈ kws, w.before args s = true) (hl : (Cond.methodLink own index yX3_beginFormula).before args s = true) (hR : rmX3_beginFormula.frames + 1 ≤ R.frames ∧ 8 + (1 + 11) + rmX3_beginFormula.locals ≤ R.locals) : CallW R s args own RX3 index yX3_beginFormula cX3_beginFormula 1 none wsX3_beginFormula rmX3_beginFormula 0 0 0 :=
  ⟨callB_of 0 htk (k_good kc_268) rfl rfl rfl (kw_53 htk) hl (by decide +kernel) hR, (kw_267 htk), (kw_0 htk)⟩
set_option maxRecDepth 100000 in
set_option maxHeartbeats 4000000 in
theorem mX3_beginFormula (l : Launch) (D : va_G) (cs : Nat → ClassId) (ad : Nat → Nat) (N : Nat) (σ : vS) (σ' : vS) (hf : fX3_beginFormula N σ = some σ') : k_Met l yX3_beginFormula wsX3_beginFormula rmX3_beginFormula D (tK cs) (wK cs ad) (k_A 41 ad) [.ref (ad 1)] σ none σ' := by
  refine k_of (cc := cX3_beginFormula) (maxL := 1) (ret := none) (by decide) rfl (Nat.le_of_ble_eq_true rfl) ?_
  intro p e s m args below meth c ls H locs hcf hr hlk hK hZ hl hw
  generalize hQ0 : MQ below _ args s 0 0 _ = Q0
  obtain ⟨T0, hE0⟩ : ∃ T, T = fX3_beginFormula N σ := ⟨_, rfl⟩
  have hR := hE0.trans hf
  have hN0 : T0 ≠ none := by rw [hR]; exact fun h => nomatch h
  have hx := hcf.1
  have hb := hcf.2.1
  have htk := hcf.2.2.2.2
  have hown := hcf.2.2.2.1
  unfold fX3_beginFormula at hE0
  replace hl : lv_has ls 1 [(0, .ref (ad 1))] := hl
  refine lv_aload_n hx hb dX3_beginFormula_0 rfl (lv_at hl 0 rfl) ?_
  refine kg_X3_totals hcf hK (kw_161 htk) dX3_beginFormula_1 hw ?_
  refine lv_lconst (v := 0) hx hb dX3_beginFormula_4 rfl ?_
  obtain ⟨σ1, k1, hE0⟩ := bd1_e hE0 hN0
  refine k_call (va_runS (As := [.ref (ad 25), .long (0 : Int64)]) (rest := []) hcf (mJ0_fill l D cs ad N σ 0 (0 : Int64) σ1 k1 (by decide)) (kcJ0_fill htk (kw_269 htk) ⟨Nat.le_of_ble_eq_true rfl, Nat.le_of_ble_eq_true rfl⟩) ⟨k_blind, k_pre hK hZ hw⟩ rfl rfl hl.1 rfl (lv_room (Nat.le_of_ble_eq_true rfl)) dX3_beginFormula_5 ⟨Nat.zero_le _, Nat.zero_le _⟩) hw (fun H locs hw => ?_)
  refine lv_aload_n hx hb dX3_beginFormula_8 rfl (lv_at hl 0 rfl) ?_
  refine lv_iconst (v := 0) hx hb dX3_beginFormula_9 rfl ?_
  refine kp_X3_charge hcf hK (kw_162 htk) dX3_beginFormula_10 hw (fun H locs hw => ?_)
  exact kret_v hcf hr hlk hK hw (rt1 hR hE0) hQ0 dX3_beginFormula_13
def fX3_meet (N : Nat) (σ : vS) (p1 : Int32) (p2 : Int32) : Option (vS) :=
  some (p_i (p_i σ 6 p1) 7 p2)
abbrev rmX3_meet : Room := { frames := 0, cells := 0, slots := 0, locals := 0 }
abbrev wsX3_meet : List Cond := .code yX3_meet cX3_meet 3 none :: kws
theorem kcX3_meet {R : Room} {s : State} {args : Array Value} {own : String} {index : Nat} (htk : ∀ w ∈ kws, w.before args s = true) (hl : (Cond.methodLink own index yX3_meet).before args s = true) (hR : rmX3_meet.frames + 1 ≤ R.frames ∧ 8 + (3 + 11) + rmX3_meet.locals ≤ R.locals) : CallW R s args own RX3 index yX3_meet cX3_meet 3 none wsX3_meet rmX3_meet 0 0 2 :=
  ⟨callB_of 2 htk (k_good kc_275) rfl rfl rfl (kw_53 htk) hl (by decide +kernel) hR, (kw_274 htk), (kw_1 htk)⟩
set_option maxRecDepth 100000 in
set_option maxHeartbeats 4000000 in
theorem mX3_meet (l : Launch) (D : va_G) (cs : Nat → ClassId) (ad : Nat → Nat) (N : Nat) (σ : vS) (p1 : Int32) (p2 : Int32) (σ' : vS) (hf : fX3_meet N σ p1 p2 = some σ') : k_Met l yX3_meet wsX3_meet rmX3_meet D (tK cs) (wK cs ad) (k_A 41 ad) [.ref (ad 1), .int p1, .int p2] σ none σ' := by
  refine k_of (cc := cX3_meet) (maxL := 3) (ret := none) (by decide) rfl (Nat.le_of_ble_eq_true rfl) ?_
  intro p e s m args below meth c ls H locs hcf hr hlk hK hZ hl hw
  generalize hQ0 : MQ below _ args s 0 0 _ = Q0
  obtain ⟨T0, hE0⟩ : ∃ T, T = fX3_meet N σ p1 p2 := ⟨_, rfl⟩
  have hR := hE0.trans hf
  have hN0 : T0 ≠ none := by rw [hR]; exact fun h => nomatch h
  have hx := hcf.1
  have hb := hcf.2.1
  have htk := hcf.2.2.2.2
  have hown := hcf.2.2.2.1
  unfold fX3_meet at hE0
  replace hl : lv_has ls 3 [(0, .ref (ad 1)), (1, .int p1), (2, .int p2)] := hl
  refine lv_aload_n hx hb dX3_meet_0 rfl (lv_at hl 0 rfl) ?_
  refine lv_iload_n hx hb dX3_meet_1 rfl (lv_at hl 1 rfl) ?_
  refine kp_X3_fault hcf hK (kw_154 htk) dX3_meet_2 hw (fun H locs hw => ?_)
  refine lv_aload_n hx hb dX3_meet_5 rfl (lv_at hl 0 rfl) ?_
  refine lv_iload_n hx hb dX3_meet_6 rfl (lv_at hl 2 rfl) ?_
  refine kp_X3_faultPlace hcf hK (kw_156 htk) dX3_meet_7 hw (fun H locs hw => ?_)
  exact kret_v hcf hr hlk hK hw (rt1 hR hE0) hQ0 dX3_meet_10
def fX4_here (N : Nat) (σ : vS) : Option (Int32) :=
  if ((σ.1 1) < 0) then (
    some (0 : Int32)
  ) else (
    if ((σ.1 0) ≤ (σ.1 1)) then (
      some (0 : Int32)
    ) else (
      if ((σ.1 1) < 0 ∨ 100 ≤ ((σ.1 1)).toNatClampNeg) then none else
      if ¬ ((σ.2.1 0 (((σ.1 1)).toNatClampNeg)).toUInt32.toUInt16.toUInt32.toInt32 = (σ.2.1 0 (((σ.1 1)).toNatClampNeg))) then none else
      some (σ.2.1 0 (((σ.1 1)).toNatClampNeg))
    )
  )
abbrev rmX4_here : Room := { frames := 0, cells := 0, slots := 0, locals := 0 }
abbrev wsX4_here : List Cond := .code yX4_here cX4_here 1 (some .char) :: kws
theorem kcX4_here {R : Room} {s : State} {args : Array Value} {own : String} {index : Nat} (htk : ∀ w ∈ kws, w.before args s = true) (hl : (Cond.methodLink own index yX4_here).before args s = true) (hR : rmX4_here.frames + 1 ≤ R.frames ∧ 8 + (1 + 11) + rmX4_here.locals ≤ R.locals) : CallW R s args own RX4 index yX4_here cX4_here 1 (some .char) wsX4_here rmX4_here 0 0 0 :=
  ⟨callB_of 0 htk (k_good kc_279) rfl rfl rfl (kw_54 htk) hl (by decide +kernel) hR, (kw_277 htk), (kw_278 htk)⟩
set_option maxRecDepth 100000 in
set_option maxHeartbeats 4000000 in
theorem mX4_here (l : Launch) (D : va_G) (cs : Nat → ClassId) (ad : Nat → Nat) (N : Nat) (σ : vS) (r : Int32) (hf : fX4_here N σ = some r) : k_MP l yX4_here wsX4_here rmX4_here D (tK cs) (wK cs ad) [.ref (ad 4)] σ (.int r) := by
  refine k_ofP (cc := cX4_here) (maxL := 1) (ret := (some .char)) (by decide) rfl (Nat.le_of_ble_eq_true rfl) ?_
  intro p e s m args below meth c ls hcf hr hlk hK hZ hl hw
  generalize hQ0 : MQ below _ args s 0 0 _ = Q0
  obtain ⟨T0, hE0⟩ : ∃ T, T = fX4_here N σ := ⟨_, rfl⟩
  have hR := hE0.trans hf
  have hN0 : T0 ≠ none := by rw [hR]; exact fun h => nomatch h
  have hx := hcf.1
  have hb := hcf.2.1
  have htk := hcf.2.2.2.2
  have hown := hcf.2.2.2.1
  unfold fX4_here at hE0
  replace hl : lv_has ls 1 [(0, .ref (ad 4))] := hl
  refine lv_aload_n hx hb dX4_here_0 rfl (lv_at hl 0 rfl) ?_
  refine kg_X4_place hcf hK (kw_92 htk) (x := (σ.1 1)) dX4_here_1 hw rfl ?_
  refine lv_if_lt (tgt := 30) hx hb dX4_here_4 (by decide) (fun c4 => ?_) (fun c4 => ?_)
  · have hE0 := ite_t hE0 c4
    refine lv_iconst (v := 0) hx hb dX4_here_30 rfl ?_
    exact kretP_z hcf hr hlk hK hw (rt1 hR hE0) hQ0 rfl dX4_here_31
  · have hE0 := ite_f hE0 c4
    refine lv_aload_n hx hb dX4_here_7 rfl (lv_at hl 0 rfl) ?_
    refine kg_X4_place hcf hK (kw_92 htk) (x := (σ.1 1)) dX4_here_8 hw rfl ?_
    refine lv_aload_n hx hb dX4_here_11 rfl (lv_at hl 0 rfl) ?_
    refine kg_X4_length hcf hK (kw_90 htk) (x := (σ.1 0)) dX4_here_12 hw rfl ?_
    refine lv_icmp_ge (tgt := 30) hx hb dX4_here_15 (by decide) (fun c3 => ?_) (fun c3 => ?_)
    · have hE0 := ite_t hE0 c3
      refine lv_iconst (v := 0) hx hb dX4_here_30 rfl ?_
      exact kretP_z hcf hr hlk hK hw (rt1 hR hE0) hQ0 rfl dX4_here_31
    · have hE0 := ite_f hE0 c3
      refine lv_aload_n hx hb dX4_here_18 rfl (lv_at hl 0 rfl) ?_
      refine kg_X4_characters hcf hK (kw_88 htk) dX4_here_19 hw ?_
      refine lv_aload_n hx hb dX4_here_22 rfl (lv_at hl 0 rfl) ?_
      refine kg_X4_place hcf hK (kw_92 htk) (x := (σ.1 1)) dX4_here_23 hw rfl ?_
      obtain ⟨g1, hE0⟩ := gd_e hE0 hN0
      refine kald_A0 hcf hK (x := (σ.2.1 0 (((σ.1 1)).toNatClampNeg))) dX4_here_26 g1 hw rfl ?_
      refine lv_goto (tgt := 31) hx hb dX4_here_27 (by decide) ?_
      obtain ⟨g2, hE0⟩ := gd_e hE0 hN0
      exact kretP_z hcf hr hlk hK hw (rt1 hR hE0) hQ0 (nr_c g2) dX4_here_31
def fX4_ahead (N : Nat) (σ : vS) (p1 : Int32) : Option (Int32) :=
  k_lt ((σ.1 1) + p1) fun x1 =>
  if (x1 < 0) then (
    some (0 : Int32)
  ) else (
    if ((σ.1 0) ≤ x1) then (
      some (0 : Int32)
    ) else (
      if (x1 < 0 ∨ 100 ≤ (x1).toNatClampNeg) then none else
      if ¬ ((σ.2.1 0 ((x1).toNatClampNeg)).toUInt32.toUInt16.toUInt32.toInt32 = (σ.2.1 0 ((x1).toNatClampNeg))) then none else
      some (σ.2.1 0 ((x1).toNatClampNeg))
    )
  )
abbrev rmX4_ahead : Room := { frames := 0, cells := 0, slots := 0, locals := 0 }
abbrev wsX4_ahead : List Cond := .code yX4_ahead cX4_ahead 3 (some .char) :: kws
theorem kcX4_ahead {R : Room} {s : State} {args : Array Value} {own : String} {index : Nat} (htk : ∀ w ∈ kws, w.before args s = true) (hl : (Cond.methodLink own index yX4_ahead).before args s = true) (hR : rmX4_ahead.frames + 1 ≤ R.frames ∧ 8 + (3 + 11) + rmX4_ahead.locals ≤ R.locals) : CallW R s args own RX4 index yX4_ahead cX4_ahead 3 (some .char) wsX4_ahead rmX4_ahead 0 0 1 :=
  ⟨callB_of 1 htk (k_good kc_287) rfl rfl rfl (kw_54 htk) hl (by decide +kernel) hR, (kw_285 htk), (kw_286 htk)⟩
set_option maxRecDepth 100000 in
set_option maxHeartbeats 4000000 in
theorem mX4_ahead (l : Launch) (D : va_G) (cs : Nat → ClassId) (ad : Nat → Nat) (N : Nat) (σ : vS) (p1 : Int32) (r : Int32) (hf : fX4_ahead N σ p1 = some r) : k_MP l yX4_ahead wsX4_ahead rmX4_ahead D (tK cs) (wK cs ad) [.ref (ad 4), .int p1] σ (.int r) := by
  refine k_ofP (cc := cX4_ahead) (maxL := 3) (ret := (some .char)) (by decide) rfl (Nat.le_of_ble_eq_true rfl) ?_
  intro p e s m args below meth c ls hcf hr hlk hK hZ hl hw
  generalize hQ0 : MQ below _ args s 0 0 _ = Q0
  obtain ⟨T0, hE0⟩ : ∃ T, T = fX4_ahead N σ p1 := ⟨_, rfl⟩
  have hR := hE0.trans hf
  have hN0 : T0 ≠ none := by rw [hR]; exact fun h => nomatch h
  have hx := hcf.1
  have hb := hcf.2.1
  have htk := hcf.2.2.2.2
  have hown := hcf.2.2.2.1
  unfold fX4_ahead at hE0
  replace hl : lv_has ls 3 [(0, .ref (ad 4)), (1, .int p1)] := hl
  refine lv_aload_n hx hb dX4_ahead_0 rfl (lv_at hl 0 rfl) ?_
  refine kg_X4_place hcf hK (kw_92 htk) (x := (σ.1 1)) dX4_ahead_1 hw rfl ?_
  refine lv_iload_n hx hb dX4_ahead_4 rfl (lv_at hl 1 rfl) ?_
  refine lv_iadd hx hb dX4_ahead_5 ?_
  refine lv_topi (fun x1 e_x1 => ?_)
  have hE0 := k_lts hE0 e_x1
  refine lv_istore_n hx hb dX4_ahead_6 rfl hl (Nat.le_of_ble_eq_true rfl) rfl (fun ls (hl : lv_has ls 3 [(2, .int x1), (0, .ref (ad 4)), (1, .int p1)]) => ?_)
  refine lv_iload_n hx hb dX4_ahead_7 rfl (lv_at hl 0 rfl) ?_
  refine lv_if_lt (tgt := 28) hx hb dX4_ahead_8 (by decide) (fun c5 => ?_) (fun c5 => ?_)
  · have hE0 := ite_t hE0 c5
    refine lv_iconst (v := 0) hx hb dX4_ahead_28 rfl ?_
    exact kretP_z hcf hr hlk hK hw (rt1 hR hE0) hQ0 rfl dX4_ahead_29
  · have hE0 := ite_f hE0 c5
    refine lv_iload_n hx hb dX4_ahead_11 rfl (lv_at hl 0 rfl) ?_
    refine lv_aload_n hx hb dX4_ahead_12 rfl (lv_at hl 1 rfl) ?_
    refine kg_X4_length hcf hK (kw_90 htk) (x := (σ.1 0)) dX4_ahead_13 hw rfl ?_
    refine lv_icmp_ge (tgt := 28) hx hb dX4_ahead_16 (by decide) (fun c4 => ?_) (fun c4 => ?_)
    · have hE0 := ite_t hE0 c4
      refine lv_iconst (v := 0) hx hb dX4_ahead_28 rfl ?_
      exact kretP_z hcf hr hlk hK hw (rt1 hR hE0) hQ0 rfl dX4_ahead_29
    · have hE0 := ite_f hE0 c4
      refine lv_aload_n hx hb dX4_ahead_19 rfl (lv_at hl 1 rfl) ?_
      refine kg_X4_characters hcf hK (kw_88 htk) dX4_ahead_20 hw ?_
      refine lv_iload_n hx hb dX4_ahead_23 rfl (lv_at hl 0 rfl) ?_
      obtain ⟨g2, hE0⟩ := gd_e hE0 hN0
      refine kald_A0 hcf hK (x := (σ.2.1 0 ((x1).toNatClampNeg))) dX4_ahead_24 g2 hw rfl ?_
      refine lv_goto (tgt := 29) hx hb dX4_ahead_25 (by decide) ?_
      obtain ⟨g3, hE0⟩ := gd_e hE0 hN0
      exact kretP_z hcf hr hlk hK hw (rt1 hR hE0) hQ0 (nr_c g3) dX4_ahead_29
def fX1_admitCharge (N : Nat) (σ : vS) : Option (Int32 × vS) :=
  if ((σ.1 5) = 0) then (
    if ((5 : Int32) ≤ (σ.1 4)) then (
      some ((0 : Int32), (p_i σ 5 (0 : Int32)))
    ) else (
      some ((1 : Int32), (p_i σ 5 (1 : Int32)))
    )
  ) else (
    some ((1 : Int32), (p_i σ 5 (1 : Int32)))
  )
abbrev rmX1_admitCharge : Room := { frames := 0, cells := 0, slots := 0, locals := 0 }
abbrev wsX1_admitCharge : List Cond := .code yX1_admitCharge cX1_admitCharge 1 (some .boolean) :: kws
theorem kcX1_admitCharge {R : Room} {s : State} {args : Array Value} {own : String} {index : Nat} (htk : ∀ w ∈ kws, w.before args s = true) (hl : (Cond.methodLink own index yX1_admitCharge).before args s = true) (hR : rmX1_admitCharge.frames + 1 ≤ R.frames ∧ 8 + (1 + 11) + rmX1_admitCharge.locals ≤ R.locals) : CallW R s args own RX1 index yX1_admitCharge cX1_admitCharge 1 (some .boolean) wsX1_admitCharge rmX1_admitCharge 0 0 0 :=
  ⟨callB_of 0 htk (k_good kc_291) rfl rfl rfl (kw_55 htk) hl (by decide +kernel) hR, (kw_289 htk), (kw_290 htk)⟩
set_option maxRecDepth 100000 in
set_option maxHeartbeats 4000000 in
theorem mX1_admitCharge (l : Launch) (D : va_G) (cs : Nat → ClassId) (ad : Nat → Nat) (N : Nat) (σ : vS) (r : Int32) (σ' : vS) (hf : fX1_admitCharge N σ = some (r, σ')) : k_Met l yX1_admitCharge wsX1_admitCharge rmX1_admitCharge D (tK cs) (wK cs ad) (k_A 41 ad) [.ref (ad 5)] σ (some (.int r)) σ' := by
  refine k_of (cc := cX1_admitCharge) (maxL := 1) (ret := (some .boolean)) (by decide) rfl (Nat.le_of_ble_eq_true rfl) ?_
  intro p e s m args below meth c ls H locs hcf hr hlk hK hZ hl hw
  generalize hQ0 : MQ below _ args s 0 0 _ = Q0
  obtain ⟨T0, hE0⟩ : ∃ T, T = fX1_admitCharge N σ := ⟨_, rfl⟩
  have hR := hE0.trans hf
  have hN0 : T0 ≠ none := by rw [hR]; exact fun h => nomatch h
  have hx := hcf.1
  have hb := hcf.2.1
  have htk := hcf.2.2.2.2
  have hown := hcf.2.2.2.1
  unfold fX1_admitCharge at hE0
  replace hl : lv_has ls 1 [(0, .ref (ad 5))] := hl
  refine lv_aload_n hx hb dX1_admitCharge_0 rfl (lv_at hl 0 rfl) ?_
  refine lv_aload_n hx hb dX1_admitCharge_1 rfl (lv_at hl 0 rfl) ?_
  refine kg_X1_charged hcf hK (kw_127 htk) (x := (σ.1 5)) dX1_admitCharge_2 hw rfl ?_
  refine lv_if_ne (tgt := 16) hx hb dX1_admitCharge_5 (by decide) (fun c2 => ?_) (fun c2 => ?_)
  · have hE0 := ite_f hE0 c2
    refine lv_iconst (v := 1) hx hb dX1_admitCharge_16 rfl ?_
    refine lv_goto (tgt := 21) hx hb dX1_admitCharge_17 (by decide) ?_
    refine kp_X1_charged hcf hK (kw_127 htk) dX1_admitCharge_21 nz_1 hw (fun H locs hw => ?_)
    refine lv_aload_n hx hb dX1_admitCharge_24 rfl (lv_at hl 0 rfl) ?_
    refine kg_X1_charged hcf hK (kw_127 htk) (x := (1 : Int32)) dX1_admitCharge_25 hw rfl ?_
    exact kret_z hcf hr hlk hK hw (rt2 hR hE0) hQ0 rfl dX1_admitCharge_28
  · have hE0 := ite_t hE0 c2
    refine lv_aload_n hx hb dX1_admitCharge_8 rfl (lv_at hl 0 rfl) ?_
    refine kg_X1_elementCount hcf hK (kw_126 htk) (x := (σ.1 4)) dX1_admitCharge_9 hw rfl ?_
    refine lv_iconst (v := 5) hx hb dX1_admitCharge_12 rfl ?_
    refine lv_icmp_ge (tgt := 20) hx hb dX1_admitCharge_13 (by decide) (fun c1 => ?_) (fun c1 => ?_)
    · have hE0 := ite_t hE0 c1
      refine lv_iconst (v := 0) hx hb dX1_admitCharge_20 rfl ?_
      refine kp_X1_charged hcf hK (kw_127 htk) dX1_admitCharge_21 nz_0 hw (fun H locs hw => ?_)
      refine lv_aload_n hx hb dX1_admitCharge_24 rfl (lv_at hl 0 rfl) ?_
      refine kg_X1_charged hcf hK (kw_127 htk) (x := (0 : Int32)) dX1_admitCharge_25 hw rfl ?_
      exact kret_z hcf hr hlk hK hw (rt2 hR hE0) hQ0 rfl dX1_admitCharge_28
    · have hE0 := ite_f hE0 c1
      refine lv_iconst (v := 1) hx hb dX1_admitCharge_16 rfl ?_
      refine lv_goto (tgt := 21) hx hb dX1_admitCharge_17 (by decide) ?_
      refine kp_X1_charged hcf hK (kw_127 htk) dX1_admitCharge_21 nz_1 hw (fun H locs hw => ?_)
      refine lv_aload_n hx hb dX1_admitCharge_24 rfl (lv_at hl 0 rfl) ?_
      refine kg_X1_charged hcf hK (kw_127 htk) (x := (1 : Int32)) dX1_admitCharge_25 hw rfl ?_
      exact kret_z hcf hr hlk hK hw (rt2 hR hE0) hQ0 rfl dX1_admitCharge_28
def fX3_readElectron (N : Nat) (σ : vS) : Option (vS) :=
  bd1 (fX4_ahead N σ (1 : Int32)) fun r1 =>
  if (r1 = (94 : Int32)) then (
    bd1 (fX4_ahead N σ (2 : Int32)) fun r3 =>
    if (r3 = (45 : Int32)) then (
      bd2 (fX1_admitCharge N σ) fun r4 σ4 =>
      if (r4 = 0) then (
        bd1 (fX3_meet N σ4 (-5 : Int32) (σ4.1 1)) fun σ5 =>
        some σ5
      ) else (
        some (p_i (p_i σ4 9 (-1 : Int32)) 1 ((σ4.1 1) + (3 : Int32)))
      )
    ) else (
      bd1 (fX3_meet N σ (-2 : Int32) (σ.1 1)) fun σ7 =>
      some σ7
    )
  ) else (
    bd1 (fX3_meet N σ (-2 : Int32) (σ.1 1)) fun σ2 =>
    some σ2
  )
abbrev rmX3_readElectron : Room := { frames := 1, cells := 0, slots := 0, locals := 22 }
abbrev wsX3_readElectron : List Cond := .code yX3_readElectron cX3_readElectron 1 none :: kws
theorem kcX3_readElectron {R : Room} {s : State} {args : Array Value} {own : String} {index : Nat} (htk : ∀ w ∈ kws, w.before args s = true) (hl : (Cond.methodLink own index yX3_readElectron).before args s = true) (hR : rmX3_readElectron.frames + 1 ≤ R.frames ∧ 8 + (1 + 11) + rmX3_readElectron.locals ≤ R.locals) : CallW R s args own RX3 index yX3_readElectron cX3_readElectron 1 none wsX3_readElectron rmX3_readElectron 0 0 0 :=
  ⟨callB_of 0 htk (k_good kc_283) rfl rfl rfl (kw_53 htk) hl (by decide +kernel) hR, (kw_282 htk), (kw_2 htk)⟩
set_option maxRecDepth 100000 in
set_option maxHeartbeats 4000000 in
theorem mX3_readElectron (l : Launch) (D : va_G) (cs : Nat → ClassId) (ad : Nat → Nat) (N : Nat) (σ : vS) (σ' : vS) (hf : fX3_readElectron N σ = some σ') : k_Met l yX3_readElectron wsX3_readElectron rmX3_readElectron D (tK cs) (wK cs ad) (k_A 41 ad) [.ref (ad 1)] σ none σ' := by
  refine k_of (cc := cX3_readElectron) (maxL := 1) (ret := none) (by decide) rfl (Nat.le_of_ble_eq_true rfl) ?_
  intro p e s m args below meth c ls H locs hcf hr hlk hK hZ hl hw
  generalize hQ0 : MQ below _ args s 0 0 _ = Q0
  obtain ⟨T0, hE0⟩ : ∃ T, T = fX3_readElectron N σ := ⟨_, rfl⟩
  have hR := hE0.trans hf
  have hN0 : T0 ≠ none := by rw [hR]; exact fun h => nomatch h
  have hx := hcf.1
  have hb := hcf.2.1
  have htk := hcf.2.2.2.2
  have hown := hcf.2.2.2.1
  unfold fX3_readElectron at hE0
  replace hl : lv_has ls 1 [(0, .ref (ad 1))] := hl
  refine lv_aload_n hx hb dX3_readElectron_0 rfl (lv_at hl 0 rfl) ?_
  refine kg_X3_text hcf hK (kw_150 htk) dX3_readElectron_1 hw ?_
  refine lv_iconst (v := 1) hx hb dX3_readElectron_4 rfl ?_
  obtain ⟨r1, k1, hE0⟩ := bd1_e hE0 hN0
  refine k_callP (va_runV (As := [.int (1 : Int32)]) (rest := []) hcf (mX4_ahead l D cs ad N σ (1 : Int32) r1 k1) (kcX4_ahead htk (kw_284 htk) ⟨Nat.le_of_ble_eq_true rfl, Nat.le_of_ble_eq_true rfl⟩) ⟨k_blind, va_recv (ci := 4) (q0 := 4) hK hw.1 rfl rfl, k_pre hK hZ hw⟩ rfl rfl hl.1 rfl (lv_room (Nat.le_of_ble_eq_true rfl)) dX3_readElectron_5 ⟨Nat.zero_le _, Nat.zero_le _⟩) ?_
  refine lv_bipush (v := 94) hx hb dX3_readElectron_8 rfl ?_
  refine lv_icmp_ne (tgt := 26) hx hb dX3_readElectron_10 (by decide) (fun c9 => ?_) (fun c9 => ?_)
  · have hE0 := ite_f hE0 c9
    refine lv_aload_n hx hb dX3_readElectron_26 rfl (lv_at hl 0 rfl) ?_
    refine lv_bipush (v := -2) hx hb dX3_readElectron_27 rfl ?_
    refine lv_aload_n hx hb dX3_readElectron_29 rfl (lv_at hl 0 rfl) ?_
    refine kg_X3_text hcf hK (kw_150 htk) dX3_readElectron_30 hw ?_
    refine kg_X4_place hcf hK (kw_93 htk) (x := (σ.1 1)) dX3_readElectron_33 hw rfl ?_
    obtain ⟨σ2, k2, hE0⟩ := bd1_e hE0 hN0
    refine k_call (va_runV (As := [.int (-2 : Int32), .int (σ.1 1)]) (rest := []) hcf (mX3_meet l D cs ad N σ (-2 : Int32) (σ.1 1) σ2 k2) (kcX3_meet htk (kw_272 htk) ⟨Nat.le_of_ble_eq_true rfl, Nat.le_of_ble_eq_true rfl⟩) ⟨k_blind, va_recv (ci := 3) (q0 := 1) hK hw.1 rfl rfl, k_pre hK hZ hw⟩ rfl rfl hl.1 rfl (lv_room (Nat.le_of_ble_eq_true rfl)) dX3_readElectron_36 ⟨Nat.zero_le _, Nat.zero_le _⟩) hw (fun H locs hw => ?_)
    refine lv_goto (tgt := 86) hx hb dX3_readElectron_39 (by decide) ?_
    exact kret_v hcf hr hlk hK hw (rt1 hR hE0) hQ0 dX3_readElectron_86
  · have hE0 := ite_t hE0 c9
    refine lv_aload_n hx hb dX3_readElectron_13 rfl (lv_at hl 0 rfl) ?_
    refine kg_X3_text hcf hK (kw_150 htk) dX3_readElectron_14 hw ?_
    refine lv_iconst (v := 2) hx hb dX3_readElectron_17 rfl ?_
    obtain ⟨r3, k3, hE0⟩ := bd1_e hE0 hN0
    refine k_callP (va_runV (As := [.int (2 : Int32)]) (rest := []) hcf (mX4_ahead l D cs ad N σ (2 : Int32) r3 k3) (kcX4_ahead htk (kw_284 htk) ⟨Nat.le_of_ble_eq_true rfl, Nat.le_of_ble_eq_true rfl⟩) ⟨k_blind, va_recv (ci := 4) (q0 := 4) hK hw.1 rfl rfl, k_pre hK hZ hw⟩ rfl rfl hl.1 rfl (lv_room (Nat.le_of_ble_eq_true rfl)) dX3_readElectron_18 ⟨Nat.zero_le _, Nat.zero_le _⟩) ?_
    refine lv_bipush (v := 45) hx hb dX3_readElectron_21 rfl ?_
    refine lv_icmp_eq (tgt := 42) hx hb dX3_readElectron_23 (by decide) (fun c8 => ?_) (fun c8 => ?_)
    · have hE0 := ite_t hE0 c8
      refine lv_aload_n hx hb dX3_readElectron_42 rfl (lv_at hl 0 rfl) ?_
      refine kg_X3_equation hcf hK (kw_152 htk) dX3_readElectron_43 hw ?_
      obtain ⟨r4, σ4, k4, hE0⟩ := bd2_e hE0 hN0
      refine k_call (va_runV (As := []) (rest := []) hcf (mX1_admitCharge l D cs ad N σ r4 σ4 k4) (kcX1_admitCharge htk (kw_288 htk) ⟨Nat.le_of_ble_eq_true rfl, Nat.le_of_ble_eq_true rfl⟩) ⟨k_blind, va_recv (ci := 1) (q0 := 5) hK hw.1 rfl rfl, k_pre hK hZ hw⟩ rfl rfl hl.1 rfl (lv_room (Nat.le_of_ble_eq_true rfl)) dX3_readElectron_46 ⟨Nat.zero_le _, Nat.zero_le _⟩) hw (fun H locs hw => ?_)
      refine lv_if_ne (tgt := 68) hx hb dX3_readElectron_49 (by decide) (fun c6 => ?_) (fun c6 => ?_)
      · have hE0 := ite_f hE0 c6
        refine lv_aload_n hx hb dX3_readElectron_68 rfl (lv_at hl 0 rfl) ?_
        refine lv_iconst (v := -1) hx hb dX3_readElectron_69 rfl ?_
        refine kp_X3_charge hcf hK (kw_162 htk) dX3_readElectron_70 hw (fun H locs hw => ?_)
        refine lv_aload_n hx hb dX3_readElectron_73 rfl (lv_at hl 0 rfl) ?_
        refine kg_X3_text hcf hK (kw_150 htk) dX3_readElectron_74 hw ?_
        refine lv_dup hx hb dX3_readElectron_77 rfl ?_
        refine kg_X4_place hcf hK (kw_93 htk) (x := (σ4.1 1)) dX3_readElectron_78 hw rfl ?_
        refine lv_iconst (v := 3) hx hb dX3_readElectron_81 rfl ?_
        refine lv_iadd hx hb dX3_readElectron_82 ?_
        refine kp_X4_place hcf hK (kw_93 htk) dX3_readElectron_83 hw (fun H locs hw => ?_)
        exact kret_v hcf hr hlk hK hw (rt1 hR hE0) hQ0 dX3_readElectron_86
      · have hE0 := ite_t hE0 c6
        refine lv_aload_n hx hb dX3_readElectron_52 rfl (lv_at hl 0 rfl) ?_
        refine lv_bipush (v := -5) hx hb dX3_readElectron_53 rfl ?_
        refine lv_aload_n hx hb dX3_readElectron_55 rfl (lv_at hl 0 rfl) ?_
        refine kg_X3_text hcf hK (kw_150 htk) dX3_readElectron_56 hw ?_
        refine kg_X4_place hcf hK (kw_93 htk) (x := (σ4.1 1)) dX3_readElectron_59 hw rfl ?_
        obtain ⟨σ5, k5, hE0⟩ := bd1_e hE0 hN0
        refine k_call (va_runV (As := [.int (-5 : Int32), .int (σ4.1 1)]) (rest := []) hcf (mX3_meet l D cs ad N σ4 (-5 : Int32) (σ4.1 1) σ5 k5) (kcX3_meet htk (kw_272 htk) ⟨Nat.le_of_ble_eq_true rfl, Nat.le_of_ble_eq_true rfl⟩) ⟨k_blind, va_recv (ci := 3) (q0 := 1) hK hw.1 rfl rfl, k_pre hK hZ hw⟩ rfl rfl hl.1 rfl (lv_room (Nat.le_of_ble_eq_true rfl)) dX3_readElectron_62 ⟨Nat.zero_le _, Nat.zero_le _⟩) hw (fun H locs hw => ?_)
        refine lv_goto (tgt := 86) hx hb dX3_readElectron_65 (by decide) ?_
        exact kret_v hcf hr hlk hK hw (rt1 hR hE0) hQ0 dX3_readElectron_86
    · have hE0 := ite_f hE0 c8
      refine lv_aload_n hx hb dX3_readElectron_26 rfl (lv_at hl 0 rfl) ?_
      refine lv_bipush (v := -2) hx hb dX3_readElectron_27 rfl ?_
      refine lv_aload_n hx hb dX3_readElectron_29 rfl (lv_at hl 0 rfl) ?_
      refine kg_X3_text hcf hK (kw_150 htk) dX3_readElectron_30 hw ?_
      refine kg_X4_place hcf hK (kw_93 htk) (x := (σ.1 1)) dX3_readElectron_33 hw rfl ?_
      obtain ⟨σ7, k7, hE0⟩ := bd1_e hE0 hN0
      refine k_call (va_runV (As := [.int (-2 : Int32), .int (σ.1 1)]) (rest := []) hcf (mX3_meet l D cs ad N σ (-2 : Int32) (σ.1 1) σ7 k7) (kcX3_meet htk (kw_272 htk) ⟨Nat.le_of_ble_eq_true rfl, Nat.le_of_ble_eq_true rfl⟩) ⟨k_blind, va_recv (ci := 3) (q0 := 1) hK hw.1 rfl rfl, k_pre hK hZ hw⟩ rfl rfl hl.1 rfl (lv_room (Nat.le_of_ble_eq_true rfl)) dX3_readElectron_36 ⟨Nat.zero_le _, Nat.zero_le _⟩) hw (fun H locs hw => ?_)
      refine lv_goto (tgt := 86) hx hb dX3_readElectron_39 (by decide) ?_
      exact kret_v hcf hr hlk hK hw (rt1 hR hE0) hQ0 dX3_readElectron_86
def fX5_isDigit (N : Nat) (σ : vS) (p0 : Int32) : Option (Int32) :=
  if (p0 < (48 : Int32)) then (
    some (0 : Int32)
  ) else (
    if ((57 : Int32) < p0) then (
      some (0 : Int32)
    ) else (
      some (1 : Int32)
    )
  )
abbrev rmX5_isDigit : Room := { frames := 0, cells := 0, slots := 0, locals := 0 }
abbrev wsX5_isDigit : List Cond := .code yX5_isDigit cX5_isDigit 1 (some .boolean) :: kws
theorem kcX5_isDigit {R : Room} {s : State} {args : Array Value} {own : String} {index : Nat} (htk : ∀ w ∈ kws, w.before args s = true) (hl : va_Nw (.methodLinkNest own index yX5_isDigit RX5) s) (hR : rmX5_isDigit.frames + 1 ≤ R.frames ∧ 8 + (1 + 11) + rmX5_isDigit.locals ≤ R.locals) : va_CN R s args own index yX5_isDigit RX5 cX5_isDigit 1 (some .boolean) wsX5_isDigit rmX5_isDigit 0 0 1 ∧ (Cond.static yX5_isDigit).before args s = true ∧ True :=
  ⟨va_cnB 1 htk (k_good kc_302) rfl rfl rfl hl (kw_52 htk) (by decide +kernel) hR, (kw_301 htk), trivial⟩
set_option maxRecDepth 100000 in
set_option maxHeartbeats 4000000 in
theorem mX5_isDigit (l : Launch) (D : va_G) (cs : Nat → ClassId) (ad : Nat → Nat) (N : Nat) (σ : vS) (p0 : Int32) (r : Int32) (hf : fX5_isDigit N σ p0 = some r) : k_MP l yX5_isDigit wsX5_isDigit rmX5_isDigit D (tK cs) (wK cs ad) [.int p0] σ (.int r) := by
  refine k_ofP (cc := cX5_isDigit) (maxL := 1) (ret := (some .boolean)) (by decide) rfl (Nat.le_of_ble_eq_true rfl) ?_
  intro p e s m args below meth c ls hcf hr hlk hK hZ hl hw
  generalize hQ0 : MQ below _ args s 0 0 _ = Q0
  obtain ⟨T0, hE0⟩ : ∃ T, T = fX5_isDigit N σ p0 := ⟨_, rfl⟩
  have hR := hE0.trans hf
  have hN0 : T0 ≠ none := by rw [hR]; exact fun h => nomatch h
  have hx := hcf.1
  have hb := hcf.2.1
  have htk := hcf.2.2.2.2
  have hown := hcf.2.2.2.1
  unfold fX5_isDigit at hE0
  replace hl : lv_has ls 1 [(0, .int p0)] := hl
  refine lv_iload_n hx hb dX5_isDigit_0 rfl (lv_at hl 0 rfl) ?_
  refine lv_bipush (v := 48) hx hb dX5_isDigit_1 rfl ?_
  refine lv_icmp_lt (tgt := 16) hx hb dX5_isDigit_3 (by decide) (fun c2 => ?_) (fun c2 => ?_)
  · have hE0 := ite_t hE0 c2
    refine lv_iconst (v := 0) hx hb dX5_isDigit_16 rfl ?_
    exact kretP_z hcf hr hlk hK hw (rt1 hR hE0) hQ0 rfl dX5_isDigit_17
  · have hE0 := ite_f hE0 c2
    refine lv_iload_n hx hb dX5_isDigit_6 rfl (lv_at hl 0 rfl) ?_
    refine lv_bipush (v := 57) hx hb dX5_isDigit_7 rfl ?_
    refine lv_icmp_gt (tgt := 16) hx hb dX5_isDigit_9 (by decide) (fun c1 => ?_) (fun c1 => ?_)
    · have hE0 := ite_t hE0 c1
      refine lv_iconst (v := 0) hx hb dX5_isDigit_16 rfl ?_
      exact kretP_z hcf hr hlk hK hw (rt1 hR hE0) hQ0 rfl dX5_isDigit_17
    · have hE0 := ite_f hE0 c1
      refine lv_iconst (v := 1) hx hb dX5_isDigit_12 rfl ?_
      refine lv_goto (tgt := 17) hx hb dX5_isDigit_13 (by decide) ?_
      exact kretP_z hcf hr hlk hK hw (rt1 hR hE0) hQ0 rfl dX5_isDigit_17
def jX3_readNumber_107 (N : Nat) (σj107 : vS) (v1j107 : Int32) (v3j107 : Int32) (v4j107 : Int32) : Option (Int32 × vS) :=
  bd1 (fX3_meet N σj107 (-3 : Int32) v1j107) fun σ4 =>
  if (v4j107 = 0) then (
    some ((1 : Int32), σ4)
  ) else (
    some (v3j107, σ4)
  )
def jX3_readNumber_86 (N : Nat) (σj86 : vS) (v1j86 : Int32) (v2j86 : Int32) (v3j86 : Int32) : Option (Int32 × vS) :=
  k_lt ((σj86.1 1) - v1j86) fun x3 =>
  if (v2j86 = 0) then (
    if (x3 ≤ (2 : Int32)) then (
      if (x3 = 0) then (
        some ((1 : Int32), σj86)
      ) else (
        some (v3j86, σj86)
      )
    ) else (
      jX3_readNumber_107 N σj86 v1j86 v3j86 x3
    )
  ) else (
    jX3_readNumber_107 N σj86 v1j86 v3j86 x3
  )
def bX3_readNumber_31 (N : Nat) (v1j26 : Int32) (v2j26 : Int32) (v3h31 : Int32) (v4h31 : Int32) (σh31 : vS) : Option ((Int32 × Int32 × vS) ⊕ (Int32 × vS)) :=
  if ((100 : Int32) ≤ v4h31) then (
    some (.inr (v3h31, σh31))
  ) else (
    bd1 (fX4_here N σh31) fun r9 =>
    bd1 (fX5_isDigit N σh31 r9) fun r10 =>
    if (r10 = 0) then (
      some (.inr (v3h31, σh31))
    ) else (
      bd1 (fX4_here N σh31) fun r11 =>
      k_lt (((10 : Int32) * v3h31) + (r11 - (48 : Int32))) fun x12 =>
      k_lt (v4h31 + (1 : Int32)) fun x13 =>
      some (.inl (x12, x13, (p_i σh31 1 ((σh31.1 1) + (1 : Int32)))))
    )
  )
def jX3_readNumber_26 (N : Nat) (σ : vS) (v1j26 : Int32) (v2j26 : Int32) : Option (Int32 × vS) :=
  bd1 (k_itr (fun zz => bX3_readNumber_31 N v1j26 v2j26 zz.1 zz.2.1 zz.2.2) N ((0 : Int32), (0 : Int32), σ)) fun q => jX3_readNumber_86 N q.2 v1j26 v2j26 q.1
def fX3_readNumber (N : Nat) (σ : vS) : Option (Int32 × vS) :=
  k_lt (σ.1 1) fun x1 =>
  bd1 (fX4_here N σ) fun r2 =>
  if (r2 = (48 : Int32)) then (
    jX3_readNumber_26 N σ x1 (1 : Int32)
  ) else (
    jX3_readNumber_26 N σ x1 (0 : Int32)
  )
abbrev rmX3_readNumber : Room := { frames := 1, cells := 0, slots := 0, locals := 22 }
abbrev wsX3_readNumber : List Cond := .code yX3_readNumber cX3_readNumber 5 (some .int) :: kws
theorem kcX3_readNumber {R : Room} {s : State} {args : Array Value} {own : String} {index : Nat} (htk : ∀ w ∈ kws, w.before args s = true) (hl : (Cond.methodLink own index yX3_readNumber).before args s = true) (hR : rmX3_readNumber.frames + 1 ≤ R.frames ∧ 8 + (5 + 11) + rmX3_readNumber.locals ≤ R.locals) : CallW R s args own RX3 index yX3_readNumber cX3_readNumber 5 (some .int) wsX3_readNumber rmX3_readNumber 0 0 0 :=
  ⟨callB_of 0 htk (k_good kc_299) rfl rfl rfl (kw_53 htk) hl (by decide +kernel) hR, (kw_298 htk), (kw_4 htk)⟩
set_option maxRecDepth 100000 in
set_option maxHeartbeats 4000000 in
theorem mX3_readNumber (l : Launch) (D : va_G) (cs : Nat → ClassId) (ad : Nat → Nat) (N : Nat) (σ : vS) (r : Int32) (σ' : vS) (hf : fX3_readNumber N σ = some (r, σ')) : k_Met l yX3_readNumber wsX3_readNumber rmX3_readNumber D (tK cs) (wK cs ad) (k_A 41 ad) [.ref (ad 1)] σ (some (.int r)) σ' := by
  refine k_of (cc := cX3_readNumber) (maxL := 5) (ret := (some .int)) (by decide) rfl (Nat.le_of_ble_eq_true rfl) ?_
  intro p e s m args below meth c ls H locs hcf hr hlk hK hZ hl hw
  generalize hQ0 : MQ below _ args s 0 0 _ = Q0
  obtain ⟨T0, hE0⟩ : ∃ T, T = fX3_readNumber N σ := ⟨_, rfl⟩
  have hR := hE0.trans hf
  have hN0 : T0 ≠ none := by rw [hR]; exact fun h => nomatch h
  have hx := hcf.1
  have hb := hcf.2.1
  have htk := hcf.2.2.2.2
  have hown := hcf.2.2.2.1
  unfold fX3_readNumber at hE0
  replace hl : lv_has ls 5 [(0, .ref (ad 1))] := hl
  have J107 : ∀ (v1j107 : Int32) (v3j107 : Int32) (v4j107 : Int32) (σj107 : vS) (H : Heap) (locs : List Loc) (ls : Array Slot), lv_has ls 5 [(0, .ref (ad 1)), (1, .int v1j107), (3, .int v3j107), (4, .int v4j107)] → k_H D (wK cs ad) (k_A 41 ad) σj107 s.heap H locs → T0 = jX3_readNumber_107 N σj107 v1j107 v3j107 v4j107 → W p l e rmX3_readNumber s m args below meth c H locs 0 0 Q0 (F0 m 107 ls []) := by
    intro v1j107 v3j107 v4j107 σj107 H locs ls hl hw hE0
    unfold jX3_readNumber_107 at hE0
    refine lv_aload_n hx hb dX3_readNumber_107 rfl (lv_at hl 0 rfl) ?_
    refine lv_bipush (v := -3) hx hb dX3_readNumber_108 rfl ?_
    refine lv_iload_n hx hb dX3_readNumber_110 rfl (lv_at hl 1 rfl) ?_
    obtain ⟨σ4, k4, hE0⟩ := bd1_e hE0 hN0
    refine k_call (va_runV (As := [.int (-3 : Int32), .int v1j107]) (rest := []) hcf (mX3_meet l D cs ad N σj107 (-3 : Int32) v1j107 σ4 k4) (kcX3_meet htk (kw_272 htk) ⟨Nat.le_of_ble_eq_true rfl, Nat.le_of_ble_eq_true rfl⟩) ⟨k_blind, va_recv (ci := 3) (q0 := 1) hK hw.1 rfl rfl, k_pre hK hZ hw⟩ rfl rfl hl.1 rfl (lv_room (Nat.le_of_ble_eq_true rfl)) dX3_readNumber_111 ⟨Nat.zero_le _, Nat.zero_le _⟩) hw (fun H locs hw => ?_)
    refine lv_iload hx hb dX3_readNumber_114 (lv_at hl 3 rfl) ?_
    refine lv_if_ne (tgt := 123) hx hb dX3_readNumber_116 (by decide) (fun c5 => ?_) (fun c5 => ?_)
    · have hE0 := ite_f hE0 c5
      refine lv_iload_n hx hb dX3_readNumber_123 rfl (lv_at hl 2 rfl) ?_
      exact kret_i hcf hr hlk hK hw (rt2 hR hE0) hQ0 dX3_readNumber_124
    · have hE0 := ite_t hE0 c5
      refine lv_iconst (v := 1) hx hb dX3_readNumber_119 rfl ?_
      refine lv_goto (tgt := 124) hx hb dX3_readNumber_120 (by decide) ?_
      exact kret_i hcf hr hlk hK hw (rt2 hR hE0) hQ0 dX3_readNumber_124
  have J86 : ∀ (v1j86 : Int32) (v2j86 : Int32) (v3j86 : Int32) (σj86 : vS) (H : Heap) (locs : List Loc) (ls : Array Slot), lv_has ls 5 [(0, .ref (ad 1)), (1, .int v1j86), (2, .int v2j86), (3, .int v3j86)] → k_H D (wK cs ad) (k_A 41 ad) σj86 s.heap H locs → T0 = jX3_readNumber_86 N σj86 v1j86 v2j86 v3j86 → W p l e rmX3_readNumber s m args below meth c H locs 0 0 Q0 (F0 m 86 ls []) := by
    intro v1j86 v2j86 v3j86 σj86 H locs ls hl hw hE0
    unfold jX3_readNumber_86 at hE0
    refine lv_aload_n hx hb dX3_readNumber_86 rfl (lv_at hl 0 rfl) ?_
    refine kg_X3_text hcf hK (kw_150 htk) dX3_readNumber_87 hw ?_
    refine kg_X4_place hcf hK (kw_93 htk) (x := (σj86.1 1)) dX3_readNumber_90 hw rfl ?_
    refine lv_iload_n hx hb dX3_readNumber_93 rfl (lv_at hl 1 rfl) ?_
    refine lv_isub hx hb dX3_readNumber_94 ?_
    refine lv_topi (fun x3 e_x3 => ?_)
    have hE0 := k_lts hE0 e_x3
    refine lv_istore hx hb dX3_readNumber_95 hl (Nat.le_of_ble_eq_true rfl) rfl (fun ls (hl : lv_has ls 5 [(4, .int x3), (0, .ref (ad 1)), (1, .int v1j86), (2, .int v2j86), (3, .int v3j86)]) => ?_)
    refine lv_iload_n hx hb dX3_readNumber_97 rfl (lv_at hl 3 rfl) ?_
    refine lv_if_ne (tgt := 107) hx hb dX3_readNumber_98 (by decide) (fun c8 => ?_) (fun c8 => ?_)
    · have hE0 := ite_f hE0 c8
      exact J107 v1j86 v3j86 x3 σj86 H locs ls (lv_sub hl [1, 2, 4, 0] rfl) hw hE0
    · have hE0 := ite_t hE0 c8
      refine lv_iload hx hb dX3_readNumber_101 (lv_at hl 0 rfl) ?_
      refine lv_iconst (v := 2) hx hb dX3_readNumber_103 rfl ?_
      refine lv_icmp_le (tgt := 114) hx hb dX3_readNumber_104 (by decide) (fun c7 => ?_) (fun c7 => ?_)
      · have hE0 := ite_t hE0 c7
        refine lv_iload hx hb dX3_readNumber_114 (lv_at hl 0 rfl) ?_
        refine lv_if_ne (tgt := 123) hx hb dX3_readNumber_116 (by decide) (fun c6 => ?_) (fun c6 => ?_)
        · have hE0 := ite_f hE0 c6
          refine lv_iload_n hx hb dX3_readNumber_123 rfl (lv_at hl 4 rfl) ?_
          exact kret_i hcf hr hlk hK hw (rt2 hR hE0) hQ0 dX3_readNumber_124
        · have hE0 := ite_t hE0 c6
          refine lv_iconst (v := 1) hx hb dX3_readNumber_119 rfl ?_
          refine lv_goto (tgt := 124) hx hb dX3_readNumber_120 (by decide) ?_
          exact kret_i hcf hr hlk hK hw (rt2 hR hE0) hQ0 dX3_readNumber_124
      · have hE0 := ite_f hE0 c7
        exact J107 v1j86 v3j86 x3 σj86 H locs ls (lv_sub hl [1, 2, 4, 0] rfl) hw hE0
  have J26 : ∀ (v1j26 : Int32) (v2j26 : Int32) (ls : Array Slot), lv_has ls 5 [(0, .ref (ad 1)), (1, .int v1j26), (2, .int v2j26)] → T0 = jX3_readNumber_26 N σ v1j26 v2j26 → W p l e rmX3_readNumber s m args below meth c H locs 0 0 Q0 (F0 m 26 ls []) := by
    intro v1j26 v2j26 ls hl hE0
    unfold jX3_readNumber_26 at hE0
    refine lv_iconst (v := 0) hx hb dX3_readNumber_26 rfl ?_
    refine lv_istore_n hx hb dX3_readNumber_27 rfl hl (Nat.le_of_ble_eq_true rfl) rfl (fun ls (hl : lv_has ls 5 [(3, .int (0 : Int32)), (0, .ref (ad 1)), (1, .int v1j26), (2, .int v2j26)]) => ?_)
    refine lv_iconst (v := 0) hx hb dX3_readNumber_28 rfl ?_
    refine lv_istore hx hb dX3_readNumber_29 hl (Nat.le_of_ble_eq_true rfl) rfl (fun ls (hl : lv_has ls 5 [(4, .int (0 : Int32)), (3, .int (0 : Int32)), (0, .ref (ad 1)), (1, .int v1j26), (2, .int v2j26)]) => ?_)
    obtain ⟨q, hq, hE0⟩ := bd1_e hE0 hN0
    refine k_ind (P := fun zz => ∀ (H : Heap) (locs : List Loc) (ls : Array Slot), lv_has ls 5 [(0, .ref (ad 1)), (1, .int v1j26), (2, .int v2j26), (3, .int zz.1), (4, .int zz.2.1)] → k_H D (wK cs ad) (k_A 41 ad) zz.2.2 s.heap H locs → W p l e rmX3_readNumber s m args below meth c H locs 0 0 Q0 (F0 m 31 ls [])) ?_ N _ hq H locs ls (lv_sub hl [2, 3, 4, 1, 0] rfl) hw
    intro sX T1 hE1 hN1 hC1 hX1
    obtain ⟨v3h31, v4h31, σh31⟩ := sX
    replace hE1 : T1 = bX3_readNumber_31 N v1j26 v2j26 v3h31 v4h31 σh31 := hE1
    unfold bX3_readNumber_31 at hE1
    intro H locs ls hl hw
    replace hl : lv_has ls 5 [(0, .ref (ad 1)), (1, .int v1j26), (2, .int v2j26), (3, .int v3h31), (4, .int v4h31)] := hl
    replace hw : k_H D (wK cs ad) (k_A 41 ad) σh31 s.heap H locs := hw
    refine lv_iload hx hb dX3_readNumber_31 (lv_at hl 4 rfl) ?_
    refine lv_bipush (v := 100) hx hb dX3_readNumber_33 rfl ?_
    refine lv_icmp_ge (tgt := 86) hx hb dX3_readNumber_35 (by decide) (fun c15 => ?_) (fun c15 => ?_)
    · have hE1 := ite_t hE1 c15
      have hq := hX1 _ hE1
      subst hq
      exact J86 v1j26 v2j26 v3h31 σh31 H locs ls (lv_sub hl [0, 1, 2, 3] rfl) hw hE0
    · have hE1 := ite_f hE1 c15
      refine lv_aload_n hx hb dX3_readNumber_38 rfl (lv_at hl 0 rfl) ?_
      refine kg_X3_text hcf hK (kw_150 htk) dX3_readNumber_39 hw ?_
      obtain ⟨r9, k9, hE1⟩ := bd1_e hE1 hN1
      refine k_callP (va_runV (As := []) (rest := []) hcf (mX4_here l D cs ad N σh31 r9 k9) (kcX4_here htk (kw_276 htk) ⟨Nat.le_of_ble_eq_true rfl, Nat.le_of_ble_eq_true rfl⟩) ⟨k_blind, va_recv (ci := 4) (q0 := 4) hK hw.1 rfl rfl, k_pre hK hZ hw⟩ rfl rfl hl.1 rfl (lv_room (Nat.le_of_ble_eq_true rfl)) dX3_readNumber_42 ⟨Nat.zero_le _, Nat.zero_le _⟩) ?_
      obtain ⟨r10, k10, hE1⟩ := bd1_e hE1 hN1
      refine k_callP (va_runSN (As := [.int r9]) (rest := []) hcf (mX5_isDigit l D cs ad N σh31 r9 r10 k10) (kcX5_isDigit htk (kn_5 hZ) ⟨Nat.le_of_ble_eq_true rfl, Nat.le_of_ble_eq_true rfl⟩) ⟨k_blind, k_pre hK hZ hw⟩ rfl rfl hl.1 rfl (lv_room (Nat.le_of_ble_eq_true rfl)) dX3_readNumber_45 ⟨Nat.zero_le _, Nat.zero_le _⟩) ?_
      refine lv_if_eq (tgt := 86) hx hb dX3_readNumber_48 (by decide) (fun c14 => ?_) (fun c14 => ?_)
      · have hE1 := ite_t hE1 c14
        have hq := hX1 _ hE1
        subst hq
        exact J86 v1j26 v2j26 v3h31 σh31 H locs ls (lv_sub hl [0, 1, 2, 3] rfl) hw hE0
      · have hE1 := ite_f hE1 c14
        refine lv_bipush (v := 10) hx hb dX3_readNumber_51 rfl ?_
        refine lv_iload_n hx hb dX3_readNumber_53 rfl (lv_at hl 3 rfl) ?_
        refine lv_imul hx hb dX3_readNumber_54 ?_
        refine lv_aload_n hx hb dX3_readNumber_55 rfl (lv_at hl 0 rfl) ?_
        refine kg_X3_text hcf hK (kw_150 htk) dX3_readNumber_56 hw ?_
        obtain ⟨r11, k11, hE1⟩ := bd1_e hE1 hN1
        refine k_callP (va_runV (As := []) (rest := [.int ((10 : Int32) * v3h31)]) hcf (mX4_here l D cs ad N σh31 r11 k11) (kcX4_here htk (kw_276 htk) ⟨Nat.le_of_ble_eq_true rfl, Nat.le_of_ble_eq_true rfl⟩) ⟨k_blind, va_recv (ci := 4) (q0 := 4) hK hw.1 rfl rfl, k_pre hK hZ hw⟩ rfl rfl hl.1 rfl (lv_room (Nat.le_of_ble_eq_true rfl)) dX3_readNumber_59 ⟨Nat.zero_le _, Nat.zero_le _⟩) ?_
        refine lv_bipush (v := 48) hx hb dX3_readNumber_62 rfl ?_
        refine lv_isub hx hb dX3_readNumber_64 ?_
        refine lv_iadd hx hb dX3_readNumber_65 ?_
        refine lv_topi (fun x12 e_x12 => ?_)
        have hE1 := k_lts hE1 e_x12
        refine lv_istore_n hx hb dX3_readNumber_66 rfl hl (Nat.le_of_ble_eq_true rfl) rfl (fun ls (hl : lv_has ls 5 [(3, .int x12), (0, .ref (ad 1)), (1, .int v1j26), (2, .int v2j26), (4, .int v4h31)]) => ?_)
        refine lv_aload_n hx hb dX3_readNumber_67 rfl (lv_at hl 1 rfl) ?_
        refine kg_X3_text hcf hK (kw_150 htk) dX3_readNumber_68 hw ?_
        refine lv_dup hx hb dX3_readNumber_71 rfl ?_
        refine kg_X4_place hcf hK (kw_93 htk) (x := (σh31.1 1)) dX3_readNumber_72 hw rfl ?_
        refine lv_iconst (v := 1) hx hb dX3_readNumber_75 rfl ?_
        refine lv_iadd hx hb dX3_readNumber_76 ?_
        refine kp_X4_place hcf hK (kw_93 htk) dX3_readNumber_77 hw (fun H locs hw => ?_)
        obtain ⟨x13, e_x13, hE1⟩ := k_lte hE1
        refine lv_iinc (k := 4) (v := x13) hx hb dX3_readNumber_80 hl rfl (Eq.symm e_x13) (Nat.le_of_ble_eq_true rfl) rfl (fun ls (hl : lv_has ls 5 [(4, .int x13), (3, .int x12), (0, .ref (ad 1)), (1, .int v1j26), (2, .int v2j26)]) => ?_)
        refine lv_goto (tgt := 31) hx hb dX3_readNumber_83 (by decide) ?_
        exact hC1 _ hE1 H locs ls (lv_sub hl [2, 3, 4, 1, 0] rfl) hw
  refine lv_aload_n hx hb dX3_readNumber_0 rfl (lv_at hl 0 rfl) ?_
  refine kg_X3_text hcf hK (kw_150 htk) dX3_readNumber_1 hw ?_
  refine kg_X4_place hcf hK (kw_93 htk) (x := (σ.1 1)) dX3_readNumber_4 hw rfl ?_
  refine lv_topi (fun x1 e_x1 => ?_)
  have hE0 := k_lts hE0 e_x1
  refine lv_istore_n hx hb dX3_readNumber_7 rfl hl (Nat.le_of_ble_eq_true rfl) rfl (fun ls (hl : lv_has ls 5 [(1, .int x1), (0, .ref (ad 1))]) => ?_)
  refine lv_aload_n hx hb dX3_readNumber_8 rfl (lv_at hl 1 rfl) ?_
  refine kg_X3_text hcf hK (kw_150 htk) dX3_readNumber_9 hw ?_
  obtain ⟨r2, k2, hE0⟩ := bd1_e hE0 hN0
  refine k_callP (va_runV (As := []) (rest := []) hcf (mX4_here l D cs ad N σ r2 k2) (kcX4_here htk (kw_276 htk) ⟨Nat.le_of_ble_eq_true rfl, Nat.le_of_ble_eq_true rfl⟩) ⟨k_blind, va_recv (ci := 4) (q0 := 4) hK hw.1 rfl rfl, k_pre hK hZ hw⟩ rfl rfl hl.1 rfl (lv_room (Nat.le_of_ble_eq_true rfl)) dX3_readNumber_12 ⟨Nat.zero_le _, Nat.zero_le _⟩) ?_
  refine lv_bipush (v := 48) hx hb dX3_readNumber_15 rfl ?_
  refine lv_icmp_ne (tgt := 24) hx hb dX3_readNumber_17 (by decide) (fun c16 => ?_) (fun c16 => ?_)
  · have hE0 := ite_f hE0 c16
    refine lv_iconst (v := 0) hx hb dX3_readNumber_24 rfl ?_
    refine lv_istore_n hx hb dX3_readNumber_25 rfl hl (Nat.le_of_ble_eq_true rfl) rfl (fun ls (hl : lv_has ls 5 [(2, .int (0 : Int32)), (1, .int x1), (0, .ref (ad 1))]) => ?_)
    exact J26 x1 (0 : Int32) ls (lv_sub hl [2, 1, 0] rfl) hE0
  · have hE0 := ite_t hE0 c16
    refine lv_iconst (v := 1) hx hb dX3_readNumber_20 rfl ?_
    refine lv_goto (tgt := 25) hx hb dX3_readNumber_21 (by decide) ?_
    refine lv_istore_n hx hb dX3_readNumber_25 rfl hl (Nat.le_of_ble_eq_true rfl) rfl (fun ls (hl : lv_has ls 5 [(2, .int (1 : Int32)), (1, .int x1), (0, .ref (ad 1))]) => ?_)
    exact J26 x1 (1 : Int32) ls (lv_sub hl [2, 1, 0] rfl) hE0
def fX5_isCapital (N : Nat) (σ : vS) (p0 : Int32) : Option (Int32) :=
  if (p0 < (65 : Int32)) then (
    some (0 : Int32)
  ) else (
    if ((90 : Int32) < p0) then (
      some (0 : Int32)
    ) else (
      some (1 : Int32)
    )
  )
abbrev rmX5_isCapital : Room := { frames := 0, cells := 0, slots := 0, locals := 0 }
abbrev wsX5_isCapital : List Cond := .code yX5_isCapital cX5_isCapital 1 (some .boolean) :: kws
theorem kcX5_isCapital {R : Room} {s : State} {args : Array Value} {own : String} {index : Nat} (htk : ∀ w ∈ kws, w.before args s = true) (hl : va_Nw (.methodLinkNest own index yX5_isCapital RX5) s) (hR : rmX5_isCapital.frames + 1 ≤ R.frames ∧ 8 + (1 + 11) + rmX5_isCapital.locals ≤ R.locals) : va_CN R s args own index yX5_isCapital RX5 cX5_isCapital 1 (some .boolean) wsX5_isCapital rmX5_isCapital 0 0 1 ∧ (Cond.static yX5_isCapital).before args s = true ∧ True :=
  ⟨va_cnB 1 htk (k_good kc_309) rfl rfl rfl hl (kw_52 htk) (by decide +kernel) hR, (kw_308 htk), trivial⟩
set_option maxRecDepth 100000 in
set_option maxHeartbeats 4000000 in
theorem mX5_isCapital (l : Launch) (D : va_G) (cs : Nat → ClassId) (ad : Nat → Nat) (N : Nat) (σ : vS) (p0 : Int32) (r : Int32) (hf : fX5_isCapital N σ p0 = some r) : k_MP l yX5_isCapital wsX5_isCapital rmX5_isCapital D (tK cs) (wK cs ad) [.int p0] σ (.int r) := by
  refine k_ofP (cc := cX5_isCapital) (maxL := 1) (ret := (some .boolean)) (by decide) rfl (Nat.le_of_ble_eq_true rfl) ?_
  intro p e s m args below meth c ls hcf hr hlk hK hZ hl hw
  generalize hQ0 : MQ below _ args s 0 0 _ = Q0
  obtain ⟨T0, hE0⟩ : ∃ T, T = fX5_isCapital N σ p0 := ⟨_, rfl⟩
  have hR := hE0.trans hf
  have hN0 : T0 ≠ none := by rw [hR]; exact fun h => nomatch h
  have hx := hcf.1
  have hb := hcf.2.1
  have htk := hcf.2.2.2.2
  have hown := hcf.2.2.2.1
  unfold fX5_isCapital at hE0
  replace hl : lv_has ls 1 [(0, .int p0)] := hl
  refine lv_iload_n hx hb dX5_isCapital_0 rfl (lv_at hl 0 rfl) ?_
  refine lv_bipush (v := 65) hx hb dX5_isCapital_1 rfl ?_
  refine lv_icmp_lt (tgt := 16) hx hb dX5_isCapital_3 (by decide) (fun c2 => ?_) (fun c2 => ?_)
  · have hE0 := ite_t hE0 c2
    refine lv_iconst (v := 0) hx hb dX5_isCapital_16 rfl ?_
    exact kretP_z hcf hr hlk hK hw (rt1 hR hE0) hQ0 rfl dX5_isCapital_17
  · have hE0 := ite_f hE0 c2
    refine lv_iload_n hx hb dX5_isCapital_6 rfl (lv_at hl 0 rfl) ?_
    refine lv_bipush (v := 90) hx hb dX5_isCapital_7 rfl ?_
    refine lv_icmp_gt (tgt := 16) hx hb dX5_isCapital_9 (by decide) (fun c1 => ?_) (fun c1 => ?_)
    · have hE0 := ite_t hE0 c1
      refine lv_iconst (v := 0) hx hb dX5_isCapital_16 rfl ?_
      exact kretP_z hcf hr hlk hK hw (rt1 hR hE0) hQ0 rfl dX5_isCapital_17
    · have hE0 := ite_f hE0 c1
      refine lv_iconst (v := 1) hx hb dX5_isCapital_12 rfl ?_
      refine lv_goto (tgt := 17) hx hb dX5_isCapital_13 (by decide) ?_
      exact kretP_z hcf hr hlk hK hw (rt1 hR hE0) hQ0 rfl dX5_isCapital_17
def fX5_isSmall (N : Nat) (σ : vS) (p0 : Int32) : Option (Int32) :=
  if (p0 < (97 : Int32)) then (
    some (0 : Int32)
  ) else (
    if ((122 : Int32) < p0) then (
      some (0 : Int32)
    ) else (
      some (1 : Int32)
    )
  )
abbrev rmX5_isSmall : Room := { frames := 0, cells := 0, slots := 0, locals := 0 }
abbrev wsX5_isSmall : List Cond := .code yX5_isSmall cX5_isSmall 1 (some .boolean) :: kws
theorem kcX5_isSmall {R : Room} {s : State} {args : Array Value} {own : String} {index : Nat} (htk : ∀ w ∈ kws, w.before args s = true) (hl : va_Nw (.methodLinkNest own index yX5_isSmall RX5) s) (hR : rmX5_isSmall.frames + 1 ≤ R.frames ∧ 8 + (1 + 11) + rmX5_isSmall.locals ≤ R.locals) : va_CN R s args own index yX5_isSmall RX5 cX5_isSmall 1 (some .boolean) wsX5_isSmall rmX5_isSmall 0 0 1 ∧ (Cond.static yX5_isSmall).before args s = true ∧ True :=
  ⟨va_cnB 1 htk (k_good kc_316) rfl rfl rfl hl (kw_52 htk) (by decide +kernel) hR, (kw_315 htk), trivial⟩
set_option maxRecDepth 100000 in
set_option maxHeartbeats 4000000 in
theorem mX5_isSmall (l : Launch) (D : va_G) (cs : Nat → ClassId) (ad : Nat → Nat) (N : Nat) (σ : vS) (p0 : Int32) (r : Int32) (hf : fX5_isSmall N σ p0 = some r) : k_MP l yX5_isSmall wsX5_isSmall rmX5_isSmall D (tK cs) (wK cs ad) [.int p0] σ (.int r) := by
  refine k_ofP (cc := cX5_isSmall) (maxL := 1) (ret := (some .boolean)) (by decide) rfl (Nat.le_of_ble_eq_true rfl) ?_
  intro p e s m args below meth c ls hcf hr hlk hK hZ hl hw
  generalize hQ0 : MQ below _ args s 0 0 _ = Q0
  obtain ⟨T0, hE0⟩ : ∃ T, T = fX5_isSmall N σ p0 := ⟨_, rfl⟩
  have hR := hE0.trans hf
  have hN0 : T0 ≠ none := by rw [hR]; exact fun h => nomatch h
  have hx := hcf.1
  have hb := hcf.2.1
  have htk := hcf.2.2.2.2
  have hown := hcf.2.2.2.1
  unfold fX5_isSmall at hE0
  replace hl : lv_has ls 1 [(0, .int p0)] := hl
  refine lv_iload_n hx hb dX5_isSmall_0 rfl (lv_at hl 0 rfl) ?_
  refine lv_bipush (v := 97) hx hb dX5_isSmall_1 rfl ?_
  refine lv_icmp_lt (tgt := 16) hx hb dX5_isSmall_3 (by decide) (fun c2 => ?_) (fun c2 => ?_)
  · have hE0 := ite_t hE0 c2
    refine lv_iconst (v := 0) hx hb dX5_isSmall_16 rfl ?_
    exact kretP_z hcf hr hlk hK hw (rt1 hR hE0) hQ0 rfl dX5_isSmall_17
  · have hE0 := ite_f hE0 c2
    refine lv_iload_n hx hb dX5_isSmall_6 rfl (lv_at hl 0 rfl) ?_
    refine lv_bipush (v := 122) hx hb dX5_isSmall_7 rfl ?_
    refine lv_icmp_gt (tgt := 16) hx hb dX5_isSmall_9 (by decide) (fun c1 => ?_) (fun c1 => ?_)
    · have hE0 := ite_t hE0 c1
      refine lv_iconst (v := 0) hx hb dX5_isSmall_16 rfl ?_
      exact kretP_z hcf hr hlk hK hw (rt1 hR hE0) hQ0 rfl dX5_isSmall_17
    · have hE0 := ite_f hE0 c1
      refine lv_iconst (v := 1) hx hb dX5_isSmall_12 rfl ?_
      refine lv_goto (tgt := 17) hx hb dX5_isSmall_13 (by decide) ?_
      exact kretP_z hcf hr hlk hK hw (rt1 hR hE0) hQ0 rfl dX5_isSmall_17
def fX1_kindCount (N : Nat) (σ : vS) : Option (Int32) :=
  if ((σ.1 5) = 0) then (
    some (σ.1 4)
  ) else (
    some ((σ.1 4) + (1 : Int32))
  )
abbrev rmX1_kindCount : Room := { frames := 0, cells := 0, slots := 0, locals := 0 }
abbrev wsX1_kindCount : List Cond := .code yX1_kindCount cX1_kindCount 1 (some .int) :: kws
theorem kcX1_kindCount {R : Room} {s : State} {args : Array Value} {own : String} {index : Nat} (htk : ∀ w ∈ kws, w.before args s = true) (hl : (Cond.methodLink own index yX1_kindCount).before args s = true) (hR : rmX1_kindCount.frames + 1 ≤ R.frames ∧ 8 + (1 + 11) + rmX1_kindCount.locals ≤ R.locals) : CallW R s args own RX1 index yX1_kindCount cX1_kindCount 1 (some .int) wsX1_kindCount rmX1_kindCount 0 0 0 :=
  ⟨callB_of 0 htk (k_good kc_324) rfl rfl rfl (kw_55 htk) hl (by decide +kernel) hR, (kw_322 htk), (kw_323 htk)⟩
set_option maxRecDepth 100000 in
set_option maxHeartbeats 4000000 in
theorem mX1_kindCount (l : Launch) (D : va_G) (cs : Nat → ClassId) (ad : Nat → Nat) (N : Nat) (σ : vS) (r : Int32) (hf : fX1_kindCount N σ = some r) : k_MP l yX1_kindCount wsX1_kindCount rmX1_kindCount D (tK cs) (wK cs ad) [.ref (ad 5)] σ (.int r) := by
  refine k_ofP (cc := cX1_kindCount) (maxL := 1) (ret := (some .int)) (by decide) rfl (Nat.le_of_ble_eq_true rfl) ?_
  intro p e s m args below meth c ls hcf hr hlk hK hZ hl hw
  generalize hQ0 : MQ below _ args s 0 0 _ = Q0
  obtain ⟨T0, hE0⟩ : ∃ T, T = fX1_kindCount N σ := ⟨_, rfl⟩
  have hR := hE0.trans hf
  have hN0 : T0 ≠ none := by rw [hR]; exact fun h => nomatch h
  have hx := hcf.1
  have hb := hcf.2.1
  have htk := hcf.2.2.2.2
  have hown := hcf.2.2.2.1
  unfold fX1_kindCount at hE0
  replace hl : lv_has ls 1 [(0, .ref (ad 5))] := hl
  refine lv_aload_n hx hb dX1_kindCount_0 rfl (lv_at hl 0 rfl) ?_
  refine kg_X1_charged hcf hK (kw_127 htk) (x := (σ.1 5)) dX1_kindCount_1 hw rfl ?_
  refine lv_if_eq (tgt := 16) hx hb dX1_kindCount_4 (by decide) (fun c1 => ?_) (fun c1 => ?_)
  · have hE0 := ite_t hE0 c1
    refine lv_aload_n hx hb dX1_kindCount_16 rfl (lv_at hl 0 rfl) ?_
    refine kg_X1_elementCount hcf hK (kw_126 htk) (x := (σ.1 4)) dX1_kindCount_17 hw rfl ?_
    exact kretP_i hcf hr hlk hK hw (rt1 hR hE0) hQ0 dX1_kindCount_20
  · have hE0 := ite_f hE0 c1
    refine lv_aload_n hx hb dX1_kindCount_7 rfl (lv_at hl 0 rfl) ?_
    refine kg_X1_elementCount hcf hK (kw_126 htk) (x := (σ.1 4)) dX1_kindCount_8 hw rfl ?_
    refine lv_iconst (v := 1) hx hb dX1_kindCount_11 rfl ?_
    refine lv_iadd hx hb dX1_kindCount_12 ?_
    refine lv_goto (tgt := 20) hx hb dX1_kindCount_13 (by decide) ?_
    exact kretP_i hcf hr hlk hK hw (rt1 hR hE0) hQ0 dX1_kindCount_20
def jX1_elementKind_28 (N : Nat) (σ : vS) (v1j28 : Int32) : Option (Int32 × vS) :=
  bd1 (fX1_kindCount N σ) fun r1 =>
  if (r1 < (5 : Int32)) then (
    if ((σ.1 4) < 0 ∨ 5 ≤ ((σ.1 4)).toNatClampNeg) then none else
    some ((((σ.1 4) + (1 : Int32)) - (1 : Int32)), (p_i (p_a σ 1 (((σ.1 4)).toNatClampNeg) v1j28) 4 ((σ.1 4) + (1 : Int32))))
  ) else (
    some ((-1 : Int32), σ)
  )
def bX1_elementKind_2 (N : Nat) (σ : vS) (p1 : Int32) (v2h2 : Int32) : Option ((Int32) ⊕ ((Unit) ⊕ (Int32 × vS))) :=
  if ((σ.1 4) ≤ v2h2) then (
    some (.inr (.inl ()))
  ) else (
    if (v2h2 < 0 ∨ 5 ≤ (v2h2).toNatClampNeg) then none else
    if ((σ.2.1 1 ((v2h2).toNatClampNeg)) = p1) then (
      some (.inr (.inr (v2h2, σ)))
    ) else (
      k_lt (v2h2 + (1 : Int32)) fun x5 =>
      some (.inl x5)
    )
  )
def fX1_elementKind (N : Nat) (σ : vS) (p1 : Int32) : Option (Int32 × vS) :=
  bds (k_itr (fun zz => bX1_elementKind_2 N σ p1 zz) N (0 : Int32)) fun _ => jX1_elementKind_28 N σ p1
abbrev rmX1_elementKind : Room := { frames := 1, cells := 0, slots := 0, locals := 20 }
abbrev wsX1_elementKind : List Cond := .code yX1_elementKind cX1_elementKind 3 (some .int) :: kws
theorem kcX1_elementKind {R : Room} {s : State} {args : Array Value} {own : String} {index : Nat} (htk : ∀ w ∈ kws, w.before args s = true) (hl : (Cond.methodLink own index yX1_elementKind).before args s = true) (hR : rmX1_elementKind.frames + 1 ≤ R.frames ∧ 8 + (3 + 11) + rmX1_elementKind.locals ≤ R.locals) : CallW R s args own RX1 index yX1_elementKind cX1_elementKind 3 (some .int) wsX1_elementKind rmX1_elementKind 0 0 1 :=
  ⟨callB_of 1 htk (k_good kc_320) rfl rfl rfl (kw_55 htk) hl (by decide +kernel) hR, (kw_318 htk), (kw_319 htk)⟩
set_option maxRecDepth 100000 in
set_option maxHeartbeats 4000000 in
theorem mX1_elementKind (l : Launch) (D : va_G) (cs : Nat → ClassId) (ad : Nat → Nat) (N : Nat) (σ : vS) (p1 : Int32) (r : Int32) (σ' : vS) (hf : fX1_elementKind N σ p1 = some (r, σ')) : k_Met l yX1_elementKind wsX1_elementKind rmX1_elementKind D (tK cs) (wK cs ad) (k_A 41 ad) [.ref (ad 5), .int p1] σ (some (.int r)) σ' := by
  refine k_of (cc := cX1_elementKind) (maxL := 3) (ret := (some .int)) (by decide) rfl (Nat.le_of_ble_eq_true rfl) ?_
  intro p e s m args below meth c ls H locs hcf hr hlk hK hZ hl hw
  generalize hQ0 : MQ below _ args s 0 0 _ = Q0
  obtain ⟨T0, hE0⟩ : ∃ T, T = fX1_elementKind N σ p1 := ⟨_, rfl⟩
  have hR := hE0.trans hf
  have hN0 : T0 ≠ none := by rw [hR]; exact fun h => nomatch h
  have hx := hcf.1
  have hb := hcf.2.1
  have htk := hcf.2.2.2.2
  have hown := hcf.2.2.2.1
  unfold fX1_elementKind at hE0
  replace hl : lv_has ls 3 [(0, .ref (ad 5)), (1, .int p1)] := hl
  have J28 : ∀ (v1j28 : Int32) (ls : Array Slot), lv_has ls 3 [(0, .ref (ad 5)), (1, .int v1j28)] → T0 = jX1_elementKind_28 N σ v1j28 → W p l e rmX1_elementKind s m args below meth c H locs 0 0 Q0 (F0 m 28 ls []) := by
    intro v1j28 ls hl hE0
    unfold jX1_elementKind_28 at hE0
    refine lv_aload_n hx hb dX1_elementKind_28 rfl (lv_at hl 0 rfl) ?_
    obtain ⟨r1, k1, hE0⟩ := bd1_e hE0 hN0
    refine k_callP (va_runV (As := []) (rest := []) hcf (mX1_kindCount l D cs ad N σ r1 k1) (kcX1_kindCount htk (kw_321 htk) ⟨Nat.le_of_ble_eq_true rfl, Nat.le_of_ble_eq_true rfl⟩) ⟨k_blind, va_recv (ci := 1) (q0 := 5) hK hw.1 rfl rfl, k_pre hK hZ hw⟩ rfl rfl hl.1 rfl (lv_room (Nat.le_of_ble_eq_true rfl)) dX1_elementKind_29 ⟨Nat.zero_le _, Nat.zero_le _⟩) ?_
    refine lv_iconst (v := 5) hx hb dX1_elementKind_32 rfl ?_
    refine lv_icmp_lt (tgt := 38) hx hb dX1_elementKind_33 (by decide) (fun c3 => ?_) (fun c3 => ?_)
    · have hE0 := ite_t hE0 c3
      refine lv_aload_n hx hb dX1_elementKind_38 rfl (lv_at hl 0 rfl) ?_
      refine kg_X1_elementNames hcf hK (kw_110 htk) dX1_elementKind_39 hw ?_
      refine lv_aload_n hx hb dX1_elementKind_42 rfl (lv_at hl 0 rfl) ?_
      refine kg_X1_elementCount hcf hK (kw_126 htk) (x := (σ.1 4)) dX1_elementKind_43 hw rfl ?_
      refine lv_iload_n hx hb dX1_elementKind_46 rfl (lv_at hl 1 rfl) ?_
      obtain ⟨g2, hE0⟩ := gd_e hE0 hN0
      refine kast_A1 hcf hK dX1_elementKind_47 g2 hw (fun H locs hw => ?_)
      refine lv_aload_n hx hb dX1_elementKind_48 rfl (lv_at hl 0 rfl) ?_
      refine lv_dup hx hb dX1_elementKind_49 rfl ?_
      refine kg_X1_elementCount hcf hK (kw_126 htk) (x := (σ.1 4)) dX1_elementKind_50 hw rfl ?_
      refine lv_iconst (v := 1) hx hb dX1_elementKind_53 rfl ?_
      refine lv_iadd hx hb dX1_elementKind_54 ?_
      refine kp_X1_elementCount hcf hK (kw_126 htk) dX1_elementKind_55 hw (fun H locs hw => ?_)
      refine lv_aload_n hx hb dX1_elementKind_58 rfl (lv_at hl 0 rfl) ?_
      refine kg_X1_elementCount hcf hK (kw_126 htk) (x := ((σ.1 4) + (1 : Int32))) dX1_elementKind_59 hw rfl ?_
      refine lv_iconst (v := 1) hx hb dX1_elementKind_62 rfl ?_
      refine lv_isub hx hb dX1_elementKind_63 ?_
      exact kret_i hcf hr hlk hK hw (rt2 hR hE0) hQ0 dX1_elementKind_64
    · have hE0 := ite_f hE0 c3
      refine lv_iconst (v := -1) hx hb dX1_elementKind_36 rfl ?_
      exact kret_i hcf hr hlk hK hw (rt2 hR hE0) hQ0 dX1_elementKind_37
  refine lv_iconst (v := 0) hx hb dX1_elementKind_0 rfl ?_
  refine lv_istore_n hx hb dX1_elementKind_1 rfl hl (Nat.le_of_ble_eq_true rfl) rfl (fun ls (hl : lv_has ls 3 [(2, .int (0 : Int32)), (0, .ref (ad 5)), (1, .int p1)]) => ?_)
  obtain ⟨q, hq, hE0, hT0⟩ := bds_e hE0 hN0
  refine k_ind (P := fun zz => ∀ (ls : Array Slot), lv_has ls 3 [(0, .ref (ad 5)), (1, .int p1), (2, .int zz)] → W p l e rmX1_elementKind s m args below meth c H locs 0 0 Q0 (F0 m 2 ls [])) ?_ N _ hq ls (lv_sub hl [1, 2, 0] rfl)
  intro sX T1 hE1 hN1 hC1 hX1
  obtain ⟨v2h2, hsg⟩ : ∃ z, z = sX := ⟨_, rfl⟩
  subst hsg
  replace hE1 : T1 = bX1_elementKind_2 N σ p1 v2h2 := hE1
  unfold bX1_elementKind_2 at hE1
  intro ls hl
  replace hl : lv_has ls 3 [(0, .ref (ad 5)), (1, .int p1), (2, .int v2h2)] := hl
  refine lv_iload_n hx hb dX1_elementKind_2 rfl (lv_at hl 2 rfl) ?_
  refine lv_aload_n hx hb dX1_elementKind_3 rfl (lv_at hl 0 rfl) ?_
  refine kg_X1_elementCount hcf hK (kw_126 htk) (x := (σ.1 4)) dX1_elementKind_4 hw rfl ?_
  refine lv_icmp_ge (tgt := 28) hx hb dX1_elementKind_7 (by decide) (fun c7 => ?_) (fun c7 => ?_)
  · have hE1 := ite_t hE1 c7
    have hq := hX1 _ hE1
    subst hq
    exact J28 p1 ls (lv_sub hl [0, 1] rfl) (hE0 _ rfl)
  · have hE1 := ite_f hE1 c7
    refine lv_aload_n hx hb dX1_elementKind_10 rfl (lv_at hl 0 rfl) ?_
    refine kg_X1_elementNames hcf hK (kw_110 htk) dX1_elementKind_11 hw ?_
    refine lv_iload_n hx hb dX1_elementKind_14 rfl (lv_at hl 2 rfl) ?_
    obtain ⟨g4, hE1⟩ := gd_e hE1 hN1
    refine kald_A1 hcf hK (x := (σ.2.1 1 ((v2h2).toNatClampNeg))) dX1_elementKind_15 g4 hw rfl ?_
    refine lv_iload_n hx hb dX1_elementKind_16 rfl (lv_at hl 1 rfl) ?_
    refine lv_icmp_ne (tgt := 22) hx hb dX1_elementKind_17 (by decide) (fun c6 => ?_) (fun c6 => ?_)
    · have hE1 := ite_f hE1 c6
      obtain ⟨x5, e_x5, hE1⟩ := k_lte hE1
      refine lv_iinc (k := 2) (v := x5) hx hb dX1_elementKind_22 hl rfl (Eq.symm e_x5) (Nat.le_of_ble_eq_true rfl) rfl (fun ls (hl : lv_has ls 3 [(2, .int x5), (0, .ref (ad 5)), (1, .int p1)]) => ?_)
      refine lv_goto (tgt := 2) hx hb dX1_elementKind_25 (by decide) ?_
      exact hC1 _ hE1 ls (lv_sub hl [1, 2, 0] rfl)
    · have hE1 := ite_t hE1 c6
      refine lv_iload_n hx hb dX1_elementKind_20 rfl (lv_at hl 2 rfl) ?_
      have hq := hX1 _ hE1
      subst hq
      exact kret_i hcf hr hlk hK hw (rt2 hR (hT0 _ rfl)) hQ0 dX1_elementKind_21
end
section
def jX3_readElement_79 (N : Nat) (σj79 : vS) (v4j79 : Int32) : Option (vS) :=
  if ((σj79.1 8) < 0 ∨ 4 ≤ ((σj79.1 8)).toNatClampNeg) then none else
  if (v4j79 < 0 ∨ 5 ≤ (v4j79).toNatClampNeg) then none else
  bd2 (fX3_readNumber N σj79) fun r6 σ6 =>
  if (v4j79 < 0 ∨ 5 ≤ (v4j79).toNatClampNeg) then none else
  some (p_b σ6 (1 + ((σj79.1 8)).toNatClampNeg) ((v4j79).toNatClampNeg) ((σj79.2.2.2 (1 + ((σj79.1 8)).toNatClampNeg) ((v4j79).toNatClampNeg)) + (r6).toInt64))
def jX3_readElement_38 (N : Nat) (σj38 : vS) (v3j38 : Int32) (v4j38 : Int32) : Option (vS) :=
  if (v4j38 = (-1 : Int32)) then (
    bd1 (fX3_meet N σj38 (-5 : Int32) (σj38.1 1)) fun σ9 =>
    some σ9
  ) else (
    if (v3j38 = 0) then (
      jX3_readElement_79 N (p_i σj38 1 ((σj38.1 1) + (1 : Int32))) v4j38
    ) else (
      jX3_readElement_79 N (p_i σj38 1 ((σj38.1 1) + (2 : Int32))) v4j38
    )
  )
def fX3_readElement (N : Nat) (σ : vS) (p1 : Int32) : Option (vS) :=
  bd1 (fX4_ahead N σ (1 : Int32)) fun r1 =>
  bd1 (fX5_isSmall N σ r1) fun r2 =>
  if (r2 = 0) then (
    bd2 (fX1_elementKind N σ p1) fun r3 σ3 =>
    jX3_readElement_38 N σ3 r2 r3
  ) else (
    bd2 (fX1_elementKind N σ (p1 + ((256 : Int32) * r1))) fun r11 σ11 =>
    jX3_readElement_38 N σ11 r2 r11
  )
abbrev rmX3_readElement : Room := { frames := 2, cells := 0, slots := 0, locals := 46 }
abbrev wsX3_readElement : List Cond := .code yX3_readElement cX3_readElement 5 none :: kws
theorem kcX3_readElement {R : Room} {s : State} {args : Array Value} {own : String} {index : Nat} (htk : ∀ w ∈ kws, w.before args s = true) (hl : (Cond.methodLink own index yX3_readElement).before args s = true) (hR : rmX3_readElement.frames + 1 ≤ R.frames ∧ 8 + (5 + 11) + rmX3_readElement.locals ≤ R.locals) : CallW R s args own RX3 index yX3_readElement cX3_readElement 5 none wsX3_readElement rmX3_readElement 0 0 1 :=
  ⟨callB_of 1 htk (k_good kc_313) rfl rfl rfl (kw_53 htk) hl (by decide +kernel) hR, (kw_312 htk), (kw_6 htk)⟩
set_option maxRecDepth 100000 in
set_option maxHeartbeats 4000000 in
theorem mX3_readElement (l : Launch) (D : va_G) (cs : Nat → ClassId) (ad : Nat → Nat) (N : Nat) (σ : vS) (p1 : Int32) (σ' : vS) (hf : fX3_readElement N σ p1 = some σ') : k_Met l yX3_readElement wsX3_readElement rmX3_readElement D (tK cs) (wK cs ad) (k_A 41 ad) [.ref (ad 1), .int p1] σ none σ' := by
  refine k_of (cc := cX3_readElement) (maxL := 5) (ret := none) (by decide) rfl (Nat.le_of_ble_eq_true rfl) ?_
  intro p e s m args below meth c ls H locs hcf hr hlk hK hZ hl hw
  generalize hQ0 : MQ below _ args s 0 0 _ = Q0
  obtain ⟨T0, hE0⟩ : ∃ T, T = fX3_readElement N σ p1 := ⟨_, rfl⟩
  have hR := hE0.trans hf
  have hN0 : T0 ≠ none := by rw [hR]; exact fun h => nomatch h
  have hx := hcf.1
  have hb := hcf.2.1
  have htk := hcf.2.2.2.2
  have hown := hcf.2.2.2.1
  unfold fX3_readElement at hE0
  replace hl : lv_has ls 5 [(0, .ref (ad 1)), (1, .int p1)] := hl
  have J79 : ∀ (v4j79 : Int32) (σj79 : vS) (H : Heap) (locs : List Loc) (ls : Array Slot), lv_has ls 5 [(0, .ref (ad 1)), (4, .int v4j79)] → k_H D (wK cs ad) (k_A 41 ad) σj79 s.heap H locs → T0 = jX3_readElement_79 N σj79 v4j79 → W p l e rmX3_readElement s m args below meth c H locs 0 0 Q0 (F0 m 79 ls []) := by
    intro v4j79 σj79 H locs ls hl hw hE0
    unfold jX3_readElement_79 at hE0
    refine lv_aload_n hx hb dX3_readElement_79 rfl (lv_at hl 0 rfl) ?_
    refine kg_X3_sums hcf hK (kw_158 htk) dX3_readElement_80 hw ?_
    refine lv_aload_n hx hb dX3_readElement_83 rfl (lv_at hl 0 rfl) ?_
    refine kg_X3_depth hcf hK (kw_160 htk) (x := (σj79.1 8)) dX3_readElement_84 hw rfl ?_
    obtain ⟨g4, hE0⟩ := gd_e hE0 hN0
    refine kaald_sums hcf hK dX3_readElement_87 rfl g4 hw ?_
    refine lv_iload hx hb dX3_readElement_88 (lv_at hl 1 rfl) ?_
    refine lv_dup2_11 hx hb dX3_readElement_90 rfl rfl ?_
    obtain ⟨g5, hE0⟩ := gd_e hE0 hN0
    refine kald_sums hcf hK (x := (σj79.2.2.2 (1 + ((σj79.1 8)).toNatClampNeg) ((v4j79).toNatClampNeg))) dX3_readElement_91 g4 g5 hw rfl ?_
    refine lv_aload_n hx hb dX3_readElement_92 rfl (lv_at hl 0 rfl) ?_
    obtain ⟨r6, σ6, k6, hE0⟩ := bd2_e hE0 hN0
    refine k_call (va_runV (As := []) (rest := [.long (σj79.2.2.2 (1 + ((σj79.1 8)).toNatClampNeg) ((v4j79).toNatClampNeg)), .int v4j79, .ref (ad (25 + (1 + ((σj79.1 8)).toNatClampNeg)))]) hcf (mX3_readNumber l D cs ad N σj79 r6 σ6 k6) (kcX3_readNumber htk (kw_296 htk) ⟨Nat.le_of_ble_eq_true rfl, Nat.le_of_ble_eq_true rfl⟩) ⟨k_blind, va_recv (ci := 3) (q0 := 1) hK hw.1 rfl rfl, k_pre hK hZ hw⟩ rfl rfl hl.1 rfl (lv_room (Nat.le_of_ble_eq_true rfl)) dX3_readElement_93 ⟨Nat.zero_le _, Nat.zero_le _⟩) hw (fun H locs hw => ?_)
    refine lv_i2l hx hb dX3_readElement_96 rfl ?_
    refine lv_ladd hx hb dX3_readElement_97 ?_
    obtain ⟨g7, hE0⟩ := gd_e hE0 hN0
    refine kast_sums hcf hK dX3_readElement_98 g4 g7 hw (fun H locs hw => ?_)
    exact kret_v hcf hr hlk hK hw (rt1 hR hE0) hQ0 dX3_readElement_99
  have J38 : ∀ (v3j38 : Int32) (v4j38 : Int32) (σj38 : vS) (H : Heap) (locs : List Loc) (ls : Array Slot), lv_has ls 5 [(0, .ref (ad 1)), (3, .int v3j38), (4, .int v4j38)] → k_H D (wK cs ad) (k_A 41 ad) σj38 s.heap H locs → T0 = jX3_readElement_38 N σj38 v3j38 v4j38 → W p l e rmX3_readElement s m args below meth c H locs 0 0 Q0 (F0 m 38 ls []) := by
    intro v3j38 v4j38 σj38 H locs ls hl hw hE0
    unfold jX3_readElement_38 at hE0
    refine lv_iload hx hb dX3_readElement_38 (lv_at hl 2 rfl) ?_
    refine lv_iconst (v := -1) hx hb dX3_readElement_40 rfl ?_
    refine lv_icmp_ne (tgt := 58) hx hb dX3_readElement_41 (by decide) (fun c10 => ?_) (fun c10 => ?_)
    · have hE0 := ite_f hE0 c10
      refine lv_aload_n hx hb dX3_readElement_58 rfl (lv_at hl 0 rfl) ?_
      refine kg_X3_text hcf hK (kw_150 htk) dX3_readElement_59 hw ?_
      refine lv_dup hx hb dX3_readElement_62 rfl ?_
      refine kg_X4_place hcf hK (kw_93 htk) (x := (σj38.1 1)) dX3_readElement_63 hw rfl ?_
      refine lv_iload_n hx hb dX3_readElement_66 rfl (lv_at hl 1 rfl) ?_
      refine lv_if_eq (tgt := 74) hx hb dX3_readElement_67 (by decide) (fun c8 => ?_) (fun c8 => ?_)
      · have hE0 := ite_t hE0 c8
        refine lv_iconst (v := 1) hx hb dX3_readElement_74 rfl ?_
        refine lv_iadd hx hb dX3_readElement_75 ?_
        refine kp_X4_place hcf hK (kw_93 htk) dX3_readElement_76 hw (fun H locs hw => ?_)
        exact J79 v4j38 (p_i σj38 1 ((σj38.1 1) + (1 : Int32))) H locs ls (lv_sub hl [0, 2] rfl) hw hE0
      · have hE0 := ite_f hE0 c8
        refine lv_iconst (v := 2) hx hb dX3_readElement_70 rfl ?_
        refine lv_goto (tgt := 75) hx hb dX3_readElement_71 (by decide) ?_
        refine lv_iadd hx hb dX3_readElement_75 ?_
        refine kp_X4_place hcf hK (kw_93 htk) dX3_readElement_76 hw (fun H locs hw => ?_)
        exact J79 v4j38 (p_i σj38 1 ((σj38.1 1) + (2 : Int32))) H locs ls (lv_sub hl [0, 2] rfl) hw hE0
    · have hE0 := ite_t hE0 c10
      refine lv_aload_n hx hb dX3_readElement_44 rfl (lv_at hl 0 rfl) ?_
      refine lv_bipush (v := -5) hx hb dX3_readElement_45 rfl ?_
      refine lv_aload_n hx hb dX3_readElement_47 rfl (lv_at hl 0 rfl) ?_
      refine kg_X3_text hcf hK (kw_150 htk) dX3_readElement_48 hw ?_
      refine kg_X4_place hcf hK (kw_93 htk) (x := (σj38.1 1)) dX3_readElement_51 hw rfl ?_
      obtain ⟨σ9, k9, hE0⟩ := bd1_e hE0 hN0
      refine k_call (va_runV (As := [.int (-5 : Int32), .int (σj38.1 1)]) (rest := []) hcf (mX3_meet l D cs ad N σj38 (-5 : Int32) (σj38.1 1) σ9 k9) (kcX3_meet htk (kw_272 htk) ⟨Nat.le_of_ble_eq_true rfl, Nat.le_of_ble_eq_true rfl⟩) ⟨k_blind, va_recv (ci := 3) (q0 := 1) hK hw.1 rfl rfl, k_pre hK hZ hw⟩ rfl rfl hl.1 rfl (lv_room (Nat.le_of_ble_eq_true rfl)) dX3_readElement_54 ⟨Nat.zero_le _, Nat.zero_le _⟩) hw (fun H locs hw => ?_)
      exact kret_v hcf hr hlk hK hw (rt1 hR hE0) hQ0 dX3_readElement_57
  refine lv_aload_n hx hb dX3_readElement_0 rfl (lv_at hl 0 rfl) ?_
  refine kg_X3_text hcf hK (kw_150 htk) dX3_readElement_1 hw ?_
  refine lv_iconst (v := 1) hx hb dX3_readElement_4 rfl ?_
  obtain ⟨r1, k1, hE0⟩ := bd1_e hE0 hN0
  refine k_callP (va_runV (As := [.int (1 : Int32)]) (rest := []) hcf (mX4_ahead l D cs ad N σ (1 : Int32) r1 k1) (kcX4_ahead htk (kw_284 htk) ⟨Nat.le_of_ble_eq_true rfl, Nat.le_of_ble_eq_true rfl⟩) ⟨k_blind, va_recv (ci := 4) (q0 := 4) hK hw.1 rfl rfl, k_pre hK hZ hw⟩ rfl rfl hl.1 rfl (lv_room (Nat.le_of_ble_eq_true rfl)) dX3_readElement_5 ⟨Nat.zero_le _, Nat.zero_le _⟩) ?_
  refine lv_istore_n hx hb dX3_readElement_8 rfl hl (Nat.le_of_ble_eq_true rfl) rfl (fun ls (hl : lv_has ls 5 [(2, .int r1), (0, .ref (ad 1)), (1, .int p1)]) => ?_)
  refine lv_iload_n hx hb dX3_readElement_9 rfl (lv_at hl 0 rfl) ?_
  obtain ⟨r2, k2, hE0⟩ := bd1_e hE0 hN0
  refine k_callP (va_runSN (As := [.int r1]) (rest := []) hcf (mX5_isSmall l D cs ad N σ r1 r2 k2) (kcX5_isSmall htk (kn_7 hZ) ⟨Nat.le_of_ble_eq_true rfl, Nat.le_of_ble_eq_true rfl⟩) ⟨k_blind, k_pre hK hZ hw⟩ rfl rfl hl.1 rfl (lv_room (Nat.le_of_ble_eq_true rfl)) dX3_readElement_10 ⟨Nat.zero_le _, Nat.zero_le _⟩) ?_
  refine lv_istore_n hx hb dX3_readElement_13 rfl hl (Nat.le_of_ble_eq_true rfl) rfl (fun ls (hl : lv_has ls 5 [(3, .int r2), (2, .int r1), (0, .ref (ad 1)), (1, .int p1)]) => ?_)
  refine lv_aload_n hx hb dX3_readElement_14 rfl (lv_at hl 2 rfl) ?_
  refine kg_X3_equation hcf hK (kw_152 htk) dX3_readElement_15 hw ?_
  refine lv_iload_n hx hb dX3_readElement_18 rfl (lv_at hl 0 rfl) ?_
  refine lv_if_eq (tgt := 32) hx hb dX3_readElement_19 (by decide) (fun c12 => ?_) (fun c12 => ?_)
  · have hE0 := ite_t hE0 c12
    refine lv_iload_n hx hb dX3_readElement_32 rfl (lv_at hl 3 rfl) ?_
    obtain ⟨r3, σ3, k3, hE0⟩ := bd2_e hE0 hN0
    refine k_call (va_runV (As := [.int p1]) (rest := []) hcf (mX1_elementKind l D cs ad N σ p1 r3 σ3 k3) (kcX1_elementKind htk (kw_317 htk) ⟨Nat.le_of_ble_eq_true rfl, Nat.le_of_ble_eq_true rfl⟩) ⟨k_blind, va_recv (ci := 1) (q0 := 5) hK hw.1 rfl rfl, k_pre hK hZ hw⟩ rfl rfl hl.1 rfl (lv_room (Nat.le_of_ble_eq_true rfl)) dX3_readElement_33 ⟨Nat.zero_le _, Nat.zero_le _⟩) hw (fun H locs hw => ?_)
    refine lv_istore hx hb dX3_readElement_36 hl (Nat.le_of_ble_eq_true rfl) rfl (fun ls (hl : lv_has ls 5 [(4, .int r3), (3, .int r2), (2, .int r1), (0, .ref (ad 1)), (1, .int p1)]) => ?_)
    exact J38 r2 r3 σ3 H locs ls (lv_sub hl [3, 1, 0] rfl) hw hE0
  · have hE0 := ite_f hE0 c12
    refine lv_iload_n hx hb dX3_readElement_22 rfl (lv_at hl 3 rfl) ?_
    refine lv_sipush (v := 256) hx hb dX3_readElement_23 rfl ?_
    refine lv_iload_n hx hb dX3_readElement_26 rfl (lv_at hl 1 rfl) ?_
    refine lv_imul hx hb dX3_readElement_27 ?_
    refine lv_iadd hx hb dX3_readElement_28 ?_
    refine lv_goto (tgt := 33) hx hb dX3_readElement_29 (by decide) ?_
    obtain ⟨r11, σ11, k11, hE0⟩ := bd2_e hE0 hN0
    refine k_call (va_runV (As := [.int (p1 + ((256 : Int32) * r1))]) (rest := []) hcf (mX1_elementKind l D cs ad N σ (p1 + ((256 : Int32) * r1)) r11 σ11 k11) (kcX1_elementKind htk (kw_317 htk) ⟨Nat.le_of_ble_eq_true rfl, Nat.le_of_ble_eq_true rfl⟩) ⟨k_blind, va_recv (ci := 1) (q0 := 5) hK hw.1 rfl rfl, k_pre hK hZ hw⟩ rfl rfl hl.1 rfl (lv_room (Nat.le_of_ble_eq_true rfl)) dX3_readElement_33 ⟨Nat.zero_le _, Nat.zero_le _⟩) hw (fun H locs hw => ?_)
    refine lv_istore hx hb dX3_readElement_36 hl (Nat.le_of_ble_eq_true rfl) rfl (fun ls (hl : lv_has ls 5 [(4, .int r11), (3, .int r2), (2, .int r1), (0, .ref (ad 1)), (1, .int p1)]) => ?_)
    exact J38 r2 r11 σ11 H locs ls (lv_sub hl [3, 1, 0] rfl) hw hE0
def jX3_openGroup_54 (N : Nat) (σj54 : vS) : Option (vS) :=
  if ((σj54.1 8) < 0 ∨ 4 ≤ ((σj54.1 8)).toNatClampNeg) then none else
  bd1 (fJ0_fill N σj54 (1 + ((σj54.1 8)).toNatClampNeg) (0 : Int64)) fun σ3 =>
  some (p_i σ3 1 ((σ3.1 1) + (1 : Int32)))
def fX3_openGroup (N : Nat) (σ : vS) (p1 : Int32) : Option (vS) :=
  if ((σ.1 8) < (3 : Int32)) then (
    if (p1 = (40 : Int32)) then (
      if (((σ.1 8) + (1 : Int32)) < 0 ∨ 4 ≤ (((σ.1 8) + (1 : Int32))).toNatClampNeg) then none else
      jX3_openGroup_54 N (p_a (p_i σ 8 ((σ.1 8) + (1 : Int32))) 5 ((((σ.1 8) + (1 : Int32))).toNatClampNeg) (vp_nar .char (41 : Int32)))
    ) else (
      if (((σ.1 8) + (1 : Int32)) < 0 ∨ 4 ≤ (((σ.1 8) + (1 : Int32))).toNatClampNeg) then none else
      jX3_openGroup_54 N (p_a (p_i σ 8 ((σ.1 8) + (1 : Int32))) 5 ((((σ.1 8) + (1 : Int32))).toNatClampNeg) (vp_nar .char (93 : Int32)))
    )
  ) else (
    bd1 (fX3_meet N σ (-4 : Int32) (σ.1 1)) fun σ6 =>
    some σ6
  )
abbrev rmX3_openGroup : Room := { frames := 1, cells := 0, slots := 0, locals := 24 }
abbrev wsX3_openGroup : List Cond := .code yX3_openGroup cX3_openGroup 2 none :: kws
theorem kcX3_openGroup {R : Room} {s : State} {args : Array Value} {own : String} {index : Nat} (htk : ∀ w ∈ kws, w.before args s = true) (hl : (Cond.methodLink own index yX3_openGroup).before args s = true) (hR : rmX3_openGroup.frames + 1 ≤ R.frames ∧ 8 + (2 + 11) + rmX3_openGroup.locals ≤ R.locals) : CallW R s args own RX3 index yX3_openGroup cX3_openGroup 2 none wsX3_openGroup rmX3_openGroup 0 0 1 :=
  ⟨callB_of 1 htk (k_good kc_328) rfl rfl rfl (kw_53 htk) hl (by decide +kernel) hR, (kw_327 htk), (kw_7 htk)⟩
set_option maxRecDepth 100000 in
set_option maxHeartbeats 4000000 in
theorem mX3_openGroup (l : Launch) (D : va_G) (cs : Nat → ClassId) (ad : Nat → Nat) (N : Nat) (σ : vS) (p1 : Int32) (σ' : vS) (hf : fX3_openGroup N σ p1 = some σ') : k_Met l yX3_openGroup wsX3_openGroup rmX3_openGroup D (tK cs) (wK cs ad) (k_A 41 ad) [.ref (ad 1), .int p1] σ none σ' := by
  refine k_of (cc := cX3_openGroup) (maxL := 2) (ret := none) (by decide) rfl (Nat.le_of_ble_eq_true rfl) ?_
  intro p e s m args below meth c ls H locs hcf hr hlk hK hZ hl hw
  generalize hQ0 : MQ below _ args s 0 0 _ = Q0
  obtain ⟨T0, hE0⟩ : ∃ T, T = fX3_openGroup N σ p1 := ⟨_, rfl⟩
  have hR := hE0.trans hf
  have hN0 : T0 ≠ none := by rw [hR]; exact fun h => nomatch h
  have hx := hcf.1
  have hb := hcf.2.1
  have htk := hcf.2.2.2.2
  have hown := hcf.2.2.2.1
  unfold fX3_openGroup at hE0
  replace hl : lv_has ls 2 [(0, .ref (ad 1)), (1, .int p1)] := hl
  have J54 : ∀ (σj54 : vS) (H : Heap) (locs : List Loc) (ls : Array Slot), lv_has ls 2 [(0, .ref (ad 1))] → k_H D (wK cs ad) (k_A 41 ad) σj54 s.heap H locs → T0 = jX3_openGroup_54 N σj54 → W p l e rmX3_openGroup s m args below meth c H locs 0 0 Q0 (F0 m 54 ls []) := by
    intro σj54 H locs ls hl hw hE0
    unfold jX3_openGroup_54 at hE0
    refine lv_aload_n hx hb dX3_openGroup_54 rfl (lv_at hl 0 rfl) ?_
    refine kg_X3_sums hcf hK (kw_158 htk) dX3_openGroup_55 hw ?_
    refine lv_aload_n hx hb dX3_openGroup_58 rfl (lv_at hl 0 rfl) ?_
    refine kg_X3_depth hcf hK (kw_160 htk) (x := (σj54.1 8)) dX3_openGroup_59 hw rfl ?_
    obtain ⟨g2, hE0⟩ := gd_e hE0 hN0
    refine kaald_sums hcf hK dX3_openGroup_62 rfl g2 hw ?_
    refine lv_lconst (v := 0) hx hb dX3_openGroup_63 rfl ?_
    obtain ⟨σ3, k3, hE0⟩ := bd1_e hE0 hN0
    refine k_call (va_runS (As := [.ref (ad (25 + (1 + ((σj54.1 8)).toNatClampNeg))), .long (0 : Int64)]) (rest := []) hcf (mJ0_fill l D cs ad N σj54 (1 + ((σj54.1 8)).toNatClampNeg) (0 : Int64) σ3 k3 (rng_sums g2)) (kcJ0_fill htk (kw_269 htk) ⟨Nat.le_of_ble_eq_true rfl, Nat.le_of_ble_eq_true rfl⟩) ⟨k_blind, k_pre hK hZ hw⟩ rfl rfl hl.1 rfl (lv_room (Nat.le_of_ble_eq_true rfl)) dX3_openGroup_64 ⟨Nat.zero_le _, Nat.zero_le _⟩) hw (fun H locs hw => ?_)
    refine lv_aload_n hx hb dX3_openGroup_67 rfl (lv_at hl 0 rfl) ?_
    refine kg_X3_text hcf hK (kw_150 htk) dX3_openGroup_68 hw ?_
    refine lv_dup hx hb dX3_openGroup_71 rfl ?_
    refine kg_X4_place hcf hK (kw_93 htk) (x := (σ3.1 1)) dX3_openGroup_72 hw rfl ?_
    refine lv_iconst (v := 1) hx hb dX3_openGroup_75 rfl ?_
    refine lv_iadd hx hb dX3_openGroup_76 ?_
    refine kp_X4_place hcf hK (kw_93 htk) dX3_openGroup_77 hw (fun H locs hw => ?_)
    exact kret_v hcf hr hlk hK hw (rt1 hR hE0) hQ0 dX3_openGroup_80
  refine lv_aload_n hx hb dX3_openGroup_0 rfl (lv_at hl 0 rfl) ?_
  refine kg_X3_depth hcf hK (kw_160 htk) (x := (σ.1 8)) dX3_openGroup_1 hw rfl ?_
  refine lv_iconst (v := 3) hx hb dX3_openGroup_4 rfl ?_
  refine lv_icmp_lt (tgt := 22) hx hb dX3_openGroup_5 (by decide) (fun c7 => ?_) (fun c7 => ?_)
  · have hE0 := ite_t hE0 c7
    refine lv_aload_n hx hb dX3_openGroup_22 rfl (lv_at hl 0 rfl) ?_
    refine lv_dup hx hb dX3_openGroup_23 rfl ?_
    refine kg_X3_depth hcf hK (kw_160 htk) (x := (σ.1 8)) dX3_openGroup_24 hw rfl ?_
    refine lv_iconst (v := 1) hx hb dX3_openGroup_27 rfl ?_
    refine lv_iadd hx hb dX3_openGroup_28 ?_
    refine kp_X3_depth hcf hK (kw_160 htk) dX3_openGroup_29 hw (fun H locs hw => ?_)
    refine lv_aload_n hx hb dX3_openGroup_32 rfl (lv_at hl 0 rfl) ?_
    refine kg_X3_closings hcf hK (kw_159 htk) dX3_openGroup_33 hw ?_
    refine lv_aload_n hx hb dX3_openGroup_36 rfl (lv_at hl 0 rfl) ?_
    refine kg_X3_depth hcf hK (kw_160 htk) (x := ((σ.1 8) + (1 : Int32))) dX3_openGroup_37 hw rfl ?_
    refine lv_iload_n hx hb dX3_openGroup_40 rfl (lv_at hl 1 rfl) ?_
    refine lv_bipush (v := 40) hx hb dX3_openGroup_41 rfl ?_
    refine lv_icmp_ne (tgt := 51) hx hb dX3_openGroup_43 (by decide) (fun c5 => ?_) (fun c5 => ?_)
    · have hE0 := ite_f hE0 c5
      refine lv_bipush (v := 93) hx hb dX3_openGroup_51 rfl ?_
      obtain ⟨g1, hE0⟩ := gd_e hE0 hN0
      refine kast_A5 hcf hK dX3_openGroup_53 g1 hw (fun H locs hw => ?_)
      exact J54 (p_a (p_i σ 8 ((σ.1 8) + (1 : Int32))) 5 ((((σ.1 8) + (1 : Int32))).toNatClampNeg) (vp_nar .char (93 : Int32))) H locs ls (lv_sub hl [0] rfl) hw hE0
    · have hE0 := ite_t hE0 c5
      refine lv_bipush (v := 41) hx hb dX3_openGroup_46 rfl ?_
      refine lv_goto (tgt := 53) hx hb dX3_openGroup_48 (by decide) ?_
      obtain ⟨g4, hE0⟩ := gd_e hE0 hN0
      refine kast_A5 hcf hK dX3_openGroup_53 g4 hw (fun H locs hw => ?_)
      exact J54 (p_a (p_i σ 8 ((σ.1 8) + (1 : Int32))) 5 ((((σ.1 8) + (1 : Int32))).toNatClampNeg) (vp_nar .char (41 : Int32))) H locs ls (lv_sub hl [0] rfl) hw hE0
  · have hE0 := ite_f hE0 c7
    refine lv_aload_n hx hb dX3_openGroup_8 rfl (lv_at hl 0 rfl) ?_
    refine lv_bipush (v := -4) hx hb dX3_openGroup_9 rfl ?_
    refine lv_aload_n hx hb dX3_openGroup_11 rfl (lv_at hl 0 rfl) ?_
    refine kg_X3_text hcf hK (kw_150 htk) dX3_openGroup_12 hw ?_
    refine kg_X4_place hcf hK (kw_93 htk) (x := (σ.1 1)) dX3_openGroup_15 hw rfl ?_
    obtain ⟨σ6, k6, hE0⟩ := bd1_e hE0 hN0
    refine k_call (va_runV (As := [.int (-4 : Int32), .int (σ.1 1)]) (rest := []) hcf (mX3_meet l D cs ad N σ (-4 : Int32) (σ.1 1) σ6 k6) (kcX3_meet htk (kw_272 htk) ⟨Nat.le_of_ble_eq_true rfl, Nat.le_of_ble_eq_true rfl⟩) ⟨k_blind, va_recv (ci := 3) (q0 := 1) hK hw.1 rfl rfl, k_pre hK hZ hw⟩ rfl rfl hl.1 rfl (lv_room (Nat.le_of_ble_eq_true rfl)) dX3_openGroup_18 ⟨Nat.zero_le _, Nat.zero_le _⟩) hw (fun H locs hw => ?_)
    exact kret_v hcf hr hlk hK hw (rt1 hR hE0) hQ0 dX3_openGroup_21
def jX3_addTimes_25 (N : Nat) (b0 : Nat) (b1 : Nat) (σj25 : vS) : Option (vS) :=
  some σj25
def bX3_addTimes_2 (N : Nat) (b0 : Nat) (b1 : Nat) (p2 : Int32) (v3h2 : Int32) (σh2 : vS) : Option ((Int32 × vS) ⊕ (vS)) :=
  if ((5 : Int32) ≤ v3h2) then (
    some (.inr σh2)
  ) else (
    if (v3h2 < 0 ∨ (k_len b0) ≤ (v3h2).toNatClampNeg) then none else
    if (v3h2 < 0 ∨ (k_len b1) ≤ (v3h2).toNatClampNeg) then none else
    if (v3h2 < 0 ∨ (k_len b0) ≤ (v3h2).toNatClampNeg) then none else
    k_lt (v3h2 + (1 : Int32)) fun x4 =>
    some (.inl (x4, (p_b σh2 b0 ((v3h2).toNatClampNeg) ((σh2.2.2.2 b0 ((v3h2).toNatClampNeg)) + ((p2).toInt64 * (σh2.2.2.2 b1 ((v3h2).toNatClampNeg)))))))
  )
def fX3_addTimes (N : Nat) (σ : vS) (b0 : Nat) (b1 : Nat) (p2 : Int32) : Option (vS) :=
  bd1 (k_itr (fun zz => bX3_addTimes_2 N b0 b1 p2 zz.1 zz.2) N ((0 : Int32), σ)) fun q => jX3_addTimes_25 N b0 b1 q
abbrev rmX3_addTimes : Room := { frames := 0, cells := 0, slots := 0, locals := 0 }
abbrev wsX3_addTimes : List Cond := .code yX3_addTimes cX3_addTimes 4 none :: kws
theorem kcX3_addTimes {R : Room} {s : State} {args : Array Value} {own : String} {index : Nat} (htk : ∀ w ∈ kws, w.before args s = true) (hl : (Cond.methodLink own index yX3_addTimes).before args s = true) (hR : rmX3_addTimes.frames + 1 ≤ R.frames ∧ 8 + (4 + 11) + rmX3_addTimes.locals ≤ R.locals) : CallB R s args own index yX3_addTimes cX3_addTimes 4 none wsX3_addTimes rmX3_addTimes 0 0 3 ∧ (Cond.static yX3_addTimes).before args s = true :=
  ⟨callB_of 3 htk (k_good kc_335) rfl rfl rfl (kw_53 htk) hl (by decide +kernel) hR, (kw_334 htk)⟩
set_option maxRecDepth 100000 in
set_option maxHeartbeats 4000000 in
theorem mX3_addTimes (l : Launch) (D : va_G) (cs : Nat → ClassId) (ad : Nat → Nat) (N : Nat) (σ : vS) (b0 : Nat) (b1 : Nat) (p2 : Int32) (σ' : vS) (hf : fX3_addTimes N σ b0 b1 p2 = some σ') (h_b0 : b0 < 16) (h_b1 : b1 < 16) : k_Met l yX3_addTimes wsX3_addTimes rmX3_addTimes D (tK cs) (wK cs ad) (k_A 41 ad) [.ref (ad (25 + b0)), .ref (ad (25 + b1)), .int p2] σ none σ' := by
  refine k_of (cc := cX3_addTimes) (maxL := 4) (ret := none) (by decide) rfl (Nat.le_of_ble_eq_true rfl) ?_
  intro p e s m args below meth c ls H locs hcf hr hlk hK hZ hl hw
  generalize hQ0 : MQ below _ args s 0 0 _ = Q0
  obtain ⟨T0, hE0⟩ : ∃ T, T = fX3_addTimes N σ b0 b1 p2 := ⟨_, rfl⟩
  have hR := hE0.trans hf
  have hN0 : T0 ≠ none := by rw [hR]; exact fun h => nomatch h
  have hx := hcf.1
  have hb := hcf.2.1
  have htk := hcf.2.2.2.2
  have hown := hcf.2.2.2.1
  unfold fX3_addTimes at hE0
  replace hl : lv_has ls 4 [(0, .ref (ad (25 + b0))), (1, .ref (ad (25 + b1))), (2, .int p2)] := hl
  have J25 : ∀ (σj25 : vS) (H : Heap) (locs : List Loc) (ls : Array Slot), lv_has ls 4 [] → k_H D (wK cs ad) (k_A 41 ad) σj25 s.heap H locs → T0 = jX3_addTimes_25 N b0 b1 σj25 → W p l e rmX3_addTimes s m args below meth c H locs 0 0 Q0 (F0 m 25 ls []) := by
    intro σj25 H locs ls hl hw hE0
    unfold jX3_addTimes_25 at hE0
    exact kret_v hcf hr hlk hK hw (rt1 hR hE0) hQ0 dX3_addTimes_25
  refine lv_iconst (v := 0) hx hb dX3_addTimes_0 rfl ?_
  refine lv_istore_n hx hb dX3_addTimes_1 rfl hl (Nat.le_of_ble_eq_true rfl) rfl (fun ls (hl : lv_has ls 4 [(3, .int (0 : Int32)), (0, .ref (ad (25 + b0))), (1, .ref (ad (25 + b1))), (2, .int p2)]) => ?_)
  obtain ⟨q, hq, hE0⟩ := bd1_e hE0 hN0
  refine k_ind (P := fun zz => ∀ (H : Heap) (locs : List Loc) (ls : Array Slot), lv_has ls 4 [(0, .ref (ad (25 + b0))), (1, .ref (ad (25 + b1))), (2, .int p2), (3, .int zz.1)] → k_H D (wK cs ad) (k_A 41 ad) zz.2 s.heap H locs → W p l e rmX3_addTimes s m args below meth c H locs 0 0 Q0 (F0 m 2 ls [])) ?_ N _ hq H locs ls (lv_sub hl [1, 2, 3, 0] rfl) hw
  intro sX T1 hE1 hN1 hC1 hX1
  obtain ⟨v3h2, σh2⟩ := sX
  replace hE1 : T1 = bX3_addTimes_2 N b0 b1 p2 v3h2 σh2 := hE1
  unfold bX3_addTimes_2 at hE1
  intro H locs ls hl hw
  replace hl : lv_has ls 4 [(0, .ref (ad (25 + b0))), (1, .ref (ad (25 + b1))), (2, .int p2), (3, .int v3h2)] := hl
  replace hw : k_H D (wK cs ad) (k_A 41 ad) σh2 s.heap H locs := hw
  refine lv_iload_n hx hb dX3_addTimes_2 rfl (lv_at hl 3 rfl) ?_
  refine lv_iconst (v := 5) hx hb dX3_addTimes_3 rfl ?_
  refine lv_icmp_ge (tgt := 25) hx hb dX3_addTimes_4 (by decide) (fun c5 => ?_) (fun c5 => ?_)
  · have hE1 := ite_t hE1 c5
    have hq := hX1 _ hE1
    subst hq
    exact J25 σh2 H locs ls (lv_sub hl [] rfl) hw hE0
  · have hE1 := ite_f hE1 c5
    refine lv_aload_n hx hb dX3_addTimes_7 rfl (lv_at hl 0 rfl) ?_
    refine lv_iload_n hx hb dX3_addTimes_8 rfl (lv_at hl 3 rfl) ?_
    refine lv_dup2_11 hx hb dX3_addTimes_9 rfl rfl ?_
    obtain ⟨g1, hE1⟩ := gd_e hE1 hN1
    refine kald_B hcf hK (x := (σh2.2.2.2 b0 ((v3h2).toNatClampNeg))) dX3_addTimes_10 h_b0 g1 hw rfl ?_
    refine lv_iload_n hx hb dX3_addTimes_11 rfl (lv_at hl 2 rfl) ?_
    refine lv_i2l hx hb dX3_addTimes_12 rfl ?_
    refine lv_aload_n hx hb dX3_addTimes_13 rfl (lv_at hl 1 rfl) ?_
    refine lv_iload_n hx hb dX3_addTimes_14 rfl (lv_at hl 3 rfl) ?_
    obtain ⟨g2, hE1⟩ := gd_e hE1 hN1
    refine kald_B hcf hK (x := (σh2.2.2.2 b1 ((v3h2).toNatClampNeg))) dX3_addTimes_15 h_b1 g2 hw rfl ?_
    refine lv_lmul hx hb dX3_addTimes_16 ?_
    refine lv_ladd hx hb dX3_addTimes_17 ?_
    obtain ⟨g3, hE1⟩ := gd_e hE1 hN1
    refine kast_B hcf hK dX3_addTimes_18 h_b0 g3 hw (fun H locs hw => ?_)
    obtain ⟨x4, e_x4, hE1⟩ := k_lte hE1
    refine lv_iinc (k := 3) (v := x4) hx hb dX3_addTimes_19 hl rfl (Eq.symm e_x4) (Nat.le_of_ble_eq_true rfl) rfl (fun ls (hl : lv_has ls 4 [(3, .int x4), (0, .ref (ad (25 + b0))), (1, .ref (ad (25 + b1))), (2, .int p2)]) => ?_)
    refine lv_goto (tgt := 2) hx hb dX3_addTimes_22 (by decide) ?_
    exact hC1 _ hE1 H locs ls (lv_sub hl [1, 2, 3, 0] rfl) hw
def fX3_closeGroup (N : Nat) (σ : vS) : Option (vS) :=
  bd2 (fX3_readNumber N (p_i σ 1 ((σ.1 1) + (1 : Int32)))) fun r1 σ1 =>
  if (((σ1.1 8) - (1 : Int32)) < 0 ∨ 4 ≤ (((σ1.1 8) - (1 : Int32))).toNatClampNeg) then none else
  if ((((σ1.1 8) - (1 : Int32)) + (1 : Int32)) < 0 ∨ 4 ≤ ((((σ1.1 8) - (1 : Int32)) + (1 : Int32))).toNatClampNeg) then none else
  bd1 (fX3_addTimes N (p_i σ1 8 ((σ1.1 8) - (1 : Int32))) (1 + (((σ1.1 8) - (1 : Int32))).toNatClampNeg) (1 + ((((σ1.1 8) - (1 : Int32)) + (1 : Int32))).toNatClampNeg) r1) fun σ4 =>
  some σ4
abbrev rmX3_closeGroup : Room := { frames := 2, cells := 0, slots := 0, locals := 46 }
abbrev wsX3_closeGroup : List Cond := .code yX3_closeGroup cX3_closeGroup 2 none :: kws
theorem kcX3_closeGroup {R : Room} {s : State} {args : Array Value} {own : String} {index : Nat} (htk : ∀ w ∈ kws, w.before args s = true) (hl : (Cond.methodLink own index yX3_closeGroup).before args s = true) (hR : rmX3_closeGroup.frames + 1 ≤ R.frames ∧ 8 + (2 + 11) + rmX3_closeGroup.locals ≤ R.locals) : CallW R s args own RX3 index yX3_closeGroup cX3_closeGroup 2 none wsX3_closeGroup rmX3_closeGroup 0 0 0 :=
  ⟨callB_of 0 htk (k_good kc_332) rfl rfl rfl (kw_53 htk) hl (by decide +kernel) hR, (kw_331 htk), (kw_8 htk)⟩
set_option maxRecDepth 100000 in
set_option maxHeartbeats 4000000 in
theorem mX3_closeGroup (l : Launch) (D : va_G) (cs : Nat → ClassId) (ad : Nat → Nat) (N : Nat) (σ : vS) (σ' : vS) (hf : fX3_closeGroup N σ = some σ') : k_Met l yX3_closeGroup wsX3_closeGroup rmX3_closeGroup D (tK cs) (wK cs ad) (k_A 41 ad) [.ref (ad 1)] σ none σ' := by
  refine k_of (cc := cX3_closeGroup) (maxL := 2) (ret := none) (by decide) rfl (Nat.le_of_ble_eq_true rfl) ?_
  intro p e s m args below meth c ls H locs hcf hr hlk hK hZ hl hw
  generalize hQ0 : MQ below _ args s 0 0 _ = Q0
  obtain ⟨T0, hE0⟩ : ∃ T, T = fX3_closeGroup N σ := ⟨_, rfl⟩
  have hR := hE0.trans hf
  have hN0 : T0 ≠ none := by rw [hR]; exact fun h => nomatch h
  have hx := hcf.1
  have hb := hcf.2.1
  have htk := hcf.2.2.2.2
  have hown := hcf.2.2.2.1
  unfold fX3_closeGroup at hE0
  replace hl : lv_has ls 2 [(0, .ref (ad 1))] := hl
  refine lv_aload_n hx hb dX3_closeGroup_0 rfl (lv_at hl 0 rfl) ?_
  refine kg_X3_text hcf hK (kw_150 htk) dX3_closeGroup_1 hw ?_
  refine lv_dup hx hb dX3_closeGroup_4 rfl ?_
  refine kg_X4_place hcf hK (kw_93 htk) (x := (σ.1 1)) dX3_closeGroup_5 hw rfl ?_
  refine lv_iconst (v := 1) hx hb dX3_closeGroup_8 rfl ?_
  refine lv_iadd hx hb dX3_closeGroup_9 ?_
  refine kp_X4_place hcf hK (kw_93 htk) dX3_closeGroup_10 hw (fun H locs hw => ?_)
  refine lv_aload_n hx hb dX3_closeGroup_13 rfl (lv_at hl 0 rfl) ?_
  obtain ⟨r1, σ1, k1, hE0⟩ := bd2_e hE0 hN0
  refine k_call (va_runV (As := []) (rest := []) hcf (mX3_readNumber l D cs ad N (p_i σ 1 ((σ.1 1) + (1 : Int32))) r1 σ1 k1) (kcX3_readNumber htk (kw_296 htk) ⟨Nat.le_of_ble_eq_true rfl, Nat.le_of_ble_eq_true rfl⟩) ⟨k_blind, va_recv (ci := 3) (q0 := 1) hK hw.1 rfl rfl, k_pre hK hZ hw⟩ rfl rfl hl.1 rfl (lv_room (Nat.le_of_ble_eq_true rfl)) dX3_closeGroup_14 ⟨Nat.zero_le _, Nat.zero_le _⟩) hw (fun H locs hw => ?_)
  refine lv_istore_n hx hb dX3_closeGroup_17 rfl hl (Nat.le_of_ble_eq_true rfl) rfl (fun ls (hl : lv_has ls 2 [(1, .int r1), (0, .ref (ad 1))]) => ?_)
  refine lv_aload_n hx hb dX3_closeGroup_18 rfl (lv_at hl 1 rfl) ?_
  refine lv_dup hx hb dX3_closeGroup_19 rfl ?_
  refine kg_X3_depth hcf hK (kw_160 htk) (x := (σ1.1 8)) dX3_closeGroup_20 hw rfl ?_
  refine lv_iconst (v := 1) hx hb dX3_closeGroup_23 rfl ?_
  refine lv_isub hx hb dX3_closeGroup_24 ?_
  refine kp_X3_depth hcf hK (kw_160 htk) dX3_closeGroup_25 hw (fun H locs hw => ?_)
  refine lv_aload_n hx hb dX3_closeGroup_28 rfl (lv_at hl 1 rfl) ?_
  refine kg_X3_sums hcf hK (kw_158 htk) dX3_closeGroup_29 hw ?_
  refine lv_aload_n hx hb dX3_closeGroup_32 rfl (lv_at hl 1 rfl) ?_
  refine kg_X3_depth hcf hK (kw_160 htk) (x := ((σ1.1 8) - (1 : Int32))) dX3_closeGroup_33 hw rfl ?_
  obtain ⟨g2, hE0⟩ := gd_e hE0 hN0
  refine kaald_sums hcf hK dX3_closeGroup_36 rfl g2 hw ?_
  refine lv_aload_n hx hb dX3_closeGroup_37 rfl (lv_at hl 1 rfl) ?_
  refine kg_X3_sums hcf hK (kw_158 htk) dX3_closeGroup_38 hw ?_
  refine lv_aload_n hx hb dX3_closeGroup_41 rfl (lv_at hl 1 rfl) ?_
  refine kg_X3_depth hcf hK (kw_160 htk) (x := ((σ1.1 8) - (1 : Int32))) dX3_closeGroup_42 hw rfl ?_
  refine lv_iconst (v := 1) hx hb dX3_closeGroup_45 rfl ?_
  refine lv_iadd hx hb dX3_closeGroup_46 ?_
  obtain ⟨g3, hE0⟩ := gd_e hE0 hN0
  refine kaald_sums hcf hK dX3_closeGroup_47 rfl g3 hw ?_
  refine lv_iload_n hx hb dX3_closeGroup_48 rfl (lv_at hl 0 rfl) ?_
  obtain ⟨σ4, k4, hE0⟩ := bd1_e hE0 hN0
  refine k_call (va_runS (As := [.ref (ad (25 + (1 + (((σ1.1 8) - (1 : Int32))).toNatClampNeg))), .ref (ad (25 + (1 + ((((σ1.1 8) - (1 : Int32)) + (1 : Int32))).toNatClampNeg))), .int r1]) (rest := []) hcf (mX3_addTimes l D cs ad N (p_i σ1 8 ((σ1.1 8) - (1 : Int32))) (1 + (((σ1.1 8) - (1 : Int32))).toNatClampNeg) (1 + ((((σ1.1 8) - (1 : Int32)) + (1 : Int32))).toNatClampNeg) r1 σ4 k4 (rng_sums g2) (rng_sums g3)) (kcX3_addTimes htk (kw_333 htk) ⟨Nat.le_of_ble_eq_true rfl, Nat.le_of_ble_eq_true rfl⟩) ⟨k_blind, k_pre hK hZ hw⟩ rfl rfl hl.1 rfl (lv_room (Nat.le_of_ble_eq_true rfl)) dX3_closeGroup_49 ⟨Nat.zero_le _, Nat.zero_le _⟩) hw (fun H locs hw => ?_)
  exact kret_v hcf hr hlk hK hw (rt1 hR hE0) hQ0 dX3_closeGroup_52
def jX3_readUnits_141 (N : Nat) (σj141 : vS) (v1j141 : Int32) : Option (vS) :=
  if ((σj141.1 6) = 0) then (
    if (v1j141 = 0) then (
      if ((σj141.1 8) ≤ 0) then (
        some σj141
      ) else (
        bd1 (fX3_meet N σj141 (-2 : Int32) (σj141.1 1)) fun σ3 =>
        some σ3
      )
    ) else (
      bd1 (fX3_meet N σj141 (-2 : Int32) (σj141.1 1)) fun σ2 =>
      some σ2
    )
  ) else (
    some σj141
  )
def jX3_readUnits_118_21 (N : Nat) (σj118 : vS) (v1j118 : Int32) (v2j118 : Int32) (v3j118 : Int32) : Option ((Int32 × Int32 × Int32 × vS) ⊕ (Int32 × vS)) :=
  if (v2j118 = 0) then (
    k_lt (v3j118 + (1 : Int32)) fun x10 =>
    some (.inl (v1j118, (0 : Int32), x10, σj118))
  ) else (
    if ((σj118.1 6) = 0) then (
      k_lt (v3j118 + (1 : Int32)) fun x12 =>
      some (.inl (v1j118, (1 : Int32), x12, σj118))
    ) else (
      k_lt (v3j118 + (1 : Int32)) fun x11 =>
      some (.inl (v1j118, (0 : Int32), x11, σj118))
    )
  )
def jX3_readUnits_73_21 (N : Nat) (σj73 : vS) (v2j73 : Int32) (v3j73 : Int32) (v4j73 : Int32) : Option ((Int32 × Int32 × Int32 × vS) ⊕ (Int32 × vS)) :=
  bd1 (fX3_openGroup N σj73 v4j73) fun σ9 =>
  jX3_readUnits_118_21 N σ9 (1 : Int32) v2j73 v3j73
def jX3_readUnits_116_21 (N : Nat) (σj116 : vS) (v1j116 : Int32) (v3j116 : Int32) : Option ((Int32 × Int32 × Int32 × vS) ⊕ (Int32 × vS)) :=
  jX3_readUnits_118_21 N σj116 v1j116 (0 : Int32) v3j116
def bX3_readUnits_21 (N : Nat) (v1h21 : Int32) (v2h21 : Int32) (v3h21 : Int32) (σh21 : vS) : Option ((Int32 × Int32 × Int32 × vS) ⊕ (Int32 × vS)) :=
  if ((100 : Int32) ≤ v3h21) then (
    some (.inr (v1h21, σh21))
  ) else (
    if (v2h21 = 0) then (
      some (.inr (v1h21, σh21))
    ) else (
      bd1 (fX4_here N σh21) fun r7 =>
      bd1 (fX5_isCapital N σh21 r7) fun r8 =>
      if (r8 = 0) then (
        if (r7 = (40 : Int32)) then (
          jX3_readUnits_73_21 N σh21 v2h21 v3h21 r7
        ) else (
          if (r7 = (91 : Int32)) then (
            jX3_readUnits_73_21 N σh21 v2h21 v3h21 r7
          ) else (
            if ((σh21.1 8) ≤ 0) then (
              jX3_readUnits_116_21 N σh21 v1h21 v3h21
            ) else (
              if ((σh21.1 8) < 0 ∨ 4 ≤ ((σh21.1 8)).toNatClampNeg) then none else
              if (r7 = (σh21.2.1 5 (((σh21.1 8)).toNatClampNeg))) then (
                if (v1h21 = 0) then (
                  bd1 (fX3_closeGroup N σh21) fun σ16 =>
                  jX3_readUnits_118_21 N σ16 v1h21 v2h21 v3h21
                ) else (
                  jX3_readUnits_116_21 N σh21 v1h21 v3h21
                )
              ) else (
                jX3_readUnits_116_21 N σh21 v1h21 v3h21
              )
            )
          )
        )
      ) else (
        bd1 (fX3_readElement N σh21 r7) fun σ22 =>
        jX3_readUnits_118_21 N σ22 (0 : Int32) v2h21 v3h21
      )
    )
  )
def fX3_readUnits (N : Nat) (σ : vS) : Option (vS) :=
  bd1 (fJ0_fill N (p_i σ 8 (0 : Int32)) 1 (0 : Int64)) fun σ1 =>
  bd1 (k_itr (fun zz => bX3_readUnits_21 N zz.1 zz.2.1 zz.2.2.1 zz.2.2.2) N ((1 : Int32), (1 : Int32), (0 : Int32), σ1)) fun q => jX3_readUnits_141 N q.2 q.1
abbrev rmX3_readUnits : Room := { frames := 3, cells := 0, slots := 0, locals := 70 }
abbrev wsX3_readUnits : List Cond := .code yX3_readUnits cX3_readUnits 5 none :: kws
theorem kcX3_readUnits {R : Room} {s : State} {args : Array Value} {own : String} {index : Nat} (htk : ∀ w ∈ kws, w.before args s = true) (hl : (Cond.methodLink own index yX3_readUnits).before args s = true) (hR : rmX3_readUnits.frames + 1 ≤ R.frames ∧ 8 + (5 + 11) + rmX3_readUnits.locals ≤ R.locals) : CallW R s args own RX3 index yX3_readUnits cX3_readUnits 5 none wsX3_readUnits rmX3_readUnits 0 0 0 :=
  ⟨callB_of 0 htk (k_good kc_306) rfl rfl rfl (kw_53 htk) hl (by decide +kernel) hR, (kw_305 htk), (kw_5 htk)⟩
set_option maxRecDepth 100000 in
set_option maxHeartbeats 4000000 in
theorem mX3_readUnits (l : Launch) (D : va_G) (cs : Nat → ClassId) (ad : Nat → Nat) (N : Nat) (σ : vS) (σ' : vS) (hf : fX3_readUnits N σ = some σ') : k_Met l yX3_readUnits wsX3_readUnits rmX3_readUnits D (tK cs) (wK cs ad) (k_A 41 ad) [.ref (ad 1)] σ none σ' := by
  refine k_of (cc := cX3_readUnits) (maxL := 5) (ret := none) (by decide) rfl (Nat.le_of_ble_eq_true rfl) ?_
  intro p e s m args below meth c ls H locs hcf hr hlk hK hZ hl hw
  generalize hQ0 : MQ below _ args s 0 0 _ = Q0
  obtain ⟨T0, hE0⟩ : ∃ T, T = fX3_readUnits N σ := ⟨_, rfl⟩
  have hR := hE0.trans hf
  have hN0 : T0 ≠ none := by rw [hR]; exact fun h => nomatch h
  have hx := hcf.1
  have hb := hcf.2.1
  have htk := hcf.2.2.2.2
  have hown := hcf.2.2.2.1
  unfold fX3_readUnits at hE0
  replace hl : lv_has ls 5 [(0, .ref (ad 1))] := hl
  have J141 : ∀ (v1j141 : Int32) (σj141 : vS) (H : Heap) (locs : List Loc) (ls : Array Slot), lv_has ls 5 [(0, .ref (ad 1)), (1, .int v1j141)] → k_H D (wK cs ad) (k_A 41 ad) σj141 s.heap H locs → T0 = jX3_readUnits_141 N σj141 v1j141 → W p l e rmX3_readUnits s m args below meth c H locs 0 0 Q0 (F0 m 141 ls []) := by
    intro v1j141 σj141 H locs ls hl hw hE0
    unfold jX3_readUnits_141 at hE0
    refine lv_aload_n hx hb dX3_readUnits_141 rfl (lv_at hl 0 rfl) ?_
    refine kg_X3_fault hcf hK (kw_154 htk) (x := (σj141.1 6)) dX3_readUnits_142 hw rfl ?_
    refine lv_if_ne (tgt := 172) hx hb dX3_readUnits_145 (by decide) (fun c6 => ?_) (fun c6 => ?_)
    · have hE0 := ite_f hE0 c6
      exact kret_v hcf hr hlk hK hw (rt1 hR hE0) hQ0 dX3_readUnits_172
    · have hE0 := ite_t hE0 c6
      refine lv_iload_n hx hb dX3_readUnits_148 rfl (lv_at hl 1 rfl) ?_
      refine lv_if_ne (tgt := 159) hx hb dX3_readUnits_149 (by decide) (fun c5 => ?_) (fun c5 => ?_)
      · have hE0 := ite_f hE0 c5
        refine lv_aload_n hx hb dX3_readUnits_159 rfl (lv_at hl 0 rfl) ?_
        refine lv_bipush (v := -2) hx hb dX3_readUnits_160 rfl ?_
        refine lv_aload_n hx hb dX3_readUnits_162 rfl (lv_at hl 0 rfl) ?_
        refine kg_X3_text hcf hK (kw_150 htk) dX3_readUnits_163 hw ?_
        refine kg_X4_place hcf hK (kw_93 htk) (x := (σj141.1 1)) dX3_readUnits_166 hw rfl ?_
        obtain ⟨σ2, k2, hE0⟩ := bd1_e hE0 hN0
        refine k_call (va_runV (As := [.int (-2 : Int32), .int (σj141.1 1)]) (rest := []) hcf (mX3_meet l D cs ad N σj141 (-2 : Int32) (σj141.1 1) σ2 k2) (kcX3_meet htk (kw_272 htk) ⟨Nat.le_of_ble_eq_true rfl, Nat.le_of_ble_eq_true rfl⟩) ⟨k_blind, va_recv (ci := 3) (q0 := 1) hK hw.1 rfl rfl, k_pre hK hZ hw⟩ rfl rfl hl.1 rfl (lv_room (Nat.le_of_ble_eq_true rfl)) dX3_readUnits_169 ⟨Nat.zero_le _, Nat.zero_le _⟩) hw (fun H locs hw => ?_)
        exact kret_v hcf hr hlk hK hw (rt1 hR hE0) hQ0 dX3_readUnits_172
      · have hE0 := ite_t hE0 c5
        refine lv_aload_n hx hb dX3_readUnits_152 rfl (lv_at hl 0 rfl) ?_
        refine kg_X3_depth hcf hK (kw_160 htk) (x := (σj141.1 8)) dX3_readUnits_153 hw rfl ?_
        refine lv_if_le (tgt := 172) hx hb dX3_readUnits_156 (by decide) (fun c4 => ?_) (fun c4 => ?_)
        · have hE0 := ite_t hE0 c4
          exact kret_v hcf hr hlk hK hw (rt1 hR hE0) hQ0 dX3_readUnits_172
        · have hE0 := ite_f hE0 c4
          refine lv_aload_n hx hb dX3_readUnits_159 rfl (lv_at hl 0 rfl) ?_
          refine lv_bipush (v := -2) hx hb dX3_readUnits_160 rfl ?_
          refine lv_aload_n hx hb dX3_readUnits_162 rfl (lv_at hl 0 rfl) ?_
          refine kg_X3_text hcf hK (kw_150 htk) dX3_readUnits_163 hw ?_
          refine kg_X4_place hcf hK (kw_93 htk) (x := (σj141.1 1)) dX3_readUnits_166 hw rfl ?_
          obtain ⟨σ3, k3, hE0⟩ := bd1_e hE0 hN0
          refine k_call (va_runV (As := [.int (-2 : Int32), .int (σj141.1 1)]) (rest := []) hcf (mX3_meet l D cs ad N σj141 (-2 : Int32) (σj141.1 1) σ3 k3) (kcX3_meet htk (kw_272 htk) ⟨Nat.le_of_ble_eq_true rfl, Nat.le_of_ble_eq_true rfl⟩) ⟨k_blind, va_recv (ci := 3) (q0 := 1) hK hw.1 rfl rfl, k_pre hK hZ hw⟩ rfl rfl hl.1 rfl (lv_room (Nat.le_of_ble_eq_true rfl)) dX3_readUnits_169 ⟨Nat.zero_le _, Nat.zero_le _⟩) hw (fun H locs hw => ?_)
          exact kret_v hcf hr hlk hK hw (rt1 hR hE0) hQ0 dX3_readUnits_172
  refine lv_aload_n hx hb dX3_readUnits_0 rfl (lv_at hl 0 rfl) ?_
  refine lv_iconst (v := 0) hx hb dX3_readUnits_1 rfl ?_
  refine kp_X3_depth hcf hK (kw_160 htk) dX3_readUnits_2 hw (fun H locs hw => ?_)
  refine lv_aload_n hx hb dX3_readUnits_5 rfl (lv_at hl 0 rfl) ?_
  refine kg_X3_sums hcf hK (kw_158 htk) dX3_readUnits_6 hw ?_
  refine lv_iconst (v := 0) hx hb dX3_readUnits_9 rfl ?_
  refine kaald_sums hcf hK (k := 26) dX3_readUnits_10 (by decide) (by decide) hw ?_
  refine lv_lconst (v := 0) hx hb dX3_readUnits_11 rfl ?_
  obtain ⟨σ1, k1, hE0⟩ := bd1_e hE0 hN0
  refine k_call (va_runS (As := [.ref (ad 26), .long (0 : Int64)]) (rest := []) hcf (mJ0_fill l D cs ad N (p_i σ 8 (0 : Int32)) 1 (0 : Int64) σ1 k1 (by decide)) (kcJ0_fill htk (kw_269 htk) ⟨Nat.le_of_ble_eq_true rfl, Nat.le_of_ble_eq_true rfl⟩) ⟨k_blind, k_pre hK hZ hw⟩ rfl rfl hl.1 rfl (lv_room (Nat.le_of_ble_eq_true rfl)) dX3_readUnits_12 ⟨Nat.zero_le _, Nat.zero_le _⟩) hw (fun H locs hw => ?_)
  refine lv_iconst (v := 1) hx hb dX3_readUnits_15 rfl ?_
  refine lv_istore_n hx hb dX3_readUnits_16 rfl hl (Nat.le_of_ble_eq_true rfl) rfl (fun ls (hl : lv_has ls 5 [(1, .int (1 : Int32)), (0, .ref (ad 1))]) => ?_)
  refine lv_iconst (v := 1) hx hb dX3_readUnits_17 rfl ?_
  refine lv_istore_n hx hb dX3_readUnits_18 rfl hl (Nat.le_of_ble_eq_true rfl) rfl (fun ls (hl : lv_has ls 5 [(2, .int (1 : Int32)), (1, .int (1 : Int32)), (0, .ref (ad 1))]) => ?_)
  refine lv_iconst (v := 0) hx hb dX3_readUnits_19 rfl ?_
  refine lv_istore_n hx hb dX3_readUnits_20 rfl hl (Nat.le_of_ble_eq_true rfl) rfl (fun ls (hl : lv_has ls 5 [(3, .int (0 : Int32)), (2, .int (1 : Int32)), (1, .int (1 : Int32)), (0, .ref (ad 1))]) => ?_)
  obtain ⟨q, hq, hE0⟩ := bd1_e hE0 hN0
  refine k_ind (P := fun zz => ∀ (H : Heap) (locs : List Loc) (ls : Array Slot), lv_has ls 5 [(0, .ref (ad 1)), (1, .int zz.1), (2, .int zz.2.1), (3, .int zz.2.2.1)] → k_H D (wK cs ad) (k_A 41 ad) zz.2.2.2 s.heap H locs → W p l e rmX3_readUnits s m args below meth c H locs 0 0 Q0 (F0 m 21 ls [])) ?_ N _ hq H locs ls (lv_sub hl [3, 2, 1, 0] rfl) hw
  intro sX T1 hE1 hN1 hC1 hX1
  obtain ⟨v1h21, v2h21, v3h21, σh21⟩ := sX
  replace hE1 : T1 = bX3_readUnits_21 N v1h21 v2h21 v3h21 σh21 := hE1
  unfold bX3_readUnits_21 at hE1
  have J118_21 : ∀ (v1j118 : Int32) (v2j118 : Int32) (v3j118 : Int32) (σj118 : vS) (H : Heap) (locs : List Loc) (ls : Array Slot), lv_has ls 5 [(0, .ref (ad 1)), (1, .int v1j118), (2, .int v2j118), (3, .int v3j118)] → k_H D (wK cs ad) (k_A 41 ad) σj118 s.heap H locs → T1 = jX3_readUnits_118_21 N σj118 v1j118 v2j118 v3j118 → W p l e rmX3_readUnits s m args below meth c H locs 0 0 Q0 (F0 m 118 ls []) := by
    intro v1j118 v2j118 v3j118 σj118 H locs ls hl hw hE1
    unfold jX3_readUnits_118_21 at hE1
    refine lv_iload_n hx hb dX3_readUnits_118 rfl (lv_at hl 2 rfl) ?_
    refine lv_if_eq (tgt := 133) hx hb dX3_readUnits_119 (by decide) (fun c14 => ?_) (fun c14 => ?_)
    · have hE1 := ite_t hE1 c14
      refine lv_iconst (v := 0) hx hb dX3_readUnits_133 rfl ?_
      refine lv_istore_n hx hb dX3_readUnits_134 rfl hl (Nat.le_of_ble_eq_true rfl) rfl (fun ls (hl : lv_has ls 5 [(2, .int (0 : Int32)), (0, .ref (ad 1)), (1, .int v1j118), (3, .int v3j118)]) => ?_)
      obtain ⟨x10, e_x10, hE1⟩ := k_lte hE1
      refine lv_iinc (k := 3) (v := x10) hx hb dX3_readUnits_135 hl rfl (Eq.symm e_x10) (Nat.le_of_ble_eq_true rfl) rfl (fun ls (hl : lv_has ls 5 [(3, .int x10), (2, .int (0 : Int32)), (0, .ref (ad 1)), (1, .int v1j118)]) => ?_)
      refine lv_goto (tgt := 21) hx hb dX3_readUnits_138 (by decide) ?_
      exact hC1 _ hE1 H locs ls (lv_sub hl [2, 3, 1, 0] rfl) hw
    · have hE1 := ite_f hE1 c14
      refine lv_aload_n hx hb dX3_readUnits_122 rfl (lv_at hl 0 rfl) ?_
      refine kg_X3_fault hcf hK (kw_154 htk) (x := (σj118.1 6)) dX3_readUnits_123 hw rfl ?_
      refine lv_if_ne (tgt := 133) hx hb dX3_readUnits_126 (by decide) (fun c13 => ?_) (fun c13 => ?_)
      · have hE1 := ite_f hE1 c13
        refine lv_iconst (v := 0) hx hb dX3_readUnits_133 rfl ?_
        refine lv_istore_n hx hb dX3_readUnits_134 rfl hl (Nat.le_of_ble_eq_true rfl) rfl (fun ls (hl : lv_has ls 5 [(2, .int (0 : Int32)), (0, .ref (ad 1)), (1, .int v1j118), (3, .int v3j118)]) => ?_)
        obtain ⟨x11, e_x11, hE1⟩ := k_lte hE1
        refine lv_iinc (k := 3) (v := x11) hx hb dX3_readUnits_135 hl rfl (Eq.symm e_x11) (Nat.le_of_ble_eq_true rfl) rfl (fun ls (hl : lv_has ls 5 [(3, .int x11), (2, .int (0 : Int32)), (0, .ref (ad 1)), (1, .int v1j118)]) => ?_)
        refine lv_goto (tgt := 21) hx hb dX3_readUnits_138 (by decide) ?_
        exact hC1 _ hE1 H locs ls (lv_sub hl [2, 3, 1, 0] rfl) hw
      · have hE1 := ite_t hE1 c13
        refine lv_iconst (v := 1) hx hb dX3_readUnits_129 rfl ?_
        refine lv_goto (tgt := 134) hx hb dX3_readUnits_130 (by decide) ?_
        refine lv_istore_n hx hb dX3_readUnits_134 rfl hl (Nat.le_of_ble_eq_true rfl) rfl (fun ls (hl : lv_has ls 5 [(2, .int (1 : Int32)), (0, .ref (ad 1)), (1, .int v1j118), (3, .int v3j118)]) => ?_)
        obtain ⟨x12, e_x12, hE1⟩ := k_lte hE1
        refine lv_iinc (k := 3) (v := x12) hx hb dX3_readUnits_135 hl rfl (Eq.symm e_x12) (Nat.le_of_ble_eq_true rfl) rfl (fun ls (hl : lv_has ls 5 [(3, .int x12), (2, .int (1 : Int32)), (0, .ref (ad 1)), (1, .int v1j118)]) => ?_)
        refine lv_goto (tgt := 21) hx hb dX3_readUnits_138 (by decide) ?_
        exact hC1 _ hE1 H locs ls (lv_sub hl [2, 3, 1, 0] rfl) hw
  have J73_21 : ∀ (v2j73 : Int32) (v3j73 : Int32) (v4j73 : Int32) (σj73 : vS) (H : Heap) (locs : List Loc) (ls : Array Slot), lv_has ls 5 [(0, .ref (ad 1)), (2, .int v2j73), (3, .int v3j73), (4, .int v4j73)] → k_H D (wK cs ad) (k_A 41 ad) σj73 s.heap H locs → T1 = jX3_readUnits_73_21 N σj73 v2j73 v3j73 v4j73 → W p l e rmX3_readUnits s m args below meth c H locs 0 0 Q0 (F0 m 73 ls []) := by
    intro v2j73 v3j73 v4j73 σj73 H locs ls hl hw hE1
    unfold jX3_readUnits_73_21 at hE1
    refine lv_aload_n hx hb dX3_readUnits_73 rfl (lv_at hl 0 rfl) ?_
    refine lv_iload hx hb dX3_readUnits_74 (lv_at hl 3 rfl) ?_
    obtain ⟨σ9, k9, hE1⟩ := bd1_e hE1 hN1
    refine k_call (va_runV (As := [.int v4j73]) (rest := []) hcf (mX3_openGroup l D cs ad N σj73 v4j73 σ9 k9) (kcX3_openGroup htk (kw_325 htk) ⟨Nat.le_of_ble_eq_true rfl, Nat.le_of_ble_eq_true rfl⟩) ⟨k_blind, va_recv (ci := 3) (q0 := 1) hK hw.1 rfl rfl, k_pre hK hZ hw⟩ rfl rfl hl.1 rfl (lv_room (Nat.le_of_ble_eq_true rfl)) dX3_readUnits_76 ⟨Nat.zero_le _, Nat.zero_le _⟩) hw (fun H locs hw => ?_)
    refine lv_iconst (v := 1) hx hb dX3_readUnits_79 rfl ?_
    refine lv_istore_n hx hb dX3_readUnits_80 rfl hl (Nat.le_of_ble_eq_true rfl) rfl (fun ls (hl : lv_has ls 5 [(1, .int (1 : Int32)), (0, .ref (ad 1)), (2, .int v2j73), (3, .int v3j73), (4, .int v4j73)]) => ?_)
    refine lv_goto (tgt := 118) hx hb dX3_readUnits_81 (by decide) ?_
    exact J118_21 (1 : Int32) v2j73 v3j73 σ9 H locs ls (lv_sub hl [1, 0, 2, 3] rfl) hw hE1
  have J116_21 : ∀ (v1j116 : Int32) (v3j116 : Int32) (σj116 : vS) (H : Heap) (locs : List Loc) (ls : Array Slot), lv_has ls 5 [(0, .ref (ad 1)), (1, .int v1j116), (3, .int v3j116)] → k_H D (wK cs ad) (k_A 41 ad) σj116 s.heap H locs → T1 = jX3_readUnits_116_21 N σj116 v1j116 v3j116 → W p l e rmX3_readUnits s m args below meth c H locs 0 0 Q0 (F0 m 116 ls []) := by
    intro v1j116 v3j116 σj116 H locs ls hl hw hE1
    unfold jX3_readUnits_116_21 at hE1
    refine lv_iconst (v := 0) hx hb dX3_readUnits_116 rfl ?_
    refine lv_istore_n hx hb dX3_readUnits_117 rfl hl (Nat.le_of_ble_eq_true rfl) rfl (fun ls (hl : lv_has ls 5 [(2, .int (0 : Int32)), (0, .ref (ad 1)), (1, .int v1j116), (3, .int v3j116)]) => ?_)
    exact J118_21 v1j116 (0 : Int32) v3j116 σj116 H locs ls (lv_sub hl [1, 2, 0, 3] rfl) hw hE1
  intro H locs ls hl hw
  replace hl : lv_has ls 5 [(0, .ref (ad 1)), (1, .int v1h21), (2, .int v2h21), (3, .int v3h21)] := hl
  replace hw : k_H D (wK cs ad) (k_A 41 ad) σh21 s.heap H locs := hw
  refine lv_iload_n hx hb dX3_readUnits_21 rfl (lv_at hl 3 rfl) ?_
  refine lv_bipush (v := 100) hx hb dX3_readUnits_22 rfl ?_
  refine lv_icmp_ge (tgt := 141) hx hb dX3_readUnits_24 (by decide) (fun c25 => ?_) (fun c25 => ?_)
  · have hE1 := ite_t hE1 c25
    have hq := hX1 _ hE1
    subst hq
    exact J141 v1h21 σh21 H locs ls (lv_sub hl [0, 1] rfl) hw hE0
  · have hE1 := ite_f hE1 c25
    refine lv_iload_n hx hb dX3_readUnits_27 rfl (lv_at hl 2 rfl) ?_
    refine lv_if_eq (tgt := 141) hx hb dX3_readUnits_28 (by decide) (fun c24 => ?_) (fun c24 => ?_)
    · have hE1 := ite_t hE1 c24
      have hq := hX1 _ hE1
      subst hq
      exact J141 v1h21 σh21 H locs ls (lv_sub hl [0, 1] rfl) hw hE0
    · have hE1 := ite_f hE1 c24
      refine lv_aload_n hx hb dX3_readUnits_31 rfl (lv_at hl 0 rfl) ?_
      refine kg_X3_text hcf hK (kw_150 htk) dX3_readUnits_32 hw ?_
      obtain ⟨r7, k7, hE1⟩ := bd1_e hE1 hN1
      refine k_callP (va_runV (As := []) (rest := []) hcf (mX4_here l D cs ad N σh21 r7 k7) (kcX4_here htk (kw_276 htk) ⟨Nat.le_of_ble_eq_true rfl, Nat.le_of_ble_eq_true rfl⟩) ⟨k_blind, va_recv (ci := 4) (q0 := 4) hK hw.1 rfl rfl, k_pre hK hZ hw⟩ rfl rfl hl.1 rfl (lv_room (Nat.le_of_ble_eq_true rfl)) dX3_readUnits_35 ⟨Nat.zero_le _, Nat.zero_le _⟩) ?_
      refine lv_istore hx hb dX3_readUnits_38 hl (Nat.le_of_ble_eq_true rfl) rfl (fun ls (hl : lv_has ls 5 [(4, .int r7), (0, .ref (ad 1)), (1, .int v1h21), (2, .int v2h21), (3, .int v3h21)]) => ?_)
      refine lv_iload hx hb dX3_readUnits_40 (lv_at hl 0 rfl) ?_
      obtain ⟨r8, k8, hE1⟩ := bd1_e hE1 hN1
      refine k_callP (va_runSN (As := [.int r7]) (rest := []) hcf (mX5_isCapital l D cs ad N σh21 r7 r8 k8) (kcX5_isCapital htk (kn_6 hZ) ⟨Nat.le_of_ble_eq_true rfl, Nat.le_of_ble_eq_true rfl⟩) ⟨k_blind, k_pre hK hZ hw⟩ rfl rfl hl.1 rfl (lv_room (Nat.le_of_ble_eq_true rfl)) dX3_readUnits_42 ⟨Nat.zero_le _, Nat.zero_le _⟩) ?_
      refine lv_if_eq (tgt := 59) hx hb dX3_readUnits_45 (by decide) (fun c23 => ?_) (fun c23 => ?_)
      · have hE1 := ite_t hE1 c23
        refine lv_iload hx hb dX3_readUnits_59 (lv_at hl 0 rfl) ?_
        refine lv_bipush (v := 40) hx hb dX3_readUnits_61 rfl ?_
        refine lv_icmp_eq (tgt := 73) hx hb dX3_readUnits_63 (by decide) (fun c21 => ?_) (fun c21 => ?_)
        · have hE1 := ite_t hE1 c21
          exact J73_21 v2h21 v3h21 r7 σh21 H locs ls (lv_sub hl [1, 3, 4, 0] rfl) hw hE1
        · have hE1 := ite_f hE1 c21
          refine lv_iload hx hb dX3_readUnits_66 (lv_at hl 0 rfl) ?_
          refine lv_bipush (v := 91) hx hb dX3_readUnits_68 rfl ?_
          refine lv_icmp_ne (tgt := 84) hx hb dX3_readUnits_70 (by decide) (fun c20 => ?_) (fun c20 => ?_)
          · have hE1 := ite_f hE1 c20
            refine lv_aload_n hx hb dX3_readUnits_84 rfl (lv_at hl 1 rfl) ?_
            refine kg_X3_depth hcf hK (kw_160 htk) (x := (σh21.1 8)) dX3_readUnits_85 hw rfl ?_
            refine lv_if_le (tgt := 116) hx hb dX3_readUnits_88 (by decide) (fun c19 => ?_) (fun c19 => ?_)
            · have hE1 := ite_t hE1 c19
              exact J116_21 v1h21 v3h21 σh21 H locs ls (lv_sub hl [1, 2, 4] rfl) hw hE1
            · have hE1 := ite_f hE1 c19
              refine lv_iload hx hb dX3_readUnits_91 (lv_at hl 0 rfl) ?_
              refine lv_aload_n hx hb dX3_readUnits_93 rfl (lv_at hl 1 rfl) ?_
              refine kg_X3_closings hcf hK (kw_159 htk) dX3_readUnits_94 hw ?_
              refine lv_aload_n hx hb dX3_readUnits_97 rfl (lv_at hl 1 rfl) ?_
              refine kg_X3_depth hcf hK (kw_160 htk) (x := (σh21.1 8)) dX3_readUnits_98 hw rfl ?_
              obtain ⟨g15, hE1⟩ := gd_e hE1 hN1
              refine kald_A5 hcf hK (x := (σh21.2.1 5 (((σh21.1 8)).toNatClampNeg))) dX3_readUnits_101 g15 hw rfl ?_
              refine lv_icmp_ne (tgt := 116) hx hb dX3_readUnits_102 (by decide) (fun c18 => ?_) (fun c18 => ?_)
              · have hE1 := ite_f hE1 c18
                exact J116_21 v1h21 v3h21 σh21 H locs ls (lv_sub hl [1, 2, 4] rfl) hw hE1
              · have hE1 := ite_t hE1 c18
                refine lv_iload_n hx hb dX3_readUnits_105 rfl (lv_at hl 2 rfl) ?_
                refine lv_if_ne (tgt := 116) hx hb dX3_readUnits_106 (by decide) (fun c17 => ?_) (fun c17 => ?_)
                · have hE1 := ite_f hE1 c17
                  exact J116_21 v1h21 v3h21 σh21 H locs ls (lv_sub hl [1, 2, 4] rfl) hw hE1
                · have hE1 := ite_t hE1 c17
                  refine lv_aload_n hx hb dX3_readUnits_109 rfl (lv_at hl 1 rfl) ?_
                  obtain ⟨σ16, k16, hE1⟩ := bd1_e hE1 hN1
                  refine k_call (va_runV (As := []) (rest := []) hcf (mX3_closeGroup l D cs ad N σh21 σ16 k16) (kcX3_closeGroup htk (kw_329 htk) ⟨Nat.le_of_ble_eq_true rfl, Nat.le_of_ble_eq_true rfl⟩) ⟨k_blind, va_recv (ci := 3) (q0 := 1) hK hw.1 rfl rfl, k_pre hK hZ hw⟩ rfl rfl hl.1 rfl (lv_room (Nat.le_of_ble_eq_true rfl)) dX3_readUnits_110 ⟨Nat.zero_le _, Nat.zero_le _⟩) hw (fun H locs hw => ?_)
                  refine lv_goto (tgt := 118) hx hb dX3_readUnits_113 (by decide) ?_
                  exact J118_21 v1h21 v2h21 v3h21 σ16 H locs ls (lv_sub hl [1, 2, 3, 4] rfl) hw hE1
          · have hE1 := ite_t hE1 c20
            exact J73_21 v2h21 v3h21 r7 σh21 H locs ls (lv_sub hl [1, 3, 4, 0] rfl) hw hE1
      · have hE1 := ite_f hE1 c23
        refine lv_aload_n hx hb dX3_readUnits_48 rfl (lv_at hl 1 rfl) ?_
        refine lv_iload hx hb dX3_readUnits_49 (lv_at hl 0 rfl) ?_
        obtain ⟨σ22, k22, hE1⟩ := bd1_e hE1 hN1
        refine k_call (va_runV (As := [.int r7]) (rest := []) hcf (mX3_readElement l D cs ad N σh21 r7 σ22 k22) (kcX3_readElement htk (kw_310 htk) ⟨Nat.le_of_ble_eq_true rfl, Nat.le_of_ble_eq_true rfl⟩) ⟨k_blind, va_recv (ci := 3) (q0 := 1) hK hw.1 rfl rfl, k_pre hK hZ hw⟩ rfl rfl hl.1 rfl (lv_room (Nat.le_of_ble_eq_true rfl)) dX3_readUnits_51 ⟨Nat.zero_le _, Nat.zero_le _⟩) hw (fun H locs hw => ?_)
        refine lv_iconst (v := 0) hx hb dX3_readUnits_54 rfl ?_
        refine lv_istore_n hx hb dX3_readUnits_55 rfl hl (Nat.le_of_ble_eq_true rfl) rfl (fun ls (hl : lv_has ls 5 [(1, .int (0 : Int32)), (4, .int r7), (0, .ref (ad 1)), (2, .int v2h21), (3, .int v3h21)]) => ?_)
        refine lv_goto (tgt := 118) hx hb dX3_readUnits_56 (by decide) ?_
        exact J118_21 (0 : Int32) v2h21 v3h21 σ22 H locs ls (lv_sub hl [2, 0, 3, 4] rfl) hw hE1
def jX3_readCharge_84 (N : Nat) (σj84 : vS) (v1j84 : Int32) (v2j84 : Int32) : Option (vS) :=
  if (v2j84 = (43 : Int32)) then (
    some (p_i (p_i σj84 9 v1j84) 1 ((σj84.1 1) + (1 : Int32)))
  ) else (
    some (p_i (p_i σj84 9 (-v1j84)) 1 ((σj84.1 1) + (1 : Int32)))
  )
def fX3_readCharge (N : Nat) (σ : vS) : Option (vS) :=
  bd2 (fX1_admitCharge N σ) fun r1 σ1 =>
  if (r1 = 0) then (
    bd1 (fX3_meet N σ1 (-5 : Int32) (σ1.1 1)) fun σ9 =>
    some σ9
  ) else (
    bd2 (fX3_readNumber N (p_i σ1 1 ((σ1.1 1) + (1 : Int32)))) fun r2 σ2 =>
    if ((σ2.1 6) = 0) then (
      bd1 (fX4_here N σ2) fun r3 =>
      if (r3 = (43 : Int32)) then (
        jX3_readCharge_84 N σ2 r2 r3
      ) else (
        if (r3 = (45 : Int32)) then (
          jX3_readCharge_84 N σ2 r2 r3
        ) else (
          bd1 (fX3_meet N σ2 (-2 : Int32) (σ2.1 1)) fun σ5 =>
          some σ5
        )
      )
    ) else (
      some σ2
    )
  )
abbrev rmX3_readCharge : Room := { frames := 2, cells := 0, slots := 0, locals := 46 }
abbrev wsX3_readCharge : List Cond := .code yX3_readCharge cX3_readCharge 3 none :: kws
theorem kcX3_readCharge {R : Room} {s : State} {args : Array Value} {own : String} {index : Nat} (htk : ∀ w ∈ kws, w.before args s = true) (hl : (Cond.methodLink own index yX3_readCharge).before args s = true) (hR : rmX3_readCharge.frames + 1 ≤ R.frames ∧ 8 + (3 + 11) + rmX3_readCharge.locals ≤ R.locals) : CallW R s args own RX3 index yX3_readCharge cX3_readCharge 3 none wsX3_readCharge rmX3_readCharge 0 0 0 :=
  ⟨callB_of 0 htk (k_good kc_339) rfl rfl rfl (kw_53 htk) hl (by decide +kernel) hR, (kw_338 htk), (kw_9 htk)⟩
set_option maxRecDepth 100000 in
set_option maxHeartbeats 4000000 in
theorem mX3_readCharge (l : Launch) (D : va_G) (cs : Nat → ClassId) (ad : Nat → Nat) (N : Nat) (σ : vS) (σ' : vS) (hf : fX3_readCharge N σ = some σ') : k_Met l yX3_readCharge wsX3_readCharge rmX3_readCharge D (tK cs) (wK cs ad) (k_A 41 ad) [.ref (ad 1)] σ none σ' := by
  refine k_of (cc := cX3_readCharge) (maxL := 3) (ret := none) (by decide) rfl (Nat.le_of_ble_eq_true rfl) ?_
  intro p e s m args below meth c ls H locs hcf hr hlk hK hZ hl hw
  generalize hQ0 : MQ below _ args s 0 0 _ = Q0
  obtain ⟨T0, hE0⟩ : ∃ T, T = fX3_readCharge N σ := ⟨_, rfl⟩
  have hR := hE0.trans hf
  have hN0 : T0 ≠ none := by rw [hR]; exact fun h => nomatch h
  have hx := hcf.1
  have hb := hcf.2.1
  have htk := hcf.2.2.2.2
  have hown := hcf.2.2.2.1
  unfold fX3_readCharge at hE0
  replace hl : lv_has ls 3 [(0, .ref (ad 1))] := hl
  have J84 : ∀ (v1j84 : Int32) (v2j84 : Int32) (σj84 : vS) (H : Heap) (locs : List Loc) (ls : Array Slot), lv_has ls 3 [(0, .ref (ad 1)), (1, .int v1j84), (2, .int v2j84)] → k_H D (wK cs ad) (k_A 41 ad) σj84 s.heap H locs → T0 = jX3_readCharge_84 N σj84 v1j84 v2j84 → W p l e rmX3_readCharge s m args below meth c H locs 0 0 Q0 (F0 m 84 ls []) := by
    intro v1j84 v2j84 σj84 H locs ls hl hw hE0
    unfold jX3_readCharge_84 at hE0
    refine lv_aload_n hx hb dX3_readCharge_84 rfl (lv_at hl 0 rfl) ?_
    refine lv_iload_n hx hb dX3_readCharge_85 rfl (lv_at hl 2 rfl) ?_
    refine lv_bipush (v := 43) hx hb dX3_readCharge_86 rfl ?_
    refine lv_icmp_ne (tgt := 95) hx hb dX3_readCharge_88 (by decide) (fun c4 => ?_) (fun c4 => ?_)
    · have hE0 := ite_f hE0 c4
      refine lv_iload_n hx hb dX3_readCharge_95 rfl (lv_at hl 1 rfl) ?_
      refine lv_ineg hx hb dX3_readCharge_96 ?_
      refine kp_X3_charge hcf hK (kw_162 htk) dX3_readCharge_97 hw (fun H locs hw => ?_)
      refine lv_aload_n hx hb dX3_readCharge_100 rfl (lv_at hl 0 rfl) ?_
      refine kg_X3_text hcf hK (kw_150 htk) dX3_readCharge_101 hw ?_
      refine lv_dup hx hb dX3_readCharge_104 rfl ?_
      refine kg_X4_place hcf hK (kw_93 htk) (x := (σj84.1 1)) dX3_readCharge_105 hw rfl ?_
      refine lv_iconst (v := 1) hx hb dX3_readCharge_108 rfl ?_
      refine lv_iadd hx hb dX3_readCharge_109 ?_
      refine kp_X4_place hcf hK (kw_93 htk) dX3_readCharge_110 hw (fun H locs hw => ?_)
      exact kret_v hcf hr hlk hK hw (rt1 hR hE0) hQ0 dX3_readCharge_113
    · have hE0 := ite_t hE0 c4
      refine lv_iload_n hx hb dX3_readCharge_91 rfl (lv_at hl 1 rfl) ?_
      refine lv_goto (tgt := 97) hx hb dX3_readCharge_92 (by decide) ?_
      refine kp_X3_charge hcf hK (kw_162 htk) dX3_readCharge_97 hw (fun H locs hw => ?_)
      refine lv_aload_n hx hb dX3_readCharge_100 rfl (lv_at hl 0 rfl) ?_
      refine kg_X3_text hcf hK (kw_150 htk) dX3_readCharge_101 hw ?_
      refine lv_dup hx hb dX3_readCharge_104 rfl ?_
      refine kg_X4_place hcf hK (kw_93 htk) (x := (σj84.1 1)) dX3_readCharge_105 hw rfl ?_
      refine lv_iconst (v := 1) hx hb dX3_readCharge_108 rfl ?_
      refine lv_iadd hx hb dX3_readCharge_109 ?_
      refine kp_X4_place hcf hK (kw_93 htk) dX3_readCharge_110 hw (fun H locs hw => ?_)
      exact kret_v hcf hr hlk hK hw (rt1 hR hE0) hQ0 dX3_readCharge_113
  refine lv_aload_n hx hb dX3_readCharge_0 rfl (lv_at hl 0 rfl) ?_
  refine kg_X3_equation hcf hK (kw_152 htk) dX3_readCharge_1 hw ?_
  obtain ⟨r1, σ1, k1, hE0⟩ := bd2_e hE0 hN0
  refine k_call (va_runV (As := []) (rest := []) hcf (mX1_admitCharge l D cs ad N σ r1 σ1 k1) (kcX1_admitCharge htk (kw_288 htk) ⟨Nat.le_of_ble_eq_true rfl, Nat.le_of_ble_eq_true rfl⟩) ⟨k_blind, va_recv (ci := 1) (q0 := 5) hK hw.1 rfl rfl, k_pre hK hZ hw⟩ rfl rfl hl.1 rfl (lv_room (Nat.le_of_ble_eq_true rfl)) dX3_readCharge_4 ⟨Nat.zero_le _, Nat.zero_le _⟩) hw (fun H locs hw => ?_)
  refine lv_if_ne (tgt := 24) hx hb dX3_readCharge_7 (by decide) (fun c10 => ?_) (fun c10 => ?_)
  · have hE0 := ite_f hE0 c10
    refine lv_aload_n hx hb dX3_readCharge_24 rfl (lv_at hl 0 rfl) ?_
    refine kg_X3_text hcf hK (kw_150 htk) dX3_readCharge_25 hw ?_
    refine lv_dup hx hb dX3_readCharge_28 rfl ?_
    refine kg_X4_place hcf hK (kw_93 htk) (x := (σ1.1 1)) dX3_readCharge_29 hw rfl ?_
    refine lv_iconst (v := 1) hx hb dX3_readCharge_32 rfl ?_
    refine lv_iadd hx hb dX3_readCharge_33 ?_
    refine kp_X4_place hcf hK (kw_93 htk) dX3_readCharge_34 hw (fun H locs hw => ?_)
    refine lv_aload_n hx hb dX3_readCharge_37 rfl (lv_at hl 0 rfl) ?_
    obtain ⟨r2, σ2, k2, hE0⟩ := bd2_e hE0 hN0
    refine k_call (va_runV (As := []) (rest := []) hcf (mX3_readNumber l D cs ad N (p_i σ1 1 ((σ1.1 1) + (1 : Int32))) r2 σ2 k2) (kcX3_readNumber htk (kw_296 htk) ⟨Nat.le_of_ble_eq_true rfl, Nat.le_of_ble_eq_true rfl⟩) ⟨k_blind, va_recv (ci := 3) (q0 := 1) hK hw.1 rfl rfl, k_pre hK hZ hw⟩ rfl rfl hl.1 rfl (lv_room (Nat.le_of_ble_eq_true rfl)) dX3_readCharge_38 ⟨Nat.zero_le _, Nat.zero_le _⟩) hw (fun H locs hw => ?_)
    refine lv_istore_n hx hb dX3_readCharge_41 rfl hl (Nat.le_of_ble_eq_true rfl) rfl (fun ls (hl : lv_has ls 3 [(1, .int r2), (0, .ref (ad 1))]) => ?_)
    refine lv_aload_n hx hb dX3_readCharge_42 rfl (lv_at hl 1 rfl) ?_
    refine kg_X3_fault hcf hK (kw_154 htk) (x := (σ2.1 6)) dX3_readCharge_43 hw rfl ?_
    refine lv_if_eq (tgt := 50) hx hb dX3_readCharge_46 (by decide) (fun c8 => ?_) (fun c8 => ?_)
    · have hE0 := ite_t hE0 c8
      refine lv_aload_n hx hb dX3_readCharge_50 rfl (lv_at hl 1 rfl) ?_
      refine kg_X3_text hcf hK (kw_150 htk) dX3_readCharge_51 hw ?_
      obtain ⟨r3, k3, hE0⟩ := bd1_e hE0 hN0
      refine k_callP (va_runV (As := []) (rest := []) hcf (mX4_here l D cs ad N σ2 r3 k3) (kcX4_here htk (kw_276 htk) ⟨Nat.le_of_ble_eq_true rfl, Nat.le_of_ble_eq_true rfl⟩) ⟨k_blind, va_recv (ci := 4) (q0 := 4) hK hw.1 rfl rfl, k_pre hK hZ hw⟩ rfl rfl hl.1 rfl (lv_room (Nat.le_of_ble_eq_true rfl)) dX3_readCharge_54 ⟨Nat.zero_le _, Nat.zero_le _⟩) ?_
      refine lv_istore_n hx hb dX3_readCharge_57 rfl hl (Nat.le_of_ble_eq_true rfl) rfl (fun ls (hl : lv_has ls 3 [(2, .int r3), (1, .int r2), (0, .ref (ad 1))]) => ?_)
      refine lv_iload_n hx hb dX3_readCharge_58 rfl (lv_at hl 0 rfl) ?_
      refine lv_bipush (v := 43) hx hb dX3_readCharge_59 rfl ?_
      refine lv_icmp_eq (tgt := 84) hx hb dX3_readCharge_61 (by decide) (fun c7 => ?_) (fun c7 => ?_)
      · have hE0 := ite_t hE0 c7
        exact J84 r2 r3 σ2 H locs ls (lv_sub hl [2, 1, 0] rfl) hw hE0
      · have hE0 := ite_f hE0 c7
        refine lv_iload_n hx hb dX3_readCharge_64 rfl (lv_at hl 0 rfl) ?_
        refine lv_bipush (v := 45) hx hb dX3_readCharge_65 rfl ?_
        refine lv_icmp_eq (tgt := 84) hx hb dX3_readCharge_67 (by decide) (fun c6 => ?_) (fun c6 => ?_)
        · have hE0 := ite_t hE0 c6
          exact J84 r2 r3 σ2 H locs ls (lv_sub hl [2, 1, 0] rfl) hw hE0
        · have hE0 := ite_f hE0 c6
          refine lv_aload_n hx hb dX3_readCharge_70 rfl (lv_at hl 2 rfl) ?_
          refine lv_bipush (v := -2) hx hb dX3_readCharge_71 rfl ?_
          refine lv_aload_n hx hb dX3_readCharge_73 rfl (lv_at hl 2 rfl) ?_
          refine kg_X3_text hcf hK (kw_150 htk) dX3_readCharge_74 hw ?_
          refine kg_X4_place hcf hK (kw_93 htk) (x := (σ2.1 1)) dX3_readCharge_77 hw rfl ?_
          obtain ⟨σ5, k5, hE0⟩ := bd1_e hE0 hN0
          refine k_call (va_runV (As := [.int (-2 : Int32), .int (σ2.1 1)]) (rest := []) hcf (mX3_meet l D cs ad N σ2 (-2 : Int32) (σ2.1 1) σ5 k5) (kcX3_meet htk (kw_272 htk) ⟨Nat.le_of_ble_eq_true rfl, Nat.le_of_ble_eq_true rfl⟩) ⟨k_blind, va_recv (ci := 3) (q0 := 1) hK hw.1 rfl rfl, k_pre hK hZ hw⟩ rfl rfl hl.1 rfl (lv_room (Nat.le_of_ble_eq_true rfl)) dX3_readCharge_80 ⟨Nat.zero_le _, Nat.zero_le _⟩) hw (fun H locs hw => ?_)
          exact kret_v hcf hr hlk hK hw (rt1 hR hE0) hQ0 dX3_readCharge_83
    · have hE0 := ite_f hE0 c8
      exact kret_v hcf hr hlk hK hw (rt1 hR hE0) hQ0 dX3_readCharge_49
  · have hE0 := ite_t hE0 c10
    refine lv_aload_n hx hb dX3_readCharge_10 rfl (lv_at hl 0 rfl) ?_
    refine lv_bipush (v := -5) hx hb dX3_readCharge_11 rfl ?_
    refine lv_aload_n hx hb dX3_readCharge_13 rfl (lv_at hl 0 rfl) ?_
    refine kg_X3_text hcf hK (kw_150 htk) dX3_readCharge_14 hw ?_
    refine kg_X4_place hcf hK (kw_93 htk) (x := (σ1.1 1)) dX3_readCharge_17 hw rfl ?_
    obtain ⟨σ9, k9, hE0⟩ := bd1_e hE0 hN0
    refine k_call (va_runV (As := [.int (-5 : Int32), .int (σ1.1 1)]) (rest := []) hcf (mX3_meet l D cs ad N σ1 (-5 : Int32) (σ1.1 1) σ9 k9) (kcX3_meet htk (kw_272 htk) ⟨Nat.le_of_ble_eq_true rfl, Nat.le_of_ble_eq_true rfl⟩) ⟨k_blind, va_recv (ci := 3) (q0 := 1) hK hw.1 rfl rfl, k_pre hK hZ hw⟩ rfl rfl hl.1 rfl (lv_room (Nat.le_of_ble_eq_true rfl)) dX3_readCharge_20 ⟨Nat.zero_le _, Nat.zero_le _⟩) hw (fun H locs hw => ?_)
    exact kret_v hcf hr hlk hK hw (rt1 hR hE0) hQ0 dX3_readCharge_23
def jX3_readFormula_92 (N : Nat) (σj92 : vS) : Option (vS) :=
  if ((σj92.1 6) = 0) then (
    bd1 (fX4_here N σj92) fun r1 =>
    if (r1 = (94 : Int32)) then (
      bd1 (fX3_readCharge N σj92) fun σ2 =>
      some σ2
    ) else (
      some σj92
    )
  ) else (
    some σj92
  )
def jX3_readFormula_69_4 (N : Nat) (σj69 : vS) (v1j69 : Int32) (v2j69 : Int32) : Option ((Int32 × Int32 × vS) ⊕ (vS)) :=
  if (v1j69 = 0) then (
    k_lt (v2j69 + (1 : Int32)) fun x6 =>
    some (.inl (v1j69, x6, σj69))
  ) else (
    k_lt (v2j69 + (1 : Int32)) fun x7 =>
    some (.inl (v1j69, x7, (p_i σj69 1 ((σj69.1 1) + (1 : Int32)))))
  )
def jX3_readFormula_67_4 (N : Nat) (σj67 : vS) (v2j67 : Int32) : Option ((Int32 × Int32 × vS) ⊕ (vS)) :=
  jX3_readFormula_69_4 N σj67 (0 : Int32) v2j67
def jX3_readFormula_44_4 (N : Nat) (σj44 : vS) (v2j44 : Int32) : Option ((Int32 × Int32 × vS) ⊕ (vS)) :=
  if ((σj44.1 6) = 0) then (
    bd1 (fX4_here N σj44) fun r9 =>
    if (r9 = (46 : Int32)) then (
      jX3_readFormula_69_4 N σj44 (1 : Int32) v2j44
    ) else (
      jX3_readFormula_67_4 N σj44 v2j44
    )
  ) else (
    jX3_readFormula_67_4 N σj44 v2j44
  )
def bX3_readFormula_4 (N : Nat) (v1h4 : Int32) (v2h4 : Int32) (σh4 : vS) : Option ((Int32 × Int32 × vS) ⊕ (vS)) :=
  if ((100 : Int32) ≤ v2h4) then (
    some (.inr σh4)
  ) else (
    if (v1h4 = 0) then (
      some (.inr σh4)
    ) else (
      bd2 (fX3_readNumber N σh4) fun r5 σ5 =>
      if ((σ5.1 6) = 0) then (
        bd1 (fX3_readUnits N σ5) fun σ12 =>
        bd1 (fX3_addTimes N σ12 0 1 r5) fun σ13 =>
        jX3_readFormula_44_4 N σ13 v2h4
      ) else (
        jX3_readFormula_44_4 N σ5 v2h4
      )
    )
  )
def fX3_readFormula (N : Nat) (σ : vS) : Option (vS) :=
  bd1 (k_itr (fun zz => bX3_readFormula_4 N zz.1 zz.2.1 zz.2.2) N ((1 : Int32), (0 : Int32), σ)) fun q => jX3_readFormula_92 N q
abbrev rmX3_readFormula : Room := { frames := 4, cells := 0, slots := 0, locals := 94 }
abbrev wsX3_readFormula : List Cond := .code yX3_readFormula cX3_readFormula 4 none :: kws
theorem kcX3_readFormula {R : Room} {s : State} {args : Array Value} {own : String} {index : Nat} (htk : ∀ w ∈ kws, w.before args s = true) (hl : (Cond.methodLink own index yX3_readFormula).before args s = true) (hR : rmX3_readFormula.frames + 1 ≤ R.frames ∧ 8 + (4 + 11) + rmX3_readFormula.locals ≤ R.locals) : CallW R s args own RX3 index yX3_readFormula cX3_readFormula 4 none wsX3_readFormula rmX3_readFormula 0 0 0 :=
  ⟨callB_of 0 htk (k_good kc_295) rfl rfl rfl (kw_53 htk) hl (by decide +kernel) hR, (kw_294 htk), (kw_3 htk)⟩
set_option maxRecDepth 100000 in
set_option maxHeartbeats 4000000 in
theorem mX3_readFormula (l : Launch) (D : va_G) (cs : Nat → ClassId) (ad : Nat → Nat) (N : Nat) (σ : vS) (σ' : vS) (hf : fX3_readFormula N σ = some σ') : k_Met l yX3_readFormula wsX3_readFormula rmX3_readFormula D (tK cs) (wK cs ad) (k_A 41 ad) [.ref (ad 1)] σ none σ' := by
  refine k_of (cc := cX3_readFormula) (maxL := 4) (ret := none) (by decide) rfl (Nat.le_of_ble_eq_true rfl) ?_
  intro p e s m args below meth c ls H locs hcf hr hlk hK hZ hl hw
  generalize hQ0 : MQ below _ args s 0 0 _ = Q0
  obtain ⟨T0, hE0⟩ : ∃ T, T = fX3_readFormula N σ := ⟨_, rfl⟩
  have hR := hE0.trans hf
  have hN0 : T0 ≠ none := by rw [hR]; exact fun h => nomatch h
  have hx := hcf.1
  have hb := hcf.2.1
  have htk := hcf.2.2.2.2
  have hown := hcf.2.2.2.1
  unfold fX3_readFormula at hE0
  replace hl : lv_has ls 4 [(0, .ref (ad 1))] := hl
  have J92 : ∀ (σj92 : vS) (H : Heap) (locs : List Loc) (ls : Array Slot), lv_has ls 4 [(0, .ref (ad 1))] → k_H D (wK cs ad) (k_A 41 ad) σj92 s.heap H locs → T0 = jX3_readFormula_92 N σj92 → W p l e rmX3_readFormula s m args below meth c H locs 0 0 Q0 (F0 m 92 ls []) := by
    intro σj92 H locs ls hl hw hE0
    unfold jX3_readFormula_92 at hE0
    refine lv_aload_n hx hb dX3_readFormula_92 rfl (lv_at hl 0 rfl) ?_
    refine kg_X3_fault hcf hK (kw_154 htk) (x := (σj92.1 6)) dX3_readFormula_93 hw rfl ?_
    refine lv_if_ne (tgt := 115) hx hb dX3_readFormula_96 (by decide) (fun c4 => ?_) (fun c4 => ?_)
    · have hE0 := ite_f hE0 c4
      exact kret_v hcf hr hlk hK hw (rt1 hR hE0) hQ0 dX3_readFormula_115
    · have hE0 := ite_t hE0 c4
      refine lv_aload_n hx hb dX3_readFormula_99 rfl (lv_at hl 0 rfl) ?_
      refine kg_X3_text hcf hK (kw_150 htk) dX3_readFormula_100 hw ?_
      obtain ⟨r1, k1, hE0⟩ := bd1_e hE0 hN0
      refine k_callP (va_runV (As := []) (rest := []) hcf (mX4_here l D cs ad N σj92 r1 k1) (kcX4_here htk (kw_276 htk) ⟨Nat.le_of_ble_eq_true rfl, Nat.le_of_ble_eq_true rfl⟩) ⟨k_blind, va_recv (ci := 4) (q0 := 4) hK hw.1 rfl rfl, k_pre hK hZ hw⟩ rfl rfl hl.1 rfl (lv_room (Nat.le_of_ble_eq_true rfl)) dX3_readFormula_103 ⟨Nat.zero_le _, Nat.zero_le _⟩) ?_
      refine lv_bipush (v := 94) hx hb dX3_readFormula_106 rfl ?_
      refine lv_icmp_ne (tgt := 115) hx hb dX3_readFormula_108 (by decide) (fun c3 => ?_) (fun c3 => ?_)
      · have hE0 := ite_f hE0 c3
        exact kret_v hcf hr hlk hK hw (rt1 hR hE0) hQ0 dX3_readFormula_115
      · have hE0 := ite_t hE0 c3
        refine lv_aload_n hx hb dX3_readFormula_111 rfl (lv_at hl 0 rfl) ?_
        obtain ⟨σ2, k2, hE0⟩ := bd1_e hE0 hN0
        refine k_call (va_runV (As := []) (rest := []) hcf (mX3_readCharge l D cs ad N σj92 σ2 k2) (kcX3_readCharge htk (kw_336 htk) ⟨Nat.le_of_ble_eq_true rfl, Nat.le_of_ble_eq_true rfl⟩) ⟨k_blind, va_recv (ci := 3) (q0 := 1) hK hw.1 rfl rfl, k_pre hK hZ hw⟩ rfl rfl hl.1 rfl (lv_room (Nat.le_of_ble_eq_true rfl)) dX3_readFormula_112 ⟨Nat.zero_le _, Nat.zero_le _⟩) hw (fun H locs hw => ?_)
        exact kret_v hcf hr hlk hK hw (rt1 hR hE0) hQ0 dX3_readFormula_115
  refine lv_iconst (v := 1) hx hb dX3_readFormula_0 rfl ?_
  refine lv_istore_n hx hb dX3_readFormula_1 rfl hl (Nat.le_of_ble_eq_true rfl) rfl (fun ls (hl : lv_has ls 4 [(1, .int (1 : Int32)), (0, .ref (ad 1))]) => ?_)
  refine lv_iconst (v := 0) hx hb dX3_readFormula_2 rfl ?_
  refine lv_istore_n hx hb dX3_readFormula_3 rfl hl (Nat.le_of_ble_eq_true rfl) rfl (fun ls (hl : lv_has ls 4 [(2, .int (0 : Int32)), (1, .int (1 : Int32)), (0, .ref (ad 1))]) => ?_)
  obtain ⟨q, hq, hE0⟩ := bd1_e hE0 hN0
  refine k_ind (P := fun zz => ∀ (H : Heap) (locs : List Loc) (ls : Array Slot), lv_has ls 4 [(0, .ref (ad 1)), (1, .int zz.1), (2, .int zz.2.1)] → k_H D (wK cs ad) (k_A 41 ad) zz.2.2 s.heap H locs → W p l e rmX3_readFormula s m args below meth c H locs 0 0 Q0 (F0 m 4 ls [])) ?_ N _ hq H locs ls (lv_sub hl [2, 1, 0] rfl) hw
  intro sX T1 hE1 hN1 hC1 hX1
  obtain ⟨v1h4, v2h4, σh4⟩ := sX
  replace hE1 : T1 = bX3_readFormula_4 N v1h4 v2h4 σh4 := hE1
  unfold bX3_readFormula_4 at hE1
  have J69_4 : ∀ (v1j69 : Int32) (v2j69 : Int32) (σj69 : vS) (H : Heap) (locs : List Loc) (ls : Array Slot), lv_has ls 4 [(0, .ref (ad 1)), (1, .int v1j69), (2, .int v2j69)] → k_H D (wK cs ad) (k_A 41 ad) σj69 s.heap H locs → T1 = jX3_readFormula_69_4 N σj69 v1j69 v2j69 → W p l e rmX3_readFormula s m args below meth c H locs 0 0 Q0 (F0 m 69 ls []) := by
    intro v1j69 v2j69 σj69 H locs ls hl hw hE1
    unfold jX3_readFormula_69_4 at hE1
    refine lv_iload_n hx hb dX3_readFormula_69 rfl (lv_at hl 1 rfl) ?_
    refine lv_if_eq (tgt := 86) hx hb dX3_readFormula_70 (by decide) (fun c8 => ?_) (fun c8 => ?_)
    · have hE1 := ite_t hE1 c8
      obtain ⟨x6, e_x6, hE1⟩ := k_lte hE1
      refine lv_iinc (k := 2) (v := x6) hx hb dX3_readFormula_86 hl rfl (Eq.symm e_x6) (Nat.le_of_ble_eq_true rfl) rfl (fun ls (hl : lv_has ls 4 [(2, .int x6), (0, .ref (ad 1)), (1, .int v1j69)]) => ?_)
      refine lv_goto (tgt := 4) hx hb dX3_readFormula_89 (by decide) ?_
      exact hC1 _ hE1 H locs ls (lv_sub hl [1, 2, 0] rfl) hw
    · have hE1 := ite_f hE1 c8
      refine lv_aload_n hx hb dX3_readFormula_73 rfl (lv_at hl 0 rfl) ?_
      refine kg_X3_text hcf hK (kw_150 htk) dX3_readFormula_74 hw ?_
      refine lv_dup hx hb dX3_readFormula_77 rfl ?_
      refine kg_X4_place hcf hK (kw_93 htk) (x := (σj69.1 1)) dX3_readFormula_78 hw rfl ?_
      refine lv_iconst (v := 1) hx hb dX3_readFormula_81 rfl ?_
      refine lv_iadd hx hb dX3_readFormula_82 ?_
      refine kp_X4_place hcf hK (kw_93 htk) dX3_readFormula_83 hw (fun H locs hw => ?_)
      obtain ⟨x7, e_x7, hE1⟩ := k_lte hE1
      refine lv_iinc (k := 2) (v := x7) hx hb dX3_readFormula_86 hl rfl (Eq.symm e_x7) (Nat.le_of_ble_eq_true rfl) rfl (fun ls (hl : lv_has ls 4 [(2, .int x7), (0, .ref (ad 1)), (1, .int v1j69)]) => ?_)
      refine lv_goto (tgt := 4) hx hb dX3_readFormula_89 (by decide) ?_
      exact hC1 _ hE1 H locs ls (lv_sub hl [1, 2, 0] rfl) hw
  have J67_4 : ∀ (v2j67 : Int32) (σj67 : vS) (H : Heap) (locs : List Loc) (ls : Array Slot), lv_has ls 4 [(0, .ref (ad 1)), (2, .int v2j67)] → k_H D (wK cs ad) (k_A 41 ad) σj67 s.heap H locs → T1 = jX3_readFormula_67_4 N σj67 v2j67 → W p l e rmX3_readFormula s m args below meth c H locs 0 0 Q0 (F0 m 67 ls []) := by
    intro v2j67 σj67 H locs ls hl hw hE1
    unfold jX3_readFormula_67_4 at hE1
    refine lv_iconst (v := 0) hx hb dX3_readFormula_67 rfl ?_
    refine lv_istore_n hx hb dX3_readFormula_68 rfl hl (Nat.le_of_ble_eq_true rfl) rfl (fun ls (hl : lv_has ls 4 [(1, .int (0 : Int32)), (0, .ref (ad 1)), (2, .int v2j67)]) => ?_)
    exact J69_4 (0 : Int32) v2j67 σj67 H locs ls (lv_sub hl [1, 0, 2] rfl) hw hE1
  have J44_4 : ∀ (v2j44 : Int32) (σj44 : vS) (H : Heap) (locs : List Loc) (ls : Array Slot), lv_has ls 4 [(0, .ref (ad 1)), (2, .int v2j44)] → k_H D (wK cs ad) (k_A 41 ad) σj44 s.heap H locs → T1 = jX3_readFormula_44_4 N σj44 v2j44 → W p l e rmX3_readFormula s m args below meth c H locs 0 0 Q0 (F0 m 44 ls []) := by
    intro v2j44 σj44 H locs ls hl hw hE1
    unfold jX3_readFormula_44_4 at hE1
    refine lv_aload_n hx hb dX3_readFormula_44 rfl (lv_at hl 0 rfl) ?_
    refine kg_X3_fault hcf hK (kw_154 htk) (x := (σj44.1 6)) dX3_readFormula_45 hw rfl ?_
    refine lv_if_ne (tgt := 67) hx hb dX3_readFormula_48 (by decide) (fun c11 => ?_) (fun c11 => ?_)
    · have hE1 := ite_f hE1 c11
      exact J67_4 v2j44 σj44 H locs ls (lv_sub hl [0, 1] rfl) hw hE1
    · have hE1 := ite_t hE1 c11
      refine lv_aload_n hx hb dX3_readFormula_51 rfl (lv_at hl 0 rfl) ?_
      refine kg_X3_text hcf hK (kw_150 htk) dX3_readFormula_52 hw ?_
      obtain ⟨r9, k9, hE1⟩ := bd1_e hE1 hN1
      refine k_callP (va_runV (As := []) (rest := []) hcf (mX4_here l D cs ad N σj44 r9 k9) (kcX4_here htk (kw_276 htk) ⟨Nat.le_of_ble_eq_true rfl, Nat.le_of_ble_eq_true rfl⟩) ⟨k_blind, va_recv (ci := 4) (q0 := 4) hK hw.1 rfl rfl, k_pre hK hZ hw⟩ rfl rfl hl.1 rfl (lv_room (Nat.le_of_ble_eq_true rfl)) dX3_readFormula_55 ⟨Nat.zero_le _, Nat.zero_le _⟩) ?_
      refine lv_bipush (v := 46) hx hb dX3_readFormula_58 rfl ?_
      refine lv_icmp_ne (tgt := 67) hx hb dX3_readFormula_60 (by decide) (fun c10 => ?_) (fun c10 => ?_)
      · have hE1 := ite_f hE1 c10
        exact J67_4 v2j44 σj44 H locs ls (lv_sub hl [0, 1] rfl) hw hE1
      · have hE1 := ite_t hE1 c10
        refine lv_iconst (v := 1) hx hb dX3_readFormula_63 rfl ?_
        refine lv_goto (tgt := 68) hx hb dX3_readFormula_64 (by decide) ?_
        refine lv_istore_n hx hb dX3_readFormula_68 rfl hl (Nat.le_of_ble_eq_true rfl) rfl (fun ls (hl : lv_has ls 4 [(1, .int (1 : Int32)), (0, .ref (ad 1)), (2, .int v2j44)]) => ?_)
        exact J69_4 (1 : Int32) v2j44 σj44 H locs ls (lv_sub hl [1, 0, 2] rfl) hw hE1
  intro H locs ls hl hw
  replace hl : lv_has ls 4 [(0, .ref (ad 1)), (1, .int v1h4), (2, .int v2h4)] := hl
  replace hw : k_H D (wK cs ad) (k_A 41 ad) σh4 s.heap H locs := hw
  refine lv_iload_n hx hb dX3_readFormula_4 rfl (lv_at hl 2 rfl) ?_
  refine lv_bipush (v := 100) hx hb dX3_readFormula_5 rfl ?_
  refine lv_icmp_ge (tgt := 92) hx hb dX3_readFormula_7 (by decide) (fun c16 => ?_) (fun c16 => ?_)
  · have hE1 := ite_t hE1 c16
    have hq := hX1 _ hE1
    subst hq
    exact J92 σh4 H locs ls (lv_sub hl [0] rfl) hw hE0
  · have hE1 := ite_f hE1 c16
    refine lv_iload_n hx hb dX3_readFormula_10 rfl (lv_at hl 1 rfl) ?_
    refine lv_if_eq (tgt := 92) hx hb dX3_readFormula_11 (by decide) (fun c15 => ?_) (fun c15 => ?_)
    · have hE1 := ite_t hE1 c15
      have hq := hX1 _ hE1
      subst hq
      exact J92 σh4 H locs ls (lv_sub hl [0] rfl) hw hE0
    · have hE1 := ite_f hE1 c15
      refine lv_aload_n hx hb dX3_readFormula_14 rfl (lv_at hl 0 rfl) ?_
      obtain ⟨r5, σ5, k5, hE1⟩ := bd2_e hE1 hN1
      refine k_call (va_runV (As := []) (rest := []) hcf (mX3_readNumber l D cs ad N σh4 r5 σ5 k5) (kcX3_readNumber htk (kw_296 htk) ⟨Nat.le_of_ble_eq_true rfl, Nat.le_of_ble_eq_true rfl⟩) ⟨k_blind, va_recv (ci := 3) (q0 := 1) hK hw.1 rfl rfl, k_pre hK hZ hw⟩ rfl rfl hl.1 rfl (lv_room (Nat.le_of_ble_eq_true rfl)) dX3_readFormula_15 ⟨Nat.zero_le _, Nat.zero_le _⟩) hw (fun H locs hw => ?_)
      refine lv_istore_n hx hb dX3_readFormula_18 rfl hl (Nat.le_of_ble_eq_true rfl) rfl (fun ls (hl : lv_has ls 4 [(3, .int r5), (0, .ref (ad 1)), (1, .int v1h4), (2, .int v2h4)]) => ?_)
      refine lv_aload_n hx hb dX3_readFormula_19 rfl (lv_at hl 1 rfl) ?_
      refine kg_X3_fault hcf hK (kw_154 htk) (x := (σ5.1 6)) dX3_readFormula_20 hw rfl ?_
      refine lv_if_ne (tgt := 44) hx hb dX3_readFormula_23 (by decide) (fun c14 => ?_) (fun c14 => ?_)
      · have hE1 := ite_f hE1 c14
        exact J44_4 v2h4 σ5 H locs ls (lv_sub hl [1, 3] rfl) hw hE1
      · have hE1 := ite_t hE1 c14
        refine lv_aload_n hx hb dX3_readFormula_26 rfl (lv_at hl 1 rfl) ?_
        obtain ⟨σ12, k12, hE1⟩ := bd1_e hE1 hN1
        refine k_call (va_runV (As := []) (rest := []) hcf (mX3_readUnits l D cs ad N σ5 σ12 k12) (kcX3_readUnits htk (kw_303 htk) ⟨Nat.le_of_ble_eq_true rfl, Nat.le_of_ble_eq_true rfl⟩) ⟨k_blind, va_recv (ci := 3) (q0 := 1) hK hw.1 rfl rfl, k_pre hK hZ hw⟩ rfl rfl hl.1 rfl (lv_room (Nat.le_of_ble_eq_true rfl)) dX3_readFormula_27 ⟨Nat.zero_le _, Nat.zero_le _⟩) hw (fun H locs hw => ?_)
        refine lv_aload_n hx hb dX3_readFormula_30 rfl (lv_at hl 1 rfl) ?_
        refine kg_X3_totals hcf hK (kw_161 htk) dX3_readFormula_31 hw ?_
        refine lv_aload_n hx hb dX3_readFormula_34 rfl (lv_at hl 1 rfl) ?_
        refine kg_X3_sums hcf hK (kw_158 htk) dX3_readFormula_35 hw ?_
        refine lv_iconst (v := 0) hx hb dX3_readFormula_38 rfl ?_
        refine kaald_sums hcf hK (k := 26) dX3_readFormula_39 (by decide) (by decide) hw ?_
        refine lv_iload_n hx hb dX3_readFormula_40 rfl (lv_at hl 0 rfl) ?_
        obtain ⟨σ13, k13, hE1⟩ := bd1_e hE1 hN1
        refine k_call (va_runS (As := [.ref (ad 25), .ref (ad 26), .int r5]) (rest := []) hcf (mX3_addTimes l D cs ad N σ12 0 1 r5 σ13 k13 (by decide) (by decide)) (kcX3_addTimes htk (kw_333 htk) ⟨Nat.le_of_ble_eq_true rfl, Nat.le_of_ble_eq_true rfl⟩) ⟨k_blind, k_pre hK hZ hw⟩ rfl rfl hl.1 rfl (lv_room (Nat.le_of_ble_eq_true rfl)) dX3_readFormula_41 ⟨Nat.zero_le _, Nat.zero_le _⟩) hw (fun H locs hw => ?_)
        exact J44_4 v2h4 σ13 H locs ls (lv_sub hl [1, 3] rfl) hw hE1
def jX3_isTooMuch_28 (N : Nat) (σ : vS) : Option (Int32) :=
  if ((40 : Int32) < (σ.1 9)) then (
    some (1 : Int32)
  ) else (
    if ((-40 : Int32) ≤ (σ.1 9)) then (
      some (0 : Int32)
    ) else (
      some (1 : Int32)
    )
  )
def bX3_isTooMuch_2 (N : Nat) (σ : vS) (v1h2 : Int32) : Option ((Int32) ⊕ ((Unit) ⊕ (Int32))) :=
  if ((5 : Int32) ≤ v1h2) then (
    some (.inr (.inl ()))
  ) else (
    if (v1h2 < 0 ∨ 5 ≤ (v1h2).toNatClampNeg) then none else
    if ((lg_cmp (σ.2.2.2 0 ((v1h2).toNatClampNeg)) (40 : Int64)) ≤ 0) then (
      k_lt (v1h2 + (1 : Int32)) fun x4 =>
      some (.inl x4)
    ) else (
      some (.inr (.inr (1 : Int32)))
    )
  )
def fX3_isTooMuch (N : Nat) (σ : vS) : Option (Int32) :=
  bds (k_itr (fun zz => bX3_isTooMuch_2 N σ zz) N (0 : Int32)) fun _ => jX3_isTooMuch_28 N σ
abbrev rmX3_isTooMuch : Room := { frames := 0, cells := 0, slots := 0, locals := 0 }
abbrev wsX3_isTooMuch : List Cond := .code yX3_isTooMuch cX3_isTooMuch 2 (some .boolean) :: kws
theorem kcX3_isTooMuch {R : Room} {s : State} {args : Array Value} {own : String} {index : Nat} (htk : ∀ w ∈ kws, w.before args s = true) (hl : (Cond.methodLink own index yX3_isTooMuch).before args s = true) (hR : rmX3_isTooMuch.frames + 1 ≤ R.frames ∧ 8 + (2 + 11) + rmX3_isTooMuch.locals ≤ R.locals) : CallW R s args own RX3 index yX3_isTooMuch cX3_isTooMuch 2 (some .boolean) wsX3_isTooMuch rmX3_isTooMuch 0 0 0 :=
  ⟨callB_of 0 htk (k_good kc_347) rfl rfl rfl (kw_53 htk) hl (by decide +kernel) hR, (kw_346 htk), (kw_11 htk)⟩
set_option maxRecDepth 100000 in
set_option maxHeartbeats 4000000 in
theorem mX3_isTooMuch (l : Launch) (D : va_G) (cs : Nat → ClassId) (ad : Nat → Nat) (N : Nat) (σ : vS) (r : Int32) (hf : fX3_isTooMuch N σ = some r) : k_MP l yX3_isTooMuch wsX3_isTooMuch rmX3_isTooMuch D (tK cs) (wK cs ad) [.ref (ad 1)] σ (.int r) := by
  refine k_ofP (cc := cX3_isTooMuch) (maxL := 2) (ret := (some .boolean)) (by decide) rfl (Nat.le_of_ble_eq_true rfl) ?_
  intro p e s m args below meth c ls hcf hr hlk hK hZ hl hw
  generalize hQ0 : MQ below _ args s 0 0 _ = Q0
  obtain ⟨T0, hE0⟩ : ∃ T, T = fX3_isTooMuch N σ := ⟨_, rfl⟩
  have hR := hE0.trans hf
  have hN0 : T0 ≠ none := by rw [hR]; exact fun h => nomatch h
  have hx := hcf.1
  have hb := hcf.2.1
  have htk := hcf.2.2.2.2
  have hown := hcf.2.2.2.1
  unfold fX3_isTooMuch at hE0
  replace hl : lv_has ls 2 [(0, .ref (ad 1))] := hl
  have J28 : ∀ (ls : Array Slot), lv_has ls 2 [(0, .ref (ad 1))] → T0 = jX3_isTooMuch_28 N σ → W p l e rmX3_isTooMuch s m args below meth c s.heap [] 0 0 Q0 (F0 m 28 ls []) := by
    intro ls hl hE0
    unfold jX3_isTooMuch_28 at hE0
    refine lv_aload_n hx hb dX3_isTooMuch_28 rfl (lv_at hl 0 rfl) ?_
    refine kg_X3_charge hcf hK (kw_162 htk) (x := (σ.1 9)) dX3_isTooMuch_29 hw rfl ?_
    refine lv_bipush (v := 40) hx hb dX3_isTooMuch_32 rfl ?_
    refine lv_icmp_gt (tgt := 46) hx hb dX3_isTooMuch_34 (by decide) (fun c2 => ?_) (fun c2 => ?_)
    · have hE0 := ite_t hE0 c2
      refine lv_iconst (v := 1) hx hb dX3_isTooMuch_46 rfl ?_
      refine lv_goto (tgt := 51) hx hb dX3_isTooMuch_47 (by decide) ?_
      exact kretP_z hcf hr hlk hK hw (rt1 hR hE0) hQ0 rfl dX3_isTooMuch_51
    · have hE0 := ite_f hE0 c2
      refine lv_aload_n hx hb dX3_isTooMuch_37 rfl (lv_at hl 0 rfl) ?_
      refine kg_X3_charge hcf hK (kw_162 htk) (x := (σ.1 9)) dX3_isTooMuch_38 hw rfl ?_
      refine lv_bipush (v := -40) hx hb dX3_isTooMuch_41 rfl ?_
      refine lv_icmp_ge (tgt := 50) hx hb dX3_isTooMuch_43 (by decide) (fun c1 => ?_) (fun c1 => ?_)
      · have hE0 := ite_t hE0 c1
        refine lv_iconst (v := 0) hx hb dX3_isTooMuch_50 rfl ?_
        exact kretP_z hcf hr hlk hK hw (rt1 hR hE0) hQ0 rfl dX3_isTooMuch_51
      · have hE0 := ite_f hE0 c1
        refine lv_iconst (v := 1) hx hb dX3_isTooMuch_46 rfl ?_
        refine lv_goto (tgt := 51) hx hb dX3_isTooMuch_47 (by decide) ?_
        exact kretP_z hcf hr hlk hK hw (rt1 hR hE0) hQ0 rfl dX3_isTooMuch_51
  refine lv_iconst (v := 0) hx hb dX3_isTooMuch_0 rfl ?_
  refine lv_istore_n hx hb dX3_isTooMuch_1 rfl hl (Nat.le_of_ble_eq_true rfl) rfl (fun ls (hl : lv_has ls 2 [(1, .int (0 : Int32)), (0, .ref (ad 1))]) => ?_)
  obtain ⟨q, hq, hE0, hT0⟩ := bds_e hE0 hN0
  refine k_ind (P := fun zz => ∀ (ls : Array Slot), lv_has ls 2 [(0, .ref (ad 1)), (1, .int zz)] → W p l e rmX3_isTooMuch s m args below meth c s.heap [] 0 0 Q0 (F0 m 2 ls [])) ?_ N _ hq ls (lv_sub hl [1, 0] rfl)
  intro sX T1 hE1 hN1 hC1 hX1
  obtain ⟨v1h2, hsg⟩ : ∃ z, z = sX := ⟨_, rfl⟩
  subst hsg
  replace hE1 : T1 = bX3_isTooMuch_2 N σ v1h2 := hE1
  unfold bX3_isTooMuch_2 at hE1
  intro ls hl
  replace hl : lv_has ls 2 [(0, .ref (ad 1)), (1, .int v1h2)] := hl
  refine lv_iload_n hx hb dX3_isTooMuch_2 rfl (lv_at hl 1 rfl) ?_
  refine lv_iconst (v := 5) hx hb dX3_isTooMuch_3 rfl ?_
  refine lv_icmp_ge (tgt := 28) hx hb dX3_isTooMuch_4 (by decide) (fun c6 => ?_) (fun c6 => ?_)
  · have hE1 := ite_t hE1 c6
    have hq := hX1 _ hE1
    subst hq
    exact J28 ls (lv_sub hl [0] rfl) (hE0 _ rfl)
  · have hE1 := ite_f hE1 c6
    refine lv_aload_n hx hb dX3_isTooMuch_7 rfl (lv_at hl 0 rfl) ?_
    refine kg_X3_totals hcf hK (kw_161 htk) dX3_isTooMuch_8 hw ?_
    refine lv_iload_n hx hb dX3_isTooMuch_11 rfl (lv_at hl 1 rfl) ?_
    obtain ⟨g3, hE1⟩ := gd_e hE1 hN1
    refine kald_B0 hcf hK (x := (σ.2.2.2 0 ((v1h2).toNatClampNeg))) dX3_isTooMuch_12 g3 hw rfl ?_
    refine lv_ldc2 hx hb hown (kw_348 htk) dX3_isTooMuch_13 ?_
    refine W.lcmp hx hb dX3_isTooMuch_16 ?_
    refine lv_if_le (tgt := 22) hx hb dX3_isTooMuch_17 (by decide) (fun c5 => ?_) (fun c5 => ?_)
    · have hE1 := ite_t hE1 c5
      obtain ⟨x4, e_x4, hE1⟩ := k_lte hE1
      refine lv_iinc (k := 1) (v := x4) hx hb dX3_isTooMuch_22 hl rfl (Eq.symm e_x4) (Nat.le_of_ble_eq_true rfl) rfl (fun ls (hl : lv_has ls 2 [(1, .int x4), (0, .ref (ad 1))]) => ?_)
      refine lv_goto (tgt := 2) hx hb dX3_isTooMuch_25 (by decide) ?_
      exact hC1 _ hE1 ls (lv_sub hl [1, 0] rfl)
    · have hE1 := ite_f hE1 c5
      refine lv_iconst (v := 1) hx hb dX3_isTooMuch_20 rfl ?_
      have hq := hX1 _ hE1
      subst hq
      exact kretP_z hcf hr hlk hK hw (rt1 hR (hT0 _ rfl)) hQ0 rfl dX3_isTooMuch_21
end
section
def jX1_addFormula_41 (N : Nat) (σj41 : vS) (v1j41 : Int32) (v2j41 : Int32) (v4j41 : Int32) : Option (vS) :=
  if ((σj41.1 2) < 0 ∨ 6 ≤ ((σj41.1 2)).toNatClampNeg) then none else
  if ((σj41.1 2) < 0 ∨ 6 ≤ ((σj41.1 2)).toNatClampNeg) then none else
  if ((σj41.1 2) < 0 ∨ 6 ≤ ((σj41.1 2)).toNatClampNeg) then none else
  some (p_i (p_a (p_a (p_a σj41 2 (((σj41.1 2)).toNatClampNeg) v4j41) 3 (((σj41.1 2)).toNatClampNeg) v1j41) 4 (((σj41.1 2)).toNatClampNeg) v2j41) 2 ((σj41.1 2) + (1 : Int32)))
def bX1_addFormula_12 (N : Nat) (p1 : Int32) (p2 : Int32) (p4 : Int32) (v5h12 : Int32) (σh12 : vS) : Option ((Int32 × vS) ⊕ (vS)) :=
  if ((5 : Int32) ≤ v5h12) then (
    some (.inr σh12)
  ) else (
    if ((σh12.1 2) < 0 ∨ 6 ≤ ((σh12.1 2)).toNatClampNeg) then none else
    if (v5h12 < 0 ∨ 5 ≤ (v5h12).toNatClampNeg) then none else
    if (v5h12 < 0 ∨ 5 ≤ (v5h12).toNatClampNeg) then none else
    k_lt (v5h12 + (1 : Int32)) fun x7 =>
    some (.inl (x7, (p_a σh12 (9 + ((σh12.1 2)).toNatClampNeg) ((v5h12).toNatClampNeg) (((σh12.2.2.2 0 ((v5h12).toNatClampNeg))).toInt32))))
  )
def fX1_addFormula (N : Nat) (σ : vS) (p1 : Int32) (p2 : Int32) (p4 : Int32) : Option (vS) :=
  if ((6 : Int32) ≤ (σ.1 2)) then (
    some σ
  ) else (
    bd1 (k_itr (fun zz => bX1_addFormula_12 N p1 p2 p4 zz.1 zz.2) N ((0 : Int32), σ)) fun q => jX1_addFormula_41 N q p1 p2 p4
  )
abbrev rmX1_addFormula : Room := { frames := 0, cells := 0, slots := 0, locals := 0 }
abbrev wsX1_addFormula : List Cond := .code yX1_addFormula cX1_addFormula 6 none :: kws
theorem kcX1_addFormula {R : Room} {s : State} {args : Array Value} {own : String} {index : Nat} (htk : ∀ w ∈ kws, w.before args s = true) (hl : (Cond.methodLink own index yX1_addFormula).before args s = true) (hR : rmX1_addFormula.frames + 1 ≤ R.frames ∧ 8 + (6 + 11) + rmX1_addFormula.locals ≤ R.locals) : CallW R s args own RX1 index yX1_addFormula cX1_addFormula 6 none wsX1_addFormula rmX1_addFormula 0 0 4 :=
  ⟨callB_of 4 htk (k_good kc_352) rfl rfl rfl (kw_55 htk) hl (by decide +kernel) hR, (kw_350 htk), (kw_351 htk)⟩
set_option maxRecDepth 100000 in
set_option maxHeartbeats 4000000 in
theorem mX1_addFormula (l : Launch) (D : va_G) (cs : Nat → ClassId) (ad : Nat → Nat) (N : Nat) (σ : vS) (p1 : Int32) (p2 : Int32) (p4 : Int32) (σ' : vS) (hf : fX1_addFormula N σ p1 p2 p4 = some σ') : k_Met l yX1_addFormula wsX1_addFormula rmX1_addFormula D (tK cs) (wK cs ad) (k_A 41 ad) [.ref (ad 5), .int p1, .int p2, .ref (ad 25), .int p4] σ none σ' := by
  refine k_of (cc := cX1_addFormula) (maxL := 6) (ret := none) (by decide) rfl (Nat.le_of_ble_eq_true rfl) ?_
  intro p e s m args below meth c ls H locs hcf hr hlk hK hZ hl hw
  generalize hQ0 : MQ below _ args s 0 0 _ = Q0
  obtain ⟨T0, hE0⟩ : ∃ T, T = fX1_addFormula N σ p1 p2 p4 := ⟨_, rfl⟩
  have hR := hE0.trans hf
  have hN0 : T0 ≠ none := by rw [hR]; exact fun h => nomatch h
  have hx := hcf.1
  have hb := hcf.2.1
  have htk := hcf.2.2.2.2
  have hown := hcf.2.2.2.1
  unfold fX1_addFormula at hE0
  replace hl : lv_has ls 6 [(0, .ref (ad 5)), (1, .int p1), (2, .int p2), (3, .ref (ad 25)), (4, .int p4)] := hl
  have J41 : ∀ (v1j41 : Int32) (v2j41 : Int32) (v4j41 : Int32) (σj41 : vS) (H : Heap) (locs : List Loc) (ls : Array Slot), lv_has ls 6 [(0, .ref (ad 5)), (1, .int v1j41), (2, .int v2j41), (4, .int v4j41)] → k_H D (wK cs ad) (k_A 41 ad) σj41 s.heap H locs → T0 = jX1_addFormula_41 N σj41 v1j41 v2j41 v4j41 → W p l e rmX1_addFormula s m args below meth c H locs 0 0 Q0 (F0 m 41 ls []) := by
    intro v1j41 v2j41 v4j41 σj41 H locs ls hl hw hE0
    unfold jX1_addFormula_41 at hE0
    refine lv_aload_n hx hb dX1_addFormula_41 rfl (lv_at hl 0 rfl) ?_
    refine kg_X1_charges hcf hK (kw_112 htk) dX1_addFormula_42 hw ?_
    refine lv_aload_n hx hb dX1_addFormula_45 rfl (lv_at hl 0 rfl) ?_
    refine kg_X1_formulaCount hcf hK (kw_117 htk) (x := (σj41.1 2)) dX1_addFormula_46 hw rfl ?_
    refine lv_iload hx hb dX1_addFormula_49 (lv_at hl 3 rfl) ?_
    obtain ⟨g1, hE0⟩ := gd_e hE0 hN0
    refine kast_A2 hcf hK dX1_addFormula_51 g1 hw (fun H locs hw => ?_)
    refine lv_aload_n hx hb dX1_addFormula_52 rfl (lv_at hl 0 rfl) ?_
    refine kg_X1_begins hcf hK (kw_113 htk) dX1_addFormula_53 hw ?_
    refine lv_aload_n hx hb dX1_addFormula_56 rfl (lv_at hl 0 rfl) ?_
    refine kg_X1_formulaCount hcf hK (kw_117 htk) (x := (σj41.1 2)) dX1_addFormula_57 hw rfl ?_
    refine lv_iload_n hx hb dX1_addFormula_60 rfl (lv_at hl 1 rfl) ?_
    obtain ⟨g2, hE0⟩ := gd_e hE0 hN0
    refine kast_A3 hcf hK dX1_addFormula_61 g2 hw (fun H locs hw => ?_)
    refine lv_aload_n hx hb dX1_addFormula_62 rfl (lv_at hl 0 rfl) ?_
    refine kg_X1_ends hcf hK (kw_115 htk) dX1_addFormula_63 hw ?_
    refine lv_aload_n hx hb dX1_addFormula_66 rfl (lv_at hl 0 rfl) ?_
    refine kg_X1_formulaCount hcf hK (kw_117 htk) (x := (σj41.1 2)) dX1_addFormula_67 hw rfl ?_
    refine lv_iload_n hx hb dX1_addFormula_70 rfl (lv_at hl 2 rfl) ?_
    obtain ⟨g3, hE0⟩ := gd_e hE0 hN0
    refine kast_A4 hcf hK dX1_addFormula_71 g3 hw (fun H locs hw => ?_)
    refine lv_aload_n hx hb dX1_addFormula_72 rfl (lv_at hl 0 rfl) ?_
    refine lv_dup hx hb dX1_addFormula_73 rfl ?_
    refine kg_X1_formulaCount hcf hK (kw_117 htk) (x := (σj41.1 2)) dX1_addFormula_74 hw rfl ?_
    refine lv_iconst (v := 1) hx hb dX1_addFormula_77 rfl ?_
    refine lv_iadd hx hb dX1_addFormula_78 ?_
    refine kp_X1_formulaCount hcf hK (kw_117 htk) dX1_addFormula_79 hw (fun H locs hw => ?_)
    exact kret_v hcf hr hlk hK hw (rt1 hR hE0) hQ0 dX1_addFormula_82
  refine lv_aload_n hx hb dX1_addFormula_0 rfl (lv_at hl 0 rfl) ?_
  refine kg_X1_formulaCount hcf hK (kw_117 htk) (x := (σ.1 2)) dX1_addFormula_1 hw rfl ?_
  refine lv_bipush (v := 6) hx hb dX1_addFormula_4 rfl ?_
  refine lv_icmp_ge (tgt := 82) hx hb dX1_addFormula_6 (by decide) (fun c9 => ?_) (fun c9 => ?_)
  · have hE0 := ite_t hE0 c9
    exact kret_v hcf hr hlk hK hw (rt1 hR hE0) hQ0 dX1_addFormula_82
  · have hE0 := ite_f hE0 c9
    refine lv_iconst (v := 0) hx hb dX1_addFormula_9 rfl ?_
    refine lv_istore hx hb dX1_addFormula_10 hl (Nat.le_of_ble_eq_true rfl) rfl (fun ls (hl : lv_has ls 6 [(5, .int (0 : Int32)), (0, .ref (ad 5)), (1, .int p1), (2, .int p2), (3, .ref (ad 25)), (4, .int p4)]) => ?_)
    obtain ⟨q, hq, hE0⟩ := bd1_e hE0 hN0
    refine k_ind (P := fun zz => ∀ (H : Heap) (locs : List Loc) (ls : Array Slot), lv_has ls 6 [(0, .ref (ad 5)), (1, .int p1), (2, .int p2), (3, .ref (ad 25)), (4, .int p4), (5, .int zz.1)] → k_H D (wK cs ad) (k_A 41 ad) zz.2 s.heap H locs → W p l e rmX1_addFormula s m args below meth c H locs 0 0 Q0 (F0 m 12 ls [])) ?_ N _ hq H locs ls (lv_sub hl [1, 2, 3, 4, 5, 0] rfl) hw
    intro sX T1 hE1 hN1 hC1 hX1
    obtain ⟨v5h12, σh12⟩ := sX
    replace hE1 : T1 = bX1_addFormula_12 N p1 p2 p4 v5h12 σh12 := hE1
    unfold bX1_addFormula_12 at hE1
    intro H locs ls hl hw
    replace hl : lv_has ls 6 [(0, .ref (ad 5)), (1, .int p1), (2, .int p2), (3, .ref (ad 25)), (4, .int p4), (5, .int v5h12)] := hl
    replace hw : k_H D (wK cs ad) (k_A 41 ad) σh12 s.heap H locs := hw
    refine lv_iload hx hb dX1_addFormula_12 (lv_at hl 5 rfl) ?_
    refine lv_iconst (v := 5) hx hb dX1_addFormula_14 rfl ?_
    refine lv_icmp_ge (tgt := 41) hx hb dX1_addFormula_15 (by decide) (fun c8 => ?_) (fun c8 => ?_)
    · have hE1 := ite_t hE1 c8
      have hq := hX1 _ hE1
      subst hq
      exact J41 p1 p2 p4 σh12 H locs ls (lv_sub hl [0, 1, 2, 4] rfl) hw hE0
    · have hE1 := ite_f hE1 c8
      refine lv_aload_n hx hb dX1_addFormula_18 rfl (lv_at hl 0 rfl) ?_
      refine kg_X1_amounts hcf hK (kw_111 htk) dX1_addFormula_19 hw ?_
      refine lv_aload_n hx hb dX1_addFormula_22 rfl (lv_at hl 0 rfl) ?_
      refine kg_X1_formulaCount hcf hK (kw_117 htk) (x := (σh12.1 2)) dX1_addFormula_23 hw rfl ?_
      obtain ⟨g4, hE1⟩ := gd_e hE1 hN1
      refine kaald_amounts hcf hK dX1_addFormula_26 rfl g4 hw ?_
      refine lv_iload hx hb dX1_addFormula_27 (lv_at hl 5 rfl) ?_
      refine lv_aload_n hx hb dX1_addFormula_29 rfl (lv_at hl 3 rfl) ?_
      refine lv_iload hx hb dX1_addFormula_30 (lv_at hl 5 rfl) ?_
      obtain ⟨g5, hE1⟩ := gd_e hE1 hN1
      refine kald_B0 hcf hK (x := (σh12.2.2.2 0 ((v5h12).toNatClampNeg))) dX1_addFormula_32 g5 hw rfl ?_
      refine lv_l2i hx hb dX1_addFormula_33 rfl ?_
      obtain ⟨g6, hE1⟩ := gd_e hE1 hN1
      refine kast_amounts hcf hK dX1_addFormula_34 g4 g6 hw (fun H locs hw => ?_)
      obtain ⟨x7, e_x7, hE1⟩ := k_lte hE1
      refine lv_iinc (k := 5) (v := x7) hx hb dX1_addFormula_35 hl rfl (Eq.symm e_x7) (Nat.le_of_ble_eq_true rfl) rfl (fun ls (hl : lv_has ls 6 [(5, .int x7), (0, .ref (ad 5)), (1, .int p1), (2, .int p2), (3, .ref (ad 25)), (4, .int p4)]) => ?_)
      refine lv_goto (tgt := 12) hx hb dX1_addFormula_38 (by decide) ?_
      exact hC1 _ hE1 H locs ls (lv_sub hl [1, 2, 3, 4, 5, 0] rfl) hw
def jX3_endFormula_21 (N : Nat) (σj21 : vS) (v1j21 : Int32) : Option (vS) :=
  if ((σj21.1 6) = 0) then (
    bd1 (fX1_addFormula N σj21 v1j21 (σj21.1 1) (σj21.1 9)) fun σ1 =>
    some σ1
  ) else (
    some σj21
  )
def fX3_endFormula (N : Nat) (σ : vS) (p1 : Int32) : Option (vS) :=
  if ((σ.1 6) = 0) then (
    bd1 (fX3_isTooMuch N σ) fun r3 =>
    if (r3 = 0) then (
      jX3_endFormula_21 N σ p1
    ) else (
      bd1 (fX3_meet N σ (-6 : Int32) p1) fun σ4 =>
      jX3_endFormula_21 N σ4 p1
    )
  ) else (
    jX3_endFormula_21 N σ p1
  )
abbrev rmX3_endFormula : Room := { frames := 1, cells := 0, slots := 0, locals := 25 }
abbrev wsX3_endFormula : List Cond := .code yX3_endFormula cX3_endFormula 2 none :: kws
theorem kcX3_endFormula {R : Room} {s : State} {args : Array Value} {own : String} {index : Nat} (htk : ∀ w ∈ kws, w.before args s = true) (hl : (Cond.methodLink own index yX3_endFormula).before args s = true) (hR : rmX3_endFormula.frames + 1 ≤ R.frames ∧ 8 + (2 + 11) + rmX3_endFormula.locals ≤ R.locals) : CallW R s args own RX3 index yX3_endFormula cX3_endFormula 2 none wsX3_endFormula rmX3_endFormula 0 0 1 :=
  ⟨callB_of 1 htk (k_good kc_343) rfl rfl rfl (kw_53 htk) hl (by decide +kernel) hR, (kw_342 htk), (kw_10 htk)⟩
set_option maxRecDepth 100000 in
set_option maxHeartbeats 4000000 in
theorem mX3_endFormula (l : Launch) (D : va_G) (cs : Nat → ClassId) (ad : Nat → Nat) (N : Nat) (σ : vS) (p1 : Int32) (σ' : vS) (hf : fX3_endFormula N σ p1 = some σ') : k_Met l yX3_endFormula wsX3_endFormula rmX3_endFormula D (tK cs) (wK cs ad) (k_A 41 ad) [.ref (ad 1), .int p1] σ none σ' := by
  refine k_of (cc := cX3_endFormula) (maxL := 2) (ret := none) (by decide) rfl (Nat.le_of_ble_eq_true rfl) ?_
  intro p e s m args below meth c ls H locs hcf hr hlk hK hZ hl hw
  generalize hQ0 : MQ below _ args s 0 0 _ = Q0
  obtain ⟨T0, hE0⟩ : ∃ T, T = fX3_endFormula N σ p1 := ⟨_, rfl⟩
  have hR := hE0.trans hf
  have hN0 : T0 ≠ none := by rw [hR]; exact fun h => nomatch h
  have hx := hcf.1
  have hb := hcf.2.1
  have htk := hcf.2.2.2.2
  have hown := hcf.2.2.2.1
  unfold fX3_endFormula at hE0
  replace hl : lv_has ls 2 [(0, .ref (ad 1)), (1, .int p1)] := hl
  have J21 : ∀ (v1j21 : Int32) (σj21 : vS) (H : Heap) (locs : List Loc) (ls : Array Slot), lv_has ls 2 [(0, .ref (ad 1)), (1, .int v1j21)] → k_H D (wK cs ad) (k_A 41 ad) σj21 s.heap H locs → T0 = jX3_endFormula_21 N σj21 v1j21 → W p l e rmX3_endFormula s m args below meth c H locs 0 0 Q0 (F0 m 21 ls []) := by
    intro v1j21 σj21 H locs ls hl hw hE0
    unfold jX3_endFormula_21 at hE0
    refine lv_aload_n hx hb dX3_endFormula_21 rfl (lv_at hl 0 rfl) ?_
    refine kg_X3_fault hcf hK (kw_154 htk) (x := (σj21.1 6)) dX3_endFormula_22 hw rfl ?_
    refine lv_if_ne (tgt := 51) hx hb dX3_endFormula_25 (by decide) (fun c2 => ?_) (fun c2 => ?_)
    · have hE0 := ite_f hE0 c2
      exact kret_v hcf hr hlk hK hw (rt1 hR hE0) hQ0 dX3_endFormula_51
    · have hE0 := ite_t hE0 c2
      refine lv_aload_n hx hb dX3_endFormula_28 rfl (lv_at hl 0 rfl) ?_
      refine kg_X3_equation hcf hK (kw_152 htk) dX3_endFormula_29 hw ?_
      refine lv_iload_n hx hb dX3_endFormula_32 rfl (lv_at hl 1 rfl) ?_
      refine lv_aload_n hx hb dX3_endFormula_33 rfl (lv_at hl 0 rfl) ?_
      refine kg_X3_text hcf hK (kw_150 htk) dX3_endFormula_34 hw ?_
      refine kg_X4_place hcf hK (kw_93 htk) (x := (σj21.1 1)) dX3_endFormula_37 hw rfl ?_
      refine lv_aload_n hx hb dX3_endFormula_40 rfl (lv_at hl 0 rfl) ?_
      refine kg_X3_totals hcf hK (kw_161 htk) dX3_endFormula_41 hw ?_
      refine lv_aload_n hx hb dX3_endFormula_44 rfl (lv_at hl 0 rfl) ?_
      refine kg_X3_charge hcf hK (kw_162 htk) (x := (σj21.1 9)) dX3_endFormula_45 hw rfl ?_
      obtain ⟨σ1, k1, hE0⟩ := bd1_e hE0 hN0
      refine k_call (va_runV (As := [.int v1j21, .int (σj21.1 1), .ref (ad 25), .int (σj21.1 9)]) (rest := []) hcf (mX1_addFormula l D cs ad N σj21 v1j21 (σj21.1 1) (σj21.1 9) σ1 k1) (kcX1_addFormula htk (kw_349 htk) ⟨Nat.le_of_ble_eq_true rfl, Nat.le_of_ble_eq_true rfl⟩) ⟨k_blind, va_recv (ci := 1) (q0 := 5) hK hw.1 rfl rfl, k_pre hK hZ hw⟩ rfl rfl hl.1 rfl (lv_room (Nat.le_of_ble_eq_true rfl)) dX3_endFormula_48 ⟨Nat.zero_le _, Nat.zero_le _⟩) hw (fun H locs hw => ?_)
      exact kret_v hcf hr hlk hK hw (rt1 hR hE0) hQ0 dX3_endFormula_51
  refine lv_aload_n hx hb dX3_endFormula_0 rfl (lv_at hl 0 rfl) ?_
  refine kg_X3_fault hcf hK (kw_154 htk) (x := (σ.1 6)) dX3_endFormula_1 hw rfl ?_
  refine lv_if_ne (tgt := 21) hx hb dX3_endFormula_4 (by decide) (fun c6 => ?_) (fun c6 => ?_)
  · have hE0 := ite_f hE0 c6
    exact J21 p1 σ H locs ls (lv_sub hl [0, 1] rfl) hw hE0
  · have hE0 := ite_t hE0 c6
    refine lv_aload_n hx hb dX3_endFormula_7 rfl (lv_at hl 0 rfl) ?_
    obtain ⟨r3, k3, hE0⟩ := bd1_e hE0 hN0
    refine k_callP (va_runV (As := []) (rest := []) hcf (mX3_isTooMuch l D cs ad N σ r3 k3) (kcX3_isTooMuch htk (kw_344 htk) ⟨Nat.le_of_ble_eq_true rfl, Nat.le_of_ble_eq_true rfl⟩) ⟨k_blind, va_recv (ci := 3) (q0 := 1) hK hw.1 rfl rfl, k_pre hK hZ hw⟩ rfl rfl hl.1 rfl (lv_room (Nat.le_of_ble_eq_true rfl)) dX3_endFormula_8 ⟨Nat.zero_le _, Nat.zero_le _⟩) ?_
    refine lv_if_eq (tgt := 21) hx hb dX3_endFormula_11 (by decide) (fun c5 => ?_) (fun c5 => ?_)
    · have hE0 := ite_t hE0 c5
      exact J21 p1 σ H locs ls (lv_sub hl [0, 1] rfl) hw hE0
    · have hE0 := ite_f hE0 c5
      refine lv_aload_n hx hb dX3_endFormula_14 rfl (lv_at hl 0 rfl) ?_
      refine lv_bipush (v := -6) hx hb dX3_endFormula_15 rfl ?_
      refine lv_iload_n hx hb dX3_endFormula_17 rfl (lv_at hl 1 rfl) ?_
      obtain ⟨σ4, k4, hE0⟩ := bd1_e hE0 hN0
      refine k_call (va_runV (As := [.int (-6 : Int32), .int p1]) (rest := []) hcf (mX3_meet l D cs ad N σ (-6 : Int32) p1 σ4 k4) (kcX3_meet htk (kw_272 htk) ⟨Nat.le_of_ble_eq_true rfl, Nat.le_of_ble_eq_true rfl⟩) ⟨k_blind, va_recv (ci := 3) (q0 := 1) hK hw.1 rfl rfl, k_pre hK hZ hw⟩ rfl rfl hl.1 rfl (lv_room (Nat.le_of_ble_eq_true rfl)) dX3_endFormula_18 ⟨Nat.zero_le _, Nat.zero_le _⟩) hw (fun H locs hw => ?_)
      exact J21 p1 σ4 H locs ls (lv_sub hl [0, 1] rfl) hw hE0
def jX3_readSign_89 (N : Nat) (σj89 : vS) : Option (Int32 × vS) :=
  some ((1 : Int32), (p_i σj89 1 ((σj89.1 1) + (1 : Int32))))
def jX3_readSign_68 (N : Nat) (σj68 : vS) (v1j68 : Int32) : Option (Int32 × vS) :=
  if (v1j68 = (43 : Int32)) then (
    jX3_readSign_89 N σj68
  ) else (
    bd1 (fX3_meet N σj68 (-2 : Int32) (σj68.1 1)) fun σ3 =>
    some ((0 : Int32), σ3)
  )
def jX3_readSign_41 (N : Nat) (σj41 : vS) (v1j41 : Int32) (v2j41 : Int32) : Option (Int32 × vS) :=
  if (v1j41 = (61 : Int32)) then (
    if (v2j41 = 0) then (
      jX3_readSign_89 N (p_i σj41 3 (σj41.1 2))
    ) else (
      jX3_readSign_68 N σj41 v1j41
    )
  ) else (
    jX3_readSign_68 N σj41 v1j41
  )
def jX3_readSign_31 (N : Nat) (σj31 : vS) (v1j31 : Int32) (v2j31 : Int32) : Option (Int32 × vS) :=
  if (v1j31 = 0) then (
    if (v2j31 = 0) then (
      jX3_readSign_41 N σj31 v1j31 v2j31
    ) else (
      some ((0 : Int32), σj31)
    )
  ) else (
    jX3_readSign_41 N σj31 v1j31 v2j31
  )
def fX3_readSign (N : Nat) (σ : vS) : Option (Int32 × vS) :=
  bd1 (fX4_skipBlanks N σ) fun σ1 =>
  bd1 (fX4_here N σ1) fun r2 =>
  if ((σ1.1 3) ≤ 0) then (
    jX3_readSign_31 N σ1 r2 (0 : Int32)
  ) else (
    jX3_readSign_31 N σ1 r2 (1 : Int32)
  )
abbrev rmX3_readSign : Room := { frames := 1, cells := 0, slots := 0, locals := 22 }
abbrev wsX3_readSign : List Cond := .code yX3_readSign cX3_readSign 3 (some .boolean) :: kws
theorem kcX3_readSign {R : Room} {s : State} {args : Array Value} {own : String} {index : Nat} (htk : ∀ w ∈ kws, w.before args s = true) (hl : (Cond.methodLink own index yX3_readSign).before args s = true) (hR : rmX3_readSign.frames + 1 ≤ R.frames ∧ 8 + (3 + 11) + rmX3_readSign.locals ≤ R.locals) : CallW R s args own RX3 index yX3_readSign cX3_readSign 3 (some .boolean) wsX3_readSign rmX3_readSign 0 0 0 :=
  ⟨callB_of 0 htk (k_good kc_356) rfl rfl rfl (kw_53 htk) hl (by decide +kernel) hR, (kw_355 htk), (kw_12 htk)⟩
set_option maxRecDepth 100000 in
set_option maxHeartbeats 4000000 in
theorem mX3_readSign (l : Launch) (D : va_G) (cs : Nat → ClassId) (ad : Nat → Nat) (N : Nat) (σ : vS) (r : Int32) (σ' : vS) (hf : fX3_readSign N σ = some (r, σ')) : k_Met l yX3_readSign wsX3_readSign rmX3_readSign D (tK cs) (wK cs ad) (k_A 41 ad) [.ref (ad 1)] σ (some (.int r)) σ' := by
  refine k_of (cc := cX3_readSign) (maxL := 3) (ret := (some .boolean)) (by decide) rfl (Nat.le_of_ble_eq_true rfl) ?_
  intro p e s m args below meth c ls H locs hcf hr hlk hK hZ hl hw
  generalize hQ0 : MQ below _ args s 0 0 _ = Q0
  obtain ⟨T0, hE0⟩ : ∃ T, T = fX3_readSign N σ := ⟨_, rfl⟩
  have hR := hE0.trans hf
  have hN0 : T0 ≠ none := by rw [hR]; exact fun h => nomatch h
  have hx := hcf.1
  have hb := hcf.2.1
  have htk := hcf.2.2.2.2
  have hown := hcf.2.2.2.1
  unfold fX3_readSign at hE0
  replace hl : lv_has ls 3 [(0, .ref (ad 1))] := hl
  have J89 : ∀ (σj89 : vS) (H : Heap) (locs : List Loc) (ls : Array Slot), lv_has ls 3 [(0, .ref (ad 1))] → k_H D (wK cs ad) (k_A 41 ad) σj89 s.heap H locs → T0 = jX3_readSign_89 N σj89 → W p l e rmX3_readSign s m args below meth c H locs 0 0 Q0 (F0 m 89 ls []) := by
    intro σj89 H locs ls hl hw hE0
    unfold jX3_readSign_89 at hE0
    refine lv_aload_n hx hb dX3_readSign_89 rfl (lv_at hl 0 rfl) ?_
    refine kg_X3_text hcf hK (kw_150 htk) dX3_readSign_90 hw ?_
    refine lv_dup hx hb dX3_readSign_93 rfl ?_
    refine kg_X4_place hcf hK (kw_93 htk) (x := (σj89.1 1)) dX3_readSign_94 hw rfl ?_
    refine lv_iconst (v := 1) hx hb dX3_readSign_97 rfl ?_
    refine lv_iadd hx hb dX3_readSign_98 ?_
    refine kp_X4_place hcf hK (kw_93 htk) dX3_readSign_99 hw (fun H locs hw => ?_)
    refine lv_iconst (v := 1) hx hb dX3_readSign_102 rfl ?_
    exact kret_z hcf hr hlk hK hw (rt2 hR hE0) hQ0 rfl dX3_readSign_103
  have J68 : ∀ (v1j68 : Int32) (σj68 : vS) (H : Heap) (locs : List Loc) (ls : Array Slot), lv_has ls 3 [(0, .ref (ad 1)), (1, .int v1j68)] → k_H D (wK cs ad) (k_A 41 ad) σj68 s.heap H locs → T0 = jX3_readSign_68 N σj68 v1j68 → W p l e rmX3_readSign s m args below meth c H locs 0 0 Q0 (F0 m 68 ls []) := by
    intro v1j68 σj68 H locs ls hl hw hE0
    unfold jX3_readSign_68 at hE0
    refine lv_iload_n hx hb dX3_readSign_68 rfl (lv_at hl 1 rfl) ?_
    refine lv_bipush (v := 43) hx hb dX3_readSign_69 rfl ?_
    refine lv_icmp_eq (tgt := 89) hx hb dX3_readSign_71 (by decide) (fun c4 => ?_) (fun c4 => ?_)
    · have hE0 := ite_t hE0 c4
      exact J89 σj68 H locs ls (lv_sub hl [0] rfl) hw hE0
    · have hE0 := ite_f hE0 c4
      refine lv_aload_n hx hb dX3_readSign_74 rfl (lv_at hl 0 rfl) ?_
      refine lv_bipush (v := -2) hx hb dX3_readSign_75 rfl ?_
      refine lv_aload_n hx hb dX3_readSign_77 rfl (lv_at hl 0 rfl) ?_
      refine kg_X3_text hcf hK (kw_150 htk) dX3_readSign_78 hw ?_
      refine kg_X4_place hcf hK (kw_93 htk) (x := (σj68.1 1)) dX3_readSign_81 hw rfl ?_
      obtain ⟨σ3, k3, hE0⟩ := bd1_e hE0 hN0
      refine k_call (va_runV (As := [.int (-2 : Int32), .int (σj68.1 1)]) (rest := []) hcf (mX3_meet l D cs ad N σj68 (-2 : Int32) (σj68.1 1) σ3 k3) (kcX3_meet htk (kw_272 htk) ⟨Nat.le_of_ble_eq_true rfl, Nat.le_of_ble_eq_true rfl⟩) ⟨k_blind, va_recv (ci := 3) (q0 := 1) hK hw.1 rfl rfl, k_pre hK hZ hw⟩ rfl rfl hl.1 rfl (lv_room (Nat.le_of_ble_eq_true rfl)) dX3_readSign_84 ⟨Nat.zero_le _, Nat.zero_le _⟩) hw (fun H locs hw => ?_)
      refine lv_iconst (v := 0) hx hb dX3_readSign_87 rfl ?_
      exact kret_z hcf hr hlk hK hw (rt2 hR hE0) hQ0 rfl dX3_readSign_88
  have J41 : ∀ (v1j41 : Int32) (v2j41 : Int32) (σj41 : vS) (H : Heap) (locs : List Loc) (ls : Array Slot), lv_has ls 3 [(0, .ref (ad 1)), (1, .int v1j41), (2, .int v2j41)] → k_H D (wK cs ad) (k_A 41 ad) σj41 s.heap H locs → T0 = jX3_readSign_41 N σj41 v1j41 v2j41 → W p l e rmX3_readSign s m args below meth c H locs 0 0 Q0 (F0 m 41 ls []) := by
    intro v1j41 v2j41 σj41 H locs ls hl hw hE0
    unfold jX3_readSign_41 at hE0
    refine lv_iload_n hx hb dX3_readSign_41 rfl (lv_at hl 1 rfl) ?_
    refine lv_bipush (v := 61) hx hb dX3_readSign_42 rfl ?_
    refine lv_icmp_ne (tgt := 68) hx hb dX3_readSign_44 (by decide) (fun c6 => ?_) (fun c6 => ?_)
    · have hE0 := ite_f hE0 c6
      exact J68 v1j41 σj41 H locs ls (lv_sub hl [0, 1] rfl) hw hE0
    · have hE0 := ite_t hE0 c6
      refine lv_iload_n hx hb dX3_readSign_47 rfl (lv_at hl 2 rfl) ?_
      refine lv_if_ne (tgt := 68) hx hb dX3_readSign_48 (by decide) (fun c5 => ?_) (fun c5 => ?_)
      · have hE0 := ite_f hE0 c5
        exact J68 v1j41 σj41 H locs ls (lv_sub hl [0, 1] rfl) hw hE0
      · have hE0 := ite_t hE0 c5
        refine lv_aload_n hx hb dX3_readSign_51 rfl (lv_at hl 0 rfl) ?_
        refine kg_X3_equation hcf hK (kw_152 htk) dX3_readSign_52 hw ?_
        refine lv_aload_n hx hb dX3_readSign_55 rfl (lv_at hl 0 rfl) ?_
        refine kg_X3_equation hcf hK (kw_152 htk) dX3_readSign_56 hw ?_
        refine kg_X1_formulaCount hcf hK (kw_118 htk) (x := (σj41.1 2)) dX3_readSign_59 hw rfl ?_
        refine kp_X1_reactantCount hcf hK (kw_124 htk) dX3_readSign_62 hw (fun H locs hw => ?_)
        refine lv_goto (tgt := 89) hx hb dX3_readSign_65 (by decide) ?_
        exact J89 (p_i σj41 3 (σj41.1 2)) H locs ls (lv_sub hl [0] rfl) hw hE0
  have J31 : ∀ (v1j31 : Int32) (v2j31 : Int32) (σj31 : vS) (H : Heap) (locs : List Loc) (ls : Array Slot), lv_has ls 3 [(0, .ref (ad 1)), (1, .int v1j31), (2, .int v2j31)] → k_H D (wK cs ad) (k_A 41 ad) σj31 s.heap H locs → T0 = jX3_readSign_31 N σj31 v1j31 v2j31 → W p l e rmX3_readSign s m args below meth c H locs 0 0 Q0 (F0 m 31 ls []) := by
    intro v1j31 v2j31 σj31 H locs ls hl hw hE0
    unfold jX3_readSign_31 at hE0
    refine lv_iload_n hx hb dX3_readSign_31 rfl (lv_at hl 1 rfl) ?_
    refine lv_if_ne (tgt := 41) hx hb dX3_readSign_32 (by decide) (fun c8 => ?_) (fun c8 => ?_)
    · have hE0 := ite_f hE0 c8
      exact J41 v1j31 v2j31 σj31 H locs ls (lv_sub hl [0, 1, 2] rfl) hw hE0
    · have hE0 := ite_t hE0 c8
      refine lv_iload_n hx hb dX3_readSign_35 rfl (lv_at hl 2 rfl) ?_
      refine lv_if_eq (tgt := 41) hx hb dX3_readSign_36 (by decide) (fun c7 => ?_) (fun c7 => ?_)
      · have hE0 := ite_t hE0 c7
        exact J41 v1j31 v2j31 σj31 H locs ls (lv_sub hl [0, 1, 2] rfl) hw hE0
      · have hE0 := ite_f hE0 c7
        refine lv_iconst (v := 0) hx hb dX3_readSign_39 rfl ?_
        exact kret_z hcf hr hlk hK hw (rt2 hR hE0) hQ0 rfl dX3_readSign_40
  refine lv_aload_n hx hb dX3_readSign_0 rfl (lv_at hl 0 rfl) ?_
  refine kg_X3_text hcf hK (kw_150 htk) dX3_readSign_1 hw ?_
  obtain ⟨σ1, k1, hE0⟩ := bd1_e hE0 hN0
  refine k_call (va_runV (As := []) (rest := []) hcf (mX4_skipBlanks l D cs ad N σ σ1 k1) (kcX4_skipBlanks htk (kw_261 htk) ⟨Nat.le_of_ble_eq_true rfl, Nat.le_of_ble_eq_true rfl⟩) ⟨k_blind, va_recv (ci := 4) (q0 := 4) hK hw.1 rfl rfl, k_pre hK hZ hw⟩ rfl rfl hl.1 rfl (lv_room (Nat.le_of_ble_eq_true rfl)) dX3_readSign_4 ⟨Nat.zero_le _, Nat.zero_le _⟩) hw (fun H locs hw => ?_)
  refine lv_aload_n hx hb dX3_readSign_7 rfl (lv_at hl 0 rfl) ?_
  refine kg_X3_text hcf hK (kw_150 htk) dX3_readSign_8 hw ?_
  obtain ⟨r2, k2, hE0⟩ := bd1_e hE0 hN0
  refine k_callP (va_runV (As := []) (rest := []) hcf (mX4_here l D cs ad N σ1 r2 k2) (kcX4_here htk (kw_276 htk) ⟨Nat.le_of_ble_eq_true rfl, Nat.le_of_ble_eq_true rfl⟩) ⟨k_blind, va_recv (ci := 4) (q0 := 4) hK hw.1 rfl rfl, k_pre hK hZ hw⟩ rfl rfl hl.1 rfl (lv_room (Nat.le_of_ble_eq_true rfl)) dX3_readSign_11 ⟨Nat.zero_le _, Nat.zero_le _⟩) ?_
  refine lv_istore_n hx hb dX3_readSign_14 rfl hl (Nat.le_of_ble_eq_true rfl) rfl (fun ls (hl : lv_has ls 3 [(1, .int r2), (0, .ref (ad 1))]) => ?_)
  refine lv_aload_n hx hb dX3_readSign_15 rfl (lv_at hl 1 rfl) ?_
  refine kg_X3_equation hcf hK (kw_152 htk) dX3_readSign_16 hw ?_
  refine kg_X1_reactantCount hcf hK (kw_124 htk) (x := (σ1.1 3)) dX3_readSign_19 hw rfl ?_
  refine lv_if_le (tgt := 29) hx hb dX3_readSign_22 (by decide) (fun c9 => ?_) (fun c9 => ?_)
  · have hE0 := ite_t hE0 c9
    refine lv_iconst (v := 0) hx hb dX3_readSign_29 rfl ?_
    refine lv_istore_n hx hb dX3_readSign_30 rfl hl (Nat.le_of_ble_eq_true rfl) rfl (fun ls (hl : lv_has ls 3 [(2, .int (0 : Int32)), (1, .int r2), (0, .ref (ad 1))]) => ?_)
    exact J31 r2 (0 : Int32) σ1 H locs ls (lv_sub hl [2, 1, 0] rfl) hw hE0
  · have hE0 := ite_f hE0 c9
    refine lv_iconst (v := 1) hx hb dX3_readSign_25 rfl ?_
    refine lv_goto (tgt := 30) hx hb dX3_readSign_26 (by decide) ?_
    refine lv_istore_n hx hb dX3_readSign_30 rfl hl (Nat.le_of_ble_eq_true rfl) rfl (fun ls (hl : lv_has ls 3 [(2, .int (1 : Int32)), (1, .int r2), (0, .ref (ad 1))]) => ?_)
    exact J31 r2 (1 : Int32) σ1 H locs ls (lv_sub hl [2, 1, 0] rfl) hw hE0
def jX3_readEquation_134 (N : Nat) (σj134 : vS) : Option (vS) :=
  some σj134
def jX3_readEquation_103_29 (N : Nat) (σj103 : vS) (v2j103 : Int32) (v3j103 : Int32) : Option ((Int32 × Int32 × vS) ⊕ (vS)) :=
  bd1 (fX3_endFormula N σj103 v3j103) fun σ7 =>
  if ((σ7.1 6) = 0) then (
    bd2 (fX3_readSign N σ7) fun r9 σ9 =>
    if (r9 = 0) then (
      k_lt (v2j103 + (1 : Int32)) fun x10 =>
      some (.inl ((0 : Int32), x10, σ9))
    ) else (
      k_lt (v2j103 + (1 : Int32)) fun x11 =>
      some (.inl ((1 : Int32), x11, σ9))
    )
  ) else (
    k_lt (v2j103 + (1 : Int32)) fun x8 =>
    some (.inl ((0 : Int32), x8, σ7))
  )
def bX3_readEquation_29 (N : Nat) (v1h29 : Int32) (v2h29 : Int32) (σh29 : vS) : Option ((Int32 × Int32 × vS) ⊕ (vS)) :=
  if ((6 : Int32) < v2h29) then (
    some (.inr σh29)
  ) else (
    if (v1h29 = 0) then (
      some (.inr σh29)
    ) else (
      bd1 (fX4_skipBlanks N σh29) fun σ2 =>
      k_lt (σ2.1 1) fun x3 =>
      bd1 (fX3_beginFormula N σ2) fun σ4 =>
      if ((σ4.1 2) < (6 : Int32)) then (
        bd1 (fX4_here N σ4) fun r5 =>
        if (r5 = (101 : Int32)) then (
          bd1 (fX3_readElectron N σ4) fun σ14 =>
          jX3_readEquation_103_29 N σ14 v2h29 x3
        ) else (
          bd1 (fX3_readFormula N σ4) fun σ6 =>
          jX3_readEquation_103_29 N σ6 v2h29 x3
        )
      ) else (
        bd1 (fX3_meet N σ4 (-5 : Int32) x3) fun σ16 =>
        jX3_readEquation_103_29 N σ16 v2h29 x3
      )
    )
  )
def fX3_readEquation (N : Nat) (σ : vS) : Option (vS) :=
  bd1 (fX1_clear N (p_i (p_i (p_i σ 6 (0 : Int32)) 7 (-1 : Int32)) 1 (0 : Int32))) fun σ1 =>
  bd1 (k_itr (fun zz => bX3_readEquation_29 N zz.1 zz.2.1 zz.2.2) N ((1 : Int32), (0 : Int32), σ1)) fun q => jX3_readEquation_134 N q
abbrev rmX3_readEquation : Room := { frames := 5, cells := 0, slots := 0, locals := 117 }
abbrev wsX3_readEquation : List Cond := .code yX3_readEquation cX3_readEquation 4 none :: kws
theorem kcX3_readEquation {R : Room} {s : State} {args : Array Value} {own : String} {index : Nat} (htk : ∀ w ∈ kws, w.before args s = true) (hl : (Cond.methodLink own index yX3_readEquation).before args s = true) (hR : rmX3_readEquation.frames + 1 ≤ R.frames ∧ 8 + (4 + 11) + rmX3_readEquation.locals ≤ R.locals) : CallW R s args own RX3 index yX3_readEquation cX3_readEquation 4 none wsX3_readEquation rmX3_readEquation 0 0 0 :=
  ⟨callB_of 0 htk (k_good kc_256) rfl rfl rfl (kw_53 htk) hl (by decide +kernel) hR, (kw_254 htk), (kw_255 htk)⟩
set_option maxRecDepth 100000 in
set_option maxHeartbeats 4000000 in
theorem mX3_readEquation (l : Launch) (D : va_G) (cs : Nat → ClassId) (ad : Nat → Nat) (N : Nat) (σ : vS) (σ' : vS) (hf : fX3_readEquation N σ = some σ') : k_Met l yX3_readEquation wsX3_readEquation rmX3_readEquation D (tK cs) (wK cs ad) (k_A 41 ad) [.ref (ad 1)] σ none σ' := by
  refine k_of (cc := cX3_readEquation) (maxL := 4) (ret := none) (by decide) rfl (Nat.le_of_ble_eq_true rfl) ?_
  intro p e s m args below meth c ls H locs hcf hr hlk hK hZ hl hw
  generalize hQ0 : MQ below _ args s 0 0 _ = Q0
  obtain ⟨T0, hE0⟩ : ∃ T, T = fX3_readEquation N σ := ⟨_, rfl⟩
  have hR := hE0.trans hf
  have hN0 : T0 ≠ none := by rw [hR]; exact fun h => nomatch h
  have hx := hcf.1
  have hb := hcf.2.1
  have htk := hcf.2.2.2.2
  have hown := hcf.2.2.2.1
  unfold fX3_readEquation at hE0
  replace hl : lv_has ls 4 [(0, .ref (ad 1))] := hl
  have J134 : ∀ (σj134 : vS) (H : Heap) (locs : List Loc) (ls : Array Slot), lv_has ls 4 [] → k_H D (wK cs ad) (k_A 41 ad) σj134 s.heap H locs → T0 = jX3_readEquation_134 N σj134 → W p l e rmX3_readEquation s m args below meth c H locs 0 0 Q0 (F0 m 134 ls []) := by
    intro σj134 H locs ls hl hw hE0
    unfold jX3_readEquation_134 at hE0
    exact kret_v hcf hr hlk hK hw (rt1 hR hE0) hQ0 dX3_readEquation_134
  refine lv_aload_n hx hb dX3_readEquation_0 rfl (lv_at hl 0 rfl) ?_
  refine lv_iconst (v := 0) hx hb dX3_readEquation_1 rfl ?_
  refine kp_X3_fault hcf hK (kw_154 htk) dX3_readEquation_2 hw (fun H locs hw => ?_)
  refine lv_aload_n hx hb dX3_readEquation_5 rfl (lv_at hl 0 rfl) ?_
  refine lv_iconst (v := -1) hx hb dX3_readEquation_6 rfl ?_
  refine kp_X3_faultPlace hcf hK (kw_156 htk) dX3_readEquation_7 hw (fun H locs hw => ?_)
  refine lv_aload_n hx hb dX3_readEquation_10 rfl (lv_at hl 0 rfl) ?_
  refine kg_X3_text hcf hK (kw_150 htk) dX3_readEquation_11 hw ?_
  refine lv_iconst (v := 0) hx hb dX3_readEquation_14 rfl ?_
  refine kp_X4_place hcf hK (kw_93 htk) dX3_readEquation_15 hw (fun H locs hw => ?_)
  refine lv_aload_n hx hb dX3_readEquation_18 rfl (lv_at hl 0 rfl) ?_
  refine kg_X3_equation hcf hK (kw_152 htk) dX3_readEquation_19 hw ?_
  obtain ⟨σ1, k1, hE0⟩ := bd1_e hE0 hN0
  refine k_call (va_runV (As := []) (rest := []) hcf (mX1_clear l D cs ad N (p_i (p_i (p_i σ 6 (0 : Int32)) 7 (-1 : Int32)) 1 (0 : Int32)) σ1 k1) (kcX1_clear htk (kw_257 htk) ⟨Nat.le_of_ble_eq_true rfl, Nat.le_of_ble_eq_true rfl⟩) ⟨k_blind, va_recv (ci := 1) (q0 := 5) hK hw.1 rfl rfl, k_pre hK hZ hw⟩ rfl rfl hl.1 rfl (lv_room (Nat.le_of_ble_eq_true rfl)) dX3_readEquation_22 ⟨Nat.zero_le _, Nat.zero_le _⟩) hw (fun H locs hw => ?_)
  refine lv_iconst (v := 1) hx hb dX3_readEquation_25 rfl ?_
  refine lv_istore_n hx hb dX3_readEquation_26 rfl hl (Nat.le_of_ble_eq_true rfl) rfl (fun ls (hl : lv_has ls 4 [(1, .int (1 : Int32)), (0, .ref (ad 1))]) => ?_)
  refine lv_iconst (v := 0) hx hb dX3_readEquation_27 rfl ?_
  refine lv_istore_n hx hb dX3_readEquation_28 rfl hl (Nat.le_of_ble_eq_true rfl) rfl (fun ls (hl : lv_has ls 4 [(2, .int (0 : Int32)), (1, .int (1 : Int32)), (0, .ref (ad 1))]) => ?_)
  obtain ⟨q, hq, hE0⟩ := bd1_e hE0 hN0
  refine k_ind (P := fun zz => ∀ (H : Heap) (locs : List Loc) (ls : Array Slot), lv_has ls 4 [(0, .ref (ad 1)), (1, .int zz.1), (2, .int zz.2.1)] → k_H D (wK cs ad) (k_A 41 ad) zz.2.2 s.heap H locs → W p l e rmX3_readEquation s m args below meth c H locs 0 0 Q0 (F0 m 29 ls [])) ?_ N _ hq H locs ls (lv_sub hl [2, 1, 0] rfl) hw
  intro sX T1 hE1 hN1 hC1 hX1
  obtain ⟨v1h29, v2h29, σh29⟩ := sX
  replace hE1 : T1 = bX3_readEquation_29 N v1h29 v2h29 σh29 := hE1
  unfold bX3_readEquation_29 at hE1
  have J103_29 : ∀ (v2j103 : Int32) (v3j103 : Int32) (σj103 : vS) (H : Heap) (locs : List Loc) (ls : Array Slot), lv_has ls 4 [(0, .ref (ad 1)), (2, .int v2j103), (3, .int v3j103)] → k_H D (wK cs ad) (k_A 41 ad) σj103 s.heap H locs → T1 = jX3_readEquation_103_29 N σj103 v2j103 v3j103 → W p l e rmX3_readEquation s m args below meth c H locs 0 0 Q0 (F0 m 103 ls []) := by
    intro v2j103 v3j103 σj103 H locs ls hl hw hE1
    unfold jX3_readEquation_103_29 at hE1
    refine lv_aload_n hx hb dX3_readEquation_103 rfl (lv_at hl 0 rfl) ?_
    refine lv_iload_n hx hb dX3_readEquation_104 rfl (lv_at hl 2 rfl) ?_
    obtain ⟨σ7, k7, hE1⟩ := bd1_e hE1 hN1
    refine k_call (va_runV (As := [.int v3j103]) (rest := []) hcf (mX3_endFormula l D cs ad N σj103 v3j103 σ7 k7) (kcX3_endFormula htk (kw_340 htk) ⟨Nat.le_of_ble_eq_true rfl, Nat.le_of_ble_eq_true rfl⟩) ⟨k_blind, va_recv (ci := 3) (q0 := 1) hK hw.1 rfl rfl, k_pre hK hZ hw⟩ rfl rfl hl.1 rfl (lv_room (Nat.le_of_ble_eq_true rfl)) dX3_readEquation_105 ⟨Nat.zero_le _, Nat.zero_le _⟩) hw (fun H locs hw => ?_)
    refine lv_aload_n hx hb dX3_readEquation_108 rfl (lv_at hl 0 rfl) ?_
    refine kg_X3_fault hcf hK (kw_154 htk) (x := (σ7.1 6)) dX3_readEquation_109 hw rfl ?_
    refine lv_if_ne (tgt := 126) hx hb dX3_readEquation_112 (by decide) (fun c13 => ?_) (fun c13 => ?_)
    · have hE1 := ite_f hE1 c13
      refine lv_iconst (v := 0) hx hb dX3_readEquation_126 rfl ?_
      refine lv_istore_n hx hb dX3_readEquation_127 rfl hl (Nat.le_of_ble_eq_true rfl) rfl (fun ls (hl : lv_has ls 4 [(1, .int (0 : Int32)), (0, .ref (ad 1)), (2, .int v2j103), (3, .int v3j103)]) => ?_)
      obtain ⟨x8, e_x8, hE1⟩ := k_lte hE1
      refine lv_iinc (k := 2) (v := x8) hx hb dX3_readEquation_128 hl rfl (Eq.symm e_x8) (Nat.le_of_ble_eq_true rfl) rfl (fun ls (hl : lv_has ls 4 [(2, .int x8), (1, .int (0 : Int32)), (0, .ref (ad 1)), (3, .int v3j103)]) => ?_)
      refine lv_goto (tgt := 29) hx hb dX3_readEquation_131 (by decide) ?_
      exact hC1 _ hE1 H locs ls (lv_sub hl [2, 1, 0] rfl) hw
    · have hE1 := ite_t hE1 c13
      refine lv_aload_n hx hb dX3_readEquation_115 rfl (lv_at hl 0 rfl) ?_
      obtain ⟨r9, σ9, k9, hE1⟩ := bd2_e hE1 hN1
      refine k_call (va_runV (As := []) (rest := []) hcf (mX3_readSign l D cs ad N σ7 r9 σ9 k9) (kcX3_readSign htk (kw_353 htk) ⟨Nat.le_of_ble_eq_true rfl, Nat.le_of_ble_eq_true rfl⟩) ⟨k_blind, va_recv (ci := 3) (q0 := 1) hK hw.1 rfl rfl, k_pre hK hZ hw⟩ rfl rfl hl.1 rfl (lv_room (Nat.le_of_ble_eq_true rfl)) dX3_readEquation_116 ⟨Nat.zero_le _, Nat.zero_le _⟩) hw (fun H locs hw => ?_)
      refine lv_if_eq (tgt := 126) hx hb dX3_readEquation_119 (by decide) (fun c12 => ?_) (fun c12 => ?_)
      · have hE1 := ite_t hE1 c12
        refine lv_iconst (v := 0) hx hb dX3_readEquation_126 rfl ?_
        refine lv_istore_n hx hb dX3_readEquation_127 rfl hl (Nat.le_of_ble_eq_true rfl) rfl (fun ls (hl : lv_has ls 4 [(1, .int (0 : Int32)), (0, .ref (ad 1)), (2, .int v2j103), (3, .int v3j103)]) => ?_)
        obtain ⟨x10, e_x10, hE1⟩ := k_lte hE1
        refine lv_iinc (k := 2) (v := x10) hx hb dX3_readEquation_128 hl rfl (Eq.symm e_x10) (Nat.le_of_ble_eq_true rfl) rfl (fun ls (hl : lv_has ls 4 [(2, .int x10), (1, .int (0 : Int32)), (0, .ref (ad 1)), (3, .int v3j103)]) => ?_)
        refine lv_goto (tgt := 29) hx hb dX3_readEquation_131 (by decide) ?_
        exact hC1 _ hE1 H locs ls (lv_sub hl [2, 1, 0] rfl) hw
      · have hE1 := ite_f hE1 c12
        refine lv_iconst (v := 1) hx hb dX3_readEquation_122 rfl ?_
        refine lv_goto (tgt := 127) hx hb dX3_readEquation_123 (by decide) ?_
        refine lv_istore_n hx hb dX3_readEquation_127 rfl hl (Nat.le_of_ble_eq_true rfl) rfl (fun ls (hl : lv_has ls 4 [(1, .int (1 : Int32)), (0, .ref (ad 1)), (2, .int v2j103), (3, .int v3j103)]) => ?_)
        obtain ⟨x11, e_x11, hE1⟩ := k_lte hE1
        refine lv_iinc (k := 2) (v := x11) hx hb dX3_readEquation_128 hl rfl (Eq.symm e_x11) (Nat.le_of_ble_eq_true rfl) rfl (fun ls (hl : lv_has ls 4 [(2, .int x11), (1, .int (1 : Int32)), (0, .ref (ad 1)), (3, .int v3j103)]) => ?_)
        refine lv_goto (tgt := 29) hx hb dX3_readEquation_131 (by decide) ?_
        exact hC1 _ hE1 H locs ls (lv_sub hl [2, 1, 0] rfl) hw
  intro H locs ls hl hw
  replace hl : lv_has ls 4 [(0, .ref (ad 1)), (1, .int v1h29), (2, .int v2h29)] := hl
  replace hw : k_H D (wK cs ad) (k_A 41 ad) σh29 s.heap H locs := hw
  refine lv_iload_n hx hb dX3_readEquation_29 rfl (lv_at hl 2 rfl) ?_
  refine lv_bipush (v := 6) hx hb dX3_readEquation_30 rfl ?_
  refine lv_icmp_gt (tgt := 134) hx hb dX3_readEquation_32 (by decide) (fun c19 => ?_) (fun c19 => ?_)
  · have hE1 := ite_t hE1 c19
    have hq := hX1 _ hE1
    subst hq
    exact J134 σh29 H locs ls (lv_sub hl [] rfl) hw hE0
  · have hE1 := ite_f hE1 c19
    refine lv_iload_n hx hb dX3_readEquation_35 rfl (lv_at hl 1 rfl) ?_
    refine lv_if_eq (tgt := 134) hx hb dX3_readEquation_36 (by decide) (fun c18 => ?_) (fun c18 => ?_)
    · have hE1 := ite_t hE1 c18
      have hq := hX1 _ hE1
      subst hq
      exact J134 σh29 H locs ls (lv_sub hl [] rfl) hw hE0
    · have hE1 := ite_f hE1 c18
      refine lv_aload_n hx hb dX3_readEquation_39 rfl (lv_at hl 0 rfl) ?_
      refine kg_X3_text hcf hK (kw_150 htk) dX3_readEquation_40 hw ?_
      obtain ⟨σ2, k2, hE1⟩ := bd1_e hE1 hN1
      refine k_call (va_runV (As := []) (rest := []) hcf (mX4_skipBlanks l D cs ad N σh29 σ2 k2) (kcX4_skipBlanks htk (kw_261 htk) ⟨Nat.le_of_ble_eq_true rfl, Nat.le_of_ble_eq_true rfl⟩) ⟨k_blind, va_recv (ci := 4) (q0 := 4) hK hw.1 rfl rfl, k_pre hK hZ hw⟩ rfl rfl hl.1 rfl (lv_room (Nat.le_of_ble_eq_true rfl)) dX3_readEquation_43 ⟨Nat.zero_le _, Nat.zero_le _⟩) hw (fun H locs hw => ?_)
      refine lv_aload_n hx hb dX3_readEquation_46 rfl (lv_at hl 0 rfl) ?_
      refine kg_X3_text hcf hK (kw_150 htk) dX3_readEquation_47 hw ?_
      refine kg_X4_place hcf hK (kw_93 htk) (x := (σ2.1 1)) dX3_readEquation_50 hw rfl ?_
      refine lv_topi (fun x3 e_x3 => ?_)
      have hE1 := k_lts hE1 e_x3
      refine lv_istore_n hx hb dX3_readEquation_53 rfl hl (Nat.le_of_ble_eq_true rfl) rfl (fun ls (hl : lv_has ls 4 [(3, .int x3), (0, .ref (ad 1)), (1, .int v1h29), (2, .int v2h29)]) => ?_)
      refine lv_aload_n hx hb dX3_readEquation_54 rfl (lv_at hl 1 rfl) ?_
      obtain ⟨σ4, k4, hE1⟩ := bd1_e hE1 hN1
      refine k_call (va_runV (As := []) (rest := []) hcf (mX3_beginFormula l D cs ad N σ2 σ4 k4) (kcX3_beginFormula htk (kw_265 htk) ⟨Nat.le_of_ble_eq_true rfl, Nat.le_of_ble_eq_true rfl⟩) ⟨k_blind, va_recv (ci := 3) (q0 := 1) hK hw.1 rfl rfl, k_pre hK hZ hw⟩ rfl rfl hl.1 rfl (lv_room (Nat.le_of_ble_eq_true rfl)) dX3_readEquation_55 ⟨Nat.zero_le _, Nat.zero_le _⟩) hw (fun H locs hw => ?_)
      refine lv_aload_n hx hb dX3_readEquation_58 rfl (lv_at hl 1 rfl) ?_
      refine kg_X3_equation hcf hK (kw_152 htk) dX3_readEquation_59 hw ?_
      refine kg_X1_formulaCount hcf hK (kw_118 htk) (x := (σ4.1 2)) dX3_readEquation_62 hw rfl ?_
      refine lv_bipush (v := 6) hx hb dX3_readEquation_65 rfl ?_
      refine lv_icmp_lt (tgt := 80) hx hb dX3_readEquation_67 (by decide) (fun c17 => ?_) (fun c17 => ?_)
      · have hE1 := ite_t hE1 c17
        refine lv_aload_n hx hb dX3_readEquation_80 rfl (lv_at hl 1 rfl) ?_
        refine kg_X3_text hcf hK (kw_150 htk) dX3_readEquation_81 hw ?_
        obtain ⟨r5, k5, hE1⟩ := bd1_e hE1 hN1
        refine k_callP (va_runV (As := []) (rest := []) hcf (mX4_here l D cs ad N σ4 r5 k5) (kcX4_here htk (kw_276 htk) ⟨Nat.le_of_ble_eq_true rfl, Nat.le_of_ble_eq_true rfl⟩) ⟨k_blind, va_recv (ci := 4) (q0 := 4) hK hw.1 rfl rfl, k_pre hK hZ hw⟩ rfl rfl hl.1 rfl (lv_room (Nat.le_of_ble_eq_true rfl)) dX3_readEquation_84 ⟨Nat.zero_le _, Nat.zero_le _⟩) ?_
        refine lv_bipush (v := 101) hx hb dX3_readEquation_87 rfl ?_
        refine lv_icmp_ne (tgt := 99) hx hb dX3_readEquation_89 (by decide) (fun c15 => ?_) (fun c15 => ?_)
        · have hE1 := ite_f hE1 c15
          refine lv_aload_n hx hb dX3_readEquation_99 rfl (lv_at hl 1 rfl) ?_
          obtain ⟨σ6, k6, hE1⟩ := bd1_e hE1 hN1
          refine k_call (va_runV (As := []) (rest := []) hcf (mX3_readFormula l D cs ad N σ4 σ6 k6) (kcX3_readFormula htk (kw_292 htk) ⟨Nat.le_of_ble_eq_true rfl, Nat.le_of_ble_eq_true rfl⟩) ⟨k_blind, va_recv (ci := 3) (q0 := 1) hK hw.1 rfl rfl, k_pre hK hZ hw⟩ rfl rfl hl.1 rfl (lv_room (Nat.le_of_ble_eq_true rfl)) dX3_readEquation_100 ⟨Nat.zero_le _, Nat.zero_le _⟩) hw (fun H locs hw => ?_)
          exact J103_29 v2h29 x3 σ6 H locs ls (lv_sub hl [1, 3, 0] rfl) hw hE1
        · have hE1 := ite_t hE1 c15
          refine lv_aload_n hx hb dX3_readEquation_92 rfl (lv_at hl 1 rfl) ?_
          obtain ⟨σ14, k14, hE1⟩ := bd1_e hE1 hN1
          refine k_call (va_runV (As := []) (rest := []) hcf (mX3_readElectron l D cs ad N σ4 σ14 k14) (kcX3_readElectron htk (kw_280 htk) ⟨Nat.le_of_ble_eq_true rfl, Nat.le_of_ble_eq_true rfl⟩) ⟨k_blind, va_recv (ci := 3) (q0 := 1) hK hw.1 rfl rfl, k_pre hK hZ hw⟩ rfl rfl hl.1 rfl (lv_room (Nat.le_of_ble_eq_true rfl)) dX3_readEquation_93 ⟨Nat.zero_le _, Nat.zero_le _⟩) hw (fun H locs hw => ?_)
          refine lv_goto (tgt := 103) hx hb dX3_readEquation_96 (by decide) ?_
          exact J103_29 v2h29 x3 σ14 H locs ls (lv_sub hl [1, 3, 0] rfl) hw hE1
      · have hE1 := ite_f hE1 c17
        refine lv_aload_n hx hb dX3_readEquation_70 rfl (lv_at hl 1 rfl) ?_
        refine lv_bipush (v := -5) hx hb dX3_readEquation_71 rfl ?_
        refine lv_iload_n hx hb dX3_readEquation_73 rfl (lv_at hl 0 rfl) ?_
        obtain ⟨σ16, k16, hE1⟩ := bd1_e hE1 hN1
        refine k_call (va_runV (As := [.int (-5 : Int32), .int x3]) (rest := []) hcf (mX3_meet l D cs ad N σ4 (-5 : Int32) x3 σ16 k16) (kcX3_meet htk (kw_272 htk) ⟨Nat.le_of_ble_eq_true rfl, Nat.le_of_ble_eq_true rfl⟩) ⟨k_blind, va_recv (ci := 3) (q0 := 1) hK hw.1 rfl rfl, k_pre hK hZ hw⟩ rfl rfl hl.1 rfl (lv_room (Nat.le_of_ble_eq_true rfl)) dX3_readEquation_74 ⟨Nat.zero_le _, Nat.zero_le _⟩) hw (fun H locs hw => ?_)
        refine lv_goto (tgt := 103) hx hb dX3_readEquation_77 (by decide) ?_
        exact J103_29 v2h29 x3 σ16 H locs ls (lv_sub hl [1, 3, 0] rfl) hw hE1
def fX1_containsFormula (N : Nat) (σ : vS) (p1 : Int32) : Option (Int32) :=
  if (p1 < 0) then (
    some (0 : Int32)
  ) else (
    if ((σ.1 2) ≤ p1) then (
      some (0 : Int32)
    ) else (
      some (1 : Int32)
    )
  )
abbrev rmX1_containsFormula : Room := { frames := 0, cells := 0, slots := 0, locals := 0 }
abbrev wsX1_containsFormula : List Cond := .code yX1_containsFormula cX1_containsFormula 2 (some .boolean) :: kws
theorem kcX1_containsFormula {R : Room} {s : State} {args : Array Value} {own : String} {index : Nat} (htk : ∀ w ∈ kws, w.before args s = true) (hl : (Cond.methodLink own index yX1_containsFormula).before args s = true) (hR : rmX1_containsFormula.frames + 1 ≤ R.frames ∧ 8 + (2 + 11) + rmX1_containsFormula.locals ≤ R.locals) : CallW R s args own RX1 index yX1_containsFormula cX1_containsFormula 2 (some .boolean) wsX1_containsFormula rmX1_containsFormula 0 0 1 :=
  ⟨callB_of 1 htk (k_good kc_373) rfl rfl rfl (kw_55 htk) hl (by decide +kernel) hR, (kw_371 htk), (kw_372 htk)⟩
set_option maxRecDepth 100000 in
set_option maxHeartbeats 4000000 in
theorem mX1_containsFormula (l : Launch) (D : va_G) (cs : Nat → ClassId) (ad : Nat → Nat) (N : Nat) (σ : vS) (p1 : Int32) (r : Int32) (hf : fX1_containsFormula N σ p1 = some r) : k_MP l yX1_containsFormula wsX1_containsFormula rmX1_containsFormula D (tK cs) (wK cs ad) [.ref (ad 5), .int p1] σ (.int r) := by
  refine k_ofP (cc := cX1_containsFormula) (maxL := 2) (ret := (some .boolean)) (by decide) rfl (Nat.le_of_ble_eq_true rfl) ?_
  intro p e s m args below meth c ls hcf hr hlk hK hZ hl hw
  generalize hQ0 : MQ below _ args s 0 0 _ = Q0
  obtain ⟨T0, hE0⟩ : ∃ T, T = fX1_containsFormula N σ p1 := ⟨_, rfl⟩
  have hR := hE0.trans hf
  have hN0 : T0 ≠ none := by rw [hR]; exact fun h => nomatch h
  have hx := hcf.1
  have hb := hcf.2.1
  have htk := hcf.2.2.2.2
  have hown := hcf.2.2.2.1
  unfold fX1_containsFormula at hE0
  replace hl : lv_has ls 2 [(0, .ref (ad 5)), (1, .int p1)] := hl
  refine lv_iload_n hx hb dX1_containsFormula_0 rfl (lv_at hl 1 rfl) ?_
  refine lv_if_lt (tgt := 16) hx hb dX1_containsFormula_1 (by decide) (fun c2 => ?_) (fun c2 => ?_)
  · have hE0 := ite_t hE0 c2
    refine lv_iconst (v := 0) hx hb dX1_containsFormula_16 rfl ?_
    exact kretP_z hcf hr hlk hK hw (rt1 hR hE0) hQ0 rfl dX1_containsFormula_17
  · have hE0 := ite_f hE0 c2
    refine lv_iload_n hx hb dX1_containsFormula_4 rfl (lv_at hl 1 rfl) ?_
    refine lv_aload_n hx hb dX1_containsFormula_5 rfl (lv_at hl 0 rfl) ?_
    refine kg_X1_formulaCount hcf hK (kw_117 htk) (x := (σ.1 2)) dX1_containsFormula_6 hw rfl ?_
    refine lv_icmp_ge (tgt := 16) hx hb dX1_containsFormula_9 (by decide) (fun c1 => ?_) (fun c1 => ?_)
    · have hE0 := ite_t hE0 c1
      refine lv_iconst (v := 0) hx hb dX1_containsFormula_16 rfl ?_
      exact kretP_z hcf hr hlk hK hw (rt1 hR hE0) hQ0 rfl dX1_containsFormula_17
    · have hE0 := ite_f hE0 c1
      refine lv_iconst (v := 1) hx hb dX1_containsFormula_12 rfl ?_
      refine lv_goto (tgt := 17) hx hb dX1_containsFormula_13 (by decide) ?_
      exact kretP_z hcf hr hlk hK hw (rt1 hR hE0) hQ0 rfl dX1_containsFormula_17
def fX1_amount (N : Nat) (σ : vS) (p1 : Int32) (p2 : Int32) : Option (Int32) :=
  if ((σ.1 4) ≤ p2) then (
    if (p1 < 0 ∨ 6 ≤ (p1).toNatClampNeg) then none else
    some (σ.2.1 2 ((p1).toNatClampNeg))
  ) else (
    if (p1 < 0 ∨ 6 ≤ (p1).toNatClampNeg) then none else
    if (p2 < 0 ∨ 5 ≤ (p2).toNatClampNeg) then none else
    some (σ.2.1 (9 + (p1).toNatClampNeg) ((p2).toNatClampNeg))
  )
abbrev rmX1_amount : Room := { frames := 0, cells := 0, slots := 0, locals := 0 }
abbrev wsX1_amount : List Cond := .code yX1_amount cX1_amount 3 (some .int) :: kws
theorem kcX1_amount {R : Room} {s : State} {args : Array Value} {own : String} {index : Nat} (htk : ∀ w ∈ kws, w.before args s = true) (hl : (Cond.methodLink own index yX1_amount).before args s = true) (hR : rmX1_amount.frames + 1 ≤ R.frames ∧ 8 + (3 + 11) + rmX1_amount.locals ≤ R.locals) : CallW R s args own RX1 index yX1_amount cX1_amount 3 (some .int) wsX1_amount rmX1_amount 0 0 2 :=
  ⟨callB_of 2 htk (k_good kc_377) rfl rfl rfl (kw_55 htk) hl (by decide +kernel) hR, (kw_375 htk), (kw_376 htk)⟩
set_option maxRecDepth 100000 in
set_option maxHeartbeats 4000000 in
theorem mX1_amount (l : Launch) (D : va_G) (cs : Nat → ClassId) (ad : Nat → Nat) (N : Nat) (σ : vS) (p1 : Int32) (p2 : Int32) (r : Int32) (hf : fX1_amount N σ p1 p2 = some r) : k_MP l yX1_amount wsX1_amount rmX1_amount D (tK cs) (wK cs ad) [.ref (ad 5), .int p1, .int p2] σ (.int r) := by
  refine k_ofP (cc := cX1_amount) (maxL := 3) (ret := (some .int)) (by decide) rfl (Nat.le_of_ble_eq_true rfl) ?_
  intro p e s m args below meth c ls hcf hr hlk hK hZ hl hw
  generalize hQ0 : MQ below _ args s 0 0 _ = Q0
  obtain ⟨T0, hE0⟩ : ∃ T, T = fX1_amount N σ p1 p2 := ⟨_, rfl⟩
  have hR := hE0.trans hf
  have hN0 : T0 ≠ none := by rw [hR]; exact fun h => nomatch h
  have hx := hcf.1
  have hb := hcf.2.1
  have htk := hcf.2.2.2.2
  have hown := hcf.2.2.2.1
  unfold fX1_amount at hE0
  replace hl : lv_has ls 3 [(0, .ref (ad 5)), (1, .int p1), (2, .int p2)] := hl
  refine lv_iload_n hx hb dX1_amount_0 rfl (lv_at hl 2 rfl) ?_
  refine lv_aload_n hx hb dX1_amount_1 rfl (lv_at hl 0 rfl) ?_
  refine kg_X1_elementCount hcf hK (kw_126 htk) (x := (σ.1 4)) dX1_amount_2 hw rfl ?_
  refine lv_icmp_ge (tgt := 19) hx hb dX1_amount_5 (by decide) (fun c4 => ?_) (fun c4 => ?_)
  · have hE0 := ite_t hE0 c4
    refine lv_aload_n hx hb dX1_amount_19 rfl (lv_at hl 0 rfl) ?_
    refine kg_X1_charges hcf hK (kw_112 htk) dX1_amount_20 hw ?_
    refine lv_iload_n hx hb dX1_amount_23 rfl (lv_at hl 1 rfl) ?_
    obtain ⟨g1, hE0⟩ := gd_e hE0 hN0
    refine kald_A2 hcf hK (x := (σ.2.1 2 ((p1).toNatClampNeg))) dX1_amount_24 g1 hw rfl ?_
    exact kretP_i hcf hr hlk hK hw (rt1 hR hE0) hQ0 dX1_amount_25
  · have hE0 := ite_f hE0 c4
    refine lv_aload_n hx hb dX1_amount_8 rfl (lv_at hl 0 rfl) ?_
    refine kg_X1_amounts hcf hK (kw_111 htk) dX1_amount_9 hw ?_
    refine lv_iload_n hx hb dX1_amount_12 rfl (lv_at hl 1 rfl) ?_
    obtain ⟨g2, hE0⟩ := gd_e hE0 hN0
    refine kaald_amounts hcf hK dX1_amount_13 rfl g2 hw ?_
    refine lv_iload_n hx hb dX1_amount_14 rfl (lv_at hl 2 rfl) ?_
    obtain ⟨g3, hE0⟩ := gd_e hE0 hN0
    refine kald_amounts hcf hK (x := (σ.2.1 (9 + (p1).toNatClampNeg) ((p2).toNatClampNeg))) dX1_amount_15 g2 g3 hw rfl ?_
    refine lv_goto (tgt := 25) hx hb dX1_amount_16 (by decide) ?_
    exact kretP_i hcf hr hlk hK hw (rt1 hR hE0) hQ0 dX1_amount_25
def fX1_isProduct (N : Nat) (σ : vS) (p1 : Int32) : Option (Int32) :=
  if (p1 < (σ.1 3)) then (
    some (0 : Int32)
  ) else (
    some (1 : Int32)
  )
abbrev rmX1_isProduct : Room := { frames := 0, cells := 0, slots := 0, locals := 0 }
abbrev wsX1_isProduct : List Cond := .code yX1_isProduct cX1_isProduct 2 (some .boolean) :: kws
theorem kcX1_isProduct {R : Room} {s : State} {args : Array Value} {own : String} {index : Nat} (htk : ∀ w ∈ kws, w.before args s = true) (hl : (Cond.methodLink own index yX1_isProduct).before args s = true) (hR : rmX1_isProduct.frames + 1 ≤ R.frames ∧ 8 + (2 + 11) + rmX1_isProduct.locals ≤ R.locals) : CallW R s args own RX1 index yX1_isProduct cX1_isProduct 2 (some .boolean) wsX1_isProduct rmX1_isProduct 0 0 1 :=
  ⟨callB_of 1 htk (k_good kc_381) rfl rfl rfl (kw_55 htk) hl (by decide +kernel) hR, (kw_379 htk), (kw_380 htk)⟩
set_option maxRecDepth 100000 in
set_option maxHeartbeats 4000000 in
theorem mX1_isProduct (l : Launch) (D : va_G) (cs : Nat → ClassId) (ad : Nat → Nat) (N : Nat) (σ : vS) (p1 : Int32) (r : Int32) (hf : fX1_isProduct N σ p1 = some r) : k_MP l yX1_isProduct wsX1_isProduct rmX1_isProduct D (tK cs) (wK cs ad) [.ref (ad 5), .int p1] σ (.int r) := by
  refine k_ofP (cc := cX1_isProduct) (maxL := 2) (ret := (some .boolean)) (by decide) rfl (Nat.le_of_ble_eq_true rfl) ?_
  intro p e s m args below meth c ls hcf hr hlk hK hZ hl hw
  generalize hQ0 : MQ below _ args s 0 0 _ = Q0
  obtain ⟨T0, hE0⟩ : ∃ T, T = fX1_isProduct N σ p1 := ⟨_, rfl⟩
  have hR := hE0.trans hf
  have hN0 : T0 ≠ none := by rw [hR]; exact fun h => nomatch h
  have hx := hcf.1
  have hb := hcf.2.1
  have htk := hcf.2.2.2.2
  have hown := hcf.2.2.2.1
  unfold fX1_isProduct at hE0
  replace hl : lv_has ls 2 [(0, .ref (ad 5)), (1, .int p1)] := hl
  refine lv_iload_n hx hb dX1_isProduct_0 rfl (lv_at hl 1 rfl) ?_
  refine lv_aload_n hx hb dX1_isProduct_1 rfl (lv_at hl 0 rfl) ?_
  refine kg_X1_reactantCount hcf hK (kw_122 htk) (x := (σ.1 3)) dX1_isProduct_2 hw rfl ?_
  refine lv_icmp_lt (tgt := 12) hx hb dX1_isProduct_5 (by decide) (fun c1 => ?_) (fun c1 => ?_)
  · have hE0 := ite_t hE0 c1
    refine lv_iconst (v := 0) hx hb dX1_isProduct_12 rfl ?_
    exact kretP_z hcf hr hlk hK hw (rt1 hR hE0) hQ0 rfl dX1_isProduct_13
  · have hE0 := ite_f hE0 c1
    refine lv_iconst (v := 1) hx hb dX1_isProduct_8 rfl ?_
    refine lv_goto (tgt := 13) hx hb dX1_isProduct_9 (by decide) ?_
    exact kretP_z hcf hr hlk hK hw (rt1 hR hE0) hQ0 rfl dX1_isProduct_13
def fX1_share (N : Nat) (σ : vS) (p1 : Int32) (p2 : Int32) (p3 : Int64) : Option (Int64) :=
  bd1 (fX1_containsFormula N σ p1) fun r1 =>
  if (r1 = 0) then (
    some (0 : Int64)
  ) else (
    bd1 (fX1_amount N σ p1 p2) fun r2 =>
    k_lt (p3 * (r2).toInt64) fun x3 =>
    bd1 (fX1_isProduct N σ p1) fun r4 =>
    if (r4 = 0) then (
      some x3
    ) else (
      some (-x3)
    )
  )
abbrev rmX1_share : Room := { frames := 1, cells := 0, slots := 0, locals := 22 }
abbrev wsX1_share : List Cond := .code yX1_share cX1_share 7 (some .long) :: kws
theorem kcX1_share {R : Room} {s : State} {args : Array Value} {own : String} {index : Nat} (htk : ∀ w ∈ kws, w.before args s = true) (hl : (Cond.methodLink own index yX1_share).before args s = true) (hR : rmX1_share.frames + 1 ≤ R.frames ∧ 8 + (7 + 11) + rmX1_share.locals ≤ R.locals) : CallW R s args own RX1 index yX1_share cX1_share 7 (some .long) wsX1_share rmX1_share 0 0 3 :=
  ⟨callB_of 3 htk (k_good kc_369) rfl rfl rfl (kw_55 htk) hl (by decide +kernel) hR, (kw_367 htk), (kw_368 htk)⟩
set_option maxRecDepth 100000 in
set_option maxHeartbeats 4000000 in
theorem mX1_share (l : Launch) (D : va_G) (cs : Nat → ClassId) (ad : Nat → Nat) (N : Nat) (σ : vS) (p1 : Int32) (p2 : Int32) (p3 : Int64) (r : Int64) (hf : fX1_share N σ p1 p2 p3 = some r) : k_MP l yX1_share wsX1_share rmX1_share D (tK cs) (wK cs ad) [.ref (ad 5), .int p1, .int p2, .long p3] σ (.long r) := by
  refine k_ofP (cc := cX1_share) (maxL := 7) (ret := (some .long)) (by decide) rfl (Nat.le_of_ble_eq_true rfl) ?_
  intro p e s m args below meth c ls hcf hr hlk hK hZ hl hw
  generalize hQ0 : MQ below _ args s 0 0 _ = Q0
  obtain ⟨T0, hE0⟩ : ∃ T, T = fX1_share N σ p1 p2 p3 := ⟨_, rfl⟩
  have hR := hE0.trans hf
  have hN0 : T0 ≠ none := by rw [hR]; exact fun h => nomatch h
  have hx := hcf.1
  have hb := hcf.2.1
  have htk := hcf.2.2.2.2
  have hown := hcf.2.2.2.1
  unfold fX1_share at hE0
  replace hl : lv_has ls 7 [(0, .ref (ad 5)), (1, .int p1), (2, .int p2), (3, .long p3)] := hl
  refine lv_aload_n hx hb dX1_share_0 rfl (lv_at hl 0 rfl) ?_
  refine lv_iload_n hx hb dX1_share_1 rfl (lv_at hl 1 rfl) ?_
  obtain ⟨r1, k1, hE0⟩ := bd1_e hE0 hN0
  refine k_callP (va_runV (As := [.int p1]) (rest := []) hcf (mX1_containsFormula l D cs ad N σ p1 r1 k1) (kcX1_containsFormula htk (kw_370 htk) ⟨Nat.le_of_ble_eq_true rfl, Nat.le_of_ble_eq_true rfl⟩) ⟨k_blind, va_recv (ci := 1) (q0 := 5) hK hw.1 rfl rfl, k_pre hK hZ hw⟩ rfl rfl hl.1 rfl (lv_room (Nat.le_of_ble_eq_true rfl)) dX1_share_2 ⟨Nat.zero_le _, Nat.zero_le _⟩) ?_
  refine lv_if_ne (tgt := 10) hx hb dX1_share_5 (by decide) (fun c6 => ?_) (fun c6 => ?_)
  · have hE0 := ite_f hE0 c6
    refine lv_lload_n hx hb dX1_share_10 rfl (lv_at hl 3 rfl) ?_
    refine lv_aload_n hx hb dX1_share_11 rfl (lv_at hl 0 rfl) ?_
    refine lv_iload_n hx hb dX1_share_12 rfl (lv_at hl 1 rfl) ?_
    refine lv_iload_n hx hb dX1_share_13 rfl (lv_at hl 2 rfl) ?_
    obtain ⟨r2, k2, hE0⟩ := bd1_e hE0 hN0
    refine k_callP (va_runV (As := [.int p1, .int p2]) (rest := [.long p3]) hcf (mX1_amount l D cs ad N σ p1 p2 r2 k2) (kcX1_amount htk (kw_374 htk) ⟨Nat.le_of_ble_eq_true rfl, Nat.le_of_ble_eq_true rfl⟩) ⟨k_blind, va_recv (ci := 1) (q0 := 5) hK hw.1 rfl rfl, k_pre hK hZ hw⟩ rfl rfl hl.1 rfl (lv_room (Nat.le_of_ble_eq_true rfl)) dX1_share_14 ⟨Nat.zero_le _, Nat.zero_le _⟩) ?_
    refine lv_i2l hx hb dX1_share_17 rfl ?_
    refine lv_lmul hx hb dX1_share_18 ?_
    refine lv_topl (fun x3 e_x3 => ?_)
    have hE0 := k_lts hE0 e_x3
    refine lv_lstore hx hb dX1_share_19 hl (Nat.le_of_ble_eq_true rfl) rfl (fun ls (hl : lv_has ls 7 [(5, .long x3), (0, .ref (ad 5)), (1, .int p1), (2, .int p2), (3, .long p3)]) => ?_)
    refine lv_aload_n hx hb dX1_share_21 rfl (lv_at hl 1 rfl) ?_
    refine lv_iload_n hx hb dX1_share_22 rfl (lv_at hl 2 rfl) ?_
    obtain ⟨r4, k4, hE0⟩ := bd1_e hE0 hN0
    refine k_callP (va_runV (As := [.int p1]) (rest := []) hcf (mX1_isProduct l D cs ad N σ p1 r4 k4) (kcX1_isProduct htk (kw_378 htk) ⟨Nat.le_of_ble_eq_true rfl, Nat.le_of_ble_eq_true rfl⟩) ⟨k_blind, va_recv (ci := 1) (q0 := 5) hK hw.1 rfl rfl, k_pre hK hZ hw⟩ rfl rfl hl.1 rfl (lv_room (Nat.le_of_ble_eq_true rfl)) dX1_share_23 ⟨Nat.zero_le _, Nat.zero_le _⟩) ?_
    refine lv_if_eq (tgt := 35) hx hb dX1_share_26 (by decide) (fun c5 => ?_) (fun c5 => ?_)
    · have hE0 := ite_t hE0 c5
      refine lv_lload hx hb dX1_share_35 (lv_at hl 0 rfl) ?_
      exact kretP_l hcf hr hlk hK hw (rt1 hR hE0) hQ0 dX1_share_37
    · have hE0 := ite_f hE0 c5
      refine lv_lload hx hb dX1_share_29 (lv_at hl 0 rfl) ?_
      refine lv_lneg hx hb dX1_share_31 ?_
      refine lv_goto (tgt := 37) hx hb dX1_share_32 (by decide) ?_
      exact kretP_l hcf hr hlk hK hw (rt1 hR hE0) hQ0 dX1_share_37
  · have hE0 := ite_t hE0 c6
    refine lv_lconst (v := 0) hx hb dX1_share_8 rfl ?_
    exact kretP_l hcf hr hlk hK hw (rt1 hR hE0) hQ0 dX1_share_9
end
section
def jX0_takeRows_63 (N : Nat) (σj63 : vS) : Option (vS) :=
  some σj63
def jX0_takeRows_57_18 (N : Nat) (σj57 : vS) (v2j57 : Int32) : Option ((Int32 × vS) ⊕ (vS)) :=
  k_lt (v2j57 + (1 : Int32)) fun x2 =>
  some (.inl (x2, σj57))
def bX0_takeRows_28 (N : Nat) (v2h18 : Int32) (v3h28 : Int32) (σh28 : vS) : Option ((Int32 × vS) ⊕ (vS)) :=
  if ((σh28.1 14) ≤ v3h28) then (
    some (.inr σh28)
  ) else (
    if (v2h18 < 0 ∨ 5 ≤ (v2h18).toNatClampNeg) then none else
    bd1 (fX1_share N σh28 v3h28 v2h18 (1 : Int64)) fun r4 =>
    if (v3h28 < 0 ∨ 6 ≤ (v3h28).toNatClampNeg) then none else
    k_lt (v3h28 + (1 : Int32)) fun x6 =>
    some (.inl (x6, (p_b σh28 (11 + (v2h18).toNatClampNeg) ((v3h28).toNatClampNeg) r4)))
  )
def bX0_takeRows_18 (N : Nat) (v2h18 : Int32) (σh18 : vS) : Option ((Int32 × vS) ⊕ (vS)) :=
  if ((σh18.1 13) ≤ v2h18) then (
    some (.inr σh18)
  ) else (
    bd1 (k_itr (fun zz => bX0_takeRows_28 N v2h18 zz.1 zz.2) N ((0 : Int32), σh18)) fun q => jX0_takeRows_57_18 N q v2h18
  )
def fX0_takeRows (N : Nat) (σ : vS) : Option (vS) :=
  bd1 (fX1_kindCount N σ) fun r1 =>
  bd1 (k_itr (fun zz => bX0_takeRows_18 N zz.1 zz.2) N ((0 : Int32), (p_i (p_i σ 13 r1) 14 (σ.1 2)))) fun q => jX0_takeRows_63 N q
abbrev rmX0_takeRows : Room := { frames := 2, cells := 0, slots := 0, locals := 48 }
abbrev wsX0_takeRows : List Cond := .code yX0_takeRows cX0_takeRows 4 none :: kws
theorem kcX0_takeRows {R : Room} {s : State} {args : Array Value} {own : String} {index : Nat} (htk : ∀ w ∈ kws, w.before args s = true) (hl : (Cond.methodLink own index yX0_takeRows).before args s = true) (hR : rmX0_takeRows.frames + 1 ≤ R.frames ∧ 8 + (4 + 11) + rmX0_takeRows.locals ≤ R.locals) : CallW R s args own RX0 index yX0_takeRows cX0_takeRows 4 none wsX0_takeRows rmX0_takeRows 0 0 1 :=
  ⟨callB_of 1 htk (k_good kc_364) rfl rfl rfl (kw_56 htk) hl (by decide +kernel) hR, (kw_363 htk), (kw_13 htk)⟩
set_option maxRecDepth 100000 in
set_option maxHeartbeats 4000000 in
theorem mX0_takeRows (l : Launch) (D : va_G) (cs : Nat → ClassId) (ad : Nat → Nat) (N : Nat) (σ : vS) (σ' : vS) (hf : fX0_takeRows N σ = some σ') : k_Met l yX0_takeRows wsX0_takeRows rmX0_takeRows D (tK cs) (wK cs ad) (k_A 41 ad) [.ref (ad 2), .ref (ad 5)] σ none σ' := by
  refine k_of (cc := cX0_takeRows) (maxL := 4) (ret := none) (by decide) rfl (Nat.le_of_ble_eq_true rfl) ?_
  intro p e s m args below meth c ls H locs hcf hr hlk hK hZ hl hw
  generalize hQ0 : MQ below _ args s 0 0 _ = Q0
  obtain ⟨T0, hE0⟩ : ∃ T, T = fX0_takeRows N σ := ⟨_, rfl⟩
  have hR := hE0.trans hf
  have hN0 : T0 ≠ none := by rw [hR]; exact fun h => nomatch h
  have hx := hcf.1
  have hb := hcf.2.1
  have htk := hcf.2.2.2.2
  have hown := hcf.2.2.2.1
  unfold fX0_takeRows at hE0
  replace hl : lv_has ls 4 [(0, .ref (ad 2)), (1, .ref (ad 5))] := hl
  have J63 : ∀ (σj63 : vS) (H : Heap) (locs : List Loc) (ls : Array Slot), lv_has ls 4 [] → k_H D (wK cs ad) (k_A 41 ad) σj63 s.heap H locs → T0 = jX0_takeRows_63 N σj63 → W p l e rmX0_takeRows s m args below meth c H locs 0 0 Q0 (F0 m 63 ls []) := by
    intro σj63 H locs ls hl hw hE0
    unfold jX0_takeRows_63 at hE0
    exact kret_v hcf hr hlk hK hw (rt1 hR hE0) hQ0 dX0_takeRows_63
  refine lv_aload_n hx hb dX0_takeRows_0 rfl (lv_at hl 0 rfl) ?_
  refine lv_aload_n hx hb dX0_takeRows_1 rfl (lv_at hl 1 rfl) ?_
  obtain ⟨r1, k1, hE0⟩ := bd1_e hE0 hN0
  refine k_callP (va_runV (As := []) (rest := [.ref (ad 2)]) hcf (mX1_kindCount l D cs ad N σ r1 k1) (kcX1_kindCount htk (kw_365 htk) ⟨Nat.le_of_ble_eq_true rfl, Nat.le_of_ble_eq_true rfl⟩) ⟨k_blind, va_recv (ci := 1) (q0 := 5) hK hw.1 rfl rfl, k_pre hK hZ hw⟩ rfl rfl hl.1 rfl (lv_room (Nat.le_of_ble_eq_true rfl)) dX0_takeRows_2 ⟨Nat.zero_le _, Nat.zero_le _⟩) ?_
  refine kp_X0_height hcf hK (kw_201 htk) dX0_takeRows_5 hw (fun H locs hw => ?_)
  refine lv_aload_n hx hb dX0_takeRows_8 rfl (lv_at hl 0 rfl) ?_
  refine lv_aload_n hx hb dX0_takeRows_9 rfl (lv_at hl 1 rfl) ?_
  refine kg_X1_formulaCount hcf hK (kw_121 htk) (x := (σ.1 2)) dX0_takeRows_10 hw rfl ?_
  refine kp_X0_width hcf hK (kw_202 htk) dX0_takeRows_13 hw (fun H locs hw => ?_)
  refine lv_iconst (v := 0) hx hb dX0_takeRows_16 rfl ?_
  refine lv_istore_n hx hb dX0_takeRows_17 rfl hl (Nat.le_of_ble_eq_true rfl) rfl (fun ls (hl : lv_has ls 4 [(2, .int (0 : Int32)), (0, .ref (ad 2)), (1, .ref (ad 5))]) => ?_)
  obtain ⟨q, hq, hE0⟩ := bd1_e hE0 hN0
  refine k_ind (P := fun zz => ∀ (H : Heap) (locs : List Loc) (ls : Array Slot), lv_has ls 4 [(0, .ref (ad 2)), (1, .ref (ad 5)), (2, .int zz.1)] → k_H D (wK cs ad) (k_A 41 ad) zz.2 s.heap H locs → W p l e rmX0_takeRows s m args below meth c H locs 0 0 Q0 (F0 m 18 ls [])) ?_ N _ hq H locs ls (lv_sub hl [1, 2, 0] rfl) hw
  intro sX T1 hE1 hN1 hC1 hX1
  obtain ⟨v2h18, σh18⟩ := sX
  replace hE1 : T1 = bX0_takeRows_18 N v2h18 σh18 := hE1
  unfold bX0_takeRows_18 at hE1
  have J57_18 : ∀ (v2j57 : Int32) (σj57 : vS) (H : Heap) (locs : List Loc) (ls : Array Slot), lv_has ls 4 [(0, .ref (ad 2)), (1, .ref (ad 5)), (2, .int v2j57)] → k_H D (wK cs ad) (k_A 41 ad) σj57 s.heap H locs → T1 = jX0_takeRows_57_18 N σj57 v2j57 → W p l e rmX0_takeRows s m args below meth c H locs 0 0 Q0 (F0 m 57 ls []) := by
    intro v2j57 σj57 H locs ls hl hw hE1
    unfold jX0_takeRows_57_18 at hE1
    obtain ⟨x2, e_x2, hE1⟩ := k_lte hE1
    refine lv_iinc (k := 2) (v := x2) hx hb dX0_takeRows_57 hl rfl (Eq.symm e_x2) (Nat.le_of_ble_eq_true rfl) rfl (fun ls (hl : lv_has ls 4 [(2, .int x2), (0, .ref (ad 2)), (1, .ref (ad 5))]) => ?_)
    refine lv_goto (tgt := 18) hx hb dX0_takeRows_60 (by decide) ?_
    exact hC1 _ hE1 H locs ls (lv_sub hl [1, 2, 0] rfl) hw
  intro H locs ls hl hw
  replace hl : lv_has ls 4 [(0, .ref (ad 2)), (1, .ref (ad 5)), (2, .int v2h18)] := hl
  replace hw : k_H D (wK cs ad) (k_A 41 ad) σh18 s.heap H locs := hw
  refine lv_iload_n hx hb dX0_takeRows_18 rfl (lv_at hl 2 rfl) ?_
  refine lv_aload_n hx hb dX0_takeRows_19 rfl (lv_at hl 0 rfl) ?_
  refine kg_X0_height hcf hK (kw_201 htk) (x := (σh18.1 13)) dX0_takeRows_20 hw rfl ?_
  refine lv_icmp_ge (tgt := 63) hx hb dX0_takeRows_23 (by decide) (fun c8 => ?_) (fun c8 => ?_)
  · have hE1 := ite_t hE1 c8
    have hq := hX1 _ hE1
    subst hq
    exact J63 σh18 H locs ls (lv_sub hl [] rfl) hw hE0
  · have hE1 := ite_f hE1 c8
    refine lv_iconst (v := 0) hx hb dX0_takeRows_26 rfl ?_
    refine lv_istore_n hx hb dX0_takeRows_27 rfl hl (Nat.le_of_ble_eq_true rfl) rfl (fun ls (hl : lv_has ls 4 [(3, .int (0 : Int32)), (0, .ref (ad 2)), (1, .ref (ad 5)), (2, .int v2h18)]) => ?_)
    obtain ⟨q, hq, hE1⟩ := bd1_e hE1 hN1
    refine k_ind (P := fun zz => ∀ (H : Heap) (locs : List Loc) (ls : Array Slot), lv_has ls 4 [(0, .ref (ad 2)), (1, .ref (ad 5)), (2, .int v2h18), (3, .int zz.1)] → k_H D (wK cs ad) (k_A 41 ad) zz.2 s.heap H locs → W p l e rmX0_takeRows s m args below meth c H locs 0 0 Q0 (F0 m 28 ls [])) ?_ N _ hq H locs ls (lv_sub hl [1, 2, 3, 0] rfl) hw
    intro sX T2 hE2 hN2 hC2 hX2
    obtain ⟨v3h28, σh28⟩ := sX
    replace hE2 : T2 = bX0_takeRows_28 N v2h18 v3h28 σh28 := hE2
    unfold bX0_takeRows_28 at hE2
    intro H locs ls hl hw
    replace hl : lv_has ls 4 [(0, .ref (ad 2)), (1, .ref (ad 5)), (2, .int v2h18), (3, .int v3h28)] := hl
    replace hw : k_H D (wK cs ad) (k_A 41 ad) σh28 s.heap H locs := hw
    refine lv_iload_n hx hb dX0_takeRows_28 rfl (lv_at hl 3 rfl) ?_
    refine lv_aload_n hx hb dX0_takeRows_29 rfl (lv_at hl 0 rfl) ?_
    refine kg_X0_width hcf hK (kw_202 htk) (x := (σh28.1 14)) dX0_takeRows_30 hw rfl ?_
    refine lv_icmp_ge (tgt := 57) hx hb dX0_takeRows_33 (by decide) (fun c7 => ?_) (fun c7 => ?_)
    · have hE2 := ite_t hE2 c7
      have hq := hX2 _ hE2
      subst hq
      exact J57_18 v2h18 σh28 H locs ls (lv_sub hl [0, 1, 2] rfl) hw hE1
    · have hE2 := ite_f hE2 c7
      refine lv_aload_n hx hb dX0_takeRows_36 rfl (lv_at hl 0 rfl) ?_
      refine kg_X0_rows hcf hK (kw_198 htk) dX0_takeRows_37 hw ?_
      refine lv_iload_n hx hb dX0_takeRows_40 rfl (lv_at hl 2 rfl) ?_
      obtain ⟨g3, hE2⟩ := gd_e hE2 hN2
      refine kaald_rows hcf hK dX0_takeRows_41 rfl g3 hw ?_
      refine lv_iload_n hx hb dX0_takeRows_42 rfl (lv_at hl 3 rfl) ?_
      refine lv_aload_n hx hb dX0_takeRows_43 rfl (lv_at hl 1 rfl) ?_
      refine lv_iload_n hx hb dX0_takeRows_44 rfl (lv_at hl 3 rfl) ?_
      refine lv_iload_n hx hb dX0_takeRows_45 rfl (lv_at hl 2 rfl) ?_
      refine lv_lconst (v := 1) hx hb dX0_takeRows_46 rfl ?_
      obtain ⟨r4, k4, hE2⟩ := bd1_e hE2 hN2
      refine k_callP (va_runV (As := [.int v3h28, .int v2h18, .long (1 : Int64)]) (rest := [.int v3h28, .ref (ad (25 + (11 + (v2h18).toNatClampNeg)))]) hcf (mX1_share l D cs ad N σh28 v3h28 v2h18 (1 : Int64) r4 k4) (kcX1_share htk (kw_366 htk) ⟨Nat.le_of_ble_eq_true rfl, Nat.le_of_ble_eq_true rfl⟩) ⟨k_blind, va_recv (ci := 1) (q0 := 5) hK hw.1 rfl rfl, k_pre hK hZ hw⟩ rfl rfl hl.1 rfl (lv_room (Nat.le_of_ble_eq_true rfl)) dX0_takeRows_47 ⟨Nat.zero_le _, Nat.zero_le _⟩) ?_
      obtain ⟨g5, hE2⟩ := gd_e hE2 hN2
      refine kast_rows hcf hK dX0_takeRows_50 g3 g5 hw (fun H locs hw => ?_)
      obtain ⟨x6, e_x6, hE2⟩ := k_lte hE2
      refine lv_iinc (k := 3) (v := x6) hx hb dX0_takeRows_51 hl rfl (Eq.symm e_x6) (Nat.le_of_ble_eq_true rfl) rfl (fun ls (hl : lv_has ls 4 [(3, .int x6), (0, .ref (ad 2)), (1, .ref (ad 5)), (2, .int v2h18)]) => ?_)
      refine lv_goto (tgt := 28) hx hb dX0_takeRows_54 (by decide) ?_
      exact hC2 _ hE2 H locs ls (lv_sub hl [1, 2, 3, 0] rfl) hw
def jX0_pivotRow_34 (N : Nat) (σ : vS) : Option (Int32) :=
  some (-1 : Int32)
def bX0_pivotRow_5 (N : Nat) (σ : vS) (p1 : Int32) (v2h5 : Int32) : Option ((Int32) ⊕ ((Unit) ⊕ (Int32))) :=
  if ((σ.1 13) ≤ v2h5) then (
    some (.inr (.inl ()))
  ) else (
    if (v2h5 < 0 ∨ 5 ≤ (v2h5).toNatClampNeg) then none else
    if (p1 < 0 ∨ 6 ≤ (p1).toNatClampNeg) then none else
    if ((lg_cmp (σ.2.2.2 (11 + (v2h5).toNatClampNeg) ((p1).toNatClampNeg)) (0 : Int64)) = 0) then (
      k_lt (v2h5 + (1 : Int32)) fun x4 =>
      some (.inl x4)
    ) else (
      some (.inr (.inr v2h5))
    )
  )
def fX0_pivotRow (N : Nat) (σ : vS) (p1 : Int32) : Option (Int32) :=
  k_lt (σ.1 12) fun x1 =>
  bds (k_itr (fun zz => bX0_pivotRow_5 N σ p1 zz) N x1) fun _ => jX0_pivotRow_34 N σ
abbrev rmX0_pivotRow : Room := { frames := 0, cells := 0, slots := 0, locals := 0 }
abbrev wsX0_pivotRow : List Cond := .code yX0_pivotRow cX0_pivotRow 3 (some .int) :: kws
theorem kcX0_pivotRow {R : Room} {s : State} {args : Array Value} {own : String} {index : Nat} (htk : ∀ w ∈ kws, w.before args s = true) (hl : (Cond.methodLink own index yX0_pivotRow).before args s = true) (hR : rmX0_pivotRow.frames + 1 ≤ R.frames ∧ 8 + (3 + 11) + rmX0_pivotRow.locals ≤ R.locals) : CallW R s args own RX0 index yX0_pivotRow cX0_pivotRow 3 (some .int) wsX0_pivotRow rmX0_pivotRow 0 0 1 :=
  ⟨callB_of 1 htk (k_good kc_389) rfl rfl rfl (kw_56 htk) hl (by decide +kernel) hR, (kw_388 htk), (kw_15 htk)⟩
set_option maxRecDepth 100000 in
set_option maxHeartbeats 4000000 in
theorem mX0_pivotRow (l : Launch) (D : va_G) (cs : Nat → ClassId) (ad : Nat → Nat) (N : Nat) (σ : vS) (p1 : Int32) (r : Int32) (hf : fX0_pivotRow N σ p1 = some r) : k_MP l yX0_pivotRow wsX0_pivotRow rmX0_pivotRow D (tK cs) (wK cs ad) [.ref (ad 2), .int p1] σ (.int r) := by
  refine k_ofP (cc := cX0_pivotRow) (maxL := 3) (ret := (some .int)) (by decide) rfl (Nat.le_of_ble_eq_true rfl) ?_
  intro p e s m args below meth c ls hcf hr hlk hK hZ hl hw
  generalize hQ0 : MQ below _ args s 0 0 _ = Q0
  obtain ⟨T0, hE0⟩ : ∃ T, T = fX0_pivotRow N σ p1 := ⟨_, rfl⟩
  have hR := hE0.trans hf
  have hN0 : T0 ≠ none := by rw [hR]; exact fun h => nomatch h
  have hx := hcf.1
  have hb := hcf.2.1
  have htk := hcf.2.2.2.2
  have hown := hcf.2.2.2.1
  unfold fX0_pivotRow at hE0
  replace hl : lv_has ls 3 [(0, .ref (ad 2)), (1, .int p1)] := hl
  have J34 : ∀ (ls : Array Slot), lv_has ls 3 [] → T0 = jX0_pivotRow_34 N σ → W p l e rmX0_pivotRow s m args below meth c s.heap [] 0 0 Q0 (F0 m 34 ls []) := by
    intro ls hl hE0
    unfold jX0_pivotRow_34 at hE0
    refine lv_iconst (v := -1) hx hb dX0_pivotRow_34 rfl ?_
    exact kretP_i hcf hr hlk hK hw (rt1 hR hE0) hQ0 dX0_pivotRow_35
  refine lv_aload_n hx hb dX0_pivotRow_0 rfl (lv_at hl 0 rfl) ?_
  refine kg_X0_rank hcf hK (kw_200 htk) (x := (σ.1 12)) dX0_pivotRow_1 hw rfl ?_
  refine lv_topi (fun x1 e_x1 => ?_)
  have hE0 := k_lts hE0 e_x1
  refine lv_istore_n hx hb dX0_pivotRow_4 rfl hl (Nat.le_of_ble_eq_true rfl) rfl (fun ls (hl : lv_has ls 3 [(2, .int x1), (0, .ref (ad 2)), (1, .int p1)]) => ?_)
  obtain ⟨q, hq, hE0, hT0⟩ := bds_e hE0 hN0
  refine k_ind (P := fun zz => ∀ (ls : Array Slot), lv_has ls 3 [(0, .ref (ad 2)), (1, .int p1), (2, .int zz)] → W p l e rmX0_pivotRow s m args below meth c s.heap [] 0 0 Q0 (F0 m 5 ls [])) ?_ N _ hq ls (lv_sub hl [1, 2, 0] rfl)
  intro sX T1 hE1 hN1 hC1 hX1
  obtain ⟨v2h5, hsg⟩ : ∃ z, z = sX := ⟨_, rfl⟩
  subst hsg
  replace hE1 : T1 = bX0_pivotRow_5 N σ p1 v2h5 := hE1
  unfold bX0_pivotRow_5 at hE1
  intro ls hl
  replace hl : lv_has ls 3 [(0, .ref (ad 2)), (1, .int p1), (2, .int v2h5)] := hl
  refine lv_iload_n hx hb dX0_pivotRow_5 rfl (lv_at hl 2 rfl) ?_
  refine lv_aload_n hx hb dX0_pivotRow_6 rfl (lv_at hl 0 rfl) ?_
  refine kg_X0_height hcf hK (kw_201 htk) (x := (σ.1 13)) dX0_pivotRow_7 hw rfl ?_
  refine lv_icmp_ge (tgt := 34) hx hb dX0_pivotRow_10 (by decide) (fun c6 => ?_) (fun c6 => ?_)
  · have hE1 := ite_t hE1 c6
    have hq := hX1 _ hE1
    subst hq
    exact J34 ls (lv_sub hl [] rfl) (hE0 _ rfl)
  · have hE1 := ite_f hE1 c6
    refine lv_aload_n hx hb dX0_pivotRow_13 rfl (lv_at hl 0 rfl) ?_
    refine kg_X0_rows hcf hK (kw_198 htk) dX0_pivotRow_14 hw ?_
    refine lv_iload_n hx hb dX0_pivotRow_17 rfl (lv_at hl 2 rfl) ?_
    obtain ⟨g2, hE1⟩ := gd_e hE1 hN1
    refine kaald_rows hcf hK dX0_pivotRow_18 rfl g2 hw ?_
    refine lv_iload_n hx hb dX0_pivotRow_19 rfl (lv_at hl 1 rfl) ?_
    obtain ⟨g3, hE1⟩ := gd_e hE1 hN1
    refine kald_rows hcf hK (x := (σ.2.2.2 (11 + (v2h5).toNatClampNeg) ((p1).toNatClampNeg))) dX0_pivotRow_20 g2 g3 hw rfl ?_
    refine lv_lconst (v := 0) hx hb dX0_pivotRow_21 rfl ?_
    refine W.lcmp hx hb dX0_pivotRow_22 ?_
    refine lv_if_eq (tgt := 28) hx hb dX0_pivotRow_23 (by decide) (fun c5 => ?_) (fun c5 => ?_)
    · have hE1 := ite_t hE1 c5
      obtain ⟨x4, e_x4, hE1⟩ := k_lte hE1
      refine lv_iinc (k := 2) (v := x4) hx hb dX0_pivotRow_28 hl rfl (Eq.symm e_x4) (Nat.le_of_ble_eq_true rfl) rfl (fun ls (hl : lv_has ls 3 [(2, .int x4), (0, .ref (ad 2)), (1, .int p1)]) => ?_)
      refine lv_goto (tgt := 5) hx hb dX0_pivotRow_31 (by decide) ?_
      exact hC1 _ hE1 ls (lv_sub hl [1, 2, 0] rfl)
    · have hE1 := ite_f hE1 c5
      refine lv_iload_n hx hb dX0_pivotRow_26 rfl (lv_at hl 2 rfl) ?_
      have hq := hX1 _ hE1
      subst hq
      exact kretP_i hcf hr hlk hK hw (rt1 hR (hT0 _ rfl)) hQ0 dX0_pivotRow_27
def jX0_swapRows_52 (N : Nat) (σj52 : vS) : Option (vS) :=
  some σj52
def bX0_swapRows_2 (N : Nat) (p1 : Int32) (p2 : Int32) (v3h2 : Int32) (σh2 : vS) : Option ((Int32 × vS) ⊕ (vS)) :=
  if ((σh2.1 14) ≤ v3h2) then (
    some (.inr σh2)
  ) else (
    if (p1 < 0 ∨ 5 ≤ (p1).toNatClampNeg) then none else
    if (v3h2 < 0 ∨ 6 ≤ (v3h2).toNatClampNeg) then none else
    k_lt (σh2.2.2.2 (11 + (p1).toNatClampNeg) ((v3h2).toNatClampNeg)) fun x3 =>
    if (p1 < 0 ∨ 5 ≤ (p1).toNatClampNeg) then none else
    if (p2 < 0 ∨ 5 ≤ (p2).toNatClampNeg) then none else
    if (v3h2 < 0 ∨ 6 ≤ (v3h2).toNatClampNeg) then none else
    if (v3h2 < 0 ∨ 6 ≤ (v3h2).toNatClampNeg) then none else
    if (p2 < 0 ∨ 5 ≤ (p2).toNatClampNeg) then none else
    if (v3h2 < 0 ∨ 6 ≤ (v3h2).toNatClampNeg) then none else
    k_lt (v3h2 + (1 : Int32)) fun x10 =>
    some (.inl (x10, (p_b (p_b σh2 (11 + (p1).toNatClampNeg) ((v3h2).toNatClampNeg) (σh2.2.2.2 (11 + (p2).toNatClampNeg) ((v3h2).toNatClampNeg))) (11 + (p2).toNatClampNeg) ((v3h2).toNatClampNeg) x3)))
  )
def fX0_swapRows (N : Nat) (σ : vS) (p1 : Int32) (p2 : Int32) : Option (vS) :=
  bd1 (k_itr (fun zz => bX0_swapRows_2 N p1 p2 zz.1 zz.2) N ((0 : Int32), σ)) fun q => jX0_swapRows_52 N q
abbrev rmX0_swapRows : Room := { frames := 0, cells := 0, slots := 0, locals := 0 }
abbrev wsX0_swapRows : List Cond := .code yX0_swapRows cX0_swapRows 6 none :: kws
theorem kcX0_swapRows {R : Room} {s : State} {args : Array Value} {own : String} {index : Nat} (htk : ∀ w ∈ kws, w.before args s = true) (hl : (Cond.methodLink own index yX0_swapRows).before args s = true) (hR : rmX0_swapRows.frames + 1 ≤ R.frames ∧ 8 + (6 + 11) + rmX0_swapRows.locals ≤ R.locals) : CallW R s args own RX0 index yX0_swapRows cX0_swapRows 6 none wsX0_swapRows rmX0_swapRows 0 0 2 :=
  ⟨callB_of 2 htk (k_good kc_393) rfl rfl rfl (kw_56 htk) hl (by decide +kernel) hR, (kw_392 htk), (kw_16 htk)⟩
set_option maxRecDepth 100000 in
set_option maxHeartbeats 4000000 in
theorem mX0_swapRows (l : Launch) (D : va_G) (cs : Nat → ClassId) (ad : Nat → Nat) (N : Nat) (σ : vS) (p1 : Int32) (p2 : Int32) (σ' : vS) (hf : fX0_swapRows N σ p1 p2 = some σ') : k_Met l yX0_swapRows wsX0_swapRows rmX0_swapRows D (tK cs) (wK cs ad) (k_A 41 ad) [.ref (ad 2), .int p1, .int p2] σ none σ' := by
  refine k_of (cc := cX0_swapRows) (maxL := 6) (ret := none) (by decide) rfl (Nat.le_of_ble_eq_true rfl) ?_
  intro p e s m args below meth c ls H locs hcf hr hlk hK hZ hl hw
  generalize hQ0 : MQ below _ args s 0 0 _ = Q0
  obtain ⟨T0, hE0⟩ : ∃ T, T = fX0_swapRows N σ p1 p2 := ⟨_, rfl⟩
  have hR := hE0.trans hf
  have hN0 : T0 ≠ none := by rw [hR]; exact fun h => nomatch h
  have hx := hcf.1
  have hb := hcf.2.1
  have htk := hcf.2.2.2.2
  have hown := hcf.2.2.2.1
  unfold fX0_swapRows at hE0
  replace hl : lv_has ls 6 [(0, .ref (ad 2)), (1, .int p1), (2, .int p2)] := hl
  have J52 : ∀ (σj52 : vS) (H : Heap) (locs : List Loc) (ls : Array Slot), lv_has ls 6 [] → k_H D (wK cs ad) (k_A 41 ad) σj52 s.heap H locs → T0 = jX0_swapRows_52 N σj52 → W p l e rmX0_swapRows s m args below meth c H locs 0 0 Q0 (F0 m 52 ls []) := by
    intro σj52 H locs ls hl hw hE0
    unfold jX0_swapRows_52 at hE0
    exact kret_v hcf hr hlk hK hw (rt1 hR hE0) hQ0 dX0_swapRows_52
  refine lv_iconst (v := 0) hx hb dX0_swapRows_0 rfl ?_
  refine lv_istore_n hx hb dX0_swapRows_1 rfl hl (Nat.le_of_ble_eq_true rfl) rfl (fun ls (hl : lv_has ls 6 [(3, .int (0 : Int32)), (0, .ref (ad 2)), (1, .int p1), (2, .int p2)]) => ?_)
  obtain ⟨q, hq, hE0⟩ := bd1_e hE0 hN0
  refine k_ind (P := fun zz => ∀ (H : Heap) (locs : List Loc) (ls : Array Slot), lv_has ls 6 [(0, .ref (ad 2)), (1, .int p1), (2, .int p2), (3, .int zz.1)] → k_H D (wK cs ad) (k_A 41 ad) zz.2 s.heap H locs → W p l e rmX0_swapRows s m args below meth c H locs 0 0 Q0 (F0 m 2 ls [])) ?_ N _ hq H locs ls (lv_sub hl [1, 2, 3, 0] rfl) hw
  intro sX T1 hE1 hN1 hC1 hX1
  obtain ⟨v3h2, σh2⟩ := sX
  replace hE1 : T1 = bX0_swapRows_2 N p1 p2 v3h2 σh2 := hE1
  unfold bX0_swapRows_2 at hE1
  intro H locs ls hl hw
  replace hl : lv_has ls 6 [(0, .ref (ad 2)), (1, .int p1), (2, .int p2), (3, .int v3h2)] := hl
  replace hw : k_H D (wK cs ad) (k_A 41 ad) σh2 s.heap H locs := hw
  refine lv_iload_n hx hb dX0_swapRows_2 rfl (lv_at hl 3 rfl) ?_
  refine lv_aload_n hx hb dX0_swapRows_3 rfl (lv_at hl 0 rfl) ?_
  refine kg_X0_width hcf hK (kw_202 htk) (x := (σh2.1 14)) dX0_swapRows_4 hw rfl ?_
  refine lv_icmp_ge (tgt := 52) hx hb dX0_swapRows_7 (by decide) (fun c11 => ?_) (fun c11 => ?_)
  · have hE1 := ite_t hE1 c11
    have hq := hX1 _ hE1
    subst hq
    exact J52 σh2 H locs ls (lv_sub hl [] rfl) hw hE0
  · have hE1 := ite_f hE1 c11
    refine lv_aload_n hx hb dX0_swapRows_10 rfl (lv_at hl 0 rfl) ?_
    refine kg_X0_rows hcf hK (kw_198 htk) dX0_swapRows_11 hw ?_
    refine lv_iload_n hx hb dX0_swapRows_14 rfl (lv_at hl 1 rfl) ?_
    obtain ⟨g1, hE1⟩ := gd_e hE1 hN1
    refine kaald_rows hcf hK dX0_swapRows_15 rfl g1 hw ?_
    refine lv_iload_n hx hb dX0_swapRows_16 rfl (lv_at hl 3 rfl) ?_
    obtain ⟨g2, hE1⟩ := gd_e hE1 hN1
    refine kald_rows hcf hK (x := (σh2.2.2.2 (11 + (p1).toNatClampNeg) ((v3h2).toNatClampNeg))) dX0_swapRows_17 g1 g2 hw rfl ?_
    refine lv_topl (fun x3 e_x3 => ?_)
    have hE1 := k_lts hE1 e_x3
    refine lv_lstore hx hb dX0_swapRows_18 hl (Nat.le_of_ble_eq_true rfl) rfl (fun ls (hl : lv_has ls 6 [(4, .long x3), (0, .ref (ad 2)), (1, .int p1), (2, .int p2), (3, .int v3h2)]) => ?_)
    refine lv_aload_n hx hb dX0_swapRows_20 rfl (lv_at hl 1 rfl) ?_
    refine kg_X0_rows hcf hK (kw_198 htk) dX0_swapRows_21 hw ?_
    refine lv_iload_n hx hb dX0_swapRows_24 rfl (lv_at hl 2 rfl) ?_
    obtain ⟨g4, hE1⟩ := gd_e hE1 hN1
    refine kaald_rows hcf hK dX0_swapRows_25 rfl g4 hw ?_
    refine lv_iload_n hx hb dX0_swapRows_26 rfl (lv_at hl 4 rfl) ?_
    refine lv_aload_n hx hb dX0_swapRows_27 rfl (lv_at hl 1 rfl) ?_
    refine kg_X0_rows hcf hK (kw_198 htk) dX0_swapRows_28 hw ?_
    refine lv_iload_n hx hb dX0_swapRows_31 rfl (lv_at hl 3 rfl) ?_
    obtain ⟨g5, hE1⟩ := gd_e hE1 hN1
    refine kaald_rows hcf hK dX0_swapRows_32 rfl g5 hw ?_
    refine lv_iload_n hx hb dX0_swapRows_33 rfl (lv_at hl 4 rfl) ?_
    obtain ⟨g6, hE1⟩ := gd_e hE1 hN1
    refine kald_rows hcf hK (x := (σh2.2.2.2 (11 + (p2).toNatClampNeg) ((v3h2).toNatClampNeg))) dX0_swapRows_34 g5 g6 hw rfl ?_
    obtain ⟨g7, hE1⟩ := gd_e hE1 hN1
    refine kast_rows hcf hK dX0_swapRows_35 g4 g7 hw (fun H locs hw => ?_)
    refine lv_aload_n hx hb dX0_swapRows_36 rfl (lv_at hl 1 rfl) ?_
    refine kg_X0_rows hcf hK (kw_198 htk) dX0_swapRows_37 hw ?_
    refine lv_iload_n hx hb dX0_swapRows_40 rfl (lv_at hl 3 rfl) ?_
    obtain ⟨g8, hE1⟩ := gd_e hE1 hN1
    refine kaald_rows hcf hK dX0_swapRows_41 rfl g8 hw ?_
    refine lv_iload_n hx hb dX0_swapRows_42 rfl (lv_at hl 4 rfl) ?_
    refine lv_lload hx hb dX0_swapRows_43 (lv_at hl 0 rfl) ?_
    obtain ⟨g9, hE1⟩ := gd_e hE1 hN1
    refine kast_rows hcf hK dX0_swapRows_45 g8 g9 hw (fun H locs hw => ?_)
    obtain ⟨x10, e_x10, hE1⟩ := k_lte hE1
    refine lv_iinc (k := 4) (v := x10) hx hb dX0_swapRows_46 hl rfl (Eq.symm e_x10) (Nat.le_of_ble_eq_true rfl) rfl (fun ls (hl : lv_has ls 6 [(3, .int x10), (4, .long x3), (0, .ref (ad 2)), (1, .int p1), (2, .int p2)]) => ?_)
    refine lv_goto (tgt := 2) hx hb dX0_swapRows_49 (by decide) ?_
    exact hC1 _ hE1 H locs ls (lv_sub hl [2, 3, 4, 0] rfl) hw
def fX0_quotient (N : Nat) (σ : vS) (p0 : Int64) (p2 : Int64) : Option (Int64) :=
  if ((lg_cmp p2 (0 : Int64)) = 0) then (
    some (0 : Int64)
  ) else (
    if (p2 = 0) then none else
    some (p0 / p2)
  )
abbrev rmX0_quotient : Room := { frames := 0, cells := 0, slots := 0, locals := 0 }
abbrev wsX0_quotient : List Cond := .code yX0_quotient cX0_quotient 4 (some .long) :: kws
theorem kcX0_quotient {R : Room} {s : State} {args : Array Value} {own : String} {index : Nat} (htk : ∀ w ∈ kws, w.before args s = true) (hl : (Cond.methodLink own index yX0_quotient).before args s = true) (hR : rmX0_quotient.frames + 1 ≤ R.frames ∧ 8 + (4 + 11) + rmX0_quotient.locals ≤ R.locals) : CallB R s args own index yX0_quotient cX0_quotient 4 (some .long) wsX0_quotient rmX0_quotient 0 0 2 ∧ (Cond.static yX0_quotient).before args s = true :=
  ⟨callB_of 2 htk (k_good kc_400) rfl rfl rfl (kw_56 htk) hl (by decide +kernel) hR, (kw_399 htk)⟩
set_option maxRecDepth 100000 in
set_option maxHeartbeats 4000000 in
theorem mX0_quotient (l : Launch) (D : va_G) (cs : Nat → ClassId) (ad : Nat → Nat) (N : Nat) (σ : vS) (p0 : Int64) (p2 : Int64) (r : Int64) (hf : fX0_quotient N σ p0 p2 = some r) : k_MP l yX0_quotient wsX0_quotient rmX0_quotient D (tK cs) (wK cs ad) [.long p0, .long p2] σ (.long r) := by
  refine k_ofP (cc := cX0_quotient) (maxL := 4) (ret := (some .long)) (by decide) rfl (Nat.le_of_ble_eq_true rfl) ?_
  intro p e s m args below meth c ls hcf hr hlk hK hZ hl hw
  generalize hQ0 : MQ below _ args s 0 0 _ = Q0
  obtain ⟨T0, hE0⟩ : ∃ T, T = fX0_quotient N σ p0 p2 := ⟨_, rfl⟩
  have hR := hE0.trans hf
  have hN0 : T0 ≠ none := by rw [hR]; exact fun h => nomatch h
  have hx := hcf.1
  have hb := hcf.2.1
  have htk := hcf.2.2.2.2
  have hown := hcf.2.2.2.1
  unfold fX0_quotient at hE0
  replace hl : lv_has ls 4 [(0, .long p0), (2, .long p2)] := hl
  refine lv_lload_n hx hb dX0_quotient_0 rfl (lv_at hl 1 rfl) ?_
  refine lv_lconst (v := 0) hx hb dX0_quotient_1 rfl ?_
  refine W.lcmp hx hb dX0_quotient_2 ?_
  refine lv_if_ne (tgt := 10) hx hb dX0_quotient_3 (by decide) (fun c2 => ?_) (fun c2 => ?_)
  · have hE0 := ite_f hE0 c2
    refine lv_lload_n hx hb dX0_quotient_10 rfl (lv_at hl 0 rfl) ?_
    refine lv_lload_n hx hb dX0_quotient_11 rfl (lv_at hl 1 rfl) ?_
    obtain ⟨g1, hE0⟩ := gd_e hE0 hN0
    refine lv_ldiv hx hb dX0_quotient_12 g1 ?_
    exact kretP_l hcf hr hlk hK hw (rt1 hR hE0) hQ0 dX0_quotient_13
  · have hE0 := ite_t hE0 c2
    refine lv_lconst (v := 0) hx hb dX0_quotient_6 rfl ?_
    refine lv_goto (tgt := 13) hx hb dX0_quotient_7 (by decide) ?_
    exact kretP_l hcf hr hlk hK hw (rt1 hR hE0) hQ0 dX0_quotient_13
def jX0_clearColumn_121 (N : Nat) (σj121 : vS) : Option (vS) :=
  some σj121
def jX0_clearColumn_115_23 (N : Nat) (σj115 : vS) (p1 : Int32) (x1 : Int64) (v4j115 : Int32) : Option ((Int32 × vS) ⊕ (vS)) :=
  k_lt (v4j115 + (1 : Int32)) fun x7 =>
  some (.inl (x7, σj115))
def bX0_clearColumn_46 (N : Nat) (p1 : Int32) (x1 : Int64) (v4h23 : Int32) (x6 : Int64) (v7h46 : Int32) (σh46 : vS) : Option ((Int32 × vS) ⊕ (vS)) :=
  if ((σh46.1 14) ≤ v7h46) then (
    some (.inr σh46)
  ) else (
    if (v4h23 = (σh46.1 12)) then (
      some (.inr σh46)
    ) else (
      if (v4h23 < 0 ∨ 5 ≤ (v4h23).toNatClampNeg) then none else
      if (v4h23 < 0 ∨ 5 ≤ (v4h23).toNatClampNeg) then none else
      if (v7h46 < 0 ∨ 6 ≤ (v7h46).toNatClampNeg) then none else
      if ((σh46.1 12) < 0 ∨ 5 ≤ ((σh46.1 12)).toNatClampNeg) then none else
      if (v7h46 < 0 ∨ 6 ≤ (v7h46).toNatClampNeg) then none else
      bd1 (fX0_quotient N σh46 (((σh46.2.2.1 0) * (σh46.2.2.2 (11 + (v4h23).toNatClampNeg) ((v7h46).toNatClampNeg))) - (x6 * (σh46.2.2.2 (11 + ((σh46.1 12)).toNatClampNeg) ((v7h46).toNatClampNeg)))) x1) fun r13 =>
      if (v7h46 < 0 ∨ 6 ≤ (v7h46).toNatClampNeg) then none else
      k_lt (v7h46 + (1 : Int32)) fun x15 =>
      some (.inl (x15, (p_b σh46 (11 + (v4h23).toNatClampNeg) ((v7h46).toNatClampNeg) r13)))
    )
  )
def bX0_clearColumn_23 (N : Nat) (p1 : Int32) (x1 : Int64) (v4h23 : Int32) (σh23 : vS) : Option ((Int32 × vS) ⊕ (vS)) :=
  if ((σh23.1 13) ≤ v4h23) then (
    some (.inr σh23)
  ) else (
    if (v4h23 < 0 ∨ 5 ≤ (v4h23).toNatClampNeg) then none else
    if (p1 < 0 ∨ 6 ≤ (p1).toNatClampNeg) then none else
    k_lt (σh23.2.2.2 (11 + (v4h23).toNatClampNeg) ((p1).toNatClampNeg)) fun x6 =>
    bd1 (k_itr (fun zz => bX0_clearColumn_46 N p1 x1 v4h23 x6 zz.1 zz.2) N ((0 : Int32), σh23)) fun q => jX0_clearColumn_115_23 N q p1 x1 v4h23
  )
def fX0_clearColumn (N : Nat) (σ : vS) (p1 : Int32) : Option (vS) :=
  k_lt (σ.2.2.1 0) fun x1 =>
  if ((σ.1 12) < 0 ∨ 5 ≤ ((σ.1 12)).toNatClampNeg) then none else
  if (p1 < 0 ∨ 6 ≤ (p1).toNatClampNeg) then none else
  bd1 (k_itr (fun zz => bX0_clearColumn_23 N p1 x1 zz.1 zz.2) N ((0 : Int32), (p_j σ 0 (σ.2.2.2 (11 + ((σ.1 12)).toNatClampNeg) ((p1).toNatClampNeg))))) fun q => jX0_clearColumn_121 N q
abbrev rmX0_clearColumn : Room := { frames := 1, cells := 0, slots := 0, locals := 23 }
abbrev wsX0_clearColumn : List Cond := .code yX0_clearColumn cX0_clearColumn 8 none :: kws
theorem kcX0_clearColumn {R : Room} {s : State} {args : Array Value} {own : String} {index : Nat} (htk : ∀ w ∈ kws, w.before args s = true) (hl : (Cond.methodLink own index yX0_clearColumn).before args s = true) (hR : rmX0_clearColumn.frames + 1 ≤ R.frames ∧ 8 + (8 + 11) + rmX0_clearColumn.locals ≤ R.locals) : CallW R s args own RX0 index yX0_clearColumn cX0_clearColumn 8 none wsX0_clearColumn rmX0_clearColumn 0 0 1 :=
  ⟨callB_of 1 htk (k_good kc_397) rfl rfl rfl (kw_56 htk) hl (by decide +kernel) hR, (kw_396 htk), (kw_17 htk)⟩
set_option maxRecDepth 100000 in
set_option maxHeartbeats 4000000 in
theorem mX0_clearColumn (l : Launch) (D : va_G) (cs : Nat → ClassId) (ad : Nat → Nat) (N : Nat) (σ : vS) (p1 : Int32) (σ' : vS) (hf : fX0_clearColumn N σ p1 = some σ') : k_Met l yX0_clearColumn wsX0_clearColumn rmX0_clearColumn D (tK cs) (wK cs ad) (k_A 41 ad) [.ref (ad 2), .int p1] σ none σ' := by
  refine k_of (cc := cX0_clearColumn) (maxL := 8) (ret := none) (by decide) rfl (Nat.le_of_ble_eq_true rfl) ?_
  intro p e s m args below meth c ls H locs hcf hr hlk hK hZ hl hw
  generalize hQ0 : MQ below _ args s 0 0 _ = Q0
  obtain ⟨T0, hE0⟩ : ∃ T, T = fX0_clearColumn N σ p1 := ⟨_, rfl⟩
  have hR := hE0.trans hf
  have hN0 : T0 ≠ none := by rw [hR]; exact fun h => nomatch h
  have hx := hcf.1
  have hb := hcf.2.1
  have htk := hcf.2.2.2.2
  have hown := hcf.2.2.2.1
  unfold fX0_clearColumn at hE0
  replace hl : lv_has ls 8 [(0, .ref (ad 2)), (1, .int p1)] := hl
  have J121 : ∀ (σj121 : vS) (H : Heap) (locs : List Loc) (ls : Array Slot), lv_has ls 8 [] → k_H D (wK cs ad) (k_A 41 ad) σj121 s.heap H locs → T0 = jX0_clearColumn_121 N σj121 → W p l e rmX0_clearColumn s m args below meth c H locs 0 0 Q0 (F0 m 121 ls []) := by
    intro σj121 H locs ls hl hw hE0
    unfold jX0_clearColumn_121 at hE0
    exact kret_v hcf hr hlk hK hw (rt1 hR hE0) hQ0 dX0_clearColumn_121
  refine lv_aload_n hx hb dX0_clearColumn_0 rfl (lv_at hl 0 rfl) ?_
  refine kg_X0_pivot hcf hK (kw_203 htk) (x := (σ.2.2.1 0)) dX0_clearColumn_1 hw rfl ?_
  refine lv_topl (fun x1 e_x1 => ?_)
  have hE0 := k_lts hE0 e_x1
  refine lv_lstore_n hx hb dX0_clearColumn_4 rfl hl (Nat.le_of_ble_eq_true rfl) rfl (fun ls (hl : lv_has ls 8 [(2, .long x1), (0, .ref (ad 2)), (1, .int p1)]) => ?_)
  refine lv_aload_n hx hb dX0_clearColumn_5 rfl (lv_at hl 1 rfl) ?_
  refine lv_aload_n hx hb dX0_clearColumn_6 rfl (lv_at hl 1 rfl) ?_
  refine kg_X0_rows hcf hK (kw_198 htk) dX0_clearColumn_7 hw ?_
  refine lv_aload_n hx hb dX0_clearColumn_10 rfl (lv_at hl 1 rfl) ?_
  refine kg_X0_rank hcf hK (kw_200 htk) (x := (σ.1 12)) dX0_clearColumn_11 hw rfl ?_
  obtain ⟨g2, hE0⟩ := gd_e hE0 hN0
  refine kaald_rows hcf hK dX0_clearColumn_14 rfl g2 hw ?_
  refine lv_iload_n hx hb dX0_clearColumn_15 rfl (lv_at hl 2 rfl) ?_
  obtain ⟨g3, hE0⟩ := gd_e hE0 hN0
  refine kald_rows hcf hK (x := (σ.2.2.2 (11 + ((σ.1 12)).toNatClampNeg) ((p1).toNatClampNeg))) dX0_clearColumn_16 g2 g3 hw rfl ?_
  refine kp_X0_pivot hcf hK (kw_203 htk) dX0_clearColumn_17 hw (fun H locs hw => ?_)
  refine lv_iconst (v := 0) hx hb dX0_clearColumn_20 rfl ?_
  refine lv_istore hx hb dX0_clearColumn_21 hl (Nat.le_of_ble_eq_true rfl) rfl (fun ls (hl : lv_has ls 8 [(4, .int (0 : Int32)), (2, .long x1), (0, .ref (ad 2)), (1, .int p1)]) => ?_)
  obtain ⟨q, hq, hE0⟩ := bd1_e hE0 hN0
  refine k_ind (P := fun zz => ∀ (H : Heap) (locs : List Loc) (ls : Array Slot), lv_has ls 8 [(0, .ref (ad 2)), (1, .int p1), (2, .long x1), (4, .int zz.1)] → k_H D (wK cs ad) (k_A 41 ad) zz.2 s.heap H locs → W p l e rmX0_clearColumn s m args below meth c H locs 0 0 Q0 (F0 m 23 ls [])) ?_ N _ hq H locs ls (lv_sub hl [2, 3, 1, 0] rfl) hw
  intro sX T1 hE1 hN1 hC1 hX1
  obtain ⟨v4h23, σh23⟩ := sX
  replace hE1 : T1 = bX0_clearColumn_23 N p1 x1 v4h23 σh23 := hE1
  unfold bX0_clearColumn_23 at hE1
  have J115_23 : ∀ (v4j115 : Int32) (σj115 : vS) (H : Heap) (locs : List Loc) (ls : Array Slot), lv_has ls 8 [(0, .ref (ad 2)), (1, .int p1), (2, .long x1), (4, .int v4j115)] → k_H D (wK cs ad) (k_A 41 ad) σj115 s.heap H locs → T1 = jX0_clearColumn_115_23 N σj115 p1 x1 v4j115 → W p l e rmX0_clearColumn s m args below meth c H locs 0 0 Q0 (F0 m 115 ls []) := by
    intro v4j115 σj115 H locs ls hl hw hE1
    unfold jX0_clearColumn_115_23 at hE1
    obtain ⟨x7, e_x7, hE1⟩ := k_lte hE1
    refine lv_iinc (k := 3) (v := x7) hx hb dX0_clearColumn_115 hl rfl (Eq.symm e_x7) (Nat.le_of_ble_eq_true rfl) rfl (fun ls (hl : lv_has ls 8 [(4, .int x7), (0, .ref (ad 2)), (1, .int p1), (2, .long x1)]) => ?_)
    refine lv_goto (tgt := 23) hx hb dX0_clearColumn_118 (by decide) ?_
    exact hC1 _ hE1 H locs ls (lv_sub hl [1, 2, 3, 0] rfl) hw
  intro H locs ls hl hw
  replace hl : lv_has ls 8 [(0, .ref (ad 2)), (1, .int p1), (2, .long x1), (4, .int v4h23)] := hl
  replace hw : k_H D (wK cs ad) (k_A 41 ad) σh23 s.heap H locs := hw
  refine lv_iload hx hb dX0_clearColumn_23 (lv_at hl 3 rfl) ?_
  refine lv_aload_n hx hb dX0_clearColumn_25 rfl (lv_at hl 0 rfl) ?_
  refine kg_X0_height hcf hK (kw_201 htk) (x := (σh23.1 13)) dX0_clearColumn_26 hw rfl ?_
  refine lv_icmp_ge (tgt := 121) hx hb dX0_clearColumn_29 (by decide) (fun c18 => ?_) (fun c18 => ?_)
  · have hE1 := ite_t hE1 c18
    have hq := hX1 _ hE1
    subst hq
    exact J121 σh23 H locs ls (lv_sub hl [] rfl) hw hE0
  · have hE1 := ite_f hE1 c18
    refine lv_aload_n hx hb dX0_clearColumn_32 rfl (lv_at hl 0 rfl) ?_
    refine kg_X0_rows hcf hK (kw_198 htk) dX0_clearColumn_33 hw ?_
    refine lv_iload hx hb dX0_clearColumn_36 (lv_at hl 3 rfl) ?_
    obtain ⟨g4, hE1⟩ := gd_e hE1 hN1
    refine kaald_rows hcf hK dX0_clearColumn_38 rfl g4 hw ?_
    refine lv_iload_n hx hb dX0_clearColumn_39 rfl (lv_at hl 1 rfl) ?_
    obtain ⟨g5, hE1⟩ := gd_e hE1 hN1
    refine kald_rows hcf hK (x := (σh23.2.2.2 (11 + (v4h23).toNatClampNeg) ((p1).toNatClampNeg))) dX0_clearColumn_40 g4 g5 hw rfl ?_
    refine lv_topl (fun x6 e_x6 => ?_)
    have hE1 := k_lts hE1 e_x6
    refine lv_lstore hx hb dX0_clearColumn_41 hl (Nat.le_of_ble_eq_true rfl) rfl (fun ls (hl : lv_has ls 8 [(5, .long x6), (0, .ref (ad 2)), (1, .int p1), (2, .long x1), (4, .int v4h23)]) => ?_)
    refine lv_iconst (v := 0) hx hb dX0_clearColumn_43 rfl ?_
    refine lv_istore hx hb dX0_clearColumn_44 hl (Nat.le_of_ble_eq_true rfl) rfl (fun ls (hl : lv_has ls 8 [(7, .int (0 : Int32)), (5, .long x6), (0, .ref (ad 2)), (1, .int p1), (2, .long x1), (4, .int v4h23)]) => ?_)
    obtain ⟨q, hq, hE1⟩ := bd1_e hE1 hN1
    refine k_ind (P := fun zz => ∀ (H : Heap) (locs : List Loc) (ls : Array Slot), lv_has ls 8 [(0, .ref (ad 2)), (1, .int p1), (2, .long x1), (4, .int v4h23), (5, .long x6), (7, .int zz.1)] → k_H D (wK cs ad) (k_A 41 ad) zz.2 s.heap H locs → W p l e rmX0_clearColumn s m args below meth c H locs 0 0 Q0 (F0 m 46 ls [])) ?_ N _ hq H locs ls (lv_sub hl [2, 3, 4, 5, 1, 0] rfl) hw
    intro sX T2 hE2 hN2 hC2 hX2
    obtain ⟨v7h46, σh46⟩ := sX
    replace hE2 : T2 = bX0_clearColumn_46 N p1 x1 v4h23 x6 v7h46 σh46 := hE2
    unfold bX0_clearColumn_46 at hE2
    intro H locs ls hl hw
    replace hl : lv_has ls 8 [(0, .ref (ad 2)), (1, .int p1), (2, .long x1), (4, .int v4h23), (5, .long x6), (7, .int v7h46)] := hl
    replace hw : k_H D (wK cs ad) (k_A 41 ad) σh46 s.heap H locs := hw
    refine lv_iload hx hb dX0_clearColumn_46 (lv_at hl 5 rfl) ?_
    refine lv_aload_n hx hb dX0_clearColumn_48 rfl (lv_at hl 0 rfl) ?_
    refine kg_X0_width hcf hK (kw_202 htk) (x := (σh46.1 14)) dX0_clearColumn_49 hw rfl ?_
    refine lv_icmp_ge (tgt := 115) hx hb dX0_clearColumn_52 (by decide) (fun c17 => ?_) (fun c17 => ?_)
    · have hE2 := ite_t hE2 c17
      have hq := hX2 _ hE2
      subst hq
      exact J115_23 v4h23 σh46 H locs ls (lv_sub hl [0, 1, 2, 3] rfl) hw hE1
    · have hE2 := ite_f hE2 c17
      refine lv_iload hx hb dX0_clearColumn_55 (lv_at hl 3 rfl) ?_
      refine lv_aload_n hx hb dX0_clearColumn_57 rfl (lv_at hl 0 rfl) ?_
      refine kg_X0_rank hcf hK (kw_200 htk) (x := (σh46.1 12)) dX0_clearColumn_58 hw rfl ?_
      refine lv_icmp_eq (tgt := 115) hx hb dX0_clearColumn_61 (by decide) (fun c16 => ?_) (fun c16 => ?_)
      · have hE2 := ite_t hE2 c16
        have hq := hX2 _ hE2
        subst hq
        exact J115_23 v4h23 σh46 H locs ls (lv_sub hl [0, 1, 2, 3] rfl) hw hE1
      · have hE2 := ite_f hE2 c16
        refine lv_aload_n hx hb dX0_clearColumn_64 rfl (lv_at hl 0 rfl) ?_
        refine kg_X0_rows hcf hK (kw_198 htk) dX0_clearColumn_65 hw ?_
        refine lv_iload hx hb dX0_clearColumn_68 (lv_at hl 3 rfl) ?_
        obtain ⟨g8, hE2⟩ := gd_e hE2 hN2
        refine kaald_rows hcf hK dX0_clearColumn_70 rfl g8 hw ?_
        refine lv_iload hx hb dX0_clearColumn_71 (lv_at hl 5 rfl) ?_
        refine lv_aload_n hx hb dX0_clearColumn_73 rfl (lv_at hl 0 rfl) ?_
        refine kg_X0_pivot hcf hK (kw_203 htk) (x := (σh46.2.2.1 0)) dX0_clearColumn_74 hw rfl ?_
        refine lv_aload_n hx hb dX0_clearColumn_77 rfl (lv_at hl 0 rfl) ?_
        refine kg_X0_rows hcf hK (kw_198 htk) dX0_clearColumn_78 hw ?_
        refine lv_iload hx hb dX0_clearColumn_81 (lv_at hl 3 rfl) ?_
        obtain ⟨g9, hE2⟩ := gd_e hE2 hN2
        refine kaald_rows hcf hK dX0_clearColumn_83 rfl g9 hw ?_
        refine lv_iload hx hb dX0_clearColumn_84 (lv_at hl 5 rfl) ?_
        obtain ⟨g10, hE2⟩ := gd_e hE2 hN2
        refine kald_rows hcf hK (x := (σh46.2.2.2 (11 + (v4h23).toNatClampNeg) ((v7h46).toNatClampNeg))) dX0_clearColumn_86 g9 g10 hw rfl ?_
        refine lv_lmul hx hb dX0_clearColumn_87 ?_
        refine lv_lload hx hb dX0_clearColumn_88 (lv_at hl 4 rfl) ?_
        refine lv_aload_n hx hb dX0_clearColumn_90 rfl (lv_at hl 0 rfl) ?_
        refine kg_X0_rows hcf hK (kw_198 htk) dX0_clearColumn_91 hw ?_
        refine lv_aload_n hx hb dX0_clearColumn_94 rfl (lv_at hl 0 rfl) ?_
        refine kg_X0_rank hcf hK (kw_200 htk) (x := (σh46.1 12)) dX0_clearColumn_95 hw rfl ?_
        obtain ⟨g11, hE2⟩ := gd_e hE2 hN2
        refine kaald_rows hcf hK dX0_clearColumn_98 rfl g11 hw ?_
        refine lv_iload hx hb dX0_clearColumn_99 (lv_at hl 5 rfl) ?_
        obtain ⟨g12, hE2⟩ := gd_e hE2 hN2
        refine kald_rows hcf hK (x := (σh46.2.2.2 (11 + ((σh46.1 12)).toNatClampNeg) ((v7h46).toNatClampNeg))) dX0_clearColumn_101 g11 g12 hw rfl ?_
        refine lv_lmul hx hb dX0_clearColumn_102 ?_
        refine lv_lsub hx hb dX0_clearColumn_103 ?_
        refine lv_lload_n hx hb dX0_clearColumn_104 rfl (lv_at hl 2 rfl) ?_
        obtain ⟨r13, k13, hE2⟩ := bd1_e hE2 hN2
        refine k_callP (va_runS (As := [.long (((σh46.2.2.1 0) * (σh46.2.2.2 (11 + (v4h23).toNatClampNeg) ((v7h46).toNatClampNeg))) - (x6 * (σh46.2.2.2 (11 + ((σh46.1 12)).toNatClampNeg) ((v7h46).toNatClampNeg)))), .long x1]) (rest := [.int v7h46, .ref (ad (25 + (11 + (v4h23).toNatClampNeg)))]) hcf (mX0_quotient l D cs ad N σh46 (((σh46.2.2.1 0) * (σh46.2.2.2 (11 + (v4h23).toNatClampNeg) ((v7h46).toNatClampNeg))) - (x6 * (σh46.2.2.2 (11 + ((σh46.1 12)).toNatClampNeg) ((v7h46).toNatClampNeg)))) x1 r13 k13) (kcX0_quotient htk (kw_398 htk) ⟨Nat.le_of_ble_eq_true rfl, Nat.le_of_ble_eq_true rfl⟩) ⟨k_blind, k_pre hK hZ hw⟩ rfl rfl hl.1 rfl (lv_room (Nat.le_of_ble_eq_true rfl)) dX0_clearColumn_105 ⟨Nat.zero_le _, Nat.zero_le _⟩) ?_
        obtain ⟨g14, hE2⟩ := gd_e hE2 hN2
        refine kast_rows hcf hK dX0_clearColumn_108 g8 g14 hw (fun H locs hw => ?_)
        obtain ⟨x15, e_x15, hE2⟩ := k_lte hE2
        refine lv_iinc (k := 5) (v := x15) hx hb dX0_clearColumn_109 hl rfl (Eq.symm e_x15) (Nat.le_of_ble_eq_true rfl) rfl (fun ls (hl : lv_has ls 8 [(7, .int x15), (0, .ref (ad 2)), (1, .int p1), (2, .long x1), (4, .int v4h23), (5, .long x6)]) => ?_)
        refine lv_goto (tgt := 46) hx hb dX0_clearColumn_112 (by decide) ?_
        exact hC2 _ hE2 H locs ls (lv_sub hl [1, 2, 3, 4, 5, 0] rfl) hw
def jX0_reduce_87 (N : Nat) (σj87 : vS) : Option (vS) :=
  some σj87
def jX0_reduce_42_12 (N : Nat) (σj42 : vS) (v1j42 : Int32) (v2j42 : Int32) : Option ((Int32 × vS) ⊕ (vS)) :=
  if (v2j42 = (-1 : Int32)) then (
    k_lt (v1j42 + (1 : Int32)) fun x3 =>
    some (.inl (x3, σj42))
  ) else (
    bd1 (fX0_swapRows N σj42 (σj42.1 12) v2j42) fun σ4 =>
    bd1 (fX0_clearColumn N σ4 v1j42) fun σ5 =>
    if ((σ5.1 12) < 0 ∨ 5 ≤ ((σ5.1 12)).toNatClampNeg) then none else
    k_lt (v1j42 + (1 : Int32)) fun x7 =>
    some (.inl (x7, (p_i (p_a σ5 7 (((σ5.1 12)).toNatClampNeg) v1j42) 12 ((σ5.1 12) + (1 : Int32)))))
  )
def bX0_reduce_12 (N : Nat) (v1h12 : Int32) (σh12 : vS) : Option ((Int32 × vS) ⊕ (vS)) :=
  if ((σh12.1 14) ≤ v1h12) then (
    some (.inr σh12)
  ) else (
    bd1 (fX0_pivotRow N σh12 v1h12) fun r1 =>
    if (r1 = (-1 : Int32)) then (
      if (v1h12 < 0 ∨ 6 ≤ (v1h12).toNatClampNeg) then none else
      jX0_reduce_42_12 N (p_a σh12 6 ((v1h12).toNatClampNeg) (vp_nar .boolean (1 : Int32))) v1h12 r1
    ) else (
      if (v1h12 < 0 ∨ 6 ≤ (v1h12).toNatClampNeg) then none else
      jX0_reduce_42_12 N (p_a σh12 6 ((v1h12).toNatClampNeg) (vp_nar .boolean (0 : Int32))) v1h12 r1
    )
  )
def fX0_reduce (N : Nat) (σ : vS) : Option (vS) :=
  bd1 (k_itr (fun zz => bX0_reduce_12 N zz.1 zz.2) N ((0 : Int32), (p_j (p_i σ 12 (0 : Int32)) 0 (1 : Int64)))) fun q => jX0_reduce_87 N q
abbrev rmX0_reduce : Room := { frames := 2, cells := 0, slots := 0, locals := 50 }
abbrev wsX0_reduce : List Cond := .code yX0_reduce cX0_reduce 3 none :: kws
theorem kcX0_reduce {R : Room} {s : State} {args : Array Value} {own : String} {index : Nat} (htk : ∀ w ∈ kws, w.before args s = true) (hl : (Cond.methodLink own index yX0_reduce).before args s = true) (hR : rmX0_reduce.frames + 1 ≤ R.frames ∧ 8 + (3 + 11) + rmX0_reduce.locals ≤ R.locals) : CallW R s args own RX0 index yX0_reduce cX0_reduce 3 none wsX0_reduce rmX0_reduce 0 0 0 :=
  ⟨callB_of 0 htk (k_good kc_385) rfl rfl rfl (kw_56 htk) hl (by decide +kernel) hR, (kw_384 htk), (kw_14 htk)⟩
set_option maxRecDepth 100000 in
set_option maxHeartbeats 4000000 in
theorem mX0_reduce (l : Launch) (D : va_G) (cs : Nat → ClassId) (ad : Nat → Nat) (N : Nat) (σ : vS) (σ' : vS) (hf : fX0_reduce N σ = some σ') : k_Met l yX0_reduce wsX0_reduce rmX0_reduce D (tK cs) (wK cs ad) (k_A 41 ad) [.ref (ad 2)] σ none σ' := by
  refine k_of (cc := cX0_reduce) (maxL := 3) (ret := none) (by decide) rfl (Nat.le_of_ble_eq_true rfl) ?_
  intro p e s m args below meth c ls H locs hcf hr hlk hK hZ hl hw
  generalize hQ0 : MQ below _ args s 0 0 _ = Q0
  obtain ⟨T0, hE0⟩ : ∃ T, T = fX0_reduce N σ := ⟨_, rfl⟩
  have hR := hE0.trans hf
  have hN0 : T0 ≠ none := by rw [hR]; exact fun h => nomatch h
  have hx := hcf.1
  have hb := hcf.2.1
  have htk := hcf.2.2.2.2
  have hown := hcf.2.2.2.1
  unfold fX0_reduce at hE0
  replace hl : lv_has ls 3 [(0, .ref (ad 2))] := hl
  have J87 : ∀ (σj87 : vS) (H : Heap) (locs : List Loc) (ls : Array Slot), lv_has ls 3 [] → k_H D (wK cs ad) (k_A 41 ad) σj87 s.heap H locs → T0 = jX0_reduce_87 N σj87 → W p l e rmX0_reduce s m args below meth c H locs 0 0 Q0 (F0 m 87 ls []) := by
    intro σj87 H locs ls hl hw hE0
    unfold jX0_reduce_87 at hE0
    exact kret_v hcf hr hlk hK hw (rt1 hR hE0) hQ0 dX0_reduce_87
  refine lv_aload_n hx hb dX0_reduce_0 rfl (lv_at hl 0 rfl) ?_
  refine lv_iconst (v := 0) hx hb dX0_reduce_1 rfl ?_
  refine kp_X0_rank hcf hK (kw_200 htk) dX0_reduce_2 hw (fun H locs hw => ?_)
  refine lv_aload_n hx hb dX0_reduce_5 rfl (lv_at hl 0 rfl) ?_
  refine lv_lconst (v := 1) hx hb dX0_reduce_6 rfl ?_
  refine kp_X0_pivot hcf hK (kw_203 htk) dX0_reduce_7 hw (fun H locs hw => ?_)
  refine lv_iconst (v := 0) hx hb dX0_reduce_10 rfl ?_
  refine lv_istore_n hx hb dX0_reduce_11 rfl hl (Nat.le_of_ble_eq_true rfl) rfl (fun ls (hl : lv_has ls 3 [(1, .int (0 : Int32)), (0, .ref (ad 2))]) => ?_)
  obtain ⟨q, hq, hE0⟩ := bd1_e hE0 hN0
  refine k_ind (P := fun zz => ∀ (H : Heap) (locs : List Loc) (ls : Array Slot), lv_has ls 3 [(0, .ref (ad 2)), (1, .int zz.1)] → k_H D (wK cs ad) (k_A 41 ad) zz.2 s.heap H locs → W p l e rmX0_reduce s m args below meth c H locs 0 0 Q0 (F0 m 12 ls [])) ?_ N _ hq H locs ls (lv_sub hl [1, 0] rfl) hw
  intro sX T1 hE1 hN1 hC1 hX1
  obtain ⟨v1h12, σh12⟩ := sX
  replace hE1 : T1 = bX0_reduce_12 N v1h12 σh12 := hE1
  unfold bX0_reduce_12 at hE1
  have J42_12 : ∀ (v1j42 : Int32) (v2j42 : Int32) (σj42 : vS) (H : Heap) (locs : List Loc) (ls : Array Slot), lv_has ls 3 [(0, .ref (ad 2)), (1, .int v1j42), (2, .int v2j42)] → k_H D (wK cs ad) (k_A 41 ad) σj42 s.heap H locs → T1 = jX0_reduce_42_12 N σj42 v1j42 v2j42 → W p l e rmX0_reduce s m args below meth c H locs 0 0 Q0 (F0 m 42 ls []) := by
    intro v1j42 v2j42 σj42 H locs ls hl hw hE1
    unfold jX0_reduce_42_12 at hE1
    refine lv_iload_n hx hb dX0_reduce_42 rfl (lv_at hl 2 rfl) ?_
    refine lv_iconst (v := -1) hx hb dX0_reduce_43 rfl ?_
    refine lv_icmp_eq (tgt := 81) hx hb dX0_reduce_44 (by decide) (fun c8 => ?_) (fun c8 => ?_)
    · have hE1 := ite_t hE1 c8
      obtain ⟨x3, e_x3, hE1⟩ := k_lte hE1
      refine lv_iinc (k := 1) (v := x3) hx hb dX0_reduce_81 hl rfl (Eq.symm e_x3) (Nat.le_of_ble_eq_true rfl) rfl (fun ls (hl : lv_has ls 3 [(1, .int x3), (0, .ref (ad 2)), (2, .int v2j42)]) => ?_)
      refine lv_goto (tgt := 12) hx hb dX0_reduce_84 (by decide) ?_
      exact hC1 _ hE1 H locs ls (lv_sub hl [1, 0] rfl) hw
    · have hE1 := ite_f hE1 c8
      refine lv_aload_n hx hb dX0_reduce_47 rfl (lv_at hl 0 rfl) ?_
      refine lv_aload_n hx hb dX0_reduce_48 rfl (lv_at hl 0 rfl) ?_
      refine kg_X0_rank hcf hK (kw_200 htk) (x := (σj42.1 12)) dX0_reduce_49 hw rfl ?_
      refine lv_iload_n hx hb dX0_reduce_52 rfl (lv_at hl 2 rfl) ?_
      obtain ⟨σ4, k4, hE1⟩ := bd1_e hE1 hN1
      refine k_call (va_runV (As := [.int (σj42.1 12), .int v2j42]) (rest := []) hcf (mX0_swapRows l D cs ad N σj42 (σj42.1 12) v2j42 σ4 k4) (kcX0_swapRows htk (kw_390 htk) ⟨Nat.le_of_ble_eq_true rfl, Nat.le_of_ble_eq_true rfl⟩) ⟨k_blind, va_recv (ci := 0) (q0 := 2) hK hw.1 rfl rfl, k_pre hK hZ hw⟩ rfl rfl hl.1 rfl (lv_room (Nat.le_of_ble_eq_true rfl)) dX0_reduce_53 ⟨Nat.zero_le _, Nat.zero_le _⟩) hw (fun H locs hw => ?_)
      refine lv_aload_n hx hb dX0_reduce_56 rfl (lv_at hl 0 rfl) ?_
      refine lv_iload_n hx hb dX0_reduce_57 rfl (lv_at hl 1 rfl) ?_
      obtain ⟨σ5, k5, hE1⟩ := bd1_e hE1 hN1
      refine k_call (va_runV (As := [.int v1j42]) (rest := []) hcf (mX0_clearColumn l D cs ad N σ4 v1j42 σ5 k5) (kcX0_clearColumn htk (kw_394 htk) ⟨Nat.le_of_ble_eq_true rfl, Nat.le_of_ble_eq_true rfl⟩) ⟨k_blind, va_recv (ci := 0) (q0 := 2) hK hw.1 rfl rfl, k_pre hK hZ hw⟩ rfl rfl hl.1 rfl (lv_room (Nat.le_of_ble_eq_true rfl)) dX0_reduce_58 ⟨Nat.zero_le _, Nat.zero_le _⟩) hw (fun H locs hw => ?_)
      refine lv_aload_n hx hb dX0_reduce_61 rfl (lv_at hl 0 rfl) ?_
      refine kg_X0_leading hcf hK (kw_199 htk) dX0_reduce_62 hw ?_
      refine lv_aload_n hx hb dX0_reduce_65 rfl (lv_at hl 0 rfl) ?_
      refine kg_X0_rank hcf hK (kw_200 htk) (x := (σ5.1 12)) dX0_reduce_66 hw rfl ?_
      refine lv_iload_n hx hb dX0_reduce_69 rfl (lv_at hl 1 rfl) ?_
      obtain ⟨g6, hE1⟩ := gd_e hE1 hN1
      refine kast_A7 hcf hK dX0_reduce_70 g6 hw (fun H locs hw => ?_)
      refine lv_aload_n hx hb dX0_reduce_71 rfl (lv_at hl 0 rfl) ?_
      refine lv_dup hx hb dX0_reduce_72 rfl ?_
      refine kg_X0_rank hcf hK (kw_200 htk) (x := (σ5.1 12)) dX0_reduce_73 hw rfl ?_
      refine lv_iconst (v := 1) hx hb dX0_reduce_76 rfl ?_
      refine lv_iadd hx hb dX0_reduce_77 ?_
      refine kp_X0_rank hcf hK (kw_200 htk) dX0_reduce_78 hw (fun H locs hw => ?_)
      obtain ⟨x7, e_x7, hE1⟩ := k_lte hE1
      refine lv_iinc (k := 1) (v := x7) hx hb dX0_reduce_81 hl rfl (Eq.symm e_x7) (Nat.le_of_ble_eq_true rfl) rfl (fun ls (hl : lv_has ls 3 [(1, .int x7), (0, .ref (ad 2)), (2, .int v2j42)]) => ?_)
      refine lv_goto (tgt := 12) hx hb dX0_reduce_84 (by decide) ?_
      exact hC1 _ hE1 H locs ls (lv_sub hl [1, 0] rfl) hw
  intro H locs ls hl hw
  replace hl : lv_has ls 3 [(0, .ref (ad 2)), (1, .int v1h12)] := hl
  replace hw : k_H D (wK cs ad) (k_A 41 ad) σh12 s.heap H locs := hw
  refine lv_iload_n hx hb dX0_reduce_12 rfl (lv_at hl 1 rfl) ?_
  refine lv_aload_n hx hb dX0_reduce_13 rfl (lv_at hl 0 rfl) ?_
  refine kg_X0_width hcf hK (kw_202 htk) (x := (σh12.1 14)) dX0_reduce_14 hw rfl ?_
  refine lv_icmp_ge (tgt := 87) hx hb dX0_reduce_17 (by decide) (fun c11 => ?_) (fun c11 => ?_)
  · have hE1 := ite_t hE1 c11
    have hq := hX1 _ hE1
    subst hq
    exact J87 σh12 H locs ls (lv_sub hl [] rfl) hw hE0
  · have hE1 := ite_f hE1 c11
    refine lv_aload_n hx hb dX0_reduce_20 rfl (lv_at hl 0 rfl) ?_
    refine lv_iload_n hx hb dX0_reduce_21 rfl (lv_at hl 1 rfl) ?_
    obtain ⟨r1, k1, hE1⟩ := bd1_e hE1 hN1
    refine k_callP (va_runV (As := [.int v1h12]) (rest := []) hcf (mX0_pivotRow l D cs ad N σh12 v1h12 r1 k1) (kcX0_pivotRow htk (kw_386 htk) ⟨Nat.le_of_ble_eq_true rfl, Nat.le_of_ble_eq_true rfl⟩) ⟨k_blind, va_recv (ci := 0) (q0 := 2) hK hw.1 rfl rfl, k_pre hK hZ hw⟩ rfl rfl hl.1 rfl (lv_room (Nat.le_of_ble_eq_true rfl)) dX0_reduce_22 ⟨Nat.zero_le _, Nat.zero_le _⟩) ?_
    refine lv_istore_n hx hb dX0_reduce_25 rfl hl (Nat.le_of_ble_eq_true rfl) rfl (fun ls (hl : lv_has ls 3 [(2, .int r1), (0, .ref (ad 2)), (1, .int v1h12)]) => ?_)
    refine lv_aload_n hx hb dX0_reduce_26 rfl (lv_at hl 1 rfl) ?_
    refine kg_X0_dependent hcf hK (kw_190 htk) dX0_reduce_27 hw ?_
    refine lv_iload_n hx hb dX0_reduce_30 rfl (lv_at hl 2 rfl) ?_
    refine lv_iload_n hx hb dX0_reduce_31 rfl (lv_at hl 0 rfl) ?_
    refine lv_iconst (v := -1) hx hb dX0_reduce_32 rfl ?_
    refine lv_icmp_ne (tgt := 40) hx hb dX0_reduce_33 (by decide) (fun c10 => ?_) (fun c10 => ?_)
    · have hE1 := ite_f hE1 c10
      refine lv_iconst (v := 0) hx hb dX0_reduce_40 rfl ?_
      obtain ⟨g2, hE1⟩ := gd_e hE1 hN1
      refine kast_A6 hcf hK dX0_reduce_41 g2 hw (fun H locs hw => ?_)
      exact J42_12 v1h12 r1 (p_a σh12 6 ((v1h12).toNatClampNeg) (vp_nar .boolean (0 : Int32))) H locs ls (lv_sub hl [1, 2, 0] rfl) hw hE1
    · have hE1 := ite_t hE1 c10
      refine lv_iconst (v := 1) hx hb dX0_reduce_36 rfl ?_
      refine lv_goto (tgt := 41) hx hb dX0_reduce_37 (by decide) ?_
      obtain ⟨g9, hE1⟩ := gd_e hE1 hN1
      refine kast_A6 hcf hK dX0_reduce_41 g9 hw (fun H locs hw => ?_)
      exact J42_12 v1h12 r1 (p_a σh12 6 ((v1h12).toNatClampNeg) (vp_nar .boolean (1 : Int32))) H locs ls (lv_sub hl [1, 2, 0] rfl) hw hE1
def jX0_commonDivisor_51 (N : Nat) (σ : vS) (v4j51 : Int64) : Option (Int64) :=
  some v4j51
def bX0_commonDivisor_15 (N : Nat) (σ : vS) (v4h15 : Int64) (v6h15 : Int64) (v8h15 : Int32) : Option ((Int64 × Int64 × Int32) ⊕ (Int64)) :=
  if ((200 : Int32) ≤ v8h15) then (
    some (.inr v4h15)
  ) else (
    if ((lg_cmp v6h15 (0 : Int64)) = 0) then (
      some (.inr v4h15)
    ) else (
      if (v6h15 = 0) then none else
      k_lt (v4h15 - v4h15 / v6h15 * v6h15) fun x4 =>
      k_lt (v8h15 + (1 : Int32)) fun x5 =>
      some (.inl (v6h15, x4, x5))
    )
  )
def fX0_commonDivisor (N : Nat) (σ : vS) (p0 : Int64) (p2 : Int64) : Option (Int64) :=
  k_lt (k_abs p0) fun x1 =>
  k_lt (k_abs p2) fun x2 =>
  bd1 (k_itr (fun zz => bX0_commonDivisor_15 N σ zz.1 zz.2.1 zz.2.2) N (x1, x2, (0 : Int32))) fun q => jX0_commonDivisor_51 N σ q
abbrev rmX0_commonDivisor : Room := { frames := 1, cells := 0, slots := 0, locals := 40 }
abbrev wsX0_commonDivisor : List Cond := .code yX0_commonDivisor cX0_commonDivisor 11 (some .long) :: kws
theorem kcX0_commonDivisor {R : Room} {s : State} {args : Array Value} {own : String} {index : Nat} (htk : ∀ w ∈ kws, w.before args s = true) (hl : (Cond.methodLink own index yX0_commonDivisor).before args s = true) (hR : rmX0_commonDivisor.frames + 1 ≤ R.frames ∧ 8 + (11 + 11) + rmX0_commonDivisor.locals ≤ R.locals) : CallB R s args own index yX0_commonDivisor cX0_commonDivisor 11 (some .long) wsX0_commonDivisor rmX0_commonDivisor 0 0 2 ∧ (Cond.static yX0_commonDivisor).before args s = true :=
  ⟨callB_of 2 htk (k_good kc_408) rfl rfl rfl (kw_56 htk) hl (by decide +kernel) hR, (kw_407 htk)⟩
set_option maxRecDepth 100000 in
set_option maxHeartbeats 4000000 in
theorem mX0_commonDivisor (l : Launch) (D : va_G) (cs : Nat → ClassId) (ad : Nat → Nat) (N : Nat) (σ : vS) (p0 : Int64) (p2 : Int64) (r : Int64) (hf : fX0_commonDivisor N σ p0 p2 = some r) : k_MP l yX0_commonDivisor wsX0_commonDivisor rmX0_commonDivisor D (tK cs) (wK cs ad) [.long p0, .long p2] σ (.long r) := by
  refine k_ofP (cc := cX0_commonDivisor) (maxL := 11) (ret := (some .long)) (by decide) rfl (Nat.le_of_ble_eq_true rfl) ?_
  intro p e s m args below meth c ls hcf hr hlk hK hZ hl hw
  generalize hQ0 : MQ below _ args s 0 0 _ = Q0
  obtain ⟨T0, hE0⟩ : ∃ T, T = fX0_commonDivisor N σ p0 p2 := ⟨_, rfl⟩
  have hR := hE0.trans hf
  have hN0 : T0 ≠ none := by rw [hR]; exact fun h => nomatch h
  have hx := hcf.1
  have hb := hcf.2.1
  have htk := hcf.2.2.2.2
  have hown := hcf.2.2.2.1
  unfold fX0_commonDivisor at hE0
  replace hl : lv_has ls 11 [(0, .long p0), (2, .long p2)] := hl
  have J51 : ∀ (v4j51 : Int64) (ls : Array Slot), lv_has ls 11 [(4, .long v4j51)] → T0 = jX0_commonDivisor_51 N σ v4j51 → W p l e rmX0_commonDivisor s m args below meth c s.heap [] 0 0 Q0 (F0 m 51 ls []) := by
    intro v4j51 ls hl hE0
    unfold jX0_commonDivisor_51 at hE0
    refine lv_lload hx hb dX0_commonDivisor_51 (lv_at hl 0 rfl) ?_
    exact kretP_l hcf hr hlk hK hw (rt1 hR hE0) hQ0 dX0_commonDivisor_53
  refine lv_lload_n hx hb dX0_commonDivisor_0 rfl (lv_at hl 0 rfl) ?_
  refine va_mabs_long hx hb (hcf.2.2.1.trans hl.1.symm) hown (kw_409 htk) (kw_410 htk) (kw_65 htk) (htk _ kc_411) (Nat.le_of_ble_eq_true rfl) (Nat.le_of_ble_eq_true rfl) (Nat.zero_le _) (Nat.zero_le _) dX0_commonDivisor_1 ?_
  refine lv_topl (fun x1 e_x1 => ?_)
  have hE0 := k_lts hE0 e_x1
  refine lv_lstore hx hb dX0_commonDivisor_4 hl (Nat.le_of_ble_eq_true rfl) rfl (fun ls (hl : lv_has ls 11 [(4, .long x1), (0, .long p0), (2, .long p2)]) => ?_)
  refine lv_lload_n hx hb dX0_commonDivisor_6 rfl (lv_at hl 2 rfl) ?_
  refine va_mabs_long hx hb (hcf.2.2.1.trans hl.1.symm) hown (kw_409 htk) (kw_410 htk) (kw_65 htk) (htk _ kc_411) (Nat.le_of_ble_eq_true rfl) (Nat.le_of_ble_eq_true rfl) (Nat.zero_le _) (Nat.zero_le _) dX0_commonDivisor_7 ?_
  refine lv_topl (fun x2 e_x2 => ?_)
  have hE0 := k_lts hE0 e_x2
  refine lv_lstore hx hb dX0_commonDivisor_10 hl (Nat.le_of_ble_eq_true rfl) rfl (fun ls (hl : lv_has ls 11 [(6, .long x2), (4, .long x1), (0, .long p0), (2, .long p2)]) => ?_)
  refine lv_iconst (v := 0) hx hb dX0_commonDivisor_12 rfl ?_
  refine lv_istore hx hb dX0_commonDivisor_13 hl (Nat.le_of_ble_eq_true rfl) rfl (fun ls (hl : lv_has ls 11 [(8, .int (0 : Int32)), (6, .long x2), (4, .long x1), (0, .long p0), (2, .long p2)]) => ?_)
  obtain ⟨q, hq, hE0⟩ := bd1_e hE0 hN0
  refine k_ind (P := fun zz => ∀ (ls : Array Slot), lv_has ls 11 [(4, .long zz.1), (6, .long zz.2.1), (8, .int zz.2.2)] → W p l e rmX0_commonDivisor s m args below meth c s.heap [] 0 0 Q0 (F0 m 15 ls [])) ?_ N _ hq ls (lv_sub hl [2, 1, 0] rfl)
  intro sX T1 hE1 hN1 hC1 hX1
  obtain ⟨v4h15, v6h15, v8h15⟩ := sX
  replace hE1 : T1 = bX0_commonDivisor_15 N σ v4h15 v6h15 v8h15 := hE1
  unfold bX0_commonDivisor_15 at hE1
  intro ls hl
  replace hl : lv_has ls 11 [(4, .long v4h15), (6, .long v6h15), (8, .int v8h15)] := hl
  refine lv_iload hx hb dX0_commonDivisor_15 (lv_at hl 2 rfl) ?_
  refine lv_sipush (v := 200) hx hb dX0_commonDivisor_17 rfl ?_
  refine lv_icmp_ge (tgt := 51) hx hb dX0_commonDivisor_20 (by decide) (fun c7 => ?_) (fun c7 => ?_)
  · have hE1 := ite_t hE1 c7
    have hq := hX1 _ hE1
    subst hq
    exact J51 v4h15 ls (lv_sub hl [0] rfl) hE0
  · have hE1 := ite_f hE1 c7
    refine lv_lload hx hb dX0_commonDivisor_23 (lv_at hl 1 rfl) ?_
    refine lv_lconst (v := 0) hx hb dX0_commonDivisor_25 rfl ?_
    refine W.lcmp hx hb dX0_commonDivisor_26 ?_
    refine lv_if_eq (tgt := 51) hx hb dX0_commonDivisor_27 (by decide) (fun c6 => ?_) (fun c6 => ?_)
    · have hE1 := ite_t hE1 c6
      have hq := hX1 _ hE1
      subst hq
      exact J51 v4h15 ls (lv_sub hl [0] rfl) hE0
    · have hE1 := ite_f hE1 c6
      refine lv_lload hx hb dX0_commonDivisor_30 (lv_at hl 0 rfl) ?_
      refine lv_lload hx hb dX0_commonDivisor_32 (lv_at hl 1 rfl) ?_
      obtain ⟨g3, hE1⟩ := gd_e hE1 hN1
      refine lv_lrem hx hb dX0_commonDivisor_34 g3 ?_
      refine lv_topl (fun x4 e_x4 => ?_)
      have hE1 := k_lts hE1 e_x4
      refine lv_lstore hx hb dX0_commonDivisor_35 hl (Nat.le_of_ble_eq_true rfl) rfl (fun ls (hl : lv_has ls 11 [(9, .long x4), (4, .long v4h15), (6, .long v6h15), (8, .int v8h15)]) => ?_)
      refine lv_lload hx hb dX0_commonDivisor_37 (lv_at hl 2 rfl) ?_
      refine lv_lstore hx hb dX0_commonDivisor_39 hl (Nat.le_of_ble_eq_true rfl) rfl (fun ls (hl : lv_has ls 11 [(4, .long v6h15), (9, .long x4), (6, .long v6h15), (8, .int v8h15)]) => ?_)
      refine lv_lload hx hb dX0_commonDivisor_41 (lv_at hl 1 rfl) ?_
      refine lv_lstore hx hb dX0_commonDivisor_43 hl (Nat.le_of_ble_eq_true rfl) rfl (fun ls (hl : lv_has ls 11 [(6, .long x4), (4, .long v6h15), (9, .long x4), (8, .int v8h15)]) => ?_)
      obtain ⟨x5, e_x5, hE1⟩ := k_lte hE1
      refine lv_iinc (k := 3) (v := x5) hx hb dX0_commonDivisor_45 hl rfl (Eq.symm e_x5) (Nat.le_of_ble_eq_true rfl) rfl (fun ls (hl : lv_has ls 11 [(8, .int x5), (6, .long x4), (4, .long v6h15), (9, .long x4)]) => ?_)
      refine lv_goto (tgt := 15) hx hb dX0_commonDivisor_48 (by decide) ?_
      exact hC1 _ hE1 ls (lv_sub hl [2, 1, 0] rfl)
def jX0_makeBase_122 (N : Nat) (b1 : Nat) (σj122 : vS) : Option (vS) :=
  some σj122
def bX0_makeBase_94 (N : Nat) (b1 : Nat) (v5j91 : Int64) (v7h94 : Int32) (σh94 : vS) : Option ((Int32 × vS) ⊕ (vS)) :=
  if ((σh94.1 14) ≤ v7h94) then (
    some (.inr σh94)
  ) else (
    if (v7h94 < 0 ∨ (k_len b1) ≤ (v7h94).toNatClampNeg) then none else
    bd1 (fX0_quotient N σh94 (σh94.2.2.2 b1 ((v7h94).toNatClampNeg)) v5j91) fun r4 =>
    if (v7h94 < 0 ∨ (k_len b1) ≤ (v7h94).toNatClampNeg) then none else
    k_lt (v7h94 + (1 : Int32)) fun x6 =>
    some (.inl (x6, (p_b σh94 b1 ((v7h94).toNatClampNeg) r4)))
  )
def jX0_makeBase_91 (N : Nat) (b1 : Nat) (σj91 : vS) (v5j91 : Int64) : Option (vS) :=
  bd1 (k_itr (fun zz => bX0_makeBase_94 N b1 v5j91 zz.1 zz.2) N ((0 : Int32), σj91)) fun q => jX0_makeBase_122 N b1 q
def jX0_makeBase_74 (N : Nat) (b1 : Nat) (σj74 : vS) (v3j74 : Int64) : Option (vS) :=
  if (0 ≤ (lg_cmp (σj74.2.2.1 0) (0 : Int64))) then (
    jX0_makeBase_91 N b1 σj74 v3j74
  ) else (
    k_lt (-v3j74) fun x8 =>
    jX0_makeBase_91 N b1 σj74 x8
  )
def bX0_makeBase_50 (N : Nat) (b1 : Nat) (σj45 : vS) (v3h50 : Int64) (v5h50 : Int32) : Option ((Int64 × Int32) ⊕ (Int64)) :=
  if ((σj45.1 14) ≤ v5h50) then (
    some (.inr v3h50)
  ) else (
    if (v5h50 < 0 ∨ (k_len b1) ≤ (v5h50).toNatClampNeg) then none else
    bd1 (fX0_commonDivisor N σj45 v3h50 (σj45.2.2.2 b1 ((v5h50).toNatClampNeg))) fun r11 =>
    k_lt (v5h50 + (1 : Int32)) fun x12 =>
    some (.inl (r11, x12))
  )
def jX0_makeBase_45 (N : Nat) (b1 : Nat) (σj45 : vS) : Option (vS) :=
  bd1 (k_itr (fun zz => bX0_makeBase_50 N b1 σj45 zz.1 zz.2) N ((0 : Int64), (0 : Int32))) fun q => jX0_makeBase_74 N b1 σj45 q
def bX0_makeBase_14 (N : Nat) (b1 : Nat) (p2 : Int32) (v3h14 : Int32) (σh14 : vS) : Option ((Int32 × vS) ⊕ (vS)) :=
  if ((σh14.1 12) ≤ v3h14) then (
    some (.inr σh14)
  ) else (
    if (v3h14 < 0 ∨ 5 ≤ (v3h14).toNatClampNeg) then none else
    if (v3h14 < 0 ∨ 5 ≤ (v3h14).toNatClampNeg) then none else
    if (p2 < 0 ∨ 6 ≤ (p2).toNatClampNeg) then none else
    if ((σh14.2.1 7 ((v3h14).toNatClampNeg)) < 0 ∨ (k_len b1) ≤ ((σh14.2.1 7 ((v3h14).toNatClampNeg))).toNatClampNeg) then none else
    k_lt (v3h14 + (1 : Int32)) fun x18 =>
    some (.inl (x18, (p_b σh14 b1 (((σh14.2.1 7 ((v3h14).toNatClampNeg))).toNatClampNeg) (-(σh14.2.2.2 (11 + (v3h14).toNatClampNeg) ((p2).toNatClampNeg))))))
  )
def fX0_makeBase (N : Nat) (σ : vS) (b1 : Nat) (p2 : Int32) : Option (vS) :=
  bd1 (fJ0_fill N σ b1 (0 : Int64)) fun σ1 =>
  if (p2 < 0 ∨ (k_len b1) ≤ (p2).toNatClampNeg) then none else
  bd1 (k_itr (fun zz => bX0_makeBase_14 N b1 p2 zz.1 zz.2) N ((0 : Int32), (p_b σ1 b1 ((p2).toNatClampNeg) (σ1.2.2.1 0)))) fun q => jX0_makeBase_45 N b1 q
abbrev rmX0_makeBase : Room := { frames := 2, cells := 0, slots := 0, locals := 70 }
abbrev wsX0_makeBase : List Cond := .code yX0_makeBase cX0_makeBase 8 none :: kws
theorem kcX0_makeBase {R : Room} {s : State} {args : Array Value} {own : String} {index : Nat} (htk : ∀ w ∈ kws, w.before args s = true) (hl : (Cond.methodLink own index yX0_makeBase).before args s = true) (hR : rmX0_makeBase.frames + 1 ≤ R.frames ∧ 8 + (8 + 11) + rmX0_makeBase.locals ≤ R.locals) : CallW R s args own RX0 index yX0_makeBase cX0_makeBase 8 none wsX0_makeBase rmX0_makeBase 0 0 2 :=
  ⟨callB_of 2 htk (k_good kc_404) rfl rfl rfl (kw_56 htk) hl (by decide +kernel) hR, (kw_403 htk), (kw_18 htk)⟩
set_option maxRecDepth 100000 in
set_option maxHeartbeats 4000000 in
theorem mX0_makeBase (l : Launch) (D : va_G) (cs : Nat → ClassId) (ad : Nat → Nat) (N : Nat) (σ : vS) (b1 : Nat) (p2 : Int32) (σ' : vS) (hf : fX0_makeBase N σ b1 p2 = some σ') (h_b1 : b1 < 16) : k_Met l yX0_makeBase wsX0_makeBase rmX0_makeBase D (tK cs) (wK cs ad) (k_A 41 ad) [.ref (ad 2), .ref (ad (25 + b1)), .int p2] σ none σ' := by
  refine k_of (cc := cX0_makeBase) (maxL := 8) (ret := none) (by decide) rfl (Nat.le_of_ble_eq_true rfl) ?_
  intro p e s m args below meth c ls H locs hcf hr hlk hK hZ hl hw
  generalize hQ0 : MQ below _ args s 0 0 _ = Q0
  obtain ⟨T0, hE0⟩ : ∃ T, T = fX0_makeBase N σ b1 p2 := ⟨_, rfl⟩
  have hR := hE0.trans hf
  have hN0 : T0 ≠ none := by rw [hR]; exact fun h => nomatch h
  have hx := hcf.1
  have hb := hcf.2.1
  have htk := hcf.2.2.2.2
  have hown := hcf.2.2.2.1
  unfold fX0_makeBase at hE0
  replace hl : lv_has ls 8 [(0, .ref (ad 2)), (1, .ref (ad (25 + b1))), (2, .int p2)] := hl
  have J122 : ∀ (σj122 : vS) (H : Heap) (locs : List Loc) (ls : Array Slot), lv_has ls 8 [] → k_H D (wK cs ad) (k_A 41 ad) σj122 s.heap H locs → T0 = jX0_makeBase_122 N b1 σj122 → W p l e rmX0_makeBase s m args below meth c H locs 0 0 Q0 (F0 m 122 ls []) := by
    intro σj122 H locs ls hl hw hE0
    unfold jX0_makeBase_122 at hE0
    exact kret_v hcf hr hlk hK hw (rt1 hR hE0) hQ0 dX0_makeBase_122
  have J91 : ∀ (v5j91 : Int64) (σj91 : vS) (H : Heap) (locs : List Loc) (ls : Array Slot), lv_has ls 8 [(0, .ref (ad 2)), (1, .ref (ad (25 + b1))), (5, .long v5j91)] → k_H D (wK cs ad) (k_A 41 ad) σj91 s.heap H locs → T0 = jX0_makeBase_91 N b1 σj91 v5j91 → W p l e rmX0_makeBase s m args below meth c H locs 0 0 Q0 (F0 m 91 ls []) := by
    intro v5j91 σj91 H locs ls hl hw hE0
    unfold jX0_makeBase_91 at hE0
    refine lv_iconst (v := 0) hx hb dX0_makeBase_91 rfl ?_
    refine lv_istore hx hb dX0_makeBase_92 hl (Nat.le_of_ble_eq_true rfl) rfl (fun ls (hl : lv_has ls 8 [(7, .int (0 : Int32)), (0, .ref (ad 2)), (1, .ref (ad (25 + b1))), (5, .long v5j91)]) => ?_)
    obtain ⟨q, hq, hE0⟩ := bd1_e hE0 hN0
    refine k_ind (P := fun zz => ∀ (H : Heap) (locs : List Loc) (ls : Array Slot), lv_has ls 8 [(0, .ref (ad 2)), (1, .ref (ad (25 + b1))), (5, .long v5j91), (7, .int zz.1)] → k_H D (wK cs ad) (k_A 41 ad) zz.2 s.heap H locs → W p l e rmX0_makeBase s m args below meth c H locs 0 0 Q0 (F0 m 94 ls [])) ?_ N _ hq H locs ls (lv_sub hl [1, 2, 3, 0] rfl) hw
    intro sX T1 hE1 hN1 hC1 hX1
    obtain ⟨v7h94, σh94⟩ := sX
    replace hE1 : T1 = bX0_makeBase_94 N b1 v5j91 v7h94 σh94 := hE1
    unfold bX0_makeBase_94 at hE1
    intro H locs ls hl hw
    replace hl : lv_has ls 8 [(0, .ref (ad 2)), (1, .ref (ad (25 + b1))), (5, .long v5j91), (7, .int v7h94)] := hl
    replace hw : k_H D (wK cs ad) (k_A 41 ad) σh94 s.heap H locs := hw
    refine lv_iload hx hb dX0_makeBase_94 (lv_at hl 3 rfl) ?_
    refine lv_aload_n hx hb dX0_makeBase_96 rfl (lv_at hl 0 rfl) ?_
    refine kg_X0_width hcf hK (kw_202 htk) (x := (σh94.1 14)) dX0_makeBase_97 hw rfl ?_
    refine lv_icmp_ge (tgt := 122) hx hb dX0_makeBase_100 (by decide) (fun c7 => ?_) (fun c7 => ?_)
    · have hE1 := ite_t hE1 c7
      have hq := hX1 _ hE1
      subst hq
      exact J122 σh94 H locs ls (lv_sub hl [] rfl) hw hE0
    · have hE1 := ite_f hE1 c7
      refine lv_aload_n hx hb dX0_makeBase_103 rfl (lv_at hl 1 rfl) ?_
      refine lv_iload hx hb dX0_makeBase_104 (lv_at hl 3 rfl) ?_
      refine lv_aload_n hx hb dX0_makeBase_106 rfl (lv_at hl 1 rfl) ?_
      refine lv_iload hx hb dX0_makeBase_107 (lv_at hl 3 rfl) ?_
      obtain ⟨g3, hE1⟩ := gd_e hE1 hN1
      refine kald_B hcf hK (x := (σh94.2.2.2 b1 ((v7h94).toNatClampNeg))) dX0_makeBase_109 h_b1 g3 hw rfl ?_
      refine lv_lload hx hb dX0_makeBase_110 (lv_at hl 2 rfl) ?_
      obtain ⟨r4, k4, hE1⟩ := bd1_e hE1 hN1
      refine k_callP (va_runS (As := [.long (σh94.2.2.2 b1 ((v7h94).toNatClampNeg)), .long v5j91]) (rest := [.int v7h94, .ref (ad (25 + b1))]) hcf (mX0_quotient l D cs ad N σh94 (σh94.2.2.2 b1 ((v7h94).toNatClampNeg)) v5j91 r4 k4) (kcX0_quotient htk (kw_398 htk) ⟨Nat.le_of_ble_eq_true rfl, Nat.le_of_ble_eq_true rfl⟩) ⟨k_blind, k_pre hK hZ hw⟩ rfl rfl hl.1 rfl (lv_room (Nat.le_of_ble_eq_true rfl)) dX0_makeBase_112 ⟨Nat.zero_le _, Nat.zero_le _⟩) ?_
      obtain ⟨g5, hE1⟩ := gd_e hE1 hN1
      refine kast_B hcf hK dX0_makeBase_115 h_b1 g5 hw (fun H locs hw => ?_)
      obtain ⟨x6, e_x6, hE1⟩ := k_lte hE1
      refine lv_iinc (k := 3) (v := x6) hx hb dX0_makeBase_116 hl rfl (Eq.symm e_x6) (Nat.le_of_ble_eq_true rfl) rfl (fun ls (hl : lv_has ls 8 [(7, .int x6), (0, .ref (ad 2)), (1, .ref (ad (25 + b1))), (5, .long v5j91)]) => ?_)
      refine lv_goto (tgt := 94) hx hb dX0_makeBase_119 (by decide) ?_
      exact hC1 _ hE1 H locs ls (lv_sub hl [1, 2, 3, 0] rfl) hw
  have J74 : ∀ (v3j74 : Int64) (σj74 : vS) (H : Heap) (locs : List Loc) (ls : Array Slot), lv_has ls 8 [(0, .ref (ad 2)), (1, .ref (ad (25 + b1))), (3, .long v3j74)] → k_H D (wK cs ad) (k_A 41 ad) σj74 s.heap H locs → T0 = jX0_makeBase_74 N b1 σj74 v3j74 → W p l e rmX0_makeBase s m args below meth c H locs 0 0 Q0 (F0 m 74 ls []) := by
    intro v3j74 σj74 H locs ls hl hw hE0
    unfold jX0_makeBase_74 at hE0
    refine lv_aload_n hx hb dX0_makeBase_74 rfl (lv_at hl 0 rfl) ?_
    refine kg_X0_pivot hcf hK (kw_203 htk) (x := (σj74.2.2.1 0)) dX0_makeBase_75 hw rfl ?_
    refine lv_lconst (v := 0) hx hb dX0_makeBase_78 rfl ?_
    refine W.lcmp hx hb dX0_makeBase_79 ?_
    refine lv_if_ge (tgt := 88) hx hb dX0_makeBase_80 (by decide) (fun c9 => ?_) (fun c9 => ?_)
    · have hE0 := ite_t hE0 c9
      refine lv_lload_n hx hb dX0_makeBase_88 rfl (lv_at hl 2 rfl) ?_
      refine lv_lstore hx hb dX0_makeBase_89 hl (Nat.le_of_ble_eq_true rfl) rfl (fun ls (hl : lv_has ls 8 [(5, .long v3j74), (0, .ref (ad 2)), (1, .ref (ad (25 + b1))), (3, .long v3j74)]) => ?_)
      exact J91 v3j74 σj74 H locs ls (lv_sub hl [1, 2, 0] rfl) hw hE0
    · have hE0 := ite_f hE0 c9
      refine lv_lload_n hx hb dX0_makeBase_83 rfl (lv_at hl 2 rfl) ?_
      refine lv_lneg hx hb dX0_makeBase_84 ?_
      refine lv_goto (tgt := 89) hx hb dX0_makeBase_85 (by decide) ?_
      refine lv_topl (fun x8 e_x8 => ?_)
      have hE0 := k_lts hE0 e_x8
      refine lv_lstore hx hb dX0_makeBase_89 hl (Nat.le_of_ble_eq_true rfl) rfl (fun ls (hl : lv_has ls 8 [(5, .long x8), (0, .ref (ad 2)), (1, .ref (ad (25 + b1))), (3, .long v3j74)]) => ?_)
      exact J91 x8 σj74 H locs ls (lv_sub hl [1, 2, 0] rfl) hw hE0
  have J45 : ∀ (σj45 : vS) (H : Heap) (locs : List Loc) (ls : Array Slot), lv_has ls 8 [(0, .ref (ad 2)), (1, .ref (ad (25 + b1)))] → k_H D (wK cs ad) (k_A 41 ad) σj45 s.heap H locs → T0 = jX0_makeBase_45 N b1 σj45 → W p l e rmX0_makeBase s m args below meth c H locs 0 0 Q0 (F0 m 45 ls []) := by
    intro σj45 H locs ls hl hw hE0
    unfold jX0_makeBase_45 at hE0
    refine lv_lconst (v := 0) hx hb dX0_makeBase_45 rfl ?_
    refine lv_lstore_n hx hb dX0_makeBase_46 rfl hl (Nat.le_of_ble_eq_true rfl) rfl (fun ls (hl : lv_has ls 8 [(3, .long (0 : Int64)), (0, .ref (ad 2)), (1, .ref (ad (25 + b1)))]) => ?_)
    refine lv_iconst (v := 0) hx hb dX0_makeBase_47 rfl ?_
    refine lv_istore hx hb dX0_makeBase_48 hl (Nat.le_of_ble_eq_true rfl) rfl (fun ls (hl : lv_has ls 8 [(5, .int (0 : Int32)), (3, .long (0 : Int64)), (0, .ref (ad 2)), (1, .ref (ad (25 + b1)))]) => ?_)
    obtain ⟨q, hq, hE0⟩ := bd1_e hE0 hN0
    refine k_ind (P := fun zz => ∀ (ls : Array Slot), lv_has ls 8 [(0, .ref (ad 2)), (1, .ref (ad (25 + b1))), (3, .long zz.1), (5, .int zz.2)] → W p l e rmX0_makeBase s m args below meth c H locs 0 0 Q0 (F0 m 50 ls [])) ?_ N _ hq ls (lv_sub hl [2, 3, 1, 0] rfl)
    intro sX T1 hE1 hN1 hC1 hX1
    obtain ⟨v3h50, v5h50⟩ := sX
    replace hE1 : T1 = bX0_makeBase_50 N b1 σj45 v3h50 v5h50 := hE1
    unfold bX0_makeBase_50 at hE1
    intro ls hl
    replace hl : lv_has ls 8 [(0, .ref (ad 2)), (1, .ref (ad (25 + b1))), (3, .long v3h50), (5, .int v5h50)] := hl
    refine lv_iload hx hb dX0_makeBase_50 (lv_at hl 3 rfl) ?_
    refine lv_aload_n hx hb dX0_makeBase_52 rfl (lv_at hl 0 rfl) ?_
    refine kg_X0_width hcf hK (kw_202 htk) (x := (σj45.1 14)) dX0_makeBase_53 hw rfl ?_
    refine lv_icmp_ge (tgt := 74) hx hb dX0_makeBase_56 (by decide) (fun c13 => ?_) (fun c13 => ?_)
    · have hE1 := ite_t hE1 c13
      have hq := hX1 _ hE1
      subst hq
      exact J74 v3h50 σj45 H locs ls (lv_sub hl [0, 1, 2] rfl) hw hE0
    · have hE1 := ite_f hE1 c13
      refine lv_lload_n hx hb dX0_makeBase_59 rfl (lv_at hl 2 rfl) ?_
      refine lv_aload_n hx hb dX0_makeBase_60 rfl (lv_at hl 1 rfl) ?_
      refine lv_iload hx hb dX0_makeBase_61 (lv_at hl 3 rfl) ?_
      obtain ⟨g10, hE1⟩ := gd_e hE1 hN1
      refine kald_B hcf hK (x := (σj45.2.2.2 b1 ((v5h50).toNatClampNeg))) dX0_makeBase_63 h_b1 g10 hw rfl ?_
      obtain ⟨r11, k11, hE1⟩ := bd1_e hE1 hN1
      refine k_callP (va_runS (As := [.long v3h50, .long (σj45.2.2.2 b1 ((v5h50).toNatClampNeg))]) (rest := []) hcf (mX0_commonDivisor l D cs ad N σj45 v3h50 (σj45.2.2.2 b1 ((v5h50).toNatClampNeg)) r11 k11) (kcX0_commonDivisor htk (kw_406 htk) ⟨Nat.le_of_ble_eq_true rfl, Nat.le_of_ble_eq_true rfl⟩) ⟨k_blind, k_pre hK hZ hw⟩ rfl rfl hl.1 rfl (lv_room (Nat.le_of_ble_eq_true rfl)) dX0_makeBase_64 ⟨Nat.zero_le _, Nat.zero_le _⟩) ?_
      refine lv_lstore_n hx hb dX0_makeBase_67 rfl hl (Nat.le_of_ble_eq_true rfl) rfl (fun ls (hl : lv_has ls 8 [(3, .long r11), (0, .ref (ad 2)), (1, .ref (ad (25 + b1))), (5, .int v5h50)]) => ?_)
      obtain ⟨x12, e_x12, hE1⟩ := k_lte hE1
      refine lv_iinc (k := 3) (v := x12) hx hb dX0_makeBase_68 hl rfl (Eq.symm e_x12) (Nat.le_of_ble_eq_true rfl) rfl (fun ls (hl : lv_has ls 8 [(5, .int x12), (3, .long r11), (0, .ref (ad 2)), (1, .ref (ad (25 + b1)))]) => ?_)
      refine lv_goto (tgt := 50) hx hb dX0_makeBase_71 (by decide) ?_
      exact hC1 _ hE1 ls (lv_sub hl [2, 3, 1, 0] rfl)
  refine lv_aload_n hx hb dX0_makeBase_0 rfl (lv_at hl 1 rfl) ?_
  refine lv_lconst (v := 0) hx hb dX0_makeBase_1 rfl ?_
  obtain ⟨σ1, k1, hE0⟩ := bd1_e hE0 hN0
  refine k_call (va_runS (As := [.ref (ad (25 + b1)), .long (0 : Int64)]) (rest := []) hcf (mJ0_fill l D cs ad N σ b1 (0 : Int64) σ1 k1 h_b1) (kcJ0_fill htk (kw_405 htk) ⟨Nat.le_of_ble_eq_true rfl, Nat.le_of_ble_eq_true rfl⟩) ⟨k_blind, k_pre hK hZ hw⟩ rfl rfl hl.1 rfl (lv_room (Nat.le_of_ble_eq_true rfl)) dX0_makeBase_2 ⟨Nat.zero_le _, Nat.zero_le _⟩) hw (fun H locs hw => ?_)
  refine lv_aload_n hx hb dX0_makeBase_5 rfl (lv_at hl 1 rfl) ?_
  refine lv_iload_n hx hb dX0_makeBase_6 rfl (lv_at hl 2 rfl) ?_
  refine lv_aload_n hx hb dX0_makeBase_7 rfl (lv_at hl 0 rfl) ?_
  refine kg_X0_pivot hcf hK (kw_203 htk) (x := (σ1.2.2.1 0)) dX0_makeBase_8 hw rfl ?_
  obtain ⟨g2, hE0⟩ := gd_e hE0 hN0
  refine kast_B hcf hK dX0_makeBase_11 h_b1 g2 hw (fun H locs hw => ?_)
  refine lv_iconst (v := 0) hx hb dX0_makeBase_12 rfl ?_
  refine lv_istore_n hx hb dX0_makeBase_13 rfl hl (Nat.le_of_ble_eq_true rfl) rfl (fun ls (hl : lv_has ls 8 [(3, .int (0 : Int32)), (0, .ref (ad 2)), (1, .ref (ad (25 + b1))), (2, .int p2)]) => ?_)
  obtain ⟨q, hq, hE0⟩ := bd1_e hE0 hN0
  refine k_ind (P := fun zz => ∀ (H : Heap) (locs : List Loc) (ls : Array Slot), lv_has ls 8 [(0, .ref (ad 2)), (1, .ref (ad (25 + b1))), (2, .int p2), (3, .int zz.1)] → k_H D (wK cs ad) (k_A 41 ad) zz.2 s.heap H locs → W p l e rmX0_makeBase s m args below meth c H locs 0 0 Q0 (F0 m 14 ls [])) ?_ N _ hq H locs ls (lv_sub hl [1, 2, 3, 0] rfl) hw
  intro sX T1 hE1 hN1 hC1 hX1
  obtain ⟨v3h14, σh14⟩ := sX
  replace hE1 : T1 = bX0_makeBase_14 N b1 p2 v3h14 σh14 := hE1
  unfold bX0_makeBase_14 at hE1
  intro H locs ls hl hw
  replace hl : lv_has ls 8 [(0, .ref (ad 2)), (1, .ref (ad (25 + b1))), (2, .int p2), (3, .int v3h14)] := hl
  replace hw : k_H D (wK cs ad) (k_A 41 ad) σh14 s.heap H locs := hw
  refine lv_iload_n hx hb dX0_makeBase_14 rfl (lv_at hl 3 rfl) ?_
  refine lv_aload_n hx hb dX0_makeBase_15 rfl (lv_at hl 0 rfl) ?_
  refine kg_X0_rank hcf hK (kw_200 htk) (x := (σh14.1 12)) dX0_makeBase_16 hw rfl ?_
  refine lv_icmp_ge (tgt := 45) hx hb dX0_makeBase_19 (by decide) (fun c19 => ?_) (fun c19 => ?_)
  · have hE1 := ite_t hE1 c19
    have hq := hX1 _ hE1
    subst hq
    exact J45 σh14 H locs ls (lv_sub hl [0, 1] rfl) hw hE0
  · have hE1 := ite_f hE1 c19
    refine lv_aload_n hx hb dX0_makeBase_22 rfl (lv_at hl 1 rfl) ?_
    refine lv_aload_n hx hb dX0_makeBase_23 rfl (lv_at hl 0 rfl) ?_
    refine kg_X0_leading hcf hK (kw_199 htk) dX0_makeBase_24 hw ?_
    refine lv_iload_n hx hb dX0_makeBase_27 rfl (lv_at hl 3 rfl) ?_
    obtain ⟨g14, hE1⟩ := gd_e hE1 hN1
    refine kald_A7 hcf hK (x := (σh14.2.1 7 ((v3h14).toNatClampNeg))) dX0_makeBase_28 g14 hw rfl ?_
    refine lv_aload_n hx hb dX0_makeBase_29 rfl (lv_at hl 0 rfl) ?_
    refine kg_X0_rows hcf hK (kw_198 htk) dX0_makeBase_30 hw ?_
    refine lv_iload_n hx hb dX0_makeBase_33 rfl (lv_at hl 3 rfl) ?_
    obtain ⟨g15, hE1⟩ := gd_e hE1 hN1
    refine kaald_rows hcf hK dX0_makeBase_34 rfl g15 hw ?_
    refine lv_iload_n hx hb dX0_makeBase_35 rfl (lv_at hl 2 rfl) ?_
    obtain ⟨g16, hE1⟩ := gd_e hE1 hN1
    refine kald_rows hcf hK (x := (σh14.2.2.2 (11 + (v3h14).toNatClampNeg) ((p2).toNatClampNeg))) dX0_makeBase_36 g15 g16 hw rfl ?_
    refine lv_lneg hx hb dX0_makeBase_37 ?_
    obtain ⟨g17, hE1⟩ := gd_e hE1 hN1
    refine kast_B hcf hK dX0_makeBase_38 h_b1 g17 hw (fun H locs hw => ?_)
    obtain ⟨x18, e_x18, hE1⟩ := k_lte hE1
    refine lv_iinc (k := 3) (v := x18) hx hb dX0_makeBase_39 hl rfl (Eq.symm e_x18) (Nat.le_of_ble_eq_true rfl) rfl (fun ls (hl : lv_has ls 8 [(3, .int x18), (0, .ref (ad 2)), (1, .ref (ad (25 + b1))), (2, .int p2)]) => ?_)
    refine lv_goto (tgt := 14) hx hb dX0_makeBase_42 (by decide) ?_
    exact hC1 _ hE1 H locs ls (lv_sub hl [1, 2, 3, 0] rfl) hw
end
section
def jX0_judge_50 (N : Nat) (σ : vS) : Option (Int32) :=
  some (0 : Int32)
def bX0_judge_21 (N : Nat) (σ : vS) (v1h21 : Int32) : Option ((Int32) ⊕ ((Unit) ⊕ (Int32))) :=
  if ((σ.1 14) ≤ v1h21) then (
    some (.inr (.inl ()))
  ) else (
    if (v1h21 < 0 ∨ 6 ≤ (v1h21).toNatClampNeg) then none else
    if (0 < (lg_cmp (σ.2.2.2 5 ((v1h21).toNatClampNeg)) (0 : Int64))) then (
      k_lt (v1h21 + (1 : Int32)) fun x2 =>
      some (.inl x2)
    ) else (
      some (.inr (.inr (2 : Int32)))
    )
  )
def fX0_judge (N : Nat) (σ : vS) : Option (Int32) :=
  if ((σ.1 10) = 0) then (
    some (1 : Int32)
  ) else (
    if ((σ.1 10) ≤ (1 : Int32)) then (
      bds (k_itr (fun zz => bX0_judge_21 N σ zz) N (0 : Int32)) fun _ => jX0_judge_50 N σ
    ) else (
      some (3 : Int32)
    )
  )
abbrev rmX0_judge : Room := { frames := 0, cells := 0, slots := 0, locals := 0 }
abbrev wsX0_judge : List Cond := .code yX0_judge cX0_judge 2 (some .int) :: kws
theorem kcX0_judge {R : Room} {s : State} {args : Array Value} {own : String} {index : Nat} (htk : ∀ w ∈ kws, w.before args s = true) (hl : (Cond.methodLink own index yX0_judge).before args s = true) (hR : rmX0_judge.frames + 1 ≤ R.frames ∧ 8 + (2 + 11) + rmX0_judge.locals ≤ R.locals) : CallW R s args own RX0 index yX0_judge cX0_judge 2 (some .int) wsX0_judge rmX0_judge 0 0 0 :=
  ⟨callB_of 0 htk (k_good kc_415) rfl rfl rfl (kw_56 htk) hl (by decide +kernel) hR, (kw_414 htk), (kw_19 htk)⟩
set_option maxRecDepth 100000 in
set_option maxHeartbeats 4000000 in
theorem mX0_judge (l : Launch) (D : va_G) (cs : Nat → ClassId) (ad : Nat → Nat) (N : Nat) (σ : vS) (r : Int32) (hf : fX0_judge N σ = some r) : k_MP l yX0_judge wsX0_judge rmX0_judge D (tK cs) (wK cs ad) [.ref (ad 2)] σ (.int r) := by
  refine k_ofP (cc := cX0_judge) (maxL := 2) (ret := (some .int)) (by decide) rfl (Nat.le_of_ble_eq_true rfl) ?_
  intro p e s m args below meth c ls hcf hr hlk hK hZ hl hw
  generalize hQ0 : MQ below _ args s 0 0 _ = Q0
  obtain ⟨T0, hE0⟩ : ∃ T, T = fX0_judge N σ := ⟨_, rfl⟩
  have hR := hE0.trans hf
  have hN0 : T0 ≠ none := by rw [hR]; exact fun h => nomatch h
  have hx := hcf.1
  have hb := hcf.2.1
  have htk := hcf.2.2.2.2
  have hown := hcf.2.2.2.1
  unfold fX0_judge at hE0
  replace hl : lv_has ls 2 [(0, .ref (ad 2))] := hl
  have J50 : ∀ (ls : Array Slot), lv_has ls 2 [] → T0 = jX0_judge_50 N σ → W p l e rmX0_judge s m args below meth c s.heap [] 0 0 Q0 (F0 m 50 ls []) := by
    intro ls hl hE0
    unfold jX0_judge_50 at hE0
    refine lv_iconst (v := 0) hx hb dX0_judge_50 rfl ?_
    exact kretP_i hcf hr hlk hK hw (rt1 hR hE0) hQ0 dX0_judge_51
  refine lv_aload_n hx hb dX0_judge_0 rfl (lv_at hl 0 rfl) ?_
  refine kg_X0_freeCount hcf hK (kw_194 htk) (x := (σ.1 10)) dX0_judge_1 hw rfl ?_
  refine lv_if_ne (tgt := 9) hx hb dX0_judge_4 (by decide) (fun c6 => ?_) (fun c6 => ?_)
  · have hE0 := ite_f hE0 c6
    refine lv_aload_n hx hb dX0_judge_9 rfl (lv_at hl 0 rfl) ?_
    refine kg_X0_freeCount hcf hK (kw_194 htk) (x := (σ.1 10)) dX0_judge_10 hw rfl ?_
    refine lv_iconst (v := 1) hx hb dX0_judge_13 rfl ?_
    refine lv_icmp_le (tgt := 19) hx hb dX0_judge_14 (by decide) (fun c5 => ?_) (fun c5 => ?_)
    · have hE0 := ite_t hE0 c5
      refine lv_iconst (v := 0) hx hb dX0_judge_19 rfl ?_
      refine lv_istore_n hx hb dX0_judge_20 rfl hl (Nat.le_of_ble_eq_true rfl) rfl (fun ls (hl : lv_has ls 2 [(1, .int (0 : Int32)), (0, .ref (ad 2))]) => ?_)
      obtain ⟨q, hq, hE0, hT0⟩ := bds_e hE0 hN0
      refine k_ind (P := fun zz => ∀ (ls : Array Slot), lv_has ls 2 [(0, .ref (ad 2)), (1, .int zz)] → W p l e rmX0_judge s m args below meth c s.heap [] 0 0 Q0 (F0 m 21 ls [])) ?_ N _ hq ls (lv_sub hl [1, 0] rfl)
      intro sX T1 hE1 hN1 hC1 hX1
      obtain ⟨v1h21, hsg⟩ : ∃ z, z = sX := ⟨_, rfl⟩
      subst hsg
      replace hE1 : T1 = bX0_judge_21 N σ v1h21 := hE1
      unfold bX0_judge_21 at hE1
      intro ls hl
      replace hl : lv_has ls 2 [(0, .ref (ad 2)), (1, .int v1h21)] := hl
      refine lv_iload_n hx hb dX0_judge_21 rfl (lv_at hl 1 rfl) ?_
      refine lv_aload_n hx hb dX0_judge_22 rfl (lv_at hl 0 rfl) ?_
      refine kg_X0_width hcf hK (kw_202 htk) (x := (σ.1 14)) dX0_judge_23 hw rfl ?_
      refine lv_icmp_ge (tgt := 50) hx hb dX0_judge_26 (by decide) (fun c4 => ?_) (fun c4 => ?_)
      · have hE1 := ite_t hE1 c4
        have hq := hX1 _ hE1
        subst hq
        exact J50 ls (lv_sub hl [] rfl) (hE0 _ rfl)
      · have hE1 := ite_f hE1 c4
        refine lv_aload_n hx hb dX0_judge_29 rfl (lv_at hl 0 rfl) ?_
        refine kg_X0_bases hcf hK (kw_192 htk) dX0_judge_30 hw ?_
        refine lv_iconst (v := 0) hx hb dX0_judge_33 rfl ?_
        refine kaald_bases hcf hK (k := 30) dX0_judge_34 (by decide) (by decide) hw ?_
        refine lv_iload_n hx hb dX0_judge_35 rfl (lv_at hl 1 rfl) ?_
        obtain ⟨g1, hE1⟩ := gd_e hE1 hN1
        refine kald_B5 hcf hK (x := (σ.2.2.2 5 ((v1h21).toNatClampNeg))) dX0_judge_36 g1 hw rfl ?_
        refine lv_lconst (v := 0) hx hb dX0_judge_37 rfl ?_
        refine W.lcmp hx hb dX0_judge_38 ?_
        refine lv_if_gt (tgt := 44) hx hb dX0_judge_39 (by decide) (fun c3 => ?_) (fun c3 => ?_)
        · have hE1 := ite_t hE1 c3
          obtain ⟨x2, e_x2, hE1⟩ := k_lte hE1
          refine lv_iinc (k := 1) (v := x2) hx hb dX0_judge_44 hl rfl (Eq.symm e_x2) (Nat.le_of_ble_eq_true rfl) rfl (fun ls (hl : lv_has ls 2 [(1, .int x2), (0, .ref (ad 2))]) => ?_)
          refine lv_goto (tgt := 21) hx hb dX0_judge_47 (by decide) ?_
          exact hC1 _ hE1 ls (lv_sub hl [1, 0] rfl)
        · have hE1 := ite_f hE1 c3
          refine lv_iconst (v := 2) hx hb dX0_judge_42 rfl ?_
          have hq := hX1 _ hE1
          subst hq
          exact kretP_i hcf hr hlk hK hw (rt1 hR (hT0 _ rfl)) hQ0 dX0_judge_43
    · have hE0 := ite_f hE0 c5
      refine lv_iconst (v := 3) hx hb dX0_judge_17 rfl ?_
      exact kretP_i hcf hr hlk hK hw (rt1 hR hE0) hQ0 dX0_judge_18
  · have hE0 := ite_t hE0 c6
    refine lv_iconst (v := 1) hx hb dX0_judge_7 rfl ?_
    exact kretP_i hcf hr hlk hK hw (rt1 hR hE0) hQ0 dX0_judge_8
def jX0_solve_63 (N : Nat) (σj63 : vS) : Option (vS) :=
  bd1 (fX0_judge N σj63) fun r3 =>
  some (p_i σj63 11 r3)
def bX0_solve_16 (N : Nat) (v2h16 : Int32) (σh16 : vS) : Option ((Int32 × vS) ⊕ (vS)) :=
  if ((σh16.1 14) ≤ v2h16) then (
    some (.inr σh16)
  ) else (
    if (v2h16 < 0 ∨ 6 ≤ (v2h16).toNatClampNeg) then none else
    if ((σh16.2.1 6 ((v2h16).toNatClampNeg)) = 0) then (
      k_lt (v2h16 + (1 : Int32)) fun x5 =>
      some (.inl (x5, σh16))
    ) else (
      if ((σh16.1 10) < 0 ∨ 6 ≤ ((σh16.1 10)).toNatClampNeg) then none else
      bd1 (fX0_makeBase N σh16 (5 + ((σh16.1 10)).toNatClampNeg) v2h16) fun σ7 =>
      k_lt (v2h16 + (1 : Int32)) fun x8 =>
      some (.inl (x8, (p_i σ7 10 ((σ7.1 10) + (1 : Int32)))))
    )
  )
def fX0_solve (N : Nat) (σ : vS) : Option (vS) :=
  bd1 (fX0_takeRows N σ) fun σ1 =>
  bd1 (fX0_reduce N σ1) fun σ2 =>
  bd1 (k_itr (fun zz => bX0_solve_16 N zz.1 zz.2) N ((0 : Int32), (p_i σ2 10 (0 : Int32)))) fun q => jX0_solve_63 N q
abbrev rmX0_solve : Room := { frames := 3, cells := 0, slots := 0, locals := 97 }
abbrev wsX0_solve : List Cond := .code yX0_solve cX0_solve 3 none :: kws
theorem kcX0_solve {R : Room} {s : State} {args : Array Value} {own : String} {index : Nat} (htk : ∀ w ∈ kws, w.before args s = true) (hl : (Cond.methodLink own index yX0_solve).before args s = true) (hR : rmX0_solve.frames + 1 ≤ R.frames ∧ 8 + (3 + 11) + rmX0_solve.locals ≤ R.locals) : CallW R s args own RX0 index yX0_solve cX0_solve 3 none wsX0_solve rmX0_solve 0 0 1 :=
  ⟨callB_of 1 htk (k_good kc_360) rfl rfl rfl (kw_56 htk) hl (by decide +kernel) hR, (kw_358 htk), (kw_359 htk)⟩
set_option maxRecDepth 100000 in
set_option maxHeartbeats 4000000 in
theorem mX0_solve (l : Launch) (D : va_G) (cs : Nat → ClassId) (ad : Nat → Nat) (N : Nat) (σ : vS) (σ' : vS) (hf : fX0_solve N σ = some σ') : k_Met l yX0_solve wsX0_solve rmX0_solve D (tK cs) (wK cs ad) (k_A 41 ad) [.ref (ad 2), .ref (ad 5)] σ none σ' := by
  refine k_of (cc := cX0_solve) (maxL := 3) (ret := none) (by decide) rfl (Nat.le_of_ble_eq_true rfl) ?_
  intro p e s m args below meth c ls H locs hcf hr hlk hK hZ hl hw
  generalize hQ0 : MQ below _ args s 0 0 _ = Q0
  obtain ⟨T0, hE0⟩ : ∃ T, T = fX0_solve N σ := ⟨_, rfl⟩
  have hR := hE0.trans hf
  have hN0 : T0 ≠ none := by rw [hR]; exact fun h => nomatch h
  have hx := hcf.1
  have hb := hcf.2.1
  have htk := hcf.2.2.2.2
  have hown := hcf.2.2.2.1
  unfold fX0_solve at hE0
  replace hl : lv_has ls 3 [(0, .ref (ad 2)), (1, .ref (ad 5))] := hl
  have J63 : ∀ (σj63 : vS) (H : Heap) (locs : List Loc) (ls : Array Slot), lv_has ls 3 [(0, .ref (ad 2))] → k_H D (wK cs ad) (k_A 41 ad) σj63 s.heap H locs → T0 = jX0_solve_63 N σj63 → W p l e rmX0_solve s m args below meth c H locs 0 0 Q0 (F0 m 63 ls []) := by
    intro σj63 H locs ls hl hw hE0
    unfold jX0_solve_63 at hE0
    refine lv_aload_n hx hb dX0_solve_63 rfl (lv_at hl 0 rfl) ?_
    refine lv_aload_n hx hb dX0_solve_64 rfl (lv_at hl 0 rfl) ?_
    obtain ⟨r3, k3, hE0⟩ := bd1_e hE0 hN0
    refine k_callP (va_runV (As := []) (rest := [.ref (ad 2)]) hcf (mX0_judge l D cs ad N σj63 r3 k3) (kcX0_judge htk (kw_412 htk) ⟨Nat.le_of_ble_eq_true rfl, Nat.le_of_ble_eq_true rfl⟩) ⟨k_blind, va_recv (ci := 0) (q0 := 2) hK hw.1 rfl rfl, k_pre hK hZ hw⟩ rfl rfl hl.1 rfl (lv_room (Nat.le_of_ble_eq_true rfl)) dX0_solve_65 ⟨Nat.zero_le _, Nat.zero_le _⟩) ?_
    refine kp_X0_verdict hcf hK (kw_196 htk) dX0_solve_68 hw (fun H locs hw => ?_)
    exact kret_v hcf hr hlk hK hw (rt1 hR hE0) hQ0 dX0_solve_71
  refine lv_aload_n hx hb dX0_solve_0 rfl (lv_at hl 0 rfl) ?_
  refine lv_aload_n hx hb dX0_solve_1 rfl (lv_at hl 1 rfl) ?_
  obtain ⟨σ1, k1, hE0⟩ := bd1_e hE0 hN0
  refine k_call (va_runV (As := [.ref (ad 5)]) (rest := []) hcf (mX0_takeRows l D cs ad N σ σ1 k1) (kcX0_takeRows htk (kw_361 htk) ⟨Nat.le_of_ble_eq_true rfl, Nat.le_of_ble_eq_true rfl⟩) ⟨k_blind, va_recv (ci := 0) (q0 := 2) hK hw.1 rfl rfl, k_pre hK hZ hw⟩ rfl rfl hl.1 rfl (lv_room (Nat.le_of_ble_eq_true rfl)) dX0_solve_2 ⟨Nat.zero_le _, Nat.zero_le _⟩) hw (fun H locs hw => ?_)
  refine lv_aload_n hx hb dX0_solve_5 rfl (lv_at hl 0 rfl) ?_
  obtain ⟨σ2, k2, hE0⟩ := bd1_e hE0 hN0
  refine k_call (va_runV (As := []) (rest := []) hcf (mX0_reduce l D cs ad N σ1 σ2 k2) (kcX0_reduce htk (kw_382 htk) ⟨Nat.le_of_ble_eq_true rfl, Nat.le_of_ble_eq_true rfl⟩) ⟨k_blind, va_recv (ci := 0) (q0 := 2) hK hw.1 rfl rfl, k_pre hK hZ hw⟩ rfl rfl hl.1 rfl (lv_room (Nat.le_of_ble_eq_true rfl)) dX0_solve_6 ⟨Nat.zero_le _, Nat.zero_le _⟩) hw (fun H locs hw => ?_)
  refine lv_aload_n hx hb dX0_solve_9 rfl (lv_at hl 0 rfl) ?_
  refine lv_iconst (v := 0) hx hb dX0_solve_10 rfl ?_
  refine kp_X0_freeCount hcf hK (kw_194 htk) dX0_solve_11 hw (fun H locs hw => ?_)
  refine lv_iconst (v := 0) hx hb dX0_solve_14 rfl ?_
  refine lv_istore_n hx hb dX0_solve_15 rfl hl (Nat.le_of_ble_eq_true rfl) rfl (fun ls (hl : lv_has ls 3 [(2, .int (0 : Int32)), (0, .ref (ad 2)), (1, .ref (ad 5))]) => ?_)
  obtain ⟨q, hq, hE0⟩ := bd1_e hE0 hN0
  refine k_ind (P := fun zz => ∀ (H : Heap) (locs : List Loc) (ls : Array Slot), lv_has ls 3 [(0, .ref (ad 2)), (2, .int zz.1)] → k_H D (wK cs ad) (k_A 41 ad) zz.2 s.heap H locs → W p l e rmX0_solve s m args below meth c H locs 0 0 Q0 (F0 m 16 ls [])) ?_ N _ hq H locs ls (lv_sub hl [1, 0] rfl) hw
  intro sX T1 hE1 hN1 hC1 hX1
  obtain ⟨v2h16, σh16⟩ := sX
  replace hE1 : T1 = bX0_solve_16 N v2h16 σh16 := hE1
  unfold bX0_solve_16 at hE1
  intro H locs ls hl hw
  replace hl : lv_has ls 3 [(0, .ref (ad 2)), (2, .int v2h16)] := hl
  replace hw : k_H D (wK cs ad) (k_A 41 ad) σh16 s.heap H locs := hw
  refine lv_iload_n hx hb dX0_solve_16 rfl (lv_at hl 1 rfl) ?_
  refine lv_aload_n hx hb dX0_solve_17 rfl (lv_at hl 0 rfl) ?_
  refine kg_X0_width hcf hK (kw_202 htk) (x := (σh16.1 14)) dX0_solve_18 hw rfl ?_
  refine lv_icmp_ge (tgt := 63) hx hb dX0_solve_21 (by decide) (fun c10 => ?_) (fun c10 => ?_)
  · have hE1 := ite_t hE1 c10
    have hq := hX1 _ hE1
    subst hq
    exact J63 σh16 H locs ls (lv_sub hl [0] rfl) hw hE0
  · have hE1 := ite_f hE1 c10
    refine lv_aload_n hx hb dX0_solve_24 rfl (lv_at hl 0 rfl) ?_
    refine kg_X0_dependent hcf hK (kw_190 htk) dX0_solve_25 hw ?_
    refine lv_iload_n hx hb dX0_solve_28 rfl (lv_at hl 1 rfl) ?_
    obtain ⟨g4, hE1⟩ := gd_e hE1 hN1
    refine kald_A6 hcf hK (x := (σh16.2.1 6 ((v2h16).toNatClampNeg))) dX0_solve_29 g4 hw rfl ?_
    refine lv_if_eq (tgt := 57) hx hb dX0_solve_30 (by decide) (fun c9 => ?_) (fun c9 => ?_)
    · have hE1 := ite_t hE1 c9
      obtain ⟨x5, e_x5, hE1⟩ := k_lte hE1
      refine lv_iinc (k := 1) (v := x5) hx hb dX0_solve_57 hl rfl (Eq.symm e_x5) (Nat.le_of_ble_eq_true rfl) rfl (fun ls (hl : lv_has ls 3 [(2, .int x5), (0, .ref (ad 2))]) => ?_)
      refine lv_goto (tgt := 16) hx hb dX0_solve_60 (by decide) ?_
      exact hC1 _ hE1 H locs ls (lv_sub hl [1, 0] rfl) hw
    · have hE1 := ite_f hE1 c9
      refine lv_aload_n hx hb dX0_solve_33 rfl (lv_at hl 0 rfl) ?_
      refine lv_aload_n hx hb dX0_solve_34 rfl (lv_at hl 0 rfl) ?_
      refine kg_X0_bases hcf hK (kw_192 htk) dX0_solve_35 hw ?_
      refine lv_aload_n hx hb dX0_solve_38 rfl (lv_at hl 0 rfl) ?_
      refine kg_X0_freeCount hcf hK (kw_194 htk) (x := (σh16.1 10)) dX0_solve_39 hw rfl ?_
      obtain ⟨g6, hE1⟩ := gd_e hE1 hN1
      refine kaald_bases hcf hK dX0_solve_42 rfl g6 hw ?_
      refine lv_iload_n hx hb dX0_solve_43 rfl (lv_at hl 1 rfl) ?_
      obtain ⟨σ7, k7, hE1⟩ := bd1_e hE1 hN1
      refine k_call (va_runV (As := [.ref (ad (25 + (5 + ((σh16.1 10)).toNatClampNeg))), .int v2h16]) (rest := []) hcf (mX0_makeBase l D cs ad N σh16 (5 + ((σh16.1 10)).toNatClampNeg) v2h16 σ7 k7 (rng_bases g6)) (kcX0_makeBase htk (kw_401 htk) ⟨Nat.le_of_ble_eq_true rfl, Nat.le_of_ble_eq_true rfl⟩) ⟨k_blind, va_recv (ci := 0) (q0 := 2) hK hw.1 rfl rfl, k_pre hK hZ hw⟩ rfl rfl hl.1 rfl (lv_room (Nat.le_of_ble_eq_true rfl)) dX0_solve_44 ⟨Nat.zero_le _, Nat.zero_le _⟩) hw (fun H locs hw => ?_)
      refine lv_aload_n hx hb dX0_solve_47 rfl (lv_at hl 0 rfl) ?_
      refine lv_dup hx hb dX0_solve_48 rfl ?_
      refine kg_X0_freeCount hcf hK (kw_194 htk) (x := (σ7.1 10)) dX0_solve_49 hw rfl ?_
      refine lv_iconst (v := 1) hx hb dX0_solve_52 rfl ?_
      refine lv_iadd hx hb dX0_solve_53 ?_
      refine kp_X0_freeCount hcf hK (kw_194 htk) dX0_solve_54 hw (fun H locs hw => ?_)
      obtain ⟨x8, e_x8, hE1⟩ := k_lte hE1
      refine lv_iinc (k := 1) (v := x8) hx hb dX0_solve_57 hl rfl (Eq.symm e_x8) (Nat.le_of_ble_eq_true rfl) rfl (fun ls (hl : lv_has ls 3 [(2, .int x8), (0, .ref (ad 2))]) => ?_)
      refine lv_goto (tgt := 16) hx hb dX0_solve_60 (by decide) ?_
      exact hC1 _ hE1 H locs ls (lv_sub hl [1, 0] rfl) hw
def fX0_forget (N : Nat) (σ : vS) : Option (vS) :=
  some (p_i (p_i σ 10 (0 : Int32)) 11 (-1 : Int32))
abbrev rmX0_forget : Room := { frames := 0, cells := 0, slots := 0, locals := 0 }
abbrev wsX0_forget : List Cond := .code yX0_forget cX0_forget 1 none :: kws
theorem kcX0_forget {R : Room} {s : State} {args : Array Value} {own : String} {index : Nat} (htk : ∀ w ∈ kws, w.before args s = true) (hl : (Cond.methodLink own index yX0_forget).before args s = true) (hR : rmX0_forget.frames + 1 ≤ R.frames ∧ 8 + (1 + 11) + rmX0_forget.locals ≤ R.locals) : CallW R s args own RX0 index yX0_forget cX0_forget 1 none wsX0_forget rmX0_forget 0 0 0 :=
  ⟨callB_of 0 htk (k_good kc_420) rfl rfl rfl (kw_56 htk) hl (by decide +kernel) hR, (kw_418 htk), (kw_419 htk)⟩
set_option maxRecDepth 100000 in
set_option maxHeartbeats 4000000 in
theorem mX0_forget (l : Launch) (D : va_G) (cs : Nat → ClassId) (ad : Nat → Nat) (N : Nat) (σ : vS) (σ' : vS) (hf : fX0_forget N σ = some σ') : k_Met l yX0_forget wsX0_forget rmX0_forget D (tK cs) (wK cs ad) (k_A 41 ad) [.ref (ad 2)] σ none σ' := by
  refine k_of (cc := cX0_forget) (maxL := 1) (ret := none) (by decide) rfl (Nat.le_of_ble_eq_true rfl) ?_
  intro p e s m args below meth c ls H locs hcf hr hlk hK hZ hl hw
  generalize hQ0 : MQ below _ args s 0 0 _ = Q0
  obtain ⟨T0, hE0⟩ : ∃ T, T = fX0_forget N σ := ⟨_, rfl⟩
  have hR := hE0.trans hf
  have hN0 : T0 ≠ none := by rw [hR]; exact fun h => nomatch h
  have hx := hcf.1
  have hb := hcf.2.1
  have htk := hcf.2.2.2.2
  have hown := hcf.2.2.2.1
  unfold fX0_forget at hE0
  replace hl : lv_has ls 1 [(0, .ref (ad 2))] := hl
  refine lv_aload_n hx hb dX0_forget_0 rfl (lv_at hl 0 rfl) ?_
  refine lv_iconst (v := 0) hx hb dX0_forget_1 rfl ?_
  refine kp_X0_freeCount hcf hK (kw_194 htk) dX0_forget_2 hw (fun H locs hw => ?_)
  refine lv_aload_n hx hb dX0_forget_5 rfl (lv_at hl 0 rfl) ?_
  refine lv_iconst (v := -1) hx hb dX0_forget_6 rfl ?_
  refine kp_X0_verdict hcf hK (kw_196 htk) dX0_forget_7 hw (fun H locs hw => ?_)
  exact kret_v hcf hr hlk hK hw (rt1 hR hE0) hQ0 dX0_forget_10
def fX2_add (N : Nat) (σ : vS) (p1 : Int32) : Option (vS) :=
  if ((200 : Int32) ≤ (σ.1 15)) then (
    some σ
  ) else (
    if ((σ.1 15) < 0 ∨ 200 ≤ ((σ.1 15)).toNatClampNeg) then none else
    some (p_i (p_a σ 8 (((σ.1 15)).toNatClampNeg) (vp_nar .char p1)) 15 ((σ.1 15) + (1 : Int32)))
  )
abbrev rmX2_add : Room := { frames := 0, cells := 0, slots := 0, locals := 0 }
abbrev wsX2_add : List Cond := .code yX2_add cX2_add 2 none :: kws
theorem kcX2_add {R : Room} {s : State} {args : Array Value} {own : String} {index : Nat} (htk : ∀ w ∈ kws, w.before args s = true) (hl : (Cond.methodLink own index yX2_add).before args s = true) (hR : rmX2_add.frames + 1 ≤ R.frames ∧ 8 + (2 + 11) + rmX2_add.locals ≤ R.locals) : CallW R s args own RX2 index yX2_add cX2_add 2 none wsX2_add rmX2_add 0 0 1 :=
  ⟨callB_of 1 htk (k_good kc_432) rfl rfl rfl (kw_57 htk) hl (by decide +kernel) hR, (kw_431 htk), (kw_21 htk)⟩
set_option maxRecDepth 100000 in
set_option maxHeartbeats 4000000 in
theorem mX2_add (l : Launch) (D : va_G) (cs : Nat → ClassId) (ad : Nat → Nat) (N : Nat) (σ : vS) (p1 : Int32) (σ' : vS) (hf : fX2_add N σ p1 = some σ') : k_Met l yX2_add wsX2_add rmX2_add D (tK cs) (wK cs ad) (k_A 41 ad) [.ref (ad 3), .int p1] σ none σ' := by
  refine k_of (cc := cX2_add) (maxL := 2) (ret := none) (by decide) rfl (Nat.le_of_ble_eq_true rfl) ?_
  intro p e s m args below meth c ls H locs hcf hr hlk hK hZ hl hw
  generalize hQ0 : MQ below _ args s 0 0 _ = Q0
  obtain ⟨T0, hE0⟩ : ∃ T, T = fX2_add N σ p1 := ⟨_, rfl⟩
  have hR := hE0.trans hf
  have hN0 : T0 ≠ none := by rw [hR]; exact fun h => nomatch h
  have hx := hcf.1
  have hb := hcf.2.1
  have htk := hcf.2.2.2.2
  have hown := hcf.2.2.2.1
  unfold fX2_add at hE0
  replace hl : lv_has ls 2 [(0, .ref (ad 3)), (1, .int p1)] := hl
  refine lv_aload_n hx hb dX2_add_0 rfl (lv_at hl 0 rfl) ?_
  refine kg_X2_length hcf hK (kw_233 htk) (x := (σ.1 15)) dX2_add_1 hw rfl ?_
  refine lv_sipush (v := 200) hx hb dX2_add_4 rfl ?_
  refine lv_icmp_ge (tgt := 30) hx hb dX2_add_7 (by decide) (fun c2 => ?_) (fun c2 => ?_)
  · have hE0 := ite_t hE0 c2
    exact kret_v hcf hr hlk hK hw (rt1 hR hE0) hQ0 dX2_add_30
  · have hE0 := ite_f hE0 c2
    refine lv_aload_n hx hb dX2_add_10 rfl (lv_at hl 0 rfl) ?_
    refine kg_X2_characters hcf hK (kw_232 htk) dX2_add_11 hw ?_
    refine lv_aload_n hx hb dX2_add_14 rfl (lv_at hl 0 rfl) ?_
    refine kg_X2_length hcf hK (kw_233 htk) (x := (σ.1 15)) dX2_add_15 hw rfl ?_
    refine lv_iload_n hx hb dX2_add_18 rfl (lv_at hl 1 rfl) ?_
    obtain ⟨g1, hE0⟩ := gd_e hE0 hN0
    refine kast_A8 hcf hK dX2_add_19 g1 hw (fun H locs hw => ?_)
    refine lv_aload_n hx hb dX2_add_20 rfl (lv_at hl 0 rfl) ?_
    refine lv_dup hx hb dX2_add_21 rfl ?_
    refine kg_X2_length hcf hK (kw_233 htk) (x := (σ.1 15)) dX2_add_22 hw rfl ?_
    refine lv_iconst (v := 1) hx hb dX2_add_25 rfl ?_
    refine lv_iadd hx hb dX2_add_26 ?_
    refine kp_X2_length hcf hK (kw_233 htk) dX2_add_27 hw (fun H locs hw => ?_)
    exact kret_v hcf hr hlk hK hw (rt1 hR hE0) hQ0 dX2_add_30
def fX2_addSign (N : Nat) (σ : vS) (p1 : Int32) : Option (vS) :=
  bd1 (fX2_add N σ (32 : Int32)) fun σ1 =>
  bd1 (fX2_add N σ1 p1) fun σ2 =>
  bd1 (fX2_add N σ2 (32 : Int32)) fun σ3 =>
  some σ3
abbrev rmX2_addSign : Room := { frames := 1, cells := 0, slots := 0, locals := 21 }
abbrev wsX2_addSign : List Cond := .code yX2_addSign cX2_addSign 2 none :: kws
theorem kcX2_addSign {R : Room} {s : State} {args : Array Value} {own : String} {index : Nat} (htk : ∀ w ∈ kws, w.before args s = true) (hl : (Cond.methodLink own index yX2_addSign).before args s = true) (hR : rmX2_addSign.frames + 1 ≤ R.frames ∧ 8 + (2 + 11) + rmX2_addSign.locals ≤ R.locals) : CallW R s args own RX2 index yX2_addSign cX2_addSign 2 none wsX2_addSign rmX2_addSign 0 0 1 :=
  ⟨callB_of 1 htk (k_good kc_428) rfl rfl rfl (kw_57 htk) hl (by decide +kernel) hR, (kw_427 htk), (kw_20 htk)⟩
set_option maxRecDepth 100000 in
set_option maxHeartbeats 4000000 in
theorem mX2_addSign (l : Launch) (D : va_G) (cs : Nat → ClassId) (ad : Nat → Nat) (N : Nat) (σ : vS) (p1 : Int32) (σ' : vS) (hf : fX2_addSign N σ p1 = some σ') : k_Met l yX2_addSign wsX2_addSign rmX2_addSign D (tK cs) (wK cs ad) (k_A 41 ad) [.ref (ad 3), .int p1] σ none σ' := by
  refine k_of (cc := cX2_addSign) (maxL := 2) (ret := none) (by decide) rfl (Nat.le_of_ble_eq_true rfl) ?_
  intro p e s m args below meth c ls H locs hcf hr hlk hK hZ hl hw
  generalize hQ0 : MQ below _ args s 0 0 _ = Q0
  obtain ⟨T0, hE0⟩ : ∃ T, T = fX2_addSign N σ p1 := ⟨_, rfl⟩
  have hR := hE0.trans hf
  have hN0 : T0 ≠ none := by rw [hR]; exact fun h => nomatch h
  have hx := hcf.1
  have hb := hcf.2.1
  have htk := hcf.2.2.2.2
  have hown := hcf.2.2.2.1
  unfold fX2_addSign at hE0
  replace hl : lv_has ls 2 [(0, .ref (ad 3)), (1, .int p1)] := hl
  refine lv_aload_n hx hb dX2_addSign_0 rfl (lv_at hl 0 rfl) ?_
  refine lv_bipush (v := 32) hx hb dX2_addSign_1 rfl ?_
  obtain ⟨σ1, k1, hE0⟩ := bd1_e hE0 hN0
  refine k_call (va_runV (As := [.int (32 : Int32)]) (rest := []) hcf (mX2_add l D cs ad N σ (32 : Int32) σ1 k1) (kcX2_add htk (kw_429 htk) ⟨Nat.le_of_ble_eq_true rfl, Nat.le_of_ble_eq_true rfl⟩) ⟨k_blind, va_recv (ci := 2) (q0 := 3) hK hw.1 rfl rfl, k_pre hK hZ hw⟩ rfl rfl hl.1 rfl (lv_room (Nat.le_of_ble_eq_true rfl)) dX2_addSign_3 ⟨Nat.zero_le _, Nat.zero_le _⟩) hw (fun H locs hw => ?_)
  refine lv_aload_n hx hb dX2_addSign_6 rfl (lv_at hl 0 rfl) ?_
  refine lv_iload_n hx hb dX2_addSign_7 rfl (lv_at hl 1 rfl) ?_
  obtain ⟨σ2, k2, hE0⟩ := bd1_e hE0 hN0
  refine k_call (va_runV (As := [.int p1]) (rest := []) hcf (mX2_add l D cs ad N σ1 p1 σ2 k2) (kcX2_add htk (kw_429 htk) ⟨Nat.le_of_ble_eq_true rfl, Nat.le_of_ble_eq_true rfl⟩) ⟨k_blind, va_recv (ci := 2) (q0 := 3) hK hw.1 rfl rfl, k_pre hK hZ hw⟩ rfl rfl hl.1 rfl (lv_room (Nat.le_of_ble_eq_true rfl)) dX2_addSign_8 ⟨Nat.zero_le _, Nat.zero_le _⟩) hw (fun H locs hw => ?_)
  refine lv_aload_n hx hb dX2_addSign_11 rfl (lv_at hl 0 rfl) ?_
  refine lv_bipush (v := 32) hx hb dX2_addSign_12 rfl ?_
  obtain ⟨σ3, k3, hE0⟩ := bd1_e hE0 hN0
  refine k_call (va_runV (As := [.int (32 : Int32)]) (rest := []) hcf (mX2_add l D cs ad N σ2 (32 : Int32) σ3 k3) (kcX2_add htk (kw_429 htk) ⟨Nat.le_of_ble_eq_true rfl, Nat.le_of_ble_eq_true rfl⟩) ⟨k_blind, va_recv (ci := 2) (q0 := 3) hK hw.1 rfl rfl, k_pre hK hZ hw⟩ rfl rfl hl.1 rfl (lv_room (Nat.le_of_ble_eq_true rfl)) dX2_addSign_14 ⟨Nat.zero_le _, Nat.zero_le _⟩) hw (fun H locs hw => ?_)
  exact kret_v hcf hr hlk hK hw (rt1 hR hE0) hQ0 dX2_addSign_17
def jX2_turnRound_51 (N : Nat) (σj51 : vS) : Option (vS) :=
  some σj51
def bX2_turnRound_9 (N : Nat) (v2h9 : Int32) (v3h9 : Int32) (σh9 : vS) : Option ((Int32 × Int32 × vS) ⊕ (vS)) :=
  if (v2h9 ≤ v3h9) then (
    some (.inr σh9)
  ) else (
    if (v3h9 < 0 ∨ 200 ≤ (v3h9).toNatClampNeg) then none else
    k_lt (σh9.2.1 8 ((v3h9).toNatClampNeg)) fun x3 =>
    if (v2h9 < 0 ∨ 200 ≤ (v2h9).toNatClampNeg) then none else
    if (v3h9 < 0 ∨ 200 ≤ (v3h9).toNatClampNeg) then none else
    if (v2h9 < 0 ∨ 200 ≤ (v2h9).toNatClampNeg) then none else
    k_lt (v2h9 + (-1 : Int32)) fun x7 =>
    k_lt (v3h9 + (1 : Int32)) fun x8 =>
    some (.inl (x7, x8, (p_a (p_a σh9 8 ((v3h9).toNatClampNeg) (vp_nar .char (σh9.2.1 8 ((v2h9).toNatClampNeg)))) 8 ((v2h9).toNatClampNeg) (vp_nar .char x3))))
  )
def fX2_turnRound (N : Nat) (σ : vS) (p1 : Int32) : Option (vS) :=
  k_lt ((σ.1 15) - (1 : Int32)) fun x1 =>
  bd1 (k_itr (fun zz => bX2_turnRound_9 N zz.1 zz.2.1 zz.2.2) N (x1, p1, σ)) fun q => jX2_turnRound_51 N q
abbrev rmX2_turnRound : Room := { frames := 0, cells := 0, slots := 0, locals := 0 }
abbrev wsX2_turnRound : List Cond := .code yX2_turnRound cX2_turnRound 5 none :: kws
theorem kcX2_turnRound {R : Room} {s : State} {args : Array Value} {own : String} {index : Nat} (htk : ∀ w ∈ kws, w.before args s = true) (hl : (Cond.methodLink own index yX2_turnRound).before args s = true) (hR : rmX2_turnRound.frames + 1 ≤ R.frames ∧ 8 + (5 + 11) + rmX2_turnRound.locals ≤ R.locals) : CallW R s args own RX2 index yX2_turnRound cX2_turnRound 5 none wsX2_turnRound rmX2_turnRound 0 0 1 :=
  ⟨callB_of 1 htk (k_good kc_442) rfl rfl rfl (kw_57 htk) hl (by decide +kernel) hR, (kw_441 htk), (kw_23 htk)⟩
set_option maxRecDepth 100000 in
set_option maxHeartbeats 4000000 in
theorem mX2_turnRound (l : Launch) (D : va_G) (cs : Nat → ClassId) (ad : Nat → Nat) (N : Nat) (σ : vS) (p1 : Int32) (σ' : vS) (hf : fX2_turnRound N σ p1 = some σ') : k_Met l yX2_turnRound wsX2_turnRound rmX2_turnRound D (tK cs) (wK cs ad) (k_A 41 ad) [.ref (ad 3), .int p1] σ none σ' := by
  refine k_of (cc := cX2_turnRound) (maxL := 5) (ret := none) (by decide) rfl (Nat.le_of_ble_eq_true rfl) ?_
  intro p e s m args below meth c ls H locs hcf hr hlk hK hZ hl hw
  generalize hQ0 : MQ below _ args s 0 0 _ = Q0
  obtain ⟨T0, hE0⟩ : ∃ T, T = fX2_turnRound N σ p1 := ⟨_, rfl⟩
  have hR := hE0.trans hf
  have hN0 : T0 ≠ none := by rw [hR]; exact fun h => nomatch h
  have hx := hcf.1
  have hb := hcf.2.1
  have htk := hcf.2.2.2.2
  have hown := hcf.2.2.2.1
  unfold fX2_turnRound at hE0
  replace hl : lv_has ls 5 [(0, .ref (ad 3)), (1, .int p1)] := hl
  have J51 : ∀ (σj51 : vS) (H : Heap) (locs : List Loc) (ls : Array Slot), lv_has ls 5 [] → k_H D (wK cs ad) (k_A 41 ad) σj51 s.heap H locs → T0 = jX2_turnRound_51 N σj51 → W p l e rmX2_turnRound s m args below meth c H locs 0 0 Q0 (F0 m 51 ls []) := by
    intro σj51 H locs ls hl hw hE0
    unfold jX2_turnRound_51 at hE0
    exact kret_v hcf hr hlk hK hw (rt1 hR hE0) hQ0 dX2_turnRound_51
  refine lv_aload_n hx hb dX2_turnRound_0 rfl (lv_at hl 0 rfl) ?_
  refine kg_X2_length hcf hK (kw_233 htk) (x := (σ.1 15)) dX2_turnRound_1 hw rfl ?_
  refine lv_iconst (v := 1) hx hb dX2_turnRound_4 rfl ?_
  refine lv_isub hx hb dX2_turnRound_5 ?_
  refine lv_topi (fun x1 e_x1 => ?_)
  have hE0 := k_lts hE0 e_x1
  refine lv_istore_n hx hb dX2_turnRound_6 rfl hl (Nat.le_of_ble_eq_true rfl) rfl (fun ls (hl : lv_has ls 5 [(2, .int x1), (0, .ref (ad 3)), (1, .int p1)]) => ?_)
  refine lv_iload_n hx hb dX2_turnRound_7 rfl (lv_at hl 2 rfl) ?_
  refine lv_istore_n hx hb dX2_turnRound_8 rfl hl (Nat.le_of_ble_eq_true rfl) rfl (fun ls (hl : lv_has ls 5 [(3, .int p1), (2, .int x1), (0, .ref (ad 3)), (1, .int p1)]) => ?_)
  obtain ⟨q, hq, hE0⟩ := bd1_e hE0 hN0
  refine k_ind (P := fun zz => ∀ (H : Heap) (locs : List Loc) (ls : Array Slot), lv_has ls 5 [(0, .ref (ad 3)), (2, .int zz.1), (3, .int zz.2.1)] → k_H D (wK cs ad) (k_A 41 ad) zz.2.2 s.heap H locs → W p l e rmX2_turnRound s m args below meth c H locs 0 0 Q0 (F0 m 9 ls [])) ?_ N _ hq H locs ls (lv_sub hl [2, 1, 0] rfl) hw
  intro sX T1 hE1 hN1 hC1 hX1
  obtain ⟨v2h9, v3h9, σh9⟩ := sX
  replace hE1 : T1 = bX2_turnRound_9 N v2h9 v3h9 σh9 := hE1
  unfold bX2_turnRound_9 at hE1
  intro H locs ls hl hw
  replace hl : lv_has ls 5 [(0, .ref (ad 3)), (2, .int v2h9), (3, .int v3h9)] := hl
  replace hw : k_H D (wK cs ad) (k_A 41 ad) σh9 s.heap H locs := hw
  refine lv_iload_n hx hb dX2_turnRound_9 rfl (lv_at hl 2 rfl) ?_
  refine lv_iload_n hx hb dX2_turnRound_10 rfl (lv_at hl 1 rfl) ?_
  refine lv_icmp_ge (tgt := 51) hx hb dX2_turnRound_11 (by decide) (fun c9 => ?_) (fun c9 => ?_)
  · have hE1 := ite_t hE1 c9
    have hq := hX1 _ hE1
    subst hq
    exact J51 σh9 H locs ls (lv_sub hl [] rfl) hw hE0
  · have hE1 := ite_f hE1 c9
    refine lv_aload_n hx hb dX2_turnRound_14 rfl (lv_at hl 0 rfl) ?_
    refine kg_X2_characters hcf hK (kw_232 htk) dX2_turnRound_15 hw ?_
    refine lv_iload_n hx hb dX2_turnRound_18 rfl (lv_at hl 2 rfl) ?_
    obtain ⟨g2, hE1⟩ := gd_e hE1 hN1
    refine kald_A8 hcf hK (x := (σh9.2.1 8 ((v3h9).toNatClampNeg))) dX2_turnRound_19 g2 hw rfl ?_
    refine lv_topi (fun x3 e_x3 => ?_)
    have hE1 := k_lts hE1 e_x3
    refine lv_istore hx hb dX2_turnRound_20 hl (Nat.le_of_ble_eq_true rfl) rfl (fun ls (hl : lv_has ls 5 [(4, .int x3), (0, .ref (ad 3)), (2, .int v2h9), (3, .int v3h9)]) => ?_)
    refine lv_aload_n hx hb dX2_turnRound_22 rfl (lv_at hl 1 rfl) ?_
    refine kg_X2_characters hcf hK (kw_232 htk) dX2_turnRound_23 hw ?_
    refine lv_iload_n hx hb dX2_turnRound_26 rfl (lv_at hl 3 rfl) ?_
    refine lv_aload_n hx hb dX2_turnRound_27 rfl (lv_at hl 1 rfl) ?_
    refine kg_X2_characters hcf hK (kw_232 htk) dX2_turnRound_28 hw ?_
    refine lv_iload_n hx hb dX2_turnRound_31 rfl (lv_at hl 2 rfl) ?_
    obtain ⟨g4, hE1⟩ := gd_e hE1 hN1
    refine kald_A8 hcf hK (x := (σh9.2.1 8 ((v2h9).toNatClampNeg))) dX2_turnRound_32 g4 hw rfl ?_
    obtain ⟨g5, hE1⟩ := gd_e hE1 hN1
    refine kast_A8 hcf hK dX2_turnRound_33 g5 hw (fun H locs hw => ?_)
    refine lv_aload_n hx hb dX2_turnRound_34 rfl (lv_at hl 1 rfl) ?_
    refine kg_X2_characters hcf hK (kw_232 htk) dX2_turnRound_35 hw ?_
    refine lv_iload_n hx hb dX2_turnRound_38 rfl (lv_at hl 2 rfl) ?_
    refine lv_iload hx hb dX2_turnRound_39 (lv_at hl 0 rfl) ?_
    obtain ⟨g6, hE1⟩ := gd_e hE1 hN1
    refine kast_A8 hcf hK dX2_turnRound_41 g6 hw (fun H locs hw => ?_)
    obtain ⟨x7, e_x7, hE1⟩ := k_lte hE1
    refine lv_iinc (k := 2) (v := x7) hx hb dX2_turnRound_42 hl rfl (Eq.symm e_x7) (Nat.le_of_ble_eq_true rfl) rfl (fun ls (hl : lv_has ls 5 [(2, .int x7), (4, .int x3), (0, .ref (ad 3)), (3, .int v3h9)]) => ?_)
    obtain ⟨x8, e_x8, hE1⟩ := k_lte hE1
    refine lv_iinc (k := 3) (v := x8) hx hb dX2_turnRound_45 hl rfl (Eq.symm e_x8) (Nat.le_of_ble_eq_true rfl) rfl (fun ls (hl : lv_has ls 5 [(3, .int x8), (2, .int x7), (4, .int x3), (0, .ref (ad 3))]) => ?_)
    refine lv_goto (tgt := 9) hx hb dX2_turnRound_48 (by decide) ?_
    exact hC1 _ hE1 H locs ls (lv_sub hl [3, 1, 0] rfl) hw
def jX2_addNumber_55 (N : Nat) (σj55 : vS) (v3j55 : Int32) : Option (vS) :=
  bd1 (fX2_turnRound N σj55 v3j55) fun σ2 =>
  some σ2
def bX2_addNumber_11 (N : Nat) (x1 : Int32) (v4h11 : Int64) (v6h11 : Int32) (σh11 : vS) : Option ((Int64 × Int32 × vS) ⊕ (vS)) :=
  if ((19 : Int32) ≤ v6h11) then (
    some (.inr σh11)
  ) else (
    if ((lg_cmp v4h11 (0 : Int64)) ≤ 0) then (
      some (.inr σh11)
    ) else (
      if ((10 : Int64) = 0) then none else
      bd1 (fX2_add N σh11 ((((((48 : Int64) + (v4h11 - v4h11 / (10 : Int64) * (10 : Int64)))).toInt32).toUInt32 % 65536).toInt32)) fun σ4 =>
      if ((10 : Int64) = 0) then none else
      k_lt (v4h11 / (10 : Int64)) fun x6 =>
      k_lt (v6h11 + (1 : Int32)) fun x7 =>
      some (.inl (x6, x7, σ4))
    )
  )
def fX2_addNumber (N : Nat) (σ : vS) (p1 : Int64) : Option (vS) :=
  k_lt (σ.1 15) fun x1 =>
  bd1 (k_itr (fun zz => bX2_addNumber_11 N x1 zz.1 zz.2.1 zz.2.2) N (p1, (0 : Int32), σ)) fun q => jX2_addNumber_55 N q x1
abbrev rmX2_addNumber : Room := { frames := 1, cells := 0, slots := 0, locals := 24 }
abbrev wsX2_addNumber : List Cond := .code yX2_addNumber cX2_addNumber 7 none :: kws
theorem kcX2_addNumber {R : Room} {s : State} {args : Array Value} {own : String} {index : Nat} (htk : ∀ w ∈ kws, w.before args s = true) (hl : (Cond.methodLink own index yX2_addNumber).before args s = true) (hR : rmX2_addNumber.frames + 1 ≤ R.frames ∧ 8 + (7 + 11) + rmX2_addNumber.locals ≤ R.locals) : CallW R s args own RX2 index yX2_addNumber cX2_addNumber 7 none wsX2_addNumber rmX2_addNumber 0 0 1 :=
  ⟨callB_of 1 htk (k_good kc_436) rfl rfl rfl (kw_57 htk) hl (by decide +kernel) hR, (kw_435 htk), (kw_22 htk)⟩
set_option maxRecDepth 100000 in
set_option maxHeartbeats 4000000 in
theorem mX2_addNumber (l : Launch) (D : va_G) (cs : Nat → ClassId) (ad : Nat → Nat) (N : Nat) (σ : vS) (p1 : Int64) (σ' : vS) (hf : fX2_addNumber N σ p1 = some σ') : k_Met l yX2_addNumber wsX2_addNumber rmX2_addNumber D (tK cs) (wK cs ad) (k_A 41 ad) [.ref (ad 3), .long p1] σ none σ' := by
  refine k_of (cc := cX2_addNumber) (maxL := 7) (ret := none) (by decide) rfl (Nat.le_of_ble_eq_true rfl) ?_
  intro p e s m args below meth c ls H locs hcf hr hlk hK hZ hl hw
  generalize hQ0 : MQ below _ args s 0 0 _ = Q0
  obtain ⟨T0, hE0⟩ : ∃ T, T = fX2_addNumber N σ p1 := ⟨_, rfl⟩
  have hR := hE0.trans hf
  have hN0 : T0 ≠ none := by rw [hR]; exact fun h => nomatch h
  have hx := hcf.1
  have hb := hcf.2.1
  have htk := hcf.2.2.2.2
  have hown := hcf.2.2.2.1
  unfold fX2_addNumber at hE0
  replace hl : lv_has ls 7 [(0, .ref (ad 3)), (1, .long p1)] := hl
  have J55 : ∀ (v3j55 : Int32) (σj55 : vS) (H : Heap) (locs : List Loc) (ls : Array Slot), lv_has ls 7 [(0, .ref (ad 3)), (3, .int v3j55)] → k_H D (wK cs ad) (k_A 41 ad) σj55 s.heap H locs → T0 = jX2_addNumber_55 N σj55 v3j55 → W p l e rmX2_addNumber s m args below meth c H locs 0 0 Q0 (F0 m 55 ls []) := by
    intro v3j55 σj55 H locs ls hl hw hE0
    unfold jX2_addNumber_55 at hE0
    refine lv_aload_n hx hb dX2_addNumber_55 rfl (lv_at hl 0 rfl) ?_
    refine lv_iload_n hx hb dX2_addNumber_56 rfl (lv_at hl 1 rfl) ?_
    obtain ⟨σ2, k2, hE0⟩ := bd1_e hE0 hN0
    refine k_call (va_runV (As := [.int v3j55]) (rest := []) hcf (mX2_turnRound l D cs ad N σj55 v3j55 σ2 k2) (kcX2_turnRound htk (kw_439 htk) ⟨Nat.le_of_ble_eq_true rfl, Nat.le_of_ble_eq_true rfl⟩) ⟨k_blind, va_recv (ci := 2) (q0 := 3) hK hw.1 rfl rfl, k_pre hK hZ hw⟩ rfl rfl hl.1 rfl (lv_room (Nat.le_of_ble_eq_true rfl)) dX2_addNumber_57 ⟨Nat.zero_le _, Nat.zero_le _⟩) hw (fun H locs hw => ?_)
    exact kret_v hcf hr hlk hK hw (rt1 hR hE0) hQ0 dX2_addNumber_60
  refine lv_aload_n hx hb dX2_addNumber_0 rfl (lv_at hl 0 rfl) ?_
  refine kg_X2_length hcf hK (kw_233 htk) (x := (σ.1 15)) dX2_addNumber_1 hw rfl ?_
  refine lv_topi (fun x1 e_x1 => ?_)
  have hE0 := k_lts hE0 e_x1
  refine lv_istore_n hx hb dX2_addNumber_4 rfl hl (Nat.le_of_ble_eq_true rfl) rfl (fun ls (hl : lv_has ls 7 [(3, .int x1), (0, .ref (ad 3)), (1, .long p1)]) => ?_)
  refine lv_lload_n hx hb dX2_addNumber_5 rfl (lv_at hl 2 rfl) ?_
  refine lv_lstore hx hb dX2_addNumber_6 hl (Nat.le_of_ble_eq_true rfl) rfl (fun ls (hl : lv_has ls 7 [(4, .long p1), (3, .int x1), (0, .ref (ad 3)), (1, .long p1)]) => ?_)
  refine lv_iconst (v := 0) hx hb dX2_addNumber_8 rfl ?_
  refine lv_istore hx hb dX2_addNumber_9 hl (Nat.le_of_ble_eq_true rfl) rfl (fun ls (hl : lv_has ls 7 [(6, .int (0 : Int32)), (4, .long p1), (3, .int x1), (0, .ref (ad 3)), (1, .long p1)]) => ?_)
  obtain ⟨q, hq, hE0⟩ := bd1_e hE0 hN0
  refine k_ind (P := fun zz => ∀ (H : Heap) (locs : List Loc) (ls : Array Slot), lv_has ls 7 [(0, .ref (ad 3)), (3, .int x1), (4, .long zz.1), (6, .int zz.2.1)] → k_H D (wK cs ad) (k_A 41 ad) zz.2.2 s.heap H locs → W p l e rmX2_addNumber s m args below meth c H locs 0 0 Q0 (F0 m 11 ls [])) ?_ N _ hq H locs ls (lv_sub hl [3, 2, 1, 0] rfl) hw
  intro sX T1 hE1 hN1 hC1 hX1
  obtain ⟨v4h11, v6h11, σh11⟩ := sX
  replace hE1 : T1 = bX2_addNumber_11 N x1 v4h11 v6h11 σh11 := hE1
  unfold bX2_addNumber_11 at hE1
  intro H locs ls hl hw
  replace hl : lv_has ls 7 [(0, .ref (ad 3)), (3, .int x1), (4, .long v4h11), (6, .int v6h11)] := hl
  replace hw : k_H D (wK cs ad) (k_A 41 ad) σh11 s.heap H locs := hw
  refine lv_iload hx hb dX2_addNumber_11 (lv_at hl 3 rfl) ?_
  refine lv_bipush (v := 19) hx hb dX2_addNumber_13 rfl ?_
  refine lv_icmp_ge (tgt := 55) hx hb dX2_addNumber_15 (by decide) (fun c9 => ?_) (fun c9 => ?_)
  · have hE1 := ite_t hE1 c9
    have hq := hX1 _ hE1
    subst hq
    exact J55 x1 σh11 H locs ls (lv_sub hl [0, 1] rfl) hw hE0
  · have hE1 := ite_f hE1 c9
    refine lv_lload hx hb dX2_addNumber_18 (lv_at hl 2 rfl) ?_
    refine lv_lconst (v := 0) hx hb dX2_addNumber_20 rfl ?_
    refine W.lcmp hx hb dX2_addNumber_21 ?_
    refine lv_if_le (tgt := 55) hx hb dX2_addNumber_22 (by decide) (fun c8 => ?_) (fun c8 => ?_)
    · have hE1 := ite_t hE1 c8
      have hq := hX1 _ hE1
      subst hq
      exact J55 x1 σh11 H locs ls (lv_sub hl [0, 1] rfl) hw hE0
    · have hE1 := ite_f hE1 c8
      refine lv_aload_n hx hb dX2_addNumber_25 rfl (lv_at hl 0 rfl) ?_
      refine lv_ldc2 hx hb hown (kw_437 htk) dX2_addNumber_26 ?_
      refine lv_lload hx hb dX2_addNumber_29 (lv_at hl 2 rfl) ?_
      refine lv_ldc2 hx hb hown (kw_438 htk) dX2_addNumber_31 ?_
      obtain ⟨g3, hE1⟩ := gd_e hE1 hN1
      refine lv_lrem hx hb dX2_addNumber_34 g3 ?_
      refine lv_ladd hx hb dX2_addNumber_35 ?_
      refine lv_l2i hx hb dX2_addNumber_36 rfl ?_
      refine lv_i2c hx hb dX2_addNumber_37 rfl ?_
      obtain ⟨σ4, k4, hE1⟩ := bd1_e hE1 hN1
      refine k_call (va_runV (As := [.int ((((((48 : Int64) + (v4h11 - v4h11 / (10 : Int64) * (10 : Int64)))).toInt32).toUInt32 % 65536).toInt32)]) (rest := []) hcf (mX2_add l D cs ad N σh11 ((((((48 : Int64) + (v4h11 - v4h11 / (10 : Int64) * (10 : Int64)))).toInt32).toUInt32 % 65536).toInt32) σ4 k4) (kcX2_add htk (kw_429 htk) ⟨Nat.le_of_ble_eq_true rfl, Nat.le_of_ble_eq_true rfl⟩) ⟨k_blind, va_recv (ci := 2) (q0 := 3) hK hw.1 rfl rfl, k_pre hK hZ hw⟩ rfl rfl hl.1 rfl (lv_room (Nat.le_of_ble_eq_true rfl)) dX2_addNumber_38 ⟨Nat.zero_le _, Nat.zero_le _⟩) hw (fun H locs hw => ?_)
      refine lv_lload hx hb dX2_addNumber_41 (lv_at hl 2 rfl) ?_
      refine lv_ldc2 hx hb hown (kw_438 htk) dX2_addNumber_43 ?_
      obtain ⟨g5, hE1⟩ := gd_e hE1 hN1
      refine lv_ldiv hx hb dX2_addNumber_46 g5 ?_
      refine lv_topl (fun x6 e_x6 => ?_)
      have hE1 := k_lts hE1 e_x6
      refine lv_lstore hx hb dX2_addNumber_47 hl (Nat.le_of_ble_eq_true rfl) rfl (fun ls (hl : lv_has ls 7 [(4, .long x6), (0, .ref (ad 3)), (3, .int x1), (6, .int v6h11)]) => ?_)
      obtain ⟨x7, e_x7, hE1⟩ := k_lte hE1
      refine lv_iinc (k := 3) (v := x7) hx hb dX2_addNumber_49 hl rfl (Eq.symm e_x7) (Nat.le_of_ble_eq_true rfl) rfl (fun ls (hl : lv_has ls 7 [(6, .int x7), (4, .long x6), (0, .ref (ad 3)), (3, .int x1)]) => ?_)
      refine lv_goto (tgt := 11) hx hb dX2_addNumber_52 (by decide) ?_
      exact hC1 _ hE1 H locs ls (lv_sub hl [2, 3, 1, 0] rfl) hw
def jX2_write_109 (N : Nat) (σj109 : vS) : Option (vS) :=
  some σj109
def jX2_write_103_8 (N : Nat) (σj103 : vS) (v4j103 : Int32) : Option ((Int32 × vS) ⊕ (vS)) :=
  k_lt (v4j103 + (1 : Int32)) fun x4 =>
  some (.inl (x4, σj103))
def bX2_write_74 (N : Nat) (v4j65 : Int32) (v5h74 : Int32) (σh74 : vS) : Option ((Int32 × vS) ⊕ (vS)) :=
  if (v4j65 < 0 ∨ 6 ≤ (v4j65).toNatClampNeg) then none else
  if ((σh74.2.1 4 ((v4j65).toNatClampNeg)) ≤ v5h74) then (
    some (.inr σh74)
  ) else (
    if (v5h74 < 0 ∨ 100 ≤ (v5h74).toNatClampNeg) then none else
    bd1 (fX2_add N σh74 (σh74.2.1 0 ((v5h74).toNatClampNeg))) fun σ7 =>
    k_lt (v5h74 + (1 : Int32)) fun x8 =>
    some (.inl (x8, σ7))
  )
def jX2_write_65_8 (N : Nat) (σj65 : vS) (v4j65 : Int32) : Option ((Int32 × vS) ⊕ (vS)) :=
  if (v4j65 < 0 ∨ 6 ≤ (v4j65).toNatClampNeg) then none else
  k_lt (σj65.2.1 3 ((v4j65).toNatClampNeg)) fun x3 =>
  bd1 (k_itr (fun zz => bX2_write_74 N v4j65 zz.1 zz.2) N (x3, σj65)) fun q => jX2_write_103_8 N q v4j65
def jX2_write_42_8 (N : Nat) (σj42 : vS) (v4j42 : Int32) : Option ((Int32 × vS) ⊕ (vS)) :=
  if (v4j42 < 0 ∨ 6 ≤ (v4j42).toNatClampNeg) then none else
  if ((lg_cmp (σj42.2.2.2 5 ((v4j42).toNatClampNeg)) (1 : Int64)) = 0) then (
    jX2_write_65_8 N σj42 v4j42
  ) else (
    if (v4j42 < 0 ∨ 6 ≤ (v4j42).toNatClampNeg) then none else
    bd1 (fX2_addNumber N σj42 (σj42.2.2.2 5 ((v4j42).toNatClampNeg))) fun σ11 =>
    bd1 (fX2_add N σ11 (32 : Int32)) fun σ12 =>
    jX2_write_65_8 N σ12 v4j42
  )
def bX2_write_8 (N : Nat) (v4h8 : Int32) (σh8 : vS) : Option ((Int32 × vS) ⊕ (vS)) :=
  if ((σh8.1 2) ≤ v4h8) then (
    some (.inr σh8)
  ) else (
    if (v4h8 ≤ 0) then (
      jX2_write_42_8 N σh8 v4h8
    ) else (
      if (v4h8 = (σh8.1 3)) then (
        bd1 (fX2_addSign N σh8 (61 : Int32)) fun σ15 =>
        jX2_write_42_8 N σ15 v4h8
      ) else (
        bd1 (fX2_addSign N σh8 (43 : Int32)) fun σ14 =>
        jX2_write_42_8 N σ14 v4h8
      )
    )
  )
def fX2_write (N : Nat) (σ : vS) : Option (vS) :=
  bd1 (k_itr (fun zz => bX2_write_8 N zz.1 zz.2) N ((0 : Int32), (p_i σ 15 (0 : Int32)))) fun q => jX2_write_109 N q
abbrev rmX2_write : Room := { frames := 2, cells := 0, slots := 0, locals := 50 }
abbrev wsX2_write : List Cond := .code yX2_write cX2_write 6 none :: kws
theorem kcX2_write {R : Room} {s : State} {args : Array Value} {own : String} {index : Nat} (htk : ∀ w ∈ kws, w.before args s = true) (hl : (Cond.methodLink own index yX2_write).before args s = true) (hR : rmX2_write.frames + 1 ≤ R.frames ∧ 8 + (6 + 11) + rmX2_write.locals ≤ R.locals) : CallW R s args own RX2 index yX2_write cX2_write 6 none wsX2_write rmX2_write 0 0 3 :=
  ⟨callB_of 3 htk (k_good kc_424) rfl rfl rfl (kw_57 htk) hl (by decide +kernel) hR, (kw_422 htk), (kw_423 htk)⟩
set_option maxRecDepth 100000 in
set_option maxHeartbeats 4000000 in
theorem mX2_write (l : Launch) (D : va_G) (cs : Nat → ClassId) (ad : Nat → Nat) (N : Nat) (σ : vS) (σ' : vS) (hf : fX2_write N σ = some σ') : k_Met l yX2_write wsX2_write rmX2_write D (tK cs) (wK cs ad) (k_A 41 ad) [.ref (ad 3), .ref (ad 5), .ref (ad 4), .ref (ad 30)] σ none σ' := by
  refine k_of (cc := cX2_write) (maxL := 6) (ret := none) (by decide) rfl (Nat.le_of_ble_eq_true rfl) ?_
  intro p e s m args below meth c ls H locs hcf hr hlk hK hZ hl hw
  generalize hQ0 : MQ below _ args s 0 0 _ = Q0
  obtain ⟨T0, hE0⟩ : ∃ T, T = fX2_write N σ := ⟨_, rfl⟩
  have hR := hE0.trans hf
  have hN0 : T0 ≠ none := by rw [hR]; exact fun h => nomatch h
  have hx := hcf.1
  have hb := hcf.2.1
  have htk := hcf.2.2.2.2
  have hown := hcf.2.2.2.1
  unfold fX2_write at hE0
  replace hl : lv_has ls 6 [(0, .ref (ad 3)), (1, .ref (ad 5)), (2, .ref (ad 4)), (3, .ref (ad 30))] := hl
  have J109 : ∀ (σj109 : vS) (H : Heap) (locs : List Loc) (ls : Array Slot), lv_has ls 6 [] → k_H D (wK cs ad) (k_A 41 ad) σj109 s.heap H locs → T0 = jX2_write_109 N σj109 → W p l e rmX2_write s m args below meth c H locs 0 0 Q0 (F0 m 109 ls []) := by
    intro σj109 H locs ls hl hw hE0
    unfold jX2_write_109 at hE0
    exact kret_v hcf hr hlk hK hw (rt1 hR hE0) hQ0 dX2_write_109
  refine lv_aload_n hx hb dX2_write_0 rfl (lv_at hl 0 rfl) ?_
  refine lv_iconst (v := 0) hx hb dX2_write_1 rfl ?_
  refine kp_X2_length hcf hK (kw_233 htk) dX2_write_2 hw (fun H locs hw => ?_)
  refine lv_iconst (v := 0) hx hb dX2_write_5 rfl ?_
  refine lv_istore hx hb dX2_write_6 hl (Nat.le_of_ble_eq_true rfl) rfl (fun ls (hl : lv_has ls 6 [(4, .int (0 : Int32)), (0, .ref (ad 3)), (1, .ref (ad 5)), (2, .ref (ad 4)), (3, .ref (ad 30))]) => ?_)
  obtain ⟨q, hq, hE0⟩ := bd1_e hE0 hN0
  refine k_ind (P := fun zz => ∀ (H : Heap) (locs : List Loc) (ls : Array Slot), lv_has ls 6 [(0, .ref (ad 3)), (1, .ref (ad 5)), (2, .ref (ad 4)), (3, .ref (ad 30)), (4, .int zz.1)] → k_H D (wK cs ad) (k_A 41 ad) zz.2 s.heap H locs → W p l e rmX2_write s m args below meth c H locs 0 0 Q0 (F0 m 8 ls [])) ?_ N _ hq H locs ls (lv_sub hl [1, 2, 3, 4, 0] rfl) hw
  intro sX T1 hE1 hN1 hC1 hX1
  obtain ⟨v4h8, σh8⟩ := sX
  replace hE1 : T1 = bX2_write_8 N v4h8 σh8 := hE1
  unfold bX2_write_8 at hE1
  have J103_8 : ∀ (v4j103 : Int32) (σj103 : vS) (H : Heap) (locs : List Loc) (ls : Array Slot), lv_has ls 6 [(0, .ref (ad 3)), (1, .ref (ad 5)), (2, .ref (ad 4)), (3, .ref (ad 30)), (4, .int v4j103)] → k_H D (wK cs ad) (k_A 41 ad) σj103 s.heap H locs → T1 = jX2_write_103_8 N σj103 v4j103 → W p l e rmX2_write s m args below meth c H locs 0 0 Q0 (F0 m 103 ls []) := by
    intro v4j103 σj103 H locs ls hl hw hE1
    unfold jX2_write_103_8 at hE1
    obtain ⟨x4, e_x4, hE1⟩ := k_lte hE1
    refine lv_iinc (k := 4) (v := x4) hx hb dX2_write_103 hl rfl (Eq.symm e_x4) (Nat.le_of_ble_eq_true rfl) rfl (fun ls (hl : lv_has ls 6 [(4, .int x4), (0, .ref (ad 3)), (1, .ref (ad 5)), (2, .ref (ad 4)), (3, .ref (ad 30))]) => ?_)
    refine lv_goto (tgt := 8) hx hb dX2_write_106 (by decide) ?_
    exact hC1 _ hE1 H locs ls (lv_sub hl [1, 2, 3, 4, 0] rfl) hw
  have J65_8 : ∀ (v4j65 : Int32) (σj65 : vS) (H : Heap) (locs : List Loc) (ls : Array Slot), lv_has ls 6 [(0, .ref (ad 3)), (1, .ref (ad 5)), (2, .ref (ad 4)), (3, .ref (ad 30)), (4, .int v4j65)] → k_H D (wK cs ad) (k_A 41 ad) σj65 s.heap H locs → T1 = jX2_write_65_8 N σj65 v4j65 → W p l e rmX2_write s m args below meth c H locs 0 0 Q0 (F0 m 65 ls []) := by
    intro v4j65 σj65 H locs ls hl hw hE1
    unfold jX2_write_65_8 at hE1
    refine lv_aload_n hx hb dX2_write_65 rfl (lv_at hl 1 rfl) ?_
    refine kg_X1_begins hcf hK (kw_114 htk) dX2_write_66 hw ?_
    refine lv_iload hx hb dX2_write_69 (lv_at hl 4 rfl) ?_
    obtain ⟨g2, hE1⟩ := gd_e hE1 hN1
    refine kald_A3 hcf hK (x := (σj65.2.1 3 ((v4j65).toNatClampNeg))) dX2_write_71 g2 hw rfl ?_
    refine lv_topi (fun x3 e_x3 => ?_)
    have hE1 := k_lts hE1 e_x3
    refine lv_istore hx hb dX2_write_72 hl (Nat.le_of_ble_eq_true rfl) rfl (fun ls (hl : lv_has ls 6 [(5, .int x3), (0, .ref (ad 3)), (1, .ref (ad 5)), (2, .ref (ad 4)), (3, .ref (ad 30)), (4, .int v4j65)]) => ?_)
    obtain ⟨q, hq, hE1⟩ := bd1_e hE1 hN1
    refine k_ind (P := fun zz => ∀ (H : Heap) (locs : List Loc) (ls : Array Slot), lv_has ls 6 [(0, .ref (ad 3)), (1, .ref (ad 5)), (2, .ref (ad 4)), (3, .ref (ad 30)), (4, .int v4j65), (5, .int zz.1)] → k_H D (wK cs ad) (k_A 41 ad) zz.2 s.heap H locs → W p l e rmX2_write s m args below meth c H locs 0 0 Q0 (F0 m 74 ls [])) ?_ N _ hq H locs ls (lv_sub hl [1, 2, 3, 4, 5, 0] rfl) hw
    intro sX T2 hE2 hN2 hC2 hX2
    obtain ⟨v5h74, σh74⟩ := sX
    replace hE2 : T2 = bX2_write_74 N v4j65 v5h74 σh74 := hE2
    unfold bX2_write_74 at hE2
    intro H locs ls hl hw
    replace hl : lv_has ls 6 [(0, .ref (ad 3)), (1, .ref (ad 5)), (2, .ref (ad 4)), (3, .ref (ad 30)), (4, .int v4j65), (5, .int v5h74)] := hl
    replace hw : k_H D (wK cs ad) (k_A 41 ad) σh74 s.heap H locs := hw
    refine lv_iload hx hb dX2_write_74 (lv_at hl 5 rfl) ?_
    refine lv_aload_n hx hb dX2_write_76 rfl (lv_at hl 1 rfl) ?_
    refine kg_X1_ends hcf hK (kw_116 htk) dX2_write_77 hw ?_
    refine lv_iload hx hb dX2_write_80 (lv_at hl 4 rfl) ?_
    obtain ⟨g5, hE2⟩ := gd_e hE2 hN2
    refine kald_A4 hcf hK (x := (σh74.2.1 4 ((v4j65).toNatClampNeg))) dX2_write_82 g5 hw rfl ?_
    refine lv_icmp_ge (tgt := 103) hx hb dX2_write_83 (by decide) (fun c9 => ?_) (fun c9 => ?_)
    · have hE2 := ite_t hE2 c9
      have hq := hX2 _ hE2
      subst hq
      exact J103_8 v4j65 σh74 H locs ls (lv_sub hl [0, 1, 2, 3, 4] rfl) hw hE1
    · have hE2 := ite_f hE2 c9
      refine lv_aload_n hx hb dX2_write_86 rfl (lv_at hl 0 rfl) ?_
      refine lv_aload_n hx hb dX2_write_87 rfl (lv_at hl 2 rfl) ?_
      refine kg_X4_characters hcf hK (kw_89 htk) dX2_write_88 hw ?_
      refine lv_iload hx hb dX2_write_91 (lv_at hl 5 rfl) ?_
      obtain ⟨g6, hE2⟩ := gd_e hE2 hN2
      refine kald_A0 hcf hK (x := (σh74.2.1 0 ((v5h74).toNatClampNeg))) dX2_write_93 g6 hw rfl ?_
      obtain ⟨σ7, k7, hE2⟩ := bd1_e hE2 hN2
      refine k_call (va_runV (As := [.int (σh74.2.1 0 ((v5h74).toNatClampNeg))]) (rest := []) hcf (mX2_add l D cs ad N σh74 (σh74.2.1 0 ((v5h74).toNatClampNeg)) σ7 k7) (kcX2_add htk (kw_429 htk) ⟨Nat.le_of_ble_eq_true rfl, Nat.le_of_ble_eq_true rfl⟩) ⟨k_blind, va_recv (ci := 2) (q0 := 3) hK hw.1 rfl rfl, k_pre hK hZ hw⟩ rfl rfl hl.1 rfl (lv_room (Nat.le_of_ble_eq_true rfl)) dX2_write_94 ⟨Nat.zero_le _, Nat.zero_le _⟩) hw (fun H locs hw => ?_)
      obtain ⟨x8, e_x8, hE2⟩ := k_lte hE2
      refine lv_iinc (k := 5) (v := x8) hx hb dX2_write_97 hl rfl (Eq.symm e_x8) (Nat.le_of_ble_eq_true rfl) rfl (fun ls (hl : lv_has ls 6 [(5, .int x8), (0, .ref (ad 3)), (1, .ref (ad 5)), (2, .ref (ad 4)), (3, .ref (ad 30)), (4, .int v4j65)]) => ?_)
      refine lv_goto (tgt := 74) hx hb dX2_write_100 (by decide) ?_
      exact hC2 _ hE2 H locs ls (lv_sub hl [1, 2, 3, 4, 5, 0] rfl) hw
  have J42_8 : ∀ (v4j42 : Int32) (σj42 : vS) (H : Heap) (locs : List Loc) (ls : Array Slot), lv_has ls 6 [(0, .ref (ad 3)), (1, .ref (ad 5)), (2, .ref (ad 4)), (3, .ref (ad 30)), (4, .int v4j42)] → k_H D (wK cs ad) (k_A 41 ad) σj42 s.heap H locs → T1 = jX2_write_42_8 N σj42 v4j42 → W p l e rmX2_write s m args below meth c H locs 0 0 Q0 (F0 m 42 ls []) := by
    intro v4j42 σj42 H locs ls hl hw hE1
    unfold jX2_write_42_8 at hE1
    refine lv_aload_n hx hb dX2_write_42 rfl (lv_at hl 3 rfl) ?_
    refine lv_iload hx hb dX2_write_43 (lv_at hl 4 rfl) ?_
    obtain ⟨g1, hE1⟩ := gd_e hE1 hN1
    refine kald_B5 hcf hK (x := (σj42.2.2.2 5 ((v4j42).toNatClampNeg))) dX2_write_45 g1 hw rfl ?_
    refine lv_lconst (v := 1) hx hb dX2_write_46 rfl ?_
    refine W.lcmp hx hb dX2_write_47 ?_
    refine lv_if_eq (tgt := 65) hx hb dX2_write_48 (by decide) (fun c13 => ?_) (fun c13 => ?_)
    · have hE1 := ite_t hE1 c13
      exact J65_8 v4j42 σj42 H locs ls (lv_sub hl [0, 1, 2, 3, 4] rfl) hw hE1
    · have hE1 := ite_f hE1 c13
      refine lv_aload_n hx hb dX2_write_51 rfl (lv_at hl 0 rfl) ?_
      refine lv_aload_n hx hb dX2_write_52 rfl (lv_at hl 3 rfl) ?_
      refine lv_iload hx hb dX2_write_53 (lv_at hl 4 rfl) ?_
      obtain ⟨g10, hE1⟩ := gd_e hE1 hN1
      refine kald_B5 hcf hK (x := (σj42.2.2.2 5 ((v4j42).toNatClampNeg))) dX2_write_55 g10 hw rfl ?_
      obtain ⟨σ11, k11, hE1⟩ := bd1_e hE1 hN1
      refine k_call (va_runV (As := [.long (σj42.2.2.2 5 ((v4j42).toNatClampNeg))]) (rest := []) hcf (mX2_addNumber l D cs ad N σj42 (σj42.2.2.2 5 ((v4j42).toNatClampNeg)) σ11 k11) (kcX2_addNumber htk (kw_433 htk) ⟨Nat.le_of_ble_eq_true rfl, Nat.le_of_ble_eq_true rfl⟩) ⟨k_blind, va_recv (ci := 2) (q0 := 3) hK hw.1 rfl rfl, k_pre hK hZ hw⟩ rfl rfl hl.1 rfl (lv_room (Nat.le_of_ble_eq_true rfl)) dX2_write_56 ⟨Nat.zero_le _, Nat.zero_le _⟩) hw (fun H locs hw => ?_)
      refine lv_aload_n hx hb dX2_write_59 rfl (lv_at hl 0 rfl) ?_
      refine lv_bipush (v := 32) hx hb dX2_write_60 rfl ?_
      obtain ⟨σ12, k12, hE1⟩ := bd1_e hE1 hN1
      refine k_call (va_runV (As := [.int (32 : Int32)]) (rest := []) hcf (mX2_add l D cs ad N σ11 (32 : Int32) σ12 k12) (kcX2_add htk (kw_429 htk) ⟨Nat.le_of_ble_eq_true rfl, Nat.le_of_ble_eq_true rfl⟩) ⟨k_blind, va_recv (ci := 2) (q0 := 3) hK hw.1 rfl rfl, k_pre hK hZ hw⟩ rfl rfl hl.1 rfl (lv_room (Nat.le_of_ble_eq_true rfl)) dX2_write_62 ⟨Nat.zero_le _, Nat.zero_le _⟩) hw (fun H locs hw => ?_)
      exact J65_8 v4j42 σ12 H locs ls (lv_sub hl [0, 1, 2, 3, 4] rfl) hw hE1
  intro H locs ls hl hw
  replace hl : lv_has ls 6 [(0, .ref (ad 3)), (1, .ref (ad 5)), (2, .ref (ad 4)), (3, .ref (ad 30)), (4, .int v4h8)] := hl
  replace hw : k_H D (wK cs ad) (k_A 41 ad) σh8 s.heap H locs := hw
  refine lv_iload hx hb dX2_write_8 (lv_at hl 4 rfl) ?_
  refine lv_aload_n hx hb dX2_write_10 rfl (lv_at hl 1 rfl) ?_
  refine kg_X1_formulaCount hcf hK (kw_119 htk) (x := (σh8.1 2)) dX2_write_11 hw rfl ?_
  refine lv_icmp_ge (tgt := 109) hx hb dX2_write_14 (by decide) (fun c18 => ?_) (fun c18 => ?_)
  · have hE1 := ite_t hE1 c18
    have hq := hX1 _ hE1
    subst hq
    exact J109 σh8 H locs ls (lv_sub hl [] rfl) hw hE0
  · have hE1 := ite_f hE1 c18
    refine lv_iload hx hb dX2_write_17 (lv_at hl 4 rfl) ?_
    refine lv_if_le (tgt := 42) hx hb dX2_write_19 (by decide) (fun c17 => ?_) (fun c17 => ?_)
    · have hE1 := ite_t hE1 c17
      exact J42_8 v4h8 σh8 H locs ls (lv_sub hl [0, 1, 2, 3, 4] rfl) hw hE1
    · have hE1 := ite_f hE1 c17
      refine lv_aload_n hx hb dX2_write_22 rfl (lv_at hl 0 rfl) ?_
      refine lv_iload hx hb dX2_write_23 (lv_at hl 4 rfl) ?_
      refine lv_aload_n hx hb dX2_write_25 rfl (lv_at hl 1 rfl) ?_
      refine kg_X1_reactantCount hcf hK (kw_123 htk) (x := (σh8.1 3)) dX2_write_26 hw rfl ?_
      refine lv_icmp_ne (tgt := 37) hx hb dX2_write_29 (by decide) (fun c16 => ?_) (fun c16 => ?_)
      · have hE1 := ite_f hE1 c16
        refine lv_bipush (v := 43) hx hb dX2_write_37 rfl ?_
        obtain ⟨σ14, k14, hE1⟩ := bd1_e hE1 hN1
        refine k_call (va_runV (As := [.int (43 : Int32)]) (rest := []) hcf (mX2_addSign l D cs ad N σh8 (43 : Int32) σ14 k14) (kcX2_addSign htk (kw_425 htk) ⟨Nat.le_of_ble_eq_true rfl, Nat.le_of_ble_eq_true rfl⟩) ⟨k_blind, va_recv (ci := 2) (q0 := 3) hK hw.1 rfl rfl, k_pre hK hZ hw⟩ rfl rfl hl.1 rfl (lv_room (Nat.le_of_ble_eq_true rfl)) dX2_write_39 ⟨Nat.zero_le _, Nat.zero_le _⟩) hw (fun H locs hw => ?_)
        exact J42_8 v4h8 σ14 H locs ls (lv_sub hl [0, 1, 2, 3, 4] rfl) hw hE1
      · have hE1 := ite_t hE1 c16
        refine lv_bipush (v := 61) hx hb dX2_write_32 rfl ?_
        refine lv_goto (tgt := 39) hx hb dX2_write_34 (by decide) ?_
        obtain ⟨σ15, k15, hE1⟩ := bd1_e hE1 hN1
        refine k_call (va_runV (As := [.int (61 : Int32)]) (rest := []) hcf (mX2_addSign l D cs ad N σh8 (61 : Int32) σ15 k15) (kcX2_addSign htk (kw_425 htk) ⟨Nat.le_of_ble_eq_true rfl, Nat.le_of_ble_eq_true rfl⟩) ⟨k_blind, va_recv (ci := 2) (q0 := 3) hK hw.1 rfl rfl, k_pre hK hZ hw⟩ rfl rfl hl.1 rfl (lv_room (Nat.le_of_ble_eq_true rfl)) dX2_write_39 ⟨Nat.zero_le _, Nat.zero_le _⟩) hw (fun H locs hw => ?_)
        exact J42_8 v4h8 σ15 H locs ls (lv_sub hl [0, 1, 2, 3, 4] rfl) hw hE1
def fX4_clear (N : Nat) (σ : vS) : Option (vS) :=
  some (p_i (p_i σ 0 (0 : Int32)) 1 (0 : Int32))
abbrev rmX4_clear : Room := { frames := 0, cells := 0, slots := 0, locals := 0 }
abbrev wsX4_clear : List Cond := .code yX4_clear cX4_clear 1 none :: kws
theorem kcX4_clear {R : Room} {s : State} {args : Array Value} {own : String} {index : Nat} (htk : ∀ w ∈ kws, w.before args s = true) (hl : (Cond.methodLink own index yX4_clear).before args s = true) (hR : rmX4_clear.frames + 1 ≤ R.frames ∧ 8 + (1 + 11) + rmX4_clear.locals ≤ R.locals) : CallW R s args own RX4 index yX4_clear cX4_clear 1 none wsX4_clear rmX4_clear 0 0 0 :=
  ⟨callB_of 0 htk (k_good kc_446) rfl rfl rfl (kw_54 htk) hl (by decide +kernel) hR, (kw_444 htk), (kw_445 htk)⟩
set_option maxRecDepth 100000 in
set_option maxHeartbeats 4000000 in
theorem mX4_clear (l : Launch) (D : va_G) (cs : Nat → ClassId) (ad : Nat → Nat) (N : Nat) (σ : vS) (σ' : vS) (hf : fX4_clear N σ = some σ') : k_Met l yX4_clear wsX4_clear rmX4_clear D (tK cs) (wK cs ad) (k_A 41 ad) [.ref (ad 4)] σ none σ' := by
  refine k_of (cc := cX4_clear) (maxL := 1) (ret := none) (by decide) rfl (Nat.le_of_ble_eq_true rfl) ?_
  intro p e s m args below meth c ls H locs hcf hr hlk hK hZ hl hw
  generalize hQ0 : MQ below _ args s 0 0 _ = Q0
  obtain ⟨T0, hE0⟩ : ∃ T, T = fX4_clear N σ := ⟨_, rfl⟩
  have hR := hE0.trans hf
  have hN0 : T0 ≠ none := by rw [hR]; exact fun h => nomatch h
  have hx := hcf.1
  have hb := hcf.2.1
  have htk := hcf.2.2.2.2
  have hown := hcf.2.2.2.1
  unfold fX4_clear at hE0
  replace hl : lv_has ls 1 [(0, .ref (ad 4))] := hl
  refine lv_aload_n hx hb dX4_clear_0 rfl (lv_at hl 0 rfl) ?_
  refine lv_iconst (v := 0) hx hb dX4_clear_1 rfl ?_
  refine kp_X4_length hcf hK (kw_90 htk) dX4_clear_2 hw (fun H locs hw => ?_)
  refine lv_aload_n hx hb dX4_clear_5 rfl (lv_at hl 0 rfl) ?_
  refine lv_iconst (v := 0) hx hb dX4_clear_6 rfl ?_
  refine kp_X4_place hcf hK (kw_92 htk) dX4_clear_7 hw (fun H locs hw => ?_)
  exact kret_v hcf hr hlk hK hw (rt1 hR hE0) hQ0 dX4_clear_10
def jX5_read_81 (N : Nat) (σj81 : vS) : Option (Int32 × vS) :=
  bd1 (fX4_clear N σj81) fun σ4 =>
  if ((σ4.1 6) = 0) then (
    some ((σ4.1 2), σ4)
  ) else (
    some ((σ4.1 6), σ4)
  )
def jX5_read_47 (N : Nat) (σj47 : vS) : Option (Int32 × vS) :=
  if ((σj47.1 11) = 0) then (
    bd1 (fX2_write N σj47) fun σ6 =>
    jX5_read_81 N σ6
  ) else (
    jX5_read_81 N σj47
  )
def fX5_read (N : Nat) (σ : vS) : Option (Int32 × vS) :=
  bd1 (fX3_readEquation N σ) fun σ1 =>
  if ((σ1.1 6) = 0) then (
    bd1 (fX0_solve N σ1) fun σ8 =>
    jX5_read_47 N σ8
  ) else (
    bd1 (fX1_clear N σ1) fun σ2 =>
    bd1 (fX0_forget N σ2) fun σ3 =>
    jX5_read_47 N σ3
  )
abbrev rmX5_read : Room := { frames := 6, cells := 0, slots := 0, locals := 140 }
abbrev wsX5_read : List Cond := .code yX5_read cX5_read 2 (some .int) :: kws
theorem kcX5_read {R : Room} {s : State} {args : Array Value} {own : String} {index : Nat} (htk : ∀ w ∈ kws, w.before args s = true) (hl : (Cond.methodLink own index yX5_read).before args s = true) (hR : rmX5_read.frames + 1 ≤ R.frames ∧ 8 + (2 + 11) + rmX5_read.locals ≤ R.locals) : CallW R s args own RX5 index yX5_read cX5_read 2 (some .int) wsX5_read rmX5_read 0 0 0 :=
  ⟨callB_of 0 htk (k_good kc_252) rfl rfl rfl (kw_52 htk) hl (by decide +kernel) hR, (kw_250 htk), (kw_251 htk)⟩
set_option maxRecDepth 100000 in
set_option maxHeartbeats 4000000 in
theorem mX5_read (l : Launch) (D : va_G) (cs : Nat → ClassId) (ad : Nat → Nat) (N : Nat) (σ : vS) (r : Int32) (σ' : vS) (hf : fX5_read N σ = some (r, σ')) : k_Met l yX5_read wsX5_read rmX5_read D (tK cs) (wK cs ad) (k_A 41 ad) [.ref (ad 0)] σ (some (.int r)) σ' := by
  refine k_of (cc := cX5_read) (maxL := 2) (ret := (some .int)) (by decide) rfl (Nat.le_of_ble_eq_true rfl) ?_
  intro p e s m args below meth c ls H locs hcf hr hlk hK hZ hl hw
  generalize hQ0 : MQ below _ args s 0 0 _ = Q0
  obtain ⟨T0, hE0⟩ : ∃ T, T = fX5_read N σ := ⟨_, rfl⟩
  have hR := hE0.trans hf
  have hN0 : T0 ≠ none := by rw [hR]; exact fun h => nomatch h
  have hx := hcf.1
  have hb := hcf.2.1
  have htk := hcf.2.2.2.2
  have hown := hcf.2.2.2.1
  unfold fX5_read at hE0
  replace hl : lv_has ls 2 [(0, .ref (ad 0))] := hl
  have J81 : ∀ (σj81 : vS) (H : Heap) (locs : List Loc) (ls : Array Slot), lv_has ls 2 [(0, .ref (ad 0)), (1, .ref (ad 5))] → k_H D (wK cs ad) (k_A 41 ad) σj81 s.heap H locs → T0 = jX5_read_81 N σj81 → W p l e rmX5_read s m args below meth c H locs 0 0 Q0 (F0 m 81 ls []) := by
    intro σj81 H locs ls hl hw hE0
    unfold jX5_read_81 at hE0
    refine lv_aload_n hx hb dX5_read_81 rfl (lv_at hl 0 rfl) ?_
    refine kg_X5_reader hcf hK (kw_239 htk) dX5_read_82 hw ?_
    refine kg_X3_text hcf hK (kw_151 htk) dX5_read_85 hw ?_
    obtain ⟨σ4, k4, hE0⟩ := bd1_e hE0 hN0
    refine k_call (va_runV (As := []) (rest := []) hcf (mX4_clear l D cs ad N σj81 σ4 k4) (kcX4_clear htk (kw_443 htk) ⟨Nat.le_of_ble_eq_true rfl, Nat.le_of_ble_eq_true rfl⟩) ⟨k_blind, va_recv (ci := 4) (q0 := 4) hK hw.1 rfl rfl, k_pre hK hZ hw⟩ rfl rfl hl.1 rfl (lv_room (Nat.le_of_ble_eq_true rfl)) dX5_read_88 ⟨Nat.zero_le _, Nat.zero_le _⟩) hw (fun H locs hw => ?_)
    refine lv_aload_n hx hb dX5_read_91 rfl (lv_at hl 0 rfl) ?_
    refine kg_X5_reader hcf hK (kw_239 htk) dX5_read_92 hw ?_
    refine kg_X3_fault hcf hK (kw_155 htk) (x := (σ4.1 6)) dX5_read_95 hw rfl ?_
    refine lv_if_ne (tgt := 108) hx hb dX5_read_98 (by decide) (fun c5 => ?_) (fun c5 => ?_)
    · have hE0 := ite_f hE0 c5
      refine lv_aload_n hx hb dX5_read_108 rfl (lv_at hl 0 rfl) ?_
      refine kg_X5_reader hcf hK (kw_239 htk) dX5_read_109 hw ?_
      refine kg_X3_fault hcf hK (kw_155 htk) (x := (σ4.1 6)) dX5_read_112 hw rfl ?_
      exact kret_i hcf hr hlk hK hw (rt2 hR hE0) hQ0 dX5_read_115
    · have hE0 := ite_t hE0 c5
      refine lv_aload_n hx hb dX5_read_101 rfl (lv_at hl 1 rfl) ?_
      refine kg_X1_formulaCount hcf hK (kw_120 htk) (x := (σ4.1 2)) dX5_read_102 hw rfl ?_
      refine lv_goto (tgt := 115) hx hb dX5_read_105 (by decide) ?_
      exact kret_i hcf hr hlk hK hw (rt2 hR hE0) hQ0 dX5_read_115
  have J47 : ∀ (σj47 : vS) (H : Heap) (locs : List Loc) (ls : Array Slot), lv_has ls 2 [(0, .ref (ad 0)), (1, .ref (ad 5))] → k_H D (wK cs ad) (k_A 41 ad) σj47 s.heap H locs → T0 = jX5_read_47 N σj47 → W p l e rmX5_read s m args below meth c H locs 0 0 Q0 (F0 m 47 ls []) := by
    intro σj47 H locs ls hl hw hE0
    unfold jX5_read_47 at hE0
    refine lv_aload_n hx hb dX5_read_47 rfl (lv_at hl 0 rfl) ?_
    refine kg_X5_balance hcf hK (kw_240 htk) dX5_read_48 hw ?_
    refine kg_X0_verdict hcf hK (kw_197 htk) (x := (σj47.1 11)) dX5_read_51 hw rfl ?_
    refine lv_if_ne (tgt := 81) hx hb dX5_read_54 (by decide) (fun c7 => ?_) (fun c7 => ?_)
    · have hE0 := ite_f hE0 c7
      exact J81 σj47 H locs ls (lv_sub hl [0, 1] rfl) hw hE0
    · have hE0 := ite_t hE0 c7
      refine lv_aload_n hx hb dX5_read_57 rfl (lv_at hl 0 rfl) ?_
      refine kg_X5_line hcf hK (kw_241 htk) dX5_read_58 hw ?_
      refine lv_aload_n hx hb dX5_read_61 rfl (lv_at hl 1 rfl) ?_
      refine lv_aload_n hx hb dX5_read_62 rfl (lv_at hl 0 rfl) ?_
      refine kg_X5_reader hcf hK (kw_239 htk) dX5_read_63 hw ?_
      refine kg_X3_text hcf hK (kw_151 htk) dX5_read_66 hw ?_
      refine lv_aload_n hx hb dX5_read_69 rfl (lv_at hl 0 rfl) ?_
      refine kg_X5_balance hcf hK (kw_240 htk) dX5_read_70 hw ?_
      refine kg_X0_bases hcf hK (kw_193 htk) dX5_read_73 hw ?_
      refine lv_iconst (v := 0) hx hb dX5_read_76 rfl ?_
      refine kaald_bases hcf hK (k := 30) dX5_read_77 (by decide) (by decide) hw ?_
      obtain ⟨σ6, k6, hE0⟩ := bd1_e hE0 hN0
      refine k_call (va_runV (As := [.ref (ad 5), .ref (ad 4), .ref (ad 30)]) (rest := []) hcf (mX2_write l D cs ad N σj47 σ6 k6) (kcX2_write htk (kw_421 htk) ⟨Nat.le_of_ble_eq_true rfl, Nat.le_of_ble_eq_true rfl⟩) ⟨k_blind, va_recv (ci := 2) (q0 := 3) hK hw.1 rfl rfl, k_pre hK hZ hw⟩ rfl rfl hl.1 rfl (lv_room (Nat.le_of_ble_eq_true rfl)) dX5_read_78 ⟨Nat.zero_le _, Nat.zero_le _⟩) hw (fun H locs hw => ?_)
      exact J81 σ6 H locs ls (lv_sub hl [0, 1] rfl) hw hE0
  refine lv_aload_n hx hb dX5_read_0 rfl (lv_at hl 0 rfl) ?_
  refine kg_X5_reader hcf hK (kw_239 htk) dX5_read_1 hw ?_
  refine kg_X3_equation hcf hK (kw_153 htk) dX5_read_4 hw ?_
  refine lv_astore_n hx hb dX5_read_7 rfl hl (Nat.le_of_ble_eq_true rfl) rfl (fun ls (hl : lv_has ls 2 [(1, .ref (ad 5)), (0, .ref (ad 0))]) => ?_)
  refine lv_aload_n hx hb dX5_read_8 rfl (lv_at hl 1 rfl) ?_
  refine kg_X5_reader hcf hK (kw_239 htk) dX5_read_9 hw ?_
  obtain ⟨σ1, k1, hE0⟩ := bd1_e hE0 hN0
  refine k_call (va_runV (As := []) (rest := []) hcf (mX3_readEquation l D cs ad N σ σ1 k1) (kcX3_readEquation htk (kw_253 htk) ⟨Nat.le_of_ble_eq_true rfl, Nat.le_of_ble_eq_true rfl⟩) ⟨k_blind, va_recv (ci := 3) (q0 := 1) hK hw.1 rfl rfl, k_pre hK hZ hw⟩ rfl rfl hl.1 rfl (lv_room (Nat.le_of_ble_eq_true rfl)) dX5_read_12 ⟨Nat.zero_le _, Nat.zero_le _⟩) hw (fun H locs hw => ?_)
  refine lv_aload_n hx hb dX5_read_15 rfl (lv_at hl 1 rfl) ?_
  refine kg_X5_reader hcf hK (kw_239 htk) dX5_read_16 hw ?_
  refine kg_X3_fault hcf hK (kw_155 htk) (x := (σ1.1 6)) dX5_read_19 hw rfl ?_
  refine lv_if_ne (tgt := 36) hx hb dX5_read_22 (by decide) (fun c9 => ?_) (fun c9 => ?_)
  · have hE0 := ite_f hE0 c9
    refine lv_aload_n hx hb dX5_read_36 rfl (lv_at hl 0 rfl) ?_
    obtain ⟨σ2, k2, hE0⟩ := bd1_e hE0 hN0
    refine k_call (va_runV (As := []) (rest := []) hcf (mX1_clear l D cs ad N σ1 σ2 k2) (kcX1_clear htk (kw_416 htk) ⟨Nat.le_of_ble_eq_true rfl, Nat.le_of_ble_eq_true rfl⟩) ⟨k_blind, va_recv (ci := 1) (q0 := 5) hK hw.1 rfl rfl, k_pre hK hZ hw⟩ rfl rfl hl.1 rfl (lv_room (Nat.le_of_ble_eq_true rfl)) dX5_read_37 ⟨Nat.zero_le _, Nat.zero_le _⟩) hw (fun H locs hw => ?_)
    refine lv_aload_n hx hb dX5_read_40 rfl (lv_at hl 1 rfl) ?_
    refine kg_X5_balance hcf hK (kw_240 htk) dX5_read_41 hw ?_
    obtain ⟨σ3, k3, hE0⟩ := bd1_e hE0 hN0
    refine k_call (va_runV (As := []) (rest := []) hcf (mX0_forget l D cs ad N σ2 σ3 k3) (kcX0_forget htk (kw_417 htk) ⟨Nat.le_of_ble_eq_true rfl, Nat.le_of_ble_eq_true rfl⟩) ⟨k_blind, va_recv (ci := 0) (q0 := 2) hK hw.1 rfl rfl, k_pre hK hZ hw⟩ rfl rfl hl.1 rfl (lv_room (Nat.le_of_ble_eq_true rfl)) dX5_read_44 ⟨Nat.zero_le _, Nat.zero_le _⟩) hw (fun H locs hw => ?_)
    exact J47 σ3 H locs ls (lv_sub hl [1, 0] rfl) hw hE0
  · have hE0 := ite_t hE0 c9
    refine lv_aload_n hx hb dX5_read_25 rfl (lv_at hl 1 rfl) ?_
    refine kg_X5_balance hcf hK (kw_240 htk) dX5_read_26 hw ?_
    refine lv_aload_n hx hb dX5_read_29 rfl (lv_at hl 0 rfl) ?_
    obtain ⟨σ8, k8, hE0⟩ := bd1_e hE0 hN0
    refine k_call (va_runV (As := [.ref (ad 5)]) (rest := []) hcf (mX0_solve l D cs ad N σ1 σ8 k8) (kcX0_solve htk (kw_357 htk) ⟨Nat.le_of_ble_eq_true rfl, Nat.le_of_ble_eq_true rfl⟩) ⟨k_blind, va_recv (ci := 0) (q0 := 2) hK hw.1 rfl rfl, k_pre hK hZ hw⟩ rfl rfl hl.1 rfl (lv_room (Nat.le_of_ble_eq_true rfl)) dX5_read_30 ⟨Nat.zero_le _, Nat.zero_le _⟩) hw (fun H locs hw => ?_)
    refine lv_goto (tgt := 47) hx hb dX5_read_33 (by decide) ?_
    exact J47 σ8 H locs ls (lv_sub hl [1, 0] rfl) hw hE0
def fX5_at (N : Nat) (σ : vS) : Option (Int32) :=
  some (σ.1 7)
abbrev rmX5_at : Room := { frames := 0, cells := 0, slots := 0, locals := 0 }
abbrev wsX5_at : List Cond := .code yX5_at cX5_at 1 (some .int) :: kws
theorem kcX5_at {R : Room} {s : State} {args : Array Value} {own : String} {index : Nat} (htk : ∀ w ∈ kws, w.before args s = true) (hl : (Cond.methodLink own index yX5_at).before args s = true) (hR : rmX5_at.frames + 1 ≤ R.frames ∧ 8 + (1 + 11) + rmX5_at.locals ≤ R.locals) : CallW R s args own RX5 index yX5_at cX5_at 1 (some .int) wsX5_at rmX5_at 0 0 0 :=
  ⟨callB_of 0 htk (k_good kc_450) rfl rfl rfl (kw_52 htk) hl (by decide +kernel) hR, (kw_448 htk), (kw_449 htk)⟩
set_option maxRecDepth 100000 in
set_option maxHeartbeats 4000000 in
theorem mX5_at (l : Launch) (D : va_G) (cs : Nat → ClassId) (ad : Nat → Nat) (N : Nat) (σ : vS) (r : Int32) (hf : fX5_at N σ = some r) : k_MP l yX5_at wsX5_at rmX5_at D (tK cs) (wK cs ad) [.ref (ad 0)] σ (.int r) := by
  refine k_ofP (cc := cX5_at) (maxL := 1) (ret := (some .int)) (by decide) rfl (Nat.le_of_ble_eq_true rfl) ?_
  intro p e s m args below meth c ls hcf hr hlk hK hZ hl hw
  generalize hQ0 : MQ below _ args s 0 0 _ = Q0
  obtain ⟨T0, hE0⟩ : ∃ T, T = fX5_at N σ := ⟨_, rfl⟩
  have hR := hE0.trans hf
  have hN0 : T0 ≠ none := by rw [hR]; exact fun h => nomatch h
  have hx := hcf.1
  have hb := hcf.2.1
  have htk := hcf.2.2.2.2
  have hown := hcf.2.2.2.1
  unfold fX5_at at hE0
  replace hl : lv_has ls 1 [(0, .ref (ad 0))] := hl
  refine lv_aload_n hx hb dX5_at_0 rfl (lv_at hl 0 rfl) ?_
  refine kg_X5_reader hcf hK (kw_239 htk) dX5_at_1 hw ?_
  refine kg_X3_faultPlace hcf hK (kw_157 htk) (x := (σ.1 7)) dX5_at_4 hw rfl ?_
  exact kretP_i hcf hr hlk hK hw (rt1 hR hE0) hQ0 dX5_at_7
def fX5_state (N : Nat) (σ : vS) : Option (Int32) :=
  some (σ.1 11)
abbrev rmX5_state : Room := { frames := 0, cells := 0, slots := 0, locals := 0 }
abbrev wsX5_state : List Cond := .code yX5_state cX5_state 1 (some .int) :: kws
theorem kcX5_state {R : Room} {s : State} {args : Array Value} {own : String} {index : Nat} (htk : ∀ w ∈ kws, w.before args s = true) (hl : (Cond.methodLink own index yX5_state).before args s = true) (hR : rmX5_state.frames + 1 ≤ R.frames ∧ 8 + (1 + 11) + rmX5_state.locals ≤ R.locals) : CallW R s args own RX5 index yX5_state cX5_state 1 (some .int) wsX5_state rmX5_state 0 0 0 :=
  ⟨callB_of 0 htk (k_good kc_454) rfl rfl rfl (kw_52 htk) hl (by decide +kernel) hR, (kw_452 htk), (kw_453 htk)⟩
set_option maxRecDepth 100000 in
set_option maxHeartbeats 4000000 in
theorem mX5_state (l : Launch) (D : va_G) (cs : Nat → ClassId) (ad : Nat → Nat) (N : Nat) (σ : vS) (r : Int32) (hf : fX5_state N σ = some r) : k_MP l yX5_state wsX5_state rmX5_state D (tK cs) (wK cs ad) [.ref (ad 0)] σ (.int r) := by
  refine k_ofP (cc := cX5_state) (maxL := 1) (ret := (some .int)) (by decide) rfl (Nat.le_of_ble_eq_true rfl) ?_
  intro p e s m args below meth c ls hcf hr hlk hK hZ hl hw
  generalize hQ0 : MQ below _ args s 0 0 _ = Q0
  obtain ⟨T0, hE0⟩ : ∃ T, T = fX5_state N σ := ⟨_, rfl⟩
  have hR := hE0.trans hf
  have hN0 : T0 ≠ none := by rw [hR]; exact fun h => nomatch h
  have hx := hcf.1
  have hb := hcf.2.1
  have htk := hcf.2.2.2.2
  have hown := hcf.2.2.2.1
  unfold fX5_state at hE0
  replace hl : lv_has ls 1 [(0, .ref (ad 0))] := hl
  refine lv_aload_n hx hb dX5_state_0 rfl (lv_at hl 0 rfl) ?_
  refine kg_X5_balance hcf hK (kw_240 htk) dX5_state_1 hw ?_
  refine kg_X0_verdict hcf hK (kw_197 htk) (x := (σ.1 11)) dX5_state_4 hw rfl ?_
  exact kretP_i hcf hr hlk hK hw (rt1 hR hE0) hQ0 dX5_state_7
def fX5_freedom (N : Nat) (σ : vS) : Option (Int32) :=
  if ((σ.1 11) = (-1 : Int32)) then (
    some (-1 : Int32)
  ) else (
    some (σ.1 10)
  )
abbrev rmX5_freedom : Room := { frames := 0, cells := 0, slots := 0, locals := 0 }
abbrev wsX5_freedom : List Cond := .code yX5_freedom cX5_freedom 1 (some .int) :: kws
theorem kcX5_freedom {R : Room} {s : State} {args : Array Value} {own : String} {index : Nat} (htk : ∀ w ∈ kws, w.before args s = true) (hl : (Cond.methodLink own index yX5_freedom).before args s = true) (hR : rmX5_freedom.frames + 1 ≤ R.frames ∧ 8 + (1 + 11) + rmX5_freedom.locals ≤ R.locals) : CallW R s args own RX5 index yX5_freedom cX5_freedom 1 (some .int) wsX5_freedom rmX5_freedom 0 0 0 :=
  ⟨callB_of 0 htk (k_good kc_458) rfl rfl rfl (kw_52 htk) hl (by decide +kernel) hR, (kw_456 htk), (kw_457 htk)⟩
set_option maxRecDepth 100000 in
set_option maxHeartbeats 4000000 in
theorem mX5_freedom (l : Launch) (D : va_G) (cs : Nat → ClassId) (ad : Nat → Nat) (N : Nat) (σ : vS) (r : Int32) (hf : fX5_freedom N σ = some r) : k_MP l yX5_freedom wsX5_freedom rmX5_freedom D (tK cs) (wK cs ad) [.ref (ad 0)] σ (.int r) := by
  refine k_ofP (cc := cX5_freedom) (maxL := 1) (ret := (some .int)) (by decide) rfl (Nat.le_of_ble_eq_true rfl) ?_
  intro p e s m args below meth c ls hcf hr hlk hK hZ hl hw
  generalize hQ0 : MQ below _ args s 0 0 _ = Q0
  obtain ⟨T0, hE0⟩ : ∃ T, T = fX5_freedom N σ := ⟨_, rfl⟩
  have hR := hE0.trans hf
  have hN0 : T0 ≠ none := by rw [hR]; exact fun h => nomatch h
  have hx := hcf.1
  have hb := hcf.2.1
  have htk := hcf.2.2.2.2
  have hown := hcf.2.2.2.1
  unfold fX5_freedom at hE0
  replace hl : lv_has ls 1 [(0, .ref (ad 0))] := hl
  refine lv_aload_n hx hb dX5_freedom_0 rfl (lv_at hl 0 rfl) ?_
  refine kg_X5_balance hcf hK (kw_240 htk) dX5_freedom_1 hw ?_
  refine kg_X0_verdict hcf hK (kw_197 htk) (x := (σ.1 11)) dX5_freedom_4 hw rfl ?_
  refine lv_iconst (v := -1) hx hb dX5_freedom_7 rfl ?_
  refine lv_icmp_ne (tgt := 15) hx hb dX5_freedom_8 (by decide) (fun c1 => ?_) (fun c1 => ?_)
  · have hE0 := ite_f hE0 c1
    refine lv_aload_n hx hb dX5_freedom_15 rfl (lv_at hl 0 rfl) ?_
    refine kg_X5_balance hcf hK (kw_240 htk) dX5_freedom_16 hw ?_
    refine kg_X0_freeCount hcf hK (kw_195 htk) (x := (σ.1 10)) dX5_freedom_19 hw rfl ?_
    exact kretP_i hcf hr hlk hK hw (rt1 hR hE0) hQ0 dX5_freedom_22
  · have hE0 := ite_t hE0 c1
    refine lv_iconst (v := -1) hx hb dX5_freedom_11 rfl ?_
    refine lv_goto (tgt := 22) hx hb dX5_freedom_12 (by decide) ?_
    exact kretP_i hcf hr hlk hK hw (rt1 hR hE0) hQ0 dX5_freedom_22
def fX5_formulas (N : Nat) (σ : vS) : Option (Int32) :=
  some (σ.1 2)
abbrev rmX5_formulas : Room := { frames := 0, cells := 0, slots := 0, locals := 0 }
abbrev wsX5_formulas : List Cond := .code yX5_formulas cX5_formulas 1 (some .int) :: kws
theorem kcX5_formulas {R : Room} {s : State} {args : Array Value} {own : String} {index : Nat} (htk : ∀ w ∈ kws, w.before args s = true) (hl : (Cond.methodLink own index yX5_formulas).before args s = true) (hR : rmX5_formulas.frames + 1 ≤ R.frames ∧ 8 + (1 + 11) + rmX5_formulas.locals ≤ R.locals) : CallW R s args own RX5 index yX5_formulas cX5_formulas 1 (some .int) wsX5_formulas rmX5_formulas 0 0 0 :=
  ⟨callB_of 0 htk (k_good kc_462) rfl rfl rfl (kw_52 htk) hl (by decide +kernel) hR, (kw_460 htk), (kw_461 htk)⟩
set_option maxRecDepth 100000 in
set_option maxHeartbeats 4000000 in
theorem mX5_formulas (l : Launch) (D : va_G) (cs : Nat → ClassId) (ad : Nat → Nat) (N : Nat) (σ : vS) (r : Int32) (hf : fX5_formulas N σ = some r) : k_MP l yX5_formulas wsX5_formulas rmX5_formulas D (tK cs) (wK cs ad) [.ref (ad 0)] σ (.int r) := by
  refine k_ofP (cc := cX5_formulas) (maxL := 1) (ret := (some .int)) (by decide) rfl (Nat.le_of_ble_eq_true rfl) ?_
  intro p e s m args below meth c ls hcf hr hlk hK hZ hl hw
  generalize hQ0 : MQ below _ args s 0 0 _ = Q0
  obtain ⟨T0, hE0⟩ : ∃ T, T = fX5_formulas N σ := ⟨_, rfl⟩
  have hR := hE0.trans hf
  have hN0 : T0 ≠ none := by rw [hR]; exact fun h => nomatch h
  have hx := hcf.1
  have hb := hcf.2.1
  have htk := hcf.2.2.2.2
  have hown := hcf.2.2.2.1
  unfold fX5_formulas at hE0
  replace hl : lv_has ls 1 [(0, .ref (ad 0))] := hl
  refine lv_aload_n hx hb dX5_formulas_0 rfl (lv_at hl 0 rfl) ?_
  refine kg_X5_reader hcf hK (kw_239 htk) dX5_formulas_1 hw ?_
  refine kg_X3_equation hcf hK (kw_153 htk) dX5_formulas_4 hw ?_
  refine kg_X1_formulaCount hcf hK (kw_120 htk) (x := (σ.1 2)) dX5_formulas_7 hw rfl ?_
  exact kretP_i hcf hr hlk hK hw (rt1 hR hE0) hQ0 dX5_formulas_10
def fX5_kinds (N : Nat) (σ : vS) : Option (Int32) :=
  bd1 (fX1_kindCount N σ) fun r1 =>
  some r1
abbrev rmX5_kinds : Room := { frames := 1, cells := 0, slots := 0, locals := 20 }
abbrev wsX5_kinds : List Cond := .code yX5_kinds cX5_kinds 1 (some .int) :: kws
theorem kcX5_kinds {R : Room} {s : State} {args : Array Value} {own : String} {index : Nat} (htk : ∀ w ∈ kws, w.before args s = true) (hl : (Cond.methodLink own index yX5_kinds).before args s = true) (hR : rmX5_kinds.frames + 1 ≤ R.frames ∧ 8 + (1 + 11) + rmX5_kinds.locals ≤ R.locals) : CallW R s args own RX5 index yX5_kinds cX5_kinds 1 (some .int) wsX5_kinds rmX5_kinds 0 0 0 :=
  ⟨callB_of 0 htk (k_good kc_466) rfl rfl rfl (kw_52 htk) hl (by decide +kernel) hR, (kw_464 htk), (kw_465 htk)⟩
set_option maxRecDepth 100000 in
set_option maxHeartbeats 4000000 in
theorem mX5_kinds (l : Launch) (D : va_G) (cs : Nat → ClassId) (ad : Nat → Nat) (N : Nat) (σ : vS) (r : Int32) (hf : fX5_kinds N σ = some r) : k_MP l yX5_kinds wsX5_kinds rmX5_kinds D (tK cs) (wK cs ad) [.ref (ad 0)] σ (.int r) := by
  refine k_ofP (cc := cX5_kinds) (maxL := 1) (ret := (some .int)) (by decide) rfl (Nat.le_of_ble_eq_true rfl) ?_
  intro p e s m args below meth c ls hcf hr hlk hK hZ hl hw
  generalize hQ0 : MQ below _ args s 0 0 _ = Q0
  obtain ⟨T0, hE0⟩ : ∃ T, T = fX5_kinds N σ := ⟨_, rfl⟩
  have hR := hE0.trans hf
  have hN0 : T0 ≠ none := by rw [hR]; exact fun h => nomatch h
  have hx := hcf.1
  have hb := hcf.2.1
  have htk := hcf.2.2.2.2
  have hown := hcf.2.2.2.1
  unfold fX5_kinds at hE0
  replace hl : lv_has ls 1 [(0, .ref (ad 0))] := hl
  refine lv_aload_n hx hb dX5_kinds_0 rfl (lv_at hl 0 rfl) ?_
  refine kg_X5_reader hcf hK (kw_239 htk) dX5_kinds_1 hw ?_
  refine kg_X3_equation hcf hK (kw_153 htk) dX5_kinds_4 hw ?_
  obtain ⟨r1, k1, hE0⟩ := bd1_e hE0 hN0
  refine k_callP (va_runV (As := []) (rest := []) hcf (mX1_kindCount l D cs ad N σ r1 k1) (kcX1_kindCount htk (kw_467 htk) ⟨Nat.le_of_ble_eq_true rfl, Nat.le_of_ble_eq_true rfl⟩) ⟨k_blind, va_recv (ci := 1) (q0 := 5) hK hw.1 rfl rfl, k_pre hK hZ hw⟩ rfl rfl hl.1 rfl (lv_room (Nat.le_of_ble_eq_true rfl)) dX5_kinds_7 ⟨Nat.zero_le _, Nat.zero_le _⟩) ?_
  exact kretP_i hcf hr hlk hK hw (rt1 hR hE0) hQ0 dX5_kinds_10
def fX1_containsKind (N : Nat) (σ : vS) (p1 : Int32) : Option (Int32) :=
  if (p1 < 0) then (
    some (0 : Int32)
  ) else (
    bd1 (fX1_kindCount N σ) fun r1 =>
    if (r1 ≤ p1) then (
      some (0 : Int32)
    ) else (
      some (1 : Int32)
    )
  )
abbrev rmX1_containsKind : Room := { frames := 1, cells := 0, slots := 0, locals := 20 }
abbrev wsX1_containsKind : List Cond := .code yX1_containsKind cX1_containsKind 2 (some .boolean) :: kws
theorem kcX1_containsKind {R : Room} {s : State} {args : Array Value} {own : String} {index : Nat} (htk : ∀ w ∈ kws, w.before args s = true) (hl : (Cond.methodLink own index yX1_containsKind).before args s = true) (hR : rmX1_containsKind.frames + 1 ≤ R.frames ∧ 8 + (2 + 11) + rmX1_containsKind.locals ≤ R.locals) : CallW R s args own RX1 index yX1_containsKind cX1_containsKind 2 (some .boolean) wsX1_containsKind rmX1_containsKind 0 0 1 :=
  ⟨callB_of 1 htk (k_good kc_580) rfl rfl rfl (kw_55 htk) hl (by decide +kernel) hR, (kw_578 htk), (kw_579 htk)⟩
set_option maxRecDepth 100000 in
set_option maxHeartbeats 4000000 in
theorem mX1_containsKind (l : Launch) (D : va_G) (cs : Nat → ClassId) (ad : Nat → Nat) (N : Nat) (σ : vS) (p1 : Int32) (r : Int32) (hf : fX1_containsKind N σ p1 = some r) : k_MP l yX1_containsKind wsX1_containsKind rmX1_containsKind D (tK cs) (wK cs ad) [.ref (ad 5), .int p1] σ (.int r) := by
  refine k_ofP (cc := cX1_containsKind) (maxL := 2) (ret := (some .boolean)) (by decide) rfl (Nat.le_of_ble_eq_true rfl) ?_
  intro p e s m args below meth c ls hcf hr hlk hK hZ hl hw
  generalize hQ0 : MQ below _ args s 0 0 _ = Q0
  obtain ⟨T0, hE0⟩ : ∃ T, T = fX1_containsKind N σ p1 := ⟨_, rfl⟩
  have hR := hE0.trans hf
  have hN0 : T0 ≠ none := by rw [hR]; exact fun h => nomatch h
  have hx := hcf.1
  have hb := hcf.2.1
  have htk := hcf.2.2.2.2
  have hown := hcf.2.2.2.1
  unfold fX1_containsKind at hE0
  replace hl : lv_has ls 2 [(0, .ref (ad 5)), (1, .int p1)] := hl
  refine lv_iload_n hx hb dX1_containsKind_0 rfl (lv_at hl 1 rfl) ?_
  refine lv_if_lt (tgt := 16) hx hb dX1_containsKind_1 (by decide) (fun c3 => ?_) (fun c3 => ?_)
  · have hE0 := ite_t hE0 c3
    refine lv_iconst (v := 0) hx hb dX1_containsKind_16 rfl ?_
    exact kretP_z hcf hr hlk hK hw (rt1 hR hE0) hQ0 rfl dX1_containsKind_17
  · have hE0 := ite_f hE0 c3
    refine lv_iload_n hx hb dX1_containsKind_4 rfl (lv_at hl 1 rfl) ?_
    refine lv_aload_n hx hb dX1_containsKind_5 rfl (lv_at hl 0 rfl) ?_
    obtain ⟨r1, k1, hE0⟩ := bd1_e hE0 hN0
    refine k_callP (va_runV (As := []) (rest := [.int p1]) hcf (mX1_kindCount l D cs ad N σ r1 k1) (kcX1_kindCount htk (kw_321 htk) ⟨Nat.le_of_ble_eq_true rfl, Nat.le_of_ble_eq_true rfl⟩) ⟨k_blind, va_recv (ci := 1) (q0 := 5) hK hw.1 rfl rfl, k_pre hK hZ hw⟩ rfl rfl hl.1 rfl (lv_room (Nat.le_of_ble_eq_true rfl)) dX1_containsKind_6 ⟨Nat.zero_le _, Nat.zero_le _⟩) ?_
    refine lv_icmp_ge (tgt := 16) hx hb dX1_containsKind_9 (by decide) (fun c2 => ?_) (fun c2 => ?_)
    · have hE0 := ite_t hE0 c2
      refine lv_iconst (v := 0) hx hb dX1_containsKind_16 rfl ?_
      exact kretP_z hcf hr hlk hK hw (rt1 hR hE0) hQ0 rfl dX1_containsKind_17
    · have hE0 := ite_f hE0 c2
      refine lv_iconst (v := 1) hx hb dX1_containsKind_12 rfl ?_
      refine lv_goto (tgt := 17) hx hb dX1_containsKind_13 (by decide) ?_
      exact kretP_z hcf hr hlk hK hw (rt1 hR hE0) hQ0 rfl dX1_containsKind_17
def fX1_kindName (N : Nat) (σ : vS) (p1 : Int32) : Option (Int32) :=
  if ((σ.1 4) ≤ p1) then (
    some (0 : Int32)
  ) else (
    if (p1 < 0 ∨ 5 ≤ (p1).toNatClampNeg) then none else
    some (σ.2.1 1 ((p1).toNatClampNeg))
  )
abbrev rmX1_kindName : Room := { frames := 0, cells := 0, slots := 0, locals := 0 }
abbrev wsX1_kindName : List Cond := .code yX1_kindName cX1_kindName 2 (some .int) :: kws
theorem kcX1_kindName {R : Room} {s : State} {args : Array Value} {own : String} {index : Nat} (htk : ∀ w ∈ kws, w.before args s = true) (hl : (Cond.methodLink own index yX1_kindName).before args s = true) (hR : rmX1_kindName.frames + 1 ≤ R.frames ∧ 8 + (2 + 11) + rmX1_kindName.locals ≤ R.locals) : CallW R s args own RX1 index yX1_kindName cX1_kindName 2 (some .int) wsX1_kindName rmX1_kindName 0 0 1 :=
  ⟨callB_of 1 htk (k_good kc_599) rfl rfl rfl (kw_55 htk) hl (by decide +kernel) hR, (kw_597 htk), (kw_598 htk)⟩
set_option maxRecDepth 100000 in
set_option maxHeartbeats 4000000 in
theorem mX1_kindName (l : Launch) (D : va_G) (cs : Nat → ClassId) (ad : Nat → Nat) (N : Nat) (σ : vS) (p1 : Int32) (r : Int32) (hf : fX1_kindName N σ p1 = some r) : k_MP l yX1_kindName wsX1_kindName rmX1_kindName D (tK cs) (wK cs ad) [.ref (ad 5), .int p1] σ (.int r) := by
  refine k_ofP (cc := cX1_kindName) (maxL := 2) (ret := (some .int)) (by decide) rfl (Nat.le_of_ble_eq_true rfl) ?_
  intro p e s m args below meth c ls hcf hr hlk hK hZ hl hw
  generalize hQ0 : MQ below _ args s 0 0 _ = Q0
  obtain ⟨T0, hE0⟩ : ∃ T, T = fX1_kindName N σ p1 := ⟨_, rfl⟩
  have hR := hE0.trans hf
  have hN0 : T0 ≠ none := by rw [hR]; exact fun h => nomatch h
  have hx := hcf.1
  have hb := hcf.2.1
  have htk := hcf.2.2.2.2
  have hown := hcf.2.2.2.1
  unfold fX1_kindName at hE0
  replace hl : lv_has ls 2 [(0, .ref (ad 5)), (1, .int p1)] := hl
  refine lv_iload_n hx hb dX1_kindName_0 rfl (lv_at hl 1 rfl) ?_
  refine lv_aload_n hx hb dX1_kindName_1 rfl (lv_at hl 0 rfl) ?_
  refine kg_X1_elementCount hcf hK (kw_126 htk) (x := (σ.1 4)) dX1_kindName_2 hw rfl ?_
  refine lv_icmp_ge (tgt := 17) hx hb dX1_kindName_5 (by decide) (fun c2 => ?_) (fun c2 => ?_)
  · have hE0 := ite_t hE0 c2
    refine lv_iconst (v := 0) hx hb dX1_kindName_17 rfl ?_
    exact kretP_i hcf hr hlk hK hw (rt1 hR hE0) hQ0 dX1_kindName_18
  · have hE0 := ite_f hE0 c2
    refine lv_aload_n hx hb dX1_kindName_8 rfl (lv_at hl 0 rfl) ?_
    refine kg_X1_elementNames hcf hK (kw_110 htk) dX1_kindName_9 hw ?_
    refine lv_iload_n hx hb dX1_kindName_12 rfl (lv_at hl 1 rfl) ?_
    obtain ⟨g1, hE0⟩ := gd_e hE0 hN0
    refine kald_A1 hcf hK (x := (σ.2.1 1 ((p1).toNatClampNeg))) dX1_kindName_13 g1 hw rfl ?_
    refine lv_goto (tgt := 18) hx hb dX1_kindName_14 (by decide) ?_
    exact kretP_i hcf hr hlk hK hw (rt1 hR hE0) hQ0 dX1_kindName_18
def fX2_characterAt (N : Nat) (σ : vS) (p1 : Int32) : Option (Int32) :=
  if (p1 < 0) then (
    some (-1 : Int32)
  ) else (
    if ((σ.1 15) ≤ p1) then (
      some (-1 : Int32)
    ) else (
      if (p1 < 0 ∨ 200 ≤ (p1).toNatClampNeg) then none else
      some (σ.2.1 8 ((p1).toNatClampNeg))
    )
  )
abbrev rmX2_characterAt : Room := { frames := 0, cells := 0, slots := 0, locals := 0 }
abbrev wsX2_characterAt : List Cond := .code yX2_characterAt cX2_characterAt 2 (some .int) :: kws
theorem kcX2_characterAt {R : Room} {s : State} {args : Array Value} {own : String} {index : Nat} (htk : ∀ w ∈ kws, w.before args s = true) (hl : (Cond.methodLink own index yX2_characterAt).before args s = true) (hR : rmX2_characterAt.frames + 1 ≤ R.frames ∧ 8 + (2 + 11) + rmX2_characterAt.locals ≤ R.locals) : CallW R s args own RX2 index yX2_characterAt cX2_characterAt 2 (some .int) wsX2_characterAt rmX2_characterAt 0 0 1 :=
  ⟨callB_of 1 htk (k_good kc_664) rfl rfl rfl (kw_57 htk) hl (by decide +kernel) hR, (kw_662 htk), (kw_663 htk)⟩
set_option maxRecDepth 100000 in
set_option maxHeartbeats 4000000 in
theorem mX2_characterAt (l : Launch) (D : va_G) (cs : Nat → ClassId) (ad : Nat → Nat) (N : Nat) (σ : vS) (p1 : Int32) (r : Int32) (hf : fX2_characterAt N σ p1 = some r) : k_MP l yX2_characterAt wsX2_characterAt rmX2_characterAt D (tK cs) (wK cs ad) [.ref (ad 3), .int p1] σ (.int r) := by
  refine k_ofP (cc := cX2_characterAt) (maxL := 2) (ret := (some .int)) (by decide) rfl (Nat.le_of_ble_eq_true rfl) ?_
  intro p e s m args below meth c ls hcf hr hlk hK hZ hl hw
  generalize hQ0 : MQ below _ args s 0 0 _ = Q0
  obtain ⟨T0, hE0⟩ : ∃ T, T = fX2_characterAt N σ p1 := ⟨_, rfl⟩
  have hR := hE0.trans hf
  have hN0 : T0 ≠ none := by rw [hR]; exact fun h => nomatch h
  have hx := hcf.1
  have hb := hcf.2.1
  have htk := hcf.2.2.2.2
  have hown := hcf.2.2.2.1
  unfold fX2_characterAt at hE0
  replace hl : lv_has ls 2 [(0, .ref (ad 3)), (1, .int p1)] := hl
  refine lv_iload_n hx hb dX2_characterAt_0 rfl (lv_at hl 1 rfl) ?_
  refine lv_if_lt (tgt := 21) hx hb dX2_characterAt_1 (by decide) (fun c3 => ?_) (fun c3 => ?_)
  · have hE0 := ite_t hE0 c3
    refine lv_iconst (v := -1) hx hb dX2_characterAt_21 rfl ?_
    exact kretP_i hcf hr hlk hK hw (rt1 hR hE0) hQ0 dX2_characterAt_22
  · have hE0 := ite_f hE0 c3
    refine lv_iload_n hx hb dX2_characterAt_4 rfl (lv_at hl 1 rfl) ?_
    refine lv_aload_n hx hb dX2_characterAt_5 rfl (lv_at hl 0 rfl) ?_
    refine kg_X2_length hcf hK (kw_233 htk) (x := (σ.1 15)) dX2_characterAt_6 hw rfl ?_
    refine lv_icmp_ge (tgt := 21) hx hb dX2_characterAt_9 (by decide) (fun c2 => ?_) (fun c2 => ?_)
    · have hE0 := ite_t hE0 c2
      refine lv_iconst (v := -1) hx hb dX2_characterAt_21 rfl ?_
      exact kretP_i hcf hr hlk hK hw (rt1 hR hE0) hQ0 dX2_characterAt_22
    · have hE0 := ite_f hE0 c2
      refine lv_aload_n hx hb dX2_characterAt_12 rfl (lv_at hl 0 rfl) ?_
      refine kg_X2_characters hcf hK (kw_232 htk) dX2_characterAt_13 hw ?_
      refine lv_iload_n hx hb dX2_characterAt_16 rfl (lv_at hl 1 rfl) ?_
      obtain ⟨g1, hE0⟩ := gd_e hE0 hN0
      refine kald_A8 hcf hK (x := (σ.2.1 8 ((p1).toNatClampNeg))) dX2_characterAt_17 g1 hw rfl ?_
      refine lv_goto (tgt := 22) hx hb dX2_characterAt_18 (by decide) ?_
      exact kretP_i hcf hr hlk hK hw (rt1 hR hE0) hQ0 dX2_characterAt_22
end
section
/-! Throwing: a new exception of the library, made and thrown by a method with no handlers. -/
def kx_n : Nat → String
  | 0 => "java/lang/IllegalArgumentException"
  | 1 => "java/lang/UnsupportedOperationException"
  | 2 => "java/util/NoSuchElementException"
  | _ => "java/lang/IllegalStateException"
def kx_up : List String := ["java/lang/RuntimeException", "java/lang/Exception"]
def k_Zs (n d : String) (U : State) (H : Heap) : Prop := ∃ (c : ClassId) (k : Class) (i : Nat) (f : Field) (a : Addr) (cell : Cell) (v : Value), U.vm.findClass Bundle.tN = some c ∧ U.fieldFound? Bundle.tN n d = some (c, k, i, f) ∧ f.isStatic = true ∧ k.statics = some a ∧ H[a]? = some cell ∧ cell.vm.isStatics = true ∧ cell.cls = c ∧ f.slot < cell.slots.size ∧ k.staticTypes[f.slot]? = some f.type ∧ cell.slots[f.slot]? = some v ∧ (v = .null ∨ ∃ t, v = .ref t)
theorem k_Zs.of {n d : String} {args : Array Value} {s : State} (h : (Cond.laysStatic Bundle.tN n d).before args s = true) (h2 : (Cond.isRef (.static Bundle.tN n d)).before args s = true) : k_Zs n d s s.heap := by
  obtain ⟨c, k, i, f, a, cell, hc, hi, hst, ha, hcell, hs, hcls, hlt, hty⟩ := Cond.laysStatic_spec h
  have hv : cell.slots[f.slot]? = some (cell.slots[f.slot]'hlt) := Array.getElem?_eq_getElem hlt
  refine ⟨c, k, i, f, a, cell, _, hc, hi, hst, ha, hcell, hs, hcls, hlt, hty, hv, ?_⟩
  simp [Cond.before, Cond.holds, Cond.value, Term.eval, State.fieldNamed?, hi, hst, ha, hcell, hs, hv] at h2
  cases hq : cell.slots[f.slot]'hlt with
  | null => exact Or.inl rfl
  | ref t => exact Or.inr ⟨t, rfl⟩
  | _ => simp [hq] at h2
theorem k_Zs.kept {n d : String} {s U : State} {H H1 : Heap} (hvm : s.vm.Alike U.vm) (h : k_Zs n d s H) (hq : ∀ q : Nat, q < H.size → H1[q]? = H[q]?) : k_Zs n d U H1 := by
  obtain ⟨c, k, i, f, a, cell, v, h0, h1, h2, h3, h4, h5, h6, h7, h8, h9, h10⟩ := h
  obtain ⟨k', hi', he⟩ := State.fieldFound?_setVm hvm h1
  exact ⟨c, k', i, f, a, cell, v, by rw [hvm.findClass]; exact h0, hi', h2, by rw [he]; exact h3, by rw [hq a (Array.getElem?_eq_some_iff.mp h4).1]; exact h4, h5, h6, h7, by rw [he]; exact h8, h9, h10⟩
theorem k_Zs.ref {n d : String} {args : Array Value} {s : State} (h : k_Zs n d s s.heap) : (Cond.isRef (.static Bundle.tN n d)).before args s = true := by
  obtain ⟨c, k, i, f, a, cell, v, h0, h1, h2, h3, h4, h5, h6, h7, h8, h9, h10⟩ := h
  rcases h10 with rfl | ⟨t, rfl⟩
  · simp [Cond.before, Cond.holds, Cond.value, Term.eval, State.fieldNamed?, h1, h2, h3, h4, h5, h9]
  · simp [Cond.before, Cond.holds, Cond.value, Term.eval, State.fieldNamed?, h1, h2, h3, h4, h5, h9]
theorem k_Zs.lays {n d : String} {args : Array Value} {s : State} (h : k_Zs n d s s.heap) : (Cond.laysStatic Bundle.tN n d).before args s = true := by
  obtain ⟨c, k, i, f, a, cell, v, h0, h1, h2, h3, h4, h5, h6, h7, h8, h9, h10⟩ := h
  simp [Cond.before, Cond.holds, Cond.value, h0, h1, h2, h3, h4, h5, h6, h7, h8]
def k_S (U : State) : Prop := k_Zs "UNASSIGNED_STACK" Bundle.steD U U.heap ∧ k_Zs "SUPPRESSED_SENTINEL" Bundle.listD U U.heap
def k_TE (cls : String) (s : State) (o : Outcome) (t : State) : Prop := ∃ (a : Addr) (ce : Cell), o = .threw a ∧ s.WarmedH t.vm ∧ s.sameButNew ({ t with vm := s.vm } : State) [] 1 6 ∧ t.heap[a]? = some ce ∧ ce.vm.isStatics = false ∧ s.vm.findClass cls = some ce.cls
def k_MT (l : Launch) (y : MethodName) (ws : List Cond) (rm : Room) (D : va_G) (tys : List (ClassId × FieldType)) (wf : vS → va_W) (av : List Value) (σ : vS) (cls : String) : Prop :=
  MetFree l y (headSpec ws rm) (va_Pc av (fun U => k_B D tys wf σ U ∧ k_N U ∧ k_S U)) (fun _ _ _ _ _ => True) (fun _ st o t => k_TE cls st o t)
def k_TQ (below : List Frame) (cls : String) (s : State) : State → Prop := fun t => ∃ o, t.status = .running ∧ Ended t below o ∧ k_TE cls s o t
theorem k_ofT {l : Launch} {y : MethodName} {ws ws' : List Cond} {rm : Room} {D : va_G} {tys : List (ClassId × FieldType)} {wf : vS → va_W} {A : Nat → Prop} {av : List Value} {σ : vS} {cls : String} {cc : ByteArray} {maxL : Nat} {ret : Option FieldType}
    (hy : plainName y.cls = true) (hw : ws = Cond.code y cc maxL ret :: ws') (hav : (lg_sl av).length ≤ maxL)
    (body : ∀ (p : Program) (e : Env) (s : State) (m : MethodId) (args : Array Value) (below : List Frame) (meth : Method) (c : Code) (ls : Array Slot), CallFix p m c cc maxL s args ws' y.cls → meth.sig.returnType = ret → meth.locks = false → va_K D vwCl tys s → k_N s → k_S s → c.exceptionTable.isEmpty = true →
      lv_has ls maxL (lv_args 0 av) → k_H D wf A σ s.heap s.heap [] → W p l e rm s m args below meth c s.heap [] 0 0 (k_TQ below cls s) (F0 m 0 ls [])) :
    k_MT l y ws rm D tys wf av σ cls := by
  refine MetFree.of_bodyS (code := cc) (maxLocals := maxL) (ret := ret) hy ?_ ?_
  · intro args s m h hn
    obtain ⟨meth, c, h1, h2, h3, h4, h5, h6, -, -⟩ := Cond.code_spec hn (atoms_spec (ws := ws) h _ (by rw [hw]; exact List.mem_cons_self))
    exact ⟨meth, c, h1, h2, h3, h4, h5, h6⟩
  · intro p e s m args below meth c s₁ B hml hP _
    obtain ⟨rfl, ⟨hP, hK, hD⟩, hZ, hS⟩ := hP
    have hh0 : s₁.heap = s.heap := by rw [B.state]; rfl
    have hts := atoms_spec (ws := ws) B.pre
    rw [hw] at hts
    have hnh := B.noHandlers (hts _ List.mem_cons_self)
    have hl := lv_entry av (n := maxL) hav
    have hb := body p e s m av.toArray below meth c _ ⟨B.exec, B.bytes, hml, findClass_of_methodNamed B.named, fun w h => hts w (List.mem_cons_of_mem _ h)⟩ B.returns B.notSynchronized hK hZ hS hnh hl ⟨hP, hD, va_S.rf⟩
    rw [← lg_entry_eq] at hb
    obtain ⟨t, a1, o, b1, b2, b3⟩ := hb s₁ hh0 (Stand.of_body B)
    exact ⟨t, o, a1, b1, b2, b3⟩
def k_okw (w : Cond) : Bool := (decide (w ∈ lw_tbl) && goodWord w) || (decide (w ∈ k_nest) && w.onTables) || decide (w = .laysStatic Bundle.tN "UNASSIGNED_STACK" Bundle.steD) || decide (w = .laysStatic Bundle.tN "SUPPRESSED_SENTINEL" Bundle.listD) || decide (w = .isRef (.static Bundle.tN "UNASSIGNED_STACK" Bundle.steD)) || decide (w = .isRef (.static Bundle.tN "SUPPRESSED_SENTINEL" Bundle.listD))
theorem k_okw_use {args : Array Value} {s : State} {ws : List Cond} (h : ws.all k_okw = true) (htk : ∀ w ∈ kws, w.before args s = true) (hZ : k_N s) (hS : k_S s) : ∀ w ∈ ws, w.before args s = true := by
  intro w hw
  have h1 := List.all_eq_true.mp h w hw
  simp only [k_okw, Bool.or_eq_true, Bool.and_eq_true, decide_eq_true_eq] at h1
  rcases h1 with ((((h1 | h1) | h1) | h1) | h1) | h1
  · exact htk w (k_in h1.1 h1.2)
  · exact va_Nw.use h1.2 (hZ w h1.1)
  · rw [h1]; exact hS.1.lays
  · rw [h1]; exact hS.2.lays
  · rw [h1]; exact hS.1.ref
  · rw [h1]; exact hS.2.ref
section KT
variable {p : Program} {l : Launch} {e : Env} {R : Room} {s : State} {m : MethodId} {args : Array Value} {below : List Frame} {meth : Method} {c : Code} {H : Heap} {locs : List Loc} {Q : State → Prop}
variable {cc : ByteArray} {nL pc : Nat} {ls : Array Slot} {rest st0 : List Value} {D : va_G} {tys : List (ClassId × FieldType)} {wf : vS → va_W} {A : Nat → Prop} {σ σ' : vS} {Ts : List Cond} {own : String}
theorem k_throw {cls : String} {ic ix : Nat} {lv : List (Nat × Value)} (hcf : CallFix p m c cc nL s args kws own) (hfl : l.flags = flags0) (hlk : meth.locks = false) (hZ : k_N s) (hS : k_S s) (hnh : c.exceptionTable.isEmpty = true)
    (hat : (Bundle.ownAtoms0 own ic cls kx_up).all k_okw = true) (hcls : Bundle.fit cls = true)
    (hcl : (Cond.classLink own ix cls).before args s = true) (hin : (Cond.instantiable cls 6).before args s = true) (hini : (Cond.initialized cls).before args s = true) (hl : lv_has ls nL lv)
    (d0 : decode cc pc = .ok (.new ix, 3)) (d1 : decode cc (pc + 3) = .ok (.dup, 1)) (d2 : decode cc (pc + 3 + 1) = .ok (.invokespecial ic, 3)) (d3 : decode cc (pc + 3 + 1 + 3) = .ok (.athrow, 1))
    (hRc : 1 ≤ R.cells) (hRs : 6 ≤ R.slots) (hRf : 5 < R.frames) (hRl : 90 ≤ R.locals) :
    W p l e R s m args below meth c s.heap [] 0 0 (k_TQ below cls s) (F0 m pc ls []) := by
  refine W.newc hcf.1 hcf.2.1 hcf.2.2.2.1 hcl hin hini rfl d0 (by simpa using hRc) (by simpa using hRs) (fun cC kC hfc hkC hord hsz => ?_)
  refine W.eq (g2 := F0 m (pc + 3) ls [.ref s.heap.size]) rfl ?_
  refine lv_dup hcf.1 hcf.2.1 d1 rfl ?_
  intro T hT X
  have hlk := hlk
  obtain ⟨U, st, hrun, hend, hW, hsame, ce, hce, ho⟩ := X.ctorThrow0 hcf.1 (Launch.traces_off hfl X.admits) (own := own) (cls := cls) (names := kx_up) (ic := ic) hcf.2.2.2.1 hcls (by decide) (k_okw_use hat hcf.2.2.2.2 hZ hS) (fun x hx => by cases hx) hfc hkC
    (a := s.heap.size) (by rw [hT]; exact State.heap_pushCell_size _ _) (Nat.le_refl _) (g := F0 m (pc + 3 + 1) ls [.ref s.heap.size, .ref s.heap.size]) rfl (hl.1.trans hcf.2.2.1.symm) rfl rfl (rest := []) rfl (by rw [hcf.2.1]; exact d2) (by rw [hcf.2.1]; exact d3)
    (fun x hx => by
      have h0 : c.exceptionTable.toList = [] := by
        have h1 : c.exceptionTable.size = 0 := by simpa [Array.isEmpty] using hnh
        exact List.eq_nil_of_length_eq_zero (by simpa using h1)
      rw [h0] at hx; cases hx) hRf (Nat.le_trans (Nat.le_of_ble_eq_true rfl) hRl) hlk
  exact ⟨U, st, _, hrun, hend, _, ce, rfl, hW, hsame, hce, by rw [ho.vm]; rfl, ho.cls⟩
end KT
theorem rts1 {α β : Type} {T : Option (α ⊕ β)} {u v : α} (h : T = some (.inl u)) (h2 : T = some (.inl v)) : u = v := by
  have h3 := Option.some.inj (h.symm.trans h2)
  exact Sum.inl.inj h3
theorem rts2 {α β : Type} {T : Option ((α × vS) ⊕ β)} {r x : α} {u v : vS} (h : T = some (.inl (r, u))) (h2 : T = some (.inl (x, v))) : r = x ∧ u = v := by
  have h3 := Sum.inl.inj (Option.some.inj (h.symm.trans h2))
  exact ⟨congrArg Prod.fst h3, congrArg Prod.snd h3⟩
theorem rtsx {α β : Type} {T : Option (α ⊕ β)} {u : α} {v : β} {P : Prop} (h : T = some (.inl u)) (h2 : T = some (.inr v)) : P := by
  have h3 := Option.some.inj (h.symm.trans h2)
  exact nomatch h3
theorem rtsn {α : Type} {T : Option (α ⊕ Nat)} {n k : Nat} (h : T = some (.inr n)) (h2 : T = some (.inr k)) : n = k := Sum.inr.inj (Option.some.inj (h.symm.trans h2))
theorem ka_X5_57 : (Bundle.ownAtoms0 RX5 57 (kx_n 1) kx_up).all k_okw = true := by decide +kernel
theorem ka_X5_44 : (Bundle.ownAtoms0 RX5 44 (kx_n 0) kx_up).all k_okw = true := by decide +kernel
theorem ka_X5_114 : (Bundle.ownAtoms0 RX5 114 (kx_n 2) kx_up).all k_okw = true := by decide +kernel
theorem ka_X5_135 : (Bundle.ownAtoms0 RX5 135 (kx_n 3) kx_up).all k_okw = true := by decide +kernel
end
section
def jX5_type_96 (N : Nat) (σj96 : vS) : Option ((Int32 × vS) ⊕ Nat) :=
  some (.inl ((σj96.1 0), σj96))
def bX5_type_72 (N : Nat) (v1j40 : Int64) (v3j40 : Int32) (v5h72 : Int32) (σh72 : vS) : Option ((Int32 × vS) ⊕ (vS)) :=
  if (v3j40 ≤ v5h72) then (
    some (.inr σh72)
  ) else (
    bd1 (fX5_byteOf N σh72 v1j40 v5h72) fun r2 =>
    bd1 (fX4_add N σh72 (((r2).toUInt32 % 65536).toInt32)) fun σ3 =>
    k_lt (v5h72 + (1 : Int32)) fun x4 =>
    some (.inl (x4, σ3))
  )
def jX5_type_40 (N : Nat) (σ : vS) (v1j40 : Int64) (v3j40 : Int32) : Option ((Int32 × vS) ⊕ Nat) :=
  if (((σ.1 0) + v3j40) ≤ (100 : Int32)) then (
    bd1 (k_itr (fun zz => bX5_type_72 N v1j40 v3j40 zz.1 zz.2) N ((0 : Int32), σ)) fun q => jX5_type_96 N q
  ) else (
    some (.inr 1)
  )
def bX5_type_8 (N : Nat) (σ : vS) (p1 : Int64) (r1 : Int32) (v4h8 : Int32) : Option ((Int32) ⊕ ((Unit) ⊕ ((Int32 × vS) ⊕ Nat))) :=
  if (r1 ≤ v4h8) then (
    some (.inr (.inl ()))
  ) else (
    bd1 (fX5_byteOf N σ p1 v4h8) fun r7 =>
    bd1 (fX5_isPrintable N σ r7) fun r8 =>
    if (r8 = 0) then (
      some (.inr (.inr (.inr 0)))
    ) else (
      k_lt (v4h8 + (1 : Int32)) fun x9 =>
      some (.inl x9)
    )
  )
def fX5_type (N : Nat) (σ : vS) (p1 : Int64) : Option ((Int32 × vS) ⊕ Nat) :=
  bd1 (fX5_charactersIn N σ p1) fun r1 =>
  bds (k_itr (fun zz => bX5_type_8 N σ p1 r1 zz) N (0 : Int32)) fun _ => jX5_type_40 N σ p1 r1
abbrev rmX5_type : Room := { frames := 6, cells := 0, slots := 0, locals := 120 }
abbrev wsX5_type : List Cond := .code yX5_type cX5_type 6 (some .int) :: kws
theorem kcX5_type {R : Room} {s : State} {args : Array Value} {own : String} {index : Nat} (htk : ∀ w ∈ kws, w.before args s = true) (hl : (Cond.methodLink own index yX5_type).before args s = true) (hR : rmX5_type.frames + 1 ≤ R.frames ∧ 8 + (6 + 11) + rmX5_type.locals ≤ R.locals) : CallW R s args own RX5 index yX5_type cX5_type 6 (some .int) wsX5_type rmX5_type 0 0 1 :=
  ⟨callB_of 1 htk (k_good kc_476) rfl rfl rfl (kw_52 htk) hl (by decide +kernel) hR, (kw_474 htk), (kw_475 htk)⟩
set_option maxRecDepth 100000 in
set_option maxHeartbeats 4000000 in
theorem mX5_type (l : Launch) (D : va_G) (cs : Nat → ClassId) (ad : Nat → Nat) (N : Nat) (σ : vS) (p1 : Int64) (r : Int32) (σ' : vS) (hf : fX5_type N σ p1 = some (.inl (r, σ'))) : k_Met l yX5_type wsX5_type rmX5_type D (tK cs) (wK cs ad) (k_A 41 ad) [.ref (ad 0), .long p1] σ (some (.int r)) σ' := by
  refine k_of0 (cc := cX5_type) (maxL := 6) (ret := (some .int)) (by decide) rfl (Nat.le_of_ble_eq_true rfl) ?_
  intro p e s m args below meth c ls hcf hr hlk hK hZ hl hw
  generalize hQ0 : MQ below _ args s 0 0 _ = Q0
  obtain ⟨T0, hE0⟩ : ∃ T, T = fX5_type N σ p1 := ⟨_, rfl⟩
  have hR := hE0.trans hf
  have hN0 : T0 ≠ none := by rw [hR]; exact fun h => nomatch h
  have hx := hcf.1
  have hb := hcf.2.1
  have htk := hcf.2.2.2.2
  have hown := hcf.2.2.2.1
  unfold fX5_type at hE0
  replace hl : lv_has ls 6 [(0, .ref (ad 0)), (1, .long p1)] := hl
  have J96 : ∀ (σj96 : vS) (H : Heap) (locs : List Loc) (ls : Array Slot), lv_has ls 6 [(4, .ref (ad 4))] → k_H D (wK cs ad) (k_A 41 ad) σj96 s.heap H locs → T0 = jX5_type_96 N σj96 → W p l e rmX5_type s m args below meth c H locs 0 0 Q0 (F0 m 96 ls []) := by
    intro σj96 H locs ls hl hw hE0
    unfold jX5_type_96 at hE0
    refine lv_aload hx hb dX5_type_96 (lv_at hl 0 rfl) ?_
    refine kg_X4_length hcf hK (kw_91 htk) (x := (σj96.1 0)) dX5_type_98 hw rfl ?_
    exact kret_i hcf hr hlk hK hw (rts2 hR hE0) hQ0 dX5_type_101
  have J40 : ∀ (v1j40 : Int64) (v3j40 : Int32) (ls : Array Slot), lv_has ls 6 [(0, .ref (ad 0)), (1, .long v1j40), (3, .int v3j40)] → T0 = jX5_type_40 N σ v1j40 v3j40 → W p l e rmX5_type s m args below meth c s.heap [] 0 0 Q0 (F0 m 40 ls []) := by
    intro v1j40 v3j40 ls hl hE0
    unfold jX5_type_40 at hE0
    refine lv_aload_n hx hb dX5_type_40 rfl (lv_at hl 0 rfl) ?_
    refine kg_X5_reader hcf hK (kw_239 htk) dX5_type_41 hw ?_
    refine kg_X3_text hcf hK (kw_151 htk) dX5_type_44 hw ?_
    refine lv_astore hx hb dX5_type_47 hl (Nat.le_of_ble_eq_true rfl) rfl (fun ls (hl : lv_has ls 6 [(4, .ref (ad 4)), (0, .ref (ad 0)), (1, .long v1j40), (3, .int v3j40)]) => ?_)
    refine lv_aload hx hb dX5_type_49 (lv_at hl 0 rfl) ?_
    refine kg_X4_length hcf hK (kw_91 htk) (x := (σ.1 0)) dX5_type_51 hw rfl ?_
    refine lv_iload_n hx hb dX5_type_54 rfl (lv_at hl 3 rfl) ?_
    refine lv_iadd hx hb dX5_type_55 ?_
    refine lv_bipush (v := 100) hx hb dX5_type_56 rfl ?_
    refine lv_icmp_le (tgt := 69) hx hb dX5_type_58 (by decide) (fun c6 => ?_) (fun c6 => ?_)
    · have hE0 := ite_t hE0 c6
      refine lv_iconst (v := 0) hx hb dX5_type_69 rfl ?_
      refine lv_istore hx hb dX5_type_70 hl (Nat.le_of_ble_eq_true rfl) rfl (fun ls (hl : lv_has ls 6 [(5, .int (0 : Int32)), (4, .ref (ad 4)), (0, .ref (ad 0)), (1, .long v1j40), (3, .int v3j40)]) => ?_)
      obtain ⟨q, hq, hE0⟩ := bd1_e hE0 hN0
      refine k_ind (P := fun zz => ∀ (H : Heap) (locs : List Loc) (ls : Array Slot), lv_has ls 6 [(1, .long v1j40), (3, .int v3j40), (4, .ref (ad 4)), (5, .int zz.1)] → k_H D (wK cs ad) (k_A 41 ad) zz.2 s.heap H locs → W p l e rmX5_type s m args below meth c H locs 0 0 Q0 (F0 m 72 ls [])) ?_ N _ hq s.heap [] ls (lv_sub hl [3, 4, 1, 0] rfl) hw
      intro sX T1 hE1 hN1 hC1 hX1
      obtain ⟨v5h72, σh72⟩ := sX
      replace hE1 : T1 = bX5_type_72 N v1j40 v3j40 v5h72 σh72 := hE1
      unfold bX5_type_72 at hE1
      intro H locs ls hl hw
      replace hl : lv_has ls 6 [(1, .long v1j40), (3, .int v3j40), (4, .ref (ad 4)), (5, .int v5h72)] := hl
      replace hw : k_H D (wK cs ad) (k_A 41 ad) σh72 s.heap H locs := hw
      refine lv_iload hx hb dX5_type_72 (lv_at hl 3 rfl) ?_
      refine lv_iload_n hx hb dX5_type_74 rfl (lv_at hl 1 rfl) ?_
      refine lv_icmp_ge (tgt := 96) hx hb dX5_type_75 (by decide) (fun c5 => ?_) (fun c5 => ?_)
      · have hE1 := ite_t hE1 c5
        have hq := hX1 _ hE1
        subst hq
        exact J96 σh72 H locs ls (lv_sub hl [2] rfl) hw hE0
      · have hE1 := ite_f hE1 c5
        refine lv_aload hx hb dX5_type_78 (lv_at hl 2 rfl) ?_
        refine lv_lload_n hx hb dX5_type_80 rfl (lv_at hl 0 rfl) ?_
        refine lv_iload hx hb dX5_type_81 (lv_at hl 3 rfl) ?_
        obtain ⟨r2, k2, hE1⟩ := bd1_e hE1 hN1
        refine k_callP (va_runS (As := [.long v1j40, .int v5h72]) (rest := [.ref (ad 4)]) hcf (mX5_byteOf l D cs ad N σh72 v1j40 v5h72 r2 k2) (kcX5_byteOf htk (kw_480 htk) ⟨Nat.le_of_ble_eq_true rfl, Nat.le_of_ble_eq_true rfl⟩) ⟨k_blind, k_pre hK hZ hw⟩ rfl rfl hl.1 rfl (lv_room (Nat.le_of_ble_eq_true rfl)) dX5_type_83 ⟨Nat.zero_le _, Nat.zero_le _⟩) ?_
        refine lv_i2c hx hb dX5_type_86 rfl ?_
        obtain ⟨σ3, k3, hE1⟩ := bd1_e hE1 hN1
        refine k_call (va_runV (As := [.int (((r2).toUInt32 % 65536).toInt32)]) (rest := []) hcf (mX4_add l D cs ad N σh72 (((r2).toUInt32 % 65536).toInt32) σ3 k3) (kcX4_add htk (kw_565 htk) ⟨Nat.le_of_ble_eq_true rfl, Nat.le_of_ble_eq_true rfl⟩) ⟨k_blind, va_recv (ci := 4) (q0 := 4) hK hw.1 rfl rfl, k_pre hK hZ hw⟩ rfl rfl hl.1 rfl (lv_room (Nat.le_of_ble_eq_true rfl)) dX5_type_87 ⟨Nat.zero_le _, Nat.zero_le _⟩) hw (fun H locs hw => ?_)
        obtain ⟨x4, e_x4, hE1⟩ := k_lte hE1
        refine lv_iinc (k := 3) (v := x4) hx hb dX5_type_90 hl rfl (Eq.symm e_x4) (Nat.le_of_ble_eq_true rfl) rfl (fun ls (hl : lv_has ls 6 [(5, .int x4), (1, .long v1j40), (3, .int v3j40), (4, .ref (ad 4))]) => ?_)
        refine lv_goto (tgt := 72) hx hb dX5_type_93 (by decide) ?_
        exact hC1 _ hE1 H locs ls (lv_sub hl [1, 2, 3, 0] rfl) hw
    · have hE0 := ite_f hE0 c6
      exact rtsx hR hE0
  refine lv_lload_n hx hb dX5_type_0 rfl (lv_at hl 1 rfl) ?_
  obtain ⟨r1, k1, hE0⟩ := bd1_e hE0 hN0
  refine k_callP (va_runS (As := [.long p1]) (rest := []) hcf (mX5_charactersIn l D cs ad N σ p1 r1 k1) (kcX5_charactersIn htk (kw_477 htk) ⟨Nat.le_of_ble_eq_true rfl, Nat.le_of_ble_eq_true rfl⟩) ⟨k_blind, k_pre hK hZ hw⟩ rfl rfl hl.1 rfl (lv_room (Nat.le_of_ble_eq_true rfl)) dX5_type_1 ⟨Nat.zero_le _, Nat.zero_le _⟩) ?_
  refine lv_istore_n hx hb dX5_type_4 rfl hl (Nat.le_of_ble_eq_true rfl) rfl (fun ls (hl : lv_has ls 6 [(3, .int r1), (0, .ref (ad 0)), (1, .long p1)]) => ?_)
  refine lv_iconst (v := 0) hx hb dX5_type_5 rfl ?_
  refine lv_istore hx hb dX5_type_6 hl (Nat.le_of_ble_eq_true rfl) rfl (fun ls (hl : lv_has ls 6 [(4, .int (0 : Int32)), (3, .int r1), (0, .ref (ad 0)), (1, .long p1)]) => ?_)
  obtain ⟨q, hq, hE0, hT0⟩ := bds_e hE0 hN0
  refine k_ind (P := fun zz => ∀ (ls : Array Slot), lv_has ls 6 [(0, .ref (ad 0)), (1, .long p1), (3, .int r1), (4, .int zz)] → W p l e rmX5_type s m args below meth c s.heap [] 0 0 Q0 (F0 m 8 ls [])) ?_ N _ hq ls (lv_sub hl [2, 3, 1, 0] rfl)
  intro sX T1 hE1 hN1 hC1 hX1
  obtain ⟨v4h8, hsg⟩ : ∃ z, z = sX := ⟨_, rfl⟩
  subst hsg
  replace hE1 : T1 = bX5_type_8 N σ p1 r1 v4h8 := hE1
  unfold bX5_type_8 at hE1
  intro ls hl
  replace hl : lv_has ls 6 [(0, .ref (ad 0)), (1, .long p1), (3, .int r1), (4, .int v4h8)] := hl
  refine lv_iload hx hb dX5_type_8 (lv_at hl 3 rfl) ?_
  refine lv_iload_n hx hb dX5_type_10 rfl (lv_at hl 2 rfl) ?_
  refine lv_icmp_ge (tgt := 40) hx hb dX5_type_11 (by decide) (fun c11 => ?_) (fun c11 => ?_)
  · have hE1 := ite_t hE1 c11
    have hq := hX1 _ hE1
    subst hq
    exact J40 p1 r1 ls (lv_sub hl [0, 1, 2] rfl) (hE0 _ rfl)
  · have hE1 := ite_f hE1 c11
    refine lv_lload_n hx hb dX5_type_14 rfl (lv_at hl 1 rfl) ?_
    refine lv_iload hx hb dX5_type_15 (lv_at hl 3 rfl) ?_
    obtain ⟨r7, k7, hE1⟩ := bd1_e hE1 hN1
    refine k_callP (va_runS (As := [.long p1, .int v4h8]) (rest := []) hcf (mX5_byteOf l D cs ad N σ p1 v4h8 r7 k7) (kcX5_byteOf htk (kw_480 htk) ⟨Nat.le_of_ble_eq_true rfl, Nat.le_of_ble_eq_true rfl⟩) ⟨k_blind, k_pre hK hZ hw⟩ rfl rfl hl.1 rfl (lv_room (Nat.le_of_ble_eq_true rfl)) dX5_type_17 ⟨Nat.zero_le _, Nat.zero_le _⟩) ?_
    obtain ⟨r8, k8, hE1⟩ := bd1_e hE1 hN1
    refine k_callP (va_runS (As := [.int r7]) (rest := []) hcf (mX5_isPrintable l D cs ad N σ r7 r8 k8) (kcX5_isPrintable htk (kw_483 htk) ⟨Nat.le_of_ble_eq_true rfl, Nat.le_of_ble_eq_true rfl⟩) ⟨k_blind, k_pre hK hZ hw⟩ rfl rfl hl.1 rfl (lv_room (Nat.le_of_ble_eq_true rfl)) dX5_type_20 ⟨Nat.zero_le _, Nat.zero_le _⟩) ?_
    refine lv_if_ne (tgt := 34) hx hb dX5_type_23 (by decide) (fun c10 => ?_) (fun c10 => ?_)
    · have hE1 := ite_f hE1 c10
      obtain ⟨x9, e_x9, hE1⟩ := k_lte hE1
      refine lv_iinc (k := 3) (v := x9) hx hb dX5_type_34 hl rfl (Eq.symm e_x9) (Nat.le_of_ble_eq_true rfl) rfl (fun ls (hl : lv_has ls 6 [(4, .int x9), (0, .ref (ad 0)), (1, .long p1), (3, .int r1)]) => ?_)
      refine lv_goto (tgt := 8) hx hb dX5_type_37 (by decide) ?_
      exact hC1 _ hE1 ls (lv_sub hl [1, 2, 3, 0] rfl)
    · have hE1 := ite_t hE1 c10
      have hq := hX1 _ hE1
      subst hq
      exact rtsx hR (hT0 _ rfl)
abbrev rtX5_type : Room := { frames := 6, cells := 1, slots := 6, locals := 120 }
set_option maxRecDepth 100000 in
set_option maxHeartbeats 4000000 in
theorem tX5_type (l : Launch) (hfl : l.flags = flags0) (D : va_G) (cs : Nat → ClassId) (ad : Nat → Nat) (N : Nat) (σ : vS) (p1 : Int64) (n : Nat) (hf : fX5_type N σ p1 = some (.inr n)) : k_MT l yX5_type wsX5_type rtX5_type D (tK cs) (wK cs ad) [.ref (ad 0), .long p1] σ (kx_n n) := by
  refine k_ofT (A := (k_A 41 ad)) (cc := cX5_type) (maxL := 6) (ret := (some .int)) (by decide) rfl (Nat.le_of_ble_eq_true rfl) ?_
  intro p e s m args below meth c ls hcf hr hlk hK hZ hS hnh hl hw
  generalize hQ0 : k_TQ below (kx_n n) s = Q0
  obtain ⟨T0, hE0⟩ : ∃ T, T = fX5_type N σ p1 := ⟨_, rfl⟩
  have hR := hE0.trans hf
  have hN0 : T0 ≠ none := by rw [hR]; exact fun h => nomatch h
  have hx := hcf.1
  have hb := hcf.2.1
  have htk := hcf.2.2.2.2
  have hown := hcf.2.2.2.1
  unfold fX5_type at hE0
  replace hl : lv_has ls 6 [(0, .ref (ad 0)), (1, .long p1)] := hl
  have J96 : ∀ (σj96 : vS) (H : Heap) (locs : List Loc) (ls : Array Slot), lv_has ls 6 [(4, .ref (ad 4))] → k_H D (wK cs ad) (k_A 41 ad) σj96 s.heap H locs → T0 = jX5_type_96 N σj96 → W p l e rtX5_type s m args below meth c H locs 0 0 Q0 (F0 m 96 ls []) := by
    intro σj96 H locs ls hl hw hE0
    unfold jX5_type_96 at hE0
    refine lv_aload hx hb dX5_type_96 (lv_at hl 0 rfl) ?_
    refine kg_X4_length hcf hK (kw_91 htk) (x := (σj96.1 0)) dX5_type_98 hw rfl ?_
    exact rtsx hE0 hR
  have J40 : ∀ (v1j40 : Int64) (v3j40 : Int32) (ls : Array Slot), lv_has ls 6 [(0, .ref (ad 0)), (1, .long v1j40), (3, .int v3j40)] → T0 = jX5_type_40 N σ v1j40 v3j40 → W p l e rtX5_type s m args below meth c s.heap [] 0 0 Q0 (F0 m 40 ls []) := by
    intro v1j40 v3j40 ls hl hE0
    unfold jX5_type_40 at hE0
    refine lv_aload_n hx hb dX5_type_40 rfl (lv_at hl 0 rfl) ?_
    refine kg_X5_reader hcf hK (kw_239 htk) dX5_type_41 hw ?_
    refine kg_X3_text hcf hK (kw_151 htk) dX5_type_44 hw ?_
    refine lv_astore hx hb dX5_type_47 hl (Nat.le_of_ble_eq_true rfl) rfl (fun ls (hl : lv_has ls 6 [(4, .ref (ad 4)), (0, .ref (ad 0)), (1, .long v1j40), (3, .int v3j40)]) => ?_)
    refine lv_aload hx hb dX5_type_49 (lv_at hl 0 rfl) ?_
    refine kg_X4_length hcf hK (kw_91 htk) (x := (σ.1 0)) dX5_type_51 hw rfl ?_
    refine lv_iload_n hx hb dX5_type_54 rfl (lv_at hl 3 rfl) ?_
    refine lv_iadd hx hb dX5_type_55 ?_
    refine lv_bipush (v := 100) hx hb dX5_type_56 rfl ?_
    refine lv_icmp_le (tgt := 69) hx hb dX5_type_58 (by decide) (fun c6 => ?_) (fun c6 => ?_)
    · have hE0 := ite_t hE0 c6
      refine lv_iconst (v := 0) hx hb dX5_type_69 rfl ?_
      refine lv_istore hx hb dX5_type_70 hl (Nat.le_of_ble_eq_true rfl) rfl (fun ls (hl : lv_has ls 6 [(5, .int (0 : Int32)), (4, .ref (ad 4)), (0, .ref (ad 0)), (1, .long v1j40), (3, .int v3j40)]) => ?_)
      obtain ⟨q, hq, hE0⟩ := bd1_e hE0 hN0
      refine k_ind (P := fun zz => ∀ (H : Heap) (locs : List Loc) (ls : Array Slot), lv_has ls 6 [(1, .long v1j40), (3, .int v3j40), (4, .ref (ad 4)), (5, .int zz.1)] → k_H D (wK cs ad) (k_A 41 ad) zz.2 s.heap H locs → W p l e rtX5_type s m args below meth c H locs 0 0 Q0 (F0 m 72 ls [])) ?_ N _ hq s.heap [] ls (lv_sub hl [3, 4, 1, 0] rfl) hw
      intro sX T1 hE1 hN1 hC1 hX1
      obtain ⟨v5h72, σh72⟩ := sX
      replace hE1 : T1 = bX5_type_72 N v1j40 v3j40 v5h72 σh72 := hE1
      unfold bX5_type_72 at hE1
      intro H locs ls hl hw
      replace hl : lv_has ls 6 [(1, .long v1j40), (3, .int v3j40), (4, .ref (ad 4)), (5, .int v5h72)] := hl
      replace hw : k_H D (wK cs ad) (k_A 41 ad) σh72 s.heap H locs := hw
      refine lv_iload hx hb dX5_type_72 (lv_at hl 3 rfl) ?_
      refine lv_iload_n hx hb dX5_type_74 rfl (lv_at hl 1 rfl) ?_
      refine lv_icmp_ge (tgt := 96) hx hb dX5_type_75 (by decide) (fun c5 => ?_) (fun c5 => ?_)
      · have hE1 := ite_t hE1 c5
        have hq := hX1 _ hE1
        subst hq
        exact J96 σh72 H locs ls (lv_sub hl [2] rfl) hw hE0
      · have hE1 := ite_f hE1 c5
        refine lv_aload hx hb dX5_type_78 (lv_at hl 2 rfl) ?_
        refine lv_lload_n hx hb dX5_type_80 rfl (lv_at hl 0 rfl) ?_
        refine lv_iload hx hb dX5_type_81 (lv_at hl 3 rfl) ?_
        obtain ⟨r2, k2, hE1⟩ := bd1_e hE1 hN1
        refine k_callP (va_runS (As := [.long v1j40, .int v5h72]) (rest := [.ref (ad 4)]) hcf (mX5_byteOf l D cs ad N σh72 v1j40 v5h72 r2 k2) (kcX5_byteOf htk (kw_480 htk) ⟨Nat.le_of_ble_eq_true rfl, Nat.le_of_ble_eq_true rfl⟩) ⟨k_blind, k_pre hK hZ hw⟩ rfl rfl hl.1 rfl (lv_room (Nat.le_of_ble_eq_true rfl)) dX5_type_83 ⟨Nat.zero_le _, Nat.zero_le _⟩) ?_
        refine lv_i2c hx hb dX5_type_86 rfl ?_
        obtain ⟨σ3, k3, hE1⟩ := bd1_e hE1 hN1
        refine k_call (va_runV (As := [.int (((r2).toUInt32 % 65536).toInt32)]) (rest := []) hcf (mX4_add l D cs ad N σh72 (((r2).toUInt32 % 65536).toInt32) σ3 k3) (kcX4_add htk (kw_565 htk) ⟨Nat.le_of_ble_eq_true rfl, Nat.le_of_ble_eq_true rfl⟩) ⟨k_blind, va_recv (ci := 4) (q0 := 4) hK hw.1 rfl rfl, k_pre hK hZ hw⟩ rfl rfl hl.1 rfl (lv_room (Nat.le_of_ble_eq_true rfl)) dX5_type_87 ⟨Nat.zero_le _, Nat.zero_le _⟩) hw (fun H locs hw => ?_)
        obtain ⟨x4, e_x4, hE1⟩ := k_lte hE1
        refine lv_iinc (k := 3) (v := x4) hx hb dX5_type_90 hl rfl (Eq.symm e_x4) (Nat.le_of_ble_eq_true rfl) rfl (fun ls (hl : lv_has ls 6 [(5, .int x4), (1, .long v1j40), (3, .int v3j40), (4, .ref (ad 4))]) => ?_)
        refine lv_goto (tgt := 72) hx hb dX5_type_93 (by decide) ?_
        exact hC1 _ hE1 H locs ls (lv_sub hl [1, 2, 3, 0] rfl) hw
    · have hE0 := ite_f hE0 c6
      have hn := rtsn hR hE0
      subst hn
      subst hQ0
      exact k_throw hcf hfl hlk hZ hS hnh ka_X5_57 (by decide) (kw_550 htk) (kw_551 htk) (kw_63 htk) hl dX5_type_61 dX5_type_64 dX5_type_65 dX5_type_68 (Nat.le_of_ble_eq_true rfl) (Nat.le_of_ble_eq_true rfl) (Nat.le_of_ble_eq_true rfl) (Nat.le_of_ble_eq_true rfl)
  refine lv_lload_n hx hb dX5_type_0 rfl (lv_at hl 1 rfl) ?_
  obtain ⟨r1, k1, hE0⟩ := bd1_e hE0 hN0
  refine k_callP (va_runS (As := [.long p1]) (rest := []) hcf (mX5_charactersIn l D cs ad N σ p1 r1 k1) (kcX5_charactersIn htk (kw_477 htk) ⟨Nat.le_of_ble_eq_true rfl, Nat.le_of_ble_eq_true rfl⟩) ⟨k_blind, k_pre hK hZ hw⟩ rfl rfl hl.1 rfl (lv_room (Nat.le_of_ble_eq_true rfl)) dX5_type_1 ⟨Nat.zero_le _, Nat.zero_le _⟩) ?_
  refine lv_istore_n hx hb dX5_type_4 rfl hl (Nat.le_of_ble_eq_true rfl) rfl (fun ls (hl : lv_has ls 6 [(3, .int r1), (0, .ref (ad 0)), (1, .long p1)]) => ?_)
  refine lv_iconst (v := 0) hx hb dX5_type_5 rfl ?_
  refine lv_istore hx hb dX5_type_6 hl (Nat.le_of_ble_eq_true rfl) rfl (fun ls (hl : lv_has ls 6 [(4, .int (0 : Int32)), (3, .int r1), (0, .ref (ad 0)), (1, .long p1)]) => ?_)
  obtain ⟨q, hq, hE0, hT0⟩ := bds_e hE0 hN0
  refine k_ind (P := fun zz => ∀ (ls : Array Slot), lv_has ls 6 [(0, .ref (ad 0)), (1, .long p1), (3, .int r1), (4, .int zz)] → W p l e rtX5_type s m args below meth c s.heap [] 0 0 Q0 (F0 m 8 ls [])) ?_ N _ hq ls (lv_sub hl [2, 3, 1, 0] rfl)
  intro sX T1 hE1 hN1 hC1 hX1
  obtain ⟨v4h8, hsg⟩ : ∃ z, z = sX := ⟨_, rfl⟩
  subst hsg
  replace hE1 : T1 = bX5_type_8 N σ p1 r1 v4h8 := hE1
  unfold bX5_type_8 at hE1
  intro ls hl
  replace hl : lv_has ls 6 [(0, .ref (ad 0)), (1, .long p1), (3, .int r1), (4, .int v4h8)] := hl
  refine lv_iload hx hb dX5_type_8 (lv_at hl 3 rfl) ?_
  refine lv_iload_n hx hb dX5_type_10 rfl (lv_at hl 2 rfl) ?_
  refine lv_icmp_ge (tgt := 40) hx hb dX5_type_11 (by decide) (fun c11 => ?_) (fun c11 => ?_)
  · have hE1 := ite_t hE1 c11
    have hq := hX1 _ hE1
    subst hq
    exact J40 p1 r1 ls (lv_sub hl [0, 1, 2] rfl) (hE0 _ rfl)
  · have hE1 := ite_f hE1 c11
    refine lv_lload_n hx hb dX5_type_14 rfl (lv_at hl 1 rfl) ?_
    refine lv_iload hx hb dX5_type_15 (lv_at hl 3 rfl) ?_
    obtain ⟨r7, k7, hE1⟩ := bd1_e hE1 hN1
    refine k_callP (va_runS (As := [.long p1, .int v4h8]) (rest := []) hcf (mX5_byteOf l D cs ad N σ p1 v4h8 r7 k7) (kcX5_byteOf htk (kw_480 htk) ⟨Nat.le_of_ble_eq_true rfl, Nat.le_of_ble_eq_true rfl⟩) ⟨k_blind, k_pre hK hZ hw⟩ rfl rfl hl.1 rfl (lv_room (Nat.le_of_ble_eq_true rfl)) dX5_type_17 ⟨Nat.zero_le _, Nat.zero_le _⟩) ?_
    obtain ⟨r8, k8, hE1⟩ := bd1_e hE1 hN1
    refine k_callP (va_runS (As := [.int r7]) (rest := []) hcf (mX5_isPrintable l D cs ad N σ r7 r8 k8) (kcX5_isPrintable htk (kw_483 htk) ⟨Nat.le_of_ble_eq_true rfl, Nat.le_of_ble_eq_true rfl⟩) ⟨k_blind, k_pre hK hZ hw⟩ rfl rfl hl.1 rfl (lv_room (Nat.le_of_ble_eq_true rfl)) dX5_type_20 ⟨Nat.zero_le _, Nat.zero_le _⟩) ?_
    refine lv_if_ne (tgt := 34) hx hb dX5_type_23 (by decide) (fun c10 => ?_) (fun c10 => ?_)
    · have hE1 := ite_f hE1 c10
      obtain ⟨x9, e_x9, hE1⟩ := k_lte hE1
      refine lv_iinc (k := 3) (v := x9) hx hb dX5_type_34 hl rfl (Eq.symm e_x9) (Nat.le_of_ble_eq_true rfl) rfl (fun ls (hl : lv_has ls 6 [(4, .int x9), (0, .ref (ad 0)), (1, .long p1), (3, .int r1)]) => ?_)
      refine lv_goto (tgt := 8) hx hb dX5_type_37 (by decide) ?_
      exact hC1 _ hE1 ls (lv_sub hl [1, 2, 3, 0] rfl)
    · have hE1 := ite_t hE1 c10
      have hq := hX1 _ hE1
      subst hq
      have hn := rtsn hR (hT0 _ rfl)
      subst hn
      subst hQ0
      exact k_throw hcf hfl hlk hZ hS hnh ka_X5_44 (by decide) (kw_486 htk) (kw_487 htk) (kw_62 htk) hl dX5_type_26 dX5_type_29 dX5_type_30 dX5_type_33 (Nat.le_of_ble_eq_true rfl) (Nat.le_of_ble_eq_true rfl) (Nat.le_of_ble_eq_true rfl) (Nat.le_of_ble_eq_true rfl)
def fX5_name (N : Nat) (σ : vS) (p1 : Int32) : Option ((Int32) ⊕ Nat) :=
  bd1 (fX1_containsKind N σ p1) fun r1 =>
  if (r1 = 0) then (
    some (.inr 2)
  ) else (
    bd1 (fX1_kindName N σ p1) fun r2 =>
    some (.inl r2)
  )
abbrev rmX5_name : Room := { frames := 6, cells := 0, slots := 0, locals := 120 }
abbrev wsX5_name : List Cond := .code yX5_name cX5_name 2 (some .int) :: kws
theorem kcX5_name {R : Room} {s : State} {args : Array Value} {own : String} {index : Nat} (htk : ∀ w ∈ kws, w.before args s = true) (hl : (Cond.methodLink own index yX5_name).before args s = true) (hR : rmX5_name.frames + 1 ≤ R.frames ∧ 8 + (2 + 11) + rmX5_name.locals ≤ R.locals) : CallW R s args own RX5 index yX5_name cX5_name 2 (some .int) wsX5_name rmX5_name 0 0 1 :=
  ⟨callB_of 1 htk (k_good kc_576) rfl rfl rfl (kw_52 htk) hl (by decide +kernel) hR, (kw_574 htk), (kw_575 htk)⟩
set_option maxRecDepth 100000 in
set_option maxHeartbeats 4000000 in
theorem mX5_name (l : Launch) (D : va_G) (cs : Nat → ClassId) (ad : Nat → Nat) (N : Nat) (σ : vS) (p1 : Int32) (r : Int32) (hf : fX5_name N σ p1 = some (.inl r)) : k_MP l yX5_name wsX5_name rmX5_name D (tK cs) (wK cs ad) [.ref (ad 0), .int p1] σ (.int r) := by
  refine k_ofP (cc := cX5_name) (maxL := 2) (ret := (some .int)) (by decide) rfl (Nat.le_of_ble_eq_true rfl) ?_
  intro p e s m args below meth c ls hcf hr hlk hK hZ hl hw
  generalize hQ0 : MQ below _ args s 0 0 _ = Q0
  obtain ⟨T0, hE0⟩ : ∃ T, T = fX5_name N σ p1 := ⟨_, rfl⟩
  have hR := hE0.trans hf
  have hN0 : T0 ≠ none := by rw [hR]; exact fun h => nomatch h
  have hx := hcf.1
  have hb := hcf.2.1
  have htk := hcf.2.2.2.2
  have hown := hcf.2.2.2.1
  unfold fX5_name at hE0
  replace hl : lv_has ls 2 [(0, .ref (ad 0)), (1, .int p1)] := hl
  refine lv_aload_n hx hb dX5_name_0 rfl (lv_at hl 0 rfl) ?_
  refine kg_X5_reader hcf hK (kw_239 htk) dX5_name_1 hw ?_
  refine kg_X3_equation hcf hK (kw_153 htk) dX5_name_4 hw ?_
  refine lv_iload_n hx hb dX5_name_7 rfl (lv_at hl 1 rfl) ?_
  obtain ⟨r1, k1, hE0⟩ := bd1_e hE0 hN0
  refine k_callP (va_runV (As := [.int p1]) (rest := []) hcf (mX1_containsKind l D cs ad N σ p1 r1 k1) (kcX1_containsKind htk (kw_577 htk) ⟨Nat.le_of_ble_eq_true rfl, Nat.le_of_ble_eq_true rfl⟩) ⟨k_blind, va_recv (ci := 1) (q0 := 5) hK hw.1 rfl rfl, k_pre hK hZ hw⟩ rfl rfl hl.1 rfl (lv_room (Nat.le_of_ble_eq_true rfl)) dX5_name_8 ⟨Nat.zero_le _, Nat.zero_le _⟩) ?_
  refine lv_if_ne (tgt := 22) hx hb dX5_name_11 (by decide) (fun c3 => ?_) (fun c3 => ?_)
  · have hE0 := ite_f hE0 c3
    refine lv_aload_n hx hb dX5_name_22 rfl (lv_at hl 0 rfl) ?_
    refine kg_X5_reader hcf hK (kw_239 htk) dX5_name_23 hw ?_
    refine kg_X3_equation hcf hK (kw_153 htk) dX5_name_26 hw ?_
    refine lv_iload_n hx hb dX5_name_29 rfl (lv_at hl 1 rfl) ?_
    obtain ⟨r2, k2, hE0⟩ := bd1_e hE0 hN0
    refine k_callP (va_runV (As := [.int p1]) (rest := []) hcf (mX1_kindName l D cs ad N σ p1 r2 k2) (kcX1_kindName htk (kw_596 htk) ⟨Nat.le_of_ble_eq_true rfl, Nat.le_of_ble_eq_true rfl⟩) ⟨k_blind, va_recv (ci := 1) (q0 := 5) hK hw.1 rfl rfl, k_pre hK hZ hw⟩ rfl rfl hl.1 rfl (lv_room (Nat.le_of_ble_eq_true rfl)) dX5_name_30 ⟨Nat.zero_le _, Nat.zero_le _⟩) ?_
    exact kretP_i hcf hr hlk hK hw (rts1 hR hE0) hQ0 dX5_name_33
  · have hE0 := ite_t hE0 c3
    exact rtsx hR hE0
abbrev rtX5_name : Room := { frames := 6, cells := 1, slots := 6, locals := 120 }
set_option maxRecDepth 100000 in
set_option maxHeartbeats 4000000 in
theorem tX5_name (l : Launch) (hfl : l.flags = flags0) (D : va_G) (cs : Nat → ClassId) (ad : Nat → Nat) (N : Nat) (σ : vS) (p1 : Int32) (n : Nat) (hf : fX5_name N σ p1 = some (.inr n)) : k_MT l yX5_name wsX5_name rtX5_name D (tK cs) (wK cs ad) [.ref (ad 0), .int p1] σ (kx_n n) := by
  refine k_ofT (A := fun _ => False) (cc := cX5_name) (maxL := 2) (ret := (some .int)) (by decide) rfl (Nat.le_of_ble_eq_true rfl) ?_
  intro p e s m args below meth c ls hcf hr hlk hK hZ hS hnh hl hw
  generalize hQ0 : k_TQ below (kx_n n) s = Q0
  obtain ⟨T0, hE0⟩ : ∃ T, T = fX5_name N σ p1 := ⟨_, rfl⟩
  have hR := hE0.trans hf
  have hN0 : T0 ≠ none := by rw [hR]; exact fun h => nomatch h
  have hx := hcf.1
  have hb := hcf.2.1
  have htk := hcf.2.2.2.2
  have hown := hcf.2.2.2.1
  unfold fX5_name at hE0
  replace hl : lv_has ls 2 [(0, .ref (ad 0)), (1, .int p1)] := hl
  refine lv_aload_n hx hb dX5_name_0 rfl (lv_at hl 0 rfl) ?_
  refine kg_X5_reader hcf hK (kw_239 htk) dX5_name_1 hw ?_
  refine kg_X3_equation hcf hK (kw_153 htk) dX5_name_4 hw ?_
  refine lv_iload_n hx hb dX5_name_7 rfl (lv_at hl 1 rfl) ?_
  obtain ⟨r1, k1, hE0⟩ := bd1_e hE0 hN0
  refine k_callP (va_runV (As := [.int p1]) (rest := []) hcf (mX1_containsKind l D cs ad N σ p1 r1 k1) (kcX1_containsKind htk (kw_577 htk) ⟨Nat.le_of_ble_eq_true rfl, Nat.le_of_ble_eq_true rfl⟩) ⟨k_blind, va_recv (ci := 1) (q0 := 5) hK hw.1 rfl rfl, k_pre hK hZ hw⟩ rfl rfl hl.1 rfl (lv_room (Nat.le_of_ble_eq_true rfl)) dX5_name_8 ⟨Nat.zero_le _, Nat.zero_le _⟩) ?_
  refine lv_if_ne (tgt := 22) hx hb dX5_name_11 (by decide) (fun c3 => ?_) (fun c3 => ?_)
  · have hE0 := ite_f hE0 c3
    refine lv_aload_n hx hb dX5_name_22 rfl (lv_at hl 0 rfl) ?_
    refine kg_X5_reader hcf hK (kw_239 htk) dX5_name_23 hw ?_
    refine kg_X3_equation hcf hK (kw_153 htk) dX5_name_26 hw ?_
    refine lv_iload_n hx hb dX5_name_29 rfl (lv_at hl 1 rfl) ?_
    obtain ⟨r2, k2, hE0⟩ := bd1_e hE0 hN0
    refine k_callP (va_runV (As := [.int p1]) (rest := []) hcf (mX1_kindName l D cs ad N σ p1 r2 k2) (kcX1_kindName htk (kw_596 htk) ⟨Nat.le_of_ble_eq_true rfl, Nat.le_of_ble_eq_true rfl⟩) ⟨k_blind, va_recv (ci := 1) (q0 := 5) hK hw.1 rfl rfl, k_pre hK hZ hw⟩ rfl rfl hl.1 rfl (lv_room (Nat.le_of_ble_eq_true rfl)) dX5_name_30 ⟨Nat.zero_le _, Nat.zero_le _⟩) ?_
    exact rtsx hE0 hR
  · have hE0 := ite_t hE0 c3
    have hn := rtsn hR hE0
    subst hn
    subst hQ0
    exact k_throw hcf hfl hlk hZ hS hnh ka_X5_114 (by decide) (kw_581 htk) (kw_582 htk) (kw_66 htk) hl dX5_name_14 dX5_name_17 dX5_name_18 dX5_name_21 (Nat.le_of_ble_eq_true rfl) (Nat.le_of_ble_eq_true rfl) (Nat.le_of_ble_eq_true rfl) (Nat.le_of_ble_eq_true rfl)
def fX5_has (N : Nat) (σ : vS) (p1 : Int32) (p2 : Int32) : Option ((Int32) ⊕ Nat) :=
  bd1 (fX1_containsFormula N σ p1) fun r1 =>
  if (r1 = 0) then (
    some (.inr 2)
  ) else (
    bd1 (fX1_containsKind N σ p2) fun r2 =>
    if (r2 = 0) then (
      some (.inr 2)
    ) else (
      bd1 (fX1_amount N σ p1 p2) fun r3 =>
      some (.inl r3)
    )
  )
abbrev rmX5_has : Room := { frames := 6, cells := 0, slots := 0, locals := 120 }
abbrev wsX5_has : List Cond := .code yX5_has cX5_has 3 (some .int) :: kws
theorem kcX5_has {R : Room} {s : State} {args : Array Value} {own : String} {index : Nat} (htk : ∀ w ∈ kws, w.before args s = true) (hl : (Cond.methodLink own index yX5_has).before args s = true) (hR : rmX5_has.frames + 1 ≤ R.frames ∧ 8 + (3 + 11) + rmX5_has.locals ≤ R.locals) : CallW R s args own RX5 index yX5_has cX5_has 3 (some .int) wsX5_has rmX5_has 0 0 2 :=
  ⟨callB_of 2 htk (k_good kc_606) rfl rfl rfl (kw_52 htk) hl (by decide +kernel) hR, (kw_604 htk), (kw_605 htk)⟩
set_option maxRecDepth 100000 in
set_option maxHeartbeats 4000000 in
theorem mX5_has (l : Launch) (D : va_G) (cs : Nat → ClassId) (ad : Nat → Nat) (N : Nat) (σ : vS) (p1 : Int32) (p2 : Int32) (r : Int32) (hf : fX5_has N σ p1 p2 = some (.inl r)) : k_MP l yX5_has wsX5_has rmX5_has D (tK cs) (wK cs ad) [.ref (ad 0), .int p1, .int p2] σ (.int r) := by
  refine k_ofP (cc := cX5_has) (maxL := 3) (ret := (some .int)) (by decide) rfl (Nat.le_of_ble_eq_true rfl) ?_
  intro p e s m args below meth c ls hcf hr hlk hK hZ hl hw
  generalize hQ0 : MQ below _ args s 0 0 _ = Q0
  obtain ⟨T0, hE0⟩ : ∃ T, T = fX5_has N σ p1 p2 := ⟨_, rfl⟩
  have hR := hE0.trans hf
  have hN0 : T0 ≠ none := by rw [hR]; exact fun h => nomatch h
  have hx := hcf.1
  have hb := hcf.2.1
  have htk := hcf.2.2.2.2
  have hown := hcf.2.2.2.1
  unfold fX5_has at hE0
  replace hl : lv_has ls 3 [(0, .ref (ad 0)), (1, .int p1), (2, .int p2)] := hl
  refine lv_aload_n hx hb dX5_has_0 rfl (lv_at hl 0 rfl) ?_
  refine kg_X5_reader hcf hK (kw_239 htk) dX5_has_1 hw ?_
  refine kg_X3_equation hcf hK (kw_153 htk) dX5_has_4 hw ?_
  refine lv_iload_n hx hb dX5_has_7 rfl (lv_at hl 1 rfl) ?_
  obtain ⟨r1, k1, hE0⟩ := bd1_e hE0 hN0
  refine k_callP (va_runV (As := [.int p1]) (rest := []) hcf (mX1_containsFormula l D cs ad N σ p1 r1 k1) (kcX1_containsFormula htk (kw_607 htk) ⟨Nat.le_of_ble_eq_true rfl, Nat.le_of_ble_eq_true rfl⟩) ⟨k_blind, va_recv (ci := 1) (q0 := 5) hK hw.1 rfl rfl, k_pre hK hZ hw⟩ rfl rfl hl.1 rfl (lv_room (Nat.le_of_ble_eq_true rfl)) dX5_has_8 ⟨Nat.zero_le _, Nat.zero_le _⟩) ?_
  refine lv_if_eq (tgt := 28) hx hb dX5_has_11 (by decide) (fun c5 => ?_) (fun c5 => ?_)
  · have hE0 := ite_t hE0 c5
    exact rtsx hR hE0
  · have hE0 := ite_f hE0 c5
    refine lv_aload_n hx hb dX5_has_14 rfl (lv_at hl 0 rfl) ?_
    refine kg_X5_reader hcf hK (kw_239 htk) dX5_has_15 hw ?_
    refine kg_X3_equation hcf hK (kw_153 htk) dX5_has_18 hw ?_
    refine lv_iload_n hx hb dX5_has_21 rfl (lv_at hl 2 rfl) ?_
    obtain ⟨r2, k2, hE0⟩ := bd1_e hE0 hN0
    refine k_callP (va_runV (As := [.int p2]) (rest := []) hcf (mX1_containsKind l D cs ad N σ p2 r2 k2) (kcX1_containsKind htk (kw_577 htk) ⟨Nat.le_of_ble_eq_true rfl, Nat.le_of_ble_eq_true rfl⟩) ⟨k_blind, va_recv (ci := 1) (q0 := 5) hK hw.1 rfl rfl, k_pre hK hZ hw⟩ rfl rfl hl.1 rfl (lv_room (Nat.le_of_ble_eq_true rfl)) dX5_has_22 ⟨Nat.zero_le _, Nat.zero_le _⟩) ?_
    refine lv_if_ne (tgt := 36) hx hb dX5_has_25 (by decide) (fun c4 => ?_) (fun c4 => ?_)
    · have hE0 := ite_f hE0 c4
      refine lv_aload_n hx hb dX5_has_36 rfl (lv_at hl 0 rfl) ?_
      refine kg_X5_reader hcf hK (kw_239 htk) dX5_has_37 hw ?_
      refine kg_X3_equation hcf hK (kw_153 htk) dX5_has_40 hw ?_
      refine lv_iload_n hx hb dX5_has_43 rfl (lv_at hl 1 rfl) ?_
      refine lv_iload_n hx hb dX5_has_44 rfl (lv_at hl 2 rfl) ?_
      obtain ⟨r3, k3, hE0⟩ := bd1_e hE0 hN0
      refine k_callP (va_runV (As := [.int p1, .int p2]) (rest := []) hcf (mX1_amount l D cs ad N σ p1 p2 r3 k3) (kcX1_amount htk (kw_608 htk) ⟨Nat.le_of_ble_eq_true rfl, Nat.le_of_ble_eq_true rfl⟩) ⟨k_blind, va_recv (ci := 1) (q0 := 5) hK hw.1 rfl rfl, k_pre hK hZ hw⟩ rfl rfl hl.1 rfl (lv_room (Nat.le_of_ble_eq_true rfl)) dX5_has_45 ⟨Nat.zero_le _, Nat.zero_le _⟩) ?_
      exact kretP_i hcf hr hlk hK hw (rts1 hR hE0) hQ0 dX5_has_48
    · have hE0 := ite_t hE0 c4
      exact rtsx hR hE0
abbrev rtX5_has : Room := { frames := 6, cells := 1, slots := 6, locals := 120 }
set_option maxRecDepth 100000 in
set_option maxHeartbeats 4000000 in
theorem tX5_has (l : Launch) (hfl : l.flags = flags0) (D : va_G) (cs : Nat → ClassId) (ad : Nat → Nat) (N : Nat) (σ : vS) (p1 : Int32) (p2 : Int32) (n : Nat) (hf : fX5_has N σ p1 p2 = some (.inr n)) : k_MT l yX5_has wsX5_has rtX5_has D (tK cs) (wK cs ad) [.ref (ad 0), .int p1, .int p2] σ (kx_n n) := by
  refine k_ofT (A := fun _ => False) (cc := cX5_has) (maxL := 3) (ret := (some .int)) (by decide) rfl (Nat.le_of_ble_eq_true rfl) ?_
  intro p e s m args below meth c ls hcf hr hlk hK hZ hS hnh hl hw
  generalize hQ0 : k_TQ below (kx_n n) s = Q0
  obtain ⟨T0, hE0⟩ : ∃ T, T = fX5_has N σ p1 p2 := ⟨_, rfl⟩
  have hR := hE0.trans hf
  have hN0 : T0 ≠ none := by rw [hR]; exact fun h => nomatch h
  have hx := hcf.1
  have hb := hcf.2.1
  have htk := hcf.2.2.2.2
  have hown := hcf.2.2.2.1
  unfold fX5_has at hE0
  replace hl : lv_has ls 3 [(0, .ref (ad 0)), (1, .int p1), (2, .int p2)] := hl
  refine lv_aload_n hx hb dX5_has_0 rfl (lv_at hl 0 rfl) ?_
  refine kg_X5_reader hcf hK (kw_239 htk) dX5_has_1 hw ?_
  refine kg_X3_equation hcf hK (kw_153 htk) dX5_has_4 hw ?_
  refine lv_iload_n hx hb dX5_has_7 rfl (lv_at hl 1 rfl) ?_
  obtain ⟨r1, k1, hE0⟩ := bd1_e hE0 hN0
  refine k_callP (va_runV (As := [.int p1]) (rest := []) hcf (mX1_containsFormula l D cs ad N σ p1 r1 k1) (kcX1_containsFormula htk (kw_607 htk) ⟨Nat.le_of_ble_eq_true rfl, Nat.le_of_ble_eq_true rfl⟩) ⟨k_blind, va_recv (ci := 1) (q0 := 5) hK hw.1 rfl rfl, k_pre hK hZ hw⟩ rfl rfl hl.1 rfl (lv_room (Nat.le_of_ble_eq_true rfl)) dX5_has_8 ⟨Nat.zero_le _, Nat.zero_le _⟩) ?_
  refine lv_if_eq (tgt := 28) hx hb dX5_has_11 (by decide) (fun c5 => ?_) (fun c5 => ?_)
  · have hE0 := ite_t hE0 c5
    have hn := rtsn hR hE0
    subst hn
    subst hQ0
    exact k_throw hcf hfl hlk hZ hS hnh ka_X5_114 (by decide) (kw_581 htk) (kw_582 htk) (kw_66 htk) hl dX5_has_28 dX5_has_31 dX5_has_32 dX5_has_35 (Nat.le_of_ble_eq_true rfl) (Nat.le_of_ble_eq_true rfl) (Nat.le_of_ble_eq_true rfl) (Nat.le_of_ble_eq_true rfl)
  · have hE0 := ite_f hE0 c5
    refine lv_aload_n hx hb dX5_has_14 rfl (lv_at hl 0 rfl) ?_
    refine kg_X5_reader hcf hK (kw_239 htk) dX5_has_15 hw ?_
    refine kg_X3_equation hcf hK (kw_153 htk) dX5_has_18 hw ?_
    refine lv_iload_n hx hb dX5_has_21 rfl (lv_at hl 2 rfl) ?_
    obtain ⟨r2, k2, hE0⟩ := bd1_e hE0 hN0
    refine k_callP (va_runV (As := [.int p2]) (rest := []) hcf (mX1_containsKind l D cs ad N σ p2 r2 k2) (kcX1_containsKind htk (kw_577 htk) ⟨Nat.le_of_ble_eq_true rfl, Nat.le_of_ble_eq_true rfl⟩) ⟨k_blind, va_recv (ci := 1) (q0 := 5) hK hw.1 rfl rfl, k_pre hK hZ hw⟩ rfl rfl hl.1 rfl (lv_room (Nat.le_of_ble_eq_true rfl)) dX5_has_22 ⟨Nat.zero_le _, Nat.zero_le _⟩) ?_
    refine lv_if_ne (tgt := 36) hx hb dX5_has_25 (by decide) (fun c4 => ?_) (fun c4 => ?_)
    · have hE0 := ite_f hE0 c4
      refine lv_aload_n hx hb dX5_has_36 rfl (lv_at hl 0 rfl) ?_
      refine kg_X5_reader hcf hK (kw_239 htk) dX5_has_37 hw ?_
      refine kg_X3_equation hcf hK (kw_153 htk) dX5_has_40 hw ?_
      refine lv_iload_n hx hb dX5_has_43 rfl (lv_at hl 1 rfl) ?_
      refine lv_iload_n hx hb dX5_has_44 rfl (lv_at hl 2 rfl) ?_
      obtain ⟨r3, k3, hE0⟩ := bd1_e hE0 hN0
      refine k_callP (va_runV (As := [.int p1, .int p2]) (rest := []) hcf (mX1_amount l D cs ad N σ p1 p2 r3 k3) (kcX1_amount htk (kw_608 htk) ⟨Nat.le_of_ble_eq_true rfl, Nat.le_of_ble_eq_true rfl⟩) ⟨k_blind, va_recv (ci := 1) (q0 := 5) hK hw.1 rfl rfl, k_pre hK hZ hw⟩ rfl rfl hl.1 rfl (lv_room (Nat.le_of_ble_eq_true rfl)) dX5_has_45 ⟨Nat.zero_le _, Nat.zero_le _⟩) ?_
      exact rtsx hE0 hR
    · have hE0 := ite_t hE0 c4
      have hn := rtsn hR hE0
      subst hn
      subst hQ0
      exact k_throw hcf hfl hlk hZ hS hnh ka_X5_114 (by decide) (kw_581 htk) (kw_582 htk) (kw_66 htk) hl dX5_has_28 dX5_has_31 dX5_has_32 dX5_has_35 (Nat.le_of_ble_eq_true rfl) (Nat.le_of_ble_eq_true rfl) (Nat.le_of_ble_eq_true rfl) (Nat.le_of_ble_eq_true rfl)
def fX5_product (N : Nat) (σ : vS) (p1 : Int32) : Option ((Int32) ⊕ Nat) :=
  bd1 (fX1_containsFormula N σ p1) fun r1 =>
  if (r1 = 0) then (
    some (.inr 2)
  ) else (
    bd1 (fX1_isProduct N σ p1) fun r2 =>
    if ¬ (r2 &&& 1 = r2) then none else
    some (.inl r2)
  )
abbrev rmX5_product : Room := { frames := 6, cells := 0, slots := 0, locals := 120 }
abbrev wsX5_product : List Cond := .code yX5_product cX5_product 2 (some .boolean) :: kws
theorem kcX5_product {R : Room} {s : State} {args : Array Value} {own : String} {index : Nat} (htk : ∀ w ∈ kws, w.before args s = true) (hl : (Cond.methodLink own index yX5_product).before args s = true) (hR : rmX5_product.frames + 1 ≤ R.frames ∧ 8 + (2 + 11) + rmX5_product.locals ≤ R.locals) : CallW R s args own RX5 index yX5_product cX5_product 2 (some .boolean) wsX5_product rmX5_product 0 0 1 :=
  ⟨callB_of 1 htk (k_good kc_615) rfl rfl rfl (kw_52 htk) hl (by decide +kernel) hR, (kw_613 htk), (kw_614 htk)⟩
set_option maxRecDepth 100000 in
set_option maxHeartbeats 4000000 in
theorem mX5_product (l : Launch) (D : va_G) (cs : Nat → ClassId) (ad : Nat → Nat) (N : Nat) (σ : vS) (p1 : Int32) (r : Int32) (hf : fX5_product N σ p1 = some (.inl r)) : k_MP l yX5_product wsX5_product rmX5_product D (tK cs) (wK cs ad) [.ref (ad 0), .int p1] σ (.int r) := by
  refine k_ofP (cc := cX5_product) (maxL := 2) (ret := (some .boolean)) (by decide) rfl (Nat.le_of_ble_eq_true rfl) ?_
  intro p e s m args below meth c ls hcf hr hlk hK hZ hl hw
  generalize hQ0 : MQ below _ args s 0 0 _ = Q0
  obtain ⟨T0, hE0⟩ : ∃ T, T = fX5_product N σ p1 := ⟨_, rfl⟩
  have hR := hE0.trans hf
  have hN0 : T0 ≠ none := by rw [hR]; exact fun h => nomatch h
  have hx := hcf.1
  have hb := hcf.2.1
  have htk := hcf.2.2.2.2
  have hown := hcf.2.2.2.1
  unfold fX5_product at hE0
  replace hl : lv_has ls 2 [(0, .ref (ad 0)), (1, .int p1)] := hl
  refine lv_aload_n hx hb dX5_product_0 rfl (lv_at hl 0 rfl) ?_
  refine kg_X5_reader hcf hK (kw_239 htk) dX5_product_1 hw ?_
  refine kg_X3_equation hcf hK (kw_153 htk) dX5_product_4 hw ?_
  refine lv_iload_n hx hb dX5_product_7 rfl (lv_at hl 1 rfl) ?_
  obtain ⟨r1, k1, hE0⟩ := bd1_e hE0 hN0
  refine k_callP (va_runV (As := [.int p1]) (rest := []) hcf (mX1_containsFormula l D cs ad N σ p1 r1 k1) (kcX1_containsFormula htk (kw_607 htk) ⟨Nat.le_of_ble_eq_true rfl, Nat.le_of_ble_eq_true rfl⟩) ⟨k_blind, va_recv (ci := 1) (q0 := 5) hK hw.1 rfl rfl, k_pre hK hZ hw⟩ rfl rfl hl.1 rfl (lv_room (Nat.le_of_ble_eq_true rfl)) dX5_product_8 ⟨Nat.zero_le _, Nat.zero_le _⟩) ?_
  refine lv_if_ne (tgt := 22) hx hb dX5_product_11 (by decide) (fun c4 => ?_) (fun c4 => ?_)
  · have hE0 := ite_f hE0 c4
    refine lv_aload_n hx hb dX5_product_22 rfl (lv_at hl 0 rfl) ?_
    refine kg_X5_reader hcf hK (kw_239 htk) dX5_product_23 hw ?_
    refine kg_X3_equation hcf hK (kw_153 htk) dX5_product_26 hw ?_
    refine lv_iload_n hx hb dX5_product_29 rfl (lv_at hl 1 rfl) ?_
    obtain ⟨r2, k2, hE0⟩ := bd1_e hE0 hN0
    refine k_callP (va_runV (As := [.int p1]) (rest := []) hcf (mX1_isProduct l D cs ad N σ p1 r2 k2) (kcX1_isProduct htk (kw_616 htk) ⟨Nat.le_of_ble_eq_true rfl, Nat.le_of_ble_eq_true rfl⟩) ⟨k_blind, va_recv (ci := 1) (q0 := 5) hK hw.1 rfl rfl, k_pre hK hZ hw⟩ rfl rfl hl.1 rfl (lv_room (Nat.le_of_ble_eq_true rfl)) dX5_product_30 ⟨Nat.zero_le _, Nat.zero_le _⟩) ?_
    obtain ⟨g3, hE0⟩ := gd_e hE0 hN0
    exact kretP_z hcf hr hlk hK hw (rts1 hR hE0) hQ0 (nr_b g3) dX5_product_33
  · have hE0 := ite_t hE0 c4
    exact rtsx hR hE0
abbrev rtX5_product : Room := { frames := 6, cells := 1, slots := 6, locals := 120 }
set_option maxRecDepth 100000 in
set_option maxHeartbeats 4000000 in
theorem tX5_product (l : Launch) (hfl : l.flags = flags0) (D : va_G) (cs : Nat → ClassId) (ad : Nat → Nat) (N : Nat) (σ : vS) (p1 : Int32) (n : Nat) (hf : fX5_product N σ p1 = some (.inr n)) : k_MT l yX5_product wsX5_product rtX5_product D (tK cs) (wK cs ad) [.ref (ad 0), .int p1] σ (kx_n n) := by
  refine k_ofT (A := fun _ => False) (cc := cX5_product) (maxL := 2) (ret := (some .boolean)) (by decide) rfl (Nat.le_of_ble_eq_true rfl) ?_
  intro p e s m args below meth c ls hcf hr hlk hK hZ hS hnh hl hw
  generalize hQ0 : k_TQ below (kx_n n) s = Q0
  obtain ⟨T0, hE0⟩ : ∃ T, T = fX5_product N σ p1 := ⟨_, rfl⟩
  have hR := hE0.trans hf
  have hN0 : T0 ≠ none := by rw [hR]; exact fun h => nomatch h
  have hx := hcf.1
  have hb := hcf.2.1
  have htk := hcf.2.2.2.2
  have hown := hcf.2.2.2.1
  unfold fX5_product at hE0
  replace hl : lv_has ls 2 [(0, .ref (ad 0)), (1, .int p1)] := hl
  refine lv_aload_n hx hb dX5_product_0 rfl (lv_at hl 0 rfl) ?_
  refine kg_X5_reader hcf hK (kw_239 htk) dX5_product_1 hw ?_
  refine kg_X3_equation hcf hK (kw_153 htk) dX5_product_4 hw ?_
  refine lv_iload_n hx hb dX5_product_7 rfl (lv_at hl 1 rfl) ?_
  obtain ⟨r1, k1, hE0⟩ := bd1_e hE0 hN0
  refine k_callP (va_runV (As := [.int p1]) (rest := []) hcf (mX1_containsFormula l D cs ad N σ p1 r1 k1) (kcX1_containsFormula htk (kw_607 htk) ⟨Nat.le_of_ble_eq_true rfl, Nat.le_of_ble_eq_true rfl⟩) ⟨k_blind, va_recv (ci := 1) (q0 := 5) hK hw.1 rfl rfl, k_pre hK hZ hw⟩ rfl rfl hl.1 rfl (lv_room (Nat.le_of_ble_eq_true rfl)) dX5_product_8 ⟨Nat.zero_le _, Nat.zero_le _⟩) ?_
  refine lv_if_ne (tgt := 22) hx hb dX5_product_11 (by decide) (fun c4 => ?_) (fun c4 => ?_)
  · have hE0 := ite_f hE0 c4
    refine lv_aload_n hx hb dX5_product_22 rfl (lv_at hl 0 rfl) ?_
    refine kg_X5_reader hcf hK (kw_239 htk) dX5_product_23 hw ?_
    refine kg_X3_equation hcf hK (kw_153 htk) dX5_product_26 hw ?_
    refine lv_iload_n hx hb dX5_product_29 rfl (lv_at hl 1 rfl) ?_
    obtain ⟨r2, k2, hE0⟩ := bd1_e hE0 hN0
    refine k_callP (va_runV (As := [.int p1]) (rest := []) hcf (mX1_isProduct l D cs ad N σ p1 r2 k2) (kcX1_isProduct htk (kw_616 htk) ⟨Nat.le_of_ble_eq_true rfl, Nat.le_of_ble_eq_true rfl⟩) ⟨k_blind, va_recv (ci := 1) (q0 := 5) hK hw.1 rfl rfl, k_pre hK hZ hw⟩ rfl rfl hl.1 rfl (lv_room (Nat.le_of_ble_eq_true rfl)) dX5_product_30 ⟨Nat.zero_le _, Nat.zero_le _⟩) ?_
    obtain ⟨g3, hE0⟩ := gd_e hE0 hN0
    exact rtsx hE0 hR
  · have hE0 := ite_t hE0 c4
    have hn := rtsn hR hE0
    subst hn
    subst hQ0
    exact k_throw hcf hfl hlk hZ hS hnh ka_X5_114 (by decide) (kw_581 htk) (kw_582 htk) (kw_66 htk) hl dX5_product_14 dX5_product_17 dX5_product_18 dX5_product_21 (Nat.le_of_ble_eq_true rfl) (Nat.le_of_ble_eq_true rfl) (Nat.le_of_ble_eq_true rfl) (Nat.le_of_ble_eq_true rfl)
def fX5_free (N : Nat) (σ : vS) (p1 : Int32) : Option ((Int32) ⊕ Nat) :=
  bd1 (fX1_containsFormula N σ p1) fun r1 =>
  if (r1 = 0) then (
    some (.inr 2)
  ) else (
    if (p1 < 0 ∨ 6 ≤ (p1).toNatClampNeg) then none else
    if ¬ ((σ.2.1 6 ((p1).toNatClampNeg)) &&& 1 = (σ.2.1 6 ((p1).toNatClampNeg))) then none else
    some (.inl (σ.2.1 6 ((p1).toNatClampNeg)))
  )
abbrev rmX5_free : Room := { frames := 6, cells := 0, slots := 0, locals := 120 }
abbrev wsX5_free : List Cond := .code yX5_free cX5_free 2 (some .boolean) :: kws
theorem kcX5_free {R : Room} {s : State} {args : Array Value} {own : String} {index : Nat} (htk : ∀ w ∈ kws, w.before args s = true) (hl : (Cond.methodLink own index yX5_free).before args s = true) (hR : rmX5_free.frames + 1 ≤ R.frames ∧ 8 + (2 + 11) + rmX5_free.locals ≤ R.locals) : CallW R s args own RX5 index yX5_free cX5_free 2 (some .boolean) wsX5_free rmX5_free 0 0 1 :=
  ⟨callB_of 1 htk (k_good kc_623) rfl rfl rfl (kw_52 htk) hl (by decide +kernel) hR, (kw_621 htk), (kw_622 htk)⟩
set_option maxRecDepth 100000 in
set_option maxHeartbeats 4000000 in
theorem mX5_free (l : Launch) (D : va_G) (cs : Nat → ClassId) (ad : Nat → Nat) (N : Nat) (σ : vS) (p1 : Int32) (r : Int32) (hf : fX5_free N σ p1 = some (.inl r)) : k_MP l yX5_free wsX5_free rmX5_free D (tK cs) (wK cs ad) [.ref (ad 0), .int p1] σ (.int r) := by
  refine k_ofP (cc := cX5_free) (maxL := 2) (ret := (some .boolean)) (by decide) rfl (Nat.le_of_ble_eq_true rfl) ?_
  intro p e s m args below meth c ls hcf hr hlk hK hZ hl hw
  generalize hQ0 : MQ below _ args s 0 0 _ = Q0
  obtain ⟨T0, hE0⟩ : ∃ T, T = fX5_free N σ p1 := ⟨_, rfl⟩
  have hR := hE0.trans hf
  have hN0 : T0 ≠ none := by rw [hR]; exact fun h => nomatch h
  have hx := hcf.1
  have hb := hcf.2.1
  have htk := hcf.2.2.2.2
  have hown := hcf.2.2.2.1
  unfold fX5_free at hE0
  replace hl : lv_has ls 2 [(0, .ref (ad 0)), (1, .int p1)] := hl
  refine lv_aload_n hx hb dX5_free_0 rfl (lv_at hl 0 rfl) ?_
  refine kg_X5_reader hcf hK (kw_239 htk) dX5_free_1 hw ?_
  refine kg_X3_equation hcf hK (kw_153 htk) dX5_free_4 hw ?_
  refine lv_iload_n hx hb dX5_free_7 rfl (lv_at hl 1 rfl) ?_
  obtain ⟨r1, k1, hE0⟩ := bd1_e hE0 hN0
  refine k_callP (va_runV (As := [.int p1]) (rest := []) hcf (mX1_containsFormula l D cs ad N σ p1 r1 k1) (kcX1_containsFormula htk (kw_607 htk) ⟨Nat.le_of_ble_eq_true rfl, Nat.le_of_ble_eq_true rfl⟩) ⟨k_blind, va_recv (ci := 1) (q0 := 5) hK hw.1 rfl rfl, k_pre hK hZ hw⟩ rfl rfl hl.1 rfl (lv_room (Nat.le_of_ble_eq_true rfl)) dX5_free_8 ⟨Nat.zero_le _, Nat.zero_le _⟩) ?_
  refine lv_if_ne (tgt := 22) hx hb dX5_free_11 (by decide) (fun c4 => ?_) (fun c4 => ?_)
  · have hE0 := ite_f hE0 c4
    refine lv_aload_n hx hb dX5_free_22 rfl (lv_at hl 0 rfl) ?_
    refine kg_X5_balance hcf hK (kw_240 htk) dX5_free_23 hw ?_
    refine kg_X0_dependent hcf hK (kw_191 htk) dX5_free_26 hw ?_
    refine lv_iload_n hx hb dX5_free_29 rfl (lv_at hl 1 rfl) ?_
    obtain ⟨g2, hE0⟩ := gd_e hE0 hN0
    refine kald_A6 hcf hK (x := (σ.2.1 6 ((p1).toNatClampNeg))) dX5_free_30 g2 hw rfl ?_
    obtain ⟨g3, hE0⟩ := gd_e hE0 hN0
    exact kretP_z hcf hr hlk hK hw (rts1 hR hE0) hQ0 (nr_b g3) dX5_free_31
  · have hE0 := ite_t hE0 c4
    exact rtsx hR hE0
abbrev rtX5_free : Room := { frames := 6, cells := 1, slots := 6, locals := 120 }
set_option maxRecDepth 100000 in
set_option maxHeartbeats 4000000 in
theorem tX5_free (l : Launch) (hfl : l.flags = flags0) (D : va_G) (cs : Nat → ClassId) (ad : Nat → Nat) (N : Nat) (σ : vS) (p1 : Int32) (n : Nat) (hf : fX5_free N σ p1 = some (.inr n)) : k_MT l yX5_free wsX5_free rtX5_free D (tK cs) (wK cs ad) [.ref (ad 0), .int p1] σ (kx_n n) := by
  refine k_ofT (A := fun _ => False) (cc := cX5_free) (maxL := 2) (ret := (some .boolean)) (by decide) rfl (Nat.le_of_ble_eq_true rfl) ?_
  intro p e s m args below meth c ls hcf hr hlk hK hZ hS hnh hl hw
  generalize hQ0 : k_TQ below (kx_n n) s = Q0
  obtain ⟨T0, hE0⟩ : ∃ T, T = fX5_free N σ p1 := ⟨_, rfl⟩
  have hR := hE0.trans hf
  have hN0 : T0 ≠ none := by rw [hR]; exact fun h => nomatch h
  have hx := hcf.1
  have hb := hcf.2.1
  have htk := hcf.2.2.2.2
  have hown := hcf.2.2.2.1
  unfold fX5_free at hE0
  replace hl : lv_has ls 2 [(0, .ref (ad 0)), (1, .int p1)] := hl
  refine lv_aload_n hx hb dX5_free_0 rfl (lv_at hl 0 rfl) ?_
  refine kg_X5_reader hcf hK (kw_239 htk) dX5_free_1 hw ?_
  refine kg_X3_equation hcf hK (kw_153 htk) dX5_free_4 hw ?_
  refine lv_iload_n hx hb dX5_free_7 rfl (lv_at hl 1 rfl) ?_
  obtain ⟨r1, k1, hE0⟩ := bd1_e hE0 hN0
  refine k_callP (va_runV (As := [.int p1]) (rest := []) hcf (mX1_containsFormula l D cs ad N σ p1 r1 k1) (kcX1_containsFormula htk (kw_607 htk) ⟨Nat.le_of_ble_eq_true rfl, Nat.le_of_ble_eq_true rfl⟩) ⟨k_blind, va_recv (ci := 1) (q0 := 5) hK hw.1 rfl rfl, k_pre hK hZ hw⟩ rfl rfl hl.1 rfl (lv_room (Nat.le_of_ble_eq_true rfl)) dX5_free_8 ⟨Nat.zero_le _, Nat.zero_le _⟩) ?_
  refine lv_if_ne (tgt := 22) hx hb dX5_free_11 (by decide) (fun c4 => ?_) (fun c4 => ?_)
  · have hE0 := ite_f hE0 c4
    refine lv_aload_n hx hb dX5_free_22 rfl (lv_at hl 0 rfl) ?_
    refine kg_X5_balance hcf hK (kw_240 htk) dX5_free_23 hw ?_
    refine kg_X0_dependent hcf hK (kw_191 htk) dX5_free_26 hw ?_
    refine lv_iload_n hx hb dX5_free_29 rfl (lv_at hl 1 rfl) ?_
    obtain ⟨g2, hE0⟩ := gd_e hE0 hN0
    refine kald_A6 hcf hK (x := (σ.2.1 6 ((p1).toNatClampNeg))) dX5_free_30 g2 hw rfl ?_
    obtain ⟨g3, hE0⟩ := gd_e hE0 hN0
    exact rtsx hE0 hR
  · have hE0 := ite_t hE0 c4
    have hn := rtsn hR hE0
    subst hn
    subst hQ0
    exact k_throw hcf hfl hlk hZ hS hnh ka_X5_114 (by decide) (kw_581 htk) (kw_582 htk) (kw_66 htk) hl dX5_free_14 dX5_free_17 dX5_free_18 dX5_free_21 (Nat.le_of_ble_eq_true rfl) (Nat.le_of_ble_eq_true rfl) (Nat.le_of_ble_eq_true rfl) (Nat.le_of_ble_eq_true rfl)
def fX5_number (N : Nat) (σ : vS) (p1 : Int32) (p2 : Int32) : Option ((Int64) ⊕ Nat) :=
  if (p1 < 0) then (
    some (.inr 2)
  ) else (
    if ((σ.1 10) ≤ p1) then (
      some (.inr 2)
    ) else (
      bd1 (fX1_containsFormula N σ p2) fun r1 =>
      if (r1 = 0) then (
        some (.inr 2)
      ) else (
        if (p1 < 0 ∨ 6 ≤ (p1).toNatClampNeg) then none else
        if (p2 < 0 ∨ 6 ≤ (p2).toNatClampNeg) then none else
        some (.inl (σ.2.2.2 (5 + (p1).toNatClampNeg) ((p2).toNatClampNeg)))
      )
    )
  )
abbrev rmX5_number : Room := { frames := 6, cells := 0, slots := 0, locals := 120 }
abbrev wsX5_number : List Cond := .code yX5_number cX5_number 3 (some .long) :: kws
theorem kcX5_number {R : Room} {s : State} {args : Array Value} {own : String} {index : Nat} (htk : ∀ w ∈ kws, w.before args s = true) (hl : (Cond.methodLink own index yX5_number).before args s = true) (hR : rmX5_number.frames + 1 ≤ R.frames ∧ 8 + (3 + 11) + rmX5_number.locals ≤ R.locals) : CallW R s args own RX5 index yX5_number cX5_number 3 (some .long) wsX5_number rmX5_number 0 0 2 :=
  ⟨callB_of 2 htk (k_good kc_630) rfl rfl rfl (kw_52 htk) hl (by decide +kernel) hR, (kw_628 htk), (kw_629 htk)⟩
set_option maxRecDepth 100000 in
set_option maxHeartbeats 4000000 in
theorem mX5_number (l : Launch) (D : va_G) (cs : Nat → ClassId) (ad : Nat → Nat) (N : Nat) (σ : vS) (p1 : Int32) (p2 : Int32) (r : Int64) (hf : fX5_number N σ p1 p2 = some (.inl r)) : k_MP l yX5_number wsX5_number rmX5_number D (tK cs) (wK cs ad) [.ref (ad 0), .int p1, .int p2] σ (.long r) := by
  refine k_ofP (cc := cX5_number) (maxL := 3) (ret := (some .long)) (by decide) rfl (Nat.le_of_ble_eq_true rfl) ?_
  intro p e s m args below meth c ls hcf hr hlk hK hZ hl hw
  generalize hQ0 : MQ below _ args s 0 0 _ = Q0
  obtain ⟨T0, hE0⟩ : ∃ T, T = fX5_number N σ p1 p2 := ⟨_, rfl⟩
  have hR := hE0.trans hf
  have hN0 : T0 ≠ none := by rw [hR]; exact fun h => nomatch h
  have hx := hcf.1
  have hb := hcf.2.1
  have htk := hcf.2.2.2.2
  have hown := hcf.2.2.2.1
  unfold fX5_number at hE0
  replace hl : lv_has ls 3 [(0, .ref (ad 0)), (1, .int p1), (2, .int p2)] := hl
  refine lv_iload_n hx hb dX5_number_0 rfl (lv_at hl 1 rfl) ?_
  refine lv_if_lt (tgt := 29) hx hb dX5_number_1 (by decide) (fun c6 => ?_) (fun c6 => ?_)
  · have hE0 := ite_t hE0 c6
    exact rtsx hR hE0
  · have hE0 := ite_f hE0 c6
    refine lv_iload_n hx hb dX5_number_4 rfl (lv_at hl 1 rfl) ?_
    refine lv_aload_n hx hb dX5_number_5 rfl (lv_at hl 0 rfl) ?_
    refine kg_X5_balance hcf hK (kw_240 htk) dX5_number_6 hw ?_
    refine kg_X0_freeCount hcf hK (kw_195 htk) (x := (σ.1 10)) dX5_number_9 hw rfl ?_
    refine lv_icmp_ge (tgt := 29) hx hb dX5_number_12 (by decide) (fun c5 => ?_) (fun c5 => ?_)
    · have hE0 := ite_t hE0 c5
      exact rtsx hR hE0
    · have hE0 := ite_f hE0 c5
      refine lv_aload_n hx hb dX5_number_15 rfl (lv_at hl 0 rfl) ?_
      refine kg_X5_reader hcf hK (kw_239 htk) dX5_number_16 hw ?_
      refine kg_X3_equation hcf hK (kw_153 htk) dX5_number_19 hw ?_
      refine lv_iload_n hx hb dX5_number_22 rfl (lv_at hl 2 rfl) ?_
      obtain ⟨r1, k1, hE0⟩ := bd1_e hE0 hN0
      refine k_callP (va_runV (As := [.int p2]) (rest := []) hcf (mX1_containsFormula l D cs ad N σ p2 r1 k1) (kcX1_containsFormula htk (kw_607 htk) ⟨Nat.le_of_ble_eq_true rfl, Nat.le_of_ble_eq_true rfl⟩) ⟨k_blind, va_recv (ci := 1) (q0 := 5) hK hw.1 rfl rfl, k_pre hK hZ hw⟩ rfl rfl hl.1 rfl (lv_room (Nat.le_of_ble_eq_true rfl)) dX5_number_23 ⟨Nat.zero_le _, Nat.zero_le _⟩) ?_
      refine lv_if_ne (tgt := 37) hx hb dX5_number_26 (by decide) (fun c4 => ?_) (fun c4 => ?_)
      · have hE0 := ite_f hE0 c4
        refine lv_aload_n hx hb dX5_number_37 rfl (lv_at hl 0 rfl) ?_
        refine kg_X5_balance hcf hK (kw_240 htk) dX5_number_38 hw ?_
        refine kg_X0_bases hcf hK (kw_193 htk) dX5_number_41 hw ?_
        refine lv_iload_n hx hb dX5_number_44 rfl (lv_at hl 1 rfl) ?_
        obtain ⟨g2, hE0⟩ := gd_e hE0 hN0
        refine kaald_bases hcf hK dX5_number_45 rfl g2 hw ?_
        refine lv_iload_n hx hb dX5_number_46 rfl (lv_at hl 2 rfl) ?_
        obtain ⟨g3, hE0⟩ := gd_e hE0 hN0
        refine kald_bases hcf hK (x := (σ.2.2.2 (5 + (p1).toNatClampNeg) ((p2).toNatClampNeg))) dX5_number_47 g2 g3 hw rfl ?_
        exact kretP_l hcf hr hlk hK hw (rts1 hR hE0) hQ0 dX5_number_48
      · have hE0 := ite_t hE0 c4
        exact rtsx hR hE0
abbrev rtX5_number : Room := { frames := 6, cells := 1, slots := 6, locals := 120 }
set_option maxRecDepth 100000 in
set_option maxHeartbeats 4000000 in
theorem tX5_number (l : Launch) (hfl : l.flags = flags0) (D : va_G) (cs : Nat → ClassId) (ad : Nat → Nat) (N : Nat) (σ : vS) (p1 : Int32) (p2 : Int32) (n : Nat) (hf : fX5_number N σ p1 p2 = some (.inr n)) : k_MT l yX5_number wsX5_number rtX5_number D (tK cs) (wK cs ad) [.ref (ad 0), .int p1, .int p2] σ (kx_n n) := by
  refine k_ofT (A := fun _ => False) (cc := cX5_number) (maxL := 3) (ret := (some .long)) (by decide) rfl (Nat.le_of_ble_eq_true rfl) ?_
  intro p e s m args below meth c ls hcf hr hlk hK hZ hS hnh hl hw
  generalize hQ0 : k_TQ below (kx_n n) s = Q0
  obtain ⟨T0, hE0⟩ : ∃ T, T = fX5_number N σ p1 p2 := ⟨_, rfl⟩
  have hR := hE0.trans hf
  have hN0 : T0 ≠ none := by rw [hR]; exact fun h => nomatch h
  have hx := hcf.1
  have hb := hcf.2.1
  have htk := hcf.2.2.2.2
  have hown := hcf.2.2.2.1
  unfold fX5_number at hE0
  replace hl : lv_has ls 3 [(0, .ref (ad 0)), (1, .int p1), (2, .int p2)] := hl
  refine lv_iload_n hx hb dX5_number_0 rfl (lv_at hl 1 rfl) ?_
  refine lv_if_lt (tgt := 29) hx hb dX5_number_1 (by decide) (fun c6 => ?_) (fun c6 => ?_)
  · have hE0 := ite_t hE0 c6
    have hn := rtsn hR hE0
    subst hn
    subst hQ0
    exact k_throw hcf hfl hlk hZ hS hnh ka_X5_114 (by decide) (kw_581 htk) (kw_582 htk) (kw_66 htk) hl dX5_number_29 dX5_number_32 dX5_number_33 dX5_number_36 (Nat.le_of_ble_eq_true rfl) (Nat.le_of_ble_eq_true rfl) (Nat.le_of_ble_eq_true rfl) (Nat.le_of_ble_eq_true rfl)
  · have hE0 := ite_f hE0 c6
    refine lv_iload_n hx hb dX5_number_4 rfl (lv_at hl 1 rfl) ?_
    refine lv_aload_n hx hb dX5_number_5 rfl (lv_at hl 0 rfl) ?_
    refine kg_X5_balance hcf hK (kw_240 htk) dX5_number_6 hw ?_
    refine kg_X0_freeCount hcf hK (kw_195 htk) (x := (σ.1 10)) dX5_number_9 hw rfl ?_
    refine lv_icmp_ge (tgt := 29) hx hb dX5_number_12 (by decide) (fun c5 => ?_) (fun c5 => ?_)
    · have hE0 := ite_t hE0 c5
      have hn := rtsn hR hE0
      subst hn
      subst hQ0
      exact k_throw hcf hfl hlk hZ hS hnh ka_X5_114 (by decide) (kw_581 htk) (kw_582 htk) (kw_66 htk) hl dX5_number_29 dX5_number_32 dX5_number_33 dX5_number_36 (Nat.le_of_ble_eq_true rfl) (Nat.le_of_ble_eq_true rfl) (Nat.le_of_ble_eq_true rfl) (Nat.le_of_ble_eq_true rfl)
    · have hE0 := ite_f hE0 c5
      refine lv_aload_n hx hb dX5_number_15 rfl (lv_at hl 0 rfl) ?_
      refine kg_X5_reader hcf hK (kw_239 htk) dX5_number_16 hw ?_
      refine kg_X3_equation hcf hK (kw_153 htk) dX5_number_19 hw ?_
      refine lv_iload_n hx hb dX5_number_22 rfl (lv_at hl 2 rfl) ?_
      obtain ⟨r1, k1, hE0⟩ := bd1_e hE0 hN0
      refine k_callP (va_runV (As := [.int p2]) (rest := []) hcf (mX1_containsFormula l D cs ad N σ p2 r1 k1) (kcX1_containsFormula htk (kw_607 htk) ⟨Nat.le_of_ble_eq_true rfl, Nat.le_of_ble_eq_true rfl⟩) ⟨k_blind, va_recv (ci := 1) (q0 := 5) hK hw.1 rfl rfl, k_pre hK hZ hw⟩ rfl rfl hl.1 rfl (lv_room (Nat.le_of_ble_eq_true rfl)) dX5_number_23 ⟨Nat.zero_le _, Nat.zero_le _⟩) ?_
      refine lv_if_ne (tgt := 37) hx hb dX5_number_26 (by decide) (fun c4 => ?_) (fun c4 => ?_)
      · have hE0 := ite_f hE0 c4
        refine lv_aload_n hx hb dX5_number_37 rfl (lv_at hl 0 rfl) ?_
        refine kg_X5_balance hcf hK (kw_240 htk) dX5_number_38 hw ?_
        refine kg_X0_bases hcf hK (kw_193 htk) dX5_number_41 hw ?_
        refine lv_iload_n hx hb dX5_number_44 rfl (lv_at hl 1 rfl) ?_
        obtain ⟨g2, hE0⟩ := gd_e hE0 hN0
        refine kaald_bases hcf hK dX5_number_45 rfl g2 hw ?_
        refine lv_iload_n hx hb dX5_number_46 rfl (lv_at hl 2 rfl) ?_
        obtain ⟨g3, hE0⟩ := gd_e hE0 hN0
        refine kald_bases hcf hK (x := (σ.2.2.2 (5 + (p1).toNatClampNeg) ((p2).toNatClampNeg))) dX5_number_47 g2 g3 hw rfl ?_
        exact rtsx hE0 hR
      · have hE0 := ite_t hE0 c4
        have hn := rtsn hR hE0
        subst hn
        subst hQ0
        exact k_throw hcf hfl hlk hZ hS hnh ka_X5_114 (by decide) (kw_581 htk) (kw_582 htk) (kw_66 htk) hl dX5_number_29 dX5_number_32 dX5_number_33 dX5_number_36 (Nat.le_of_ble_eq_true rfl) (Nat.le_of_ble_eq_true rfl) (Nat.le_of_ble_eq_true rfl) (Nat.le_of_ble_eq_true rfl)
def jX5_weight_86 (N : Nat) (σ : vS) (v3j86 : Int64) : Option ((Int64) ⊕ Nat) :=
  some (.inl v3j86)
def bX5_weight_47 (N : Nat) (σ : vS) (p1 : Int32) (v3h47 : Int64) (v5h47 : Int32) : Option ((Int64 × Int32) ⊕ (Int64)) :=
  if ((σ.1 3) ≤ v5h47) then (
    some (.inr v3h47)
  ) else (
    if (v5h47 < 0 ∨ 6 ≤ (v5h47).toNatClampNeg) then none else
    bd1 (fX1_amount N σ v5h47 p1) fun r3 =>
    k_lt (v3h47 + ((σ.2.2.2 5 ((v5h47).toNatClampNeg)) * (r3).toInt64)) fun x4 =>
    k_lt (v5h47 + (1 : Int32)) fun x5 =>
    some (.inl (x4, x5))
  )
def fX5_weight (N : Nat) (σ : vS) (p1 : Int32) : Option ((Int64) ⊕ Nat) :=
  bd1 (fX1_containsKind N σ p1) fun r1 =>
  if (r1 = 0) then (
    some (.inr 2)
  ) else (
    if ((σ.1 11) = 0) then (
      bd1 (k_itr (fun zz => bX5_weight_47 N σ p1 zz.1 zz.2) N ((0 : Int64), (0 : Int32))) fun q => jX5_weight_86 N σ q
    ) else (
      some (.inr 3)
    )
  )
abbrev rmX5_weight : Room := { frames := 6, cells := 0, slots := 0, locals := 120 }
abbrev wsX5_weight : List Cond := .code yX5_weight cX5_weight 6 (some .long) :: kws
theorem kcX5_weight {R : Room} {s : State} {args : Array Value} {own : String} {index : Nat} (htk : ∀ w ∈ kws, w.before args s = true) (hl : (Cond.methodLink own index yX5_weight).before args s = true) (hR : rmX5_weight.frames + 1 ≤ R.frames ∧ 8 + (6 + 11) + rmX5_weight.locals ≤ R.locals) : CallW R s args own RX5 index yX5_weight cX5_weight 6 (some .long) wsX5_weight rmX5_weight 0 0 1 :=
  ⟨callB_of 1 htk (k_good kc_638) rfl rfl rfl (kw_52 htk) hl (by decide +kernel) hR, (kw_636 htk), (kw_637 htk)⟩
set_option maxRecDepth 100000 in
set_option maxHeartbeats 4000000 in
theorem mX5_weight (l : Launch) (D : va_G) (cs : Nat → ClassId) (ad : Nat → Nat) (N : Nat) (σ : vS) (p1 : Int32) (r : Int64) (hf : fX5_weight N σ p1 = some (.inl r)) : k_MP l yX5_weight wsX5_weight rmX5_weight D (tK cs) (wK cs ad) [.ref (ad 0), .int p1] σ (.long r) := by
  refine k_ofP (cc := cX5_weight) (maxL := 6) (ret := (some .long)) (by decide) rfl (Nat.le_of_ble_eq_true rfl) ?_
  intro p e s m args below meth c ls hcf hr hlk hK hZ hl hw
  generalize hQ0 : MQ below _ args s 0 0 _ = Q0
  obtain ⟨T0, hE0⟩ : ∃ T, T = fX5_weight N σ p1 := ⟨_, rfl⟩
  have hR := hE0.trans hf
  have hN0 : T0 ≠ none := by rw [hR]; exact fun h => nomatch h
  have hx := hcf.1
  have hb := hcf.2.1
  have htk := hcf.2.2.2.2
  have hown := hcf.2.2.2.1
  unfold fX5_weight at hE0
  replace hl : lv_has ls 6 [(0, .ref (ad 0)), (1, .int p1)] := hl
  have J86 : ∀ (v3j86 : Int64) (ls : Array Slot), lv_has ls 6 [(3, .long v3j86)] → T0 = jX5_weight_86 N σ v3j86 → W p l e rmX5_weight s m args below meth c s.heap [] 0 0 Q0 (F0 m 86 ls []) := by
    intro v3j86 ls hl hE0
    unfold jX5_weight_86 at hE0
    refine lv_lload_n hx hb dX5_weight_86 rfl (lv_at hl 0 rfl) ?_
    exact kretP_l hcf hr hlk hK hw (rts1 hR hE0) hQ0 dX5_weight_87
  refine lv_aload_n hx hb dX5_weight_0 rfl (lv_at hl 0 rfl) ?_
  refine kg_X5_reader hcf hK (kw_239 htk) dX5_weight_1 hw ?_
  refine kg_X3_equation hcf hK (kw_153 htk) dX5_weight_4 hw ?_
  refine lv_astore_n hx hb dX5_weight_7 rfl hl (Nat.le_of_ble_eq_true rfl) rfl (fun ls (hl : lv_has ls 6 [(2, .ref (ad 5)), (0, .ref (ad 0)), (1, .int p1)]) => ?_)
  refine lv_aload_n hx hb dX5_weight_8 rfl (lv_at hl 0 rfl) ?_
  refine lv_iload_n hx hb dX5_weight_9 rfl (lv_at hl 2 rfl) ?_
  obtain ⟨r1, k1, hE0⟩ := bd1_e hE0 hN0
  refine k_callP (va_runV (As := [.int p1]) (rest := []) hcf (mX1_containsKind l D cs ad N σ p1 r1 k1) (kcX1_containsKind htk (kw_577 htk) ⟨Nat.le_of_ble_eq_true rfl, Nat.le_of_ble_eq_true rfl⟩) ⟨k_blind, va_recv (ci := 1) (q0 := 5) hK hw.1 rfl rfl, k_pre hK hZ hw⟩ rfl rfl hl.1 rfl (lv_room (Nat.le_of_ble_eq_true rfl)) dX5_weight_10 ⟨Nat.zero_le _, Nat.zero_le _⟩) ?_
  refine lv_if_ne (tgt := 24) hx hb dX5_weight_13 (by decide) (fun c8 => ?_) (fun c8 => ?_)
  · have hE0 := ite_f hE0 c8
    refine lv_aload_n hx hb dX5_weight_24 rfl (lv_at hl 1 rfl) ?_
    refine kg_X5_balance hcf hK (kw_240 htk) dX5_weight_25 hw ?_
    refine kg_X0_verdict hcf hK (kw_197 htk) (x := (σ.1 11)) dX5_weight_28 hw rfl ?_
    refine lv_if_eq (tgt := 42) hx hb dX5_weight_31 (by decide) (fun c7 => ?_) (fun c7 => ?_)
    · have hE0 := ite_t hE0 c7
      refine lv_lconst (v := 0) hx hb dX5_weight_42 rfl ?_
      refine lv_lstore_n hx hb dX5_weight_43 rfl hl (Nat.le_of_ble_eq_true rfl) rfl (fun ls (hl : lv_has ls 6 [(3, .long (0 : Int64)), (2, .ref (ad 5)), (0, .ref (ad 0)), (1, .int p1)]) => ?_)
      refine lv_iconst (v := 0) hx hb dX5_weight_44 rfl ?_
      refine lv_istore hx hb dX5_weight_45 hl (Nat.le_of_ble_eq_true rfl) rfl (fun ls (hl : lv_has ls 6 [(5, .int (0 : Int32)), (3, .long (0 : Int64)), (2, .ref (ad 5)), (0, .ref (ad 0)), (1, .int p1)]) => ?_)
      obtain ⟨q, hq, hE0⟩ := bd1_e hE0 hN0
      refine k_ind (P := fun zz => ∀ (ls : Array Slot), lv_has ls 6 [(0, .ref (ad 0)), (1, .int p1), (2, .ref (ad 5)), (3, .long zz.1), (5, .int zz.2)] → W p l e rmX5_weight s m args below meth c s.heap [] 0 0 Q0 (F0 m 47 ls [])) ?_ N _ hq ls (lv_sub hl [3, 4, 2, 1, 0] rfl)
      intro sX T1 hE1 hN1 hC1 hX1
      obtain ⟨v3h47, v5h47⟩ := sX
      replace hE1 : T1 = bX5_weight_47 N σ p1 v3h47 v5h47 := hE1
      unfold bX5_weight_47 at hE1
      intro ls hl
      replace hl : lv_has ls 6 [(0, .ref (ad 0)), (1, .int p1), (2, .ref (ad 5)), (3, .long v3h47), (5, .int v5h47)] := hl
      refine lv_iload hx hb dX5_weight_47 (lv_at hl 4 rfl) ?_
      refine lv_aload_n hx hb dX5_weight_49 rfl (lv_at hl 2 rfl) ?_
      refine kg_X1_reactantCount hcf hK (kw_125 htk) (x := (σ.1 3)) dX5_weight_50 hw rfl ?_
      refine lv_icmp_ge (tgt := 86) hx hb dX5_weight_53 (by decide) (fun c6 => ?_) (fun c6 => ?_)
      · have hE1 := ite_t hE1 c6
        have hq := hX1 _ hE1
        subst hq
        exact J86 v3h47 ls (lv_sub hl [3] rfl) hE0
      · have hE1 := ite_f hE1 c6
        refine lv_lload_n hx hb dX5_weight_56 rfl (lv_at hl 3 rfl) ?_
        refine lv_aload_n hx hb dX5_weight_57 rfl (lv_at hl 0 rfl) ?_
        refine kg_X5_balance hcf hK (kw_240 htk) dX5_weight_58 hw ?_
        refine kg_X0_bases hcf hK (kw_193 htk) dX5_weight_61 hw ?_
        refine lv_iconst (v := 0) hx hb dX5_weight_64 rfl ?_
        refine kaald_bases hcf hK (k := 30) dX5_weight_65 (by decide) (by decide) hw ?_
        refine lv_iload hx hb dX5_weight_66 (lv_at hl 4 rfl) ?_
        obtain ⟨g2, hE1⟩ := gd_e hE1 hN1
        refine kald_B5 hcf hK (x := (σ.2.2.2 5 ((v5h47).toNatClampNeg))) dX5_weight_68 g2 hw rfl ?_
        refine lv_aload_n hx hb dX5_weight_69 rfl (lv_at hl 2 rfl) ?_
        refine lv_iload hx hb dX5_weight_70 (lv_at hl 4 rfl) ?_
        refine lv_iload_n hx hb dX5_weight_72 rfl (lv_at hl 1 rfl) ?_
        obtain ⟨r3, k3, hE1⟩ := bd1_e hE1 hN1
        refine k_callP (va_runV (As := [.int v5h47, .int p1]) (rest := [.long (σ.2.2.2 5 ((v5h47).toNatClampNeg)), .long v3h47]) hcf (mX1_amount l D cs ad N σ v5h47 p1 r3 k3) (kcX1_amount htk (kw_608 htk) ⟨Nat.le_of_ble_eq_true rfl, Nat.le_of_ble_eq_true rfl⟩) ⟨k_blind, va_recv (ci := 1) (q0 := 5) hK hw.1 rfl rfl, k_pre hK hZ hw⟩ rfl rfl hl.1 rfl (lv_room (Nat.le_of_ble_eq_true rfl)) dX5_weight_73 ⟨Nat.zero_le _, Nat.zero_le _⟩) ?_
        refine lv_i2l hx hb dX5_weight_76 rfl ?_
        refine lv_lmul hx hb dX5_weight_77 ?_
        refine lv_ladd hx hb dX5_weight_78 ?_
        refine lv_topl (fun x4 e_x4 => ?_)
        have hE1 := k_lts hE1 e_x4
        refine lv_lstore_n hx hb dX5_weight_79 rfl hl (Nat.le_of_ble_eq_true rfl) rfl (fun ls (hl : lv_has ls 6 [(3, .long x4), (0, .ref (ad 0)), (1, .int p1), (2, .ref (ad 5)), (5, .int v5h47)]) => ?_)
        obtain ⟨x5, e_x5, hE1⟩ := k_lte hE1
        refine lv_iinc (k := 4) (v := x5) hx hb dX5_weight_80 hl rfl (Eq.symm e_x5) (Nat.le_of_ble_eq_true rfl) rfl (fun ls (hl : lv_has ls 6 [(5, .int x5), (3, .long x4), (0, .ref (ad 0)), (1, .int p1), (2, .ref (ad 5))]) => ?_)
        refine lv_goto (tgt := 47) hx hb dX5_weight_83 (by decide) ?_
        exact hC1 _ hE1 ls (lv_sub hl [2, 3, 4, 1, 0] rfl)
    · have hE0 := ite_f hE0 c7
      exact rtsx hR hE0
  · have hE0 := ite_t hE0 c8
    exact rtsx hR hE0
abbrev rtX5_weight : Room := { frames := 6, cells := 1, slots := 6, locals := 120 }
set_option maxRecDepth 100000 in
set_option maxHeartbeats 4000000 in
theorem tX5_weight (l : Launch) (hfl : l.flags = flags0) (D : va_G) (cs : Nat → ClassId) (ad : Nat → Nat) (N : Nat) (σ : vS) (p1 : Int32) (n : Nat) (hf : fX5_weight N σ p1 = some (.inr n)) : k_MT l yX5_weight wsX5_weight rtX5_weight D (tK cs) (wK cs ad) [.ref (ad 0), .int p1] σ (kx_n n) := by
  refine k_ofT (A := fun _ => False) (cc := cX5_weight) (maxL := 6) (ret := (some .long)) (by decide) rfl (Nat.le_of_ble_eq_true rfl) ?_
  intro p e s m args below meth c ls hcf hr hlk hK hZ hS hnh hl hw
  generalize hQ0 : k_TQ below (kx_n n) s = Q0
  obtain ⟨T0, hE0⟩ : ∃ T, T = fX5_weight N σ p1 := ⟨_, rfl⟩
  have hR := hE0.trans hf
  have hN0 : T0 ≠ none := by rw [hR]; exact fun h => nomatch h
  have hx := hcf.1
  have hb := hcf.2.1
  have htk := hcf.2.2.2.2
  have hown := hcf.2.2.2.1
  unfold fX5_weight at hE0
  replace hl : lv_has ls 6 [(0, .ref (ad 0)), (1, .int p1)] := hl
  have J86 : ∀ (v3j86 : Int64) (ls : Array Slot), lv_has ls 6 [(3, .long v3j86)] → T0 = jX5_weight_86 N σ v3j86 → W p l e rtX5_weight s m args below meth c s.heap [] 0 0 Q0 (F0 m 86 ls []) := by
    intro v3j86 ls hl hE0
    unfold jX5_weight_86 at hE0
    refine lv_lload_n hx hb dX5_weight_86 rfl (lv_at hl 0 rfl) ?_
    exact rtsx hE0 hR
  refine lv_aload_n hx hb dX5_weight_0 rfl (lv_at hl 0 rfl) ?_
  refine kg_X5_reader hcf hK (kw_239 htk) dX5_weight_1 hw ?_
  refine kg_X3_equation hcf hK (kw_153 htk) dX5_weight_4 hw ?_
  refine lv_astore_n hx hb dX5_weight_7 rfl hl (Nat.le_of_ble_eq_true rfl) rfl (fun ls (hl : lv_has ls 6 [(2, .ref (ad 5)), (0, .ref (ad 0)), (1, .int p1)]) => ?_)
  refine lv_aload_n hx hb dX5_weight_8 rfl (lv_at hl 0 rfl) ?_
  refine lv_iload_n hx hb dX5_weight_9 rfl (lv_at hl 2 rfl) ?_
  obtain ⟨r1, k1, hE0⟩ := bd1_e hE0 hN0
  refine k_callP (va_runV (As := [.int p1]) (rest := []) hcf (mX1_containsKind l D cs ad N σ p1 r1 k1) (kcX1_containsKind htk (kw_577 htk) ⟨Nat.le_of_ble_eq_true rfl, Nat.le_of_ble_eq_true rfl⟩) ⟨k_blind, va_recv (ci := 1) (q0 := 5) hK hw.1 rfl rfl, k_pre hK hZ hw⟩ rfl rfl hl.1 rfl (lv_room (Nat.le_of_ble_eq_true rfl)) dX5_weight_10 ⟨Nat.zero_le _, Nat.zero_le _⟩) ?_
  refine lv_if_ne (tgt := 24) hx hb dX5_weight_13 (by decide) (fun c8 => ?_) (fun c8 => ?_)
  · have hE0 := ite_f hE0 c8
    refine lv_aload_n hx hb dX5_weight_24 rfl (lv_at hl 1 rfl) ?_
    refine kg_X5_balance hcf hK (kw_240 htk) dX5_weight_25 hw ?_
    refine kg_X0_verdict hcf hK (kw_197 htk) (x := (σ.1 11)) dX5_weight_28 hw rfl ?_
    refine lv_if_eq (tgt := 42) hx hb dX5_weight_31 (by decide) (fun c7 => ?_) (fun c7 => ?_)
    · have hE0 := ite_t hE0 c7
      refine lv_lconst (v := 0) hx hb dX5_weight_42 rfl ?_
      refine lv_lstore_n hx hb dX5_weight_43 rfl hl (Nat.le_of_ble_eq_true rfl) rfl (fun ls (hl : lv_has ls 6 [(3, .long (0 : Int64)), (2, .ref (ad 5)), (0, .ref (ad 0)), (1, .int p1)]) => ?_)
      refine lv_iconst (v := 0) hx hb dX5_weight_44 rfl ?_
      refine lv_istore hx hb dX5_weight_45 hl (Nat.le_of_ble_eq_true rfl) rfl (fun ls (hl : lv_has ls 6 [(5, .int (0 : Int32)), (3, .long (0 : Int64)), (2, .ref (ad 5)), (0, .ref (ad 0)), (1, .int p1)]) => ?_)
      obtain ⟨q, hq, hE0⟩ := bd1_e hE0 hN0
      refine k_ind (P := fun zz => ∀ (ls : Array Slot), lv_has ls 6 [(0, .ref (ad 0)), (1, .int p1), (2, .ref (ad 5)), (3, .long zz.1), (5, .int zz.2)] → W p l e rtX5_weight s m args below meth c s.heap [] 0 0 Q0 (F0 m 47 ls [])) ?_ N _ hq ls (lv_sub hl [3, 4, 2, 1, 0] rfl)
      intro sX T1 hE1 hN1 hC1 hX1
      obtain ⟨v3h47, v5h47⟩ := sX
      replace hE1 : T1 = bX5_weight_47 N σ p1 v3h47 v5h47 := hE1
      unfold bX5_weight_47 at hE1
      intro ls hl
      replace hl : lv_has ls 6 [(0, .ref (ad 0)), (1, .int p1), (2, .ref (ad 5)), (3, .long v3h47), (5, .int v5h47)] := hl
      refine lv_iload hx hb dX5_weight_47 (lv_at hl 4 rfl) ?_
      refine lv_aload_n hx hb dX5_weight_49 rfl (lv_at hl 2 rfl) ?_
      refine kg_X1_reactantCount hcf hK (kw_125 htk) (x := (σ.1 3)) dX5_weight_50 hw rfl ?_
      refine lv_icmp_ge (tgt := 86) hx hb dX5_weight_53 (by decide) (fun c6 => ?_) (fun c6 => ?_)
      · have hE1 := ite_t hE1 c6
        have hq := hX1 _ hE1
        subst hq
        exact J86 v3h47 ls (lv_sub hl [3] rfl) hE0
      · have hE1 := ite_f hE1 c6
        refine lv_lload_n hx hb dX5_weight_56 rfl (lv_at hl 3 rfl) ?_
        refine lv_aload_n hx hb dX5_weight_57 rfl (lv_at hl 0 rfl) ?_
        refine kg_X5_balance hcf hK (kw_240 htk) dX5_weight_58 hw ?_
        refine kg_X0_bases hcf hK (kw_193 htk) dX5_weight_61 hw ?_
        refine lv_iconst (v := 0) hx hb dX5_weight_64 rfl ?_
        refine kaald_bases hcf hK (k := 30) dX5_weight_65 (by decide) (by decide) hw ?_
        refine lv_iload hx hb dX5_weight_66 (lv_at hl 4 rfl) ?_
        obtain ⟨g2, hE1⟩ := gd_e hE1 hN1
        refine kald_B5 hcf hK (x := (σ.2.2.2 5 ((v5h47).toNatClampNeg))) dX5_weight_68 g2 hw rfl ?_
        refine lv_aload_n hx hb dX5_weight_69 rfl (lv_at hl 2 rfl) ?_
        refine lv_iload hx hb dX5_weight_70 (lv_at hl 4 rfl) ?_
        refine lv_iload_n hx hb dX5_weight_72 rfl (lv_at hl 1 rfl) ?_
        obtain ⟨r3, k3, hE1⟩ := bd1_e hE1 hN1
        refine k_callP (va_runV (As := [.int v5h47, .int p1]) (rest := [.long (σ.2.2.2 5 ((v5h47).toNatClampNeg)), .long v3h47]) hcf (mX1_amount l D cs ad N σ v5h47 p1 r3 k3) (kcX1_amount htk (kw_608 htk) ⟨Nat.le_of_ble_eq_true rfl, Nat.le_of_ble_eq_true rfl⟩) ⟨k_blind, va_recv (ci := 1) (q0 := 5) hK hw.1 rfl rfl, k_pre hK hZ hw⟩ rfl rfl hl.1 rfl (lv_room (Nat.le_of_ble_eq_true rfl)) dX5_weight_73 ⟨Nat.zero_le _, Nat.zero_le _⟩) ?_
        refine lv_i2l hx hb dX5_weight_76 rfl ?_
        refine lv_lmul hx hb dX5_weight_77 ?_
        refine lv_ladd hx hb dX5_weight_78 ?_
        refine lv_topl (fun x4 e_x4 => ?_)
        have hE1 := k_lts hE1 e_x4
        refine lv_lstore_n hx hb dX5_weight_79 rfl hl (Nat.le_of_ble_eq_true rfl) rfl (fun ls (hl : lv_has ls 6 [(3, .long x4), (0, .ref (ad 0)), (1, .int p1), (2, .ref (ad 5)), (5, .int v5h47)]) => ?_)
        obtain ⟨x5, e_x5, hE1⟩ := k_lte hE1
        refine lv_iinc (k := 4) (v := x5) hx hb dX5_weight_80 hl rfl (Eq.symm e_x5) (Nat.le_of_ble_eq_true rfl) rfl (fun ls (hl : lv_has ls 6 [(5, .int x5), (3, .long x4), (0, .ref (ad 0)), (1, .int p1), (2, .ref (ad 5))]) => ?_)
        refine lv_goto (tgt := 47) hx hb dX5_weight_83 (by decide) ?_
        exact hC1 _ hE1 ls (lv_sub hl [2, 3, 4, 1, 0] rfl)
    · have hE0 := ite_f hE0 c7
      have hn := rtsn hR hE0
      subst hn
      subst hQ0
      exact k_throw hcf hfl hlk hZ hS hnh ka_X5_135 (by decide) (kw_639 htk) (kw_640 htk) (kw_67 htk) hl dX5_weight_34 dX5_weight_37 dX5_weight_38 dX5_weight_41 (Nat.le_of_ble_eq_true rfl) (Nat.le_of_ble_eq_true rfl) (Nat.le_of_ble_eq_true rfl) (Nat.le_of_ble_eq_true rfl)
  · have hE0 := ite_t hE0 c8
    have hn := rtsn hR hE0
    subst hn
    subst hQ0
    exact k_throw hcf hfl hlk hZ hS hnh ka_X5_114 (by decide) (kw_581 htk) (kw_582 htk) (kw_66 htk) hl dX5_weight_16 dX5_weight_19 dX5_weight_20 dX5_weight_23 (Nat.le_of_ble_eq_true rfl) (Nat.le_of_ble_eq_true rfl) (Nat.le_of_ble_eq_true rfl) (Nat.le_of_ble_eq_true rfl)
def fX5_written (N : Nat) (σ : vS) (p1 : Int32) : Option ((Int32) ⊕ Nat) :=
  if ((σ.1 11) = 0) then (
    bd1 (fX2_characterAt N σ p1) fun r1 =>
    some (.inl r1)
  ) else (
    some (.inr 3)
  )
abbrev rmX5_written : Room := { frames := 6, cells := 0, slots := 0, locals := 120 }
abbrev wsX5_written : List Cond := .code yX5_written cX5_written 2 (some .int) :: kws
theorem kcX5_written {R : Room} {s : State} {args : Array Value} {own : String} {index : Nat} (htk : ∀ w ∈ kws, w.before args s = true) (hl : (Cond.methodLink own index yX5_written).before args s = true) (hR : rmX5_written.frames + 1 ≤ R.frames ∧ 8 + (2 + 11) + rmX5_written.locals ≤ R.locals) : CallW R s args own RX5 index yX5_written cX5_written 2 (some .int) wsX5_written rmX5_written 0 0 1 :=
  ⟨callB_of 1 htk (k_good kc_660) rfl rfl rfl (kw_52 htk) hl (by decide +kernel) hR, (kw_658 htk), (kw_659 htk)⟩
set_option maxRecDepth 100000 in
set_option maxHeartbeats 4000000 in
theorem mX5_written (l : Launch) (D : va_G) (cs : Nat → ClassId) (ad : Nat → Nat) (N : Nat) (σ : vS) (p1 : Int32) (r : Int32) (hf : fX5_written N σ p1 = some (.inl r)) : k_MP l yX5_written wsX5_written rmX5_written D (tK cs) (wK cs ad) [.ref (ad 0), .int p1] σ (.int r) := by
  refine k_ofP (cc := cX5_written) (maxL := 2) (ret := (some .int)) (by decide) rfl (Nat.le_of_ble_eq_true rfl) ?_
  intro p e s m args below meth c ls hcf hr hlk hK hZ hl hw
  generalize hQ0 : MQ below _ args s 0 0 _ = Q0
  obtain ⟨T0, hE0⟩ : ∃ T, T = fX5_written N σ p1 := ⟨_, rfl⟩
  have hR := hE0.trans hf
  have hN0 : T0 ≠ none := by rw [hR]; exact fun h => nomatch h
  have hx := hcf.1
  have hb := hcf.2.1
  have htk := hcf.2.2.2.2
  have hown := hcf.2.2.2.1
  unfold fX5_written at hE0
  replace hl : lv_has ls 2 [(0, .ref (ad 0)), (1, .int p1)] := hl
  refine lv_aload_n hx hb dX5_written_0 rfl (lv_at hl 0 rfl) ?_
  refine kg_X5_balance hcf hK (kw_240 htk) dX5_written_1 hw ?_
  refine kg_X0_verdict hcf hK (kw_197 htk) (x := (σ.1 11)) dX5_written_4 hw rfl ?_
  refine lv_if_eq (tgt := 18) hx hb dX5_written_7 (by decide) (fun c2 => ?_) (fun c2 => ?_)
  · have hE0 := ite_t hE0 c2
    refine lv_aload_n hx hb dX5_written_18 rfl (lv_at hl 0 rfl) ?_
    refine kg_X5_line hcf hK (kw_241 htk) dX5_written_19 hw ?_
    refine lv_iload_n hx hb dX5_written_22 rfl (lv_at hl 1 rfl) ?_
    obtain ⟨r1, k1, hE0⟩ := bd1_e hE0 hN0
    refine k_callP (va_runV (As := [.int p1]) (rest := []) hcf (mX2_characterAt l D cs ad N σ p1 r1 k1) (kcX2_characterAt htk (kw_661 htk) ⟨Nat.le_of_ble_eq_true rfl, Nat.le_of_ble_eq_true rfl⟩) ⟨k_blind, va_recv (ci := 2) (q0 := 3) hK hw.1 rfl rfl, k_pre hK hZ hw⟩ rfl rfl hl.1 rfl (lv_room (Nat.le_of_ble_eq_true rfl)) dX5_written_23 ⟨Nat.zero_le _, Nat.zero_le _⟩) ?_
    exact kretP_i hcf hr hlk hK hw (rts1 hR hE0) hQ0 dX5_written_26
  · have hE0 := ite_f hE0 c2
    exact rtsx hR hE0
abbrev rtX5_written : Room := { frames := 6, cells := 1, slots := 6, locals := 120 }
set_option maxRecDepth 100000 in
set_option maxHeartbeats 4000000 in
theorem tX5_written (l : Launch) (hfl : l.flags = flags0) (D : va_G) (cs : Nat → ClassId) (ad : Nat → Nat) (N : Nat) (σ : vS) (p1 : Int32) (n : Nat) (hf : fX5_written N σ p1 = some (.inr n)) : k_MT l yX5_written wsX5_written rtX5_written D (tK cs) (wK cs ad) [.ref (ad 0), .int p1] σ (kx_n n) := by
  refine k_ofT (A := fun _ => False) (cc := cX5_written) (maxL := 2) (ret := (some .int)) (by decide) rfl (Nat.le_of_ble_eq_true rfl) ?_
  intro p e s m args below meth c ls hcf hr hlk hK hZ hS hnh hl hw
  generalize hQ0 : k_TQ below (kx_n n) s = Q0
  obtain ⟨T0, hE0⟩ : ∃ T, T = fX5_written N σ p1 := ⟨_, rfl⟩
  have hR := hE0.trans hf
  have hN0 : T0 ≠ none := by rw [hR]; exact fun h => nomatch h
  have hx := hcf.1
  have hb := hcf.2.1
  have htk := hcf.2.2.2.2
  have hown := hcf.2.2.2.1
  unfold fX5_written at hE0
  replace hl : lv_has ls 2 [(0, .ref (ad 0)), (1, .int p1)] := hl
  refine lv_aload_n hx hb dX5_written_0 rfl (lv_at hl 0 rfl) ?_
  refine kg_X5_balance hcf hK (kw_240 htk) dX5_written_1 hw ?_
  refine kg_X0_verdict hcf hK (kw_197 htk) (x := (σ.1 11)) dX5_written_4 hw rfl ?_
  refine lv_if_eq (tgt := 18) hx hb dX5_written_7 (by decide) (fun c2 => ?_) (fun c2 => ?_)
  · have hE0 := ite_t hE0 c2
    refine lv_aload_n hx hb dX5_written_18 rfl (lv_at hl 0 rfl) ?_
    refine kg_X5_line hcf hK (kw_241 htk) dX5_written_19 hw ?_
    refine lv_iload_n hx hb dX5_written_22 rfl (lv_at hl 1 rfl) ?_
    obtain ⟨r1, k1, hE0⟩ := bd1_e hE0 hN0
    refine k_callP (va_runV (As := [.int p1]) (rest := []) hcf (mX2_characterAt l D cs ad N σ p1 r1 k1) (kcX2_characterAt htk (kw_661 htk) ⟨Nat.le_of_ble_eq_true rfl, Nat.le_of_ble_eq_true rfl⟩) ⟨k_blind, va_recv (ci := 2) (q0 := 3) hK hw.1 rfl rfl, k_pre hK hZ hw⟩ rfl rfl hl.1 rfl (lv_room (Nat.le_of_ble_eq_true rfl)) dX5_written_23 ⟨Nat.zero_le _, Nat.zero_le _⟩) ?_
    exact rtsx hE0 hR
  · have hE0 := ite_f hE0 c2
    have hn := rtsn hR hE0
    subst hn
    subst hQ0
    exact k_throw hcf hfl hlk hZ hS hnh ka_X5_135 (by decide) (kw_639 htk) (kw_640 htk) (kw_67 htk) hl dX5_written_10 dX5_written_13 dX5_written_14 dX5_written_17 (Nat.le_of_ble_eq_true rfl) (Nat.le_of_ble_eq_true rfl) (Nat.le_of_ble_eq_true rfl) (Nat.le_of_ble_eq_true rfl)
def jX5_solves_121 (N : Nat) (σ : vS) : Option ((Int32) ⊕ Nat) :=
  some (.inl (1 : Int32))
def bX5_solves_38 (N : Nat) (σ : vS) (p1 : Int32) (p2 : Int32) (p3 : Int32) (p4 : Int32) (p5 : Int32) (v7h38 : Int32) : Option ((Int32) ⊕ ((Unit) ⊕ ((Int32) ⊕ Nat))) :=
  bd1 (fX1_kindCount N σ) fun r1 =>
  if (r1 ≤ v7h38) then (
    some (.inr (.inl ()))
  ) else (
    bd1 (fX1_share N σ (0 : Int32) v7h38 ((p1).toInt64)) fun r2 =>
    bd1 (fX1_share N σ (1 : Int32) v7h38 ((p2).toInt64)) fun r3 =>
    bd1 (fX1_share N σ (2 : Int32) v7h38 ((p3).toInt64)) fun r4 =>
    bd1 (fX1_share N σ (3 : Int32) v7h38 ((p4).toInt64)) fun r5 =>
    bd1 (fX1_share N σ (4 : Int32) v7h38 ((p5).toInt64)) fun r6 =>
    k_lt ((((r2 + r3) + r4) + r5) + r6) fun x7 =>
    if ((lg_cmp x7 (0 : Int64)) = 0) then (
      k_lt (v7h38 + (1 : Int32)) fun x8 =>
      some (.inl x8)
    ) else (
      some (.inr (.inr (.inl (0 : Int32))))
    )
  )
def fX5_solves (N : Nat) (σ : vS) (p1 : Int32) (p2 : Int32) (p3 : Int32) (p4 : Int32) (p5 : Int32) : Option ((Int32) ⊕ Nat) :=
  if ((σ.1 2) = 0) then (
    some (.inr 3)
  ) else (
    if ((σ.1 2) = (6 : Int32)) then (
      some (.inr 3)
    ) else (
      bds (k_itr (fun zz => bX5_solves_38 N σ p1 p2 p3 p4 p5 zz) N (0 : Int32)) fun _ => jX5_solves_121 N σ
    )
  )
abbrev rmX5_solves : Room := { frames := 6, cells := 0, slots := 0, locals := 120 }
abbrev wsX5_solves : List Cond := .code yX5_solves cX5_solves 10 (some .boolean) :: kws
theorem kcX5_solves {R : Room} {s : State} {args : Array Value} {own : String} {index : Nat} (htk : ∀ w ∈ kws, w.before args s = true) (hl : (Cond.methodLink own index yX5_solves).before args s = true) (hR : rmX5_solves.frames + 1 ≤ R.frames ∧ 8 + (10 + 11) + rmX5_solves.locals ≤ R.locals) : CallW R s args own RX5 index yX5_solves cX5_solves 10 (some .boolean) wsX5_solves rmX5_solves 0 0 5 :=
  ⟨callB_of 5 htk (k_good kc_671) rfl rfl rfl (kw_52 htk) hl (by decide +kernel) hR, (kw_669 htk), (kw_670 htk)⟩
set_option maxRecDepth 100000 in
set_option maxHeartbeats 4000000 in
theorem mX5_solves (l : Launch) (D : va_G) (cs : Nat → ClassId) (ad : Nat → Nat) (N : Nat) (σ : vS) (p1 : Int32) (p2 : Int32) (p3 : Int32) (p4 : Int32) (p5 : Int32) (r : Int32) (hf : fX5_solves N σ p1 p2 p3 p4 p5 = some (.inl r)) : k_MP l yX5_solves wsX5_solves rmX5_solves D (tK cs) (wK cs ad) [.ref (ad 0), .int p1, .int p2, .int p3, .int p4, .int p5] σ (.int r) := by
  refine k_ofP (cc := cX5_solves) (maxL := 10) (ret := (some .boolean)) (by decide) rfl (Nat.le_of_ble_eq_true rfl) ?_
  intro p e s m args below meth c ls hcf hr hlk hK hZ hl hw
  generalize hQ0 : MQ below _ args s 0 0 _ = Q0
  obtain ⟨T0, hE0⟩ : ∃ T, T = fX5_solves N σ p1 p2 p3 p4 p5 := ⟨_, rfl⟩
  have hR := hE0.trans hf
  have hN0 : T0 ≠ none := by rw [hR]; exact fun h => nomatch h
  have hx := hcf.1
  have hb := hcf.2.1
  have htk := hcf.2.2.2.2
  have hown := hcf.2.2.2.1
  unfold fX5_solves at hE0
  replace hl : lv_has ls 10 [(0, .ref (ad 0)), (1, .int p1), (2, .int p2), (3, .int p3), (4, .int p4), (5, .int p5)] := hl
  have J121 : ∀ (ls : Array Slot), lv_has ls 10 [] → T0 = jX5_solves_121 N σ → W p l e rmX5_solves s m args below meth c s.heap [] 0 0 Q0 (F0 m 121 ls []) := by
    intro ls hl hE0
    unfold jX5_solves_121 at hE0
    refine lv_iconst (v := 1) hx hb dX5_solves_121 rfl ?_
    exact kretP_z hcf hr hlk hK hw (rts1 hR hE0) hQ0 rfl dX5_solves_122
  refine lv_aload_n hx hb dX5_solves_0 rfl (lv_at hl 0 rfl) ?_
  refine kg_X5_reader hcf hK (kw_239 htk) dX5_solves_1 hw ?_
  refine kg_X3_equation hcf hK (kw_153 htk) dX5_solves_4 hw ?_
  refine lv_astore hx hb dX5_solves_7 hl (Nat.le_of_ble_eq_true rfl) rfl (fun ls (hl : lv_has ls 10 [(6, .ref (ad 5)), (0, .ref (ad 0)), (1, .int p1), (2, .int p2), (3, .int p3), (4, .int p4), (5, .int p5)]) => ?_)
  refine lv_aload hx hb dX5_solves_9 (lv_at hl 0 rfl) ?_
  refine kg_X1_formulaCount hcf hK (kw_120 htk) (x := (σ.1 2)) dX5_solves_11 hw rfl ?_
  refine lv_if_eq (tgt := 27) hx hb dX5_solves_14 (by decide) (fun c12 => ?_) (fun c12 => ?_)
  · have hE0 := ite_t hE0 c12
    exact rtsx hR hE0
  · have hE0 := ite_f hE0 c12
    refine lv_aload hx hb dX5_solves_17 (lv_at hl 0 rfl) ?_
    refine kg_X1_formulaCount hcf hK (kw_120 htk) (x := (σ.1 2)) dX5_solves_19 hw rfl ?_
    refine lv_bipush (v := 6) hx hb dX5_solves_22 rfl ?_
    refine lv_icmp_ne (tgt := 35) hx hb dX5_solves_24 (by decide) (fun c11 => ?_) (fun c11 => ?_)
    · have hE0 := ite_f hE0 c11
      refine lv_iconst (v := 0) hx hb dX5_solves_35 rfl ?_
      refine lv_istore hx hb dX5_solves_36 hl (Nat.le_of_ble_eq_true rfl) rfl (fun ls (hl : lv_has ls 10 [(7, .int (0 : Int32)), (6, .ref (ad 5)), (0, .ref (ad 0)), (1, .int p1), (2, .int p2), (3, .int p3), (4, .int p4), (5, .int p5)]) => ?_)
      obtain ⟨q, hq, hE0, hT0⟩ := bds_e hE0 hN0
      refine k_ind (P := fun zz => ∀ (ls : Array Slot), lv_has ls 10 [(1, .int p1), (2, .int p2), (3, .int p3), (4, .int p4), (5, .int p5), (6, .ref (ad 5)), (7, .int zz)] → W p l e rmX5_solves s m args below meth c s.heap [] 0 0 Q0 (F0 m 38 ls [])) ?_ N _ hq ls (lv_sub hl [3, 4, 5, 6, 7, 1, 0] rfl)
      intro sX T1 hE1 hN1 hC1 hX1
      obtain ⟨v7h38, hsg⟩ : ∃ z, z = sX := ⟨_, rfl⟩
      subst hsg
      replace hE1 : T1 = bX5_solves_38 N σ p1 p2 p3 p4 p5 v7h38 := hE1
      unfold bX5_solves_38 at hE1
      intro ls hl
      replace hl : lv_has ls 10 [(1, .int p1), (2, .int p2), (3, .int p3), (4, .int p4), (5, .int p5), (6, .ref (ad 5)), (7, .int v7h38)] := hl
      refine lv_iload hx hb dX5_solves_38 (lv_at hl 6 rfl) ?_
      refine lv_aload hx hb dX5_solves_40 (lv_at hl 5 rfl) ?_
      obtain ⟨r1, k1, hE1⟩ := bd1_e hE1 hN1
      refine k_callP (va_runV (As := []) (rest := [.int v7h38]) hcf (mX1_kindCount l D cs ad N σ r1 k1) (kcX1_kindCount htk (kw_467 htk) ⟨Nat.le_of_ble_eq_true rfl, Nat.le_of_ble_eq_true rfl⟩) ⟨k_blind, va_recv (ci := 1) (q0 := 5) hK hw.1 rfl rfl, k_pre hK hZ hw⟩ rfl rfl hl.1 rfl (lv_room (Nat.le_of_ble_eq_true rfl)) dX5_solves_42 ⟨Nat.zero_le _, Nat.zero_le _⟩) ?_
      refine lv_icmp_ge (tgt := 121) hx hb dX5_solves_45 (by decide) (fun c10 => ?_) (fun c10 => ?_)
      · have hE1 := ite_t hE1 c10
        have hq := hX1 _ hE1
        subst hq
        exact J121 ls (lv_sub hl [] rfl) (hE0 _ rfl)
      · have hE1 := ite_f hE1 c10
        refine lv_aload hx hb dX5_solves_48 (lv_at hl 5 rfl) ?_
        refine lv_iconst (v := 0) hx hb dX5_solves_50 rfl ?_
        refine lv_iload hx hb dX5_solves_51 (lv_at hl 6 rfl) ?_
        refine lv_iload_n hx hb dX5_solves_53 rfl (lv_at hl 0 rfl) ?_
        refine lv_i2l hx hb dX5_solves_54 rfl ?_
        obtain ⟨r2, k2, hE1⟩ := bd1_e hE1 hN1
        refine k_callP (va_runV (As := [.int (0 : Int32), .int v7h38, .long ((p1).toInt64)]) (rest := []) hcf (mX1_share l D cs ad N σ (0 : Int32) v7h38 ((p1).toInt64) r2 k2) (kcX1_share htk (kw_672 htk) ⟨Nat.le_of_ble_eq_true rfl, Nat.le_of_ble_eq_true rfl⟩) ⟨k_blind, va_recv (ci := 1) (q0 := 5) hK hw.1 rfl rfl, k_pre hK hZ hw⟩ rfl rfl hl.1 rfl (lv_room (Nat.le_of_ble_eq_true rfl)) dX5_solves_55 ⟨Nat.zero_le _, Nat.zero_le _⟩) ?_
        refine lv_aload hx hb dX5_solves_58 (lv_at hl 5 rfl) ?_
        refine lv_iconst (v := 1) hx hb dX5_solves_60 rfl ?_
        refine lv_iload hx hb dX5_solves_61 (lv_at hl 6 rfl) ?_
        refine lv_iload_n hx hb dX5_solves_63 rfl (lv_at hl 1 rfl) ?_
        refine lv_i2l hx hb dX5_solves_64 rfl ?_
        obtain ⟨r3, k3, hE1⟩ := bd1_e hE1 hN1
        refine k_callP (va_runV (As := [.int (1 : Int32), .int v7h38, .long ((p2).toInt64)]) (rest := [.long r2]) hcf (mX1_share l D cs ad N σ (1 : Int32) v7h38 ((p2).toInt64) r3 k3) (kcX1_share htk (kw_672 htk) ⟨Nat.le_of_ble_eq_true rfl, Nat.le_of_ble_eq_true rfl⟩) ⟨k_blind, va_recv (ci := 1) (q0 := 5) hK hw.1 rfl rfl, k_pre hK hZ hw⟩ rfl rfl hl.1 rfl (lv_room (Nat.le_of_ble_eq_true rfl)) dX5_solves_65 ⟨Nat.zero_le _, Nat.zero_le _⟩) ?_
        refine lv_ladd hx hb dX5_solves_68 ?_
        refine lv_aload hx hb dX5_solves_69 (lv_at hl 5 rfl) ?_
        refine lv_iconst (v := 2) hx hb dX5_solves_71 rfl ?_
        refine lv_iload hx hb dX5_solves_72 (lv_at hl 6 rfl) ?_
        refine lv_iload_n hx hb dX5_solves_74 rfl (lv_at hl 2 rfl) ?_
        refine lv_i2l hx hb dX5_solves_75 rfl ?_
        obtain ⟨r4, k4, hE1⟩ := bd1_e hE1 hN1
        refine k_callP (va_runV (As := [.int (2 : Int32), .int v7h38, .long ((p3).toInt64)]) (rest := [.long (r2 + r3)]) hcf (mX1_share l D cs ad N σ (2 : Int32) v7h38 ((p3).toInt64) r4 k4) (kcX1_share htk (kw_672 htk) ⟨Nat.le_of_ble_eq_true rfl, Nat.le_of_ble_eq_true rfl⟩) ⟨k_blind, va_recv (ci := 1) (q0 := 5) hK hw.1 rfl rfl, k_pre hK hZ hw⟩ rfl rfl hl.1 rfl (lv_room (Nat.le_of_ble_eq_true rfl)) dX5_solves_76 ⟨Nat.zero_le _, Nat.zero_le _⟩) ?_
        refine lv_ladd hx hb dX5_solves_79 ?_
        refine lv_aload hx hb dX5_solves_80 (lv_at hl 5 rfl) ?_
        refine lv_iconst (v := 3) hx hb dX5_solves_82 rfl ?_
        refine lv_iload hx hb dX5_solves_83 (lv_at hl 6 rfl) ?_
        refine lv_iload hx hb dX5_solves_85 (lv_at hl 3 rfl) ?_
        refine lv_i2l hx hb dX5_solves_87 rfl ?_
        obtain ⟨r5, k5, hE1⟩ := bd1_e hE1 hN1
        refine k_callP (va_runV (As := [.int (3 : Int32), .int v7h38, .long ((p4).toInt64)]) (rest := [.long ((r2 + r3) + r4)]) hcf (mX1_share l D cs ad N σ (3 : Int32) v7h38 ((p4).toInt64) r5 k5) (kcX1_share htk (kw_672 htk) ⟨Nat.le_of_ble_eq_true rfl, Nat.le_of_ble_eq_true rfl⟩) ⟨k_blind, va_recv (ci := 1) (q0 := 5) hK hw.1 rfl rfl, k_pre hK hZ hw⟩ rfl rfl hl.1 rfl (lv_room (Nat.le_of_ble_eq_true rfl)) dX5_solves_88 ⟨Nat.zero_le _, Nat.zero_le _⟩) ?_
        refine lv_ladd hx hb dX5_solves_91 ?_
        refine lv_aload hx hb dX5_solves_92 (lv_at hl 5 rfl) ?_
        refine lv_iconst (v := 4) hx hb dX5_solves_94 rfl ?_
        refine lv_iload hx hb dX5_solves_95 (lv_at hl 6 rfl) ?_
        refine lv_iload hx hb dX5_solves_97 (lv_at hl 4 rfl) ?_
        refine lv_i2l hx hb dX5_solves_99 rfl ?_
        obtain ⟨r6, k6, hE1⟩ := bd1_e hE1 hN1
        refine k_callP (va_runV (As := [.int (4 : Int32), .int v7h38, .long ((p5).toInt64)]) (rest := [.long (((r2 + r3) + r4) + r5)]) hcf (mX1_share l D cs ad N σ (4 : Int32) v7h38 ((p5).toInt64) r6 k6) (kcX1_share htk (kw_672 htk) ⟨Nat.le_of_ble_eq_true rfl, Nat.le_of_ble_eq_true rfl⟩) ⟨k_blind, va_recv (ci := 1) (q0 := 5) hK hw.1 rfl rfl, k_pre hK hZ hw⟩ rfl rfl hl.1 rfl (lv_room (Nat.le_of_ble_eq_true rfl)) dX5_solves_100 ⟨Nat.zero_le _, Nat.zero_le _⟩) ?_
        refine lv_ladd hx hb dX5_solves_103 ?_
        refine lv_topl (fun x7 e_x7 => ?_)
        have hE1 := k_lts hE1 e_x7
        refine lv_lstore hx hb dX5_solves_104 hl (Nat.le_of_ble_eq_true rfl) rfl (fun ls (hl : lv_has ls 10 [(8, .long x7), (1, .int p1), (2, .int p2), (3, .int p3), (4, .int p4), (5, .int p5), (6, .ref (ad 5)), (7, .int v7h38)]) => ?_)
        refine lv_lload hx hb dX5_solves_106 (lv_at hl 0 rfl) ?_
        refine lv_lconst (v := 0) hx hb dX5_solves_108 rfl ?_
        refine W.lcmp hx hb dX5_solves_109 ?_
        refine lv_if_eq (tgt := 115) hx hb dX5_solves_110 (by decide) (fun c9 => ?_) (fun c9 => ?_)
        · have hE1 := ite_t hE1 c9
          obtain ⟨x8, e_x8, hE1⟩ := k_lte hE1
          refine lv_iinc (k := 7) (v := x8) hx hb dX5_solves_115 hl rfl (Eq.symm e_x8) (Nat.le_of_ble_eq_true rfl) rfl (fun ls (hl : lv_has ls 10 [(7, .int x8), (8, .long x7), (1, .int p1), (2, .int p2), (3, .int p3), (4, .int p4), (5, .int p5), (6, .ref (ad 5))]) => ?_)
          refine lv_goto (tgt := 38) hx hb dX5_solves_118 (by decide) ?_
          exact hC1 _ hE1 ls (lv_sub hl [2, 3, 4, 5, 6, 7, 0] rfl)
        · have hE1 := ite_f hE1 c9
          refine lv_iconst (v := 0) hx hb dX5_solves_113 rfl ?_
          have hq := hX1 _ hE1
          subst hq
          exact kretP_z hcf hr hlk hK hw (rts1 hR (hT0 _ rfl)) hQ0 rfl dX5_solves_114
    · have hE0 := ite_t hE0 c11
      exact rtsx hR hE0
abbrev rtX5_solves : Room := { frames := 6, cells := 1, slots := 6, locals := 120 }
set_option maxRecDepth 100000 in
set_option maxHeartbeats 4000000 in
theorem tX5_solves (l : Launch) (hfl : l.flags = flags0) (D : va_G) (cs : Nat → ClassId) (ad : Nat → Nat) (N : Nat) (σ : vS) (p1 : Int32) (p2 : Int32) (p3 : Int32) (p4 : Int32) (p5 : Int32) (n : Nat) (hf : fX5_solves N σ p1 p2 p3 p4 p5 = some (.inr n)) : k_MT l yX5_solves wsX5_solves rtX5_solves D (tK cs) (wK cs ad) [.ref (ad 0), .int p1, .int p2, .int p3, .int p4, .int p5] σ (kx_n n) := by
  refine k_ofT (A := fun _ => False) (cc := cX5_solves) (maxL := 10) (ret := (some .boolean)) (by decide) rfl (Nat.le_of_ble_eq_true rfl) ?_
  intro p e s m args below meth c ls hcf hr hlk hK hZ hS hnh hl hw
  generalize hQ0 : k_TQ below (kx_n n) s = Q0
  obtain ⟨T0, hE0⟩ : ∃ T, T = fX5_solves N σ p1 p2 p3 p4 p5 := ⟨_, rfl⟩
  have hR := hE0.trans hf
  have hN0 : T0 ≠ none := by rw [hR]; exact fun h => nomatch h
  have hx := hcf.1
  have hb := hcf.2.1
  have htk := hcf.2.2.2.2
  have hown := hcf.2.2.2.1
  unfold fX5_solves at hE0
  replace hl : lv_has ls 10 [(0, .ref (ad 0)), (1, .int p1), (2, .int p2), (3, .int p3), (4, .int p4), (5, .int p5)] := hl
  have J121 : ∀ (ls : Array Slot), lv_has ls 10 [] → T0 = jX5_solves_121 N σ → W p l e rtX5_solves s m args below meth c s.heap [] 0 0 Q0 (F0 m 121 ls []) := by
    intro ls hl hE0
    unfold jX5_solves_121 at hE0
    refine lv_iconst (v := 1) hx hb dX5_solves_121 rfl ?_
    exact rtsx hE0 hR
  refine lv_aload_n hx hb dX5_solves_0 rfl (lv_at hl 0 rfl) ?_
  refine kg_X5_reader hcf hK (kw_239 htk) dX5_solves_1 hw ?_
  refine kg_X3_equation hcf hK (kw_153 htk) dX5_solves_4 hw ?_
  refine lv_astore hx hb dX5_solves_7 hl (Nat.le_of_ble_eq_true rfl) rfl (fun ls (hl : lv_has ls 10 [(6, .ref (ad 5)), (0, .ref (ad 0)), (1, .int p1), (2, .int p2), (3, .int p3), (4, .int p4), (5, .int p5)]) => ?_)
  refine lv_aload hx hb dX5_solves_9 (lv_at hl 0 rfl) ?_
  refine kg_X1_formulaCount hcf hK (kw_120 htk) (x := (σ.1 2)) dX5_solves_11 hw rfl ?_
  refine lv_if_eq (tgt := 27) hx hb dX5_solves_14 (by decide) (fun c12 => ?_) (fun c12 => ?_)
  · have hE0 := ite_t hE0 c12
    have hn := rtsn hR hE0
    subst hn
    subst hQ0
    exact k_throw hcf hfl hlk hZ hS hnh ka_X5_135 (by decide) (kw_639 htk) (kw_640 htk) (kw_67 htk) hl dX5_solves_27 dX5_solves_30 dX5_solves_31 dX5_solves_34 (Nat.le_of_ble_eq_true rfl) (Nat.le_of_ble_eq_true rfl) (Nat.le_of_ble_eq_true rfl) (Nat.le_of_ble_eq_true rfl)
  · have hE0 := ite_f hE0 c12
    refine lv_aload hx hb dX5_solves_17 (lv_at hl 0 rfl) ?_
    refine kg_X1_formulaCount hcf hK (kw_120 htk) (x := (σ.1 2)) dX5_solves_19 hw rfl ?_
    refine lv_bipush (v := 6) hx hb dX5_solves_22 rfl ?_
    refine lv_icmp_ne (tgt := 35) hx hb dX5_solves_24 (by decide) (fun c11 => ?_) (fun c11 => ?_)
    · have hE0 := ite_f hE0 c11
      refine lv_iconst (v := 0) hx hb dX5_solves_35 rfl ?_
      refine lv_istore hx hb dX5_solves_36 hl (Nat.le_of_ble_eq_true rfl) rfl (fun ls (hl : lv_has ls 10 [(7, .int (0 : Int32)), (6, .ref (ad 5)), (0, .ref (ad 0)), (1, .int p1), (2, .int p2), (3, .int p3), (4, .int p4), (5, .int p5)]) => ?_)
      obtain ⟨q, hq, hE0, hT0⟩ := bds_e hE0 hN0
      refine k_ind (P := fun zz => ∀ (ls : Array Slot), lv_has ls 10 [(1, .int p1), (2, .int p2), (3, .int p3), (4, .int p4), (5, .int p5), (6, .ref (ad 5)), (7, .int zz)] → W p l e rtX5_solves s m args below meth c s.heap [] 0 0 Q0 (F0 m 38 ls [])) ?_ N _ hq ls (lv_sub hl [3, 4, 5, 6, 7, 1, 0] rfl)
      intro sX T1 hE1 hN1 hC1 hX1
      obtain ⟨v7h38, hsg⟩ : ∃ z, z = sX := ⟨_, rfl⟩
      subst hsg
      replace hE1 : T1 = bX5_solves_38 N σ p1 p2 p3 p4 p5 v7h38 := hE1
      unfold bX5_solves_38 at hE1
      intro ls hl
      replace hl : lv_has ls 10 [(1, .int p1), (2, .int p2), (3, .int p3), (4, .int p4), (5, .int p5), (6, .ref (ad 5)), (7, .int v7h38)] := hl
      refine lv_iload hx hb dX5_solves_38 (lv_at hl 6 rfl) ?_
      refine lv_aload hx hb dX5_solves_40 (lv_at hl 5 rfl) ?_
      obtain ⟨r1, k1, hE1⟩ := bd1_e hE1 hN1
      refine k_callP (va_runV (As := []) (rest := [.int v7h38]) hcf (mX1_kindCount l D cs ad N σ r1 k1) (kcX1_kindCount htk (kw_467 htk) ⟨Nat.le_of_ble_eq_true rfl, Nat.le_of_ble_eq_true rfl⟩) ⟨k_blind, va_recv (ci := 1) (q0 := 5) hK hw.1 rfl rfl, k_pre hK hZ hw⟩ rfl rfl hl.1 rfl (lv_room (Nat.le_of_ble_eq_true rfl)) dX5_solves_42 ⟨Nat.zero_le _, Nat.zero_le _⟩) ?_
      refine lv_icmp_ge (tgt := 121) hx hb dX5_solves_45 (by decide) (fun c10 => ?_) (fun c10 => ?_)
      · have hE1 := ite_t hE1 c10
        have hq := hX1 _ hE1
        subst hq
        exact J121 ls (lv_sub hl [] rfl) (hE0 _ rfl)
      · have hE1 := ite_f hE1 c10
        refine lv_aload hx hb dX5_solves_48 (lv_at hl 5 rfl) ?_
        refine lv_iconst (v := 0) hx hb dX5_solves_50 rfl ?_
        refine lv_iload hx hb dX5_solves_51 (lv_at hl 6 rfl) ?_
        refine lv_iload_n hx hb dX5_solves_53 rfl (lv_at hl 0 rfl) ?_
        refine lv_i2l hx hb dX5_solves_54 rfl ?_
        obtain ⟨r2, k2, hE1⟩ := bd1_e hE1 hN1
        refine k_callP (va_runV (As := [.int (0 : Int32), .int v7h38, .long ((p1).toInt64)]) (rest := []) hcf (mX1_share l D cs ad N σ (0 : Int32) v7h38 ((p1).toInt64) r2 k2) (kcX1_share htk (kw_672 htk) ⟨Nat.le_of_ble_eq_true rfl, Nat.le_of_ble_eq_true rfl⟩) ⟨k_blind, va_recv (ci := 1) (q0 := 5) hK hw.1 rfl rfl, k_pre hK hZ hw⟩ rfl rfl hl.1 rfl (lv_room (Nat.le_of_ble_eq_true rfl)) dX5_solves_55 ⟨Nat.zero_le _, Nat.zero_le _⟩) ?_
        refine lv_aload hx hb dX5_solves_58 (lv_at hl 5 rfl) ?_
        refine lv_iconst (v := 1) hx hb dX5_solves_60 rfl ?_
        refine lv_iload hx hb dX5_solves_61 (lv_at hl 6 rfl) ?_
        refine lv_iload_n hx hb dX5_solves_63 rfl (lv_at hl 1 rfl) ?_
        refine lv_i2l hx hb dX5_solves_64 rfl ?_
        obtain ⟨r3, k3, hE1⟩ := bd1_e hE1 hN1
        refine k_callP (va_runV (As := [.int (1 : Int32), .int v7h38, .long ((p2).toInt64)]) (rest := [.long r2]) hcf (mX1_share l D cs ad N σ (1 : Int32) v7h38 ((p2).toInt64) r3 k3) (kcX1_share htk (kw_672 htk) ⟨Nat.le_of_ble_eq_true rfl, Nat.le_of_ble_eq_true rfl⟩) ⟨k_blind, va_recv (ci := 1) (q0 := 5) hK hw.1 rfl rfl, k_pre hK hZ hw⟩ rfl rfl hl.1 rfl (lv_room (Nat.le_of_ble_eq_true rfl)) dX5_solves_65 ⟨Nat.zero_le _, Nat.zero_le _⟩) ?_
        refine lv_ladd hx hb dX5_solves_68 ?_
        refine lv_aload hx hb dX5_solves_69 (lv_at hl 5 rfl) ?_
        refine lv_iconst (v := 2) hx hb dX5_solves_71 rfl ?_
        refine lv_iload hx hb dX5_solves_72 (lv_at hl 6 rfl) ?_
        refine lv_iload_n hx hb dX5_solves_74 rfl (lv_at hl 2 rfl) ?_
        refine lv_i2l hx hb dX5_solves_75 rfl ?_
        obtain ⟨r4, k4, hE1⟩ := bd1_e hE1 hN1
        refine k_callP (va_runV (As := [.int (2 : Int32), .int v7h38, .long ((p3).toInt64)]) (rest := [.long (r2 + r3)]) hcf (mX1_share l D cs ad N σ (2 : Int32) v7h38 ((p3).toInt64) r4 k4) (kcX1_share htk (kw_672 htk) ⟨Nat.le_of_ble_eq_true rfl, Nat.le_of_ble_eq_true rfl⟩) ⟨k_blind, va_recv (ci := 1) (q0 := 5) hK hw.1 rfl rfl, k_pre hK hZ hw⟩ rfl rfl hl.1 rfl (lv_room (Nat.le_of_ble_eq_true rfl)) dX5_solves_76 ⟨Nat.zero_le _, Nat.zero_le _⟩) ?_
        refine lv_ladd hx hb dX5_solves_79 ?_
        refine lv_aload hx hb dX5_solves_80 (lv_at hl 5 rfl) ?_
        refine lv_iconst (v := 3) hx hb dX5_solves_82 rfl ?_
        refine lv_iload hx hb dX5_solves_83 (lv_at hl 6 rfl) ?_
        refine lv_iload hx hb dX5_solves_85 (lv_at hl 3 rfl) ?_
        refine lv_i2l hx hb dX5_solves_87 rfl ?_
        obtain ⟨r5, k5, hE1⟩ := bd1_e hE1 hN1
        refine k_callP (va_runV (As := [.int (3 : Int32), .int v7h38, .long ((p4).toInt64)]) (rest := [.long ((r2 + r3) + r4)]) hcf (mX1_share l D cs ad N σ (3 : Int32) v7h38 ((p4).toInt64) r5 k5) (kcX1_share htk (kw_672 htk) ⟨Nat.le_of_ble_eq_true rfl, Nat.le_of_ble_eq_true rfl⟩) ⟨k_blind, va_recv (ci := 1) (q0 := 5) hK hw.1 rfl rfl, k_pre hK hZ hw⟩ rfl rfl hl.1 rfl (lv_room (Nat.le_of_ble_eq_true rfl)) dX5_solves_88 ⟨Nat.zero_le _, Nat.zero_le _⟩) ?_
        refine lv_ladd hx hb dX5_solves_91 ?_
        refine lv_aload hx hb dX5_solves_92 (lv_at hl 5 rfl) ?_
        refine lv_iconst (v := 4) hx hb dX5_solves_94 rfl ?_
        refine lv_iload hx hb dX5_solves_95 (lv_at hl 6 rfl) ?_
        refine lv_iload hx hb dX5_solves_97 (lv_at hl 4 rfl) ?_
        refine lv_i2l hx hb dX5_solves_99 rfl ?_
        obtain ⟨r6, k6, hE1⟩ := bd1_e hE1 hN1
        refine k_callP (va_runV (As := [.int (4 : Int32), .int v7h38, .long ((p5).toInt64)]) (rest := [.long (((r2 + r3) + r4) + r5)]) hcf (mX1_share l D cs ad N σ (4 : Int32) v7h38 ((p5).toInt64) r6 k6) (kcX1_share htk (kw_672 htk) ⟨Nat.le_of_ble_eq_true rfl, Nat.le_of_ble_eq_true rfl⟩) ⟨k_blind, va_recv (ci := 1) (q0 := 5) hK hw.1 rfl rfl, k_pre hK hZ hw⟩ rfl rfl hl.1 rfl (lv_room (Nat.le_of_ble_eq_true rfl)) dX5_solves_100 ⟨Nat.zero_le _, Nat.zero_le _⟩) ?_
        refine lv_ladd hx hb dX5_solves_103 ?_
        refine lv_topl (fun x7 e_x7 => ?_)
        have hE1 := k_lts hE1 e_x7
        refine lv_lstore hx hb dX5_solves_104 hl (Nat.le_of_ble_eq_true rfl) rfl (fun ls (hl : lv_has ls 10 [(8, .long x7), (1, .int p1), (2, .int p2), (3, .int p3), (4, .int p4), (5, .int p5), (6, .ref (ad 5)), (7, .int v7h38)]) => ?_)
        refine lv_lload hx hb dX5_solves_106 (lv_at hl 0 rfl) ?_
        refine lv_lconst (v := 0) hx hb dX5_solves_108 rfl ?_
        refine W.lcmp hx hb dX5_solves_109 ?_
        refine lv_if_eq (tgt := 115) hx hb dX5_solves_110 (by decide) (fun c9 => ?_) (fun c9 => ?_)
        · have hE1 := ite_t hE1 c9
          obtain ⟨x8, e_x8, hE1⟩ := k_lte hE1
          refine lv_iinc (k := 7) (v := x8) hx hb dX5_solves_115 hl rfl (Eq.symm e_x8) (Nat.le_of_ble_eq_true rfl) rfl (fun ls (hl : lv_has ls 10 [(7, .int x8), (8, .long x7), (1, .int p1), (2, .int p2), (3, .int p3), (4, .int p4), (5, .int p5), (6, .ref (ad 5))]) => ?_)
          refine lv_goto (tgt := 38) hx hb dX5_solves_118 (by decide) ?_
          exact hC1 _ hE1 ls (lv_sub hl [2, 3, 4, 5, 6, 7, 0] rfl)
        · have hE1 := ite_f hE1 c9
          refine lv_iconst (v := 0) hx hb dX5_solves_113 rfl ?_
          have hq := hX1 _ hE1
          subst hq
          exact rtsx (hT0 _ rfl) hR
    · have hE0 := ite_t hE0 c11
      have hn := rtsn hR hE0
      subst hn
      subst hQ0
      exact k_throw hcf hfl hlk hZ hS hnh ka_X5_135 (by decide) (kw_639 htk) (kw_640 htk) (kw_67 htk) hl dX5_solves_27 dX5_solves_30 dX5_solves_31 dX5_solves_34 (Nat.le_of_ble_eq_true rfl) (Nat.le_of_ble_eq_true rfl) (Nat.le_of_ble_eq_true rfl) (Nat.le_of_ble_eq_true rfl)
end
