section
-- ===== PART A: goes FIRST, ahead of the names: the tables' words, and 'selects' of the private methods out of them =====
/-- a private method of a class that the tables say can be made, by its rows of tables_1 -/
def lw_okq (q : MethodName × Nat) : Prop := (q.1.cls ≠ "java/lang/invoke/MethodHandle" ∧ q.1.cls ≠ "java/lang/invoke/VarHandle") ∧ Cond.instantiable q.1.cls q.2 ∈ tables_1 ∧ Cond.privateMethod q.1 ∈ tables_1 ∧ Cond.instanceMethod q.1 ∈ tables_1
theorem lw_p0 : lw_okq (⟨"FormulaScales$Reader", "beginFormula", "()V"⟩, 9) := ⟨⟨by decide +kernel, by decide +kernel⟩, List.mem_of_getElem? (i := 26) (by decide +kernel), List.mem_of_getElem? (i := 215) (by decide +kernel), List.mem_of_getElem? (i := 216) (by decide +kernel)⟩
theorem lw_p1 : lw_okq (⟨"FormulaScales$Reader", "meet", "(II)V"⟩, 9) := ⟨⟨by decide +kernel, by decide +kernel⟩, List.mem_of_getElem? (i := 26) (by decide +kernel), List.mem_of_getElem? (i := 222) (by decide +kernel), List.mem_of_getElem? (i := 223) (by decide +kernel)⟩
theorem lw_p2 : lw_okq (⟨"FormulaScales$Reader", "readElectron", "()V"⟩, 9) := ⟨⟨by decide +kernel, by decide +kernel⟩, List.mem_of_getElem? (i := 26) (by decide +kernel), List.mem_of_getElem? (i := 230) (by decide +kernel), List.mem_of_getElem? (i := 231) (by decide +kernel)⟩
theorem lw_p3 : lw_okq (⟨"FormulaScales$Reader", "readFormula", "()V"⟩, 9) := ⟨⟨by decide +kernel, by decide +kernel⟩, List.mem_of_getElem? (i := 26) (by decide +kernel), List.mem_of_getElem? (i := 242) (by decide +kernel), List.mem_of_getElem? (i := 243) (by decide +kernel)⟩
theorem lw_p4 : lw_okq (⟨"FormulaScales$Reader", "readNumber", "()I"⟩, 9) := ⟨⟨by decide +kernel, by decide +kernel⟩, List.mem_of_getElem? (i := 26) (by decide +kernel), List.mem_of_getElem? (i := 246) (by decide +kernel), List.mem_of_getElem? (i := 247) (by decide +kernel)⟩
theorem lw_p5 : lw_okq (⟨"FormulaScales$Reader", "readUnits", "()V"⟩, 9) := ⟨⟨by decide +kernel, by decide +kernel⟩, List.mem_of_getElem? (i := 26) (by decide +kernel), List.mem_of_getElem? (i := 253) (by decide +kernel), List.mem_of_getElem? (i := 254) (by decide +kernel)⟩
theorem lw_p6 : lw_okq (⟨"FormulaScales$Reader", "readElement", "(C)V"⟩, 9) := ⟨⟨by decide +kernel, by decide +kernel⟩, List.mem_of_getElem? (i := 26) (by decide +kernel), List.mem_of_getElem? (i := 260) (by decide +kernel), List.mem_of_getElem? (i := 261) (by decide +kernel)⟩
theorem lw_p7 : lw_okq (⟨"FormulaScales$Reader", "openGroup", "(C)V"⟩, 9) := ⟨⟨by decide +kernel, by decide +kernel⟩, List.mem_of_getElem? (i := 26) (by decide +kernel), List.mem_of_getElem? (i := 275) (by decide +kernel), List.mem_of_getElem? (i := 276) (by decide +kernel)⟩
theorem lw_p8 : lw_okq (⟨"FormulaScales$Reader", "closeGroup", "()V"⟩, 9) := ⟨⟨by decide +kernel, by decide +kernel⟩, List.mem_of_getElem? (i := 26) (by decide +kernel), List.mem_of_getElem? (i := 279) (by decide +kernel), List.mem_of_getElem? (i := 280) (by decide +kernel)⟩
theorem lw_p9 : lw_okq (⟨"FormulaScales$Reader", "readCharge", "()V"⟩, 9) := ⟨⟨by decide +kernel, by decide +kernel⟩, List.mem_of_getElem? (i := 26) (by decide +kernel), List.mem_of_getElem? (i := 286) (by decide +kernel), List.mem_of_getElem? (i := 287) (by decide +kernel)⟩
theorem lw_p10 : lw_okq (⟨"FormulaScales$Reader", "endFormula", "(I)V"⟩, 9) := ⟨⟨by decide +kernel, by decide +kernel⟩, List.mem_of_getElem? (i := 26) (by decide +kernel), List.mem_of_getElem? (i := 290) (by decide +kernel), List.mem_of_getElem? (i := 291) (by decide +kernel)⟩
theorem lw_p11 : lw_okq (⟨"FormulaScales$Reader", "isTooMuch", "()Z"⟩, 9) := ⟨⟨by decide +kernel, by decide +kernel⟩, List.mem_of_getElem? (i := 26) (by decide +kernel), List.mem_of_getElem? (i := 294) (by decide +kernel), List.mem_of_getElem? (i := 295) (by decide +kernel)⟩
theorem lw_p12 : lw_okq (⟨"FormulaScales$Reader", "readSign", "()Z"⟩, 9) := ⟨⟨by decide +kernel, by decide +kernel⟩, List.mem_of_getElem? (i := 26) (by decide +kernel), List.mem_of_getElem? (i := 303) (by decide +kernel), List.mem_of_getElem? (i := 304) (by decide +kernel)⟩
theorem lw_p13 : lw_okq (⟨"FormulaScales$Balance", "takeRows", "(LFormulaScales$Equation;)V"⟩, 10) := ⟨⟨by decide +kernel, by decide +kernel⟩, List.mem_of_getElem? (i := 133) (by decide +kernel), List.mem_of_getElem? (i := 311) (by decide +kernel), List.mem_of_getElem? (i := 312) (by decide +kernel)⟩
theorem lw_p14 : lw_okq (⟨"FormulaScales$Balance", "reduce", "()V"⟩, 10) := ⟨⟨by decide +kernel, by decide +kernel⟩, List.mem_of_getElem? (i := 133) (by decide +kernel), List.mem_of_getElem? (i := 332) (by decide +kernel), List.mem_of_getElem? (i := 333) (by decide +kernel)⟩
theorem lw_p15 : lw_okq (⟨"FormulaScales$Balance", "pivotRow", "(I)I"⟩, 10) := ⟨⟨by decide +kernel, by decide +kernel⟩, List.mem_of_getElem? (i := 133) (by decide +kernel), List.mem_of_getElem? (i := 336) (by decide +kernel), List.mem_of_getElem? (i := 337) (by decide +kernel)⟩
def lw_privs_1 : List (MethodName × Nat) := [(⟨"FormulaScales$Reader", "beginFormula", "()V"⟩, 9), (⟨"FormulaScales$Reader", "meet", "(II)V"⟩, 9), (⟨"FormulaScales$Reader", "readElectron", "()V"⟩, 9), (⟨"FormulaScales$Reader", "readFormula", "()V"⟩, 9), (⟨"FormulaScales$Reader", "readNumber", "()I"⟩, 9), (⟨"FormulaScales$Reader", "readUnits", "()V"⟩, 9), (⟨"FormulaScales$Reader", "readElement", "(C)V"⟩, 9), (⟨"FormulaScales$Reader", "openGroup", "(C)V"⟩, 9), (⟨"FormulaScales$Reader", "closeGroup", "()V"⟩, 9), (⟨"FormulaScales$Reader", "readCharge", "()V"⟩, 9), (⟨"FormulaScales$Reader", "endFormula", "(I)V"⟩, 9), (⟨"FormulaScales$Reader", "isTooMuch", "()Z"⟩, 9), (⟨"FormulaScales$Reader", "readSign", "()Z"⟩, 9), (⟨"FormulaScales$Balance", "takeRows", "(LFormulaScales$Equation;)V"⟩, 10), (⟨"FormulaScales$Balance", "reduce", "()V"⟩, 10), (⟨"FormulaScales$Balance", "pivotRow", "(I)I"⟩, 10)]
theorem lw_r1 : ∀ q ∈ lw_privs_1, lw_okq q := List.forall_mem_cons.mpr ⟨lw_p0, List.forall_mem_cons.mpr ⟨lw_p1, List.forall_mem_cons.mpr ⟨lw_p2, List.forall_mem_cons.mpr ⟨lw_p3, List.forall_mem_cons.mpr ⟨lw_p4, List.forall_mem_cons.mpr ⟨lw_p5, List.forall_mem_cons.mpr ⟨lw_p6, List.forall_mem_cons.mpr ⟨lw_p7, List.forall_mem_cons.mpr ⟨lw_p8, List.forall_mem_cons.mpr ⟨lw_p9, List.forall_mem_cons.mpr ⟨lw_p10, List.forall_mem_cons.mpr ⟨lw_p11, List.forall_mem_cons.mpr ⟨lw_p12, List.forall_mem_cons.mpr ⟨lw_p13, List.forall_mem_cons.mpr ⟨lw_p14, List.forall_mem_cons.mpr ⟨lw_p15, fun _ h => absurd h List.not_mem_nil⟩⟩⟩⟩⟩⟩⟩⟩⟩⟩⟩⟩⟩⟩⟩⟩
theorem lw_p16 : lw_okq (⟨"FormulaScales$Balance", "swapRows", "(II)V"⟩, 10) := ⟨⟨by decide +kernel, by decide +kernel⟩, List.mem_of_getElem? (i := 133) (by decide +kernel), List.mem_of_getElem? (i := 340) (by decide +kernel), List.mem_of_getElem? (i := 341) (by decide +kernel)⟩
theorem lw_p17 : lw_okq (⟨"FormulaScales$Balance", "clearColumn", "(I)V"⟩, 10) := ⟨⟨by decide +kernel, by decide +kernel⟩, List.mem_of_getElem? (i := 133) (by decide +kernel), List.mem_of_getElem? (i := 344) (by decide +kernel), List.mem_of_getElem? (i := 345) (by decide +kernel)⟩
theorem lw_p18 : lw_okq (⟨"FormulaScales$Balance", "makeBase", "([JI)V"⟩, 10) := ⟨⟨by decide +kernel, by decide +kernel⟩, List.mem_of_getElem? (i := 133) (by decide +kernel), List.mem_of_getElem? (i := 351) (by decide +kernel), List.mem_of_getElem? (i := 352) (by decide +kernel)⟩
theorem lw_p19 : lw_okq (⟨"FormulaScales$Balance", "judge", "()I"⟩, 10) := ⟨⟨by decide +kernel, by decide +kernel⟩, List.mem_of_getElem? (i := 133) (by decide +kernel), List.mem_of_getElem? (i := 362) (by decide +kernel), List.mem_of_getElem? (i := 363) (by decide +kernel)⟩
theorem lw_p20 : lw_okq (⟨"FormulaScales$Line", "addSign", "(C)V"⟩, 2) := ⟨⟨by decide +kernel, by decide +kernel⟩, List.mem_of_getElem? (i := 176) (by decide +kernel), List.mem_of_getElem? (i := 375) (by decide +kernel), List.mem_of_getElem? (i := 376) (by decide +kernel)⟩
theorem lw_p21 : lw_okq (⟨"FormulaScales$Line", "add", "(C)V"⟩, 2) := ⟨⟨by decide +kernel, by decide +kernel⟩, List.mem_of_getElem? (i := 176) (by decide +kernel), List.mem_of_getElem? (i := 379) (by decide +kernel), List.mem_of_getElem? (i := 380) (by decide +kernel)⟩
theorem lw_p22 : lw_okq (⟨"FormulaScales$Line", "addNumber", "(J)V"⟩, 2) := ⟨⟨by decide +kernel, by decide +kernel⟩, List.mem_of_getElem? (i := 176) (by decide +kernel), List.mem_of_getElem? (i := 383) (by decide +kernel), List.mem_of_getElem? (i := 384) (by decide +kernel)⟩
theorem lw_p23 : lw_okq (⟨"FormulaScales$Line", "turnRound", "(I)V"⟩, 2) := ⟨⟨by decide +kernel, by decide +kernel⟩, List.mem_of_getElem? (i := 176) (by decide +kernel), List.mem_of_getElem? (i := 389) (by decide +kernel), List.mem_of_getElem? (i := 390) (by decide +kernel)⟩
theorem lw_p24 : lw_okq (⟨"java/lang/Throwable", "fillInStackTrace", "(I)Ljava/lang/Throwable;"⟩, 6) := ⟨⟨by decide +kernel, by decide +kernel⟩, List.mem_of_getElem? (i := 475) (by decide +kernel), List.mem_of_getElem? (i := 473) (by decide +kernel), List.mem_of_getElem? (i := 474) (by decide +kernel)⟩
theorem lw_p25 : lw_okq (⟨"FormulaScalesModel", "readSide", "(Z)V"⟩, 31) := ⟨⟨by decide +kernel, by decide +kernel⟩, List.mem_of_getElem? (i := 623) (by decide +kernel), List.mem_of_getElem? (i := 738) (by decide +kernel), List.mem_of_getElem? (i := 739) (by decide +kernel)⟩
theorem lw_p26 : lw_okq (⟨"FormulaScalesModel", "skip", "()V"⟩, 31) := ⟨⟨by decide +kernel, by decide +kernel⟩, List.mem_of_getElem? (i := 623) (by decide +kernel), List.mem_of_getElem? (i := 742) (by decide +kernel), List.mem_of_getElem? (i := 743) (by decide +kernel)⟩
theorem lw_p27 : lw_okq (⟨"FormulaScalesModel", "charAt", "(I)C"⟩, 31) := ⟨⟨by decide +kernel, by decide +kernel⟩, List.mem_of_getElem? (i := 623) (by decide +kernel), List.mem_of_getElem? (i := 746) (by decide +kernel), List.mem_of_getElem? (i := 747) (by decide +kernel)⟩
theorem lw_p28 : lw_okq (⟨"FormulaScalesModel", "failIf", "(ZII)V"⟩, 31) := ⟨⟨by decide +kernel, by decide +kernel⟩, List.mem_of_getElem? (i := 623) (by decide +kernel), List.mem_of_getElem? (i := 750) (by decide +kernel), List.mem_of_getElem? (i := 751) (by decide +kernel)⟩
theorem lw_p29 : lw_okq (⟨"FormulaScalesModel", "fail", "(II)V"⟩, 31) := ⟨⟨by decide +kernel, by decide +kernel⟩, List.mem_of_getElem? (i := 623) (by decide +kernel), List.mem_of_getElem? (i := 754) (by decide +kernel), List.mem_of_getElem? (i := 755) (by decide +kernel)⟩
theorem lw_p30 : lw_okq (⟨"FormulaScalesModel", "readFormula", "(Z)V"⟩, 31) := ⟨⟨by decide +kernel, by decide +kernel⟩, List.mem_of_getElem? (i := 623) (by decide +kernel), List.mem_of_getElem? (i := 758) (by decide +kernel), List.mem_of_getElem? (i := 759) (by decide +kernel)⟩
theorem lw_p31 : lw_okq (⟨"FormulaScalesModel", "noteCharge", "(I)V"⟩, 31) := ⟨⟨by decide +kernel, by decide +kernel⟩, List.mem_of_getElem? (i := 623) (by decide +kernel), List.mem_of_getElem? (i := 762) (by decide +kernel), List.mem_of_getElem? (i := 763) (by decide +kernel)⟩
def lw_privs_2 : List (MethodName × Nat) := [(⟨"FormulaScales$Balance", "swapRows", "(II)V"⟩, 10), (⟨"FormulaScales$Balance", "clearColumn", "(I)V"⟩, 10), (⟨"FormulaScales$Balance", "makeBase", "([JI)V"⟩, 10), (⟨"FormulaScales$Balance", "judge", "()I"⟩, 10), (⟨"FormulaScales$Line", "addSign", "(C)V"⟩, 2), (⟨"FormulaScales$Line", "add", "(C)V"⟩, 2), (⟨"FormulaScales$Line", "addNumber", "(J)V"⟩, 2), (⟨"FormulaScales$Line", "turnRound", "(I)V"⟩, 2), (⟨"java/lang/Throwable", "fillInStackTrace", "(I)Ljava/lang/Throwable;"⟩, 6), (⟨"FormulaScalesModel", "readSide", "(Z)V"⟩, 31), (⟨"FormulaScalesModel", "skip", "()V"⟩, 31), (⟨"FormulaScalesModel", "charAt", "(I)C"⟩, 31), (⟨"FormulaScalesModel", "failIf", "(ZII)V"⟩, 31), (⟨"FormulaScalesModel", "fail", "(II)V"⟩, 31), (⟨"FormulaScalesModel", "readFormula", "(Z)V"⟩, 31), (⟨"FormulaScalesModel", "noteCharge", "(I)V"⟩, 31)]
theorem lw_r2 : ∀ q ∈ lw_privs_2, lw_okq q := List.forall_mem_cons.mpr ⟨lw_p16, List.forall_mem_cons.mpr ⟨lw_p17, List.forall_mem_cons.mpr ⟨lw_p18, List.forall_mem_cons.mpr ⟨lw_p19, List.forall_mem_cons.mpr ⟨lw_p20, List.forall_mem_cons.mpr ⟨lw_p21, List.forall_mem_cons.mpr ⟨lw_p22, List.forall_mem_cons.mpr ⟨lw_p23, List.forall_mem_cons.mpr ⟨lw_p24, List.forall_mem_cons.mpr ⟨lw_p25, List.forall_mem_cons.mpr ⟨lw_p26, List.forall_mem_cons.mpr ⟨lw_p27, List.forall_mem_cons.mpr ⟨lw_p28, List.forall_mem_cons.mpr ⟨lw_p29, List.forall_mem_cons.mpr ⟨lw_p30, List.forall_mem_cons.mpr ⟨lw_p31, fun _ h => absurd h List.not_mem_nil⟩⟩⟩⟩⟩⟩⟩⟩⟩⟩⟩⟩⟩⟩⟩⟩
theorem lw_p32 : lw_okq (⟨"FormulaScalesModel", "readPart", "()V"⟩, 31) := ⟨⟨by decide +kernel, by decide +kernel⟩, List.mem_of_getElem? (i := 623) (by decide +kernel), List.mem_of_getElem? (i := 767) (by decide +kernel), List.mem_of_getElem? (i := 768) (by decide +kernel)⟩
theorem lw_p33 : lw_okq (⟨"FormulaScalesModel", "number0", "()J"⟩, 31) := ⟨⟨by decide +kernel, by decide +kernel⟩, List.mem_of_getElem? (i := 623) (by decide +kernel), List.mem_of_getElem? (i := 771) (by decide +kernel), List.mem_of_getElem? (i := 772) (by decide +kernel)⟩
theorem lw_p34 : lw_okq (⟨"FormulaScalesModel", "clearSums", "()V"⟩, 31) := ⟨⟨by decide +kernel, by decide +kernel⟩, List.mem_of_getElem? (i := 623) (by decide +kernel), List.mem_of_getElem? (i := 778) (by decide +kernel), List.mem_of_getElem? (i := 779) (by decide +kernel)⟩
theorem lw_p35 : lw_okq (⟨"FormulaScalesModel", "readStep", "(Z)Z"⟩, 31) := ⟨⟨by decide +kernel, by decide +kernel⟩, List.mem_of_getElem? (i := 623) (by decide +kernel), List.mem_of_getElem? (i := 782) (by decide +kernel), List.mem_of_getElem? (i := 783) (by decide +kernel)⟩
theorem lw_p36 : lw_okq (⟨"FormulaScalesModel", "element", "()I"⟩, 31) := ⟨⟨by decide +kernel, by decide +kernel⟩, List.mem_of_getElem? (i := 623) (by decide +kernel), List.mem_of_getElem? (i := 789) (by decide +kernel), List.mem_of_getElem? (i := 790) (by decide +kernel)⟩
theorem lw_p37 : lw_okq (⟨"FormulaScalesModel", "readCharge", "()V"⟩, 31) := ⟨⟨by decide +kernel, by decide +kernel⟩, List.mem_of_getElem? (i := 623) (by decide +kernel), List.mem_of_getElem? (i := 793) (by decide +kernel), List.mem_of_getElem? (i := 794) (by decide +kernel)⟩
theorem lw_p38 : lw_okq (⟨"FormulaScalesModel", "solve", "()V"⟩, 31) := ⟨⟨by decide +kernel, by decide +kernel⟩, List.mem_of_getElem? (i := 623) (by decide +kernel), List.mem_of_getElem? (i := 799) (by decide +kernel), List.mem_of_getElem? (i := 800) (by decide +kernel)⟩
theorem lw_p39 : lw_okq (⟨"FormulaScalesModel", "noteLeads", "()V"⟩, 31) := ⟨⟨by decide +kernel, by decide +kernel⟩, List.mem_of_getElem? (i := 623) (by decide +kernel), List.mem_of_getElem? (i := 803) (by decide +kernel), List.mem_of_getElem? (i := 804) (by decide +kernel)⟩
theorem lw_p40 : lw_okq (⟨"FormulaScalesModel", "kindCount", "()I"⟩, 31) := ⟨⟨by decide +kernel, by decide +kernel⟩, List.mem_of_getElem? (i := 623) (by decide +kernel), List.mem_of_getElem? (i := 807) (by decide +kernel), List.mem_of_getElem? (i := 808) (by decide +kernel)⟩
theorem lw_p41 : lw_okq (⟨"FormulaScalesModel", "rowsFor", "(I)I"⟩, 31) := ⟨⟨by decide +kernel, by decide +kernel⟩, List.mem_of_getElem? (i := 623) (by decide +kernel), List.mem_of_getElem? (i := 811) (by decide +kernel), List.mem_of_getElem? (i := 812) (by decide +kernel)⟩
theorem lw_p42 : lw_okq (⟨"FormulaScalesModel", "determinant", "(II)J"⟩, 31) := ⟨⟨by decide +kernel, by decide +kernel⟩, List.mem_of_getElem? (i := 623) (by decide +kernel), List.mem_of_getElem? (i := 818) (by decide +kernel), List.mem_of_getElem? (i := 819) (by decide +kernel)⟩
theorem lw_p43 : lw_okq (⟨"FormulaScalesModel", "hasOf", "(II)J"⟩, 31) := ⟨⟨by decide +kernel, by decide +kernel⟩, List.mem_of_getElem? (i := 623) (by decide +kernel), List.mem_of_getElem? (i := 822) (by decide +kernel), List.mem_of_getElem? (i := 823) (by decide +kernel)⟩
theorem lw_p44 : lw_okq (⟨"FormulaScalesModel", "makeBase", "(I)V"⟩, 31) := ⟨⟨by decide +kernel, by decide +kernel⟩, List.mem_of_getElem? (i := 623) (by decide +kernel), List.mem_of_getElem? (i := 826) (by decide +kernel), List.mem_of_getElem? (i := 827) (by decide +kernel)⟩
theorem lw_p45 : lw_okq (⟨"FormulaScalesModel", "write", "()V"⟩, 31) := ⟨⟨by decide +kernel, by decide +kernel⟩, List.mem_of_getElem? (i := 623) (by decide +kernel), List.mem_of_getElem? (i := 833) (by decide +kernel), List.mem_of_getElem? (i := 834) (by decide +kernel)⟩
theorem lw_p46 : lw_okq (⟨"FormulaScalesModel", "isBalanced", "()Z"⟩, 31) := ⟨⟨by decide +kernel, by decide +kernel⟩, List.mem_of_getElem? (i := 623) (by decide +kernel), List.mem_of_getElem? (i := 837) (by decide +kernel), List.mem_of_getElem? (i := 838) (by decide +kernel)⟩
theorem lw_p47 : lw_okq (⟨"FormulaScalesModel", "put", "(I)V"⟩, 31) := ⟨⟨by decide +kernel, by decide +kernel⟩, List.mem_of_getElem? (i := 623) (by decide +kernel), List.mem_of_getElem? (i := 841) (by decide +kernel), List.mem_of_getElem? (i := 842) (by decide +kernel)⟩
def lw_privs_3 : List (MethodName × Nat) := [(⟨"FormulaScalesModel", "readPart", "()V"⟩, 31), (⟨"FormulaScalesModel", "number0", "()J"⟩, 31), (⟨"FormulaScalesModel", "clearSums", "()V"⟩, 31), (⟨"FormulaScalesModel", "readStep", "(Z)Z"⟩, 31), (⟨"FormulaScalesModel", "element", "()I"⟩, 31), (⟨"FormulaScalesModel", "readCharge", "()V"⟩, 31), (⟨"FormulaScalesModel", "solve", "()V"⟩, 31), (⟨"FormulaScalesModel", "noteLeads", "()V"⟩, 31), (⟨"FormulaScalesModel", "kindCount", "()I"⟩, 31), (⟨"FormulaScalesModel", "rowsFor", "(I)I"⟩, 31), (⟨"FormulaScalesModel", "determinant", "(II)J"⟩, 31), (⟨"FormulaScalesModel", "hasOf", "(II)J"⟩, 31), (⟨"FormulaScalesModel", "makeBase", "(I)V"⟩, 31), (⟨"FormulaScalesModel", "write", "()V"⟩, 31), (⟨"FormulaScalesModel", "isBalanced", "()Z"⟩, 31), (⟨"FormulaScalesModel", "put", "(I)V"⟩, 31)]
theorem lw_r3 : ∀ q ∈ lw_privs_3, lw_okq q := List.forall_mem_cons.mpr ⟨lw_p32, List.forall_mem_cons.mpr ⟨lw_p33, List.forall_mem_cons.mpr ⟨lw_p34, List.forall_mem_cons.mpr ⟨lw_p35, List.forall_mem_cons.mpr ⟨lw_p36, List.forall_mem_cons.mpr ⟨lw_p37, List.forall_mem_cons.mpr ⟨lw_p38, List.forall_mem_cons.mpr ⟨lw_p39, List.forall_mem_cons.mpr ⟨lw_p40, List.forall_mem_cons.mpr ⟨lw_p41, List.forall_mem_cons.mpr ⟨lw_p42, List.forall_mem_cons.mpr ⟨lw_p43, List.forall_mem_cons.mpr ⟨lw_p44, List.forall_mem_cons.mpr ⟨lw_p45, List.forall_mem_cons.mpr ⟨lw_p46, List.forall_mem_cons.mpr ⟨lw_p47, fun _ h => absurd h List.not_mem_nil⟩⟩⟩⟩⟩⟩⟩⟩⟩⟩⟩⟩⟩⟩⟩⟩
theorem lw_p48 : lw_okq (⟨"FormulaScalesModel", "putNumber", "(J)V"⟩, 31) := ⟨⟨by decide +kernel, by decide +kernel⟩, List.mem_of_getElem? (i := 623) (by decide +kernel), List.mem_of_getElem? (i := 845) (by decide +kernel), List.mem_of_getElem? (i := 846) (by decide +kernel)⟩
theorem lw_p49 : lw_okq (⟨"FormulaScalesModel", "isKind", "(I)Z"⟩, 31) := ⟨⟨by decide +kernel, by decide +kernel⟩, List.mem_of_getElem? (i := 623) (by decide +kernel), List.mem_of_getElem? (i := 876) (by decide +kernel), List.mem_of_getElem? (i := 877) (by decide +kernel)⟩
theorem lw_p50 : lw_okq (⟨"FormulaScalesModel", "isFormula", "(I)Z"⟩, 31) := ⟨⟨by decide +kernel, by decide +kernel⟩, List.mem_of_getElem? (i := 623) (by decide +kernel), List.mem_of_getElem? (i := 884) (by decide +kernel), List.mem_of_getElem? (i := 885) (by decide +kernel)⟩
def lw_privs_4 : List (MethodName × Nat) := [(⟨"FormulaScalesModel", "putNumber", "(J)V"⟩, 31), (⟨"FormulaScalesModel", "isKind", "(I)Z"⟩, 31), (⟨"FormulaScalesModel", "isFormula", "(I)Z"⟩, 31)]
theorem lw_r4 : ∀ q ∈ lw_privs_4, lw_okq q := List.forall_mem_cons.mpr ⟨lw_p48, List.forall_mem_cons.mpr ⟨lw_p49, List.forall_mem_cons.mpr ⟨lw_p50, fun _ h => absurd h List.not_mem_nil⟩⟩⟩
def lw_privs : List (MethodName × Nat) := lw_privs_1 ++ (lw_privs_2 ++ (lw_privs_3 ++ (lw_privs_4)))
def lw_tbl : List Cond := k2_sels lw_privs ++ tables_1
theorem lw_privs_ok : ∀ q ∈ lw_privs, lw_okq q := by
  show ∀ q ∈ lw_privs_1 ++ (lw_privs_2 ++ (lw_privs_3 ++ (lw_privs_4))), lw_okq q
  exact List.forall_mem_append.mpr ⟨lw_r1, List.forall_mem_append.mpr ⟨lw_r2, List.forall_mem_append.mpr ⟨lw_r3, lw_r4⟩⟩⟩
end
section
def RX0 : String := "FormulaScales$Balance"
def RX1 : String := "FormulaScales$Equation"
def RX2 : String := "FormulaScales$Line"
def RX3 : String := "FormulaScales$Reader"
def RX4 : String := "FormulaScales$Text"
def RX5 : String := "FormulaScales"
def RX6 : String := "FormulaScalesModel"
def RL : String := "FormulaScalesLaw"
def RJ0 : String := "java/util/Arrays"
def RJ1 : String := "java/lang/Math"
def TX0 : u_T := fun k => match k with
  | 0 => ("FormulaScales$Balance", "dependent", "[Z", true)
  | 1 => ("FormulaScales$Balance", "bases", "[[J", true)
  | 2 => ("FormulaScales$Balance", "freeCount", "I", false)
  | 3 => ("FormulaScales$Balance", "verdict", "I", false)
  | 4 => ("FormulaScales$Balance", "rows", "[[J", true)
  | 5 => ("FormulaScales$Balance", "leading", "[I", true)
  | 6 => ("FormulaScales$Balance", "rank", "I", false)
  | 7 => ("FormulaScales$Balance", "height", "I", false)
  | 8 => ("FormulaScales$Balance", "width", "I", false)
  | _ => ("FormulaScales$Balance", "pivot", "J", false)
def tyX0 : Nat → FieldType := fun k => match k with
  | 0 => .array .boolean
  | 1 => .array (.array .long)
  | 2 => .int
  | 3 => .int
  | 4 => .array (.array .long)
  | 5 => .array .int
  | 6 => .int
  | 7 => .int
  | 8 => .int
  | _ => .long
theorem nmX0 : ∀ a, a < 10 → ∀ b, b < 10 → a ≠ b → (TX0 a).2.1 ≠ (TX0 b).2.1 := by decide +kernel
theorem tyX0_ok : ∀ k, k < 10 → parseFieldDescriptor (TX0 k).2.2.1 = some (tyX0 k) := by decide +kernel
def TX1 : u_T := fun k => match k with
  | 0 => ("FormulaScales$Equation", "elementNames", "[I", true)
  | 1 => ("FormulaScales$Equation", "amounts", "[[I", true)
  | 2 => ("FormulaScales$Equation", "charges", "[I", true)
  | 3 => ("FormulaScales$Equation", "begins", "[I", true)
  | 4 => ("FormulaScales$Equation", "ends", "[I", true)
  | 5 => ("FormulaScales$Equation", "formulaCount", "I", false)
  | 6 => ("FormulaScales$Equation", "reactantCount", "I", false)
  | 7 => ("FormulaScales$Equation", "elementCount", "I", false)
  | _ => ("FormulaScales$Equation", "charged", "Z", false)
def tyX1 : Nat → FieldType := fun k => match k with
  | 0 => .array .int
  | 1 => .array (.array .int)
  | 2 => .array .int
  | 3 => .array .int
  | 4 => .array .int
  | 5 => .int
  | 6 => .int
  | 7 => .int
  | _ => .boolean
theorem nmX1 : ∀ a, a < 9 → ∀ b, b < 9 → a ≠ b → (TX1 a).2.1 ≠ (TX1 b).2.1 := by decide +kernel
theorem tyX1_ok : ∀ k, k < 9 → parseFieldDescriptor (TX1 k).2.2.1 = some (tyX1 k) := by decide +kernel
def TX2 : u_T := fun k => match k with
  | 0 => ("FormulaScales$Line", "characters", "[C", true)
  | _ => ("FormulaScales$Line", "length", "I", false)
def tyX2 : Nat → FieldType := fun k => match k with
  | 0 => .array .char
  | _ => .int
theorem nmX2 : ∀ a, a < 2 → ∀ b, b < 2 → a ≠ b → (TX2 a).2.1 ≠ (TX2 b).2.1 := by decide +kernel
theorem tyX2_ok : ∀ k, k < 2 → parseFieldDescriptor (TX2 k).2.2.1 = some (tyX2 k) := by decide +kernel
def TX3 : u_T := fun k => match k with
  | 0 => ("FormulaScales$Reader", "text", "LFormulaScales$Text;", true)
  | 1 => ("FormulaScales$Reader", "equation", "LFormulaScales$Equation;", true)
  | 2 => ("FormulaScales$Reader", "fault", "I", false)
  | 3 => ("FormulaScales$Reader", "faultPlace", "I", false)
  | 4 => ("FormulaScales$Reader", "sums", "[[J", true)
  | 5 => ("FormulaScales$Reader", "closings", "[C", true)
  | 6 => ("FormulaScales$Reader", "depth", "I", false)
  | 7 => ("FormulaScales$Reader", "totals", "[J", true)
  | _ => ("FormulaScales$Reader", "charge", "I", false)
def tyX3 : Nat → FieldType := fun k => match k with
  | 0 => .object "FormulaScales$Text"
  | 1 => .object "FormulaScales$Equation"
  | 2 => .int
  | 3 => .int
  | 4 => .array (.array .long)
  | 5 => .array .char
  | 6 => .int
  | 7 => .array .long
  | _ => .int
theorem nmX3 : ∀ a, a < 9 → ∀ b, b < 9 → a ≠ b → (TX3 a).2.1 ≠ (TX3 b).2.1 := by decide +kernel
theorem tyX3_ok : ∀ k, k < 9 → parseFieldDescriptor (TX3 k).2.2.1 = some (tyX3 k) := by decide +kernel
def TX4 : u_T := fun k => match k with
  | 0 => ("FormulaScales$Text", "characters", "[C", true)
  | 1 => ("FormulaScales$Text", "length", "I", false)
  | _ => ("FormulaScales$Text", "place", "I", false)
def tyX4 : Nat → FieldType := fun k => match k with
  | 0 => .array .char
  | 1 => .int
  | _ => .int
theorem nmX4 : ∀ a, a < 3 → ∀ b, b < 3 → a ≠ b → (TX4 a).2.1 ≠ (TX4 b).2.1 := by decide +kernel
theorem tyX4_ok : ∀ k, k < 3 → parseFieldDescriptor (TX4 k).2.2.1 = some (tyX4 k) := by decide +kernel
def TX5 : u_T := fun k => match k with
  | 0 => ("FormulaScales", "reader", "LFormulaScales$Reader;", true)
  | 1 => ("FormulaScales", "balance", "LFormulaScales$Balance;", true)
  | _ => ("FormulaScales", "line", "LFormulaScales$Line;", true)
def tyX5 : Nat → FieldType := fun k => match k with
  | 0 => .object "FormulaScales$Reader"
  | 1 => .object "FormulaScales$Balance"
  | _ => .object "FormulaScales$Line"
theorem nmX5 : ∀ a, a < 3 → ∀ b, b < 3 → a ≠ b → (TX5 a).2.1 ≠ (TX5 b).2.1 := by decide +kernel
theorem tyX5_ok : ∀ k, k < 3 → parseFieldDescriptor (TX5 k).2.2.1 = some (tyX5 k) := by decide +kernel
def TX6 : u_T := fun k => match k with
  | 0 => ("FormulaScalesModel", "thrown", "I", false)
  | 1 => ("FormulaScalesModel", "typed", "I", false)
  | 2 => ("FormulaScalesModel", "draft", "[C", true)
  | 3 => ("FormulaScalesModel", "size", "I", false)
  | 4 => ("FormulaScalesModel", "text", "[C", true)
  | 5 => ("FormulaScalesModel", "pos", "I", false)
  | 6 => ("FormulaScalesModel", "fault", "I", false)
  | 7 => ("FormulaScalesModel", "faultAt", "I", false)
  | 8 => ("FormulaScalesModel", "told", "I", false)
  | 9 => ("FormulaScalesModel", "there", "Z", false)
  | 10 => ("FormulaScalesModel", "count", "I", false)
  | 11 => ("FormulaScalesModel", "begins", "[I", true)
  | 12 => ("FormulaScalesModel", "ends", "[I", true)
  | 13 => ("FormulaScalesModel", "right", "[Z", true)
  | 14 => ("FormulaScalesModel", "charges", "[J", true)
  | 15 => ("FormulaScalesModel", "has", "[J", true)
  | 16 => ("FormulaScalesModel", "elements", "I", false)
  | 17 => ("FormulaScalesModel", "names", "[I", true)
  | 18 => ("FormulaScalesModel", "charged", "Z", false)
  | 19 => ("FormulaScalesModel", "sums", "[J", true)
  | 20 => ("FormulaScalesModel", "bracket", "[C", true)
  | 21 => ("FormulaScalesModel", "open", "I", false)
  | 22 => ("FormulaScalesModel", "leads", "I", false)
  | 23 => ("FormulaScalesModel", "lead", "[I", true)
  | 24 => ("FormulaScalesModel", "isFree", "[Z", true)
  | 25 => ("FormulaScalesModel", "free", "I", false)
  | 26 => ("FormulaScalesModel", "bases", "[J", true)
  | 27 => ("FormulaScalesModel", "column", "[I", true)
  | 28 => ("FormulaScalesModel", "cells", "[J", true)
  | 29 => ("FormulaScalesModel", "lineSize", "I", false)
  | _ => ("FormulaScalesModel", "line", "[C", true)
def tyX6 : Nat → FieldType := fun k => match k with
  | 0 => .int
  | 1 => .int
  | 2 => .array .char
  | 3 => .int
  | 4 => .array .char
  | 5 => .int
  | 6 => .int
  | 7 => .int
  | 8 => .int
  | 9 => .boolean
  | 10 => .int
  | 11 => .array .int
  | 12 => .array .int
  | 13 => .array .boolean
  | 14 => .array .long
  | 15 => .array .long
  | 16 => .int
  | 17 => .array .int
  | 18 => .boolean
  | 19 => .array .long
  | 20 => .array .char
  | 21 => .int
  | 22 => .int
  | 23 => .array .int
  | 24 => .array .boolean
  | 25 => .int
  | 26 => .array .long
  | 27 => .array .int
  | 28 => .array .long
  | 29 => .int
  | _ => .array .char
theorem nmX6 : ∀ a, a < 31 → ∀ b, b < 31 → a ≠ b → (TX6 a).2.1 ≠ (TX6 b).2.1 := by decide +kernel
theorem tyX6_ok : ∀ k, k < 31 → parseFieldDescriptor (TX6 k).2.2.1 = some (tyX6 k) := by decide +kernel
abbrev vwCl : List vw_C := [(RX0, TX0, 10), (RX1, TX1, 9), (RX2, TX2, 2), (RX3, TX3, 9), (RX4, TX4, 3), (RX5, TX5, 3), (RX6, TX6, 31)]
def yX5_init : MethodName := ⟨RX5, "<init>", "()V"⟩
abbrev cX5_init : ByteArray := prog_1_method_1_code
def yX5_type : MethodName := ⟨RX5, "type", "(J)I"⟩
abbrev cX5_type : ByteArray := prog_1_method_2_code
def yX5_read : MethodName := ⟨RX5, "read", "()I"⟩
abbrev cX5_read : ByteArray := prog_1_method_3_code
def yX5_at : MethodName := ⟨RX5, "at", "()I"⟩
abbrev cX5_at : ByteArray := prog_1_method_4_code
def yX5_state : MethodName := ⟨RX5, "state", "()I"⟩
abbrev cX5_state : ByteArray := prog_1_method_5_code
def yX5_freedom : MethodName := ⟨RX5, "freedom", "()I"⟩
abbrev cX5_freedom : ByteArray := prog_1_method_6_code
def yX5_formulas : MethodName := ⟨RX5, "formulas", "()I"⟩
abbrev cX5_formulas : ByteArray := prog_1_method_7_code
def yX5_kinds : MethodName := ⟨RX5, "kinds", "()I"⟩
abbrev cX5_kinds : ByteArray := prog_1_method_8_code
def yX5_name : MethodName := ⟨RX5, "name", "(I)I"⟩
abbrev cX5_name : ByteArray := prog_1_method_9_code
def yX5_has : MethodName := ⟨RX5, "has", "(II)I"⟩
abbrev cX5_has : ByteArray := prog_1_method_10_code
def yX5_product : MethodName := ⟨RX5, "product", "(I)Z"⟩
abbrev cX5_product : ByteArray := prog_1_method_11_code
def yX5_free : MethodName := ⟨RX5, "free", "(I)Z"⟩
abbrev cX5_free : ByteArray := prog_1_method_12_code
def yX5_number : MethodName := ⟨RX5, "number", "(II)J"⟩
abbrev cX5_number : ByteArray := prog_1_method_13_code
def yX5_weight : MethodName := ⟨RX5, "weight", "(I)J"⟩
abbrev cX5_weight : ByteArray := prog_1_method_14_code
def yX5_written : MethodName := ⟨RX5, "written", "(I)I"⟩
abbrev cX5_written : ByteArray := prog_1_method_15_code
def yX5_solves : MethodName := ⟨RX5, "solves", "(IIIII)Z"⟩
abbrev cX5_solves : ByteArray := prog_1_method_16_code
def yX5_charactersIn : MethodName := ⟨RX5, "charactersIn", "(J)I"⟩
abbrev cX5_charactersIn : ByteArray := prog_1_method_17_code
def yX5_byteOf : MethodName := ⟨RX5, "byteOf", "(JI)I"⟩
abbrev cX5_byteOf : ByteArray := prog_1_method_18_code
def yX5_isPrintable : MethodName := ⟨RX5, "isPrintable", "(I)Z"⟩
abbrev cX5_isPrintable : ByteArray := prog_1_method_19_code
def yX5_isDigit : MethodName := ⟨RX5, "isDigit", "(C)Z"⟩
abbrev cX5_isDigit : ByteArray := prog_1_method_20_code
def yX5_isCapital : MethodName := ⟨RX5, "isCapital", "(C)Z"⟩
abbrev cX5_isCapital : ByteArray := prog_1_method_21_code
def yX5_isSmall : MethodName := ⟨RX5, "isSmall", "(C)Z"⟩
abbrev cX5_isSmall : ByteArray := prog_1_method_22_code
def yX6_init : MethodName := ⟨RX6, "<init>", "()V"⟩
abbrev cX6_init : ByteArray := prog_8_method_1_code
def yX6_thrown : MethodName := ⟨RX6, "thrown", "()I"⟩
abbrev cX6_thrown : ByteArray := prog_8_method_2_code
def yX6_type : MethodName := ⟨RX6, "type", "(J)I"⟩
abbrev cX6_type : ByteArray := prog_8_method_3_code
def yX6_fail : MethodName := ⟨RX6, "fail", "(II)V"⟩
abbrev cX6_fail : ByteArray := prog_8_method_4_code
def yX6_failIf : MethodName := ⟨RX6, "failIf", "(ZII)V"⟩
abbrev cX6_failIf : ByteArray := prog_8_method_5_code
def yX6_charAt : MethodName := ⟨RX6, "charAt", "(I)C"⟩
abbrev cX6_charAt : ByteArray := prog_8_method_6_code
def yX6_isDigit : MethodName := ⟨RX6, "isDigit", "(C)Z"⟩
abbrev cX6_isDigit : ByteArray := prog_8_method_7_code
def yX6_isCapital : MethodName := ⟨RX6, "isCapital", "(C)Z"⟩
abbrev cX6_isCapital : ByteArray := prog_8_method_8_code
def yX6_skip : MethodName := ⟨RX6, "skip", "()V"⟩
abbrev cX6_skip : ByteArray := prog_8_method_9_code
def yX6_number0 : MethodName := ⟨RX6, "number0", "()J"⟩
abbrev cX6_number0 : ByteArray := prog_8_method_10_code
def yX6_noteCharge : MethodName := ⟨RX6, "noteCharge", "(I)V"⟩
abbrev cX6_noteCharge : ByteArray := prog_8_method_11_code
def yX6_element : MethodName := ⟨RX6, "element", "()I"⟩
abbrev cX6_element : ByteArray := prog_8_method_12_code
def yX6_clearSums : MethodName := ⟨RX6, "clearSums", "()V"⟩
abbrev cX6_clearSums : ByteArray := prog_8_method_13_code
def yX6_readStep : MethodName := ⟨RX6, "readStep", "(Z)Z"⟩
abbrev cX6_readStep : ByteArray := prog_8_method_14_code
def yX6_readPart : MethodName := ⟨RX6, "readPart", "()V"⟩
abbrev cX6_readPart : ByteArray := prog_8_method_15_code
def yX6_readCharge : MethodName := ⟨RX6, "readCharge", "()V"⟩
abbrev cX6_readCharge : ByteArray := prog_8_method_16_code
def yX6_readFormula : MethodName := ⟨RX6, "readFormula", "(Z)V"⟩
abbrev cX6_readFormula : ByteArray := prog_8_method_17_code
def yX6_readSide : MethodName := ⟨RX6, "readSide", "(Z)V"⟩
abbrev cX6_readSide : ByteArray := prog_8_method_18_code
def yX6_read : MethodName := ⟨RX6, "read", "()I"⟩
abbrev cX6_read : ByteArray := prog_8_method_19_code
def yX6_at : MethodName := ⟨RX6, "at", "()I"⟩
abbrev cX6_at : ByteArray := prog_8_method_20_code
def yX6_kindCount : MethodName := ⟨RX6, "kindCount", "()I"⟩
abbrev cX6_kindCount : ByteArray := prog_8_method_21_code
def yX6_hasOf : MethodName := ⟨RX6, "hasOf", "(II)J"⟩
abbrev cX6_hasOf : ByteArray := prog_8_method_22_code
def yX6_determinant : MethodName := ⟨RX6, "determinant", "(II)J"⟩
abbrev cX6_determinant : ByteArray := prog_8_method_23_code
def yX6_sizeOf : MethodName := ⟨RX6, "sizeOf", "(I)I"⟩
abbrev cX6_sizeOf : ByteArray := prog_8_method_24_code
def yX6_rowsFor : MethodName := ⟨RX6, "rowsFor", "(I)I"⟩
abbrev cX6_rowsFor : ByteArray := prog_8_method_25_code
def yX6_common : MethodName := ⟨RX6, "common", "(JJ)J"⟩
abbrev cX6_common : ByteArray := prog_8_method_26_code
def yX6_noteLeads : MethodName := ⟨RX6, "noteLeads", "()V"⟩
abbrev cX6_noteLeads : ByteArray := prog_8_method_27_code
def yX6_makeBase : MethodName := ⟨RX6, "makeBase", "(I)V"⟩
abbrev cX6_makeBase : ByteArray := prog_8_method_28_code
def yX6_solve : MethodName := ⟨RX6, "solve", "()V"⟩
abbrev cX6_solve : ByteArray := prog_8_method_29_code
def yX6_isBalanced : MethodName := ⟨RX6, "isBalanced", "()Z"⟩
abbrev cX6_isBalanced : ByteArray := prog_8_method_30_code
def yX6_put : MethodName := ⟨RX6, "put", "(I)V"⟩
abbrev cX6_put : ByteArray := prog_8_method_31_code
def yX6_putNumber : MethodName := ⟨RX6, "putNumber", "(J)V"⟩
abbrev cX6_putNumber : ByteArray := prog_8_method_32_code
def yX6_write : MethodName := ⟨RX6, "write", "()V"⟩
abbrev cX6_write : ByteArray := prog_8_method_33_code
def yX6_state : MethodName := ⟨RX6, "state", "()I"⟩
abbrev cX6_state : ByteArray := prog_8_method_34_code
def yX6_freedom : MethodName := ⟨RX6, "freedom", "()I"⟩
abbrev cX6_freedom : ByteArray := prog_8_method_35_code
def yX6_formulas : MethodName := ⟨RX6, "formulas", "()I"⟩
abbrev cX6_formulas : ByteArray := prog_8_method_36_code
def yX6_kinds : MethodName := ⟨RX6, "kinds", "()I"⟩
abbrev cX6_kinds : ByteArray := prog_8_method_37_code
def yX6_isKind : MethodName := ⟨RX6, "isKind", "(I)Z"⟩
abbrev cX6_isKind : ByteArray := prog_8_method_38_code
def yX6_isFormula : MethodName := ⟨RX6, "isFormula", "(I)Z"⟩
abbrev cX6_isFormula : ByteArray := prog_8_method_39_code
def yX6_name : MethodName := ⟨RX6, "name", "(I)I"⟩
abbrev cX6_name : ByteArray := prog_8_method_40_code
def yX6_has : MethodName := ⟨RX6, "has", "(II)I"⟩
abbrev cX6_has : ByteArray := prog_8_method_41_code
def yX6_product : MethodName := ⟨RX6, "product", "(I)Z"⟩
abbrev cX6_product : ByteArray := prog_8_method_42_code
def yX6_free : MethodName := ⟨RX6, "free", "(I)Z"⟩
abbrev cX6_free : ByteArray := prog_8_method_43_code
def yX6_number : MethodName := ⟨RX6, "number", "(II)J"⟩
abbrev cX6_number : ByteArray := prog_8_method_44_code
def yX6_weight : MethodName := ⟨RX6, "weight", "(I)J"⟩
abbrev cX6_weight : ByteArray := prog_8_method_45_code
def yX6_written : MethodName := ⟨RX6, "written", "(I)I"⟩
abbrev cX6_written : ByteArray := prog_8_method_46_code
def yX6_solves : MethodName := ⟨RX6, "solves", "(IIIII)Z"⟩
abbrev cX6_solves : ByteArray := prog_8_method_47_code
def yX0_init : MethodName := ⟨RX0, "<init>", "()V"⟩
abbrev cX0_init : ByteArray := prog_2_method_1_code
def yX0_forget : MethodName := ⟨RX0, "forget", "()V"⟩
abbrev cX0_forget : ByteArray := prog_2_method_2_code
def yX0_solve : MethodName := ⟨RX0, "solve", "(LFormulaScales$Equation;)V"⟩
abbrev cX0_solve : ByteArray := prog_2_method_3_code
def yX0_takeRows : MethodName := ⟨RX0, "takeRows", "(LFormulaScales$Equation;)V"⟩
abbrev cX0_takeRows : ByteArray := prog_2_method_4_code
def yX0_reduce : MethodName := ⟨RX0, "reduce", "()V"⟩
abbrev cX0_reduce : ByteArray := prog_2_method_5_code
def yX0_pivotRow : MethodName := ⟨RX0, "pivotRow", "(I)I"⟩
abbrev cX0_pivotRow : ByteArray := prog_2_method_6_code
def yX0_swapRows : MethodName := ⟨RX0, "swapRows", "(II)V"⟩
abbrev cX0_swapRows : ByteArray := prog_2_method_7_code
def yX0_clearColumn : MethodName := ⟨RX0, "clearColumn", "(I)V"⟩
abbrev cX0_clearColumn : ByteArray := prog_2_method_8_code
def yX0_makeBase : MethodName := ⟨RX0, "makeBase", "([JI)V"⟩
abbrev cX0_makeBase : ByteArray := prog_2_method_9_code
def yX0_judge : MethodName := ⟨RX0, "judge", "()I"⟩
abbrev cX0_judge : ByteArray := prog_2_method_10_code
def yX0_quotient : MethodName := ⟨RX0, "quotient", "(JJ)J"⟩
abbrev cX0_quotient : ByteArray := prog_2_method_11_code
def yX0_commonDivisor : MethodName := ⟨RX0, "commonDivisor", "(JJ)J"⟩
abbrev cX0_commonDivisor : ByteArray := prog_2_method_12_code
def yX1_init : MethodName := ⟨RX1, "<init>", "()V"⟩
abbrev cX1_init : ByteArray := prog_3_method_1_code
def yX1_clear : MethodName := ⟨RX1, "clear", "()V"⟩
abbrev cX1_clear : ByteArray := prog_3_method_2_code
def yX1_kindCount : MethodName := ⟨RX1, "kindCount", "()I"⟩
abbrev cX1_kindCount : ByteArray := prog_3_method_3_code
def yX1_containsFormula : MethodName := ⟨RX1, "containsFormula", "(I)Z"⟩
abbrev cX1_containsFormula : ByteArray := prog_3_method_4_code
def yX1_containsKind : MethodName := ⟨RX1, "containsKind", "(I)Z"⟩
abbrev cX1_containsKind : ByteArray := prog_3_method_5_code
def yX1_isProduct : MethodName := ⟨RX1, "isProduct", "(I)Z"⟩
abbrev cX1_isProduct : ByteArray := prog_3_method_6_code
def yX1_kindName : MethodName := ⟨RX1, "kindName", "(I)I"⟩
abbrev cX1_kindName : ByteArray := prog_3_method_7_code
def yX1_amount : MethodName := ⟨RX1, "amount", "(II)I"⟩
abbrev cX1_amount : ByteArray := prog_3_method_8_code
def yX1_share : MethodName := ⟨RX1, "share", "(IIJ)J"⟩
abbrev cX1_share : ByteArray := prog_3_method_9_code
def yX1_elementKind : MethodName := ⟨RX1, "elementKind", "(I)I"⟩
abbrev cX1_elementKind : ByteArray := prog_3_method_10_code
def yX1_admitCharge : MethodName := ⟨RX1, "admitCharge", "()Z"⟩
abbrev cX1_admitCharge : ByteArray := prog_3_method_11_code
def yX1_addFormula : MethodName := ⟨RX1, "addFormula", "(II[JI)V"⟩
abbrev cX1_addFormula : ByteArray := prog_3_method_12_code
def yX2_init : MethodName := ⟨RX2, "<init>", "()V"⟩
abbrev cX2_init : ByteArray := prog_4_method_1_code
def yX2_characterAt : MethodName := ⟨RX2, "characterAt", "(I)I"⟩
abbrev cX2_characterAt : ByteArray := prog_4_method_2_code
def yX2_write : MethodName := ⟨RX2, "write", "(LFormulaScales$Equation;LFormulaScales$Text;[J)V"⟩
abbrev cX2_write : ByteArray := prog_4_method_3_code
def yX2_add : MethodName := ⟨RX2, "add", "(C)V"⟩
abbrev cX2_add : ByteArray := prog_4_method_4_code
def yX2_addSign : MethodName := ⟨RX2, "addSign", "(C)V"⟩
abbrev cX2_addSign : ByteArray := prog_4_method_5_code
def yX2_addNumber : MethodName := ⟨RX2, "addNumber", "(J)V"⟩
abbrev cX2_addNumber : ByteArray := prog_4_method_6_code
def yX2_turnRound : MethodName := ⟨RX2, "turnRound", "(I)V"⟩
abbrev cX2_turnRound : ByteArray := prog_4_method_7_code
def yX3_init : MethodName := ⟨RX3, "<init>", "()V"⟩
abbrev cX3_init : ByteArray := prog_5_method_1_code
def yX3_readEquation : MethodName := ⟨RX3, "readEquation", "()V"⟩
abbrev cX3_readEquation : ByteArray := prog_5_method_2_code
def yX3_meet : MethodName := ⟨RX3, "meet", "(II)V"⟩
abbrev cX3_meet : ByteArray := prog_5_method_3_code
def yX3_beginFormula : MethodName := ⟨RX3, "beginFormula", "()V"⟩
abbrev cX3_beginFormula : ByteArray := prog_5_method_4_code
def yX3_endFormula : MethodName := ⟨RX3, "endFormula", "(I)V"⟩
abbrev cX3_endFormula : ByteArray := prog_5_method_5_code
def yX3_isTooMuch : MethodName := ⟨RX3, "isTooMuch", "()Z"⟩
abbrev cX3_isTooMuch : ByteArray := prog_5_method_6_code
def yX3_readSign : MethodName := ⟨RX3, "readSign", "()Z"⟩
abbrev cX3_readSign : ByteArray := prog_5_method_7_code
def yX3_readElectron : MethodName := ⟨RX3, "readElectron", "()V"⟩
abbrev cX3_readElectron : ByteArray := prog_5_method_8_code
def yX3_readFormula : MethodName := ⟨RX3, "readFormula", "()V"⟩
abbrev cX3_readFormula : ByteArray := prog_5_method_9_code
def yX3_readCharge : MethodName := ⟨RX3, "readCharge", "()V"⟩
abbrev cX3_readCharge : ByteArray := prog_5_method_10_code
def yX3_readUnits : MethodName := ⟨RX3, "readUnits", "()V"⟩
abbrev cX3_readUnits : ByteArray := prog_5_method_11_code
def yX3_readElement : MethodName := ⟨RX3, "readElement", "(C)V"⟩
abbrev cX3_readElement : ByteArray := prog_5_method_12_code
def yX3_openGroup : MethodName := ⟨RX3, "openGroup", "(C)V"⟩
abbrev cX3_openGroup : ByteArray := prog_5_method_13_code
def yX3_closeGroup : MethodName := ⟨RX3, "closeGroup", "()V"⟩
abbrev cX3_closeGroup : ByteArray := prog_5_method_14_code
def yX3_readNumber : MethodName := ⟨RX3, "readNumber", "()I"⟩
abbrev cX3_readNumber : ByteArray := prog_5_method_15_code
def yX3_addTimes : MethodName := ⟨RX3, "addTimes", "([J[JI)V"⟩
abbrev cX3_addTimes : ByteArray := prog_5_method_16_code
def yX4_init : MethodName := ⟨RX4, "<init>", "()V"⟩
abbrev cX4_init : ByteArray := prog_6_method_1_code
def yX4_add : MethodName := ⟨RX4, "add", "(C)V"⟩
abbrev cX4_add : ByteArray := prog_6_method_2_code
def yX4_clear : MethodName := ⟨RX4, "clear", "()V"⟩
abbrev cX4_clear : ByteArray := prog_6_method_3_code
def yX4_here : MethodName := ⟨RX4, "here", "()C"⟩
abbrev cX4_here : ByteArray := prog_6_method_4_code
def yX4_ahead : MethodName := ⟨RX4, "ahead", "(I)C"⟩
abbrev cX4_ahead : ByteArray := prog_6_method_5_code
def yX4_skipBlanks : MethodName := ⟨RX4, "skipBlanks", "()V"⟩
abbrev cX4_skipBlanks : ByteArray := prog_6_method_6_code
def yL_type : MethodName := ⟨RL, "type", "(LFormulaScales;J[J)I"⟩
abbrev cL_type : ByteArray := method_3_code
def yL_name : MethodName := ⟨RL, "name", "(LFormulaScales;I[J)I"⟩
abbrev cL_name : ByteArray := method_4_code
def yL_has : MethodName := ⟨RL, "has", "(LFormulaScales;II[J)I"⟩
abbrev cL_has : ByteArray := method_5_code
def yL_product : MethodName := ⟨RL, "product", "(LFormulaScales;I[J)I"⟩
abbrev cL_product : ByteArray := method_6_code
def yL_free : MethodName := ⟨RL, "free", "(LFormulaScales;I[J)I"⟩
abbrev cL_free : ByteArray := method_7_code
def yL_number : MethodName := ⟨RL, "number", "(LFormulaScales;II[J)I"⟩
abbrev cL_number : ByteArray := method_8_code
def yL_weight : MethodName := ⟨RL, "weight", "(LFormulaScales;I[J)I"⟩
abbrev cL_weight : ByteArray := method_9_code
def yL_written : MethodName := ⟨RL, "written", "(LFormulaScales;I[J)I"⟩
abbrev cL_written : ByteArray := method_10_code
def yL_solves : MethodName := ⟨RL, "solves", "(LFormulaScales;IIIII[J)I"⟩
abbrev cL_solves : ByteArray := method_11_code
def yJ1_abs : MethodName := ⟨RJ1, "abs", "(J)J"⟩
abbrev cJ1_abs : ByteArray := prog_12_method_61_code
def yJ0_fill : MethodName := ⟨RJ0, "fill", "([JJ)V"⟩
abbrev cJ0_fill : ByteArray := prog_16_method_101_code
end
section
def kws : List Cond := lw_tbl.filter goodWord
theorem k_in {w : Cond} (h : w ∈ lw_tbl) (g : goodWord w = true) : w ∈ kws := List.mem_filter.mpr ⟨h, g⟩
theorem k_good {w : Cond} (h : w ∈ kws) : GoodIn kws (w :: kws) := fun x hx => by
  have hx2 : x ∈ kws := by
    rcases List.mem_cons.mp hx with e | e
    · rw [e]; exact h
    · exact e
  exact ⟨hx2, good_of_word (List.mem_filter.mp hx2).2⟩
theorem hinX0 : ∀ w ∈ u_ws RX0 TX0 10, w ∈ kws := by
  have h : (u_ws RX0 TX0 10).all (fun w => decide (w ∈ lw_tbl) && goodWord w) = true := by decide +kernel
  intro w hw
  have h1 := List.all_eq_true.mp h w hw
  rw [Bool.and_eq_true, decide_eq_true_eq] at h1
  exact k_in h1.1 h1.2
theorem hinX1 : ∀ w ∈ u_ws RX1 TX1 9, w ∈ kws := by
  have h : (u_ws RX1 TX1 9).all (fun w => decide (w ∈ lw_tbl) && goodWord w) = true := by decide +kernel
  intro w hw
  have h1 := List.all_eq_true.mp h w hw
  rw [Bool.and_eq_true, decide_eq_true_eq] at h1
  exact k_in h1.1 h1.2
theorem hinX2 : ∀ w ∈ u_ws RX2 TX2 2, w ∈ kws := by
  have h : (u_ws RX2 TX2 2).all (fun w => decide (w ∈ lw_tbl) && goodWord w) = true := by decide +kernel
  intro w hw
  have h1 := List.all_eq_true.mp h w hw
  rw [Bool.and_eq_true, decide_eq_true_eq] at h1
  exact k_in h1.1 h1.2
theorem hinX3 : ∀ w ∈ u_ws RX3 TX3 9, w ∈ kws := by
  have h : (u_ws RX3 TX3 9).all (fun w => decide (w ∈ lw_tbl) && goodWord w) = true := by decide +kernel
  intro w hw
  have h1 := List.all_eq_true.mp h w hw
  rw [Bool.and_eq_true, decide_eq_true_eq] at h1
  exact k_in h1.1 h1.2
theorem hinX4 : ∀ w ∈ u_ws RX4 TX4 3, w ∈ kws := by
  have h : (u_ws RX4 TX4 3).all (fun w => decide (w ∈ lw_tbl) && goodWord w) = true := by decide +kernel
  intro w hw
  have h1 := List.all_eq_true.mp h w hw
  rw [Bool.and_eq_true, decide_eq_true_eq] at h1
  exact k_in h1.1 h1.2
theorem hinX5 : ∀ w ∈ u_ws RX5 TX5 3, w ∈ kws := by
  have h : (u_ws RX5 TX5 3).all (fun w => decide (w ∈ lw_tbl) && goodWord w) = true := by decide +kernel
  intro w hw
  have h1 := List.all_eq_true.mp h w hw
  rw [Bool.and_eq_true, decide_eq_true_eq] at h1
  exact k_in h1.1 h1.2
theorem hinX6 : ∀ w ∈ u_ws RX6 TX6 31, w ∈ kws := by
  have h : (u_ws RX6 TX6 31).all (fun w => decide (w ∈ lw_tbl) && goodWord w) = true := by decide +kernel
  intro w hw
  have h1 := List.all_eq_true.mp h w hw
  rw [Bool.and_eq_true, decide_eq_true_eq] at h1
  exact k_in h1.1 h1.2
theorem kw_0 {args : Array Value} {s : State} (h : ∀ w ∈ kws, w.before args s = true) : (Cond.selects RX3 yX3_beginFormula yX3_beginFormula).before args s = true := h _ (k_in (List.mem_of_getElem? (i := 0) (by decide +kernel)) (by decide +kernel))
theorem kw_1 {args : Array Value} {s : State} (h : ∀ w ∈ kws, w.before args s = true) : (Cond.selects RX3 yX3_meet yX3_meet).before args s = true := h _ (k_in (List.mem_of_getElem? (i := 1) (by decide +kernel)) (by decide +kernel))
theorem kw_2 {args : Array Value} {s : State} (h : ∀ w ∈ kws, w.before args s = true) : (Cond.selects RX3 yX3_readElectron yX3_readElectron).before args s = true := h _ (k_in (List.mem_of_getElem? (i := 2) (by decide +kernel)) (by decide +kernel))
theorem kw_3 {args : Array Value} {s : State} (h : ∀ w ∈ kws, w.before args s = true) : (Cond.selects RX3 yX3_readFormula yX3_readFormula).before args s = true := h _ (k_in (List.mem_of_getElem? (i := 3) (by decide +kernel)) (by decide +kernel))
theorem kw_4 {args : Array Value} {s : State} (h : ∀ w ∈ kws, w.before args s = true) : (Cond.selects RX3 yX3_readNumber yX3_readNumber).before args s = true := h _ (k_in (List.mem_of_getElem? (i := 4) (by decide +kernel)) (by decide +kernel))
theorem kw_5 {args : Array Value} {s : State} (h : ∀ w ∈ kws, w.before args s = true) : (Cond.selects RX3 yX3_readUnits yX3_readUnits).before args s = true := h _ (k_in (List.mem_of_getElem? (i := 5) (by decide +kernel)) (by decide +kernel))
theorem kw_6 {args : Array Value} {s : State} (h : ∀ w ∈ kws, w.before args s = true) : (Cond.selects RX3 yX3_readElement yX3_readElement).before args s = true := h _ (k_in (List.mem_of_getElem? (i := 6) (by decide +kernel)) (by decide +kernel))
theorem kw_7 {args : Array Value} {s : State} (h : ∀ w ∈ kws, w.before args s = true) : (Cond.selects RX3 yX3_openGroup yX3_openGroup).before args s = true := h _ (k_in (List.mem_of_getElem? (i := 7) (by decide +kernel)) (by decide +kernel))
theorem kw_8 {args : Array Value} {s : State} (h : ∀ w ∈ kws, w.before args s = true) : (Cond.selects RX3 yX3_closeGroup yX3_closeGroup).before args s = true := h _ (k_in (List.mem_of_getElem? (i := 8) (by decide +kernel)) (by decide +kernel))
theorem kw_9 {args : Array Value} {s : State} (h : ∀ w ∈ kws, w.before args s = true) : (Cond.selects RX3 yX3_readCharge yX3_readCharge).before args s = true := h _ (k_in (List.mem_of_getElem? (i := 9) (by decide +kernel)) (by decide +kernel))
theorem kw_10 {args : Array Value} {s : State} (h : ∀ w ∈ kws, w.before args s = true) : (Cond.selects RX3 yX3_endFormula yX3_endFormula).before args s = true := h _ (k_in (List.mem_of_getElem? (i := 10) (by decide +kernel)) (by decide +kernel))
theorem kw_11 {args : Array Value} {s : State} (h : ∀ w ∈ kws, w.before args s = true) : (Cond.selects RX3 yX3_isTooMuch yX3_isTooMuch).before args s = true := h _ (k_in (List.mem_of_getElem? (i := 11) (by decide +kernel)) (by decide +kernel))
theorem kw_12 {args : Array Value} {s : State} (h : ∀ w ∈ kws, w.before args s = true) : (Cond.selects RX3 yX3_readSign yX3_readSign).before args s = true := h _ (k_in (List.mem_of_getElem? (i := 12) (by decide +kernel)) (by decide +kernel))
theorem kw_13 {args : Array Value} {s : State} (h : ∀ w ∈ kws, w.before args s = true) : (Cond.selects RX0 yX0_takeRows yX0_takeRows).before args s = true := h _ (k_in (List.mem_of_getElem? (i := 13) (by decide +kernel)) (by decide +kernel))
theorem kw_14 {args : Array Value} {s : State} (h : ∀ w ∈ kws, w.before args s = true) : (Cond.selects RX0 yX0_reduce yX0_reduce).before args s = true := h _ (k_in (List.mem_of_getElem? (i := 14) (by decide +kernel)) (by decide +kernel))
theorem kw_15 {args : Array Value} {s : State} (h : ∀ w ∈ kws, w.before args s = true) : (Cond.selects RX0 yX0_pivotRow yX0_pivotRow).before args s = true := h _ (k_in (List.mem_of_getElem? (i := 15) (by decide +kernel)) (by decide +kernel))
theorem kw_16 {args : Array Value} {s : State} (h : ∀ w ∈ kws, w.before args s = true) : (Cond.selects RX0 yX0_swapRows yX0_swapRows).before args s = true := h _ (k_in (List.mem_of_getElem? (i := 16) (by decide +kernel)) (by decide +kernel))
theorem kw_17 {args : Array Value} {s : State} (h : ∀ w ∈ kws, w.before args s = true) : (Cond.selects RX0 yX0_clearColumn yX0_clearColumn).before args s = true := h _ (k_in (List.mem_of_getElem? (i := 17) (by decide +kernel)) (by decide +kernel))
theorem kw_18 {args : Array Value} {s : State} (h : ∀ w ∈ kws, w.before args s = true) : (Cond.selects RX0 yX0_makeBase yX0_makeBase).before args s = true := h _ (k_in (List.mem_of_getElem? (i := 18) (by decide +kernel)) (by decide +kernel))
theorem kw_19 {args : Array Value} {s : State} (h : ∀ w ∈ kws, w.before args s = true) : (Cond.selects RX0 yX0_judge yX0_judge).before args s = true := h _ (k_in (List.mem_of_getElem? (i := 19) (by decide +kernel)) (by decide +kernel))
theorem kw_20 {args : Array Value} {s : State} (h : ∀ w ∈ kws, w.before args s = true) : (Cond.selects RX2 yX2_addSign yX2_addSign).before args s = true := h _ (k_in (List.mem_of_getElem? (i := 20) (by decide +kernel)) (by decide +kernel))
theorem kw_21 {args : Array Value} {s : State} (h : ∀ w ∈ kws, w.before args s = true) : (Cond.selects RX2 yX2_add yX2_add).before args s = true := h _ (k_in (List.mem_of_getElem? (i := 21) (by decide +kernel)) (by decide +kernel))
theorem kw_22 {args : Array Value} {s : State} (h : ∀ w ∈ kws, w.before args s = true) : (Cond.selects RX2 yX2_addNumber yX2_addNumber).before args s = true := h _ (k_in (List.mem_of_getElem? (i := 22) (by decide +kernel)) (by decide +kernel))
theorem kw_23 {args : Array Value} {s : State} (h : ∀ w ∈ kws, w.before args s = true) : (Cond.selects RX2 yX2_turnRound yX2_turnRound).before args s = true := h _ (k_in (List.mem_of_getElem? (i := 23) (by decide +kernel)) (by decide +kernel))
theorem kw_25 {args : Array Value} {s : State} (h : ∀ w ∈ kws, w.before args s = true) : (Cond.selects RX6 yX6_readSide yX6_readSide).before args s = true := h _ (k_in (List.mem_of_getElem? (i := 25) (by decide +kernel)) (by decide +kernel))
theorem kw_26 {args : Array Value} {s : State} (h : ∀ w ∈ kws, w.before args s = true) : (Cond.selects RX6 yX6_skip yX6_skip).before args s = true := h _ (k_in (List.mem_of_getElem? (i := 26) (by decide +kernel)) (by decide +kernel))
theorem kw_27 {args : Array Value} {s : State} (h : ∀ w ∈ kws, w.before args s = true) : (Cond.selects RX6 yX6_charAt yX6_charAt).before args s = true := h _ (k_in (List.mem_of_getElem? (i := 27) (by decide +kernel)) (by decide +kernel))
theorem kw_28 {args : Array Value} {s : State} (h : ∀ w ∈ kws, w.before args s = true) : (Cond.selects RX6 yX6_failIf yX6_failIf).before args s = true := h _ (k_in (List.mem_of_getElem? (i := 28) (by decide +kernel)) (by decide +kernel))
theorem kw_29 {args : Array Value} {s : State} (h : ∀ w ∈ kws, w.before args s = true) : (Cond.selects RX6 yX6_fail yX6_fail).before args s = true := h _ (k_in (List.mem_of_getElem? (i := 29) (by decide +kernel)) (by decide +kernel))
theorem kw_30 {args : Array Value} {s : State} (h : ∀ w ∈ kws, w.before args s = true) : (Cond.selects RX6 yX6_readFormula yX6_readFormula).before args s = true := h _ (k_in (List.mem_of_getElem? (i := 30) (by decide +kernel)) (by decide +kernel))
theorem kw_31 {args : Array Value} {s : State} (h : ∀ w ∈ kws, w.before args s = true) : (Cond.selects RX6 yX6_noteCharge yX6_noteCharge).before args s = true := h _ (k_in (List.mem_of_getElem? (i := 31) (by decide +kernel)) (by decide +kernel))
theorem kw_32 {args : Array Value} {s : State} (h : ∀ w ∈ kws, w.before args s = true) : (Cond.selects RX6 yX6_readPart yX6_readPart).before args s = true := h _ (k_in (List.mem_of_getElem? (i := 32) (by decide +kernel)) (by decide +kernel))
theorem kw_33 {args : Array Value} {s : State} (h : ∀ w ∈ kws, w.before args s = true) : (Cond.selects RX6 yX6_number0 yX6_number0).before args s = true := h _ (k_in (List.mem_of_getElem? (i := 33) (by decide +kernel)) (by decide +kernel))
theorem kw_34 {args : Array Value} {s : State} (h : ∀ w ∈ kws, w.before args s = true) : (Cond.selects RX6 yX6_clearSums yX6_clearSums).before args s = true := h _ (k_in (List.mem_of_getElem? (i := 34) (by decide +kernel)) (by decide +kernel))
theorem kw_35 {args : Array Value} {s : State} (h : ∀ w ∈ kws, w.before args s = true) : (Cond.selects RX6 yX6_readStep yX6_readStep).before args s = true := h _ (k_in (List.mem_of_getElem? (i := 35) (by decide +kernel)) (by decide +kernel))
theorem kw_36 {args : Array Value} {s : State} (h : ∀ w ∈ kws, w.before args s = true) : (Cond.selects RX6 yX6_element yX6_element).before args s = true := h _ (k_in (List.mem_of_getElem? (i := 36) (by decide +kernel)) (by decide +kernel))
theorem kw_37 {args : Array Value} {s : State} (h : ∀ w ∈ kws, w.before args s = true) : (Cond.selects RX6 yX6_readCharge yX6_readCharge).before args s = true := h _ (k_in (List.mem_of_getElem? (i := 37) (by decide +kernel)) (by decide +kernel))
theorem kw_38 {args : Array Value} {s : State} (h : ∀ w ∈ kws, w.before args s = true) : (Cond.selects RX6 yX6_solve yX6_solve).before args s = true := h _ (k_in (List.mem_of_getElem? (i := 38) (by decide +kernel)) (by decide +kernel))
theorem kw_39 {args : Array Value} {s : State} (h : ∀ w ∈ kws, w.before args s = true) : (Cond.selects RX6 yX6_noteLeads yX6_noteLeads).before args s = true := h _ (k_in (List.mem_of_getElem? (i := 39) (by decide +kernel)) (by decide +kernel))
theorem kw_40 {args : Array Value} {s : State} (h : ∀ w ∈ kws, w.before args s = true) : (Cond.selects RX6 yX6_kindCount yX6_kindCount).before args s = true := h _ (k_in (List.mem_of_getElem? (i := 40) (by decide +kernel)) (by decide +kernel))
theorem kw_41 {args : Array Value} {s : State} (h : ∀ w ∈ kws, w.before args s = true) : (Cond.selects RX6 yX6_rowsFor yX6_rowsFor).before args s = true := h _ (k_in (List.mem_of_getElem? (i := 41) (by decide +kernel)) (by decide +kernel))
theorem kw_42 {args : Array Value} {s : State} (h : ∀ w ∈ kws, w.before args s = true) : (Cond.selects RX6 yX6_determinant yX6_determinant).before args s = true := h _ (k_in (List.mem_of_getElem? (i := 42) (by decide +kernel)) (by decide +kernel))
theorem kw_43 {args : Array Value} {s : State} (h : ∀ w ∈ kws, w.before args s = true) : (Cond.selects RX6 yX6_hasOf yX6_hasOf).before args s = true := h _ (k_in (List.mem_of_getElem? (i := 43) (by decide +kernel)) (by decide +kernel))
theorem kw_44 {args : Array Value} {s : State} (h : ∀ w ∈ kws, w.before args s = true) : (Cond.selects RX6 yX6_makeBase yX6_makeBase).before args s = true := h _ (k_in (List.mem_of_getElem? (i := 44) (by decide +kernel)) (by decide +kernel))
theorem kw_45 {args : Array Value} {s : State} (h : ∀ w ∈ kws, w.before args s = true) : (Cond.selects RX6 yX6_write yX6_write).before args s = true := h _ (k_in (List.mem_of_getElem? (i := 45) (by decide +kernel)) (by decide +kernel))
theorem kw_46 {args : Array Value} {s : State} (h : ∀ w ∈ kws, w.before args s = true) : (Cond.selects RX6 yX6_isBalanced yX6_isBalanced).before args s = true := h _ (k_in (List.mem_of_getElem? (i := 46) (by decide +kernel)) (by decide +kernel))
theorem kw_47 {args : Array Value} {s : State} (h : ∀ w ∈ kws, w.before args s = true) : (Cond.selects RX6 yX6_put yX6_put).before args s = true := h _ (k_in (List.mem_of_getElem? (i := 47) (by decide +kernel)) (by decide +kernel))
theorem kw_48 {args : Array Value} {s : State} (h : ∀ w ∈ kws, w.before args s = true) : (Cond.selects RX6 yX6_putNumber yX6_putNumber).before args s = true := h _ (k_in (List.mem_of_getElem? (i := 48) (by decide +kernel)) (by decide +kernel))
theorem kw_49 {args : Array Value} {s : State} (h : ∀ w ∈ kws, w.before args s = true) : (Cond.selects RX6 yX6_isKind yX6_isKind).before args s = true := h _ (k_in (List.mem_of_getElem? (i := 49) (by decide +kernel)) (by decide +kernel))
theorem kw_50 {args : Array Value} {s : State} (h : ∀ w ∈ kws, w.before args s = true) : (Cond.selects RX6 yX6_isFormula yX6_isFormula).before args s = true := h _ (k_in (List.mem_of_getElem? (i := 50) (by decide +kernel)) (by decide +kernel))
theorem kw_52 {args : Array Value} {s : State} (h : ∀ w ∈ kws, w.before args s = true) : (Cond.initialized RX5).before args s = true := h _ (k_in (List.mem_of_getElem? (i := 52) (by decide +kernel)) (by decide +kernel))
theorem kw_53 {args : Array Value} {s : State} (h : ∀ w ∈ kws, w.before args s = true) : (Cond.initialized RX3).before args s = true := h _ (k_in (List.mem_of_getElem? (i := 53) (by decide +kernel)) (by decide +kernel))
theorem kw_54 {args : Array Value} {s : State} (h : ∀ w ∈ kws, w.before args s = true) : (Cond.initialized RX4).before args s = true := h _ (k_in (List.mem_of_getElem? (i := 54) (by decide +kernel)) (by decide +kernel))
theorem kw_55 {args : Array Value} {s : State} (h : ∀ w ∈ kws, w.before args s = true) : (Cond.initialized RX1).before args s = true := h _ (k_in (List.mem_of_getElem? (i := 55) (by decide +kernel)) (by decide +kernel))
theorem kw_56 {args : Array Value} {s : State} (h : ∀ w ∈ kws, w.before args s = true) : (Cond.initialized RX0).before args s = true := h _ (k_in (List.mem_of_getElem? (i := 56) (by decide +kernel)) (by decide +kernel))
theorem kw_57 {args : Array Value} {s : State} (h : ∀ w ∈ kws, w.before args s = true) : (Cond.initialized RX2).before args s = true := h _ (k_in (List.mem_of_getElem? (i := 57) (by decide +kernel)) (by decide +kernel))
theorem kw_58 {args : Array Value} {s : State} (h : ∀ w ∈ kws, w.before args s = true) : (Cond.initialized RX6).before args s = true := h _ (k_in (List.mem_of_getElem? (i := 58) (by decide +kernel)) (by decide +kernel))
theorem kw_64 {args : Array Value} {s : State} (h : ∀ w ∈ kws, w.before args s = true) : (Cond.initialized RJ0).before args s = true := h _ (k_in (List.mem_of_getElem? (i := 64) (by decide +kernel)) (by decide +kernel))
theorem kw_65 {args : Array Value} {s : State} (h : ∀ w ∈ kws, w.before args s = true) : (Cond.initialized RJ1).before args s = true := h _ (k_in (List.mem_of_getElem? (i := 65) (by decide +kernel)) (by decide +kernel))
theorem kw_88 {args : Array Value} {s : State} (h : ∀ w ∈ kws, w.before args s = true) : (Cond.fieldLink RX4 9 RX4 "characters" "[C").before args s = true := h _ (k_in (List.mem_of_getElem? (i := 88) (by decide +kernel)) (by decide +kernel))
theorem kw_89 {args : Array Value} {s : State} (h : ∀ w ∈ kws, w.before args s = true) : (Cond.fieldLink RX2 45 RX4 "characters" "[C").before args s = true := h _ (k_in (List.mem_of_getElem? (i := 89) (by decide +kernel)) (by decide +kernel))
theorem kw_90 {args : Array Value} {s : State} (h : ∀ w ∈ kws, w.before args s = true) : (Cond.fieldLink RX4 15 RX4 "length" "I").before args s = true := h _ (k_in (List.mem_of_getElem? (i := 90) (by decide +kernel)) (by decide +kernel))
theorem kw_91 {args : Array Value} {s : State} (h : ∀ w ∈ kws, w.before args s = true) : (Cond.fieldLink RX5 49 RX4 "length" "I").before args s = true := h _ (k_in (List.mem_of_getElem? (i := 91) (by decide +kernel)) (by decide +kernel))
theorem kw_92 {args : Array Value} {s : State} (h : ∀ w ∈ kws, w.before args s = true) : (Cond.fieldLink RX4 19 RX4 "place" "I").before args s = true := h _ (k_in (List.mem_of_getElem? (i := 92) (by decide +kernel)) (by decide +kernel))
theorem kw_93 {args : Array Value} {s : State} (h : ∀ w ∈ kws, w.before args s = true) : (Cond.fieldLink RX3 51 RX4 "place" "I").before args s = true := h _ (k_in (List.mem_of_getElem? (i := 93) (by decide +kernel)) (by decide +kernel))
theorem kw_110 {args : Array Value} {s : State} (h : ∀ w ∈ kws, w.before args s = true) : (Cond.fieldLink RX1 9 RX1 "elementNames" "[I").before args s = true := h _ (k_in (List.mem_of_getElem? (i := 110) (by decide +kernel)) (by decide +kernel))
theorem kw_111 {args : Array Value} {s : State} (h : ∀ w ∈ kws, w.before args s = true) : (Cond.fieldLink RX1 17 RX1 "amounts" "[[I").before args s = true := h _ (k_in (List.mem_of_getElem? (i := 111) (by decide +kernel)) (by decide +kernel))
theorem kw_112 {args : Array Value} {s : State} (h : ∀ w ∈ kws, w.before args s = true) : (Cond.fieldLink RX1 20 RX1 "charges" "[I").before args s = true := h _ (k_in (List.mem_of_getElem? (i := 112) (by decide +kernel)) (by decide +kernel))
theorem kw_113 {args : Array Value} {s : State} (h : ∀ w ∈ kws, w.before args s = true) : (Cond.fieldLink RX1 23 RX1 "begins" "[I").before args s = true := h _ (k_in (List.mem_of_getElem? (i := 113) (by decide +kernel)) (by decide +kernel))
theorem kw_114 {args : Array Value} {s : State} (h : ∀ w ∈ kws, w.before args s = true) : (Cond.fieldLink RX2 38 RX1 "begins" "[I").before args s = true := h _ (k_in (List.mem_of_getElem? (i := 114) (by decide +kernel)) (by decide +kernel))
theorem kw_115 {args : Array Value} {s : State} (h : ∀ w ∈ kws, w.before args s = true) : (Cond.fieldLink RX1 26 RX1 "ends" "[I").before args s = true := h _ (k_in (List.mem_of_getElem? (i := 115) (by decide +kernel)) (by decide +kernel))
theorem kw_116 {args : Array Value} {s : State} (h : ∀ w ∈ kws, w.before args s = true) : (Cond.fieldLink RX2 42 RX1 "ends" "[I").before args s = true := h _ (k_in (List.mem_of_getElem? (i := 116) (by decide +kernel)) (by decide +kernel))
theorem kw_117 {args : Array Value} {s : State} (h : ∀ w ∈ kws, w.before args s = true) : (Cond.fieldLink RX1 29 RX1 "formulaCount" "I").before args s = true := h _ (k_in (List.mem_of_getElem? (i := 117) (by decide +kernel)) (by decide +kernel))
theorem kw_118 {args : Array Value} {s : State} (h : ∀ w ∈ kws, w.before args s = true) : (Cond.fieldLink RX3 63 RX1 "formulaCount" "I").before args s = true := h _ (k_in (List.mem_of_getElem? (i := 118) (by decide +kernel)) (by decide +kernel))
theorem kw_119 {args : Array Value} {s : State} (h : ∀ w ∈ kws, w.before args s = true) : (Cond.fieldLink RX2 19 RX1 "formulaCount" "I").before args s = true := h _ (k_in (List.mem_of_getElem? (i := 119) (by decide +kernel)) (by decide +kernel))
theorem kw_120 {args : Array Value} {s : State} (h : ∀ w ∈ kws, w.before args s = true) : (Cond.fieldLink RX5 96 RX1 "formulaCount" "I").before args s = true := h _ (k_in (List.mem_of_getElem? (i := 120) (by decide +kernel)) (by decide +kernel))
theorem kw_121 {args : Array Value} {s : State} (h : ∀ w ∈ kws, w.before args s = true) : (Cond.fieldLink RX0 67 RX1 "formulaCount" "I").before args s = true := h _ (k_in (List.mem_of_getElem? (i := 121) (by decide +kernel)) (by decide +kernel))
theorem kw_122 {args : Array Value} {s : State} (h : ∀ w ∈ kws, w.before args s = true) : (Cond.fieldLink RX1 33 RX1 "reactantCount" "I").before args s = true := h _ (k_in (List.mem_of_getElem? (i := 122) (by decide +kernel)) (by decide +kernel))
theorem kw_123 {args : Array Value} {s : State} (h : ∀ w ∈ kws, w.before args s = true) : (Cond.fieldLink RX2 24 RX1 "reactantCount" "I").before args s = true := h _ (k_in (List.mem_of_getElem? (i := 123) (by decide +kernel)) (by decide +kernel))
theorem kw_124 {args : Array Value} {s : State} (h : ∀ w ∈ kws, w.before args s = true) : (Cond.fieldLink RX3 103 RX1 "reactantCount" "I").before args s = true := h _ (k_in (List.mem_of_getElem? (i := 124) (by decide +kernel)) (by decide +kernel))
theorem kw_125 {args : Array Value} {s : State} (h : ∀ w ∈ kws, w.before args s = true) : (Cond.fieldLink RX5 136 RX1 "reactantCount" "I").before args s = true := h _ (k_in (List.mem_of_getElem? (i := 125) (by decide +kernel)) (by decide +kernel))
theorem kw_126 {args : Array Value} {s : State} (h : ∀ w ∈ kws, w.before args s = true) : (Cond.fieldLink RX1 36 RX1 "elementCount" "I").before args s = true := h _ (k_in (List.mem_of_getElem? (i := 126) (by decide +kernel)) (by decide +kernel))
theorem kw_127 {args : Array Value} {s : State} (h : ∀ w ∈ kws, w.before args s = true) : (Cond.fieldLink RX1 39 RX1 "charged" "Z").before args s = true := h _ (k_in (List.mem_of_getElem? (i := 127) (by decide +kernel)) (by decide +kernel))
theorem kw_150 {args : Array Value} {s : State} (h : ∀ w ∈ kws, w.before args s = true) : (Cond.fieldLink RX3 12 RX3 "text" "LFormulaScales$Text;").before args s = true := h _ (k_in (List.mem_of_getElem? (i := 150) (by decide +kernel)) (by decide +kernel))
theorem kw_151 {args : Array Value} {s : State} (h : ∀ w ∈ kws, w.before args s = true) : (Cond.fieldLink RX5 45 RX3 "text" "LFormulaScales$Text;").before args s = true := h _ (k_in (List.mem_of_getElem? (i := 151) (by decide +kernel)) (by decide +kernel))
theorem kw_152 {args : Array Value} {s : State} (h : ∀ w ∈ kws, w.before args s = true) : (Cond.fieldLink RX3 21 RX3 "equation" "LFormulaScales$Equation;").before args s = true := h _ (k_in (List.mem_of_getElem? (i := 152) (by decide +kernel)) (by decide +kernel))
theorem kw_153 {args : Array Value} {s : State} (h : ∀ w ∈ kws, w.before args s = true) : (Cond.fieldLink RX5 62 RX3 "equation" "LFormulaScales$Equation;").before args s = true := h _ (k_in (List.mem_of_getElem? (i := 153) (by decide +kernel)) (by decide +kernel))
theorem kw_154 {args : Array Value} {s : State} (h : ∀ w ∈ kws, w.before args s = true) : (Cond.fieldLink RX3 25 RX3 "fault" "I").before args s = true := h _ (k_in (List.mem_of_getElem? (i := 154) (by decide +kernel)) (by decide +kernel))
theorem kw_155 {args : Array Value} {s : State} (h : ∀ w ∈ kws, w.before args s = true) : (Cond.fieldLink RX5 69 RX3 "fault" "I").before args s = true := h _ (k_in (List.mem_of_getElem? (i := 155) (by decide +kernel)) (by decide +kernel))
theorem kw_156 {args : Array Value} {s : State} (h : ∀ w ∈ kws, w.before args s = true) : (Cond.fieldLink RX3 29 RX3 "faultPlace" "I").before args s = true := h _ (k_in (List.mem_of_getElem? (i := 156) (by decide +kernel)) (by decide +kernel))
theorem kw_157 {args : Array Value} {s : State} (h : ∀ w ∈ kws, w.before args s = true) : (Cond.fieldLink RX5 99 RX3 "faultPlace" "I").before args s = true := h _ (k_in (List.mem_of_getElem? (i := 157) (by decide +kernel)) (by decide +kernel))
theorem kw_158 {args : Array Value} {s : State} (h : ∀ w ∈ kws, w.before args s = true) : (Cond.fieldLink RX3 34 RX3 "sums" "[[J").before args s = true := h _ (k_in (List.mem_of_getElem? (i := 158) (by decide +kernel)) (by decide +kernel))
theorem kw_159 {args : Array Value} {s : State} (h : ∀ w ∈ kws, w.before args s = true) : (Cond.fieldLink RX3 37 RX3 "closings" "[C").before args s = true := h _ (k_in (List.mem_of_getElem? (i := 159) (by decide +kernel)) (by decide +kernel))
theorem kw_160 {args : Array Value} {s : State} (h : ∀ w ∈ kws, w.before args s = true) : (Cond.fieldLink RX3 41 RX3 "depth" "I").before args s = true := h _ (k_in (List.mem_of_getElem? (i := 160) (by decide +kernel)) (by decide +kernel))
theorem kw_161 {args : Array Value} {s : State} (h : ∀ w ∈ kws, w.before args s = true) : (Cond.fieldLink RX3 44 RX3 "totals" "[J").before args s = true := h _ (k_in (List.mem_of_getElem? (i := 161) (by decide +kernel)) (by decide +kernel))
theorem kw_162 {args : Array Value} {s : State} (h : ∀ w ∈ kws, w.before args s = true) : (Cond.fieldLink RX3 48 RX3 "charge" "I").before args s = true := h _ (k_in (List.mem_of_getElem? (i := 162) (by decide +kernel)) (by decide +kernel))
theorem kw_190 {args : Array Value} {s : State} (h : ∀ w ∈ kws, w.before args s = true) : (Cond.fieldLink RX0 9 RX0 "dependent" "[Z").before args s = true := h _ (k_in (List.mem_of_getElem? (i := 190) (by decide +kernel)) (by decide +kernel))
theorem kw_191 {args : Array Value} {s : State} (h : ∀ w ∈ kws, w.before args s = true) : (Cond.fieldLink RX5 129 RX0 "dependent" "[Z").before args s = true := h _ (k_in (List.mem_of_getElem? (i := 191) (by decide +kernel)) (by decide +kernel))
theorem kw_192 {args : Array Value} {s : State} (h : ∀ w ∈ kws, w.before args s = true) : (Cond.fieldLink RX0 17 RX0 "bases" "[[J").before args s = true := h _ (k_in (List.mem_of_getElem? (i := 192) (by decide +kernel)) (by decide +kernel))
theorem kw_193 {args : Array Value} {s : State} (h : ∀ w ∈ kws, w.before args s = true) : (Cond.fieldLink RX5 87 RX0 "bases" "[[J").before args s = true := h _ (k_in (List.mem_of_getElem? (i := 193) (by decide +kernel)) (by decide +kernel))
theorem kw_194 {args : Array Value} {s : State} (h : ∀ w ∈ kws, w.before args s = true) : (Cond.fieldLink RX0 20 RX0 "freeCount" "I").before args s = true := h _ (k_in (List.mem_of_getElem? (i := 194) (by decide +kernel)) (by decide +kernel))
theorem kw_195 {args : Array Value} {s : State} (h : ∀ w ∈ kws, w.before args s = true) : (Cond.fieldLink RX5 102 RX0 "freeCount" "I").before args s = true := h _ (k_in (List.mem_of_getElem? (i := 195) (by decide +kernel)) (by decide +kernel))
theorem kw_196 {args : Array Value} {s : State} (h : ∀ w ∈ kws, w.before args s = true) : (Cond.fieldLink RX0 24 RX0 "verdict" "I").before args s = true := h _ (k_in (List.mem_of_getElem? (i := 196) (by decide +kernel)) (by decide +kernel))
theorem kw_197 {args : Array Value} {s : State} (h : ∀ w ∈ kws, w.before args s = true) : (Cond.fieldLink RX5 84 RX0 "verdict" "I").before args s = true := h _ (k_in (List.mem_of_getElem? (i := 197) (by decide +kernel)) (by decide +kernel))
theorem kw_198 {args : Array Value} {s : State} (h : ∀ w ∈ kws, w.before args s = true) : (Cond.fieldLink RX0 27 RX0 "rows" "[[J").before args s = true := h _ (k_in (List.mem_of_getElem? (i := 198) (by decide +kernel)) (by decide +kernel))
theorem kw_199 {args : Array Value} {s : State} (h : ∀ w ∈ kws, w.before args s = true) : (Cond.fieldLink RX0 30 RX0 "leading" "[I").before args s = true := h _ (k_in (List.mem_of_getElem? (i := 199) (by decide +kernel)) (by decide +kernel))
theorem kw_200 {args : Array Value} {s : State} (h : ∀ w ∈ kws, w.before args s = true) : (Cond.fieldLink RX0 34 RX0 "rank" "I").before args s = true := h _ (k_in (List.mem_of_getElem? (i := 200) (by decide +kernel)) (by decide +kernel))
theorem kw_201 {args : Array Value} {s : State} (h : ∀ w ∈ kws, w.before args s = true) : (Cond.fieldLink RX0 37 RX0 "height" "I").before args s = true := h _ (k_in (List.mem_of_getElem? (i := 201) (by decide +kernel)) (by decide +kernel))
theorem kw_202 {args : Array Value} {s : State} (h : ∀ w ∈ kws, w.before args s = true) : (Cond.fieldLink RX0 40 RX0 "width" "I").before args s = true := h _ (k_in (List.mem_of_getElem? (i := 202) (by decide +kernel)) (by decide +kernel))
theorem kw_203 {args : Array Value} {s : State} (h : ∀ w ∈ kws, w.before args s = true) : (Cond.fieldLink RX0 43 RX0 "pivot" "J").before args s = true := h _ (k_in (List.mem_of_getElem? (i := 203) (by decide +kernel)) (by decide +kernel))
theorem kw_232 {args : Array Value} {s : State} (h : ∀ w ∈ kws, w.before args s = true) : (Cond.fieldLink RX2 9 RX2 "characters" "[C").before args s = true := h _ (k_in (List.mem_of_getElem? (i := 232) (by decide +kernel)) (by decide +kernel))
theorem kw_233 {args : Array Value} {s : State} (h : ∀ w ∈ kws, w.before args s = true) : (Cond.fieldLink RX2 15 RX2 "length" "I").before args s = true := h _ (k_in (List.mem_of_getElem? (i := 233) (by decide +kernel)) (by decide +kernel))
theorem kw_239 {args : Array Value} {s : State} (h : ∀ w ∈ kws, w.before args s = true) : (Cond.fieldLink RX5 10 RX5 "reader" "LFormulaScales$Reader;").before args s = true := h _ (k_in (List.mem_of_getElem? (i := 239) (by decide +kernel)) (by decide +kernel))
theorem kw_240 {args : Array Value} {s : State} (h : ∀ w ∈ kws, w.before args s = true) : (Cond.fieldLink RX5 19 RX5 "balance" "LFormulaScales$Balance;").before args s = true := h _ (k_in (List.mem_of_getElem? (i := 240) (by decide +kernel)) (by decide +kernel))
theorem kw_241 {args : Array Value} {s : State} (h : ∀ w ∈ kws, w.before args s = true) : (Cond.fieldLink RX5 26 RX5 "line" "LFormulaScales$Line;").before args s = true := h _ (k_in (List.mem_of_getElem? (i := 241) (by decide +kernel)) (by decide +kernel))
theorem kw_250 {args : Array Value} {s : State} (h : ∀ w ∈ kws, w.before args s = true) : (Cond.instanceMethod yX5_read).before args s = true := h _ (k_in (List.mem_of_getElem? (i := 250) (by decide +kernel)) (by decide +kernel))
theorem kw_251 {args : Array Value} {s : State} (h : ∀ w ∈ kws, w.before args s = true) : (Cond.selects RX5 yX5_read yX5_read).before args s = true := h _ (k_in (List.mem_of_getElem? (i := 251) (by decide +kernel)) (by decide +kernel))
theorem kc_252 : Cond.code yX5_read prog_1_method_3_code 2 (some .int) ∈ kws := k_in (List.mem_of_getElem? (i := 252) (by decide +kernel)) (by decide +kernel)
theorem kw_253 {args : Array Value} {s : State} (h : ∀ w ∈ kws, w.before args s = true) : (Cond.methodLink RX5 66 yX3_readEquation).before args s = true := h _ (k_in (List.mem_of_getElem? (i := 253) (by decide +kernel)) (by decide +kernel))
theorem kw_254 {args : Array Value} {s : State} (h : ∀ w ∈ kws, w.before args s = true) : (Cond.instanceMethod yX3_readEquation).before args s = true := h _ (k_in (List.mem_of_getElem? (i := 254) (by decide +kernel)) (by decide +kernel))
theorem kw_255 {args : Array Value} {s : State} (h : ∀ w ∈ kws, w.before args s = true) : (Cond.selects RX3 yX3_readEquation yX3_readEquation).before args s = true := h _ (k_in (List.mem_of_getElem? (i := 255) (by decide +kernel)) (by decide +kernel))
theorem kc_256 : Cond.code yX3_readEquation prog_5_method_2_code 4 none ∈ kws := k_in (List.mem_of_getElem? (i := 256) (by decide +kernel)) (by decide +kernel)
theorem kw_257 {args : Array Value} {s : State} (h : ∀ w ∈ kws, w.before args s = true) : (Cond.methodLink RX3 54 yX1_clear).before args s = true := h _ (k_in (List.mem_of_getElem? (i := 257) (by decide +kernel)) (by decide +kernel))
theorem kw_258 {args : Array Value} {s : State} (h : ∀ w ∈ kws, w.before args s = true) : (Cond.instanceMethod yX1_clear).before args s = true := h _ (k_in (List.mem_of_getElem? (i := 258) (by decide +kernel)) (by decide +kernel))
theorem kw_259 {args : Array Value} {s : State} (h : ∀ w ∈ kws, w.before args s = true) : (Cond.selects RX1 yX1_clear yX1_clear).before args s = true := h _ (k_in (List.mem_of_getElem? (i := 259) (by decide +kernel)) (by decide +kernel))
theorem kc_260 : Cond.code yX1_clear prog_3_method_2_code 1 none ∈ kws := k_in (List.mem_of_getElem? (i := 260) (by decide +kernel)) (by decide +kernel)
theorem kw_261 {args : Array Value} {s : State} (h : ∀ w ∈ kws, w.before args s = true) : (Cond.methodLink RX3 57 yX4_skipBlanks).before args s = true := h _ (k_in (List.mem_of_getElem? (i := 261) (by decide +kernel)) (by decide +kernel))
theorem kw_262 {args : Array Value} {s : State} (h : ∀ w ∈ kws, w.before args s = true) : (Cond.instanceMethod yX4_skipBlanks).before args s = true := h _ (k_in (List.mem_of_getElem? (i := 262) (by decide +kernel)) (by decide +kernel))
theorem kw_263 {args : Array Value} {s : State} (h : ∀ w ∈ kws, w.before args s = true) : (Cond.selects RX4 yX4_skipBlanks yX4_skipBlanks).before args s = true := h _ (k_in (List.mem_of_getElem? (i := 263) (by decide +kernel)) (by decide +kernel))
theorem kc_264 : Cond.code yX4_skipBlanks prog_6_method_6_code 1 none ∈ kws := k_in (List.mem_of_getElem? (i := 264) (by decide +kernel)) (by decide +kernel)
theorem kw_265 {args : Array Value} {s : State} (h : ∀ w ∈ kws, w.before args s = true) : (Cond.methodLink RX3 60 yX3_beginFormula).before args s = true := h _ (k_in (List.mem_of_getElem? (i := 265) (by decide +kernel)) (by decide +kernel))
theorem kw_267 {args : Array Value} {s : State} (h : ∀ w ∈ kws, w.before args s = true) : (Cond.instanceMethod yX3_beginFormula).before args s = true := h _ (k_in (List.mem_of_getElem? (i := 267) (by decide +kernel)) (by decide +kernel))
theorem kc_268 : Cond.code yX3_beginFormula prog_5_method_4_code 1 none ∈ kws := k_in (List.mem_of_getElem? (i := 268) (by decide +kernel)) (by decide +kernel)
theorem kw_269 {args : Array Value} {s : State} (h : ∀ w ∈ kws, w.before args s = true) : (Cond.methodLink RX3 88 yJ0_fill).before args s = true := h _ (k_in (List.mem_of_getElem? (i := 269) (by decide +kernel)) (by decide +kernel))
theorem kw_270 {args : Array Value} {s : State} (h : ∀ w ∈ kws, w.before args s = true) : (Cond.static yJ0_fill).before args s = true := h _ (k_in (List.mem_of_getElem? (i := 270) (by decide +kernel)) (by decide +kernel))
theorem kc_271 : Cond.code yJ0_fill prog_16_method_101_code 5 none ∈ kws := k_in (List.mem_of_getElem? (i := 271) (by decide +kernel)) (by decide +kernel)
theorem kw_272 {args : Array Value} {s : State} (h : ∀ w ∈ kws, w.before args s = true) : (Cond.methodLink RX3 66 yX3_meet).before args s = true := h _ (k_in (List.mem_of_getElem? (i := 272) (by decide +kernel)) (by decide +kernel))
theorem kw_274 {args : Array Value} {s : State} (h : ∀ w ∈ kws, w.before args s = true) : (Cond.instanceMethod yX3_meet).before args s = true := h _ (k_in (List.mem_of_getElem? (i := 274) (by decide +kernel)) (by decide +kernel))
theorem kc_275 : Cond.code yX3_meet prog_5_method_3_code 3 none ∈ kws := k_in (List.mem_of_getElem? (i := 275) (by decide +kernel)) (by decide +kernel)
theorem kw_276 {args : Array Value} {s : State} (h : ∀ w ∈ kws, w.before args s = true) : (Cond.methodLink RX3 70 yX4_here).before args s = true := h _ (k_in (List.mem_of_getElem? (i := 276) (by decide +kernel)) (by decide +kernel))
theorem kw_277 {args : Array Value} {s : State} (h : ∀ w ∈ kws, w.before args s = true) : (Cond.instanceMethod yX4_here).before args s = true := h _ (k_in (List.mem_of_getElem? (i := 277) (by decide +kernel)) (by decide +kernel))
theorem kw_278 {args : Array Value} {s : State} (h : ∀ w ∈ kws, w.before args s = true) : (Cond.selects RX4 yX4_here yX4_here).before args s = true := h _ (k_in (List.mem_of_getElem? (i := 278) (by decide +kernel)) (by decide +kernel))
theorem kc_279 : Cond.code yX4_here prog_6_method_4_code 1 (some .char) ∈ kws := k_in (List.mem_of_getElem? (i := 279) (by decide +kernel)) (by decide +kernel)
theorem kw_280 {args : Array Value} {s : State} (h : ∀ w ∈ kws, w.before args s = true) : (Cond.methodLink RX3 74 yX3_readElectron).before args s = true := h _ (k_in (List.mem_of_getElem? (i := 280) (by decide +kernel)) (by decide +kernel))
theorem kw_282 {args : Array Value} {s : State} (h : ∀ w ∈ kws, w.before args s = true) : (Cond.instanceMethod yX3_readElectron).before args s = true := h _ (k_in (List.mem_of_getElem? (i := 282) (by decide +kernel)) (by decide +kernel))
theorem kc_283 : Cond.code yX3_readElectron prog_5_method_8_code 1 none ∈ kws := k_in (List.mem_of_getElem? (i := 283) (by decide +kernel)) (by decide +kernel)
theorem kw_284 {args : Array Value} {s : State} (h : ∀ w ∈ kws, w.before args s = true) : (Cond.methodLink RX3 106 yX4_ahead).before args s = true := h _ (k_in (List.mem_of_getElem? (i := 284) (by decide +kernel)) (by decide +kernel))
theorem kw_285 {args : Array Value} {s : State} (h : ∀ w ∈ kws, w.before args s = true) : (Cond.instanceMethod yX4_ahead).before args s = true := h _ (k_in (List.mem_of_getElem? (i := 285) (by decide +kernel)) (by decide +kernel))
theorem kw_286 {args : Array Value} {s : State} (h : ∀ w ∈ kws, w.before args s = true) : (Cond.selects RX4 yX4_ahead yX4_ahead).before args s = true := h _ (k_in (List.mem_of_getElem? (i := 286) (by decide +kernel)) (by decide +kernel))
theorem kc_287 : Cond.code yX4_ahead prog_6_method_5_code 3 (some .char) ∈ kws := k_in (List.mem_of_getElem? (i := 287) (by decide +kernel)) (by decide +kernel)
theorem kw_288 {args : Array Value} {s : State} (h : ∀ w ∈ kws, w.before args s = true) : (Cond.methodLink RX3 110 yX1_admitCharge).before args s = true := h _ (k_in (List.mem_of_getElem? (i := 288) (by decide +kernel)) (by decide +kernel))
theorem kw_289 {args : Array Value} {s : State} (h : ∀ w ∈ kws, w.before args s = true) : (Cond.instanceMethod yX1_admitCharge).before args s = true := h _ (k_in (List.mem_of_getElem? (i := 289) (by decide +kernel)) (by decide +kernel))
theorem kw_290 {args : Array Value} {s : State} (h : ∀ w ∈ kws, w.before args s = true) : (Cond.selects RX1 yX1_admitCharge yX1_admitCharge).before args s = true := h _ (k_in (List.mem_of_getElem? (i := 290) (by decide +kernel)) (by decide +kernel))
theorem kc_291 : Cond.code yX1_admitCharge prog_3_method_11_code 1 (some .boolean) ∈ kws := k_in (List.mem_of_getElem? (i := 291) (by decide +kernel)) (by decide +kernel)
theorem kw_292 {args : Array Value} {s : State} (h : ∀ w ∈ kws, w.before args s = true) : (Cond.methodLink RX3 77 yX3_readFormula).before args s = true := h _ (k_in (List.mem_of_getElem? (i := 292) (by decide +kernel)) (by decide +kernel))
theorem kw_294 {args : Array Value} {s : State} (h : ∀ w ∈ kws, w.before args s = true) : (Cond.instanceMethod yX3_readFormula).before args s = true := h _ (k_in (List.mem_of_getElem? (i := 294) (by decide +kernel)) (by decide +kernel))
theorem kc_295 : Cond.code yX3_readFormula prog_5_method_9_code 4 none ∈ kws := k_in (List.mem_of_getElem? (i := 295) (by decide +kernel)) (by decide +kernel)
theorem kw_296 {args : Array Value} {s : State} (h : ∀ w ∈ kws, w.before args s = true) : (Cond.methodLink RX3 113 yX3_readNumber).before args s = true := h _ (k_in (List.mem_of_getElem? (i := 296) (by decide +kernel)) (by decide +kernel))
theorem kw_298 {args : Array Value} {s : State} (h : ∀ w ∈ kws, w.before args s = true) : (Cond.instanceMethod yX3_readNumber).before args s = true := h _ (k_in (List.mem_of_getElem? (i := 298) (by decide +kernel)) (by decide +kernel))
theorem kc_299 : Cond.code yX3_readNumber prog_5_method_15_code 5 (some .int) ∈ kws := k_in (List.mem_of_getElem? (i := 299) (by decide +kernel)) (by decide +kernel)
theorem kw_301 {args : Array Value} {s : State} (h : ∀ w ∈ kws, w.before args s = true) : (Cond.static yX5_isDigit).before args s = true := h _ (k_in (List.mem_of_getElem? (i := 301) (by decide +kernel)) (by decide +kernel))
theorem kc_302 : Cond.code yX5_isDigit prog_1_method_20_code 1 (some .boolean) ∈ kws := k_in (List.mem_of_getElem? (i := 302) (by decide +kernel)) (by decide +kernel)
theorem kw_303 {args : Array Value} {s : State} (h : ∀ w ∈ kws, w.before args s = true) : (Cond.methodLink RX3 117 yX3_readUnits).before args s = true := h _ (k_in (List.mem_of_getElem? (i := 303) (by decide +kernel)) (by decide +kernel))
theorem kw_305 {args : Array Value} {s : State} (h : ∀ w ∈ kws, w.before args s = true) : (Cond.instanceMethod yX3_readUnits).before args s = true := h _ (k_in (List.mem_of_getElem? (i := 305) (by decide +kernel)) (by decide +kernel))
theorem kc_306 : Cond.code yX3_readUnits prog_5_method_11_code 5 none ∈ kws := k_in (List.mem_of_getElem? (i := 306) (by decide +kernel)) (by decide +kernel)
theorem kw_308 {args : Array Value} {s : State} (h : ∀ w ∈ kws, w.before args s = true) : (Cond.static yX5_isCapital).before args s = true := h _ (k_in (List.mem_of_getElem? (i := 308) (by decide +kernel)) (by decide +kernel))
theorem kc_309 : Cond.code yX5_isCapital prog_1_method_21_code 1 (some .boolean) ∈ kws := k_in (List.mem_of_getElem? (i := 309) (by decide +kernel)) (by decide +kernel)
theorem kw_310 {args : Array Value} {s : State} (h : ∀ w ∈ kws, w.before args s = true) : (Cond.methodLink RX3 131 yX3_readElement).before args s = true := h _ (k_in (List.mem_of_getElem? (i := 310) (by decide +kernel)) (by decide +kernel))
theorem kw_312 {args : Array Value} {s : State} (h : ∀ w ∈ kws, w.before args s = true) : (Cond.instanceMethod yX3_readElement).before args s = true := h _ (k_in (List.mem_of_getElem? (i := 312) (by decide +kernel)) (by decide +kernel))
theorem kc_313 : Cond.code yX3_readElement prog_5_method_12_code 5 none ∈ kws := k_in (List.mem_of_getElem? (i := 313) (by decide +kernel)) (by decide +kernel)
theorem kw_315 {args : Array Value} {s : State} (h : ∀ w ∈ kws, w.before args s = true) : (Cond.static yX5_isSmall).before args s = true := h _ (k_in (List.mem_of_getElem? (i := 315) (by decide +kernel)) (by decide +kernel))
theorem kc_316 : Cond.code yX5_isSmall prog_1_method_22_code 1 (some .boolean) ∈ kws := k_in (List.mem_of_getElem? (i := 316) (by decide +kernel)) (by decide +kernel)
theorem kw_317 {args : Array Value} {s : State} (h : ∀ w ∈ kws, w.before args s = true) : (Cond.methodLink RX3 144 yX1_elementKind).before args s = true := h _ (k_in (List.mem_of_getElem? (i := 317) (by decide +kernel)) (by decide +kernel))
theorem kw_318 {args : Array Value} {s : State} (h : ∀ w ∈ kws, w.before args s = true) : (Cond.instanceMethod yX1_elementKind).before args s = true := h _ (k_in (List.mem_of_getElem? (i := 318) (by decide +kernel)) (by decide +kernel))
theorem kw_319 {args : Array Value} {s : State} (h : ∀ w ∈ kws, w.before args s = true) : (Cond.selects RX1 yX1_elementKind yX1_elementKind).before args s = true := h _ (k_in (List.mem_of_getElem? (i := 319) (by decide +kernel)) (by decide +kernel))
theorem kc_320 : Cond.code yX1_elementKind prog_3_method_10_code 3 (some .int) ∈ kws := k_in (List.mem_of_getElem? (i := 320) (by decide +kernel)) (by decide +kernel)
theorem kw_321 {args : Array Value} {s : State} (h : ∀ w ∈ kws, w.before args s = true) : (Cond.methodLink RX1 43 yX1_kindCount).before args s = true := h _ (k_in (List.mem_of_getElem? (i := 321) (by decide +kernel)) (by decide +kernel))
theorem kw_322 {args : Array Value} {s : State} (h : ∀ w ∈ kws, w.before args s = true) : (Cond.instanceMethod yX1_kindCount).before args s = true := h _ (k_in (List.mem_of_getElem? (i := 322) (by decide +kernel)) (by decide +kernel))
theorem kw_323 {args : Array Value} {s : State} (h : ∀ w ∈ kws, w.before args s = true) : (Cond.selects RX1 yX1_kindCount yX1_kindCount).before args s = true := h _ (k_in (List.mem_of_getElem? (i := 323) (by decide +kernel)) (by decide +kernel))
theorem kc_324 : Cond.code yX1_kindCount prog_3_method_3_code 1 (some .int) ∈ kws := k_in (List.mem_of_getElem? (i := 324) (by decide +kernel)) (by decide +kernel)
theorem kw_325 {args : Array Value} {s : State} (h : ∀ w ∈ kws, w.before args s = true) : (Cond.methodLink RX3 135 yX3_openGroup).before args s = true := h _ (k_in (List.mem_of_getElem? (i := 325) (by decide +kernel)) (by decide +kernel))
theorem kw_327 {args : Array Value} {s : State} (h : ∀ w ∈ kws, w.before args s = true) : (Cond.instanceMethod yX3_openGroup).before args s = true := h _ (k_in (List.mem_of_getElem? (i := 327) (by decide +kernel)) (by decide +kernel))
theorem kc_328 : Cond.code yX3_openGroup prog_5_method_13_code 2 none ∈ kws := k_in (List.mem_of_getElem? (i := 328) (by decide +kernel)) (by decide +kernel)
theorem kw_329 {args : Array Value} {s : State} (h : ∀ w ∈ kws, w.before args s = true) : (Cond.methodLink RX3 138 yX3_closeGroup).before args s = true := h _ (k_in (List.mem_of_getElem? (i := 329) (by decide +kernel)) (by decide +kernel))
theorem kw_331 {args : Array Value} {s : State} (h : ∀ w ∈ kws, w.before args s = true) : (Cond.instanceMethod yX3_closeGroup).before args s = true := h _ (k_in (List.mem_of_getElem? (i := 331) (by decide +kernel)) (by decide +kernel))
theorem kc_332 : Cond.code yX3_closeGroup prog_5_method_14_code 2 none ∈ kws := k_in (List.mem_of_getElem? (i := 332) (by decide +kernel)) (by decide +kernel)
theorem kw_333 {args : Array Value} {s : State} (h : ∀ w ∈ kws, w.before args s = true) : (Cond.methodLink RX3 120 yX3_addTimes).before args s = true := h _ (k_in (List.mem_of_getElem? (i := 333) (by decide +kernel)) (by decide +kernel))
theorem kw_334 {args : Array Value} {s : State} (h : ∀ w ∈ kws, w.before args s = true) : (Cond.static yX3_addTimes).before args s = true := h _ (k_in (List.mem_of_getElem? (i := 334) (by decide +kernel)) (by decide +kernel))
theorem kc_335 : Cond.code yX3_addTimes prog_5_method_16_code 4 none ∈ kws := k_in (List.mem_of_getElem? (i := 335) (by decide +kernel)) (by decide +kernel)
theorem kw_336 {args : Array Value} {s : State} (h : ∀ w ∈ kws, w.before args s = true) : (Cond.methodLink RX3 124 yX3_readCharge).before args s = true := h _ (k_in (List.mem_of_getElem? (i := 336) (by decide +kernel)) (by decide +kernel))
theorem kw_338 {args : Array Value} {s : State} (h : ∀ w ∈ kws, w.before args s = true) : (Cond.instanceMethod yX3_readCharge).before args s = true := h _ (k_in (List.mem_of_getElem? (i := 338) (by decide +kernel)) (by decide +kernel))
theorem kc_339 : Cond.code yX3_readCharge prog_5_method_10_code 3 none ∈ kws := k_in (List.mem_of_getElem? (i := 339) (by decide +kernel)) (by decide +kernel)
theorem kw_340 {args : Array Value} {s : State} (h : ∀ w ∈ kws, w.before args s = true) : (Cond.methodLink RX3 80 yX3_endFormula).before args s = true := h _ (k_in (List.mem_of_getElem? (i := 340) (by decide +kernel)) (by decide +kernel))
theorem kw_342 {args : Array Value} {s : State} (h : ∀ w ∈ kws, w.before args s = true) : (Cond.instanceMethod yX3_endFormula).before args s = true := h _ (k_in (List.mem_of_getElem? (i := 342) (by decide +kernel)) (by decide +kernel))
theorem kc_343 : Cond.code yX3_endFormula prog_5_method_5_code 2 none ∈ kws := k_in (List.mem_of_getElem? (i := 343) (by decide +kernel)) (by decide +kernel)
theorem kw_344 {args : Array Value} {s : State} (h : ∀ w ∈ kws, w.before args s = true) : (Cond.methodLink RX3 94 yX3_isTooMuch).before args s = true := h _ (k_in (List.mem_of_getElem? (i := 344) (by decide +kernel)) (by decide +kernel))
theorem kw_346 {args : Array Value} {s : State} (h : ∀ w ∈ kws, w.before args s = true) : (Cond.instanceMethod yX3_isTooMuch).before args s = true := h _ (k_in (List.mem_of_getElem? (i := 346) (by decide +kernel)) (by decide +kernel))
theorem kc_347 : Cond.code yX3_isTooMuch prog_5_method_6_code 2 (some .boolean) ∈ kws := k_in (List.mem_of_getElem? (i := 347) (by decide +kernel)) (by decide +kernel)
theorem kw_348 {args : Array Value} {s : State} (h : ∀ w ∈ kws, w.before args s = true) : (Cond.constantLong RX3 101 40).before args s = true := h _ (k_in (List.mem_of_getElem? (i := 348) (by decide +kernel)) (by decide +kernel))
theorem kw_349 {args : Array Value} {s : State} (h : ∀ w ∈ kws, w.before args s = true) : (Cond.methodLink RX3 97 yX1_addFormula).before args s = true := h _ (k_in (List.mem_of_getElem? (i := 349) (by decide +kernel)) (by decide +kernel))
theorem kw_350 {args : Array Value} {s : State} (h : ∀ w ∈ kws, w.before args s = true) : (Cond.instanceMethod yX1_addFormula).before args s = true := h _ (k_in (List.mem_of_getElem? (i := 350) (by decide +kernel)) (by decide +kernel))
theorem kw_351 {args : Array Value} {s : State} (h : ∀ w ∈ kws, w.before args s = true) : (Cond.selects RX1 yX1_addFormula yX1_addFormula).before args s = true := h _ (k_in (List.mem_of_getElem? (i := 351) (by decide +kernel)) (by decide +kernel))
theorem kc_352 : Cond.code yX1_addFormula prog_3_method_12_code 6 none ∈ kws := k_in (List.mem_of_getElem? (i := 352) (by decide +kernel)) (by decide +kernel)
theorem kw_353 {args : Array Value} {s : State} (h : ∀ w ∈ kws, w.before args s = true) : (Cond.methodLink RX3 84 yX3_readSign).before args s = true := h _ (k_in (List.mem_of_getElem? (i := 353) (by decide +kernel)) (by decide +kernel))
theorem kw_355 {args : Array Value} {s : State} (h : ∀ w ∈ kws, w.before args s = true) : (Cond.instanceMethod yX3_readSign).before args s = true := h _ (k_in (List.mem_of_getElem? (i := 355) (by decide +kernel)) (by decide +kernel))
theorem kc_356 : Cond.code yX3_readSign prog_5_method_7_code 3 (some .boolean) ∈ kws := k_in (List.mem_of_getElem? (i := 356) (by decide +kernel)) (by decide +kernel)
theorem kw_357 {args : Array Value} {s : State} (h : ∀ w ∈ kws, w.before args s = true) : (Cond.methodLink RX5 72 yX0_solve).before args s = true := h _ (k_in (List.mem_of_getElem? (i := 357) (by decide +kernel)) (by decide +kernel))
theorem kw_358 {args : Array Value} {s : State} (h : ∀ w ∈ kws, w.before args s = true) : (Cond.instanceMethod yX0_solve).before args s = true := h _ (k_in (List.mem_of_getElem? (i := 358) (by decide +kernel)) (by decide +kernel))
theorem kw_359 {args : Array Value} {s : State} (h : ∀ w ∈ kws, w.before args s = true) : (Cond.selects RX0 yX0_solve yX0_solve).before args s = true := h _ (k_in (List.mem_of_getElem? (i := 359) (by decide +kernel)) (by decide +kernel))
theorem kc_360 : Cond.code yX0_solve prog_2_method_3_code 3 none ∈ kws := k_in (List.mem_of_getElem? (i := 360) (by decide +kernel)) (by decide +kernel)
theorem kw_361 {args : Array Value} {s : State} (h : ∀ w ∈ kws, w.before args s = true) : (Cond.methodLink RX0 47 yX0_takeRows).before args s = true := h _ (k_in (List.mem_of_getElem? (i := 361) (by decide +kernel)) (by decide +kernel))
theorem kw_363 {args : Array Value} {s : State} (h : ∀ w ∈ kws, w.before args s = true) : (Cond.instanceMethod yX0_takeRows).before args s = true := h _ (k_in (List.mem_of_getElem? (i := 363) (by decide +kernel)) (by decide +kernel))
theorem kc_364 : Cond.code yX0_takeRows prog_2_method_4_code 4 none ∈ kws := k_in (List.mem_of_getElem? (i := 364) (by decide +kernel)) (by decide +kernel)
theorem kw_365 {args : Array Value} {s : State} (h : ∀ w ∈ kws, w.before args s = true) : (Cond.methodLink RX0 62 yX1_kindCount).before args s = true := h _ (k_in (List.mem_of_getElem? (i := 365) (by decide +kernel)) (by decide +kernel))
theorem kw_366 {args : Array Value} {s : State} (h : ∀ w ∈ kws, w.before args s = true) : (Cond.methodLink RX0 70 yX1_share).before args s = true := h _ (k_in (List.mem_of_getElem? (i := 366) (by decide +kernel)) (by decide +kernel))
theorem kw_367 {args : Array Value} {s : State} (h : ∀ w ∈ kws, w.before args s = true) : (Cond.instanceMethod yX1_share).before args s = true := h _ (k_in (List.mem_of_getElem? (i := 367) (by decide +kernel)) (by decide +kernel))
theorem kw_368 {args : Array Value} {s : State} (h : ∀ w ∈ kws, w.before args s = true) : (Cond.selects RX1 yX1_share yX1_share).before args s = true := h _ (k_in (List.mem_of_getElem? (i := 368) (by decide +kernel)) (by decide +kernel))
theorem kc_369 : Cond.code yX1_share prog_3_method_9_code 7 (some .long) ∈ kws := k_in (List.mem_of_getElem? (i := 369) (by decide +kernel)) (by decide +kernel)
theorem kw_370 {args : Array Value} {s : State} (h : ∀ w ∈ kws, w.before args s = true) : (Cond.methodLink RX1 47 yX1_containsFormula).before args s = true := h _ (k_in (List.mem_of_getElem? (i := 370) (by decide +kernel)) (by decide +kernel))
theorem kw_371 {args : Array Value} {s : State} (h : ∀ w ∈ kws, w.before args s = true) : (Cond.instanceMethod yX1_containsFormula).before args s = true := h _ (k_in (List.mem_of_getElem? (i := 371) (by decide +kernel)) (by decide +kernel))
theorem kw_372 {args : Array Value} {s : State} (h : ∀ w ∈ kws, w.before args s = true) : (Cond.selects RX1 yX1_containsFormula yX1_containsFormula).before args s = true := h _ (k_in (List.mem_of_getElem? (i := 372) (by decide +kernel)) (by decide +kernel))
theorem kc_373 : Cond.code yX1_containsFormula prog_3_method_4_code 2 (some .boolean) ∈ kws := k_in (List.mem_of_getElem? (i := 373) (by decide +kernel)) (by decide +kernel)
theorem kw_374 {args : Array Value} {s : State} (h : ∀ w ∈ kws, w.before args s = true) : (Cond.methodLink RX1 51 yX1_amount).before args s = true := h _ (k_in (List.mem_of_getElem? (i := 374) (by decide +kernel)) (by decide +kernel))
theorem kw_375 {args : Array Value} {s : State} (h : ∀ w ∈ kws, w.before args s = true) : (Cond.instanceMethod yX1_amount).before args s = true := h _ (k_in (List.mem_of_getElem? (i := 375) (by decide +kernel)) (by decide +kernel))
theorem kw_376 {args : Array Value} {s : State} (h : ∀ w ∈ kws, w.before args s = true) : (Cond.selects RX1 yX1_amount yX1_amount).before args s = true := h _ (k_in (List.mem_of_getElem? (i := 376) (by decide +kernel)) (by decide +kernel))
theorem kc_377 : Cond.code yX1_amount prog_3_method_8_code 3 (some .int) ∈ kws := k_in (List.mem_of_getElem? (i := 377) (by decide +kernel)) (by decide +kernel)
theorem kw_378 {args : Array Value} {s : State} (h : ∀ w ∈ kws, w.before args s = true) : (Cond.methodLink RX1 55 yX1_isProduct).before args s = true := h _ (k_in (List.mem_of_getElem? (i := 378) (by decide +kernel)) (by decide +kernel))
theorem kw_379 {args : Array Value} {s : State} (h : ∀ w ∈ kws, w.before args s = true) : (Cond.instanceMethod yX1_isProduct).before args s = true := h _ (k_in (List.mem_of_getElem? (i := 379) (by decide +kernel)) (by decide +kernel))
theorem kw_380 {args : Array Value} {s : State} (h : ∀ w ∈ kws, w.before args s = true) : (Cond.selects RX1 yX1_isProduct yX1_isProduct).before args s = true := h _ (k_in (List.mem_of_getElem? (i := 380) (by decide +kernel)) (by decide +kernel))
theorem kc_381 : Cond.code yX1_isProduct prog_3_method_6_code 2 (some .boolean) ∈ kws := k_in (List.mem_of_getElem? (i := 381) (by decide +kernel)) (by decide +kernel)
theorem kw_382 {args : Array Value} {s : State} (h : ∀ w ∈ kws, w.before args s = true) : (Cond.methodLink RX0 51 yX0_reduce).before args s = true := h _ (k_in (List.mem_of_getElem? (i := 382) (by decide +kernel)) (by decide +kernel))
theorem kw_384 {args : Array Value} {s : State} (h : ∀ w ∈ kws, w.before args s = true) : (Cond.instanceMethod yX0_reduce).before args s = true := h _ (k_in (List.mem_of_getElem? (i := 384) (by decide +kernel)) (by decide +kernel))
theorem kc_385 : Cond.code yX0_reduce prog_2_method_5_code 3 none ∈ kws := k_in (List.mem_of_getElem? (i := 385) (by decide +kernel)) (by decide +kernel)
theorem kw_386 {args : Array Value} {s : State} (h : ∀ w ∈ kws, w.before args s = true) : (Cond.methodLink RX0 74 yX0_pivotRow).before args s = true := h _ (k_in (List.mem_of_getElem? (i := 386) (by decide +kernel)) (by decide +kernel))
theorem kw_388 {args : Array Value} {s : State} (h : ∀ w ∈ kws, w.before args s = true) : (Cond.instanceMethod yX0_pivotRow).before args s = true := h _ (k_in (List.mem_of_getElem? (i := 388) (by decide +kernel)) (by decide +kernel))
theorem kc_389 : Cond.code yX0_pivotRow prog_2_method_6_code 3 (some .int) ∈ kws := k_in (List.mem_of_getElem? (i := 389) (by decide +kernel)) (by decide +kernel)
theorem kw_390 {args : Array Value} {s : State} (h : ∀ w ∈ kws, w.before args s = true) : (Cond.methodLink RX0 78 yX0_swapRows).before args s = true := h _ (k_in (List.mem_of_getElem? (i := 390) (by decide +kernel)) (by decide +kernel))
theorem kw_392 {args : Array Value} {s : State} (h : ∀ w ∈ kws, w.before args s = true) : (Cond.instanceMethod yX0_swapRows).before args s = true := h _ (k_in (List.mem_of_getElem? (i := 392) (by decide +kernel)) (by decide +kernel))
theorem kc_393 : Cond.code yX0_swapRows prog_2_method_7_code 6 none ∈ kws := k_in (List.mem_of_getElem? (i := 393) (by decide +kernel)) (by decide +kernel)
theorem kw_394 {args : Array Value} {s : State} (h : ∀ w ∈ kws, w.before args s = true) : (Cond.methodLink RX0 82 yX0_clearColumn).before args s = true := h _ (k_in (List.mem_of_getElem? (i := 394) (by decide +kernel)) (by decide +kernel))
theorem kw_396 {args : Array Value} {s : State} (h : ∀ w ∈ kws, w.before args s = true) : (Cond.instanceMethod yX0_clearColumn).before args s = true := h _ (k_in (List.mem_of_getElem? (i := 396) (by decide +kernel)) (by decide +kernel))
theorem kc_397 : Cond.code yX0_clearColumn prog_2_method_8_code 8 none ∈ kws := k_in (List.mem_of_getElem? (i := 397) (by decide +kernel)) (by decide +kernel)
theorem kw_398 {args : Array Value} {s : State} (h : ∀ w ∈ kws, w.before args s = true) : (Cond.methodLink RX0 86 yX0_quotient).before args s = true := h _ (k_in (List.mem_of_getElem? (i := 398) (by decide +kernel)) (by decide +kernel))
theorem kw_399 {args : Array Value} {s : State} (h : ∀ w ∈ kws, w.before args s = true) : (Cond.static yX0_quotient).before args s = true := h _ (k_in (List.mem_of_getElem? (i := 399) (by decide +kernel)) (by decide +kernel))
theorem kc_400 : Cond.code yX0_quotient prog_2_method_11_code 4 (some .long) ∈ kws := k_in (List.mem_of_getElem? (i := 400) (by decide +kernel)) (by decide +kernel)
theorem kw_401 {args : Array Value} {s : State} (h : ∀ w ∈ kws, w.before args s = true) : (Cond.methodLink RX0 54 yX0_makeBase).before args s = true := h _ (k_in (List.mem_of_getElem? (i := 401) (by decide +kernel)) (by decide +kernel))
theorem kw_403 {args : Array Value} {s : State} (h : ∀ w ∈ kws, w.before args s = true) : (Cond.instanceMethod yX0_makeBase).before args s = true := h _ (k_in (List.mem_of_getElem? (i := 403) (by decide +kernel)) (by decide +kernel))
theorem kc_404 : Cond.code yX0_makeBase prog_2_method_9_code 8 none ∈ kws := k_in (List.mem_of_getElem? (i := 404) (by decide +kernel)) (by decide +kernel)
theorem kw_405 {args : Array Value} {s : State} (h : ∀ w ∈ kws, w.before args s = true) : (Cond.methodLink RX0 90 yJ0_fill).before args s = true := h _ (k_in (List.mem_of_getElem? (i := 405) (by decide +kernel)) (by decide +kernel))
theorem kw_406 {args : Array Value} {s : State} (h : ∀ w ∈ kws, w.before args s = true) : (Cond.methodLink RX0 96 yX0_commonDivisor).before args s = true := h _ (k_in (List.mem_of_getElem? (i := 406) (by decide +kernel)) (by decide +kernel))
theorem kw_407 {args : Array Value} {s : State} (h : ∀ w ∈ kws, w.before args s = true) : (Cond.static yX0_commonDivisor).before args s = true := h _ (k_in (List.mem_of_getElem? (i := 407) (by decide +kernel)) (by decide +kernel))
theorem kc_408 : Cond.code yX0_commonDivisor prog_2_method_12_code 11 (some .long) ∈ kws := k_in (List.mem_of_getElem? (i := 408) (by decide +kernel)) (by decide +kernel)
theorem kw_409 {args : Array Value} {s : State} (h : ∀ w ∈ kws, w.before args s = true) : (Cond.methodLink RX0 99 yJ1_abs).before args s = true := h _ (k_in (List.mem_of_getElem? (i := 409) (by decide +kernel)) (by decide +kernel))
theorem kw_410 {args : Array Value} {s : State} (h : ∀ w ∈ kws, w.before args s = true) : (Cond.static yJ1_abs).before args s = true := h _ (k_in (List.mem_of_getElem? (i := 410) (by decide +kernel)) (by decide +kernel))
theorem kc_411 : Cond.code yJ1_abs prog_12_method_61_code 2 (some .long) ∈ kws := k_in (List.mem_of_getElem? (i := 411) (by decide +kernel)) (by decide +kernel)
theorem kw_412 {args : Array Value} {s : State} (h : ∀ w ∈ kws, w.before args s = true) : (Cond.methodLink RX0 58 yX0_judge).before args s = true := h _ (k_in (List.mem_of_getElem? (i := 412) (by decide +kernel)) (by decide +kernel))
theorem kw_414 {args : Array Value} {s : State} (h : ∀ w ∈ kws, w.before args s = true) : (Cond.instanceMethod yX0_judge).before args s = true := h _ (k_in (List.mem_of_getElem? (i := 414) (by decide +kernel)) (by decide +kernel))
theorem kc_415 : Cond.code yX0_judge prog_2_method_10_code 2 (some .int) ∈ kws := k_in (List.mem_of_getElem? (i := 415) (by decide +kernel)) (by decide +kernel)
theorem kw_416 {args : Array Value} {s : State} (h : ∀ w ∈ kws, w.before args s = true) : (Cond.methodLink RX5 76 yX1_clear).before args s = true := h _ (k_in (List.mem_of_getElem? (i := 416) (by decide +kernel)) (by decide +kernel))
theorem kw_417 {args : Array Value} {s : State} (h : ∀ w ∈ kws, w.before args s = true) : (Cond.methodLink RX5 81 yX0_forget).before args s = true := h _ (k_in (List.mem_of_getElem? (i := 417) (by decide +kernel)) (by decide +kernel))
theorem kw_418 {args : Array Value} {s : State} (h : ∀ w ∈ kws, w.before args s = true) : (Cond.instanceMethod yX0_forget).before args s = true := h _ (k_in (List.mem_of_getElem? (i := 418) (by decide +kernel)) (by decide +kernel))
theorem kw_419 {args : Array Value} {s : State} (h : ∀ w ∈ kws, w.before args s = true) : (Cond.selects RX0 yX0_forget yX0_forget).before args s = true := h _ (k_in (List.mem_of_getElem? (i := 419) (by decide +kernel)) (by decide +kernel))
theorem kc_420 : Cond.code yX0_forget prog_2_method_2_code 1 none ∈ kws := k_in (List.mem_of_getElem? (i := 420) (by decide +kernel)) (by decide +kernel)
theorem kw_421 {args : Array Value} {s : State} (h : ∀ w ∈ kws, w.before args s = true) : (Cond.methodLink RX5 91 yX2_write).before args s = true := h _ (k_in (List.mem_of_getElem? (i := 421) (by decide +kernel)) (by decide +kernel))
theorem kw_422 {args : Array Value} {s : State} (h : ∀ w ∈ kws, w.before args s = true) : (Cond.instanceMethod yX2_write).before args s = true := h _ (k_in (List.mem_of_getElem? (i := 422) (by decide +kernel)) (by decide +kernel))
theorem kw_423 {args : Array Value} {s : State} (h : ∀ w ∈ kws, w.before args s = true) : (Cond.selects RX2 yX2_write yX2_write).before args s = true := h _ (k_in (List.mem_of_getElem? (i := 423) (by decide +kernel)) (by decide +kernel))
theorem kc_424 : Cond.code yX2_write prog_4_method_3_code 6 none ∈ kws := k_in (List.mem_of_getElem? (i := 424) (by decide +kernel)) (by decide +kernel)
theorem kw_425 {args : Array Value} {s : State} (h : ∀ w ∈ kws, w.before args s = true) : (Cond.methodLink RX2 27 yX2_addSign).before args s = true := h _ (k_in (List.mem_of_getElem? (i := 425) (by decide +kernel)) (by decide +kernel))
theorem kw_427 {args : Array Value} {s : State} (h : ∀ w ∈ kws, w.before args s = true) : (Cond.instanceMethod yX2_addSign).before args s = true := h _ (k_in (List.mem_of_getElem? (i := 427) (by decide +kernel)) (by decide +kernel))
theorem kc_428 : Cond.code yX2_addSign prog_4_method_5_code 2 none ∈ kws := k_in (List.mem_of_getElem? (i := 428) (by decide +kernel)) (by decide +kernel)
theorem kw_429 {args : Array Value} {s : State} (h : ∀ w ∈ kws, w.before args s = true) : (Cond.methodLink RX2 35 yX2_add).before args s = true := h _ (k_in (List.mem_of_getElem? (i := 429) (by decide +kernel)) (by decide +kernel))
theorem kw_431 {args : Array Value} {s : State} (h : ∀ w ∈ kws, w.before args s = true) : (Cond.instanceMethod yX2_add).before args s = true := h _ (k_in (List.mem_of_getElem? (i := 431) (by decide +kernel)) (by decide +kernel))
theorem kc_432 : Cond.code yX2_add prog_4_method_4_code 2 none ∈ kws := k_in (List.mem_of_getElem? (i := 432) (by decide +kernel)) (by decide +kernel)
theorem kw_433 {args : Array Value} {s : State} (h : ∀ w ∈ kws, w.before args s = true) : (Cond.methodLink RX2 31 yX2_addNumber).before args s = true := h _ (k_in (List.mem_of_getElem? (i := 433) (by decide +kernel)) (by decide +kernel))
theorem kw_435 {args : Array Value} {s : State} (h : ∀ w ∈ kws, w.before args s = true) : (Cond.instanceMethod yX2_addNumber).before args s = true := h _ (k_in (List.mem_of_getElem? (i := 435) (by decide +kernel)) (by decide +kernel))
theorem kc_436 : Cond.code yX2_addNumber prog_4_method_6_code 7 none ∈ kws := k_in (List.mem_of_getElem? (i := 436) (by decide +kernel)) (by decide +kernel)
theorem kw_437 {args : Array Value} {s : State} (h : ∀ w ∈ kws, w.before args s = true) : (Cond.constantLong RX2 48 48).before args s = true := h _ (k_in (List.mem_of_getElem? (i := 437) (by decide +kernel)) (by decide +kernel))
theorem kw_438 {args : Array Value} {s : State} (h : ∀ w ∈ kws, w.before args s = true) : (Cond.constantLong RX2 50 10).before args s = true := h _ (k_in (List.mem_of_getElem? (i := 438) (by decide +kernel)) (by decide +kernel))
theorem kw_439 {args : Array Value} {s : State} (h : ∀ w ∈ kws, w.before args s = true) : (Cond.methodLink RX2 52 yX2_turnRound).before args s = true := h _ (k_in (List.mem_of_getElem? (i := 439) (by decide +kernel)) (by decide +kernel))
theorem kw_441 {args : Array Value} {s : State} (h : ∀ w ∈ kws, w.before args s = true) : (Cond.instanceMethod yX2_turnRound).before args s = true := h _ (k_in (List.mem_of_getElem? (i := 441) (by decide +kernel)) (by decide +kernel))
theorem kc_442 : Cond.code yX2_turnRound prog_4_method_7_code 5 none ∈ kws := k_in (List.mem_of_getElem? (i := 442) (by decide +kernel)) (by decide +kernel)
theorem kw_443 {args : Array Value} {s : State} (h : ∀ w ∈ kws, w.before args s = true) : (Cond.methodLink RX5 95 yX4_clear).before args s = true := h _ (k_in (List.mem_of_getElem? (i := 443) (by decide +kernel)) (by decide +kernel))
theorem kw_444 {args : Array Value} {s : State} (h : ∀ w ∈ kws, w.before args s = true) : (Cond.instanceMethod yX4_clear).before args s = true := h _ (k_in (List.mem_of_getElem? (i := 444) (by decide +kernel)) (by decide +kernel))
theorem kw_445 {args : Array Value} {s : State} (h : ∀ w ∈ kws, w.before args s = true) : (Cond.selects RX4 yX4_clear yX4_clear).before args s = true := h _ (k_in (List.mem_of_getElem? (i := 445) (by decide +kernel)) (by decide +kernel))
theorem kc_446 : Cond.code yX4_clear prog_6_method_3_code 1 none ∈ kws := k_in (List.mem_of_getElem? (i := 446) (by decide +kernel)) (by decide +kernel)
theorem kw_448 {args : Array Value} {s : State} (h : ∀ w ∈ kws, w.before args s = true) : (Cond.instanceMethod yX5_at).before args s = true := h _ (k_in (List.mem_of_getElem? (i := 448) (by decide +kernel)) (by decide +kernel))
theorem kw_449 {args : Array Value} {s : State} (h : ∀ w ∈ kws, w.before args s = true) : (Cond.selects RX5 yX5_at yX5_at).before args s = true := h _ (k_in (List.mem_of_getElem? (i := 449) (by decide +kernel)) (by decide +kernel))
theorem kc_450 : Cond.code yX5_at prog_1_method_4_code 1 (some .int) ∈ kws := k_in (List.mem_of_getElem? (i := 450) (by decide +kernel)) (by decide +kernel)
theorem kw_452 {args : Array Value} {s : State} (h : ∀ w ∈ kws, w.before args s = true) : (Cond.instanceMethod yX5_state).before args s = true := h _ (k_in (List.mem_of_getElem? (i := 452) (by decide +kernel)) (by decide +kernel))
theorem kw_453 {args : Array Value} {s : State} (h : ∀ w ∈ kws, w.before args s = true) : (Cond.selects RX5 yX5_state yX5_state).before args s = true := h _ (k_in (List.mem_of_getElem? (i := 453) (by decide +kernel)) (by decide +kernel))
theorem kc_454 : Cond.code yX5_state prog_1_method_5_code 1 (some .int) ∈ kws := k_in (List.mem_of_getElem? (i := 454) (by decide +kernel)) (by decide +kernel)
theorem kw_456 {args : Array Value} {s : State} (h : ∀ w ∈ kws, w.before args s = true) : (Cond.instanceMethod yX5_freedom).before args s = true := h _ (k_in (List.mem_of_getElem? (i := 456) (by decide +kernel)) (by decide +kernel))
theorem kw_457 {args : Array Value} {s : State} (h : ∀ w ∈ kws, w.before args s = true) : (Cond.selects RX5 yX5_freedom yX5_freedom).before args s = true := h _ (k_in (List.mem_of_getElem? (i := 457) (by decide +kernel)) (by decide +kernel))
theorem kc_458 : Cond.code yX5_freedom prog_1_method_6_code 1 (some .int) ∈ kws := k_in (List.mem_of_getElem? (i := 458) (by decide +kernel)) (by decide +kernel)
theorem kw_460 {args : Array Value} {s : State} (h : ∀ w ∈ kws, w.before args s = true) : (Cond.instanceMethod yX5_formulas).before args s = true := h _ (k_in (List.mem_of_getElem? (i := 460) (by decide +kernel)) (by decide +kernel))
theorem kw_461 {args : Array Value} {s : State} (h : ∀ w ∈ kws, w.before args s = true) : (Cond.selects RX5 yX5_formulas yX5_formulas).before args s = true := h _ (k_in (List.mem_of_getElem? (i := 461) (by decide +kernel)) (by decide +kernel))
theorem kc_462 : Cond.code yX5_formulas prog_1_method_7_code 1 (some .int) ∈ kws := k_in (List.mem_of_getElem? (i := 462) (by decide +kernel)) (by decide +kernel)
theorem kw_464 {args : Array Value} {s : State} (h : ∀ w ∈ kws, w.before args s = true) : (Cond.instanceMethod yX5_kinds).before args s = true := h _ (k_in (List.mem_of_getElem? (i := 464) (by decide +kernel)) (by decide +kernel))
theorem kw_465 {args : Array Value} {s : State} (h : ∀ w ∈ kws, w.before args s = true) : (Cond.selects RX5 yX5_kinds yX5_kinds).before args s = true := h _ (k_in (List.mem_of_getElem? (i := 465) (by decide +kernel)) (by decide +kernel))
theorem kc_466 : Cond.code yX5_kinds prog_1_method_8_code 1 (some .int) ∈ kws := k_in (List.mem_of_getElem? (i := 466) (by decide +kernel)) (by decide +kernel)
theorem kw_467 {args : Array Value} {s : State} (h : ∀ w ∈ kws, w.before args s = true) : (Cond.methodLink RX5 105 yX1_kindCount).before args s = true := h _ (k_in (List.mem_of_getElem? (i := 467) (by decide +kernel)) (by decide +kernel))
theorem kw_474 {args : Array Value} {s : State} (h : ∀ w ∈ kws, w.before args s = true) : (Cond.instanceMethod yX5_type).before args s = true := h _ (k_in (List.mem_of_getElem? (i := 474) (by decide +kernel)) (by decide +kernel))
theorem kw_475 {args : Array Value} {s : State} (h : ∀ w ∈ kws, w.before args s = true) : (Cond.selects RX5 yX5_type yX5_type).before args s = true := h _ (k_in (List.mem_of_getElem? (i := 475) (by decide +kernel)) (by decide +kernel))
theorem kc_476 : Cond.code yX5_type prog_1_method_2_code 6 (some .int) ∈ kws := k_in (List.mem_of_getElem? (i := 476) (by decide +kernel)) (by decide +kernel)
theorem kw_477 {args : Array Value} {s : State} (h : ∀ w ∈ kws, w.before args s = true) : (Cond.methodLink RX5 30 yX5_charactersIn).before args s = true := h _ (k_in (List.mem_of_getElem? (i := 477) (by decide +kernel)) (by decide +kernel))
theorem kw_478 {args : Array Value} {s : State} (h : ∀ w ∈ kws, w.before args s = true) : (Cond.static yX5_charactersIn).before args s = true := h _ (k_in (List.mem_of_getElem? (i := 478) (by decide +kernel)) (by decide +kernel))
theorem kc_479 : Cond.code yX5_charactersIn prog_1_method_17_code 3 (some .int) ∈ kws := k_in (List.mem_of_getElem? (i := 479) (by decide +kernel)) (by decide +kernel)
theorem kw_480 {args : Array Value} {s : State} (h : ∀ w ∈ kws, w.before args s = true) : (Cond.methodLink RX5 34 yX5_byteOf).before args s = true := h _ (k_in (List.mem_of_getElem? (i := 480) (by decide +kernel)) (by decide +kernel))
theorem kw_481 {args : Array Value} {s : State} (h : ∀ w ∈ kws, w.before args s = true) : (Cond.static yX5_byteOf).before args s = true := h _ (k_in (List.mem_of_getElem? (i := 481) (by decide +kernel)) (by decide +kernel))
theorem kc_482 : Cond.code yX5_byteOf prog_1_method_18_code 3 (some .int) ∈ kws := k_in (List.mem_of_getElem? (i := 482) (by decide +kernel)) (by decide +kernel)
theorem kw_483 {args : Array Value} {s : State} (h : ∀ w ∈ kws, w.before args s = true) : (Cond.methodLink RX5 38 yX5_isPrintable).before args s = true := h _ (k_in (List.mem_of_getElem? (i := 483) (by decide +kernel)) (by decide +kernel))
theorem kw_484 {args : Array Value} {s : State} (h : ∀ w ∈ kws, w.before args s = true) : (Cond.static yX5_isPrintable).before args s = true := h _ (k_in (List.mem_of_getElem? (i := 484) (by decide +kernel)) (by decide +kernel))
theorem kc_485 : Cond.code yX5_isPrintable prog_1_method_19_code 1 (some .boolean) ∈ kws := k_in (List.mem_of_getElem? (i := 485) (by decide +kernel)) (by decide +kernel)
theorem kw_565 {args : Array Value} {s : State} (h : ∀ w ∈ kws, w.before args s = true) : (Cond.methodLink RX5 58 yX4_add).before args s = true := h _ (k_in (List.mem_of_getElem? (i := 565) (by decide +kernel)) (by decide +kernel))
theorem kw_566 {args : Array Value} {s : State} (h : ∀ w ∈ kws, w.before args s = true) : (Cond.instanceMethod yX4_add).before args s = true := h _ (k_in (List.mem_of_getElem? (i := 566) (by decide +kernel)) (by decide +kernel))
theorem kw_567 {args : Array Value} {s : State} (h : ∀ w ∈ kws, w.before args s = true) : (Cond.selects RX4 yX4_add yX4_add).before args s = true := h _ (k_in (List.mem_of_getElem? (i := 567) (by decide +kernel)) (by decide +kernel))
theorem kc_568 : Cond.code yX4_add prog_6_method_2_code 2 none ∈ kws := k_in (List.mem_of_getElem? (i := 568) (by decide +kernel)) (by decide +kernel)
theorem kw_574 {args : Array Value} {s : State} (h : ∀ w ∈ kws, w.before args s = true) : (Cond.instanceMethod yX5_name).before args s = true := h _ (k_in (List.mem_of_getElem? (i := 574) (by decide +kernel)) (by decide +kernel))
theorem kw_575 {args : Array Value} {s : State} (h : ∀ w ∈ kws, w.before args s = true) : (Cond.selects RX5 yX5_name yX5_name).before args s = true := h _ (k_in (List.mem_of_getElem? (i := 575) (by decide +kernel)) (by decide +kernel))
theorem kc_576 : Cond.code yX5_name prog_1_method_9_code 2 (some .int) ∈ kws := k_in (List.mem_of_getElem? (i := 576) (by decide +kernel)) (by decide +kernel)
theorem kw_577 {args : Array Value} {s : State} (h : ∀ w ∈ kws, w.before args s = true) : (Cond.methodLink RX5 109 yX1_containsKind).before args s = true := h _ (k_in (List.mem_of_getElem? (i := 577) (by decide +kernel)) (by decide +kernel))
theorem kw_578 {args : Array Value} {s : State} (h : ∀ w ∈ kws, w.before args s = true) : (Cond.instanceMethod yX1_containsKind).before args s = true := h _ (k_in (List.mem_of_getElem? (i := 578) (by decide +kernel)) (by decide +kernel))
theorem kw_579 {args : Array Value} {s : State} (h : ∀ w ∈ kws, w.before args s = true) : (Cond.selects RX1 yX1_containsKind yX1_containsKind).before args s = true := h _ (k_in (List.mem_of_getElem? (i := 579) (by decide +kernel)) (by decide +kernel))
theorem kc_580 : Cond.code yX1_containsKind prog_3_method_5_code 2 (some .boolean) ∈ kws := k_in (List.mem_of_getElem? (i := 580) (by decide +kernel)) (by decide +kernel)
theorem kw_596 {args : Array Value} {s : State} (h : ∀ w ∈ kws, w.before args s = true) : (Cond.methodLink RX5 115 yX1_kindName).before args s = true := h _ (k_in (List.mem_of_getElem? (i := 596) (by decide +kernel)) (by decide +kernel))
theorem kw_597 {args : Array Value} {s : State} (h : ∀ w ∈ kws, w.before args s = true) : (Cond.instanceMethod yX1_kindName).before args s = true := h _ (k_in (List.mem_of_getElem? (i := 597) (by decide +kernel)) (by decide +kernel))
theorem kw_598 {args : Array Value} {s : State} (h : ∀ w ∈ kws, w.before args s = true) : (Cond.selects RX1 yX1_kindName yX1_kindName).before args s = true := h _ (k_in (List.mem_of_getElem? (i := 598) (by decide +kernel)) (by decide +kernel))
theorem kc_599 : Cond.code yX1_kindName prog_3_method_7_code 2 (some .int) ∈ kws := k_in (List.mem_of_getElem? (i := 599) (by decide +kernel)) (by decide +kernel)
theorem kw_604 {args : Array Value} {s : State} (h : ∀ w ∈ kws, w.before args s = true) : (Cond.instanceMethod yX5_has).before args s = true := h _ (k_in (List.mem_of_getElem? (i := 604) (by decide +kernel)) (by decide +kernel))
theorem kw_605 {args : Array Value} {s : State} (h : ∀ w ∈ kws, w.before args s = true) : (Cond.selects RX5 yX5_has yX5_has).before args s = true := h _ (k_in (List.mem_of_getElem? (i := 605) (by decide +kernel)) (by decide +kernel))
theorem kc_606 : Cond.code yX5_has prog_1_method_10_code 3 (some .int) ∈ kws := k_in (List.mem_of_getElem? (i := 606) (by decide +kernel)) (by decide +kernel)
theorem kw_607 {args : Array Value} {s : State} (h : ∀ w ∈ kws, w.before args s = true) : (Cond.methodLink RX5 119 yX1_containsFormula).before args s = true := h _ (k_in (List.mem_of_getElem? (i := 607) (by decide +kernel)) (by decide +kernel))
theorem kw_608 {args : Array Value} {s : State} (h : ∀ w ∈ kws, w.before args s = true) : (Cond.methodLink RX5 122 yX1_amount).before args s = true := h _ (k_in (List.mem_of_getElem? (i := 608) (by decide +kernel)) (by decide +kernel))
theorem kw_613 {args : Array Value} {s : State} (h : ∀ w ∈ kws, w.before args s = true) : (Cond.instanceMethod yX5_product).before args s = true := h _ (k_in (List.mem_of_getElem? (i := 613) (by decide +kernel)) (by decide +kernel))
theorem kw_614 {args : Array Value} {s : State} (h : ∀ w ∈ kws, w.before args s = true) : (Cond.selects RX5 yX5_product yX5_product).before args s = true := h _ (k_in (List.mem_of_getElem? (i := 614) (by decide +kernel)) (by decide +kernel))
theorem kc_615 : Cond.code yX5_product prog_1_method_11_code 2 (some .boolean) ∈ kws := k_in (List.mem_of_getElem? (i := 615) (by decide +kernel)) (by decide +kernel)
theorem kw_616 {args : Array Value} {s : State} (h : ∀ w ∈ kws, w.before args s = true) : (Cond.methodLink RX5 126 yX1_isProduct).before args s = true := h _ (k_in (List.mem_of_getElem? (i := 616) (by decide +kernel)) (by decide +kernel))
theorem kw_621 {args : Array Value} {s : State} (h : ∀ w ∈ kws, w.before args s = true) : (Cond.instanceMethod yX5_free).before args s = true := h _ (k_in (List.mem_of_getElem? (i := 621) (by decide +kernel)) (by decide +kernel))
theorem kw_622 {args : Array Value} {s : State} (h : ∀ w ∈ kws, w.before args s = true) : (Cond.selects RX5 yX5_free yX5_free).before args s = true := h _ (k_in (List.mem_of_getElem? (i := 622) (by decide +kernel)) (by decide +kernel))
theorem kc_623 : Cond.code yX5_free prog_1_method_12_code 2 (some .boolean) ∈ kws := k_in (List.mem_of_getElem? (i := 623) (by decide +kernel)) (by decide +kernel)
theorem kw_628 {args : Array Value} {s : State} (h : ∀ w ∈ kws, w.before args s = true) : (Cond.instanceMethod yX5_number).before args s = true := h _ (k_in (List.mem_of_getElem? (i := 628) (by decide +kernel)) (by decide +kernel))
theorem kw_629 {args : Array Value} {s : State} (h : ∀ w ∈ kws, w.before args s = true) : (Cond.selects RX5 yX5_number yX5_number).before args s = true := h _ (k_in (List.mem_of_getElem? (i := 629) (by decide +kernel)) (by decide +kernel))
theorem kc_630 : Cond.code yX5_number prog_1_method_13_code 3 (some .long) ∈ kws := k_in (List.mem_of_getElem? (i := 630) (by decide +kernel)) (by decide +kernel)
theorem kw_636 {args : Array Value} {s : State} (h : ∀ w ∈ kws, w.before args s = true) : (Cond.instanceMethod yX5_weight).before args s = true := h _ (k_in (List.mem_of_getElem? (i := 636) (by decide +kernel)) (by decide +kernel))
theorem kw_637 {args : Array Value} {s : State} (h : ∀ w ∈ kws, w.before args s = true) : (Cond.selects RX5 yX5_weight yX5_weight).before args s = true := h _ (k_in (List.mem_of_getElem? (i := 637) (by decide +kernel)) (by decide +kernel))
theorem kc_638 : Cond.code yX5_weight prog_1_method_14_code 6 (some .long) ∈ kws := k_in (List.mem_of_getElem? (i := 638) (by decide +kernel)) (by decide +kernel)
theorem kw_658 {args : Array Value} {s : State} (h : ∀ w ∈ kws, w.before args s = true) : (Cond.instanceMethod yX5_written).before args s = true := h _ (k_in (List.mem_of_getElem? (i := 658) (by decide +kernel)) (by decide +kernel))
theorem kw_659 {args : Array Value} {s : State} (h : ∀ w ∈ kws, w.before args s = true) : (Cond.selects RX5 yX5_written yX5_written).before args s = true := h _ (k_in (List.mem_of_getElem? (i := 659) (by decide +kernel)) (by decide +kernel))
theorem kc_660 : Cond.code yX5_written prog_1_method_15_code 2 (some .int) ∈ kws := k_in (List.mem_of_getElem? (i := 660) (by decide +kernel)) (by decide +kernel)
theorem kw_661 {args : Array Value} {s : State} (h : ∀ w ∈ kws, w.before args s = true) : (Cond.methodLink RX5 139 yX2_characterAt).before args s = true := h _ (k_in (List.mem_of_getElem? (i := 661) (by decide +kernel)) (by decide +kernel))
theorem kw_662 {args : Array Value} {s : State} (h : ∀ w ∈ kws, w.before args s = true) : (Cond.instanceMethod yX2_characterAt).before args s = true := h _ (k_in (List.mem_of_getElem? (i := 662) (by decide +kernel)) (by decide +kernel))
theorem kw_663 {args : Array Value} {s : State} (h : ∀ w ∈ kws, w.before args s = true) : (Cond.selects RX2 yX2_characterAt yX2_characterAt).before args s = true := h _ (k_in (List.mem_of_getElem? (i := 663) (by decide +kernel)) (by decide +kernel))
theorem kc_664 : Cond.code yX2_characterAt prog_4_method_2_code 2 (some .int) ∈ kws := k_in (List.mem_of_getElem? (i := 664) (by decide +kernel)) (by decide +kernel)
theorem kw_669 {args : Array Value} {s : State} (h : ∀ w ∈ kws, w.before args s = true) : (Cond.instanceMethod yX5_solves).before args s = true := h _ (k_in (List.mem_of_getElem? (i := 669) (by decide +kernel)) (by decide +kernel))
theorem kw_670 {args : Array Value} {s : State} (h : ∀ w ∈ kws, w.before args s = true) : (Cond.selects RX5 yX5_solves yX5_solves).before args s = true := h _ (k_in (List.mem_of_getElem? (i := 670) (by decide +kernel)) (by decide +kernel))
theorem kc_671 : Cond.code yX5_solves prog_1_method_16_code 10 (some .boolean) ∈ kws := k_in (List.mem_of_getElem? (i := 671) (by decide +kernel)) (by decide +kernel)
theorem kw_672 {args : Array Value} {s : State} (h : ∀ w ∈ kws, w.before args s = true) : (Cond.methodLink RX5 142 yX1_share).before args s = true := h _ (k_in (List.mem_of_getElem? (i := 672) (by decide +kernel)) (by decide +kernel))
theorem kw_679 {args : Array Value} {s : State} (h : ∀ w ∈ kws, w.before args s = true) : (Cond.fieldLink RX6 65 RX6 "thrown" "I").before args s = true := h _ (k_in (List.mem_of_getElem? (i := 679) (by decide +kernel)) (by decide +kernel))
theorem kw_680 {args : Array Value} {s : State} (h : ∀ w ∈ kws, w.before args s = true) : (Cond.fieldLink RX6 74 RX6 "typed" "I").before args s = true := h _ (k_in (List.mem_of_getElem? (i := 680) (by decide +kernel)) (by decide +kernel))
theorem kw_681 {args : Array Value} {s : State} (h : ∀ w ∈ kws, w.before args s = true) : (Cond.fieldLink RX6 7 RX6 "draft" "[C").before args s = true := h _ (k_in (List.mem_of_getElem? (i := 681) (by decide +kernel)) (by decide +kernel))
theorem kw_682 {args : Array Value} {s : State} (h : ∀ w ∈ kws, w.before args s = true) : (Cond.fieldLink RX6 87 RX6 "size" "I").before args s = true := h _ (k_in (List.mem_of_getElem? (i := 682) (by decide +kernel)) (by decide +kernel))
theorem kw_683 {args : Array Value} {s : State} (h : ∀ w ∈ kws, w.before args s = true) : (Cond.fieldLink RX6 13 RX6 "text" "[C").before args s = true := h _ (k_in (List.mem_of_getElem? (i := 683) (by decide +kernel)) (by decide +kernel))
theorem kw_684 {args : Array Value} {s : State} (h : ∀ w ∈ kws, w.before args s = true) : (Cond.fieldLink RX6 90 RX6 "pos" "I").before args s = true := h _ (k_in (List.mem_of_getElem? (i := 684) (by decide +kernel)) (by decide +kernel))
theorem kw_685 {args : Array Value} {s : State} (h : ∀ w ∈ kws, w.before args s = true) : (Cond.fieldLink RX6 77 RX6 "fault" "I").before args s = true := h _ (k_in (List.mem_of_getElem? (i := 685) (by decide +kernel)) (by decide +kernel))
theorem kw_686 {args : Array Value} {s : State} (h : ∀ w ∈ kws, w.before args s = true) : (Cond.fieldLink RX6 80 RX6 "faultAt" "I").before args s = true := h _ (k_in (List.mem_of_getElem? (i := 686) (by decide +kernel)) (by decide +kernel))
theorem kw_687 {args : Array Value} {s : State} (h : ∀ w ∈ kws, w.before args s = true) : (Cond.fieldLink RX6 16 RX6 "told" "I").before args s = true := h _ (k_in (List.mem_of_getElem? (i := 687) (by decide +kernel)) (by decide +kernel))
theorem kw_688 {args : Array Value} {s : State} (h : ∀ w ∈ kws, w.before args s = true) : (Cond.fieldLink RX6 162 RX6 "there" "Z").before args s = true := h _ (k_in (List.mem_of_getElem? (i := 688) (by decide +kernel)) (by decide +kernel))
theorem kw_689 {args : Array Value} {s : State} (h : ∀ w ∈ kws, w.before args s = true) : (Cond.fieldLink RX6 133 RX6 "count" "I").before args s = true := h _ (k_in (List.mem_of_getElem? (i := 689) (by decide +kernel)) (by decide +kernel))
theorem kw_690 {args : Array Value} {s : State} (h : ∀ w ∈ kws, w.before args s = true) : (Cond.fieldLink RX6 20 RX6 "begins" "[I").before args s = true := h _ (k_in (List.mem_of_getElem? (i := 690) (by decide +kernel)) (by decide +kernel))
theorem kw_691 {args : Array Value} {s : State} (h : ∀ w ∈ kws, w.before args s = true) : (Cond.fieldLink RX6 24 RX6 "ends" "[I").before args s = true := h _ (k_in (List.mem_of_getElem? (i := 691) (by decide +kernel)) (by decide +kernel))
theorem kw_692 {args : Array Value} {s : State} (h : ∀ w ∈ kws, w.before args s = true) : (Cond.fieldLink RX6 27 RX6 "right" "[Z").before args s = true := h _ (k_in (List.mem_of_getElem? (i := 692) (by decide +kernel)) (by decide +kernel))
theorem kw_693 {args : Array Value} {s : State} (h : ∀ w ∈ kws, w.before args s = true) : (Cond.fieldLink RX6 31 RX6 "charges" "[J").before args s = true := h _ (k_in (List.mem_of_getElem? (i := 693) (by decide +kernel)) (by decide +kernel))
theorem kw_694 {args : Array Value} {s : State} (h : ∀ w ∈ kws, w.before args s = true) : (Cond.fieldLink RX6 35 RX6 "has" "[J").before args s = true := h _ (k_in (List.mem_of_getElem? (i := 694) (by decide +kernel)) (by decide +kernel))
theorem kw_695 {args : Array Value} {s : State} (h : ∀ w ∈ kws, w.before args s = true) : (Cond.fieldLink RX6 109 RX6 "elements" "I").before args s = true := h _ (k_in (List.mem_of_getElem? (i := 695) (by decide +kernel)) (by decide +kernel))
theorem kw_696 {args : Array Value} {s : State} (h : ∀ w ∈ kws, w.before args s = true) : (Cond.fieldLink RX6 38 RX6 "names" "[I").before args s = true := h _ (k_in (List.mem_of_getElem? (i := 696) (by decide +kernel)) (by decide +kernel))
theorem kw_697 {args : Array Value} {s : State} (h : ∀ w ∈ kws, w.before args s = true) : (Cond.fieldLink RX6 105 RX6 "charged" "Z").before args s = true := h _ (k_in (List.mem_of_getElem? (i := 697) (by decide +kernel)) (by decide +kernel))
theorem kw_698 {args : Array Value} {s : State} (h : ∀ w ∈ kws, w.before args s = true) : (Cond.fieldLink RX6 41 RX6 "sums" "[J").before args s = true := h _ (k_in (List.mem_of_getElem? (i := 698) (by decide +kernel)) (by decide +kernel))
theorem kw_699 {args : Array Value} {s : State} (h : ∀ w ∈ kws, w.before args s = true) : (Cond.fieldLink RX6 44 RX6 "bracket" "[C").before args s = true := h _ (k_in (List.mem_of_getElem? (i := 699) (by decide +kernel)) (by decide +kernel))
theorem kw_700 {args : Array Value} {s : State} (h : ∀ w ∈ kws, w.before args s = true) : (Cond.fieldLink RX6 112 RX6 "open" "I").before args s = true := h _ (k_in (List.mem_of_getElem? (i := 700) (by decide +kernel)) (by decide +kernel))
theorem kw_701 {args : Array Value} {s : State} (h : ∀ w ∈ kws, w.before args s = true) : (Cond.fieldLink RX6 185 RX6 "leads" "I").before args s = true := h _ (k_in (List.mem_of_getElem? (i := 701) (by decide +kernel)) (by decide +kernel))
theorem kw_702 {args : Array Value} {s : State} (h : ∀ w ∈ kws, w.before args s = true) : (Cond.fieldLink RX6 47 RX6 "lead" "[I").before args s = true := h _ (k_in (List.mem_of_getElem? (i := 702) (by decide +kernel)) (by decide +kernel))
theorem kw_703 {args : Array Value} {s : State} (h : ∀ w ∈ kws, w.before args s = true) : (Cond.fieldLink RX6 50 RX6 "isFree" "[Z").before args s = true := h _ (k_in (List.mem_of_getElem? (i := 703) (by decide +kernel)) (by decide +kernel))
theorem kw_704 {args : Array Value} {s : State} (h : ∀ w ∈ kws, w.before args s = true) : (Cond.fieldLink RX6 188 RX6 "free" "I").before args s = true := h _ (k_in (List.mem_of_getElem? (i := 704) (by decide +kernel)) (by decide +kernel))
theorem kw_705 {args : Array Value} {s : State} (h : ∀ w ∈ kws, w.before args s = true) : (Cond.fieldLink RX6 53 RX6 "bases" "[J").before args s = true := h _ (k_in (List.mem_of_getElem? (i := 705) (by decide +kernel)) (by decide +kernel))
theorem kw_706 {args : Array Value} {s : State} (h : ∀ w ∈ kws, w.before args s = true) : (Cond.fieldLink RX6 56 RX6 "column" "[I").before args s = true := h _ (k_in (List.mem_of_getElem? (i := 706) (by decide +kernel)) (by decide +kernel))
theorem kw_707 {args : Array Value} {s : State} (h : ∀ w ∈ kws, w.before args s = true) : (Cond.fieldLink RX6 59 RX6 "cells" "[J").before args s = true := h _ (k_in (List.mem_of_getElem? (i := 707) (by decide +kernel)) (by decide +kernel))
theorem kw_708 {args : Array Value} {s : State} (h : ∀ w ∈ kws, w.before args s = true) : (Cond.fieldLink RX6 204 RX6 "lineSize" "I").before args s = true := h _ (k_in (List.mem_of_getElem? (i := 708) (by decide +kernel)) (by decide +kernel))
theorem kw_709 {args : Array Value} {s : State} (h : ∀ w ∈ kws, w.before args s = true) : (Cond.fieldLink RX6 62 RX6 "line" "[C").before args s = true := h _ (k_in (List.mem_of_getElem? (i := 709) (by decide +kernel)) (by decide +kernel))
theorem kw_774 {args : Array Value} {s : State} (h : ∀ w ∈ kws, w.before args s = true) : (Cond.instanceMethod yX6_thrown).before args s = true := h _ (k_in (List.mem_of_getElem? (i := 774) (by decide +kernel)) (by decide +kernel))
theorem kw_775 {args : Array Value} {s : State} (h : ∀ w ∈ kws, w.before args s = true) : (Cond.selects RX6 yX6_thrown yX6_thrown).before args s = true := h _ (k_in (List.mem_of_getElem? (i := 775) (by decide +kernel)) (by decide +kernel))
theorem kc_776 : Cond.code yX6_thrown prog_8_method_2_code 1 (some .int) ∈ kws := k_in (List.mem_of_getElem? (i := 776) (by decide +kernel)) (by decide +kernel)
theorem kw_778 {args : Array Value} {s : State} (h : ∀ w ∈ kws, w.before args s = true) : (Cond.instanceMethod yX6_type).before args s = true := h _ (k_in (List.mem_of_getElem? (i := 778) (by decide +kernel)) (by decide +kernel))
theorem kw_779 {args : Array Value} {s : State} (h : ∀ w ∈ kws, w.before args s = true) : (Cond.selects RX6 yX6_type yX6_type).before args s = true := h _ (k_in (List.mem_of_getElem? (i := 779) (by decide +kernel)) (by decide +kernel))
theorem kc_780 : Cond.code yX6_type prog_8_method_3_code 8 (some .int) ∈ kws := k_in (List.mem_of_getElem? (i := 780) (by decide +kernel)) (by decide +kernel)
theorem kw_781 {args : Array Value} {s : State} (h : ∀ w ∈ kws, w.before args s = true) : (Cond.constantLong RX6 68 255).before args s = true := h _ (k_in (List.mem_of_getElem? (i := 781) (by decide +kernel)) (by decide +kernel))
theorem kw_782 {args : Array Value} {s : State} (h : ∀ w ∈ kws, w.before args s = true) : (Cond.constantLong RX6 70 32).before args s = true := h _ (k_in (List.mem_of_getElem? (i := 782) (by decide +kernel)) (by decide +kernel))
theorem kw_783 {args : Array Value} {s : State} (h : ∀ w ∈ kws, w.before args s = true) : (Cond.constantLong RX6 72 126).before args s = true := h _ (k_in (List.mem_of_getElem? (i := 783) (by decide +kernel)) (by decide +kernel))
theorem kw_785 {args : Array Value} {s : State} (h : ∀ w ∈ kws, w.before args s = true) : (Cond.instanceMethod yX6_read).before args s = true := h _ (k_in (List.mem_of_getElem? (i := 785) (by decide +kernel)) (by decide +kernel))
theorem kw_786 {args : Array Value} {s : State} (h : ∀ w ∈ kws, w.before args s = true) : (Cond.selects RX6 yX6_read yX6_read).before args s = true := h _ (k_in (List.mem_of_getElem? (i := 786) (by decide +kernel)) (by decide +kernel))
theorem kc_787 : Cond.code yX6_read prog_8_method_19_code 2 (some .int) ∈ kws := k_in (List.mem_of_getElem? (i := 787) (by decide +kernel)) (by decide +kernel)
theorem kw_788 {args : Array Value} {s : State} (h : ∀ w ∈ kws, w.before args s = true) : (Cond.methodLink RX6 159 yX6_readSide).before args s = true := h _ (k_in (List.mem_of_getElem? (i := 788) (by decide +kernel)) (by decide +kernel))
theorem kw_790 {args : Array Value} {s : State} (h : ∀ w ∈ kws, w.before args s = true) : (Cond.instanceMethod yX6_readSide).before args s = true := h _ (k_in (List.mem_of_getElem? (i := 790) (by decide +kernel)) (by decide +kernel))
theorem kc_791 : Cond.code yX6_readSide prog_8_method_18_code 3 none ∈ kws := k_in (List.mem_of_getElem? (i := 791) (by decide +kernel)) (by decide +kernel)
theorem kw_792 {args : Array Value} {s : State} (h : ∀ w ∈ kws, w.before args s = true) : (Cond.methodLink RX6 152 yX6_skip).before args s = true := h _ (k_in (List.mem_of_getElem? (i := 792) (by decide +kernel)) (by decide +kernel))
theorem kw_794 {args : Array Value} {s : State} (h : ∀ w ∈ kws, w.before args s = true) : (Cond.instanceMethod yX6_skip).before args s = true := h _ (k_in (List.mem_of_getElem? (i := 794) (by decide +kernel)) (by decide +kernel))
theorem kc_795 : Cond.code yX6_skip prog_8_method_9_code 1 none ∈ kws := k_in (List.mem_of_getElem? (i := 795) (by decide +kernel)) (by decide +kernel)
theorem kw_796 {args : Array Value} {s : State} (h : ∀ w ∈ kws, w.before args s = true) : (Cond.methodLink RX6 93 yX6_charAt).before args s = true := h _ (k_in (List.mem_of_getElem? (i := 796) (by decide +kernel)) (by decide +kernel))
theorem kw_798 {args : Array Value} {s : State} (h : ∀ w ∈ kws, w.before args s = true) : (Cond.instanceMethod yX6_charAt).before args s = true := h _ (k_in (List.mem_of_getElem? (i := 798) (by decide +kernel)) (by decide +kernel))
theorem kc_799 : Cond.code yX6_charAt prog_8_method_6_code 2 (some .char) ∈ kws := k_in (List.mem_of_getElem? (i := 799) (by decide +kernel)) (by decide +kernel)
theorem kw_800 {args : Array Value} {s : State} (h : ∀ w ∈ kws, w.before args s = true) : (Cond.methodLink RX6 101 yX6_failIf).before args s = true := h _ (k_in (List.mem_of_getElem? (i := 800) (by decide +kernel)) (by decide +kernel))
theorem kw_802 {args : Array Value} {s : State} (h : ∀ w ∈ kws, w.before args s = true) : (Cond.instanceMethod yX6_failIf).before args s = true := h _ (k_in (List.mem_of_getElem? (i := 802) (by decide +kernel)) (by decide +kernel))
theorem kc_803 : Cond.code yX6_failIf prog_8_method_5_code 4 none ∈ kws := k_in (List.mem_of_getElem? (i := 803) (by decide +kernel)) (by decide +kernel)
theorem kw_804 {args : Array Value} {s : State} (h : ∀ w ∈ kws, w.before args s = true) : (Cond.methodLink RX6 83 yX6_fail).before args s = true := h _ (k_in (List.mem_of_getElem? (i := 804) (by decide +kernel)) (by decide +kernel))
theorem kw_806 {args : Array Value} {s : State} (h : ∀ w ∈ kws, w.before args s = true) : (Cond.instanceMethod yX6_fail).before args s = true := h _ (k_in (List.mem_of_getElem? (i := 806) (by decide +kernel)) (by decide +kernel))
theorem kc_807 : Cond.code yX6_fail prog_8_method_4_code 3 none ∈ kws := k_in (List.mem_of_getElem? (i := 807) (by decide +kernel)) (by decide +kernel)
theorem kw_808 {args : Array Value} {s : State} (h : ∀ w ∈ kws, w.before args s = true) : (Cond.methodLink RX6 155 yX6_readFormula).before args s = true := h _ (k_in (List.mem_of_getElem? (i := 808) (by decide +kernel)) (by decide +kernel))
theorem kw_810 {args : Array Value} {s : State} (h : ∀ w ∈ kws, w.before args s = true) : (Cond.instanceMethod yX6_readFormula).before args s = true := h _ (k_in (List.mem_of_getElem? (i := 810) (by decide +kernel)) (by decide +kernel))
theorem kc_811 : Cond.code yX6_readFormula prog_8_method_17_code 4 none ∈ kws := k_in (List.mem_of_getElem? (i := 811) (by decide +kernel)) (by decide +kernel)
theorem kw_812 {args : Array Value} {s : State} (h : ∀ w ∈ kws, w.before args s = true) : (Cond.methodLink RX6 136 yX6_noteCharge).before args s = true := h _ (k_in (List.mem_of_getElem? (i := 812) (by decide +kernel)) (by decide +kernel))
theorem kw_814 {args : Array Value} {s : State} (h : ∀ w ∈ kws, w.before args s = true) : (Cond.instanceMethod yX6_noteCharge).before args s = true := h _ (k_in (List.mem_of_getElem? (i := 814) (by decide +kernel)) (by decide +kernel))
theorem kc_815 : Cond.code yX6_noteCharge prog_8_method_11_code 2 none ∈ kws := k_in (List.mem_of_getElem? (i := 815) (by decide +kernel)) (by decide +kernel)
theorem kw_816 {args : Array Value} {s : State} (h : ∀ w ∈ kws, w.before args s = true) : (Cond.constantLong RX6 140 (-1)).before args s = true := h _ (k_in (List.mem_of_getElem? (i := 816) (by decide +kernel)) (by decide +kernel))
theorem kw_817 {args : Array Value} {s : State} (h : ∀ w ∈ kws, w.before args s = true) : (Cond.methodLink RX6 142 yX6_readPart).before args s = true := h _ (k_in (List.mem_of_getElem? (i := 817) (by decide +kernel)) (by decide +kernel))
theorem kw_819 {args : Array Value} {s : State} (h : ∀ w ∈ kws, w.before args s = true) : (Cond.instanceMethod yX6_readPart).before args s = true := h _ (k_in (List.mem_of_getElem? (i := 819) (by decide +kernel)) (by decide +kernel))
theorem kc_820 : Cond.code yX6_readPart prog_8_method_15_code 6 none ∈ kws := k_in (List.mem_of_getElem? (i := 820) (by decide +kernel)) (by decide +kernel)
theorem kw_821 {args : Array Value} {s : State} (h : ∀ w ∈ kws, w.before args s = true) : (Cond.methodLink RX6 125 yX6_number0).before args s = true := h _ (k_in (List.mem_of_getElem? (i := 821) (by decide +kernel)) (by decide +kernel))
theorem kw_823 {args : Array Value} {s : State} (h : ∀ w ∈ kws, w.before args s = true) : (Cond.instanceMethod yX6_number0).before args s = true := h _ (k_in (List.mem_of_getElem? (i := 823) (by decide +kernel)) (by decide +kernel))
theorem kc_824 : Cond.code yX6_number0 prog_8_method_10_code 3 (some .long) ∈ kws := k_in (List.mem_of_getElem? (i := 824) (by decide +kernel)) (by decide +kernel)
theorem kw_825 {args : Array Value} {s : State} (h : ∀ w ∈ kws, w.before args s = true) : (Cond.methodLink RX6 97 yX6_isDigit).before args s = true := h _ (k_in (List.mem_of_getElem? (i := 825) (by decide +kernel)) (by decide +kernel))
theorem kw_826 {args : Array Value} {s : State} (h : ∀ w ∈ kws, w.before args s = true) : (Cond.static yX6_isDigit).before args s = true := h _ (k_in (List.mem_of_getElem? (i := 826) (by decide +kernel)) (by decide +kernel))
theorem kc_827 : Cond.code yX6_isDigit prog_8_method_7_code 1 (some .boolean) ∈ kws := k_in (List.mem_of_getElem? (i := 827) (by decide +kernel)) (by decide +kernel)
theorem kw_828 {args : Array Value} {s : State} (h : ∀ w ∈ kws, w.before args s = true) : (Cond.methodLink RX6 115 yX6_clearSums).before args s = true := h _ (k_in (List.mem_of_getElem? (i := 828) (by decide +kernel)) (by decide +kernel))
theorem kw_830 {args : Array Value} {s : State} (h : ∀ w ∈ kws, w.before args s = true) : (Cond.instanceMethod yX6_clearSums).before args s = true := h _ (k_in (List.mem_of_getElem? (i := 830) (by decide +kernel)) (by decide +kernel))
theorem kc_831 : Cond.code yX6_clearSums prog_8_method_13_code 2 none ∈ kws := k_in (List.mem_of_getElem? (i := 831) (by decide +kernel)) (by decide +kernel)
theorem kw_832 {args : Array Value} {s : State} (h : ∀ w ∈ kws, w.before args s = true) : (Cond.methodLink RX6 129 yX6_readStep).before args s = true := h _ (k_in (List.mem_of_getElem? (i := 832) (by decide +kernel)) (by decide +kernel))
theorem kw_834 {args : Array Value} {s : State} (h : ∀ w ∈ kws, w.before args s = true) : (Cond.instanceMethod yX6_readStep).before args s = true := h _ (k_in (List.mem_of_getElem? (i := 834) (by decide +kernel)) (by decide +kernel))
theorem kc_835 : Cond.code yX6_readStep prog_8_method_14_code 6 (some .boolean) ∈ kws := k_in (List.mem_of_getElem? (i := 835) (by decide +kernel)) (by decide +kernel)
theorem kw_836 {args : Array Value} {s : State} (h : ∀ w ∈ kws, w.before args s = true) : (Cond.methodLink RX6 118 yX6_isCapital).before args s = true := h _ (k_in (List.mem_of_getElem? (i := 836) (by decide +kernel)) (by decide +kernel))
theorem kw_837 {args : Array Value} {s : State} (h : ∀ w ∈ kws, w.before args s = true) : (Cond.static yX6_isCapital).before args s = true := h _ (k_in (List.mem_of_getElem? (i := 837) (by decide +kernel)) (by decide +kernel))
theorem kc_838 : Cond.code yX6_isCapital prog_8_method_8_code 1 (some .boolean) ∈ kws := k_in (List.mem_of_getElem? (i := 838) (by decide +kernel)) (by decide +kernel)
theorem kw_839 {args : Array Value} {s : State} (h : ∀ w ∈ kws, w.before args s = true) : (Cond.methodLink RX6 121 yX6_element).before args s = true := h _ (k_in (List.mem_of_getElem? (i := 839) (by decide +kernel)) (by decide +kernel))
theorem kw_841 {args : Array Value} {s : State} (h : ∀ w ∈ kws, w.before args s = true) : (Cond.instanceMethod yX6_element).before args s = true := h _ (k_in (List.mem_of_getElem? (i := 841) (by decide +kernel)) (by decide +kernel))
theorem kc_842 : Cond.code yX6_element prog_8_method_12_code 5 (some .int) ∈ kws := k_in (List.mem_of_getElem? (i := 842) (by decide +kernel)) (by decide +kernel)
theorem kw_843 {args : Array Value} {s : State} (h : ∀ w ∈ kws, w.before args s = true) : (Cond.methodLink RX6 145 yX6_readCharge).before args s = true := h _ (k_in (List.mem_of_getElem? (i := 843) (by decide +kernel)) (by decide +kernel))
theorem kw_845 {args : Array Value} {s : State} (h : ∀ w ∈ kws, w.before args s = true) : (Cond.instanceMethod yX6_readCharge).before args s = true := h _ (k_in (List.mem_of_getElem? (i := 845) (by decide +kernel)) (by decide +kernel))
theorem kc_846 : Cond.code yX6_readCharge prog_8_method_16_code 4 none ∈ kws := k_in (List.mem_of_getElem? (i := 846) (by decide +kernel)) (by decide +kernel)
theorem kw_847 {args : Array Value} {s : State} (h : ∀ w ∈ kws, w.before args s = true) : (Cond.constantLong RX6 148 40).before args s = true := h _ (k_in (List.mem_of_getElem? (i := 847) (by decide +kernel)) (by decide +kernel))
theorem kw_848 {args : Array Value} {s : State} (h : ∀ w ∈ kws, w.before args s = true) : (Cond.constantLong RX6 150 (-40)).before args s = true := h _ (k_in (List.mem_of_getElem? (i := 848) (by decide +kernel)) (by decide +kernel))
theorem kw_849 {args : Array Value} {s : State} (h : ∀ w ∈ kws, w.before args s = true) : (Cond.methodLink RX6 165 yX6_solve).before args s = true := h _ (k_in (List.mem_of_getElem? (i := 849) (by decide +kernel)) (by decide +kernel))
theorem kw_851 {args : Array Value} {s : State} (h : ∀ w ∈ kws, w.before args s = true) : (Cond.instanceMethod yX6_solve).before args s = true := h _ (k_in (List.mem_of_getElem? (i := 851) (by decide +kernel)) (by decide +kernel))
theorem kc_852 : Cond.code yX6_solve prog_8_method_29_code 2 none ∈ kws := k_in (List.mem_of_getElem? (i := 852) (by decide +kernel)) (by decide +kernel)
theorem kw_853 {args : Array Value} {s : State} (h : ∀ w ∈ kws, w.before args s = true) : (Cond.methodLink RX6 191 yX6_noteLeads).before args s = true := h _ (k_in (List.mem_of_getElem? (i := 853) (by decide +kernel)) (by decide +kernel))
theorem kw_855 {args : Array Value} {s : State} (h : ∀ w ∈ kws, w.before args s = true) : (Cond.instanceMethod yX6_noteLeads).before args s = true := h _ (k_in (List.mem_of_getElem? (i := 855) (by decide +kernel)) (by decide +kernel))
theorem kc_856 : Cond.code yX6_noteLeads prog_8_method_27_code 2 none ∈ kws := k_in (List.mem_of_getElem? (i := 856) (by decide +kernel)) (by decide +kernel)
theorem kw_857 {args : Array Value} {s : State} (h : ∀ w ∈ kws, w.before args s = true) : (Cond.methodLink RX6 175 yX6_kindCount).before args s = true := h _ (k_in (List.mem_of_getElem? (i := 857) (by decide +kernel)) (by decide +kernel))
theorem kw_859 {args : Array Value} {s : State} (h : ∀ w ∈ kws, w.before args s = true) : (Cond.instanceMethod yX6_kindCount).before args s = true := h _ (k_in (List.mem_of_getElem? (i := 859) (by decide +kernel)) (by decide +kernel))
theorem kc_860 : Cond.code yX6_kindCount prog_8_method_21_code 1 (some .int) ∈ kws := k_in (List.mem_of_getElem? (i := 860) (by decide +kernel)) (by decide +kernel)
theorem kw_861 {args : Array Value} {s : State} (h : ∀ w ∈ kws, w.before args s = true) : (Cond.methodLink RX6 194 yX6_rowsFor).before args s = true := h _ (k_in (List.mem_of_getElem? (i := 861) (by decide +kernel)) (by decide +kernel))
theorem kw_863 {args : Array Value} {s : State} (h : ∀ w ∈ kws, w.before args s = true) : (Cond.instanceMethod yX6_rowsFor).before args s = true := h _ (k_in (List.mem_of_getElem? (i := 863) (by decide +kernel)) (by decide +kernel))
theorem kc_864 : Cond.code yX6_rowsFor prog_8_method_25_code 3 (some .int) ∈ kws := k_in (List.mem_of_getElem? (i := 864) (by decide +kernel)) (by decide +kernel)
theorem kw_865 {args : Array Value} {s : State} (h : ∀ w ∈ kws, w.before args s = true) : (Cond.methodLink RX6 178 yX6_sizeOf).before args s = true := h _ (k_in (List.mem_of_getElem? (i := 865) (by decide +kernel)) (by decide +kernel))
theorem kw_866 {args : Array Value} {s : State} (h : ∀ w ∈ kws, w.before args s = true) : (Cond.static yX6_sizeOf).before args s = true := h _ (k_in (List.mem_of_getElem? (i := 866) (by decide +kernel)) (by decide +kernel))
theorem kc_867 : Cond.code yX6_sizeOf prog_8_method_24_code 3 (some .int) ∈ kws := k_in (List.mem_of_getElem? (i := 867) (by decide +kernel)) (by decide +kernel)
theorem kw_868 {args : Array Value} {s : State} (h : ∀ w ∈ kws, w.before args s = true) : (Cond.methodLink RX6 182 yX6_determinant).before args s = true := h _ (k_in (List.mem_of_getElem? (i := 868) (by decide +kernel)) (by decide +kernel))
theorem kw_870 {args : Array Value} {s : State} (h : ∀ w ∈ kws, w.before args s = true) : (Cond.instanceMethod yX6_determinant).before args s = true := h _ (k_in (List.mem_of_getElem? (i := 870) (by decide +kernel)) (by decide +kernel))
theorem kc_871 : Cond.code yX6_determinant prog_8_method_23_code 13 (some .long) ∈ kws := k_in (List.mem_of_getElem? (i := 871) (by decide +kernel)) (by decide +kernel)
theorem kw_872 {args : Array Value} {s : State} (h : ∀ w ∈ kws, w.before args s = true) : (Cond.methodLink RX6 171 yX6_hasOf).before args s = true := h _ (k_in (List.mem_of_getElem? (i := 872) (by decide +kernel)) (by decide +kernel))
theorem kw_874 {args : Array Value} {s : State} (h : ∀ w ∈ kws, w.before args s = true) : (Cond.instanceMethod yX6_hasOf).before args s = true := h _ (k_in (List.mem_of_getElem? (i := 874) (by decide +kernel)) (by decide +kernel))
theorem kc_875 : Cond.code yX6_hasOf prog_8_method_22_code 3 (some .long) ∈ kws := k_in (List.mem_of_getElem? (i := 875) (by decide +kernel)) (by decide +kernel)
theorem kw_876 {args : Array Value} {s : State} (h : ∀ w ∈ kws, w.before args s = true) : (Cond.methodLink RX6 201 yX6_makeBase).before args s = true := h _ (k_in (List.mem_of_getElem? (i := 876) (by decide +kernel)) (by decide +kernel))
theorem kw_878 {args : Array Value} {s : State} (h : ∀ w ∈ kws, w.before args s = true) : (Cond.instanceMethod yX6_makeBase).before args s = true := h _ (k_in (List.mem_of_getElem? (i := 878) (by decide +kernel)) (by decide +kernel))
theorem kc_879 : Cond.code yX6_makeBase prog_8_method_28_code 10 none ∈ kws := k_in (List.mem_of_getElem? (i := 879) (by decide +kernel)) (by decide +kernel)
theorem kw_880 {args : Array Value} {s : State} (h : ∀ w ∈ kws, w.before args s = true) : (Cond.methodLink RX6 197 yX6_common).before args s = true := h _ (k_in (List.mem_of_getElem? (i := 880) (by decide +kernel)) (by decide +kernel))
theorem kw_881 {args : Array Value} {s : State} (h : ∀ w ∈ kws, w.before args s = true) : (Cond.static yX6_common).before args s = true := h _ (k_in (List.mem_of_getElem? (i := 881) (by decide +kernel)) (by decide +kernel))
theorem kc_882 : Cond.code yX6_common prog_8_method_26_code 10 (some .long) ∈ kws := k_in (List.mem_of_getElem? (i := 882) (by decide +kernel)) (by decide +kernel)
theorem kw_883 {args : Array Value} {s : State} (h : ∀ w ∈ kws, w.before args s = true) : (Cond.methodLink RX6 168 yX6_write).before args s = true := h _ (k_in (List.mem_of_getElem? (i := 883) (by decide +kernel)) (by decide +kernel))
theorem kw_885 {args : Array Value} {s : State} (h : ∀ w ∈ kws, w.before args s = true) : (Cond.instanceMethod yX6_write).before args s = true := h _ (k_in (List.mem_of_getElem? (i := 885) (by decide +kernel)) (by decide +kernel))
theorem kc_886 : Cond.code yX6_write prog_8_method_33_code 3 none ∈ kws := k_in (List.mem_of_getElem? (i := 886) (by decide +kernel)) (by decide +kernel)
theorem kw_887 {args : Array Value} {s : State} (h : ∀ w ∈ kws, w.before args s = true) : (Cond.methodLink RX6 216 yX6_isBalanced).before args s = true := h _ (k_in (List.mem_of_getElem? (i := 887) (by decide +kernel)) (by decide +kernel))
theorem kw_889 {args : Array Value} {s : State} (h : ∀ w ∈ kws, w.before args s = true) : (Cond.instanceMethod yX6_isBalanced).before args s = true := h _ (k_in (List.mem_of_getElem? (i := 889) (by decide +kernel)) (by decide +kernel))
theorem kc_890 : Cond.code yX6_isBalanced prog_8_method_30_code 3 (some .boolean) ∈ kws := k_in (List.mem_of_getElem? (i := 890) (by decide +kernel)) (by decide +kernel)
theorem kw_891 {args : Array Value} {s : State} (h : ∀ w ∈ kws, w.before args s = true) : (Cond.methodLink RX6 213 yX6_put).before args s = true := h _ (k_in (List.mem_of_getElem? (i := 891) (by decide +kernel)) (by decide +kernel))
theorem kw_893 {args : Array Value} {s : State} (h : ∀ w ∈ kws, w.before args s = true) : (Cond.instanceMethod yX6_put).before args s = true := h _ (k_in (List.mem_of_getElem? (i := 893) (by decide +kernel)) (by decide +kernel))
theorem kc_894 : Cond.code yX6_put prog_8_method_31_code 2 none ∈ kws := k_in (List.mem_of_getElem? (i := 894) (by decide +kernel)) (by decide +kernel)
theorem kw_895 {args : Array Value} {s : State} (h : ∀ w ∈ kws, w.before args s = true) : (Cond.methodLink RX6 220 yX6_putNumber).before args s = true := h _ (k_in (List.mem_of_getElem? (i := 895) (by decide +kernel)) (by decide +kernel))
theorem kw_897 {args : Array Value} {s : State} (h : ∀ w ∈ kws, w.before args s = true) : (Cond.instanceMethod yX6_putNumber).before args s = true := h _ (k_in (List.mem_of_getElem? (i := 897) (by decide +kernel)) (by decide +kernel))
theorem kc_898 : Cond.code yX6_putNumber prog_8_method_32_code 7 none ∈ kws := k_in (List.mem_of_getElem? (i := 898) (by decide +kernel)) (by decide +kernel)
theorem kw_899 {args : Array Value} {s : State} (h : ∀ w ∈ kws, w.before args s = true) : (Cond.constantLong RX6 207 9).before args s = true := h _ (k_in (List.mem_of_getElem? (i := 899) (by decide +kernel)) (by decide +kernel))
theorem kw_900 {args : Array Value} {s : State} (h : ∀ w ∈ kws, w.before args s = true) : (Cond.constantLong RX6 209 10).before args s = true := h _ (k_in (List.mem_of_getElem? (i := 900) (by decide +kernel)) (by decide +kernel))
theorem kw_901 {args : Array Value} {s : State} (h : ∀ w ∈ kws, w.before args s = true) : (Cond.constantLong RX6 211 48).before args s = true := h _ (k_in (List.mem_of_getElem? (i := 901) (by decide +kernel)) (by decide +kernel))
theorem kw_903 {args : Array Value} {s : State} (h : ∀ w ∈ kws, w.before args s = true) : (Cond.instanceMethod yX6_at).before args s = true := h _ (k_in (List.mem_of_getElem? (i := 903) (by decide +kernel)) (by decide +kernel))
theorem kw_904 {args : Array Value} {s : State} (h : ∀ w ∈ kws, w.before args s = true) : (Cond.selects RX6 yX6_at yX6_at).before args s = true := h _ (k_in (List.mem_of_getElem? (i := 904) (by decide +kernel)) (by decide +kernel))
theorem kc_905 : Cond.code yX6_at prog_8_method_20_code 1 (some .int) ∈ kws := k_in (List.mem_of_getElem? (i := 905) (by decide +kernel)) (by decide +kernel)
theorem kw_907 {args : Array Value} {s : State} (h : ∀ w ∈ kws, w.before args s = true) : (Cond.instanceMethod yX6_state).before args s = true := h _ (k_in (List.mem_of_getElem? (i := 907) (by decide +kernel)) (by decide +kernel))
theorem kw_908 {args : Array Value} {s : State} (h : ∀ w ∈ kws, w.before args s = true) : (Cond.selects RX6 yX6_state yX6_state).before args s = true := h _ (k_in (List.mem_of_getElem? (i := 908) (by decide +kernel)) (by decide +kernel))
theorem kc_909 : Cond.code yX6_state prog_8_method_34_code 1 (some .int) ∈ kws := k_in (List.mem_of_getElem? (i := 909) (by decide +kernel)) (by decide +kernel)
theorem kw_911 {args : Array Value} {s : State} (h : ∀ w ∈ kws, w.before args s = true) : (Cond.instanceMethod yX6_freedom).before args s = true := h _ (k_in (List.mem_of_getElem? (i := 911) (by decide +kernel)) (by decide +kernel))
theorem kw_912 {args : Array Value} {s : State} (h : ∀ w ∈ kws, w.before args s = true) : (Cond.selects RX6 yX6_freedom yX6_freedom).before args s = true := h _ (k_in (List.mem_of_getElem? (i := 912) (by decide +kernel)) (by decide +kernel))
theorem kc_913 : Cond.code yX6_freedom prog_8_method_35_code 1 (some .int) ∈ kws := k_in (List.mem_of_getElem? (i := 913) (by decide +kernel)) (by decide +kernel)
theorem kw_915 {args : Array Value} {s : State} (h : ∀ w ∈ kws, w.before args s = true) : (Cond.instanceMethod yX6_formulas).before args s = true := h _ (k_in (List.mem_of_getElem? (i := 915) (by decide +kernel)) (by decide +kernel))
theorem kw_916 {args : Array Value} {s : State} (h : ∀ w ∈ kws, w.before args s = true) : (Cond.selects RX6 yX6_formulas yX6_formulas).before args s = true := h _ (k_in (List.mem_of_getElem? (i := 916) (by decide +kernel)) (by decide +kernel))
theorem kc_917 : Cond.code yX6_formulas prog_8_method_36_code 1 (some .int) ∈ kws := k_in (List.mem_of_getElem? (i := 917) (by decide +kernel)) (by decide +kernel)
theorem kw_919 {args : Array Value} {s : State} (h : ∀ w ∈ kws, w.before args s = true) : (Cond.instanceMethod yX6_kinds).before args s = true := h _ (k_in (List.mem_of_getElem? (i := 919) (by decide +kernel)) (by decide +kernel))
theorem kw_920 {args : Array Value} {s : State} (h : ∀ w ∈ kws, w.before args s = true) : (Cond.selects RX6 yX6_kinds yX6_kinds).before args s = true := h _ (k_in (List.mem_of_getElem? (i := 920) (by decide +kernel)) (by decide +kernel))
theorem kc_921 : Cond.code yX6_kinds prog_8_method_37_code 1 (some .int) ∈ kws := k_in (List.mem_of_getElem? (i := 921) (by decide +kernel)) (by decide +kernel)
theorem kw_923 {args : Array Value} {s : State} (h : ∀ w ∈ kws, w.before args s = true) : (Cond.instanceMethod yX6_name).before args s = true := h _ (k_in (List.mem_of_getElem? (i := 923) (by decide +kernel)) (by decide +kernel))
theorem kw_924 {args : Array Value} {s : State} (h : ∀ w ∈ kws, w.before args s = true) : (Cond.selects RX6 yX6_name yX6_name).before args s = true := h _ (k_in (List.mem_of_getElem? (i := 924) (by decide +kernel)) (by decide +kernel))
theorem kc_925 : Cond.code yX6_name prog_8_method_40_code 2 (some .int) ∈ kws := k_in (List.mem_of_getElem? (i := 925) (by decide +kernel)) (by decide +kernel)
theorem kw_926 {args : Array Value} {s : State} (h : ∀ w ∈ kws, w.before args s = true) : (Cond.methodLink RX6 224 yX6_isKind).before args s = true := h _ (k_in (List.mem_of_getElem? (i := 926) (by decide +kernel)) (by decide +kernel))
theorem kw_928 {args : Array Value} {s : State} (h : ∀ w ∈ kws, w.before args s = true) : (Cond.instanceMethod yX6_isKind).before args s = true := h _ (k_in (List.mem_of_getElem? (i := 928) (by decide +kernel)) (by decide +kernel))
theorem kc_929 : Cond.code yX6_isKind prog_8_method_38_code 2 (some .boolean) ∈ kws := k_in (List.mem_of_getElem? (i := 929) (by decide +kernel)) (by decide +kernel)
theorem kw_931 {args : Array Value} {s : State} (h : ∀ w ∈ kws, w.before args s = true) : (Cond.instanceMethod yX6_has).before args s = true := h _ (k_in (List.mem_of_getElem? (i := 931) (by decide +kernel)) (by decide +kernel))
theorem kw_932 {args : Array Value} {s : State} (h : ∀ w ∈ kws, w.before args s = true) : (Cond.selects RX6 yX6_has yX6_has).before args s = true := h _ (k_in (List.mem_of_getElem? (i := 932) (by decide +kernel)) (by decide +kernel))
theorem kc_933 : Cond.code yX6_has prog_8_method_41_code 3 (some .int) ∈ kws := k_in (List.mem_of_getElem? (i := 933) (by decide +kernel)) (by decide +kernel)
theorem kw_934 {args : Array Value} {s : State} (h : ∀ w ∈ kws, w.before args s = true) : (Cond.methodLink RX6 228 yX6_isFormula).before args s = true := h _ (k_in (List.mem_of_getElem? (i := 934) (by decide +kernel)) (by decide +kernel))
theorem kw_936 {args : Array Value} {s : State} (h : ∀ w ∈ kws, w.before args s = true) : (Cond.instanceMethod yX6_isFormula).before args s = true := h _ (k_in (List.mem_of_getElem? (i := 936) (by decide +kernel)) (by decide +kernel))
theorem kc_937 : Cond.code yX6_isFormula prog_8_method_39_code 2 (some .boolean) ∈ kws := k_in (List.mem_of_getElem? (i := 937) (by decide +kernel)) (by decide +kernel)
theorem kw_939 {args : Array Value} {s : State} (h : ∀ w ∈ kws, w.before args s = true) : (Cond.instanceMethod yX6_product).before args s = true := h _ (k_in (List.mem_of_getElem? (i := 939) (by decide +kernel)) (by decide +kernel))
theorem kw_940 {args : Array Value} {s : State} (h : ∀ w ∈ kws, w.before args s = true) : (Cond.selects RX6 yX6_product yX6_product).before args s = true := h _ (k_in (List.mem_of_getElem? (i := 940) (by decide +kernel)) (by decide +kernel))
theorem kc_941 : Cond.code yX6_product prog_8_method_42_code 2 (some .boolean) ∈ kws := k_in (List.mem_of_getElem? (i := 941) (by decide +kernel)) (by decide +kernel)
theorem kw_943 {args : Array Value} {s : State} (h : ∀ w ∈ kws, w.before args s = true) : (Cond.instanceMethod yX6_free).before args s = true := h _ (k_in (List.mem_of_getElem? (i := 943) (by decide +kernel)) (by decide +kernel))
theorem kw_944 {args : Array Value} {s : State} (h : ∀ w ∈ kws, w.before args s = true) : (Cond.selects RX6 yX6_free yX6_free).before args s = true := h _ (k_in (List.mem_of_getElem? (i := 944) (by decide +kernel)) (by decide +kernel))
theorem kc_945 : Cond.code yX6_free prog_8_method_43_code 2 (some .boolean) ∈ kws := k_in (List.mem_of_getElem? (i := 945) (by decide +kernel)) (by decide +kernel)
theorem kw_947 {args : Array Value} {s : State} (h : ∀ w ∈ kws, w.before args s = true) : (Cond.instanceMethod yX6_number).before args s = true := h _ (k_in (List.mem_of_getElem? (i := 947) (by decide +kernel)) (by decide +kernel))
theorem kw_948 {args : Array Value} {s : State} (h : ∀ w ∈ kws, w.before args s = true) : (Cond.selects RX6 yX6_number yX6_number).before args s = true := h _ (k_in (List.mem_of_getElem? (i := 948) (by decide +kernel)) (by decide +kernel))
theorem kc_949 : Cond.code yX6_number prog_8_method_44_code 3 (some .long) ∈ kws := k_in (List.mem_of_getElem? (i := 949) (by decide +kernel)) (by decide +kernel)
theorem kw_951 {args : Array Value} {s : State} (h : ∀ w ∈ kws, w.before args s = true) : (Cond.instanceMethod yX6_weight).before args s = true := h _ (k_in (List.mem_of_getElem? (i := 951) (by decide +kernel)) (by decide +kernel))
theorem kw_952 {args : Array Value} {s : State} (h : ∀ w ∈ kws, w.before args s = true) : (Cond.selects RX6 yX6_weight yX6_weight).before args s = true := h _ (k_in (List.mem_of_getElem? (i := 952) (by decide +kernel)) (by decide +kernel))
theorem kc_953 : Cond.code yX6_weight prog_8_method_45_code 5 (some .long) ∈ kws := k_in (List.mem_of_getElem? (i := 953) (by decide +kernel)) (by decide +kernel)
theorem kw_955 {args : Array Value} {s : State} (h : ∀ w ∈ kws, w.before args s = true) : (Cond.instanceMethod yX6_written).before args s = true := h _ (k_in (List.mem_of_getElem? (i := 955) (by decide +kernel)) (by decide +kernel))
theorem kw_956 {args : Array Value} {s : State} (h : ∀ w ∈ kws, w.before args s = true) : (Cond.selects RX6 yX6_written yX6_written).before args s = true := h _ (k_in (List.mem_of_getElem? (i := 956) (by decide +kernel)) (by decide +kernel))
theorem kc_957 : Cond.code yX6_written prog_8_method_46_code 2 (some .int) ∈ kws := k_in (List.mem_of_getElem? (i := 957) (by decide +kernel)) (by decide +kernel)
theorem kw_959 {args : Array Value} {s : State} (h : ∀ w ∈ kws, w.before args s = true) : (Cond.instanceMethod yX6_solves).before args s = true := h _ (k_in (List.mem_of_getElem? (i := 959) (by decide +kernel)) (by decide +kernel))
theorem kw_960 {args : Array Value} {s : State} (h : ∀ w ∈ kws, w.before args s = true) : (Cond.selects RX6 yX6_solves yX6_solves).before args s = true := h _ (k_in (List.mem_of_getElem? (i := 960) (by decide +kernel)) (by decide +kernel))
theorem kc_961 : Cond.code yX6_solves prog_8_method_47_code 15 (some .boolean) ∈ kws := k_in (List.mem_of_getElem? (i := 961) (by decide +kernel)) (by decide +kernel)
def k_nest : List Cond := [.methodLinkNest RX5 9 yX3_init RX5, .methodLinkNest RX3 11 yX4_init RX5, .methodLinkNest RX3 20 yX1_init RX5, .methodLinkNest RX5 18 yX0_init RX5, .methodLinkNest RX5 25 yX2_init RX5, .methodLinkNest RX3 148 yX5_isDigit RX5, .methodLinkNest RX3 127 yX5_isCapital RX5, .methodLinkNest RX3 141 yX5_isSmall RX5]
def k_N (U : State) : Prop := ∀ w ∈ k_nest, va_Nw w U
theorem kn_0 {s : State} (h : k_N s) : va_Nw (.methodLinkNest RX5 9 yX3_init RX5) s := h _ (List.mem_of_getElem? (i := 0) rfl)
theorem kn_1 {s : State} (h : k_N s) : va_Nw (.methodLinkNest RX3 11 yX4_init RX5) s := h _ (List.mem_of_getElem? (i := 1) rfl)
theorem kn_2 {s : State} (h : k_N s) : va_Nw (.methodLinkNest RX3 20 yX1_init RX5) s := h _ (List.mem_of_getElem? (i := 2) rfl)
theorem kn_3 {s : State} (h : k_N s) : va_Nw (.methodLinkNest RX5 18 yX0_init RX5) s := h _ (List.mem_of_getElem? (i := 3) rfl)
theorem kn_4 {s : State} (h : k_N s) : va_Nw (.methodLinkNest RX5 25 yX2_init RX5) s := h _ (List.mem_of_getElem? (i := 4) rfl)
theorem kn_5 {s : State} (h : k_N s) : va_Nw (.methodLinkNest RX3 148 yX5_isDigit RX5) s := h _ (List.mem_of_getElem? (i := 5) rfl)
theorem kn_6 {s : State} (h : k_N s) : va_Nw (.methodLinkNest RX3 127 yX5_isCapital RX5) s := h _ (List.mem_of_getElem? (i := 6) rfl)
theorem kn_7 {s : State} (h : k_N s) : va_Nw (.methodLinkNest RX3 141 yX5_isSmall RX5) s := h _ (List.mem_of_getElem? (i := 7) rfl)
theorem k_N.warm {s U : State} (hW : s.WarmedH U.vm) (h : k_N s) : k_N U := by
  intro w hw
  have h1 := h w hw
  simp only [k_nest, List.mem_cons, List.not_mem_nil, or_false] at hw
  rcases hw with rfl | rfl | rfl | rfl | rfl | rfl | rfl | rfl <;> exact va_Nw.warmM hW h1
theorem k_N.same {s U : State} (hv : s.vm = U.vm) (h : k_N s) : k_N U := by
  intro w hw
  have h1 := h w hw
  simp only [k_nest, List.mem_cons, List.not_mem_nil, or_false] at hw
  rcases hw with rfl | rfl | rfl | rfl | rfl | rfl | rfl | rfl <;> exact va_Nw.same rfl hv h1
end
section
/-! The state of a system as plain functions; pure functions with 'none' for what can't be; loops by fuel; contracts that say 'as the pure function has it'. -/
abbrev vS : Type := (Nat → Int32) × (Nat → Nat → Int32) × (Nat → Int64) × (Nat → Nat → Int64)
def p_i (σ : vS) (k : Nat) (v : Int32) : vS := (upd σ.1 k v, σ.2.1, σ.2.2.1, σ.2.2.2)
def p_a (σ : vS) (a i : Nat) (v : Int32) : vS := (σ.1, va_up σ.2.1 a (upd (σ.2.1 a) i v), σ.2.2.1, σ.2.2.2)
def p_j (σ : vS) (k : Nat) (v : Int64) : vS := (σ.1, σ.2.1, vp_updL σ.2.2.1 k v, σ.2.2.2)
def p_b (σ : vS) (b i : Nat) (v : Int64) : vS := (σ.1, σ.2.1, σ.2.2.1, va_up σ.2.2.2 b (vp_updL (σ.2.2.2 b) i v))
def k_lt {α β : Type} (a : α) (F : α → β) : β := F a
theorem k_lte {α β : Type} {T : β} {a : α} {F : α → β} (h : T = k_lt a F) : ∃ x, x = a ∧ T = F x := ⟨a, rfl, h⟩
theorem k_lts {α β : Type} {T : β} {a x : α} {F : α → β} (h : T = k_lt a F) (e : x = a) : T = F x := by rw [e]; exact h
theorem ite_t {c : Prop} {d : Decidable c} {α : Type} {T A B : α} (h : T = @ite α c d A B) (hc : c) : T = A := by rw [if_pos hc] at h; exact h
theorem ite_f {c : Prop} {d : Decidable c} {α : Type} {T A B : α} (h : T = @ite α c d A B) (hc : ¬ c) : T = B := by rw [if_neg hc] at h; exact h
theorem gd_e {c : Prop} {d : Decidable c} {α : Type} {T A : Option α} (h : T = @ite _ c d none A) (hn : T ≠ none) : ¬ c ∧ T = A := by
  by_cases hc : c
  · rw [if_pos hc] at h; exact absurd h hn
  · rw [if_neg hc] at h; exact ⟨hc, h⟩
def bd1 {α β : Type} (X : Option α) (F : α → Option β) : Option β := match X with
  | none => none
  | some a => F a
def bd2 {α β γ : Type} (X : Option (α × β)) (F : α → β → Option γ) : Option γ := match X with
  | none => none
  | some q => F q.1 q.2
def bds {E T : Type} (X : Option (E ⊕ T)) (F : E → Option T) : Option T := match X with
  | none => none
  | some (.inl e) => F e
  | some (.inr t) => some t
theorem bd1_e {α β : Type} {T : Option β} {X : Option α} {F : α → Option β} (h : T = bd1 X F) (hn : T ≠ none) : ∃ a, X = some a ∧ T = F a := by
  cases X with
  | none => exact absurd h hn
  | some a => exact ⟨a, rfl, h⟩
theorem bd2_e {α β γ : Type} {T : Option γ} {X : Option (α × β)} {F : α → β → Option γ} (h : T = bd2 X F) (hn : T ≠ none) : ∃ a b, X = some (a, b) ∧ T = F a b := by
  cases X with
  | none => exact absurd h hn
  | some q => exact ⟨q.1, q.2, rfl, h⟩
theorem bds_e {E T : Type} {Y : Option T} {X : Option (E ⊕ T)} {F : E → Option T} (h : Y = bds X F) (hn : Y ≠ none) : ∃ q, X = some q ∧ (∀ e, q = .inl e → Y = F e) ∧ (∀ t, q = .inr t → Y = some t) := by
  cases X with
  | none => exact absurd h hn
  | some q =>
    cases q with
    | inl e => exact ⟨_, rfl, (fun e' he => by cases he; exact h), (fun t ht => by cases ht)⟩
    | inr t => exact ⟨_, rfl, (fun e' he => by cases he), (fun t' ht => by cases ht; exact h)⟩
def k_itr {S R : Type} (body : S → Option (S ⊕ R)) : Nat → S → Option R
  | 0, _ => none
  | n + 1, s => match body s with
    | none => none
    | some (.inl s') => k_itr body n s'
    | some (.inr r) => some r
theorem k_ind {S R : Type} {body : S → Option (S ⊕ R)} {P : S → Prop} {r : R}
    (hb : ∀ (s : S) (T : Option (S ⊕ R)), T = body s → T ≠ none → (∀ s', T = some (.inl s') → P s') → (∀ r', T = some (.inr r') → r' = r) → P s) :
    ∀ (n : Nat) (s : S), k_itr body n s = some r → P s := by
  intro n
  induction n with
  | zero => intro s h; cases h
  | succ n ih =>
    intro s h
    cases ho : body s with
    | none => simp [k_itr, ho] at h
    | some o =>
      cases o with
      | inl s' =>
        have h2 : k_itr body n s' = some r := by simpa [k_itr, ho] using h
        exact hb s _ ho.symm (fun q => by cases q) (fun s2 e2 => by cases e2; exact ih s' h2) (fun r' e2 => by cases e2)
      | inr r1 =>
        have h2 : r1 = r := by simpa [k_itr, ho] using h
        exact hb s _ ho.symm (fun q => by cases q) (fun s2 e2 => by cases e2) (fun r' e2 => by cases e2; exact h2)
theorem rt1 {α : Type} {T : Option α} {u v : α} (h : T = some u) (h2 : T = some v) : u = v := Option.some.inj (h.symm.trans h2)
theorem rt2 {α : Type} {T : Option (α × vS)} {r x : α} {u v : vS} (h : T = some (r, u)) (h2 : T = some (x, v)) : r = x ∧ u = v := by
  have h3 := Option.some.inj (h.symm.trans h2)
  exact ⟨congrArg Prod.fst h3, congrArg Prod.snd h3⟩
theorem nr_b {v : Int32} (h : ¬ ¬ (v &&& 1 = v)) : narrow .boolean (.int v) = .int v := by
  have h := Decidable.not_not.mp h
  show Value.int (v &&& 1) = .int v
  rw [h]
theorem nr_c {v : Int32} (h : ¬ ¬ (v.toUInt32.toUInt16.toUInt32.toInt32 = v)) : narrow .char (.int v) = .int v := by
  have h := Decidable.not_not.mp h
  show Value.int (v.toUInt32.toUInt16.toUInt32.toInt32) = .int v
  rw [h]
/-- the cells of a world, by number -/
def k_A (n : Nat) (ad : Nat → Nat) : Nat → Prop := fun q => ∃ k, k < n ∧ q = ad k
def k_H (D : va_G) (wf : vS → va_W) (A : Nat → Prop) (σ : vS) (H0 H : Heap) (locs : List Loc) : Prop := va_P D vwCl (wf σ) H ∧ va_D (fun _ => True) (wf σ) ∧ va_S A H0 H locs
def k_B (D : va_G) (tys : List (ClassId × FieldType)) (wf : vS → va_W) (σ : vS) (t : State) : Prop := va_P D vwCl (wf σ) t.heap ∧ va_K D vwCl tys t ∧ va_D (fun _ => True) (wf σ)
def k_Q (D : va_G) (tys : List (ClassId × FieldType)) (wf : vS → va_W) (A : Nat → Prop) (r : Option Value) (σ : vS) : Array Value → State → Outcome → State → Prop :=
  fun _ st o t => o = .returned r ∧ k_B D tys wf σ t ∧ va_F A st t
def k_QP (r : Value) : Array Value → State → Outcome → State → Prop := fun _ st o t => o = .returned (some r) ∧ t.heap = st.heap
/-- the method y, called with av at the state σ, returns r and leaves the state σ'; no other cell changes -/
def k_Met (l : Launch) (y : MethodName) (ws : List Cond) (rm : Room) (D : va_G) (tys : List (ClassId × FieldType)) (wf : vS → va_W) (A : Nat → Prop) (av : List Value) (σ : vS) (r : Option Value) (σ' : vS) : Prop :=
  Met l y ws rm (va_Pc av (fun U => k_B D tys wf σ U ∧ k_N U)) (k_Q D tys wf A r σ') 0 0 A
/-- the method y, called with av at the state σ, returns r and changes nothing -/
def k_MP (l : Launch) (y : MethodName) (ws : List Cond) (rm : Room) (D : va_G) (tys : List (ClassId × FieldType)) (wf : vS → va_W) (av : List Value) (σ : vS) (r : Value) : Prop :=
  Met l y ws rm (va_Pc av (fun U => k_B D tys wf σ U ∧ k_N U)) (k_QP r) 0 0 (fun _ => False)
theorem k_of {l : Launch} {y : MethodName} {ws ws' : List Cond} {rm : Room} {D : va_G} {tys : List (ClassId × FieldType)} {wf : vS → va_W} {A : Nat → Prop} {av : List Value} {σ : vS} {r : Option Value} {σ' : vS} {cc : ByteArray} {maxL : Nat} {ret : Option FieldType}
    (hy : plainName y.cls = true) (hw : ws = Cond.code y cc maxL ret :: ws') (hav : (lg_sl av).length ≤ maxL)
    (body : ∀ (p : Program) (e : Env) (s : State) (m : MethodId) (args : Array Value) (below : List Frame) (meth : Method) (c : Code) (ls : Array Slot) (H : Heap) (locs : List Loc), CallFix p m c cc maxL s args ws' y.cls → meth.sig.returnType = ret → meth.locks = false → va_K D vwCl tys s → k_N s →
      lv_has ls maxL (lv_args 0 av) → k_H D wf A σ s.heap H locs → W p l e rm s m args below meth c H locs 0 0 (MQ below (k_Q D tys wf A r σ') args s 0 0 A) (F0 m 0 ls [])) :
    k_Met l y ws rm D tys wf A av σ r σ' := by
  refine Met.ofW (cc := cc) (maxL := maxL) (ret := ret) hy hw ?_
  intro p e s m args below meth c s₁ B hml hv
  obtain ⟨rfl, ⟨hP, hK, hD⟩, hZ⟩ := hv
  have hts := atoms_spec (ws := ws) B.pre
  rw [hw] at hts
  have hl := lv_entry av (n := maxL) hav
  rw [lg_entry_eq]
  exact body p e s m _ below meth c _ _ _ ⟨B.exec, B.bytes, hml, findClass_of_methodNamed B.named, fun w h => hts w (List.mem_cons_of_mem _ h)⟩ B.returns B.notSynchronized hK hZ hl ⟨hP, hD, va_S.rf⟩
theorem k_ofP {l : Launch} {y : MethodName} {ws ws' : List Cond} {rm : Room} {D : va_G} {tys : List (ClassId × FieldType)} {wf : vS → va_W} {av : List Value} {σ : vS} {r : Value} {cc : ByteArray} {maxL : Nat} {ret : Option FieldType}
    (hy : plainName y.cls = true) (hw : ws = Cond.code y cc maxL ret :: ws') (hav : (lg_sl av).length ≤ maxL)
    (body : ∀ (p : Program) (e : Env) (s : State) (m : MethodId) (args : Array Value) (below : List Frame) (meth : Method) (c : Code) (ls : Array Slot), CallFix p m c cc maxL s args ws' y.cls → meth.sig.returnType = ret → meth.locks = false → va_K D vwCl tys s → k_N s →
      lv_has ls maxL (lv_args 0 av) → k_H D wf (fun _ => False) σ s.heap s.heap [] → W p l e rm s m args below meth c s.heap [] 0 0 (MQ below (k_QP r) args s 0 0 (fun _ => False)) (F0 m 0 ls [])) :
    k_MP l y ws rm D tys wf av σ r := by
  refine Met.ofW (cc := cc) (maxL := maxL) (ret := ret) hy hw ?_
  intro p e s m args below meth c s₁ B hml hv
  obtain ⟨rfl, ⟨hP, hK, hD⟩, hZ⟩ := hv
  have hts := atoms_spec (ws := ws) B.pre
  rw [hw] at hts
  have hl := lv_entry av (n := maxL) hav
  rw [lg_entry_eq]
  exact body p e s m _ below meth c _ ⟨B.exec, B.bytes, hml, findClass_of_methodNamed B.named, fun w h => hts w (List.mem_cons_of_mem _ h)⟩ B.returns B.notSynchronized hK hZ hl ⟨hP, hD, va_S.rf⟩
section KW
variable {p : Program} {l : Launch} {e : Env} {R : Room} {s : State} {m : MethodId} {args : Array Value} {below : List Frame} {meth : Method} {c : Code} {H : Heap} {locs : List Loc} {Q : State → Prop}
variable {cc : ByteArray} {nL pc : Nat} {ls : Array Slot} {rest st0 : List Value} {D : va_G} {tys : List (ClassId × FieldType)} {wf : vS → va_W} {A : Nat → Prop} {σ σ' : vS} {Ts : List Cond} {own : String}
theorem kret_v (hcf : CallFix p m c cc nL s args Ts own) (hr : meth.sig.returnType = none) (hlk : meth.locks = false) (hK : va_K D vwCl tys s) (hw : k_H D wf A σ s.heap H locs) (h : σ' = σ)
    (hQ : MQ below (k_Q D tys wf A none σ') args s 0 0 A = Q) (hdg : decode cc pc = .ok (.return_, 1)) : W p l e R s m args below meth c H locs 0 0 Q (F0 m pc ls []) := by
  subst hQ; subst h
  exact W.vret hcf.1 hcf.2.1 hr (fun t ht hW => ⟨rfl, ⟨by rw [ht]; exact hw.1, va_K.moved hW.alike hK, hw.2.1⟩, hw.2.2.F ht⟩) hw.2.2.2.2 hdg hlk
theorem kret_i {v r : Int32} (hcf : CallFix p m c cc nL s args Ts own) (hr : meth.sig.returnType = some .int) (hlk : meth.locks = false) (hK : va_K D vwCl tys s) (hw : k_H D wf A σ s.heap H locs) (h : r = v ∧ σ' = σ)
    (hQ : MQ below (k_Q D tys wf A (some (.int r)) σ') args s 0 0 A = Q) (hdg : decode cc pc = .ok (.ireturn, 1)) : W p l e R s m args below meth c H locs 0 0 Q (F0 m pc ls [.int v]) := by
  subst hQ; obtain ⟨rfl, rfl⟩ := h
  exact W.iret hcf.1 hcf.2.1 hr (fun t ht hW => ⟨rfl, ⟨by rw [ht]; exact hw.1, va_K.moved hW.alike hK, hw.2.1⟩, hw.2.2.F ht⟩) hw.2.2.2.2 hdg hlk
theorem kretP_i {v r : Int32} (hcf : CallFix p m c cc nL s args Ts own) (hr : meth.sig.returnType = some .int) (hlk : meth.locks = false) (hK : va_K D vwCl tys s) (hw : k_H D wf A σ s.heap s.heap []) (h : r = v)
    (hQ : MQ below (k_QP (.int r)) args s 0 0 (fun _ => False) = Q) (hdg : decode cc pc = .ok (.ireturn, 1)) : W p l e R s m args below meth c s.heap [] 0 0 Q (F0 m pc ls [.int v]) := by
  subst hQ; subst h
  exact W.iret hcf.1 hcf.2.1 hr (fun t ht hW => ⟨rfl, ht⟩) (fun q hq => by cases hq) hdg hlk
theorem kret_l {v r : Int64} (hcf : CallFix p m c cc nL s args Ts own) (hr : meth.sig.returnType = some .long) (hlk : meth.locks = false) (hK : va_K D vwCl tys s) (hw : k_H D wf A σ s.heap H locs) (h : r = v ∧ σ' = σ)
    (hQ : MQ below (k_Q D tys wf A (some (.long r)) σ') args s 0 0 A = Q) (hdg : decode cc pc = .ok (.lreturn, 1)) : W p l e R s m args below meth c H locs 0 0 Q (F0 m pc ls [.long v]) := by
  subst hQ; obtain ⟨rfl, rfl⟩ := h
  exact W.lret hcf.1 hcf.2.1 hr (fun t ht hW => ⟨rfl, ⟨by rw [ht]; exact hw.1, va_K.moved hW.alike hK, hw.2.1⟩, hw.2.2.F ht⟩) hw.2.2.2.2 hdg hlk
theorem kretP_l {v r : Int64} (hcf : CallFix p m c cc nL s args Ts own) (hr : meth.sig.returnType = some .long) (hlk : meth.locks = false) (hK : va_K D vwCl tys s) (hw : k_H D wf A σ s.heap s.heap []) (h : r = v)
    (hQ : MQ below (k_QP (.long r)) args s 0 0 (fun _ => False) = Q) (hdg : decode cc pc = .ok (.lreturn, 1)) : W p l e R s m args below meth c s.heap [] 0 0 Q (F0 m pc ls [.long v]) := by
  subst hQ; subst h
  exact W.lret hcf.1 hcf.2.1 hr (fun t ht hW => ⟨rfl, ht⟩) (fun q hq => by cases hq) hdg hlk
theorem kret_z {v r : Int32} {ty : FieldType} (hcf : CallFix p m c cc nL s args Ts own) (hr : meth.sig.returnType = some ty) (hlk : meth.locks = false) (hK : va_K D vwCl tys s) (hw : k_H D wf A σ s.heap H locs) (h : r = v ∧ σ' = σ)
    (hQ : MQ below (k_Q D tys wf A (some (.int r)) σ') args s 0 0 A = Q) (hn : narrow ty (.int v) = .int v) (hdg : decode cc pc = .ok (.ireturn, 1)) : W p l e R s m args below meth c H locs 0 0 Q (F0 m pc ls [.int v]) := by
  subst hQ; obtain ⟨rfl, rfl⟩ := h
  exact W.zret hcf.1 hcf.2.1 hr hn (fun t ht hW => ⟨rfl, ⟨by rw [ht]; exact hw.1, va_K.moved hW.alike hK, hw.2.1⟩, hw.2.2.F ht⟩) hw.2.2.2.2 hdg hlk
theorem kretP_z {v r : Int32} {ty : FieldType} (hcf : CallFix p m c cc nL s args Ts own) (hr : meth.sig.returnType = some ty) (hlk : meth.locks = false) (hK : va_K D vwCl tys s) (hw : k_H D wf A σ s.heap s.heap []) (h : r = v)
    (hQ : MQ below (k_QP (.int r)) args s 0 0 (fun _ => False) = Q) (hn : narrow ty (.int v) = .int v) (hdg : decode cc pc = .ok (.ireturn, 1)) : W p l e R s m args below meth c s.heap [] 0 0 Q (F0 m pc ls [.int v]) := by
  subst hQ; subst h
  exact W.zret hcf.1 hcf.2.1 hr hn (fun t ht hW => ⟨rfl, ht⟩) (fun q hq => by cases hq) hdg hlk
theorem k_call {r : Option Value} {a : Array Value} (hr : va_Run p l e R s m args below meth c H locs 0 0 0 0 (F0 m pc ls st0) rest (k_Q D tys wf A r σ' a) A) (hw : k_H D wf A σ s.heap H locs)
    (kk : ∀ (H1 : Heap) (locs1 : List Loc), k_H D wf A σ' s.heap H1 locs1 → W p l e R s m args below meth c H1 locs1 0 0 Q (F0 m (pc + 3) ls (r.toList ++ rest))) : W p l e R s m args below meth c H locs 0 0 Q (F0 m pc ls st0) := by
  intro T hT X
  obtain ⟨v, st₀, t, T', L, h0, X', hL, e1, e2, ⟨hv, hB, hz, hk⟩, st⟩ := hr T hT X
  cases hv
  rw [h0] at hz hk
  have hS := hw.2.2
  obtain ⟨t2, a1, b1⟩ := kk T'.heap (locs ++ L) ⟨by rw [e1]; exact hB.1, hB.2.2,
    Nat.le_trans hS.1 (by rw [e1]; exact hz), fun q h1 h2 => by rw [e1, hk q (Nat.lt_of_lt_of_le h1 hS.1) h2]; exact hS.2.1 q h1 h2, fun q hq => by
      rcases List.mem_append.mp hq with h | h
      · exact hS.2.2 q h
      · exact hL q h⟩ T' rfl X'
  exact ⟨t2, st t2 a1, b1⟩
theorem k_callP {r : Value} {a : Array Value} (hr : va_Run p l e R s m args below meth c H locs 0 0 0 0 (F0 m pc ls st0) rest (k_QP r a) (fun _ => False))
    (kk : W p l e R s m args below meth c H locs 0 0 Q (F0 m (pc + 3) ls (r :: rest))) : W p l e R s m args below meth c H locs 0 0 Q (F0 m pc ls st0) := by
  intro T hT X
  obtain ⟨v, st₀, t, T', L, h0, X', hL, e1, e2, ⟨hv, hh⟩, st⟩ := hr T hT X
  cases hv
  have hL0 : L = [] := by
    cases L with
    | nil => rfl
    | cons q L => exact absurd (hL q List.mem_cons_self) (fun h => h)
  subst hL0
  rw [List.append_nil] at X'
  obtain ⟨t2, a1, b1⟩ := kk T' (by rw [e1, hh, h0]) X'
  exact ⟨t2, st t2 a1, b1⟩
theorem k_blind {av : List Value} : FrameBlind (va_Pc av (fun U => k_B D tys wf σ U ∧ k_N U)) := fun a U g mk q => ⟨q.1, ⟨q.2.1.1, va_K.moved (u := U) (U := U.calling g mk a) (Vm.Alike.refl U.vm) q.2.1.2.1, q.2.1.2.2⟩, k_N.same (s := U) rfl q.2.2⟩
theorem k_pre {av : List Value} (hK : va_K D vwCl tys s) (hZ : k_N s) (hw : k_H D wf A σ s.heap H locs) : ∀ U : State, U.heap = H → s.WarmedH U.vm → va_Pc av (fun U => k_B D tys wf σ U ∧ k_N U) av.toArray U :=
  fun U hU hW => ⟨rfl, ⟨by rw [hU]; exact hw.1, va_K.moved hW.alike hK, hw.2.1⟩, hZ.warm hW⟩
end KW
theorem nz_0 : narrow .boolean (.int 0) = .int 0 ∧ fits .boolean (.int 0) = true := ⟨rfl, rfl⟩
theorem nz_1 : narrow .boolean (.int 1) = .int 1 ∧ fits .boolean (.int 1) = true := ⟨rfl, rfl⟩
end
section
def wK (cs : Nat → ClassId) (ad : Nat → Nat) (σ : vS) : va_W :=
  [(ad 0, .inr (5, [.ref (ad 1), .ref (ad 2), .ref (ad 3)])),
   (ad 1, .inr (3, [.ref (ad 4), .ref (ad 5), .int (σ.1 6), .int (σ.1 7), .ref (ad 6), .ref (ad 15), .int (σ.1 8), .ref (ad 25), .int (σ.1 9)])),
   (ad 2, .inr (0, [.ref (ad 16), .ref (ad 7), .int (σ.1 10), .int (σ.1 11), .ref (ad 8), .ref (ad 17), .int (σ.1 12), .int (σ.1 13), .int (σ.1 14), .long (σ.2.2.1 0)])),
   (ad 3, .inr (2, [.ref (ad 18), .int (σ.1 15)])),
   (ad 4, .inr (4, [.ref (ad 10), .int (σ.1 0), .int (σ.1 1)])),
   (ad 5, .inr (1, [.ref (ad 11), .ref (ad 9), .ref (ad 12), .ref (ad 13), .ref (ad 14), .int (σ.1 2), .int (σ.1 3), .int (σ.1 4), .int (σ.1 5)])),
   (ad 6, .inl (cs 5, 4, .inr (.inr (.inr (.inr fun i => some (ad (25 + (1 + i)))))))),
   (ad 7, .inl (cs 5, 6, .inr (.inr (.inr (.inr fun i => some (ad (25 + (5 + i)))))))),
   (ad 8, .inl (cs 5, 5, .inr (.inr (.inr (.inr fun i => some (ad (25 + (11 + i)))))))),
   (ad 9, .inl (cs 4, 6, .inr (.inr (.inr (.inr fun i => some (ad (10 + (9 + i)))))))),
   (ad 10, .inl (cs 1, 100, .inl (σ.2.1 0))),
   (ad 11, .inl (cs 0, 5, .inl (σ.2.1 1))),
   (ad 12, .inl (cs 0, 6, .inl (σ.2.1 2))),
   (ad 13, .inl (cs 0, 6, .inl (σ.2.1 3))),
   (ad 14, .inl (cs 0, 6, .inl (σ.2.1 4))),
   (ad 15, .inl (cs 1, 4, .inl (σ.2.1 5))),
   (ad 16, .inl (cs 2, 6, .inl (σ.2.1 6))),
   (ad 17, .inl (cs 0, 5, .inl (σ.2.1 7))),
   (ad 18, .inl (cs 1, 200, .inl (σ.2.1 8))),
   (ad 19, .inl (cs 0, 5, .inl (σ.2.1 9))),
   (ad 20, .inl (cs 0, 5, .inl (σ.2.1 10))),
   (ad 21, .inl (cs 0, 5, .inl (σ.2.1 11))),
   (ad 22, .inl (cs 0, 5, .inl (σ.2.1 12))),
   (ad 23, .inl (cs 0, 5, .inl (σ.2.1 13))),
   (ad 24, .inl (cs 0, 5, .inl (σ.2.1 14))),
   (ad 25, .inl (cs 3, 5, .inr (.inl (σ.2.2.2 0)))),
   (ad 26, .inl (cs 3, 5, .inr (.inl (σ.2.2.2 1)))),
   (ad 27, .inl (cs 3, 5, .inr (.inl (σ.2.2.2 2)))),
   (ad 28, .inl (cs 3, 5, .inr (.inl (σ.2.2.2 3)))),
   (ad 29, .inl (cs 3, 5, .inr (.inl (σ.2.2.2 4)))),
   (ad 30, .inl (cs 3, 6, .inr (.inl (σ.2.2.2 5)))),
   (ad 31, .inl (cs 3, 6, .inr (.inl (σ.2.2.2 6)))),
   (ad 32, .inl (cs 3, 6, .inr (.inl (σ.2.2.2 7)))),
   (ad 33, .inl (cs 3, 6, .inr (.inl (σ.2.2.2 8)))),
   (ad 34, .inl (cs 3, 6, .inr (.inl (σ.2.2.2 9)))),
   (ad 35, .inl (cs 3, 6, .inr (.inl (σ.2.2.2 10)))),
   (ad 36, .inl (cs 3, 6, .inr (.inl (σ.2.2.2 11)))),
   (ad 37, .inl (cs 3, 6, .inr (.inl (σ.2.2.2 12)))),
   (ad 38, .inl (cs 3, 6, .inr (.inl (σ.2.2.2 13)))),
   (ad 39, .inl (cs 3, 6, .inr (.inl (σ.2.2.2 14)))),
   (ad 40, .inl (cs 3, 6, .inr (.inl (σ.2.2.2 15))))]
def tK (cs : Nat → ClassId) : List (ClassId × FieldType) := [(cs 0, .int), (cs 1, .char), (cs 2, .boolean), (cs 3, .long), (cs 4, .array .int), (cs 5, .array .long)]
theorem wK_ad (cs : Nat → ClassId) (ad : Nat → Nat) (σ : vS) : (wK cs ad σ).map Prod.fst = (List.range 41).map ad := rfl
theorem wK_D {cs : Nat → ClassId} {ad : Nat → Nat} {σ : vS} (h : va_D (fun _ => True) (wK cs ad σ)) : va_D (k_A 41 ad) (wK cs ad σ) := by
  refine ⟨h.1, fun k q hk => ?_⟩
  have h1 : q.1 ∈ (wK cs ad σ).map Prod.fst := List.mem_map.mpr ⟨q, List.mem_of_getElem? hk, rfl⟩
  rw [wK_ad] at h1
  obtain ⟨j, hj, e⟩ := List.mem_map.mp h1
  exact ⟨j, List.mem_range.mp hj, e.symm⟩
def k_len (b : Nat) : Nat := if b < 5 then 5 else 6
section AK
variable {p : Program} {l : Launch} {e : Env} {R : Room} {s : State} {m : MethodId} {args : Array Value} {below : List Frame} {meth : Method} {c : Code} {H0 H : Heap} {locs : List Loc} {cells slots : Nat} {Q : State → Prop}
variable {cc : ByteArray} {nL pc : Nat} {ls : Array Slot} {rest : List Value} {D : va_G} {A : Nat → Prop} {cs : Nat → ClassId} {ad : Nat → Nat} {σ : vS} {own : String} {index : Nat}
theorem kg_X5_reader (hcf : CallFix p m c cc nL s args kws own) (hK : va_K D vwCl (tK cs) s) (hlink : (Cond.fieldLink own index RX5 "reader" "LFormulaScales$Reader;").before args s = true) (hdg : decode cc pc = .ok (.getfield index, 3)) (hw : k_H D (wK cs ad) A σ H0 H locs) (kk : W p l e R s m args below meth c H locs cells slots Q (F0 m (pc + 3) ls (.ref (ad 1) :: rest))) : W p l e R s m args below meth c H locs cells slots Q (F0 m pc ls (.ref (ad 0) :: rest)) := va_get (D := D) (ci := 5) (C := RX5) (T := TX5) (N := 3) hcf.1 hcf.2.1 hcf.2.2.2.2 hinX5 hcf.2.2.2.1 hK hw.1 0 rfl rfl 0 (by decide) hlink (fun _ h => h) rfl hdg kk
theorem kg_X5_balance (hcf : CallFix p m c cc nL s args kws own) (hK : va_K D vwCl (tK cs) s) (hlink : (Cond.fieldLink own index RX5 "balance" "LFormulaScales$Balance;").before args s = true) (hdg : decode cc pc = .ok (.getfield index, 3)) (hw : k_H D (wK cs ad) A σ H0 H locs) (kk : W p l e R s m args below meth c H locs cells slots Q (F0 m (pc + 3) ls (.ref (ad 2) :: rest))) : W p l e R s m args below meth c H locs cells slots Q (F0 m pc ls (.ref (ad 0) :: rest)) := va_get (D := D) (ci := 5) (C := RX5) (T := TX5) (N := 3) hcf.1 hcf.2.1 hcf.2.2.2.2 hinX5 hcf.2.2.2.1 hK hw.1 0 rfl rfl 1 (by decide) hlink (fun _ h => h) rfl hdg kk
theorem kg_X5_line (hcf : CallFix p m c cc nL s args kws own) (hK : va_K D vwCl (tK cs) s) (hlink : (Cond.fieldLink own index RX5 "line" "LFormulaScales$Line;").before args s = true) (hdg : decode cc pc = .ok (.getfield index, 3)) (hw : k_H D (wK cs ad) A σ H0 H locs) (kk : W p l e R s m args below meth c H locs cells slots Q (F0 m (pc + 3) ls (.ref (ad 3) :: rest))) : W p l e R s m args below meth c H locs cells slots Q (F0 m pc ls (.ref (ad 0) :: rest)) := va_get (D := D) (ci := 5) (C := RX5) (T := TX5) (N := 3) hcf.1 hcf.2.1 hcf.2.2.2.2 hinX5 hcf.2.2.2.1 hK hw.1 0 rfl rfl 2 (by decide) hlink (fun _ h => h) rfl hdg kk
theorem kg_X3_text (hcf : CallFix p m c cc nL s args kws own) (hK : va_K D vwCl (tK cs) s) (hlink : (Cond.fieldLink own index RX3 "text" "LFormulaScales$Text;").before args s = true) (hdg : decode cc pc = .ok (.getfield index, 3)) (hw : k_H D (wK cs ad) A σ H0 H locs) (kk : W p l e R s m args below meth c H locs cells slots Q (F0 m (pc + 3) ls (.ref (ad 4) :: rest))) : W p l e R s m args below meth c H locs cells slots Q (F0 m pc ls (.ref (ad 1) :: rest)) := va_get (D := D) (ci := 3) (C := RX3) (T := TX3) (N := 9) hcf.1 hcf.2.1 hcf.2.2.2.2 hinX3 hcf.2.2.2.1 hK hw.1 1 rfl rfl 0 (by decide) hlink (fun _ h => h) rfl hdg kk
theorem kg_X3_equation (hcf : CallFix p m c cc nL s args kws own) (hK : va_K D vwCl (tK cs) s) (hlink : (Cond.fieldLink own index RX3 "equation" "LFormulaScales$Equation;").before args s = true) (hdg : decode cc pc = .ok (.getfield index, 3)) (hw : k_H D (wK cs ad) A σ H0 H locs) (kk : W p l e R s m args below meth c H locs cells slots Q (F0 m (pc + 3) ls (.ref (ad 5) :: rest))) : W p l e R s m args below meth c H locs cells slots Q (F0 m pc ls (.ref (ad 1) :: rest)) := va_get (D := D) (ci := 3) (C := RX3) (T := TX3) (N := 9) hcf.1 hcf.2.1 hcf.2.2.2.2 hinX3 hcf.2.2.2.1 hK hw.1 1 rfl rfl 1 (by decide) hlink (fun _ h => h) rfl hdg kk
theorem kg_X3_fault (hcf : CallFix p m c cc nL s args kws own) (hK : va_K D vwCl (tK cs) s) (hlink : (Cond.fieldLink own index RX3 "fault" "I").before args s = true) {x : Int32} (hdg : decode cc pc = .ok (.getfield index, 3)) (hw : k_H D (wK cs ad) A σ H0 H locs) (hv : σ.1 6 = x) (kk : W p l e R s m args below meth c H locs cells slots Q (F0 m (pc + 3) ls (.int x :: rest))) : W p l e R s m args below meth c H locs cells slots Q (F0 m pc ls (.ref (ad 1) :: rest)) := by
  subst hv
  exact va_get (D := D) (ci := 3) (C := RX3) (T := TX3) (N := 9) hcf.1 hcf.2.1 hcf.2.2.2.2 hinX3 hcf.2.2.2.1 hK hw.1 1 rfl rfl 2 (by decide) hlink (fun _ h => h) rfl hdg kk
theorem kp_X3_fault (hcf : CallFix p m c cc nL s args kws own) (hK : va_K D vwCl (tK cs) s) (hlink : (Cond.fieldLink own index RX3 "fault" "I").before args s = true) {v : Int32} (hdg : decode cc pc = .ok (.putfield index, 3)) (hw : k_H D (wK cs ad) (k_A 41 ad) σ H0 H locs) (kk : ∀ (H1 : Heap) (locs1 : List Loc), k_H D (wK cs ad) (k_A 41 ad) (p_i σ 6 v) H0 H1 locs1 → W p l e R s m args below meth c H1 locs1 cells slots Q (F0 m (pc + 3) ls rest)) : W p l e R s m args below meth c H locs cells slots Q (F0 m pc ls (.int v :: .ref (ad 1) :: rest)) := by
  exact va_put (D := D) (ci := 3) (v := .int v) (ty := .int) (C := RX3) (T := TX3) (N := 9) hcf.1 hcf.2.1 hcf.2.2.2.2 hinX3 tyX3 tyX3_ok nmX3 hcf.2.2.2.1 hK hw.1 (wK_D hw.2.1) hw.2.2 1 rfl rfl 2 (by decide) hlink (fun _ h => h) rfl (by decide +kernel) rfl rfl (Nat.le_of_ble_eq_true rfl) hdg (fun H1 locs1 hP hD hS => kk H1 locs1 ⟨hP, hD.weaken (fun _ _ _ _ => trivial), hS⟩)
theorem kg_X3_faultPlace (hcf : CallFix p m c cc nL s args kws own) (hK : va_K D vwCl (tK cs) s) (hlink : (Cond.fieldLink own index RX3 "faultPlace" "I").before args s = true) {x : Int32} (hdg : decode cc pc = .ok (.getfield index, 3)) (hw : k_H D (wK cs ad) A σ H0 H locs) (hv : σ.1 7 = x) (kk : W p l e R s m args below meth c H locs cells slots Q (F0 m (pc + 3) ls (.int x :: rest))) : W p l e R s m args below meth c H locs cells slots Q (F0 m pc ls (.ref (ad 1) :: rest)) := by
  subst hv
  exact va_get (D := D) (ci := 3) (C := RX3) (T := TX3) (N := 9) hcf.1 hcf.2.1 hcf.2.2.2.2 hinX3 hcf.2.2.2.1 hK hw.1 1 rfl rfl 3 (by decide) hlink (fun _ h => h) rfl hdg kk
theorem kp_X3_faultPlace (hcf : CallFix p m c cc nL s args kws own) (hK : va_K D vwCl (tK cs) s) (hlink : (Cond.fieldLink own index RX3 "faultPlace" "I").before args s = true) {v : Int32} (hdg : decode cc pc = .ok (.putfield index, 3)) (hw : k_H D (wK cs ad) (k_A 41 ad) σ H0 H locs) (kk : ∀ (H1 : Heap) (locs1 : List Loc), k_H D (wK cs ad) (k_A 41 ad) (p_i σ 7 v) H0 H1 locs1 → W p l e R s m args below meth c H1 locs1 cells slots Q (F0 m (pc + 3) ls rest)) : W p l e R s m args below meth c H locs cells slots Q (F0 m pc ls (.int v :: .ref (ad 1) :: rest)) := by
  exact va_put (D := D) (ci := 3) (v := .int v) (ty := .int) (C := RX3) (T := TX3) (N := 9) hcf.1 hcf.2.1 hcf.2.2.2.2 hinX3 tyX3 tyX3_ok nmX3 hcf.2.2.2.1 hK hw.1 (wK_D hw.2.1) hw.2.2 1 rfl rfl 3 (by decide) hlink (fun _ h => h) rfl (by decide +kernel) rfl rfl (Nat.le_of_ble_eq_true rfl) hdg (fun H1 locs1 hP hD hS => kk H1 locs1 ⟨hP, hD.weaken (fun _ _ _ _ => trivial), hS⟩)
theorem kg_X3_sums (hcf : CallFix p m c cc nL s args kws own) (hK : va_K D vwCl (tK cs) s) (hlink : (Cond.fieldLink own index RX3 "sums" "[[J").before args s = true) (hdg : decode cc pc = .ok (.getfield index, 3)) (hw : k_H D (wK cs ad) A σ H0 H locs) (kk : W p l e R s m args below meth c H locs cells slots Q (F0 m (pc + 3) ls (.ref (ad 6) :: rest))) : W p l e R s m args below meth c H locs cells slots Q (F0 m pc ls (.ref (ad 1) :: rest)) := va_get (D := D) (ci := 3) (C := RX3) (T := TX3) (N := 9) hcf.1 hcf.2.1 hcf.2.2.2.2 hinX3 hcf.2.2.2.1 hK hw.1 1 rfl rfl 4 (by decide) hlink (fun _ h => h) rfl hdg kk
theorem kg_X3_closings (hcf : CallFix p m c cc nL s args kws own) (hK : va_K D vwCl (tK cs) s) (hlink : (Cond.fieldLink own index RX3 "closings" "[C").before args s = true) (hdg : decode cc pc = .ok (.getfield index, 3)) (hw : k_H D (wK cs ad) A σ H0 H locs) (kk : W p l e R s m args below meth c H locs cells slots Q (F0 m (pc + 3) ls (.ref (ad 15) :: rest))) : W p l e R s m args below meth c H locs cells slots Q (F0 m pc ls (.ref (ad 1) :: rest)) := va_get (D := D) (ci := 3) (C := RX3) (T := TX3) (N := 9) hcf.1 hcf.2.1 hcf.2.2.2.2 hinX3 hcf.2.2.2.1 hK hw.1 1 rfl rfl 5 (by decide) hlink (fun _ h => h) rfl hdg kk
theorem kg_X3_depth (hcf : CallFix p m c cc nL s args kws own) (hK : va_K D vwCl (tK cs) s) (hlink : (Cond.fieldLink own index RX3 "depth" "I").before args s = true) {x : Int32} (hdg : decode cc pc = .ok (.getfield index, 3)) (hw : k_H D (wK cs ad) A σ H0 H locs) (hv : σ.1 8 = x) (kk : W p l e R s m args below meth c H locs cells slots Q (F0 m (pc + 3) ls (.int x :: rest))) : W p l e R s m args below meth c H locs cells slots Q (F0 m pc ls (.ref (ad 1) :: rest)) := by
  subst hv
  exact va_get (D := D) (ci := 3) (C := RX3) (T := TX3) (N := 9) hcf.1 hcf.2.1 hcf.2.2.2.2 hinX3 hcf.2.2.2.1 hK hw.1 1 rfl rfl 6 (by decide) hlink (fun _ h => h) rfl hdg kk
theorem kp_X3_depth (hcf : CallFix p m c cc nL s args kws own) (hK : va_K D vwCl (tK cs) s) (hlink : (Cond.fieldLink own index RX3 "depth" "I").before args s = true) {v : Int32} (hdg : decode cc pc = .ok (.putfield index, 3)) (hw : k_H D (wK cs ad) (k_A 41 ad) σ H0 H locs) (kk : ∀ (H1 : Heap) (locs1 : List Loc), k_H D (wK cs ad) (k_A 41 ad) (p_i σ 8 v) H0 H1 locs1 → W p l e R s m args below meth c H1 locs1 cells slots Q (F0 m (pc + 3) ls rest)) : W p l e R s m args below meth c H locs cells slots Q (F0 m pc ls (.int v :: .ref (ad 1) :: rest)) := by
  exact va_put (D := D) (ci := 3) (v := .int v) (ty := .int) (C := RX3) (T := TX3) (N := 9) hcf.1 hcf.2.1 hcf.2.2.2.2 hinX3 tyX3 tyX3_ok nmX3 hcf.2.2.2.1 hK hw.1 (wK_D hw.2.1) hw.2.2 1 rfl rfl 6 (by decide) hlink (fun _ h => h) rfl (by decide +kernel) rfl rfl (Nat.le_of_ble_eq_true rfl) hdg (fun H1 locs1 hP hD hS => kk H1 locs1 ⟨hP, hD.weaken (fun _ _ _ _ => trivial), hS⟩)
theorem kg_X3_totals (hcf : CallFix p m c cc nL s args kws own) (hK : va_K D vwCl (tK cs) s) (hlink : (Cond.fieldLink own index RX3 "totals" "[J").before args s = true) (hdg : decode cc pc = .ok (.getfield index, 3)) (hw : k_H D (wK cs ad) A σ H0 H locs) (kk : W p l e R s m args below meth c H locs cells slots Q (F0 m (pc + 3) ls (.ref (ad 25) :: rest))) : W p l e R s m args below meth c H locs cells slots Q (F0 m pc ls (.ref (ad 1) :: rest)) := va_get (D := D) (ci := 3) (C := RX3) (T := TX3) (N := 9) hcf.1 hcf.2.1 hcf.2.2.2.2 hinX3 hcf.2.2.2.1 hK hw.1 1 rfl rfl 7 (by decide) hlink (fun _ h => h) rfl hdg kk
theorem kg_X3_charge (hcf : CallFix p m c cc nL s args kws own) (hK : va_K D vwCl (tK cs) s) (hlink : (Cond.fieldLink own index RX3 "charge" "I").before args s = true) {x : Int32} (hdg : decode cc pc = .ok (.getfield index, 3)) (hw : k_H D (wK cs ad) A σ H0 H locs) (hv : σ.1 9 = x) (kk : W p l e R s m args below meth c H locs cells slots Q (F0 m (pc + 3) ls (.int x :: rest))) : W p l e R s m args below meth c H locs cells slots Q (F0 m pc ls (.ref (ad 1) :: rest)) := by
  subst hv
  exact va_get (D := D) (ci := 3) (C := RX3) (T := TX3) (N := 9) hcf.1 hcf.2.1 hcf.2.2.2.2 hinX3 hcf.2.2.2.1 hK hw.1 1 rfl rfl 8 (by decide) hlink (fun _ h => h) rfl hdg kk
theorem kp_X3_charge (hcf : CallFix p m c cc nL s args kws own) (hK : va_K D vwCl (tK cs) s) (hlink : (Cond.fieldLink own index RX3 "charge" "I").before args s = true) {v : Int32} (hdg : decode cc pc = .ok (.putfield index, 3)) (hw : k_H D (wK cs ad) (k_A 41 ad) σ H0 H locs) (kk : ∀ (H1 : Heap) (locs1 : List Loc), k_H D (wK cs ad) (k_A 41 ad) (p_i σ 9 v) H0 H1 locs1 → W p l e R s m args below meth c H1 locs1 cells slots Q (F0 m (pc + 3) ls rest)) : W p l e R s m args below meth c H locs cells slots Q (F0 m pc ls (.int v :: .ref (ad 1) :: rest)) := by
  exact va_put (D := D) (ci := 3) (v := .int v) (ty := .int) (C := RX3) (T := TX3) (N := 9) hcf.1 hcf.2.1 hcf.2.2.2.2 hinX3 tyX3 tyX3_ok nmX3 hcf.2.2.2.1 hK hw.1 (wK_D hw.2.1) hw.2.2 1 rfl rfl 8 (by decide) hlink (fun _ h => h) rfl (by decide +kernel) rfl rfl (Nat.le_of_ble_eq_true rfl) hdg (fun H1 locs1 hP hD hS => kk H1 locs1 ⟨hP, hD.weaken (fun _ _ _ _ => trivial), hS⟩)
theorem kg_X0_dependent (hcf : CallFix p m c cc nL s args kws own) (hK : va_K D vwCl (tK cs) s) (hlink : (Cond.fieldLink own index RX0 "dependent" "[Z").before args s = true) (hdg : decode cc pc = .ok (.getfield index, 3)) (hw : k_H D (wK cs ad) A σ H0 H locs) (kk : W p l e R s m args below meth c H locs cells slots Q (F0 m (pc + 3) ls (.ref (ad 16) :: rest))) : W p l e R s m args below meth c H locs cells slots Q (F0 m pc ls (.ref (ad 2) :: rest)) := va_get (D := D) (ci := 0) (C := RX0) (T := TX0) (N := 10) hcf.1 hcf.2.1 hcf.2.2.2.2 hinX0 hcf.2.2.2.1 hK hw.1 2 rfl rfl 0 (by decide) hlink (fun _ h => h) rfl hdg kk
theorem kg_X0_bases (hcf : CallFix p m c cc nL s args kws own) (hK : va_K D vwCl (tK cs) s) (hlink : (Cond.fieldLink own index RX0 "bases" "[[J").before args s = true) (hdg : decode cc pc = .ok (.getfield index, 3)) (hw : k_H D (wK cs ad) A σ H0 H locs) (kk : W p l e R s m args below meth c H locs cells slots Q (F0 m (pc + 3) ls (.ref (ad 7) :: rest))) : W p l e R s m args below meth c H locs cells slots Q (F0 m pc ls (.ref (ad 2) :: rest)) := va_get (D := D) (ci := 0) (C := RX0) (T := TX0) (N := 10) hcf.1 hcf.2.1 hcf.2.2.2.2 hinX0 hcf.2.2.2.1 hK hw.1 2 rfl rfl 1 (by decide) hlink (fun _ h => h) rfl hdg kk
theorem kg_X0_freeCount (hcf : CallFix p m c cc nL s args kws own) (hK : va_K D vwCl (tK cs) s) (hlink : (Cond.fieldLink own index RX0 "freeCount" "I").before args s = true) {x : Int32} (hdg : decode cc pc = .ok (.getfield index, 3)) (hw : k_H D (wK cs ad) A σ H0 H locs) (hv : σ.1 10 = x) (kk : W p l e R s m args below meth c H locs cells slots Q (F0 m (pc + 3) ls (.int x :: rest))) : W p l e R s m args below meth c H locs cells slots Q (F0 m pc ls (.ref (ad 2) :: rest)) := by
  subst hv
  exact va_get (D := D) (ci := 0) (C := RX0) (T := TX0) (N := 10) hcf.1 hcf.2.1 hcf.2.2.2.2 hinX0 hcf.2.2.2.1 hK hw.1 2 rfl rfl 2 (by decide) hlink (fun _ h => h) rfl hdg kk
theorem kp_X0_freeCount (hcf : CallFix p m c cc nL s args kws own) (hK : va_K D vwCl (tK cs) s) (hlink : (Cond.fieldLink own index RX0 "freeCount" "I").before args s = true) {v : Int32} (hdg : decode cc pc = .ok (.putfield index, 3)) (hw : k_H D (wK cs ad) (k_A 41 ad) σ H0 H locs) (kk : ∀ (H1 : Heap) (locs1 : List Loc), k_H D (wK cs ad) (k_A 41 ad) (p_i σ 10 v) H0 H1 locs1 → W p l e R s m args below meth c H1 locs1 cells slots Q (F0 m (pc + 3) ls rest)) : W p l e R s m args below meth c H locs cells slots Q (F0 m pc ls (.int v :: .ref (ad 2) :: rest)) := by
  exact va_put (D := D) (ci := 0) (v := .int v) (ty := .int) (C := RX0) (T := TX0) (N := 10) hcf.1 hcf.2.1 hcf.2.2.2.2 hinX0 tyX0 tyX0_ok nmX0 hcf.2.2.2.1 hK hw.1 (wK_D hw.2.1) hw.2.2 2 rfl rfl 2 (by decide) hlink (fun _ h => h) rfl (by decide +kernel) rfl rfl (Nat.le_of_ble_eq_true rfl) hdg (fun H1 locs1 hP hD hS => kk H1 locs1 ⟨hP, hD.weaken (fun _ _ _ _ => trivial), hS⟩)
theorem kg_X0_verdict (hcf : CallFix p m c cc nL s args kws own) (hK : va_K D vwCl (tK cs) s) (hlink : (Cond.fieldLink own index RX0 "verdict" "I").before args s = true) {x : Int32} (hdg : decode cc pc = .ok (.getfield index, 3)) (hw : k_H D (wK cs ad) A σ H0 H locs) (hv : σ.1 11 = x) (kk : W p l e R s m args below meth c H locs cells slots Q (F0 m (pc + 3) ls (.int x :: rest))) : W p l e R s m args below meth c H locs cells slots Q (F0 m pc ls (.ref (ad 2) :: rest)) := by
  subst hv
  exact va_get (D := D) (ci := 0) (C := RX0) (T := TX0) (N := 10) hcf.1 hcf.2.1 hcf.2.2.2.2 hinX0 hcf.2.2.2.1 hK hw.1 2 rfl rfl 3 (by decide) hlink (fun _ h => h) rfl hdg kk
theorem kp_X0_verdict (hcf : CallFix p m c cc nL s args kws own) (hK : va_K D vwCl (tK cs) s) (hlink : (Cond.fieldLink own index RX0 "verdict" "I").before args s = true) {v : Int32} (hdg : decode cc pc = .ok (.putfield index, 3)) (hw : k_H D (wK cs ad) (k_A 41 ad) σ H0 H locs) (kk : ∀ (H1 : Heap) (locs1 : List Loc), k_H D (wK cs ad) (k_A 41 ad) (p_i σ 11 v) H0 H1 locs1 → W p l e R s m args below meth c H1 locs1 cells slots Q (F0 m (pc + 3) ls rest)) : W p l e R s m args below meth c H locs cells slots Q (F0 m pc ls (.int v :: .ref (ad 2) :: rest)) := by
  exact va_put (D := D) (ci := 0) (v := .int v) (ty := .int) (C := RX0) (T := TX0) (N := 10) hcf.1 hcf.2.1 hcf.2.2.2.2 hinX0 tyX0 tyX0_ok nmX0 hcf.2.2.2.1 hK hw.1 (wK_D hw.2.1) hw.2.2 2 rfl rfl 3 (by decide) hlink (fun _ h => h) rfl (by decide +kernel) rfl rfl (Nat.le_of_ble_eq_true rfl) hdg (fun H1 locs1 hP hD hS => kk H1 locs1 ⟨hP, hD.weaken (fun _ _ _ _ => trivial), hS⟩)
theorem kg_X0_rows (hcf : CallFix p m c cc nL s args kws own) (hK : va_K D vwCl (tK cs) s) (hlink : (Cond.fieldLink own index RX0 "rows" "[[J").before args s = true) (hdg : decode cc pc = .ok (.getfield index, 3)) (hw : k_H D (wK cs ad) A σ H0 H locs) (kk : W p l e R s m args below meth c H locs cells slots Q (F0 m (pc + 3) ls (.ref (ad 8) :: rest))) : W p l e R s m args below meth c H locs cells slots Q (F0 m pc ls (.ref (ad 2) :: rest)) := va_get (D := D) (ci := 0) (C := RX0) (T := TX0) (N := 10) hcf.1 hcf.2.1 hcf.2.2.2.2 hinX0 hcf.2.2.2.1 hK hw.1 2 rfl rfl 4 (by decide) hlink (fun _ h => h) rfl hdg kk
theorem kg_X0_leading (hcf : CallFix p m c cc nL s args kws own) (hK : va_K D vwCl (tK cs) s) (hlink : (Cond.fieldLink own index RX0 "leading" "[I").before args s = true) (hdg : decode cc pc = .ok (.getfield index, 3)) (hw : k_H D (wK cs ad) A σ H0 H locs) (kk : W p l e R s m args below meth c H locs cells slots Q (F0 m (pc + 3) ls (.ref (ad 17) :: rest))) : W p l e R s m args below meth c H locs cells slots Q (F0 m pc ls (.ref (ad 2) :: rest)) := va_get (D := D) (ci := 0) (C := RX0) (T := TX0) (N := 10) hcf.1 hcf.2.1 hcf.2.2.2.2 hinX0 hcf.2.2.2.1 hK hw.1 2 rfl rfl 5 (by decide) hlink (fun _ h => h) rfl hdg kk
theorem kg_X0_rank (hcf : CallFix p m c cc nL s args kws own) (hK : va_K D vwCl (tK cs) s) (hlink : (Cond.fieldLink own index RX0 "rank" "I").before args s = true) {x : Int32} (hdg : decode cc pc = .ok (.getfield index, 3)) (hw : k_H D (wK cs ad) A σ H0 H locs) (hv : σ.1 12 = x) (kk : W p l e R s m args below meth c H locs cells slots Q (F0 m (pc + 3) ls (.int x :: rest))) : W p l e R s m args below meth c H locs cells slots Q (F0 m pc ls (.ref (ad 2) :: rest)) := by
  subst hv
  exact va_get (D := D) (ci := 0) (C := RX0) (T := TX0) (N := 10) hcf.1 hcf.2.1 hcf.2.2.2.2 hinX0 hcf.2.2.2.1 hK hw.1 2 rfl rfl 6 (by decide) hlink (fun _ h => h) rfl hdg kk
theorem kp_X0_rank (hcf : CallFix p m c cc nL s args kws own) (hK : va_K D vwCl (tK cs) s) (hlink : (Cond.fieldLink own index RX0 "rank" "I").before args s = true) {v : Int32} (hdg : decode cc pc = .ok (.putfield index, 3)) (hw : k_H D (wK cs ad) (k_A 41 ad) σ H0 H locs) (kk : ∀ (H1 : Heap) (locs1 : List Loc), k_H D (wK cs ad) (k_A 41 ad) (p_i σ 12 v) H0 H1 locs1 → W p l e R s m args below meth c H1 locs1 cells slots Q (F0 m (pc + 3) ls rest)) : W p l e R s m args below meth c H locs cells slots Q (F0 m pc ls (.int v :: .ref (ad 2) :: rest)) := by
  exact va_put (D := D) (ci := 0) (v := .int v) (ty := .int) (C := RX0) (T := TX0) (N := 10) hcf.1 hcf.2.1 hcf.2.2.2.2 hinX0 tyX0 tyX0_ok nmX0 hcf.2.2.2.1 hK hw.1 (wK_D hw.2.1) hw.2.2 2 rfl rfl 6 (by decide) hlink (fun _ h => h) rfl (by decide +kernel) rfl rfl (Nat.le_of_ble_eq_true rfl) hdg (fun H1 locs1 hP hD hS => kk H1 locs1 ⟨hP, hD.weaken (fun _ _ _ _ => trivial), hS⟩)
theorem kg_X0_height (hcf : CallFix p m c cc nL s args kws own) (hK : va_K D vwCl (tK cs) s) (hlink : (Cond.fieldLink own index RX0 "height" "I").before args s = true) {x : Int32} (hdg : decode cc pc = .ok (.getfield index, 3)) (hw : k_H D (wK cs ad) A σ H0 H locs) (hv : σ.1 13 = x) (kk : W p l e R s m args below meth c H locs cells slots Q (F0 m (pc + 3) ls (.int x :: rest))) : W p l e R s m args below meth c H locs cells slots Q (F0 m pc ls (.ref (ad 2) :: rest)) := by
  subst hv
  exact va_get (D := D) (ci := 0) (C := RX0) (T := TX0) (N := 10) hcf.1 hcf.2.1 hcf.2.2.2.2 hinX0 hcf.2.2.2.1 hK hw.1 2 rfl rfl 7 (by decide) hlink (fun _ h => h) rfl hdg kk
theorem kp_X0_height (hcf : CallFix p m c cc nL s args kws own) (hK : va_K D vwCl (tK cs) s) (hlink : (Cond.fieldLink own index RX0 "height" "I").before args s = true) {v : Int32} (hdg : decode cc pc = .ok (.putfield index, 3)) (hw : k_H D (wK cs ad) (k_A 41 ad) σ H0 H locs) (kk : ∀ (H1 : Heap) (locs1 : List Loc), k_H D (wK cs ad) (k_A 41 ad) (p_i σ 13 v) H0 H1 locs1 → W p l e R s m args below meth c H1 locs1 cells slots Q (F0 m (pc + 3) ls rest)) : W p l e R s m args below meth c H locs cells slots Q (F0 m pc ls (.int v :: .ref (ad 2) :: rest)) := by
  exact va_put (D := D) (ci := 0) (v := .int v) (ty := .int) (C := RX0) (T := TX0) (N := 10) hcf.1 hcf.2.1 hcf.2.2.2.2 hinX0 tyX0 tyX0_ok nmX0 hcf.2.2.2.1 hK hw.1 (wK_D hw.2.1) hw.2.2 2 rfl rfl 7 (by decide) hlink (fun _ h => h) rfl (by decide +kernel) rfl rfl (Nat.le_of_ble_eq_true rfl) hdg (fun H1 locs1 hP hD hS => kk H1 locs1 ⟨hP, hD.weaken (fun _ _ _ _ => trivial), hS⟩)
theorem kg_X0_width (hcf : CallFix p m c cc nL s args kws own) (hK : va_K D vwCl (tK cs) s) (hlink : (Cond.fieldLink own index RX0 "width" "I").before args s = true) {x : Int32} (hdg : decode cc pc = .ok (.getfield index, 3)) (hw : k_H D (wK cs ad) A σ H0 H locs) (hv : σ.1 14 = x) (kk : W p l e R s m args below meth c H locs cells slots Q (F0 m (pc + 3) ls (.int x :: rest))) : W p l e R s m args below meth c H locs cells slots Q (F0 m pc ls (.ref (ad 2) :: rest)) := by
  subst hv
  exact va_get (D := D) (ci := 0) (C := RX0) (T := TX0) (N := 10) hcf.1 hcf.2.1 hcf.2.2.2.2 hinX0 hcf.2.2.2.1 hK hw.1 2 rfl rfl 8 (by decide) hlink (fun _ h => h) rfl hdg kk
theorem kp_X0_width (hcf : CallFix p m c cc nL s args kws own) (hK : va_K D vwCl (tK cs) s) (hlink : (Cond.fieldLink own index RX0 "width" "I").before args s = true) {v : Int32} (hdg : decode cc pc = .ok (.putfield index, 3)) (hw : k_H D (wK cs ad) (k_A 41 ad) σ H0 H locs) (kk : ∀ (H1 : Heap) (locs1 : List Loc), k_H D (wK cs ad) (k_A 41 ad) (p_i σ 14 v) H0 H1 locs1 → W p l e R s m args below meth c H1 locs1 cells slots Q (F0 m (pc + 3) ls rest)) : W p l e R s m args below meth c H locs cells slots Q (F0 m pc ls (.int v :: .ref (ad 2) :: rest)) := by
  exact va_put (D := D) (ci := 0) (v := .int v) (ty := .int) (C := RX0) (T := TX0) (N := 10) hcf.1 hcf.2.1 hcf.2.2.2.2 hinX0 tyX0 tyX0_ok nmX0 hcf.2.2.2.1 hK hw.1 (wK_D hw.2.1) hw.2.2 2 rfl rfl 8 (by decide) hlink (fun _ h => h) rfl (by decide +kernel) rfl rfl (Nat.le_of_ble_eq_true rfl) hdg (fun H1 locs1 hP hD hS => kk H1 locs1 ⟨hP, hD.weaken (fun _ _ _ _ => trivial), hS⟩)
theorem kg_X0_pivot (hcf : CallFix p m c cc nL s args kws own) (hK : va_K D vwCl (tK cs) s) (hlink : (Cond.fieldLink own index RX0 "pivot" "J").before args s = true) {x : Int64} (hdg : decode cc pc = .ok (.getfield index, 3)) (hw : k_H D (wK cs ad) A σ H0 H locs) (hv : σ.2.2.1 0 = x) (kk : W p l e R s m args below meth c H locs cells slots Q (F0 m (pc + 3) ls (.long x :: rest))) : W p l e R s m args below meth c H locs cells slots Q (F0 m pc ls (.ref (ad 2) :: rest)) := by
  subst hv
  exact va_get (D := D) (ci := 0) (C := RX0) (T := TX0) (N := 10) hcf.1 hcf.2.1 hcf.2.2.2.2 hinX0 hcf.2.2.2.1 hK hw.1 2 rfl rfl 9 (by decide) hlink (fun _ h => h) rfl hdg kk
theorem kp_X0_pivot (hcf : CallFix p m c cc nL s args kws own) (hK : va_K D vwCl (tK cs) s) (hlink : (Cond.fieldLink own index RX0 "pivot" "J").before args s = true) {v : Int64} (hdg : decode cc pc = .ok (.putfield index, 3)) (hw : k_H D (wK cs ad) (k_A 41 ad) σ H0 H locs) (kk : ∀ (H1 : Heap) (locs1 : List Loc), k_H D (wK cs ad) (k_A 41 ad) (p_j σ 0 v) H0 H1 locs1 → W p l e R s m args below meth c H1 locs1 cells slots Q (F0 m (pc + 3) ls rest)) : W p l e R s m args below meth c H locs cells slots Q (F0 m pc ls (.long v :: .ref (ad 2) :: rest)) := by
  exact va_put (D := D) (ci := 0) (v := .long v) (ty := .long) (C := RX0) (T := TX0) (N := 10) hcf.1 hcf.2.1 hcf.2.2.2.2 hinX0 tyX0 tyX0_ok nmX0 hcf.2.2.2.1 hK hw.1 (wK_D hw.2.1) hw.2.2 2 rfl rfl 9 (by decide) hlink (fun _ h => h) rfl (by decide +kernel) rfl rfl (Nat.le_of_ble_eq_true rfl) hdg (fun H1 locs1 hP hD hS => kk H1 locs1 ⟨hP, hD.weaken (fun _ _ _ _ => trivial), hS⟩)
theorem kg_X2_characters (hcf : CallFix p m c cc nL s args kws own) (hK : va_K D vwCl (tK cs) s) (hlink : (Cond.fieldLink own index RX2 "characters" "[C").before args s = true) (hdg : decode cc pc = .ok (.getfield index, 3)) (hw : k_H D (wK cs ad) A σ H0 H locs) (kk : W p l e R s m args below meth c H locs cells slots Q (F0 m (pc + 3) ls (.ref (ad 18) :: rest))) : W p l e R s m args below meth c H locs cells slots Q (F0 m pc ls (.ref (ad 3) :: rest)) := va_get (D := D) (ci := 2) (C := RX2) (T := TX2) (N := 2) hcf.1 hcf.2.1 hcf.2.2.2.2 hinX2 hcf.2.2.2.1 hK hw.1 3 rfl rfl 0 (by decide) hlink (fun _ h => h) rfl hdg kk
theorem kg_X2_length (hcf : CallFix p m c cc nL s args kws own) (hK : va_K D vwCl (tK cs) s) (hlink : (Cond.fieldLink own index RX2 "length" "I").before args s = true) {x : Int32} (hdg : decode cc pc = .ok (.getfield index, 3)) (hw : k_H D (wK cs ad) A σ H0 H locs) (hv : σ.1 15 = x) (kk : W p l e R s m args below meth c H locs cells slots Q (F0 m (pc + 3) ls (.int x :: rest))) : W p l e R s m args below meth c H locs cells slots Q (F0 m pc ls (.ref (ad 3) :: rest)) := by
  subst hv
  exact va_get (D := D) (ci := 2) (C := RX2) (T := TX2) (N := 2) hcf.1 hcf.2.1 hcf.2.2.2.2 hinX2 hcf.2.2.2.1 hK hw.1 3 rfl rfl 1 (by decide) hlink (fun _ h => h) rfl hdg kk
theorem kp_X2_length (hcf : CallFix p m c cc nL s args kws own) (hK : va_K D vwCl (tK cs) s) (hlink : (Cond.fieldLink own index RX2 "length" "I").before args s = true) {v : Int32} (hdg : decode cc pc = .ok (.putfield index, 3)) (hw : k_H D (wK cs ad) (k_A 41 ad) σ H0 H locs) (kk : ∀ (H1 : Heap) (locs1 : List Loc), k_H D (wK cs ad) (k_A 41 ad) (p_i σ 15 v) H0 H1 locs1 → W p l e R s m args below meth c H1 locs1 cells slots Q (F0 m (pc + 3) ls rest)) : W p l e R s m args below meth c H locs cells slots Q (F0 m pc ls (.int v :: .ref (ad 3) :: rest)) := by
  exact va_put (D := D) (ci := 2) (v := .int v) (ty := .int) (C := RX2) (T := TX2) (N := 2) hcf.1 hcf.2.1 hcf.2.2.2.2 hinX2 tyX2 tyX2_ok nmX2 hcf.2.2.2.1 hK hw.1 (wK_D hw.2.1) hw.2.2 3 rfl rfl 1 (by decide) hlink (fun _ h => h) rfl (by decide +kernel) rfl rfl (Nat.le_of_ble_eq_true rfl) hdg (fun H1 locs1 hP hD hS => kk H1 locs1 ⟨hP, hD.weaken (fun _ _ _ _ => trivial), hS⟩)
theorem kg_X4_characters (hcf : CallFix p m c cc nL s args kws own) (hK : va_K D vwCl (tK cs) s) (hlink : (Cond.fieldLink own index RX4 "characters" "[C").before args s = true) (hdg : decode cc pc = .ok (.getfield index, 3)) (hw : k_H D (wK cs ad) A σ H0 H locs) (kk : W p l e R s m args below meth c H locs cells slots Q (F0 m (pc + 3) ls (.ref (ad 10) :: rest))) : W p l e R s m args below meth c H locs cells slots Q (F0 m pc ls (.ref (ad 4) :: rest)) := va_get (D := D) (ci := 4) (C := RX4) (T := TX4) (N := 3) hcf.1 hcf.2.1 hcf.2.2.2.2 hinX4 hcf.2.2.2.1 hK hw.1 4 rfl rfl 0 (by decide) hlink (fun _ h => h) rfl hdg kk
theorem kg_X4_length (hcf : CallFix p m c cc nL s args kws own) (hK : va_K D vwCl (tK cs) s) (hlink : (Cond.fieldLink own index RX4 "length" "I").before args s = true) {x : Int32} (hdg : decode cc pc = .ok (.getfield index, 3)) (hw : k_H D (wK cs ad) A σ H0 H locs) (hv : σ.1 0 = x) (kk : W p l e R s m args below meth c H locs cells slots Q (F0 m (pc + 3) ls (.int x :: rest))) : W p l e R s m args below meth c H locs cells slots Q (F0 m pc ls (.ref (ad 4) :: rest)) := by
  subst hv
  exact va_get (D := D) (ci := 4) (C := RX4) (T := TX4) (N := 3) hcf.1 hcf.2.1 hcf.2.2.2.2 hinX4 hcf.2.2.2.1 hK hw.1 4 rfl rfl 1 (by decide) hlink (fun _ h => h) rfl hdg kk
theorem kp_X4_length (hcf : CallFix p m c cc nL s args kws own) (hK : va_K D vwCl (tK cs) s) (hlink : (Cond.fieldLink own index RX4 "length" "I").before args s = true) {v : Int32} (hdg : decode cc pc = .ok (.putfield index, 3)) (hw : k_H D (wK cs ad) (k_A 41 ad) σ H0 H locs) (kk : ∀ (H1 : Heap) (locs1 : List Loc), k_H D (wK cs ad) (k_A 41 ad) (p_i σ 0 v) H0 H1 locs1 → W p l e R s m args below meth c H1 locs1 cells slots Q (F0 m (pc + 3) ls rest)) : W p l e R s m args below meth c H locs cells slots Q (F0 m pc ls (.int v :: .ref (ad 4) :: rest)) := by
  exact va_put (D := D) (ci := 4) (v := .int v) (ty := .int) (C := RX4) (T := TX4) (N := 3) hcf.1 hcf.2.1 hcf.2.2.2.2 hinX4 tyX4 tyX4_ok nmX4 hcf.2.2.2.1 hK hw.1 (wK_D hw.2.1) hw.2.2 4 rfl rfl 1 (by decide) hlink (fun _ h => h) rfl (by decide +kernel) rfl rfl (Nat.le_of_ble_eq_true rfl) hdg (fun H1 locs1 hP hD hS => kk H1 locs1 ⟨hP, hD.weaken (fun _ _ _ _ => trivial), hS⟩)
theorem kg_X4_place (hcf : CallFix p m c cc nL s args kws own) (hK : va_K D vwCl (tK cs) s) (hlink : (Cond.fieldLink own index RX4 "place" "I").before args s = true) {x : Int32} (hdg : decode cc pc = .ok (.getfield index, 3)) (hw : k_H D (wK cs ad) A σ H0 H locs) (hv : σ.1 1 = x) (kk : W p l e R s m args below meth c H locs cells slots Q (F0 m (pc + 3) ls (.int x :: rest))) : W p l e R s m args below meth c H locs cells slots Q (F0 m pc ls (.ref (ad 4) :: rest)) := by
  subst hv
  exact va_get (D := D) (ci := 4) (C := RX4) (T := TX4) (N := 3) hcf.1 hcf.2.1 hcf.2.2.2.2 hinX4 hcf.2.2.2.1 hK hw.1 4 rfl rfl 2 (by decide) hlink (fun _ h => h) rfl hdg kk
theorem kp_X4_place (hcf : CallFix p m c cc nL s args kws own) (hK : va_K D vwCl (tK cs) s) (hlink : (Cond.fieldLink own index RX4 "place" "I").before args s = true) {v : Int32} (hdg : decode cc pc = .ok (.putfield index, 3)) (hw : k_H D (wK cs ad) (k_A 41 ad) σ H0 H locs) (kk : ∀ (H1 : Heap) (locs1 : List Loc), k_H D (wK cs ad) (k_A 41 ad) (p_i σ 1 v) H0 H1 locs1 → W p l e R s m args below meth c H1 locs1 cells slots Q (F0 m (pc + 3) ls rest)) : W p l e R s m args below meth c H locs cells slots Q (F0 m pc ls (.int v :: .ref (ad 4) :: rest)) := by
  exact va_put (D := D) (ci := 4) (v := .int v) (ty := .int) (C := RX4) (T := TX4) (N := 3) hcf.1 hcf.2.1 hcf.2.2.2.2 hinX4 tyX4 tyX4_ok nmX4 hcf.2.2.2.1 hK hw.1 (wK_D hw.2.1) hw.2.2 4 rfl rfl 2 (by decide) hlink (fun _ h => h) rfl (by decide +kernel) rfl rfl (Nat.le_of_ble_eq_true rfl) hdg (fun H1 locs1 hP hD hS => kk H1 locs1 ⟨hP, hD.weaken (fun _ _ _ _ => trivial), hS⟩)
theorem kg_X1_elementNames (hcf : CallFix p m c cc nL s args kws own) (hK : va_K D vwCl (tK cs) s) (hlink : (Cond.fieldLink own index RX1 "elementNames" "[I").before args s = true) (hdg : decode cc pc = .ok (.getfield index, 3)) (hw : k_H D (wK cs ad) A σ H0 H locs) (kk : W p l e R s m args below meth c H locs cells slots Q (F0 m (pc + 3) ls (.ref (ad 11) :: rest))) : W p l e R s m args below meth c H locs cells slots Q (F0 m pc ls (.ref (ad 5) :: rest)) := va_get (D := D) (ci := 1) (C := RX1) (T := TX1) (N := 9) hcf.1 hcf.2.1 hcf.2.2.2.2 hinX1 hcf.2.2.2.1 hK hw.1 5 rfl rfl 0 (by decide) hlink (fun _ h => h) rfl hdg kk
theorem kg_X1_amounts (hcf : CallFix p m c cc nL s args kws own) (hK : va_K D vwCl (tK cs) s) (hlink : (Cond.fieldLink own index RX1 "amounts" "[[I").before args s = true) (hdg : decode cc pc = .ok (.getfield index, 3)) (hw : k_H D (wK cs ad) A σ H0 H locs) (kk : W p l e R s m args below meth c H locs cells slots Q (F0 m (pc + 3) ls (.ref (ad 9) :: rest))) : W p l e R s m args below meth c H locs cells slots Q (F0 m pc ls (.ref (ad 5) :: rest)) := va_get (D := D) (ci := 1) (C := RX1) (T := TX1) (N := 9) hcf.1 hcf.2.1 hcf.2.2.2.2 hinX1 hcf.2.2.2.1 hK hw.1 5 rfl rfl 1 (by decide) hlink (fun _ h => h) rfl hdg kk
theorem kg_X1_charges (hcf : CallFix p m c cc nL s args kws own) (hK : va_K D vwCl (tK cs) s) (hlink : (Cond.fieldLink own index RX1 "charges" "[I").before args s = true) (hdg : decode cc pc = .ok (.getfield index, 3)) (hw : k_H D (wK cs ad) A σ H0 H locs) (kk : W p l e R s m args below meth c H locs cells slots Q (F0 m (pc + 3) ls (.ref (ad 12) :: rest))) : W p l e R s m args below meth c H locs cells slots Q (F0 m pc ls (.ref (ad 5) :: rest)) := va_get (D := D) (ci := 1) (C := RX1) (T := TX1) (N := 9) hcf.1 hcf.2.1 hcf.2.2.2.2 hinX1 hcf.2.2.2.1 hK hw.1 5 rfl rfl 2 (by decide) hlink (fun _ h => h) rfl hdg kk
theorem kg_X1_begins (hcf : CallFix p m c cc nL s args kws own) (hK : va_K D vwCl (tK cs) s) (hlink : (Cond.fieldLink own index RX1 "begins" "[I").before args s = true) (hdg : decode cc pc = .ok (.getfield index, 3)) (hw : k_H D (wK cs ad) A σ H0 H locs) (kk : W p l e R s m args below meth c H locs cells slots Q (F0 m (pc + 3) ls (.ref (ad 13) :: rest))) : W p l e R s m args below meth c H locs cells slots Q (F0 m pc ls (.ref (ad 5) :: rest)) := va_get (D := D) (ci := 1) (C := RX1) (T := TX1) (N := 9) hcf.1 hcf.2.1 hcf.2.2.2.2 hinX1 hcf.2.2.2.1 hK hw.1 5 rfl rfl 3 (by decide) hlink (fun _ h => h) rfl hdg kk
theorem kg_X1_ends (hcf : CallFix p m c cc nL s args kws own) (hK : va_K D vwCl (tK cs) s) (hlink : (Cond.fieldLink own index RX1 "ends" "[I").before args s = true) (hdg : decode cc pc = .ok (.getfield index, 3)) (hw : k_H D (wK cs ad) A σ H0 H locs) (kk : W p l e R s m args below meth c H locs cells slots Q (F0 m (pc + 3) ls (.ref (ad 14) :: rest))) : W p l e R s m args below meth c H locs cells slots Q (F0 m pc ls (.ref (ad 5) :: rest)) := va_get (D := D) (ci := 1) (C := RX1) (T := TX1) (N := 9) hcf.1 hcf.2.1 hcf.2.2.2.2 hinX1 hcf.2.2.2.1 hK hw.1 5 rfl rfl 4 (by decide) hlink (fun _ h => h) rfl hdg kk
theorem kg_X1_formulaCount (hcf : CallFix p m c cc nL s args kws own) (hK : va_K D vwCl (tK cs) s) (hlink : (Cond.fieldLink own index RX1 "formulaCount" "I").before args s = true) {x : Int32} (hdg : decode cc pc = .ok (.getfield index, 3)) (hw : k_H D (wK cs ad) A σ H0 H locs) (hv : σ.1 2 = x) (kk : W p l e R s m args below meth c H locs cells slots Q (F0 m (pc + 3) ls (.int x :: rest))) : W p l e R s m args below meth c H locs cells slots Q (F0 m pc ls (.ref (ad 5) :: rest)) := by
  subst hv
  exact va_get (D := D) (ci := 1) (C := RX1) (T := TX1) (N := 9) hcf.1 hcf.2.1 hcf.2.2.2.2 hinX1 hcf.2.2.2.1 hK hw.1 5 rfl rfl 5 (by decide) hlink (fun _ h => h) rfl hdg kk
theorem kp_X1_formulaCount (hcf : CallFix p m c cc nL s args kws own) (hK : va_K D vwCl (tK cs) s) (hlink : (Cond.fieldLink own index RX1 "formulaCount" "I").before args s = true) {v : Int32} (hdg : decode cc pc = .ok (.putfield index, 3)) (hw : k_H D (wK cs ad) (k_A 41 ad) σ H0 H locs) (kk : ∀ (H1 : Heap) (locs1 : List Loc), k_H D (wK cs ad) (k_A 41 ad) (p_i σ 2 v) H0 H1 locs1 → W p l e R s m args below meth c H1 locs1 cells slots Q (F0 m (pc + 3) ls rest)) : W p l e R s m args below meth c H locs cells slots Q (F0 m pc ls (.int v :: .ref (ad 5) :: rest)) := by
  exact va_put (D := D) (ci := 1) (v := .int v) (ty := .int) (C := RX1) (T := TX1) (N := 9) hcf.1 hcf.2.1 hcf.2.2.2.2 hinX1 tyX1 tyX1_ok nmX1 hcf.2.2.2.1 hK hw.1 (wK_D hw.2.1) hw.2.2 5 rfl rfl 5 (by decide) hlink (fun _ h => h) rfl (by decide +kernel) rfl rfl (Nat.le_of_ble_eq_true rfl) hdg (fun H1 locs1 hP hD hS => kk H1 locs1 ⟨hP, hD.weaken (fun _ _ _ _ => trivial), hS⟩)
theorem kg_X1_reactantCount (hcf : CallFix p m c cc nL s args kws own) (hK : va_K D vwCl (tK cs) s) (hlink : (Cond.fieldLink own index RX1 "reactantCount" "I").before args s = true) {x : Int32} (hdg : decode cc pc = .ok (.getfield index, 3)) (hw : k_H D (wK cs ad) A σ H0 H locs) (hv : σ.1 3 = x) (kk : W p l e R s m args below meth c H locs cells slots Q (F0 m (pc + 3) ls (.int x :: rest))) : W p l e R s m args below meth c H locs cells slots Q (F0 m pc ls (.ref (ad 5) :: rest)) := by
  subst hv
  exact va_get (D := D) (ci := 1) (C := RX1) (T := TX1) (N := 9) hcf.1 hcf.2.1 hcf.2.2.2.2 hinX1 hcf.2.2.2.1 hK hw.1 5 rfl rfl 6 (by decide) hlink (fun _ h => h) rfl hdg kk
theorem kp_X1_reactantCount (hcf : CallFix p m c cc nL s args kws own) (hK : va_K D vwCl (tK cs) s) (hlink : (Cond.fieldLink own index RX1 "reactantCount" "I").before args s = true) {v : Int32} (hdg : decode cc pc = .ok (.putfield index, 3)) (hw : k_H D (wK cs ad) (k_A 41 ad) σ H0 H locs) (kk : ∀ (H1 : Heap) (locs1 : List Loc), k_H D (wK cs ad) (k_A 41 ad) (p_i σ 3 v) H0 H1 locs1 → W p l e R s m args below meth c H1 locs1 cells slots Q (F0 m (pc + 3) ls rest)) : W p l e R s m args below meth c H locs cells slots Q (F0 m pc ls (.int v :: .ref (ad 5) :: rest)) := by
  exact va_put (D := D) (ci := 1) (v := .int v) (ty := .int) (C := RX1) (T := TX1) (N := 9) hcf.1 hcf.2.1 hcf.2.2.2.2 hinX1 tyX1 tyX1_ok nmX1 hcf.2.2.2.1 hK hw.1 (wK_D hw.2.1) hw.2.2 5 rfl rfl 6 (by decide) hlink (fun _ h => h) rfl (by decide +kernel) rfl rfl (Nat.le_of_ble_eq_true rfl) hdg (fun H1 locs1 hP hD hS => kk H1 locs1 ⟨hP, hD.weaken (fun _ _ _ _ => trivial), hS⟩)
theorem kg_X1_elementCount (hcf : CallFix p m c cc nL s args kws own) (hK : va_K D vwCl (tK cs) s) (hlink : (Cond.fieldLink own index RX1 "elementCount" "I").before args s = true) {x : Int32} (hdg : decode cc pc = .ok (.getfield index, 3)) (hw : k_H D (wK cs ad) A σ H0 H locs) (hv : σ.1 4 = x) (kk : W p l e R s m args below meth c H locs cells slots Q (F0 m (pc + 3) ls (.int x :: rest))) : W p l e R s m args below meth c H locs cells slots Q (F0 m pc ls (.ref (ad 5) :: rest)) := by
  subst hv
  exact va_get (D := D) (ci := 1) (C := RX1) (T := TX1) (N := 9) hcf.1 hcf.2.1 hcf.2.2.2.2 hinX1 hcf.2.2.2.1 hK hw.1 5 rfl rfl 7 (by decide) hlink (fun _ h => h) rfl hdg kk
theorem kp_X1_elementCount (hcf : CallFix p m c cc nL s args kws own) (hK : va_K D vwCl (tK cs) s) (hlink : (Cond.fieldLink own index RX1 "elementCount" "I").before args s = true) {v : Int32} (hdg : decode cc pc = .ok (.putfield index, 3)) (hw : k_H D (wK cs ad) (k_A 41 ad) σ H0 H locs) (kk : ∀ (H1 : Heap) (locs1 : List Loc), k_H D (wK cs ad) (k_A 41 ad) (p_i σ 4 v) H0 H1 locs1 → W p l e R s m args below meth c H1 locs1 cells slots Q (F0 m (pc + 3) ls rest)) : W p l e R s m args below meth c H locs cells slots Q (F0 m pc ls (.int v :: .ref (ad 5) :: rest)) := by
  exact va_put (D := D) (ci := 1) (v := .int v) (ty := .int) (C := RX1) (T := TX1) (N := 9) hcf.1 hcf.2.1 hcf.2.2.2.2 hinX1 tyX1 tyX1_ok nmX1 hcf.2.2.2.1 hK hw.1 (wK_D hw.2.1) hw.2.2 5 rfl rfl 7 (by decide) hlink (fun _ h => h) rfl (by decide +kernel) rfl rfl (Nat.le_of_ble_eq_true rfl) hdg (fun H1 locs1 hP hD hS => kk H1 locs1 ⟨hP, hD.weaken (fun _ _ _ _ => trivial), hS⟩)
theorem kg_X1_charged (hcf : CallFix p m c cc nL s args kws own) (hK : va_K D vwCl (tK cs) s) (hlink : (Cond.fieldLink own index RX1 "charged" "Z").before args s = true) {x : Int32} (hdg : decode cc pc = .ok (.getfield index, 3)) (hw : k_H D (wK cs ad) A σ H0 H locs) (hv : σ.1 5 = x) (kk : W p l e R s m args below meth c H locs cells slots Q (F0 m (pc + 3) ls (.int x :: rest))) : W p l e R s m args below meth c H locs cells slots Q (F0 m pc ls (.ref (ad 5) :: rest)) := by
  subst hv
  exact va_get (D := D) (ci := 1) (C := RX1) (T := TX1) (N := 9) hcf.1 hcf.2.1 hcf.2.2.2.2 hinX1 hcf.2.2.2.1 hK hw.1 5 rfl rfl 8 (by decide) hlink (fun _ h => h) rfl hdg kk
theorem kp_X1_charged (hcf : CallFix p m c cc nL s args kws own) (hK : va_K D vwCl (tK cs) s) (hlink : (Cond.fieldLink own index RX1 "charged" "Z").before args s = true) {v : Int32} (hdg : decode cc pc = .ok (.putfield index, 3)) (hz : narrow .boolean (.int v) = .int v ∧ fits .boolean (.int v) = true) (hw : k_H D (wK cs ad) (k_A 41 ad) σ H0 H locs) (kk : ∀ (H1 : Heap) (locs1 : List Loc), k_H D (wK cs ad) (k_A 41 ad) (p_i σ 5 v) H0 H1 locs1 → W p l e R s m args below meth c H1 locs1 cells slots Q (F0 m (pc + 3) ls rest)) : W p l e R s m args below meth c H locs cells slots Q (F0 m pc ls (.int v :: .ref (ad 5) :: rest)) := by
  exact va_put (D := D) (ci := 1) (v := .int v) (ty := .boolean) (C := RX1) (T := TX1) (N := 9) hcf.1 hcf.2.1 hcf.2.2.2.2 hinX1 tyX1 tyX1_ok nmX1 hcf.2.2.2.1 hK hw.1 (wK_D hw.2.1) hw.2.2 5 rfl rfl 8 (by decide) hlink (fun _ h => h) rfl (by decide +kernel) hz.1 hz.2 (Nat.le_of_ble_eq_true rfl) hdg (fun H1 locs1 hP hD hS => kk H1 locs1 ⟨hP, hD.weaken (fun _ _ _ _ => trivial), hS⟩)
theorem kald_A0 (hcf : CallFix p m c cc nL s args kws own) (hK : va_K D vwCl (tK cs) s) {i x : Int32} (hdg : decode cc pc = .ok (.caload, 1)) (hi : ¬ (i < 0 ∨ 100 ≤ i.toNatClampNeg)) (hw : k_H D (wK cs ad) A σ H0 H locs) (hv : σ.2.1 0 i.toNatClampNeg = x) (kk : W p l e R s m args below meth c H locs cells slots Q (F0 m (pc + 1) ls (.int x :: rest))) : W p l e R s m args below meth c H locs cells slots Q (F0 m pc ls (.int i :: .ref (ad 10) :: rest)) := by
  subst hv
  exact va_cald hcf.1 hcf.2.1 hK hw.1 10 1 rfl rfl hi hdg kk
theorem kast_A0 (hcf : CallFix p m c cc nL s args kws own) (hK : va_K D vwCl (tK cs) s) {i v : Int32} (hdg : decode cc pc = .ok (.castore, 1)) (hi : ¬ (i < 0 ∨ 100 ≤ i.toNatClampNeg)) (hw : k_H D (wK cs ad) (k_A 41 ad) σ H0 H locs) (kk : ∀ (H1 : Heap) (locs1 : List Loc), k_H D (wK cs ad) (k_A 41 ad) (p_a σ 0 i.toNatClampNeg (vp_nar .char v)) H0 H1 locs1 → W p l e R s m args below meth c H1 locs1 cells slots Q (F0 m (pc + 1) ls rest)) : W p l e R s m args below meth c H locs cells slots Q (F0 m pc ls (.int v :: .int i :: .ref (ad 10) :: rest)) := by
  exact va_cast hcf.1 hcf.2.1 hK hw.1 (wK_D hw.2.1) hw.2.2 10 1 rfl rfl hi hdg (fun H1 locs1 hP hD hS => kk H1 locs1 ⟨hP, hD.weaken (fun _ _ _ _ => trivial), hS⟩)
theorem kald_A1 (hcf : CallFix p m c cc nL s args kws own) (hK : va_K D vwCl (tK cs) s) {i x : Int32} (hdg : decode cc pc = .ok (.iaload, 1)) (hi : ¬ (i < 0 ∨ 5 ≤ i.toNatClampNeg)) (hw : k_H D (wK cs ad) A σ H0 H locs) (hv : σ.2.1 1 i.toNatClampNeg = x) (kk : W p l e R s m args below meth c H locs cells slots Q (F0 m (pc + 1) ls (.int x :: rest))) : W p l e R s m args below meth c H locs cells slots Q (F0 m pc ls (.int i :: .ref (ad 11) :: rest)) := by
  subst hv
  exact va_iald hcf.1 hcf.2.1 hK hw.1 11 0 rfl rfl hi hdg kk
theorem kast_A1 (hcf : CallFix p m c cc nL s args kws own) (hK : va_K D vwCl (tK cs) s) {i v : Int32} (hdg : decode cc pc = .ok (.iastore, 1)) (hi : ¬ (i < 0 ∨ 5 ≤ i.toNatClampNeg)) (hw : k_H D (wK cs ad) (k_A 41 ad) σ H0 H locs) (kk : ∀ (H1 : Heap) (locs1 : List Loc), k_H D (wK cs ad) (k_A 41 ad) (p_a σ 1 i.toNatClampNeg v) H0 H1 locs1 → W p l e R s m args below meth c H1 locs1 cells slots Q (F0 m (pc + 1) ls rest)) : W p l e R s m args below meth c H locs cells slots Q (F0 m pc ls (.int v :: .int i :: .ref (ad 11) :: rest)) := by
  exact va_iast hcf.1 hcf.2.1 hK hw.1 (wK_D hw.2.1) hw.2.2 11 0 rfl rfl hi hdg (fun H1 locs1 hP hD hS => kk H1 locs1 ⟨hP, hD.weaken (fun _ _ _ _ => trivial), hS⟩)
theorem kald_A2 (hcf : CallFix p m c cc nL s args kws own) (hK : va_K D vwCl (tK cs) s) {i x : Int32} (hdg : decode cc pc = .ok (.iaload, 1)) (hi : ¬ (i < 0 ∨ 6 ≤ i.toNatClampNeg)) (hw : k_H D (wK cs ad) A σ H0 H locs) (hv : σ.2.1 2 i.toNatClampNeg = x) (kk : W p l e R s m args below meth c H locs cells slots Q (F0 m (pc + 1) ls (.int x :: rest))) : W p l e R s m args below meth c H locs cells slots Q (F0 m pc ls (.int i :: .ref (ad 12) :: rest)) := by
  subst hv
  exact va_iald hcf.1 hcf.2.1 hK hw.1 12 0 rfl rfl hi hdg kk
theorem kast_A2 (hcf : CallFix p m c cc nL s args kws own) (hK : va_K D vwCl (tK cs) s) {i v : Int32} (hdg : decode cc pc = .ok (.iastore, 1)) (hi : ¬ (i < 0 ∨ 6 ≤ i.toNatClampNeg)) (hw : k_H D (wK cs ad) (k_A 41 ad) σ H0 H locs) (kk : ∀ (H1 : Heap) (locs1 : List Loc), k_H D (wK cs ad) (k_A 41 ad) (p_a σ 2 i.toNatClampNeg v) H0 H1 locs1 → W p l e R s m args below meth c H1 locs1 cells slots Q (F0 m (pc + 1) ls rest)) : W p l e R s m args below meth c H locs cells slots Q (F0 m pc ls (.int v :: .int i :: .ref (ad 12) :: rest)) := by
  exact va_iast hcf.1 hcf.2.1 hK hw.1 (wK_D hw.2.1) hw.2.2 12 0 rfl rfl hi hdg (fun H1 locs1 hP hD hS => kk H1 locs1 ⟨hP, hD.weaken (fun _ _ _ _ => trivial), hS⟩)
theorem kald_A3 (hcf : CallFix p m c cc nL s args kws own) (hK : va_K D vwCl (tK cs) s) {i x : Int32} (hdg : decode cc pc = .ok (.iaload, 1)) (hi : ¬ (i < 0 ∨ 6 ≤ i.toNatClampNeg)) (hw : k_H D (wK cs ad) A σ H0 H locs) (hv : σ.2.1 3 i.toNatClampNeg = x) (kk : W p l e R s m args below meth c H locs cells slots Q (F0 m (pc + 1) ls (.int x :: rest))) : W p l e R s m args below meth c H locs cells slots Q (F0 m pc ls (.int i :: .ref (ad 13) :: rest)) := by
  subst hv
  exact va_iald hcf.1 hcf.2.1 hK hw.1 13 0 rfl rfl hi hdg kk
theorem kast_A3 (hcf : CallFix p m c cc nL s args kws own) (hK : va_K D vwCl (tK cs) s) {i v : Int32} (hdg : decode cc pc = .ok (.iastore, 1)) (hi : ¬ (i < 0 ∨ 6 ≤ i.toNatClampNeg)) (hw : k_H D (wK cs ad) (k_A 41 ad) σ H0 H locs) (kk : ∀ (H1 : Heap) (locs1 : List Loc), k_H D (wK cs ad) (k_A 41 ad) (p_a σ 3 i.toNatClampNeg v) H0 H1 locs1 → W p l e R s m args below meth c H1 locs1 cells slots Q (F0 m (pc + 1) ls rest)) : W p l e R s m args below meth c H locs cells slots Q (F0 m pc ls (.int v :: .int i :: .ref (ad 13) :: rest)) := by
  exact va_iast hcf.1 hcf.2.1 hK hw.1 (wK_D hw.2.1) hw.2.2 13 0 rfl rfl hi hdg (fun H1 locs1 hP hD hS => kk H1 locs1 ⟨hP, hD.weaken (fun _ _ _ _ => trivial), hS⟩)
theorem kald_A4 (hcf : CallFix p m c cc nL s args kws own) (hK : va_K D vwCl (tK cs) s) {i x : Int32} (hdg : decode cc pc = .ok (.iaload, 1)) (hi : ¬ (i < 0 ∨ 6 ≤ i.toNatClampNeg)) (hw : k_H D (wK cs ad) A σ H0 H locs) (hv : σ.2.1 4 i.toNatClampNeg = x) (kk : W p l e R s m args below meth c H locs cells slots Q (F0 m (pc + 1) ls (.int x :: rest))) : W p l e R s m args below meth c H locs cells slots Q (F0 m pc ls (.int i :: .ref (ad 14) :: rest)) := by
  subst hv
  exact va_iald hcf.1 hcf.2.1 hK hw.1 14 0 rfl rfl hi hdg kk
theorem kast_A4 (hcf : CallFix p m c cc nL s args kws own) (hK : va_K D vwCl (tK cs) s) {i v : Int32} (hdg : decode cc pc = .ok (.iastore, 1)) (hi : ¬ (i < 0 ∨ 6 ≤ i.toNatClampNeg)) (hw : k_H D (wK cs ad) (k_A 41 ad) σ H0 H locs) (kk : ∀ (H1 : Heap) (locs1 : List Loc), k_H D (wK cs ad) (k_A 41 ad) (p_a σ 4 i.toNatClampNeg v) H0 H1 locs1 → W p l e R s m args below meth c H1 locs1 cells slots Q (F0 m (pc + 1) ls rest)) : W p l e R s m args below meth c H locs cells slots Q (F0 m pc ls (.int v :: .int i :: .ref (ad 14) :: rest)) := by
  exact va_iast hcf.1 hcf.2.1 hK hw.1 (wK_D hw.2.1) hw.2.2 14 0 rfl rfl hi hdg (fun H1 locs1 hP hD hS => kk H1 locs1 ⟨hP, hD.weaken (fun _ _ _ _ => trivial), hS⟩)
theorem kald_A5 (hcf : CallFix p m c cc nL s args kws own) (hK : va_K D vwCl (tK cs) s) {i x : Int32} (hdg : decode cc pc = .ok (.caload, 1)) (hi : ¬ (i < 0 ∨ 4 ≤ i.toNatClampNeg)) (hw : k_H D (wK cs ad) A σ H0 H locs) (hv : σ.2.1 5 i.toNatClampNeg = x) (kk : W p l e R s m args below meth c H locs cells slots Q (F0 m (pc + 1) ls (.int x :: rest))) : W p l e R s m args below meth c H locs cells slots Q (F0 m pc ls (.int i :: .ref (ad 15) :: rest)) := by
  subst hv
  exact va_cald hcf.1 hcf.2.1 hK hw.1 15 1 rfl rfl hi hdg kk
theorem kast_A5 (hcf : CallFix p m c cc nL s args kws own) (hK : va_K D vwCl (tK cs) s) {i v : Int32} (hdg : decode cc pc = .ok (.castore, 1)) (hi : ¬ (i < 0 ∨ 4 ≤ i.toNatClampNeg)) (hw : k_H D (wK cs ad) (k_A 41 ad) σ H0 H locs) (kk : ∀ (H1 : Heap) (locs1 : List Loc), k_H D (wK cs ad) (k_A 41 ad) (p_a σ 5 i.toNatClampNeg (vp_nar .char v)) H0 H1 locs1 → W p l e R s m args below meth c H1 locs1 cells slots Q (F0 m (pc + 1) ls rest)) : W p l e R s m args below meth c H locs cells slots Q (F0 m pc ls (.int v :: .int i :: .ref (ad 15) :: rest)) := by
  exact va_cast hcf.1 hcf.2.1 hK hw.1 (wK_D hw.2.1) hw.2.2 15 1 rfl rfl hi hdg (fun H1 locs1 hP hD hS => kk H1 locs1 ⟨hP, hD.weaken (fun _ _ _ _ => trivial), hS⟩)
theorem kald_A6 (hcf : CallFix p m c cc nL s args kws own) (hK : va_K D vwCl (tK cs) s) {i x : Int32} (hdg : decode cc pc = .ok (.baload, 1)) (hi : ¬ (i < 0 ∨ 6 ≤ i.toNatClampNeg)) (hw : k_H D (wK cs ad) A σ H0 H locs) (hv : σ.2.1 6 i.toNatClampNeg = x) (kk : W p l e R s m args below meth c H locs cells slots Q (F0 m (pc + 1) ls (.int x :: rest))) : W p l e R s m args below meth c H locs cells slots Q (F0 m pc ls (.int i :: .ref (ad 16) :: rest)) := by
  subst hv
  exact va_zald hcf.1 hcf.2.1 hK hw.1 16 2 rfl rfl hi hdg kk
theorem kast_A6 (hcf : CallFix p m c cc nL s args kws own) (hK : va_K D vwCl (tK cs) s) {i v : Int32} (hdg : decode cc pc = .ok (.bastore, 1)) (hi : ¬ (i < 0 ∨ 6 ≤ i.toNatClampNeg)) (hw : k_H D (wK cs ad) (k_A 41 ad) σ H0 H locs) (kk : ∀ (H1 : Heap) (locs1 : List Loc), k_H D (wK cs ad) (k_A 41 ad) (p_a σ 6 i.toNatClampNeg (vp_nar .boolean v)) H0 H1 locs1 → W p l e R s m args below meth c H1 locs1 cells slots Q (F0 m (pc + 1) ls rest)) : W p l e R s m args below meth c H locs cells slots Q (F0 m pc ls (.int v :: .int i :: .ref (ad 16) :: rest)) := by
  exact va_zast hcf.1 hcf.2.1 hK hw.1 (wK_D hw.2.1) hw.2.2 16 2 rfl rfl hi hdg (fun H1 locs1 hP hD hS => kk H1 locs1 ⟨hP, hD.weaken (fun _ _ _ _ => trivial), hS⟩)
theorem kald_A7 (hcf : CallFix p m c cc nL s args kws own) (hK : va_K D vwCl (tK cs) s) {i x : Int32} (hdg : decode cc pc = .ok (.iaload, 1)) (hi : ¬ (i < 0 ∨ 5 ≤ i.toNatClampNeg)) (hw : k_H D (wK cs ad) A σ H0 H locs) (hv : σ.2.1 7 i.toNatClampNeg = x) (kk : W p l e R s m args below meth c H locs cells slots Q (F0 m (pc + 1) ls (.int x :: rest))) : W p l e R s m args below meth c H locs cells slots Q (F0 m pc ls (.int i :: .ref (ad 17) :: rest)) := by
  subst hv
  exact va_iald hcf.1 hcf.2.1 hK hw.1 17 0 rfl rfl hi hdg kk
theorem kast_A7 (hcf : CallFix p m c cc nL s args kws own) (hK : va_K D vwCl (tK cs) s) {i v : Int32} (hdg : decode cc pc = .ok (.iastore, 1)) (hi : ¬ (i < 0 ∨ 5 ≤ i.toNatClampNeg)) (hw : k_H D (wK cs ad) (k_A 41 ad) σ H0 H locs) (kk : ∀ (H1 : Heap) (locs1 : List Loc), k_H D (wK cs ad) (k_A 41 ad) (p_a σ 7 i.toNatClampNeg v) H0 H1 locs1 → W p l e R s m args below meth c H1 locs1 cells slots Q (F0 m (pc + 1) ls rest)) : W p l e R s m args below meth c H locs cells slots Q (F0 m pc ls (.int v :: .int i :: .ref (ad 17) :: rest)) := by
  exact va_iast hcf.1 hcf.2.1 hK hw.1 (wK_D hw.2.1) hw.2.2 17 0 rfl rfl hi hdg (fun H1 locs1 hP hD hS => kk H1 locs1 ⟨hP, hD.weaken (fun _ _ _ _ => trivial), hS⟩)
theorem kald_A8 (hcf : CallFix p m c cc nL s args kws own) (hK : va_K D vwCl (tK cs) s) {i x : Int32} (hdg : decode cc pc = .ok (.caload, 1)) (hi : ¬ (i < 0 ∨ 200 ≤ i.toNatClampNeg)) (hw : k_H D (wK cs ad) A σ H0 H locs) (hv : σ.2.1 8 i.toNatClampNeg = x) (kk : W p l e R s m args below meth c H locs cells slots Q (F0 m (pc + 1) ls (.int x :: rest))) : W p l e R s m args below meth c H locs cells slots Q (F0 m pc ls (.int i :: .ref (ad 18) :: rest)) := by
  subst hv
  exact va_cald hcf.1 hcf.2.1 hK hw.1 18 1 rfl rfl hi hdg kk
theorem kast_A8 (hcf : CallFix p m c cc nL s args kws own) (hK : va_K D vwCl (tK cs) s) {i v : Int32} (hdg : decode cc pc = .ok (.castore, 1)) (hi : ¬ (i < 0 ∨ 200 ≤ i.toNatClampNeg)) (hw : k_H D (wK cs ad) (k_A 41 ad) σ H0 H locs) (kk : ∀ (H1 : Heap) (locs1 : List Loc), k_H D (wK cs ad) (k_A 41 ad) (p_a σ 8 i.toNatClampNeg (vp_nar .char v)) H0 H1 locs1 → W p l e R s m args below meth c H1 locs1 cells slots Q (F0 m (pc + 1) ls rest)) : W p l e R s m args below meth c H locs cells slots Q (F0 m pc ls (.int v :: .int i :: .ref (ad 18) :: rest)) := by
  exact va_cast hcf.1 hcf.2.1 hK hw.1 (wK_D hw.2.1) hw.2.2 18 1 rfl rfl hi hdg (fun H1 locs1 hP hD hS => kk H1 locs1 ⟨hP, hD.weaken (fun _ _ _ _ => trivial), hS⟩)
theorem kald_A9 (hcf : CallFix p m c cc nL s args kws own) (hK : va_K D vwCl (tK cs) s) {i x : Int32} (hdg : decode cc pc = .ok (.iaload, 1)) (hi : ¬ (i < 0 ∨ 5 ≤ i.toNatClampNeg)) (hw : k_H D (wK cs ad) A σ H0 H locs) (hv : σ.2.1 9 i.toNatClampNeg = x) (kk : W p l e R s m args below meth c H locs cells slots Q (F0 m (pc + 1) ls (.int x :: rest))) : W p l e R s m args below meth c H locs cells slots Q (F0 m pc ls (.int i :: .ref (ad 19) :: rest)) := by
  subst hv
  exact va_iald hcf.1 hcf.2.1 hK hw.1 19 0 rfl rfl hi hdg kk
theorem kast_A9 (hcf : CallFix p m c cc nL s args kws own) (hK : va_K D vwCl (tK cs) s) {i v : Int32} (hdg : decode cc pc = .ok (.iastore, 1)) (hi : ¬ (i < 0 ∨ 5 ≤ i.toNatClampNeg)) (hw : k_H D (wK cs ad) (k_A 41 ad) σ H0 H locs) (kk : ∀ (H1 : Heap) (locs1 : List Loc), k_H D (wK cs ad) (k_A 41 ad) (p_a σ 9 i.toNatClampNeg v) H0 H1 locs1 → W p l e R s m args below meth c H1 locs1 cells slots Q (F0 m (pc + 1) ls rest)) : W p l e R s m args below meth c H locs cells slots Q (F0 m pc ls (.int v :: .int i :: .ref (ad 19) :: rest)) := by
  exact va_iast hcf.1 hcf.2.1 hK hw.1 (wK_D hw.2.1) hw.2.2 19 0 rfl rfl hi hdg (fun H1 locs1 hP hD hS => kk H1 locs1 ⟨hP, hD.weaken (fun _ _ _ _ => trivial), hS⟩)
theorem kald_A10 (hcf : CallFix p m c cc nL s args kws own) (hK : va_K D vwCl (tK cs) s) {i x : Int32} (hdg : decode cc pc = .ok (.iaload, 1)) (hi : ¬ (i < 0 ∨ 5 ≤ i.toNatClampNeg)) (hw : k_H D (wK cs ad) A σ H0 H locs) (hv : σ.2.1 10 i.toNatClampNeg = x) (kk : W p l e R s m args below meth c H locs cells slots Q (F0 m (pc + 1) ls (.int x :: rest))) : W p l e R s m args below meth c H locs cells slots Q (F0 m pc ls (.int i :: .ref (ad 20) :: rest)) := by
  subst hv
  exact va_iald hcf.1 hcf.2.1 hK hw.1 20 0 rfl rfl hi hdg kk
theorem kast_A10 (hcf : CallFix p m c cc nL s args kws own) (hK : va_K D vwCl (tK cs) s) {i v : Int32} (hdg : decode cc pc = .ok (.iastore, 1)) (hi : ¬ (i < 0 ∨ 5 ≤ i.toNatClampNeg)) (hw : k_H D (wK cs ad) (k_A 41 ad) σ H0 H locs) (kk : ∀ (H1 : Heap) (locs1 : List Loc), k_H D (wK cs ad) (k_A 41 ad) (p_a σ 10 i.toNatClampNeg v) H0 H1 locs1 → W p l e R s m args below meth c H1 locs1 cells slots Q (F0 m (pc + 1) ls rest)) : W p l e R s m args below meth c H locs cells slots Q (F0 m pc ls (.int v :: .int i :: .ref (ad 20) :: rest)) := by
  exact va_iast hcf.1 hcf.2.1 hK hw.1 (wK_D hw.2.1) hw.2.2 20 0 rfl rfl hi hdg (fun H1 locs1 hP hD hS => kk H1 locs1 ⟨hP, hD.weaken (fun _ _ _ _ => trivial), hS⟩)
theorem kald_A11 (hcf : CallFix p m c cc nL s args kws own) (hK : va_K D vwCl (tK cs) s) {i x : Int32} (hdg : decode cc pc = .ok (.iaload, 1)) (hi : ¬ (i < 0 ∨ 5 ≤ i.toNatClampNeg)) (hw : k_H D (wK cs ad) A σ H0 H locs) (hv : σ.2.1 11 i.toNatClampNeg = x) (kk : W p l e R s m args below meth c H locs cells slots Q (F0 m (pc + 1) ls (.int x :: rest))) : W p l e R s m args below meth c H locs cells slots Q (F0 m pc ls (.int i :: .ref (ad 21) :: rest)) := by
  subst hv
  exact va_iald hcf.1 hcf.2.1 hK hw.1 21 0 rfl rfl hi hdg kk
theorem kast_A11 (hcf : CallFix p m c cc nL s args kws own) (hK : va_K D vwCl (tK cs) s) {i v : Int32} (hdg : decode cc pc = .ok (.iastore, 1)) (hi : ¬ (i < 0 ∨ 5 ≤ i.toNatClampNeg)) (hw : k_H D (wK cs ad) (k_A 41 ad) σ H0 H locs) (kk : ∀ (H1 : Heap) (locs1 : List Loc), k_H D (wK cs ad) (k_A 41 ad) (p_a σ 11 i.toNatClampNeg v) H0 H1 locs1 → W p l e R s m args below meth c H1 locs1 cells slots Q (F0 m (pc + 1) ls rest)) : W p l e R s m args below meth c H locs cells slots Q (F0 m pc ls (.int v :: .int i :: .ref (ad 21) :: rest)) := by
  exact va_iast hcf.1 hcf.2.1 hK hw.1 (wK_D hw.2.1) hw.2.2 21 0 rfl rfl hi hdg (fun H1 locs1 hP hD hS => kk H1 locs1 ⟨hP, hD.weaken (fun _ _ _ _ => trivial), hS⟩)
theorem kald_A12 (hcf : CallFix p m c cc nL s args kws own) (hK : va_K D vwCl (tK cs) s) {i x : Int32} (hdg : decode cc pc = .ok (.iaload, 1)) (hi : ¬ (i < 0 ∨ 5 ≤ i.toNatClampNeg)) (hw : k_H D (wK cs ad) A σ H0 H locs) (hv : σ.2.1 12 i.toNatClampNeg = x) (kk : W p l e R s m args below meth c H locs cells slots Q (F0 m (pc + 1) ls (.int x :: rest))) : W p l e R s m args below meth c H locs cells slots Q (F0 m pc ls (.int i :: .ref (ad 22) :: rest)) := by
  subst hv
  exact va_iald hcf.1 hcf.2.1 hK hw.1 22 0 rfl rfl hi hdg kk
theorem kast_A12 (hcf : CallFix p m c cc nL s args kws own) (hK : va_K D vwCl (tK cs) s) {i v : Int32} (hdg : decode cc pc = .ok (.iastore, 1)) (hi : ¬ (i < 0 ∨ 5 ≤ i.toNatClampNeg)) (hw : k_H D (wK cs ad) (k_A 41 ad) σ H0 H locs) (kk : ∀ (H1 : Heap) (locs1 : List Loc), k_H D (wK cs ad) (k_A 41 ad) (p_a σ 12 i.toNatClampNeg v) H0 H1 locs1 → W p l e R s m args below meth c H1 locs1 cells slots Q (F0 m (pc + 1) ls rest)) : W p l e R s m args below meth c H locs cells slots Q (F0 m pc ls (.int v :: .int i :: .ref (ad 22) :: rest)) := by
  exact va_iast hcf.1 hcf.2.1 hK hw.1 (wK_D hw.2.1) hw.2.2 22 0 rfl rfl hi hdg (fun H1 locs1 hP hD hS => kk H1 locs1 ⟨hP, hD.weaken (fun _ _ _ _ => trivial), hS⟩)
theorem kald_A13 (hcf : CallFix p m c cc nL s args kws own) (hK : va_K D vwCl (tK cs) s) {i x : Int32} (hdg : decode cc pc = .ok (.iaload, 1)) (hi : ¬ (i < 0 ∨ 5 ≤ i.toNatClampNeg)) (hw : k_H D (wK cs ad) A σ H0 H locs) (hv : σ.2.1 13 i.toNatClampNeg = x) (kk : W p l e R s m args below meth c H locs cells slots Q (F0 m (pc + 1) ls (.int x :: rest))) : W p l e R s m args below meth c H locs cells slots Q (F0 m pc ls (.int i :: .ref (ad 23) :: rest)) := by
  subst hv
  exact va_iald hcf.1 hcf.2.1 hK hw.1 23 0 rfl rfl hi hdg kk
theorem kast_A13 (hcf : CallFix p m c cc nL s args kws own) (hK : va_K D vwCl (tK cs) s) {i v : Int32} (hdg : decode cc pc = .ok (.iastore, 1)) (hi : ¬ (i < 0 ∨ 5 ≤ i.toNatClampNeg)) (hw : k_H D (wK cs ad) (k_A 41 ad) σ H0 H locs) (kk : ∀ (H1 : Heap) (locs1 : List Loc), k_H D (wK cs ad) (k_A 41 ad) (p_a σ 13 i.toNatClampNeg v) H0 H1 locs1 → W p l e R s m args below meth c H1 locs1 cells slots Q (F0 m (pc + 1) ls rest)) : W p l e R s m args below meth c H locs cells slots Q (F0 m pc ls (.int v :: .int i :: .ref (ad 23) :: rest)) := by
  exact va_iast hcf.1 hcf.2.1 hK hw.1 (wK_D hw.2.1) hw.2.2 23 0 rfl rfl hi hdg (fun H1 locs1 hP hD hS => kk H1 locs1 ⟨hP, hD.weaken (fun _ _ _ _ => trivial), hS⟩)
theorem kald_A14 (hcf : CallFix p m c cc nL s args kws own) (hK : va_K D vwCl (tK cs) s) {i x : Int32} (hdg : decode cc pc = .ok (.iaload, 1)) (hi : ¬ (i < 0 ∨ 5 ≤ i.toNatClampNeg)) (hw : k_H D (wK cs ad) A σ H0 H locs) (hv : σ.2.1 14 i.toNatClampNeg = x) (kk : W p l e R s m args below meth c H locs cells slots Q (F0 m (pc + 1) ls (.int x :: rest))) : W p l e R s m args below meth c H locs cells slots Q (F0 m pc ls (.int i :: .ref (ad 24) :: rest)) := by
  subst hv
  exact va_iald hcf.1 hcf.2.1 hK hw.1 24 0 rfl rfl hi hdg kk
theorem kast_A14 (hcf : CallFix p m c cc nL s args kws own) (hK : va_K D vwCl (tK cs) s) {i v : Int32} (hdg : decode cc pc = .ok (.iastore, 1)) (hi : ¬ (i < 0 ∨ 5 ≤ i.toNatClampNeg)) (hw : k_H D (wK cs ad) (k_A 41 ad) σ H0 H locs) (kk : ∀ (H1 : Heap) (locs1 : List Loc), k_H D (wK cs ad) (k_A 41 ad) (p_a σ 14 i.toNatClampNeg v) H0 H1 locs1 → W p l e R s m args below meth c H1 locs1 cells slots Q (F0 m (pc + 1) ls rest)) : W p l e R s m args below meth c H locs cells slots Q (F0 m pc ls (.int v :: .int i :: .ref (ad 24) :: rest)) := by
  exact va_iast hcf.1 hcf.2.1 hK hw.1 (wK_D hw.2.1) hw.2.2 24 0 rfl rfl hi hdg (fun H1 locs1 hP hD hS => kk H1 locs1 ⟨hP, hD.weaken (fun _ _ _ _ => trivial), hS⟩)
theorem kald_B0 (hcf : CallFix p m c cc nL s args kws own) (hK : va_K D vwCl (tK cs) s) {i : Int32} {x : Int64} (hdg : decode cc pc = .ok (.laload, 1)) (hi : ¬ (i < 0 ∨ 5 ≤ i.toNatClampNeg)) (hw : k_H D (wK cs ad) A σ H0 H locs) (hv : σ.2.2.2 0 i.toNatClampNeg = x) (kk : W p l e R s m args below meth c H locs cells slots Q (F0 m (pc + 1) ls (.long x :: rest))) : W p l e R s m args below meth c H locs cells slots Q (F0 m pc ls (.int i :: .ref (ad 25) :: rest)) := by
  subst hv
  exact va_lald hcf.1 hcf.2.1 hK hw.1 25 3 rfl rfl hi hdg kk
theorem kast_B0 (hcf : CallFix p m c cc nL s args kws own) (hK : va_K D vwCl (tK cs) s) {i : Int32} {v : Int64} (hdg : decode cc pc = .ok (.lastore, 1)) (hi : ¬ (i < 0 ∨ 5 ≤ i.toNatClampNeg)) (hw : k_H D (wK cs ad) (k_A 41 ad) σ H0 H locs) (kk : ∀ (H1 : Heap) (locs1 : List Loc), k_H D (wK cs ad) (k_A 41 ad) (p_b σ 0 i.toNatClampNeg v) H0 H1 locs1 → W p l e R s m args below meth c H1 locs1 cells slots Q (F0 m (pc + 1) ls rest)) : W p l e R s m args below meth c H locs cells slots Q (F0 m pc ls (.long v :: .int i :: .ref (ad 25) :: rest)) := by
  exact va_last hcf.1 hcf.2.1 hK hw.1 (wK_D hw.2.1) hw.2.2 25 3 rfl rfl hi hdg (fun H1 locs1 hP hD hS => kk H1 locs1 ⟨hP, hD.weaken (fun _ _ _ _ => trivial), hS⟩)
theorem kald_B1 (hcf : CallFix p m c cc nL s args kws own) (hK : va_K D vwCl (tK cs) s) {i : Int32} {x : Int64} (hdg : decode cc pc = .ok (.laload, 1)) (hi : ¬ (i < 0 ∨ 5 ≤ i.toNatClampNeg)) (hw : k_H D (wK cs ad) A σ H0 H locs) (hv : σ.2.2.2 1 i.toNatClampNeg = x) (kk : W p l e R s m args below meth c H locs cells slots Q (F0 m (pc + 1) ls (.long x :: rest))) : W p l e R s m args below meth c H locs cells slots Q (F0 m pc ls (.int i :: .ref (ad 26) :: rest)) := by
  subst hv
  exact va_lald hcf.1 hcf.2.1 hK hw.1 26 3 rfl rfl hi hdg kk
theorem kast_B1 (hcf : CallFix p m c cc nL s args kws own) (hK : va_K D vwCl (tK cs) s) {i : Int32} {v : Int64} (hdg : decode cc pc = .ok (.lastore, 1)) (hi : ¬ (i < 0 ∨ 5 ≤ i.toNatClampNeg)) (hw : k_H D (wK cs ad) (k_A 41 ad) σ H0 H locs) (kk : ∀ (H1 : Heap) (locs1 : List Loc), k_H D (wK cs ad) (k_A 41 ad) (p_b σ 1 i.toNatClampNeg v) H0 H1 locs1 → W p l e R s m args below meth c H1 locs1 cells slots Q (F0 m (pc + 1) ls rest)) : W p l e R s m args below meth c H locs cells slots Q (F0 m pc ls (.long v :: .int i :: .ref (ad 26) :: rest)) := by
  exact va_last hcf.1 hcf.2.1 hK hw.1 (wK_D hw.2.1) hw.2.2 26 3 rfl rfl hi hdg (fun H1 locs1 hP hD hS => kk H1 locs1 ⟨hP, hD.weaken (fun _ _ _ _ => trivial), hS⟩)
theorem kald_B2 (hcf : CallFix p m c cc nL s args kws own) (hK : va_K D vwCl (tK cs) s) {i : Int32} {x : Int64} (hdg : decode cc pc = .ok (.laload, 1)) (hi : ¬ (i < 0 ∨ 5 ≤ i.toNatClampNeg)) (hw : k_H D (wK cs ad) A σ H0 H locs) (hv : σ.2.2.2 2 i.toNatClampNeg = x) (kk : W p l e R s m args below meth c H locs cells slots Q (F0 m (pc + 1) ls (.long x :: rest))) : W p l e R s m args below meth c H locs cells slots Q (F0 m pc ls (.int i :: .ref (ad 27) :: rest)) := by
  subst hv
  exact va_lald hcf.1 hcf.2.1 hK hw.1 27 3 rfl rfl hi hdg kk
theorem kast_B2 (hcf : CallFix p m c cc nL s args kws own) (hK : va_K D vwCl (tK cs) s) {i : Int32} {v : Int64} (hdg : decode cc pc = .ok (.lastore, 1)) (hi : ¬ (i < 0 ∨ 5 ≤ i.toNatClampNeg)) (hw : k_H D (wK cs ad) (k_A 41 ad) σ H0 H locs) (kk : ∀ (H1 : Heap) (locs1 : List Loc), k_H D (wK cs ad) (k_A 41 ad) (p_b σ 2 i.toNatClampNeg v) H0 H1 locs1 → W p l e R s m args below meth c H1 locs1 cells slots Q (F0 m (pc + 1) ls rest)) : W p l e R s m args below meth c H locs cells slots Q (F0 m pc ls (.long v :: .int i :: .ref (ad 27) :: rest)) := by
  exact va_last hcf.1 hcf.2.1 hK hw.1 (wK_D hw.2.1) hw.2.2 27 3 rfl rfl hi hdg (fun H1 locs1 hP hD hS => kk H1 locs1 ⟨hP, hD.weaken (fun _ _ _ _ => trivial), hS⟩)
theorem kald_B3 (hcf : CallFix p m c cc nL s args kws own) (hK : va_K D vwCl (tK cs) s) {i : Int32} {x : Int64} (hdg : decode cc pc = .ok (.laload, 1)) (hi : ¬ (i < 0 ∨ 5 ≤ i.toNatClampNeg)) (hw : k_H D (wK cs ad) A σ H0 H locs) (hv : σ.2.2.2 3 i.toNatClampNeg = x) (kk : W p l e R s m args below meth c H locs cells slots Q (F0 m (pc + 1) ls (.long x :: rest))) : W p l e R s m args below meth c H locs cells slots Q (F0 m pc ls (.int i :: .ref (ad 28) :: rest)) := by
  subst hv
  exact va_lald hcf.1 hcf.2.1 hK hw.1 28 3 rfl rfl hi hdg kk
theorem kast_B3 (hcf : CallFix p m c cc nL s args kws own) (hK : va_K D vwCl (tK cs) s) {i : Int32} {v : Int64} (hdg : decode cc pc = .ok (.lastore, 1)) (hi : ¬ (i < 0 ∨ 5 ≤ i.toNatClampNeg)) (hw : k_H D (wK cs ad) (k_A 41 ad) σ H0 H locs) (kk : ∀ (H1 : Heap) (locs1 : List Loc), k_H D (wK cs ad) (k_A 41 ad) (p_b σ 3 i.toNatClampNeg v) H0 H1 locs1 → W p l e R s m args below meth c H1 locs1 cells slots Q (F0 m (pc + 1) ls rest)) : W p l e R s m args below meth c H locs cells slots Q (F0 m pc ls (.long v :: .int i :: .ref (ad 28) :: rest)) := by
  exact va_last hcf.1 hcf.2.1 hK hw.1 (wK_D hw.2.1) hw.2.2 28 3 rfl rfl hi hdg (fun H1 locs1 hP hD hS => kk H1 locs1 ⟨hP, hD.weaken (fun _ _ _ _ => trivial), hS⟩)
theorem kald_B4 (hcf : CallFix p m c cc nL s args kws own) (hK : va_K D vwCl (tK cs) s) {i : Int32} {x : Int64} (hdg : decode cc pc = .ok (.laload, 1)) (hi : ¬ (i < 0 ∨ 5 ≤ i.toNatClampNeg)) (hw : k_H D (wK cs ad) A σ H0 H locs) (hv : σ.2.2.2 4 i.toNatClampNeg = x) (kk : W p l e R s m args below meth c H locs cells slots Q (F0 m (pc + 1) ls (.long x :: rest))) : W p l e R s m args below meth c H locs cells slots Q (F0 m pc ls (.int i :: .ref (ad 29) :: rest)) := by
  subst hv
  exact va_lald hcf.1 hcf.2.1 hK hw.1 29 3 rfl rfl hi hdg kk
theorem kast_B4 (hcf : CallFix p m c cc nL s args kws own) (hK : va_K D vwCl (tK cs) s) {i : Int32} {v : Int64} (hdg : decode cc pc = .ok (.lastore, 1)) (hi : ¬ (i < 0 ∨ 5 ≤ i.toNatClampNeg)) (hw : k_H D (wK cs ad) (k_A 41 ad) σ H0 H locs) (kk : ∀ (H1 : Heap) (locs1 : List Loc), k_H D (wK cs ad) (k_A 41 ad) (p_b σ 4 i.toNatClampNeg v) H0 H1 locs1 → W p l e R s m args below meth c H1 locs1 cells slots Q (F0 m (pc + 1) ls rest)) : W p l e R s m args below meth c H locs cells slots Q (F0 m pc ls (.long v :: .int i :: .ref (ad 29) :: rest)) := by
  exact va_last hcf.1 hcf.2.1 hK hw.1 (wK_D hw.2.1) hw.2.2 29 3 rfl rfl hi hdg (fun H1 locs1 hP hD hS => kk H1 locs1 ⟨hP, hD.weaken (fun _ _ _ _ => trivial), hS⟩)
theorem kald_B5 (hcf : CallFix p m c cc nL s args kws own) (hK : va_K D vwCl (tK cs) s) {i : Int32} {x : Int64} (hdg : decode cc pc = .ok (.laload, 1)) (hi : ¬ (i < 0 ∨ 6 ≤ i.toNatClampNeg)) (hw : k_H D (wK cs ad) A σ H0 H locs) (hv : σ.2.2.2 5 i.toNatClampNeg = x) (kk : W p l e R s m args below meth c H locs cells slots Q (F0 m (pc + 1) ls (.long x :: rest))) : W p l e R s m args below meth c H locs cells slots Q (F0 m pc ls (.int i :: .ref (ad 30) :: rest)) := by
  subst hv
  exact va_lald hcf.1 hcf.2.1 hK hw.1 30 3 rfl rfl hi hdg kk
theorem kast_B5 (hcf : CallFix p m c cc nL s args kws own) (hK : va_K D vwCl (tK cs) s) {i : Int32} {v : Int64} (hdg : decode cc pc = .ok (.lastore, 1)) (hi : ¬ (i < 0 ∨ 6 ≤ i.toNatClampNeg)) (hw : k_H D (wK cs ad) (k_A 41 ad) σ H0 H locs) (kk : ∀ (H1 : Heap) (locs1 : List Loc), k_H D (wK cs ad) (k_A 41 ad) (p_b σ 5 i.toNatClampNeg v) H0 H1 locs1 → W p l e R s m args below meth c H1 locs1 cells slots Q (F0 m (pc + 1) ls rest)) : W p l e R s m args below meth c H locs cells slots Q (F0 m pc ls (.long v :: .int i :: .ref (ad 30) :: rest)) := by
  exact va_last hcf.1 hcf.2.1 hK hw.1 (wK_D hw.2.1) hw.2.2 30 3 rfl rfl hi hdg (fun H1 locs1 hP hD hS => kk H1 locs1 ⟨hP, hD.weaken (fun _ _ _ _ => trivial), hS⟩)
theorem kald_B6 (hcf : CallFix p m c cc nL s args kws own) (hK : va_K D vwCl (tK cs) s) {i : Int32} {x : Int64} (hdg : decode cc pc = .ok (.laload, 1)) (hi : ¬ (i < 0 ∨ 6 ≤ i.toNatClampNeg)) (hw : k_H D (wK cs ad) A σ H0 H locs) (hv : σ.2.2.2 6 i.toNatClampNeg = x) (kk : W p l e R s m args below meth c H locs cells slots Q (F0 m (pc + 1) ls (.long x :: rest))) : W p l e R s m args below meth c H locs cells slots Q (F0 m pc ls (.int i :: .ref (ad 31) :: rest)) := by
  subst hv
  exact va_lald hcf.1 hcf.2.1 hK hw.1 31 3 rfl rfl hi hdg kk
theorem kast_B6 (hcf : CallFix p m c cc nL s args kws own) (hK : va_K D vwCl (tK cs) s) {i : Int32} {v : Int64} (hdg : decode cc pc = .ok (.lastore, 1)) (hi : ¬ (i < 0 ∨ 6 ≤ i.toNatClampNeg)) (hw : k_H D (wK cs ad) (k_A 41 ad) σ H0 H locs) (kk : ∀ (H1 : Heap) (locs1 : List Loc), k_H D (wK cs ad) (k_A 41 ad) (p_b σ 6 i.toNatClampNeg v) H0 H1 locs1 → W p l e R s m args below meth c H1 locs1 cells slots Q (F0 m (pc + 1) ls rest)) : W p l e R s m args below meth c H locs cells slots Q (F0 m pc ls (.long v :: .int i :: .ref (ad 31) :: rest)) := by
  exact va_last hcf.1 hcf.2.1 hK hw.1 (wK_D hw.2.1) hw.2.2 31 3 rfl rfl hi hdg (fun H1 locs1 hP hD hS => kk H1 locs1 ⟨hP, hD.weaken (fun _ _ _ _ => trivial), hS⟩)
theorem kald_B7 (hcf : CallFix p m c cc nL s args kws own) (hK : va_K D vwCl (tK cs) s) {i : Int32} {x : Int64} (hdg : decode cc pc = .ok (.laload, 1)) (hi : ¬ (i < 0 ∨ 6 ≤ i.toNatClampNeg)) (hw : k_H D (wK cs ad) A σ H0 H locs) (hv : σ.2.2.2 7 i.toNatClampNeg = x) (kk : W p l e R s m args below meth c H locs cells slots Q (F0 m (pc + 1) ls (.long x :: rest))) : W p l e R s m args below meth c H locs cells slots Q (F0 m pc ls (.int i :: .ref (ad 32) :: rest)) := by
  subst hv
  exact va_lald hcf.1 hcf.2.1 hK hw.1 32 3 rfl rfl hi hdg kk
theorem kast_B7 (hcf : CallFix p m c cc nL s args kws own) (hK : va_K D vwCl (tK cs) s) {i : Int32} {v : Int64} (hdg : decode cc pc = .ok (.lastore, 1)) (hi : ¬ (i < 0 ∨ 6 ≤ i.toNatClampNeg)) (hw : k_H D (wK cs ad) (k_A 41 ad) σ H0 H locs) (kk : ∀ (H1 : Heap) (locs1 : List Loc), k_H D (wK cs ad) (k_A 41 ad) (p_b σ 7 i.toNatClampNeg v) H0 H1 locs1 → W p l e R s m args below meth c H1 locs1 cells slots Q (F0 m (pc + 1) ls rest)) : W p l e R s m args below meth c H locs cells slots Q (F0 m pc ls (.long v :: .int i :: .ref (ad 32) :: rest)) := by
  exact va_last hcf.1 hcf.2.1 hK hw.1 (wK_D hw.2.1) hw.2.2 32 3 rfl rfl hi hdg (fun H1 locs1 hP hD hS => kk H1 locs1 ⟨hP, hD.weaken (fun _ _ _ _ => trivial), hS⟩)
theorem kald_B8 (hcf : CallFix p m c cc nL s args kws own) (hK : va_K D vwCl (tK cs) s) {i : Int32} {x : Int64} (hdg : decode cc pc = .ok (.laload, 1)) (hi : ¬ (i < 0 ∨ 6 ≤ i.toNatClampNeg)) (hw : k_H D (wK cs ad) A σ H0 H locs) (hv : σ.2.2.2 8 i.toNatClampNeg = x) (kk : W p l e R s m args below meth c H locs cells slots Q (F0 m (pc + 1) ls (.long x :: rest))) : W p l e R s m args below meth c H locs cells slots Q (F0 m pc ls (.int i :: .ref (ad 33) :: rest)) := by
  subst hv
  exact va_lald hcf.1 hcf.2.1 hK hw.1 33 3 rfl rfl hi hdg kk
theorem kast_B8 (hcf : CallFix p m c cc nL s args kws own) (hK : va_K D vwCl (tK cs) s) {i : Int32} {v : Int64} (hdg : decode cc pc = .ok (.lastore, 1)) (hi : ¬ (i < 0 ∨ 6 ≤ i.toNatClampNeg)) (hw : k_H D (wK cs ad) (k_A 41 ad) σ H0 H locs) (kk : ∀ (H1 : Heap) (locs1 : List Loc), k_H D (wK cs ad) (k_A 41 ad) (p_b σ 8 i.toNatClampNeg v) H0 H1 locs1 → W p l e R s m args below meth c H1 locs1 cells slots Q (F0 m (pc + 1) ls rest)) : W p l e R s m args below meth c H locs cells slots Q (F0 m pc ls (.long v :: .int i :: .ref (ad 33) :: rest)) := by
  exact va_last hcf.1 hcf.2.1 hK hw.1 (wK_D hw.2.1) hw.2.2 33 3 rfl rfl hi hdg (fun H1 locs1 hP hD hS => kk H1 locs1 ⟨hP, hD.weaken (fun _ _ _ _ => trivial), hS⟩)
theorem kald_B9 (hcf : CallFix p m c cc nL s args kws own) (hK : va_K D vwCl (tK cs) s) {i : Int32} {x : Int64} (hdg : decode cc pc = .ok (.laload, 1)) (hi : ¬ (i < 0 ∨ 6 ≤ i.toNatClampNeg)) (hw : k_H D (wK cs ad) A σ H0 H locs) (hv : σ.2.2.2 9 i.toNatClampNeg = x) (kk : W p l e R s m args below meth c H locs cells slots Q (F0 m (pc + 1) ls (.long x :: rest))) : W p l e R s m args below meth c H locs cells slots Q (F0 m pc ls (.int i :: .ref (ad 34) :: rest)) := by
  subst hv
  exact va_lald hcf.1 hcf.2.1 hK hw.1 34 3 rfl rfl hi hdg kk
theorem kast_B9 (hcf : CallFix p m c cc nL s args kws own) (hK : va_K D vwCl (tK cs) s) {i : Int32} {v : Int64} (hdg : decode cc pc = .ok (.lastore, 1)) (hi : ¬ (i < 0 ∨ 6 ≤ i.toNatClampNeg)) (hw : k_H D (wK cs ad) (k_A 41 ad) σ H0 H locs) (kk : ∀ (H1 : Heap) (locs1 : List Loc), k_H D (wK cs ad) (k_A 41 ad) (p_b σ 9 i.toNatClampNeg v) H0 H1 locs1 → W p l e R s m args below meth c H1 locs1 cells slots Q (F0 m (pc + 1) ls rest)) : W p l e R s m args below meth c H locs cells slots Q (F0 m pc ls (.long v :: .int i :: .ref (ad 34) :: rest)) := by
  exact va_last hcf.1 hcf.2.1 hK hw.1 (wK_D hw.2.1) hw.2.2 34 3 rfl rfl hi hdg (fun H1 locs1 hP hD hS => kk H1 locs1 ⟨hP, hD.weaken (fun _ _ _ _ => trivial), hS⟩)
theorem kald_B10 (hcf : CallFix p m c cc nL s args kws own) (hK : va_K D vwCl (tK cs) s) {i : Int32} {x : Int64} (hdg : decode cc pc = .ok (.laload, 1)) (hi : ¬ (i < 0 ∨ 6 ≤ i.toNatClampNeg)) (hw : k_H D (wK cs ad) A σ H0 H locs) (hv : σ.2.2.2 10 i.toNatClampNeg = x) (kk : W p l e R s m args below meth c H locs cells slots Q (F0 m (pc + 1) ls (.long x :: rest))) : W p l e R s m args below meth c H locs cells slots Q (F0 m pc ls (.int i :: .ref (ad 35) :: rest)) := by
  subst hv
  exact va_lald hcf.1 hcf.2.1 hK hw.1 35 3 rfl rfl hi hdg kk
theorem kast_B10 (hcf : CallFix p m c cc nL s args kws own) (hK : va_K D vwCl (tK cs) s) {i : Int32} {v : Int64} (hdg : decode cc pc = .ok (.lastore, 1)) (hi : ¬ (i < 0 ∨ 6 ≤ i.toNatClampNeg)) (hw : k_H D (wK cs ad) (k_A 41 ad) σ H0 H locs) (kk : ∀ (H1 : Heap) (locs1 : List Loc), k_H D (wK cs ad) (k_A 41 ad) (p_b σ 10 i.toNatClampNeg v) H0 H1 locs1 → W p l e R s m args below meth c H1 locs1 cells slots Q (F0 m (pc + 1) ls rest)) : W p l e R s m args below meth c H locs cells slots Q (F0 m pc ls (.long v :: .int i :: .ref (ad 35) :: rest)) := by
  exact va_last hcf.1 hcf.2.1 hK hw.1 (wK_D hw.2.1) hw.2.2 35 3 rfl rfl hi hdg (fun H1 locs1 hP hD hS => kk H1 locs1 ⟨hP, hD.weaken (fun _ _ _ _ => trivial), hS⟩)
theorem kald_B11 (hcf : CallFix p m c cc nL s args kws own) (hK : va_K D vwCl (tK cs) s) {i : Int32} {x : Int64} (hdg : decode cc pc = .ok (.laload, 1)) (hi : ¬ (i < 0 ∨ 6 ≤ i.toNatClampNeg)) (hw : k_H D (wK cs ad) A σ H0 H locs) (hv : σ.2.2.2 11 i.toNatClampNeg = x) (kk : W p l e R s m args below meth c H locs cells slots Q (F0 m (pc + 1) ls (.long x :: rest))) : W p l e R s m args below meth c H locs cells slots Q (F0 m pc ls (.int i :: .ref (ad 36) :: rest)) := by
  subst hv
  exact va_lald hcf.1 hcf.2.1 hK hw.1 36 3 rfl rfl hi hdg kk
theorem kast_B11 (hcf : CallFix p m c cc nL s args kws own) (hK : va_K D vwCl (tK cs) s) {i : Int32} {v : Int64} (hdg : decode cc pc = .ok (.lastore, 1)) (hi : ¬ (i < 0 ∨ 6 ≤ i.toNatClampNeg)) (hw : k_H D (wK cs ad) (k_A 41 ad) σ H0 H locs) (kk : ∀ (H1 : Heap) (locs1 : List Loc), k_H D (wK cs ad) (k_A 41 ad) (p_b σ 11 i.toNatClampNeg v) H0 H1 locs1 → W p l e R s m args below meth c H1 locs1 cells slots Q (F0 m (pc + 1) ls rest)) : W p l e R s m args below meth c H locs cells slots Q (F0 m pc ls (.long v :: .int i :: .ref (ad 36) :: rest)) := by
  exact va_last hcf.1 hcf.2.1 hK hw.1 (wK_D hw.2.1) hw.2.2 36 3 rfl rfl hi hdg (fun H1 locs1 hP hD hS => kk H1 locs1 ⟨hP, hD.weaken (fun _ _ _ _ => trivial), hS⟩)
theorem kald_B12 (hcf : CallFix p m c cc nL s args kws own) (hK : va_K D vwCl (tK cs) s) {i : Int32} {x : Int64} (hdg : decode cc pc = .ok (.laload, 1)) (hi : ¬ (i < 0 ∨ 6 ≤ i.toNatClampNeg)) (hw : k_H D (wK cs ad) A σ H0 H locs) (hv : σ.2.2.2 12 i.toNatClampNeg = x) (kk : W p l e R s m args below meth c H locs cells slots Q (F0 m (pc + 1) ls (.long x :: rest))) : W p l e R s m args below meth c H locs cells slots Q (F0 m pc ls (.int i :: .ref (ad 37) :: rest)) := by
  subst hv
  exact va_lald hcf.1 hcf.2.1 hK hw.1 37 3 rfl rfl hi hdg kk
theorem kast_B12 (hcf : CallFix p m c cc nL s args kws own) (hK : va_K D vwCl (tK cs) s) {i : Int32} {v : Int64} (hdg : decode cc pc = .ok (.lastore, 1)) (hi : ¬ (i < 0 ∨ 6 ≤ i.toNatClampNeg)) (hw : k_H D (wK cs ad) (k_A 41 ad) σ H0 H locs) (kk : ∀ (H1 : Heap) (locs1 : List Loc), k_H D (wK cs ad) (k_A 41 ad) (p_b σ 12 i.toNatClampNeg v) H0 H1 locs1 → W p l e R s m args below meth c H1 locs1 cells slots Q (F0 m (pc + 1) ls rest)) : W p l e R s m args below meth c H locs cells slots Q (F0 m pc ls (.long v :: .int i :: .ref (ad 37) :: rest)) := by
  exact va_last hcf.1 hcf.2.1 hK hw.1 (wK_D hw.2.1) hw.2.2 37 3 rfl rfl hi hdg (fun H1 locs1 hP hD hS => kk H1 locs1 ⟨hP, hD.weaken (fun _ _ _ _ => trivial), hS⟩)
theorem kald_B13 (hcf : CallFix p m c cc nL s args kws own) (hK : va_K D vwCl (tK cs) s) {i : Int32} {x : Int64} (hdg : decode cc pc = .ok (.laload, 1)) (hi : ¬ (i < 0 ∨ 6 ≤ i.toNatClampNeg)) (hw : k_H D (wK cs ad) A σ H0 H locs) (hv : σ.2.2.2 13 i.toNatClampNeg = x) (kk : W p l e R s m args below meth c H locs cells slots Q (F0 m (pc + 1) ls (.long x :: rest))) : W p l e R s m args below meth c H locs cells slots Q (F0 m pc ls (.int i :: .ref (ad 38) :: rest)) := by
  subst hv
  exact va_lald hcf.1 hcf.2.1 hK hw.1 38 3 rfl rfl hi hdg kk
theorem kast_B13 (hcf : CallFix p m c cc nL s args kws own) (hK : va_K D vwCl (tK cs) s) {i : Int32} {v : Int64} (hdg : decode cc pc = .ok (.lastore, 1)) (hi : ¬ (i < 0 ∨ 6 ≤ i.toNatClampNeg)) (hw : k_H D (wK cs ad) (k_A 41 ad) σ H0 H locs) (kk : ∀ (H1 : Heap) (locs1 : List Loc), k_H D (wK cs ad) (k_A 41 ad) (p_b σ 13 i.toNatClampNeg v) H0 H1 locs1 → W p l e R s m args below meth c H1 locs1 cells slots Q (F0 m (pc + 1) ls rest)) : W p l e R s m args below meth c H locs cells slots Q (F0 m pc ls (.long v :: .int i :: .ref (ad 38) :: rest)) := by
  exact va_last hcf.1 hcf.2.1 hK hw.1 (wK_D hw.2.1) hw.2.2 38 3 rfl rfl hi hdg (fun H1 locs1 hP hD hS => kk H1 locs1 ⟨hP, hD.weaken (fun _ _ _ _ => trivial), hS⟩)
theorem kald_B14 (hcf : CallFix p m c cc nL s args kws own) (hK : va_K D vwCl (tK cs) s) {i : Int32} {x : Int64} (hdg : decode cc pc = .ok (.laload, 1)) (hi : ¬ (i < 0 ∨ 6 ≤ i.toNatClampNeg)) (hw : k_H D (wK cs ad) A σ H0 H locs) (hv : σ.2.2.2 14 i.toNatClampNeg = x) (kk : W p l e R s m args below meth c H locs cells slots Q (F0 m (pc + 1) ls (.long x :: rest))) : W p l e R s m args below meth c H locs cells slots Q (F0 m pc ls (.int i :: .ref (ad 39) :: rest)) := by
  subst hv
  exact va_lald hcf.1 hcf.2.1 hK hw.1 39 3 rfl rfl hi hdg kk
theorem kast_B14 (hcf : CallFix p m c cc nL s args kws own) (hK : va_K D vwCl (tK cs) s) {i : Int32} {v : Int64} (hdg : decode cc pc = .ok (.lastore, 1)) (hi : ¬ (i < 0 ∨ 6 ≤ i.toNatClampNeg)) (hw : k_H D (wK cs ad) (k_A 41 ad) σ H0 H locs) (kk : ∀ (H1 : Heap) (locs1 : List Loc), k_H D (wK cs ad) (k_A 41 ad) (p_b σ 14 i.toNatClampNeg v) H0 H1 locs1 → W p l e R s m args below meth c H1 locs1 cells slots Q (F0 m (pc + 1) ls rest)) : W p l e R s m args below meth c H locs cells slots Q (F0 m pc ls (.long v :: .int i :: .ref (ad 39) :: rest)) := by
  exact va_last hcf.1 hcf.2.1 hK hw.1 (wK_D hw.2.1) hw.2.2 39 3 rfl rfl hi hdg (fun H1 locs1 hP hD hS => kk H1 locs1 ⟨hP, hD.weaken (fun _ _ _ _ => trivial), hS⟩)
theorem kald_B15 (hcf : CallFix p m c cc nL s args kws own) (hK : va_K D vwCl (tK cs) s) {i : Int32} {x : Int64} (hdg : decode cc pc = .ok (.laload, 1)) (hi : ¬ (i < 0 ∨ 6 ≤ i.toNatClampNeg)) (hw : k_H D (wK cs ad) A σ H0 H locs) (hv : σ.2.2.2 15 i.toNatClampNeg = x) (kk : W p l e R s m args below meth c H locs cells slots Q (F0 m (pc + 1) ls (.long x :: rest))) : W p l e R s m args below meth c H locs cells slots Q (F0 m pc ls (.int i :: .ref (ad 40) :: rest)) := by
  subst hv
  exact va_lald hcf.1 hcf.2.1 hK hw.1 40 3 rfl rfl hi hdg kk
theorem kast_B15 (hcf : CallFix p m c cc nL s args kws own) (hK : va_K D vwCl (tK cs) s) {i : Int32} {v : Int64} (hdg : decode cc pc = .ok (.lastore, 1)) (hi : ¬ (i < 0 ∨ 6 ≤ i.toNatClampNeg)) (hw : k_H D (wK cs ad) (k_A 41 ad) σ H0 H locs) (kk : ∀ (H1 : Heap) (locs1 : List Loc), k_H D (wK cs ad) (k_A 41 ad) (p_b σ 15 i.toNatClampNeg v) H0 H1 locs1 → W p l e R s m args below meth c H1 locs1 cells slots Q (F0 m (pc + 1) ls rest)) : W p l e R s m args below meth c H locs cells slots Q (F0 m pc ls (.long v :: .int i :: .ref (ad 40) :: rest)) := by
  exact va_last hcf.1 hcf.2.1 hK hw.1 (wK_D hw.2.1) hw.2.2 40 3 rfl rfl hi hdg (fun H1 locs1 hP hD hS => kk H1 locs1 ⟨hP, hD.weaken (fun _ _ _ _ => trivial), hS⟩)
theorem wK_B (b : Nat) (h : b < 16) : (wK cs ad σ)[25 + b]? = some (ad (25 + b), .inl (cs 3, k_len b, .inr (.inl (σ.2.2.2 b)))) := by
  match b, h with
  | 0, _ => rfl
  | 1, _ => rfl
  | 2, _ => rfl
  | 3, _ => rfl
  | 4, _ => rfl
  | 5, _ => rfl
  | 6, _ => rfl
  | 7, _ => rfl
  | 8, _ => rfl
  | 9, _ => rfl
  | 10, _ => rfl
  | 11, _ => rfl
  | 12, _ => rfl
  | 13, _ => rfl
  | 14, _ => rfl
  | 15, _ => rfl
  | n + 16, h => exact absurd h (by omega)
theorem wK_setB (b i : Nat) (v : Int64) (h : b < 16) : (wK cs ad σ).set (25 + b) (ad (25 + b), .inl (cs 3, k_len b, .inr (.inl (vp_updL (σ.2.2.2 b) i v)))) = wK cs ad (p_b σ b i v) := by
  match b, h with
  | 0, _ => rfl
  | 1, _ => rfl
  | 2, _ => rfl
  | 3, _ => rfl
  | 4, _ => rfl
  | 5, _ => rfl
  | 6, _ => rfl
  | 7, _ => rfl
  | 8, _ => rfl
  | 9, _ => rfl
  | 10, _ => rfl
  | 11, _ => rfl
  | 12, _ => rfl
  | 13, _ => rfl
  | 14, _ => rfl
  | 15, _ => rfl
  | n + 16, h => exact absurd h (by omega)
theorem kald_B (hcf : CallFix p m c cc nL s args kws own) (hK : va_K D vwCl (tK cs) s) {b : Nat} {i : Int32} {x : Int64} (hdg : decode cc pc = .ok (.laload, 1)) (hb : b < 16) (hi : ¬ (i < 0 ∨ k_len b ≤ i.toNatClampNeg)) (hw : k_H D (wK cs ad) A σ H0 H locs) (hv : σ.2.2.2 b i.toNatClampNeg = x) (kk : W p l e R s m args below meth c H locs cells slots Q (F0 m (pc + 1) ls (.long x :: rest))) : W p l e R s m args below meth c H locs cells slots Q (F0 m pc ls (.int i :: .ref (ad (25 + b)) :: rest)) := by
  subst hv
  exact va_lald hcf.1 hcf.2.1 hK hw.1 (25 + b) 3 (wK_B b hb) rfl hi hdg kk
theorem kast_B (hcf : CallFix p m c cc nL s args kws own) (hK : va_K D vwCl (tK cs) s) {b : Nat} {i : Int32} {v : Int64} (hdg : decode cc pc = .ok (.lastore, 1)) (hb : b < 16) (hi : ¬ (i < 0 ∨ k_len b ≤ i.toNatClampNeg)) (hw : k_H D (wK cs ad) (k_A 41 ad) σ H0 H locs) (kk : ∀ (H1 : Heap) (locs1 : List Loc), k_H D (wK cs ad) (k_A 41 ad) (p_b σ b i.toNatClampNeg v) H0 H1 locs1 → W p l e R s m args below meth c H1 locs1 cells slots Q (F0 m (pc + 1) ls rest)) : W p l e R s m args below meth c H locs cells slots Q (F0 m pc ls (.long v :: .int i :: .ref (ad (25 + b)) :: rest)) := by
  refine va_last hcf.1 hcf.2.1 hK hw.1 (wK_D hw.2.1) hw.2.2 (25 + b) 3 (wK_B b hb) rfl hi hdg (fun H1 locs1 hP hD hS => kk H1 locs1 ⟨?_, ?_, hS⟩)
  · rw [← wK_setB b _ _ hb]; exact hP
  · rw [← wK_setB b _ _ hb]; exact hD.weaken (fun _ _ _ _ => trivial)
theorem klen_B (hcf : CallFix p m c cc nL s args kws own) (hK : va_K D vwCl (tK cs) s) {b : Nat} (hdg : decode cc pc = .ok (.arraylength, 1)) (hb : b < 16) (hw : k_H D (wK cs ad) A σ H0 H locs) (kk : W p l e R s m args below meth c H locs cells slots Q (F0 m (pc + 1) ls (.int (Int32.ofNat (k_len b)) :: rest))) : W p l e R s m args below meth c H locs cells slots Q (F0 m pc ls (.ref (ad (25 + b)) :: rest)) :=
  va_alen hcf.1 hcf.2.1 hK hw.1 (25 + b) 3 (wK_B b hb) rfl rfl hdg kk
theorem wK_A (b : Nat) (h : b < 6) : (wK cs ad σ)[10 + (9 + b)]? = some (ad (10 + (9 + b)), .inl (cs 0, 5, .inl (σ.2.1 (9 + b)))) := by
  match b, h with
  | 0, _ => rfl
  | 1, _ => rfl
  | 2, _ => rfl
  | 3, _ => rfl
  | 4, _ => rfl
  | 5, _ => rfl
theorem wK_setA (b i : Nat) (v : Int32) (h : b < 6) : (wK cs ad σ).set (10 + (9 + b)) (ad (10 + (9 + b)), .inl (cs 0, 5, .inl (upd (σ.2.1 (9 + b)) i v))) = wK cs ad (p_a σ (9 + b) i v) := by
  match b, h with
  | 0, _ => rfl
  | 1, _ => rfl
  | 2, _ => rfl
  | 3, _ => rfl
  | 4, _ => rfl
  | 5, _ => rfl
theorem k_inlt {i : Int32} {n : Nat} (h : ¬ (i < 0 ∨ n ≤ i.toNatClampNeg)) : i.toNatClampNeg < n := Nat.not_le.mp fun q => h (Or.inr q)
theorem kald_amounts (hcf : CallFix p m c cc nL s args kws own) (hK : va_K D vwCl (tK cs) s) {r i x : Int32} (hdg : decode cc pc = .ok (.iaload, 1)) (hr : ¬ (r < 0 ∨ 6 ≤ r.toNatClampNeg)) (hi : ¬ (i < 0 ∨ 5 ≤ i.toNatClampNeg)) (hw : k_H D (wK cs ad) A σ H0 H locs) (hv : σ.2.1 (9 + r.toNatClampNeg) i.toNatClampNeg = x) (kk : W p l e R s m args below meth c H locs cells slots Q (F0 m (pc + 1) ls (.int x :: rest))) : W p l e R s m args below meth c H locs cells slots Q (F0 m pc ls (.int i :: .ref (ad (10 + (9 + r.toNatClampNeg))) :: rest)) := by
  subst hv
  exact va_iald hcf.1 hcf.2.1 hK hw.1 (10 + (9 + r.toNatClampNeg)) 0 (wK_A _ (k_inlt hr)) rfl hi hdg kk
theorem kast_amounts (hcf : CallFix p m c cc nL s args kws own) (hK : va_K D vwCl (tK cs) s) {r i v : Int32} (hdg : decode cc pc = .ok (.iastore, 1)) (hr : ¬ (r < 0 ∨ 6 ≤ r.toNatClampNeg)) (hi : ¬ (i < 0 ∨ 5 ≤ i.toNatClampNeg)) (hw : k_H D (wK cs ad) (k_A 41 ad) σ H0 H locs) (kk : ∀ (H1 : Heap) (locs1 : List Loc), k_H D (wK cs ad) (k_A 41 ad) (p_a σ (9 + r.toNatClampNeg) i.toNatClampNeg v) H0 H1 locs1 → W p l e R s m args below meth c H1 locs1 cells slots Q (F0 m (pc + 1) ls rest)) : W p l e R s m args below meth c H locs cells slots Q (F0 m pc ls (.int v :: .int i :: .ref (ad (10 + (9 + r.toNatClampNeg))) :: rest)) := by
  refine va_iast hcf.1 hcf.2.1 hK hw.1 (wK_D hw.2.1) hw.2.2 (10 + (9 + r.toNatClampNeg)) 0 (wK_A _ (k_inlt hr)) rfl hi hdg (fun H1 locs1 hP hD hS => kk H1 locs1 ⟨?_, ?_, hS⟩)
  · rw [← wK_setA _ _ _ (k_inlt hr)]; exact hP
  · rw [← wK_setA _ _ _ (k_inlt hr)]; exact hD.weaken (fun _ _ _ _ => trivial)
theorem kaald_sums (hcf : CallFix p m c cc nL s args kws own) (hK : va_K D vwCl (tK cs) s) {i : Int32} {k : Nat} (hdg : decode cc pc = .ok (.aaload, 1)) (hk : 25 + (1 + i.toNatClampNeg) = k) (hi : ¬ (i < 0 ∨ 4 ≤ i.toNatClampNeg)) (hw : k_H D (wK cs ad) A σ H0 H locs) (kk : W p l e R s m args below meth c H locs cells slots Q (F0 m (pc + 1) ls (.ref (ad k) :: rest))) : W p l e R s m args below meth c H locs cells slots Q (F0 m pc ls (.int i :: .ref (ad 6) :: rest)) := by
  subst hk
  have hlt := k_inlt hi
  exact W.aald (v := .ref (ad (25 + (1 + i.toNatClampNeg)))) (ty := .array .long) hcf.1 hcf.2.1 (hw.1 6 _ rfl) ((hK.2 5 _ rfl).1 4 (fun j => va_rf (some (ad (25 + (1 + j)))))) rfl (fun q => by cases q) (by show ¬ (i < 0 ∨ (arrV _ _ _).slots.size ≤ _); rw [arrV_size]; exact hi) (by show (arrV _ _ _).slots[_]? = _; rw [arrV_read _ _ hlt]; rfl) rfl rfl hdg kk
theorem rng_sums {r : Int32} (hr : ¬ (r < 0 ∨ 4 ≤ r.toNatClampNeg)) : 1 + r.toNatClampNeg < 16 := by have := k_inlt hr; omega
theorem klen_sums {r : Int32} (hr : ¬ (r < 0 ∨ 4 ≤ r.toNatClampNeg)) : k_len (1 + r.toNatClampNeg) = 5 := by have := k_inlt hr; unfold k_len; split <;> omega
theorem kald_sums (hcf : CallFix p m c cc nL s args kws own) (hK : va_K D vwCl (tK cs) s) {r i : Int32} {x : Int64} (hdg : decode cc pc = .ok (.laload, 1)) (hr : ¬ (r < 0 ∨ 4 ≤ r.toNatClampNeg)) (hi : ¬ (i < 0 ∨ 5 ≤ i.toNatClampNeg)) (hw : k_H D (wK cs ad) A σ H0 H locs) (hv : σ.2.2.2 (1 + r.toNatClampNeg) i.toNatClampNeg = x) (kk : W p l e R s m args below meth c H locs cells slots Q (F0 m (pc + 1) ls (.long x :: rest))) : W p l e R s m args below meth c H locs cells slots Q (F0 m pc ls (.int i :: .ref (ad (25 + (1 + r.toNatClampNeg))) :: rest)) := kald_B hcf hK hdg (rng_sums hr) (by rw [klen_sums hr]; exact hi) hw hv kk
theorem kast_sums (hcf : CallFix p m c cc nL s args kws own) (hK : va_K D vwCl (tK cs) s) {r i : Int32} {v : Int64} (hdg : decode cc pc = .ok (.lastore, 1)) (hr : ¬ (r < 0 ∨ 4 ≤ r.toNatClampNeg)) (hi : ¬ (i < 0 ∨ 5 ≤ i.toNatClampNeg)) (hw : k_H D (wK cs ad) (k_A 41 ad) σ H0 H locs) (kk : ∀ (H1 : Heap) (locs1 : List Loc), k_H D (wK cs ad) (k_A 41 ad) (p_b σ (1 + r.toNatClampNeg) i.toNatClampNeg v) H0 H1 locs1 → W p l e R s m args below meth c H1 locs1 cells slots Q (F0 m (pc + 1) ls rest)) : W p l e R s m args below meth c H locs cells slots Q (F0 m pc ls (.long v :: .int i :: .ref (ad (25 + (1 + r.toNatClampNeg))) :: rest)) := kast_B hcf hK hdg (rng_sums hr) (by rw [klen_sums hr]; exact hi) hw kk
theorem kaald_bases (hcf : CallFix p m c cc nL s args kws own) (hK : va_K D vwCl (tK cs) s) {i : Int32} {k : Nat} (hdg : decode cc pc = .ok (.aaload, 1)) (hk : 25 + (5 + i.toNatClampNeg) = k) (hi : ¬ (i < 0 ∨ 6 ≤ i.toNatClampNeg)) (hw : k_H D (wK cs ad) A σ H0 H locs) (kk : W p l e R s m args below meth c H locs cells slots Q (F0 m (pc + 1) ls (.ref (ad k) :: rest))) : W p l e R s m args below meth c H locs cells slots Q (F0 m pc ls (.int i :: .ref (ad 7) :: rest)) := by
  subst hk
  have hlt := k_inlt hi
  exact W.aald (v := .ref (ad (25 + (5 + i.toNatClampNeg)))) (ty := .array .long) hcf.1 hcf.2.1 (hw.1 7 _ rfl) ((hK.2 5 _ rfl).1 6 (fun j => va_rf (some (ad (25 + (5 + j)))))) rfl (fun q => by cases q) (by show ¬ (i < 0 ∨ (arrV _ _ _).slots.size ≤ _); rw [arrV_size]; exact hi) (by show (arrV _ _ _).slots[_]? = _; rw [arrV_read _ _ hlt]; rfl) rfl rfl hdg kk
theorem rng_bases {r : Int32} (hr : ¬ (r < 0 ∨ 6 ≤ r.toNatClampNeg)) : 5 + r.toNatClampNeg < 16 := by have := k_inlt hr; omega
theorem klen_bases {r : Int32} (hr : ¬ (r < 0 ∨ 6 ≤ r.toNatClampNeg)) : k_len (5 + r.toNatClampNeg) = 6 := by have := k_inlt hr; unfold k_len; split <;> omega
theorem kald_bases (hcf : CallFix p m c cc nL s args kws own) (hK : va_K D vwCl (tK cs) s) {r i : Int32} {x : Int64} (hdg : decode cc pc = .ok (.laload, 1)) (hr : ¬ (r < 0 ∨ 6 ≤ r.toNatClampNeg)) (hi : ¬ (i < 0 ∨ 6 ≤ i.toNatClampNeg)) (hw : k_H D (wK cs ad) A σ H0 H locs) (hv : σ.2.2.2 (5 + r.toNatClampNeg) i.toNatClampNeg = x) (kk : W p l e R s m args below meth c H locs cells slots Q (F0 m (pc + 1) ls (.long x :: rest))) : W p l e R s m args below meth c H locs cells slots Q (F0 m pc ls (.int i :: .ref (ad (25 + (5 + r.toNatClampNeg))) :: rest)) := kald_B hcf hK hdg (rng_bases hr) (by rw [klen_bases hr]; exact hi) hw hv kk
theorem kast_bases (hcf : CallFix p m c cc nL s args kws own) (hK : va_K D vwCl (tK cs) s) {r i : Int32} {v : Int64} (hdg : decode cc pc = .ok (.lastore, 1)) (hr : ¬ (r < 0 ∨ 6 ≤ r.toNatClampNeg)) (hi : ¬ (i < 0 ∨ 6 ≤ i.toNatClampNeg)) (hw : k_H D (wK cs ad) (k_A 41 ad) σ H0 H locs) (kk : ∀ (H1 : Heap) (locs1 : List Loc), k_H D (wK cs ad) (k_A 41 ad) (p_b σ (5 + r.toNatClampNeg) i.toNatClampNeg v) H0 H1 locs1 → W p l e R s m args below meth c H1 locs1 cells slots Q (F0 m (pc + 1) ls rest)) : W p l e R s m args below meth c H locs cells slots Q (F0 m pc ls (.long v :: .int i :: .ref (ad (25 + (5 + r.toNatClampNeg))) :: rest)) := kast_B hcf hK hdg (rng_bases hr) (by rw [klen_bases hr]; exact hi) hw kk
theorem kaald_rows (hcf : CallFix p m c cc nL s args kws own) (hK : va_K D vwCl (tK cs) s) {i : Int32} {k : Nat} (hdg : decode cc pc = .ok (.aaload, 1)) (hk : 25 + (11 + i.toNatClampNeg) = k) (hi : ¬ (i < 0 ∨ 5 ≤ i.toNatClampNeg)) (hw : k_H D (wK cs ad) A σ H0 H locs) (kk : W p l e R s m args below meth c H locs cells slots Q (F0 m (pc + 1) ls (.ref (ad k) :: rest))) : W p l e R s m args below meth c H locs cells slots Q (F0 m pc ls (.int i :: .ref (ad 8) :: rest)) := by
  subst hk
  have hlt := k_inlt hi
  exact W.aald (v := .ref (ad (25 + (11 + i.toNatClampNeg)))) (ty := .array .long) hcf.1 hcf.2.1 (hw.1 8 _ rfl) ((hK.2 5 _ rfl).1 5 (fun j => va_rf (some (ad (25 + (11 + j)))))) rfl (fun q => by cases q) (by show ¬ (i < 0 ∨ (arrV _ _ _).slots.size ≤ _); rw [arrV_size]; exact hi) (by show (arrV _ _ _).slots[_]? = _; rw [arrV_read _ _ hlt]; rfl) rfl rfl hdg kk
theorem rng_rows {r : Int32} (hr : ¬ (r < 0 ∨ 5 ≤ r.toNatClampNeg)) : 11 + r.toNatClampNeg < 16 := by have := k_inlt hr; omega
theorem klen_rows {r : Int32} (hr : ¬ (r < 0 ∨ 5 ≤ r.toNatClampNeg)) : k_len (11 + r.toNatClampNeg) = 6 := by have := k_inlt hr; unfold k_len; split <;> omega
theorem kald_rows (hcf : CallFix p m c cc nL s args kws own) (hK : va_K D vwCl (tK cs) s) {r i : Int32} {x : Int64} (hdg : decode cc pc = .ok (.laload, 1)) (hr : ¬ (r < 0 ∨ 5 ≤ r.toNatClampNeg)) (hi : ¬ (i < 0 ∨ 6 ≤ i.toNatClampNeg)) (hw : k_H D (wK cs ad) A σ H0 H locs) (hv : σ.2.2.2 (11 + r.toNatClampNeg) i.toNatClampNeg = x) (kk : W p l e R s m args below meth c H locs cells slots Q (F0 m (pc + 1) ls (.long x :: rest))) : W p l e R s m args below meth c H locs cells slots Q (F0 m pc ls (.int i :: .ref (ad (25 + (11 + r.toNatClampNeg))) :: rest)) := kald_B hcf hK hdg (rng_rows hr) (by rw [klen_rows hr]; exact hi) hw hv kk
theorem kast_rows (hcf : CallFix p m c cc nL s args kws own) (hK : va_K D vwCl (tK cs) s) {r i : Int32} {v : Int64} (hdg : decode cc pc = .ok (.lastore, 1)) (hr : ¬ (r < 0 ∨ 5 ≤ r.toNatClampNeg)) (hi : ¬ (i < 0 ∨ 6 ≤ i.toNatClampNeg)) (hw : k_H D (wK cs ad) (k_A 41 ad) σ H0 H locs) (kk : ∀ (H1 : Heap) (locs1 : List Loc), k_H D (wK cs ad) (k_A 41 ad) (p_b σ (11 + r.toNatClampNeg) i.toNatClampNeg v) H0 H1 locs1 → W p l e R s m args below meth c H1 locs1 cells slots Q (F0 m (pc + 1) ls rest)) : W p l e R s m args below meth c H locs cells slots Q (F0 m pc ls (.long v :: .int i :: .ref (ad (25 + (11 + r.toNatClampNeg))) :: rest)) := kast_B hcf hK hdg (rng_rows hr) (by rw [klen_rows hr]; exact hi) hw kk
theorem kaald_amounts (hcf : CallFix p m c cc nL s args kws own) (hK : va_K D vwCl (tK cs) s) {i : Int32} {k : Nat} (hdg : decode cc pc = .ok (.aaload, 1)) (hk : 10 + (9 + i.toNatClampNeg) = k) (hi : ¬ (i < 0 ∨ 6 ≤ i.toNatClampNeg)) (hw : k_H D (wK cs ad) A σ H0 H locs) (kk : W p l e R s m args below meth c H locs cells slots Q (F0 m (pc + 1) ls (.ref (ad k) :: rest))) : W p l e R s m args below meth c H locs cells slots Q (F0 m pc ls (.int i :: .ref (ad 9) :: rest)) := by
  subst hk
  have hlt := k_inlt hi
  exact W.aald (v := .ref (ad (10 + (9 + i.toNatClampNeg)))) (ty := .array .int) hcf.1 hcf.2.1 (hw.1 9 _ rfl) ((hK.2 4 _ rfl).1 6 (fun j => va_rf (some (ad (10 + (9 + j)))))) rfl (fun q => by cases q) (by show ¬ (i < 0 ∨ (arrV _ _ _).slots.size ≤ _); rw [arrV_size]; exact hi) (by show (arrV _ _ _).slots[_]? = _; rw [arrV_read _ _ hlt]; rfl) rfl rfl hdg kk
end AK
end
section
theorem dX4_add_0 : decode cX4_add 0 = .ok (.aload_n 0, 1) := by decide +kernel
theorem dX4_add_1 : decode cX4_add 1 = .ok (.getfield 15, 3) := by decide +kernel
theorem dX4_add_4 : decode cX4_add 4 = .ok (.bipush 100, 2) := by decide +kernel
theorem dX4_add_6 : decode cX4_add 6 = .ok (.if_icmp .ge 23, 3) := by decide +kernel
theorem dX4_add_9 : decode cX4_add 9 = .ok (.aload_n 0, 1) := by decide +kernel
theorem dX4_add_10 : decode cX4_add 10 = .ok (.getfield 9, 3) := by decide +kernel
theorem dX4_add_13 : decode cX4_add 13 = .ok (.aload_n 0, 1) := by decide +kernel
theorem dX4_add_14 : decode cX4_add 14 = .ok (.getfield 15, 3) := by decide +kernel
theorem dX4_add_17 : decode cX4_add 17 = .ok (.iload_n 1, 1) := by decide +kernel
theorem dX4_add_18 : decode cX4_add 18 = .ok (.castore, 1) := by decide +kernel
theorem dX4_add_19 : decode cX4_add 19 = .ok (.aload_n 0, 1) := by decide +kernel
theorem dX4_add_20 : decode cX4_add 20 = .ok (.dup, 1) := by decide +kernel
theorem dX4_add_21 : decode cX4_add 21 = .ok (.getfield 15, 3) := by decide +kernel
theorem dX4_add_24 : decode cX4_add 24 = .ok (.iconst 1, 1) := by decide +kernel
theorem dX4_add_25 : decode cX4_add 25 = .ok (.iadd, 1) := by decide +kernel
theorem dX4_add_26 : decode cX4_add 26 = .ok (.putfield 15, 3) := by decide +kernel
theorem dX4_add_29 : decode cX4_add 29 = .ok (.return_, 1) := by decide +kernel
theorem dX4_skipBlanks_0 : decode cX4_skipBlanks 0 = .ok (.aload_n 0, 1) := by decide +kernel
theorem dX4_skipBlanks_1 : decode cX4_skipBlanks 1 = .ok (.getfield 19, 3) := by decide +kernel
theorem dX4_skipBlanks_4 : decode cX4_skipBlanks 4 = .ok (.aload_n 0, 1) := by decide +kernel
theorem dX4_skipBlanks_5 : decode cX4_skipBlanks 5 = .ok (.getfield 15, 3) := by decide +kernel
theorem dX4_skipBlanks_8 : decode cX4_skipBlanks 8 = .ok (.if_icmp .ge 30, 3) := by decide +kernel
theorem dX4_skipBlanks_11 : decode cX4_skipBlanks 11 = .ok (.aload_n 0, 1) := by decide +kernel
theorem dX4_skipBlanks_12 : decode cX4_skipBlanks 12 = .ok (.getfield 9, 3) := by decide +kernel
theorem dX4_skipBlanks_15 : decode cX4_skipBlanks 15 = .ok (.aload_n 0, 1) := by decide +kernel
theorem dX4_skipBlanks_16 : decode cX4_skipBlanks 16 = .ok (.getfield 19, 3) := by decide +kernel
theorem dX4_skipBlanks_19 : decode cX4_skipBlanks 19 = .ok (.caload, 1) := by decide +kernel
theorem dX4_skipBlanks_20 : decode cX4_skipBlanks 20 = .ok (.bipush 32, 2) := by decide +kernel
theorem dX4_skipBlanks_22 : decode cX4_skipBlanks 22 = .ok (.if_icmp .ne 16, 3) := by decide +kernel
theorem dX4_skipBlanks_25 : decode cX4_skipBlanks 25 = .ok (.aload_n 0, 1) := by decide +kernel
theorem dX4_skipBlanks_26 : decode cX4_skipBlanks 26 = .ok (.dup, 1) := by decide +kernel
theorem dX4_skipBlanks_27 : decode cX4_skipBlanks 27 = .ok (.getfield 19, 3) := by decide +kernel
theorem dX4_skipBlanks_30 : decode cX4_skipBlanks 30 = .ok (.iconst 1, 1) := by decide +kernel
theorem dX4_skipBlanks_31 : decode cX4_skipBlanks 31 = .ok (.iadd, 1) := by decide +kernel
theorem dX4_skipBlanks_32 : decode cX4_skipBlanks 32 = .ok (.putfield 19, 3) := by decide +kernel
theorem dX4_skipBlanks_35 : decode cX4_skipBlanks 35 = .ok (.goto (-35), 3) := by decide +kernel
theorem dX4_skipBlanks_38 : decode cX4_skipBlanks 38 = .ok (.return_, 1) := by decide +kernel
theorem dX4_here_0 : decode cX4_here 0 = .ok (.aload_n 0, 1) := by decide +kernel
theorem dX4_here_1 : decode cX4_here 1 = .ok (.getfield 19, 3) := by decide +kernel
theorem dX4_here_4 : decode cX4_here 4 = .ok (.ifCond .lt 26, 3) := by decide +kernel
theorem dX4_here_7 : decode cX4_here 7 = .ok (.aload_n 0, 1) := by decide +kernel
theorem dX4_here_8 : decode cX4_here 8 = .ok (.getfield 19, 3) := by decide +kernel
theorem dX4_here_11 : decode cX4_here 11 = .ok (.aload_n 0, 1) := by decide +kernel
theorem dX4_here_12 : decode cX4_here 12 = .ok (.getfield 15, 3) := by decide +kernel
theorem dX4_here_15 : decode cX4_here 15 = .ok (.if_icmp .ge 15, 3) := by decide +kernel
theorem dX4_here_18 : decode cX4_here 18 = .ok (.aload_n 0, 1) := by decide +kernel
theorem dX4_here_19 : decode cX4_here 19 = .ok (.getfield 9, 3) := by decide +kernel
theorem dX4_here_22 : decode cX4_here 22 = .ok (.aload_n 0, 1) := by decide +kernel
theorem dX4_here_23 : decode cX4_here 23 = .ok (.getfield 19, 3) := by decide +kernel
theorem dX4_here_26 : decode cX4_here 26 = .ok (.caload, 1) := by decide +kernel
theorem dX4_here_27 : decode cX4_here 27 = .ok (.goto 4, 3) := by decide +kernel
theorem dX4_here_30 : decode cX4_here 30 = .ok (.iconst 0, 1) := by decide +kernel
theorem dX4_here_31 : decode cX4_here 31 = .ok (.ireturn, 1) := by decide +kernel
theorem dX4_ahead_0 : decode cX4_ahead 0 = .ok (.aload_n 0, 1) := by decide +kernel
theorem dX4_ahead_1 : decode cX4_ahead 1 = .ok (.getfield 19, 3) := by decide +kernel
theorem dX4_ahead_4 : decode cX4_ahead 4 = .ok (.iload_n 1, 1) := by decide +kernel
theorem dX4_ahead_5 : decode cX4_ahead 5 = .ok (.iadd, 1) := by decide +kernel
theorem dX4_ahead_6 : decode cX4_ahead 6 = .ok (.istore_n 2, 1) := by decide +kernel
theorem dX4_ahead_7 : decode cX4_ahead 7 = .ok (.iload_n 2, 1) := by decide +kernel
theorem dX4_ahead_8 : decode cX4_ahead 8 = .ok (.ifCond .lt 20, 3) := by decide +kernel
theorem dX4_ahead_11 : decode cX4_ahead 11 = .ok (.iload_n 2, 1) := by decide +kernel
theorem dX4_ahead_12 : decode cX4_ahead 12 = .ok (.aload_n 0, 1) := by decide +kernel
theorem dX4_ahead_13 : decode cX4_ahead 13 = .ok (.getfield 15, 3) := by decide +kernel
theorem dX4_ahead_16 : decode cX4_ahead 16 = .ok (.if_icmp .ge 12, 3) := by decide +kernel
theorem dX4_ahead_19 : decode cX4_ahead 19 = .ok (.aload_n 0, 1) := by decide +kernel
theorem dX4_ahead_20 : decode cX4_ahead 20 = .ok (.getfield 9, 3) := by decide +kernel
theorem dX4_ahead_23 : decode cX4_ahead 23 = .ok (.iload_n 2, 1) := by decide +kernel
theorem dX4_ahead_24 : decode cX4_ahead 24 = .ok (.caload, 1) := by decide +kernel
theorem dX4_ahead_25 : decode cX4_ahead 25 = .ok (.goto 4, 3) := by decide +kernel
theorem dX4_ahead_28 : decode cX4_ahead 28 = .ok (.iconst 0, 1) := by decide +kernel
theorem dX4_ahead_29 : decode cX4_ahead 29 = .ok (.ireturn, 1) := by decide +kernel
theorem dX4_clear_0 : decode cX4_clear 0 = .ok (.aload_n 0, 1) := by decide +kernel
theorem dX4_clear_1 : decode cX4_clear 1 = .ok (.iconst 0, 1) := by decide +kernel
theorem dX4_clear_2 : decode cX4_clear 2 = .ok (.putfield 15, 3) := by decide +kernel
theorem dX4_clear_5 : decode cX4_clear 5 = .ok (.aload_n 0, 1) := by decide +kernel
theorem dX4_clear_6 : decode cX4_clear 6 = .ok (.iconst 0, 1) := by decide +kernel
theorem dX4_clear_7 : decode cX4_clear 7 = .ok (.putfield 19, 3) := by decide +kernel
theorem dX4_clear_10 : decode cX4_clear 10 = .ok (.return_, 1) := by decide +kernel
end
section
def fX4_add (N : Nat) (σ : vS) (p1 : Int32) : Option (vS) :=
  if ((100 : Int32) ≤ (σ.1 0)) then (
    some σ
  ) else (
    if ((σ.1 0) < 0 ∨ 100 ≤ ((σ.1 0)).toNatClampNeg) then none else
    some (p_i (p_a σ 0 (((σ.1 0)).toNatClampNeg) (vp_nar .char p1)) 0 ((σ.1 0) + (1 : Int32)))
  )
abbrev rmX4_add : Room := { frames := 0, cells := 0, slots := 0, locals := 0 }
abbrev wsX4_add : List Cond := .code yX4_add cX4_add 2 none :: kws
theorem kcX4_add {R : Room} {s : State} {args : Array Value} {own : String} {index : Nat} (htk : ∀ w ∈ kws, w.before args s = true) (hl : (Cond.methodLink own index yX4_add).before args s = true) (hR : rmX4_add.frames + 1 ≤ R.frames ∧ 8 + (2 + 11) + rmX4_add.locals ≤ R.locals) : CallW R s args own RX4 index yX4_add cX4_add 2 none wsX4_add rmX4_add 0 0 1 :=
  ⟨callB_of 1 htk (k_good kc_568) rfl rfl rfl (kw_54 htk) hl (by decide +kernel) hR, (kw_566 htk), (kw_567 htk)⟩
set_option maxRecDepth 100000 in
set_option maxHeartbeats 4000000 in
theorem mX4_add (l : Launch) (D : va_G) (cs : Nat → ClassId) (ad : Nat → Nat) (N : Nat) (σ : vS) (p1 : Int32) (σ' : vS) (hf : fX4_add N σ p1 = some σ') : k_Met l yX4_add wsX4_add rmX4_add D (tK cs) (wK cs ad) (k_A 41 ad) [.ref (ad 4), .int p1] σ none σ' := by
  refine k_of (cc := cX4_add) (maxL := 2) (ret := none) (by decide) rfl (Nat.le_of_ble_eq_true rfl) ?_
  intro p e s m args below meth c ls H locs hcf hr hlk hK hZ hl hw
  generalize hQ0 : MQ below _ args s 0 0 _ = Q0
  obtain ⟨T0, hE0⟩ : ∃ T, T = fX4_add N σ p1 := ⟨_, rfl⟩
  have hR := hE0.trans hf
  have hN0 : T0 ≠ none := by rw [hR]; exact fun h => nomatch h
  have hx := hcf.1
  have hb := hcf.2.1
  have htk := hcf.2.2.2.2
  have hown := hcf.2.2.2.1
  unfold fX4_add at hE0
  replace hl : lv_has ls 2 [(0, .ref (ad 4)), (1, .int p1)] := hl
  refine lv_aload_n hx hb dX4_add_0 rfl (lv_at hl 0 rfl) ?_
  refine kg_X4_length hcf hK (kw_90 htk) (x := (σ.1 0)) dX4_add_1 hw rfl ?_
  refine lv_bipush (v := 100) hx hb dX4_add_4 rfl ?_
  refine lv_icmp_ge (tgt := 29) hx hb dX4_add_6 (by decide) (fun c2 => ?_) (fun c2 => ?_)
  · have hE0 := ite_t hE0 c2
    exact kret_v hcf hr hlk hK hw (rt1 hR hE0) hQ0 dX4_add_29
  · have hE0 := ite_f hE0 c2
    refine lv_aload_n hx hb dX4_add_9 rfl (lv_at hl 0 rfl) ?_
    refine kg_X4_characters hcf hK (kw_88 htk) dX4_add_10 hw ?_
    refine lv_aload_n hx hb dX4_add_13 rfl (lv_at hl 0 rfl) ?_
    refine kg_X4_length hcf hK (kw_90 htk) (x := (σ.1 0)) dX4_add_14 hw rfl ?_
    refine lv_iload_n hx hb dX4_add_17 rfl (lv_at hl 1 rfl) ?_
    obtain ⟨g1, hE0⟩ := gd_e hE0 hN0
    refine kast_A0 hcf hK dX4_add_18 g1 hw (fun H locs hw => ?_)
    refine lv_aload_n hx hb dX4_add_19 rfl (lv_at hl 0 rfl) ?_
    refine lv_dup hx hb dX4_add_20 rfl ?_
    refine kg_X4_length hcf hK (kw_90 htk) (x := (σ.1 0)) dX4_add_21 hw rfl ?_
    refine lv_iconst (v := 1) hx hb dX4_add_24 rfl ?_
    refine lv_iadd hx hb dX4_add_25 ?_
    refine kp_X4_length hcf hK (kw_90 htk) dX4_add_26 hw (fun H locs hw => ?_)
    exact kret_v hcf hr hlk hK hw (rt1 hR hE0) hQ0 dX4_add_29
def jX4_skipBlanks_38 (N : Nat) (σj38 : vS) : Option (vS) :=
  some σj38
def bX4_skipBlanks_0 (N : Nat) (σh0 : vS) : Option ((vS) ⊕ (vS)) :=
  if ((σh0.1 0) ≤ (σh0.1 1)) then (
    some (.inr σh0)
  ) else (
    if ((σh0.1 1) < 0 ∨ 100 ≤ ((σh0.1 1)).toNatClampNeg) then none else
    if ((σh0.2.1 0 (((σh0.1 1)).toNatClampNeg)) = (32 : Int32)) then (
      some (.inl (p_i σh0 1 ((σh0.1 1) + (1 : Int32))))
    ) else (
      some (.inr σh0)
    )
  )
def fX4_skipBlanks (N : Nat) (σ : vS) : Option (vS) :=
  bd1 (k_itr (fun zz => bX4_skipBlanks_0 N zz) N σ) fun q => jX4_skipBlanks_38 N q
abbrev rmX4_skipBlanks : Room := { frames := 0, cells := 0, slots := 0, locals := 0 }
abbrev wsX4_skipBlanks : List Cond := .code yX4_skipBlanks cX4_skipBlanks 1 none :: kws
theorem kcX4_skipBlanks {R : Room} {s : State} {args : Array Value} {own : String} {index : Nat} (htk : ∀ w ∈ kws, w.before args s = true) (hl : (Cond.methodLink own index yX4_skipBlanks).before args s = true) (hR : rmX4_skipBlanks.frames + 1 ≤ R.frames ∧ 8 + (1 + 11) + rmX4_skipBlanks.locals ≤ R.locals) : CallW R s args own RX4 index yX4_skipBlanks cX4_skipBlanks 1 none wsX4_skipBlanks rmX4_skipBlanks 0 0 0 :=
  ⟨callB_of 0 htk (k_good kc_264) rfl rfl rfl (kw_54 htk) hl (by decide +kernel) hR, (kw_262 htk), (kw_263 htk)⟩
set_option maxRecDepth 100000 in
set_option maxHeartbeats 4000000 in
theorem mX4_skipBlanks (l : Launch) (D : va_G) (cs : Nat → ClassId) (ad : Nat → Nat) (N : Nat) (σ : vS) (σ' : vS) (hf : fX4_skipBlanks N σ = some σ') : k_Met l yX4_skipBlanks wsX4_skipBlanks rmX4_skipBlanks D (tK cs) (wK cs ad) (k_A 41 ad) [.ref (ad 4)] σ none σ' := by
  refine k_of (cc := cX4_skipBlanks) (maxL := 1) (ret := none) (by decide) rfl (Nat.le_of_ble_eq_true rfl) ?_
  intro p e s m args below meth c ls H locs hcf hr hlk hK hZ hl hw
  generalize hQ0 : MQ below _ args s 0 0 _ = Q0
  obtain ⟨T0, hE0⟩ : ∃ T, T = fX4_skipBlanks N σ := ⟨_, rfl⟩
  have hR := hE0.trans hf
  have hN0 : T0 ≠ none := by rw [hR]; exact fun h => nomatch h
  have hx := hcf.1
  have hb := hcf.2.1
  have htk := hcf.2.2.2.2
  have hown := hcf.2.2.2.1
  unfold fX4_skipBlanks at hE0
  replace hl : lv_has ls 1 [(0, .ref (ad 4))] := hl
  have J38 : ∀ (σj38 : vS) (H : Heap) (locs : List Loc) (ls : Array Slot), lv_has ls 1 [] → k_H D (wK cs ad) (k_A 41 ad) σj38 s.heap H locs → T0 = jX4_skipBlanks_38 N σj38 → W p l e rmX4_skipBlanks s m args below meth c H locs 0 0 Q0 (F0 m 38 ls []) := by
    intro σj38 H locs ls hl hw hE0
    unfold jX4_skipBlanks_38 at hE0
    exact kret_v hcf hr hlk hK hw (rt1 hR hE0) hQ0 dX4_skipBlanks_38
  obtain ⟨q, hq, hE0⟩ := bd1_e hE0 hN0
  refine k_ind (P := fun zz => ∀ (H : Heap) (locs : List Loc) (ls : Array Slot), lv_has ls 1 [(0, .ref (ad 4))] → k_H D (wK cs ad) (k_A 41 ad) zz s.heap H locs → W p l e rmX4_skipBlanks s m args below meth c H locs 0 0 Q0 (F0 m 0 ls [])) ?_ N _ hq H locs ls (lv_sub hl [0] rfl) hw
  intro sX T1 hE1 hN1 hC1 hX1
  obtain ⟨σh0, hsg⟩ : ∃ z, z = sX := ⟨_, rfl⟩
  subst hsg
  replace hE1 : T1 = bX4_skipBlanks_0 N σh0 := hE1
  unfold bX4_skipBlanks_0 at hE1
  intro H locs ls hl hw
  replace hl : lv_has ls 1 [(0, .ref (ad 4))] := hl
  replace hw : k_H D (wK cs ad) (k_A 41 ad) σh0 s.heap H locs := hw
  refine lv_aload_n hx hb dX4_skipBlanks_0 rfl (lv_at hl 0 rfl) ?_
  refine kg_X4_place hcf hK (kw_92 htk) (x := (σh0.1 1)) dX4_skipBlanks_1 hw rfl ?_
  refine lv_aload_n hx hb dX4_skipBlanks_4 rfl (lv_at hl 0 rfl) ?_
  refine kg_X4_length hcf hK (kw_90 htk) (x := (σh0.1 0)) dX4_skipBlanks_5 hw rfl ?_
  refine lv_icmp_ge (tgt := 38) hx hb dX4_skipBlanks_8 (by decide) (fun c3 => ?_) (fun c3 => ?_)
  · have hE1 := ite_t hE1 c3
    have hq := hX1 _ hE1
    subst hq
    exact J38 σh0 H locs ls (lv_sub hl [] rfl) hw hE0
  · have hE1 := ite_f hE1 c3
    refine lv_aload_n hx hb dX4_skipBlanks_11 rfl (lv_at hl 0 rfl) ?_
    refine kg_X4_characters hcf hK (kw_88 htk) dX4_skipBlanks_12 hw ?_
    refine lv_aload_n hx hb dX4_skipBlanks_15 rfl (lv_at hl 0 rfl) ?_
    refine kg_X4_place hcf hK (kw_92 htk) (x := (σh0.1 1)) dX4_skipBlanks_16 hw rfl ?_
    obtain ⟨g1, hE1⟩ := gd_e hE1 hN1
    refine kald_A0 hcf hK (x := (σh0.2.1 0 (((σh0.1 1)).toNatClampNeg))) dX4_skipBlanks_19 g1 hw rfl ?_
    refine lv_bipush (v := 32) hx hb dX4_skipBlanks_20 rfl ?_
    refine lv_icmp_ne (tgt := 38) hx hb dX4_skipBlanks_22 (by decide) (fun c2 => ?_) (fun c2 => ?_)
    · have hE1 := ite_f hE1 c2
      have hq := hX1 _ hE1
      subst hq
      exact J38 σh0 H locs ls (lv_sub hl [] rfl) hw hE0
    · have hE1 := ite_t hE1 c2
      refine lv_aload_n hx hb dX4_skipBlanks_25 rfl (lv_at hl 0 rfl) ?_
      refine lv_dup hx hb dX4_skipBlanks_26 rfl ?_
      refine kg_X4_place hcf hK (kw_92 htk) (x := (σh0.1 1)) dX4_skipBlanks_27 hw rfl ?_
      refine lv_iconst (v := 1) hx hb dX4_skipBlanks_30 rfl ?_
      refine lv_iadd hx hb dX4_skipBlanks_31 ?_
      refine kp_X4_place hcf hK (kw_92 htk) dX4_skipBlanks_32 hw (fun H locs hw => ?_)
      refine lv_goto (tgt := 0) hx hb dX4_skipBlanks_35 (by decide) ?_
      exact hC1 _ hE1 H locs ls (lv_sub hl [0] rfl) hw
def fX4_here (N : Nat) (σ : vS) : Option (Int32) :=
  if ((σ.1 1) < 0) then (
    some (0 : Int32)
  ) else (
    if ((σ.1 0) ≤ (σ.1 1)) then (
      some (0 : Int32)
    ) else (
      if ((σ.1 1) < 0 ∨ 100 ≤ ((σ.1 1)).toNatClampNeg) then none else
      if ¬ ((σ.2.1 0 (((σ.1 1)).toNatClampNeg)).toUInt32.toUInt16.toUInt32.toInt32 = (σ.2.1 0 (((σ.1 1)).toNatClampNeg))) then none else
      some (σ.2.1 0 (((σ.1 1)).toNatClampNeg))
    )
  )
abbrev rmX4_here : Room := { frames := 0, cells := 0, slots := 0, locals := 0 }
abbrev wsX4_here : List Cond := .code yX4_here cX4_here 1 (some .char) :: kws
theorem kcX4_here {R : Room} {s : State} {args : Array Value} {own : String} {index : Nat} (htk : ∀ w ∈ kws, w.before args s = true) (hl : (Cond.methodLink own index yX4_here).before args s = true) (hR : rmX4_here.frames + 1 ≤ R.frames ∧ 8 + (1 + 11) + rmX4_here.locals ≤ R.locals) : CallW R s args own RX4 index yX4_here cX4_here 1 (some .char) wsX4_here rmX4_here 0 0 0 :=
  ⟨callB_of 0 htk (k_good kc_279) rfl rfl rfl (kw_54 htk) hl (by decide +kernel) hR, (kw_277 htk), (kw_278 htk)⟩
set_option maxRecDepth 100000 in
set_option maxHeartbeats 4000000 in
theorem mX4_here (l : Launch) (D : va_G) (cs : Nat → ClassId) (ad : Nat → Nat) (N : Nat) (σ : vS) (r : Int32) (hf : fX4_here N σ = some r) : k_MP l yX4_here wsX4_here rmX4_here D (tK cs) (wK cs ad) [.ref (ad 4)] σ (.int r) := by
  refine k_ofP (cc := cX4_here) (maxL := 1) (ret := (some .char)) (by decide) rfl (Nat.le_of_ble_eq_true rfl) ?_
  intro p e s m args below meth c ls hcf hr hlk hK hZ hl hw
  generalize hQ0 : MQ below _ args s 0 0 _ = Q0
  obtain ⟨T0, hE0⟩ : ∃ T, T = fX4_here N σ := ⟨_, rfl⟩
  have hR := hE0.trans hf
  have hN0 : T0 ≠ none := by rw [hR]; exact fun h => nomatch h
  have hx := hcf.1
  have hb := hcf.2.1
  have htk := hcf.2.2.2.2
  have hown := hcf.2.2.2.1
  unfold fX4_here at hE0
  replace hl : lv_has ls 1 [(0, .ref (ad 4))] := hl
  refine lv_aload_n hx hb dX4_here_0 rfl (lv_at hl 0 rfl) ?_
  refine kg_X4_place hcf hK (kw_92 htk) (x := (σ.1 1)) dX4_here_1 hw rfl ?_
  refine lv_if_lt (tgt := 30) hx hb dX4_here_4 (by decide) (fun c4 => ?_) (fun c4 => ?_)
  · have hE0 := ite_t hE0 c4
    refine lv_iconst (v := 0) hx hb dX4_here_30 rfl ?_
    exact kretP_z hcf hr hlk hK hw (rt1 hR hE0) hQ0 rfl dX4_here_31
  · have hE0 := ite_f hE0 c4
    refine lv_aload_n hx hb dX4_here_7 rfl (lv_at hl 0 rfl) ?_
    refine kg_X4_place hcf hK (kw_92 htk) (x := (σ.1 1)) dX4_here_8 hw rfl ?_
    refine lv_aload_n hx hb dX4_here_11 rfl (lv_at hl 0 rfl) ?_
    refine kg_X4_length hcf hK (kw_90 htk) (x := (σ.1 0)) dX4_here_12 hw rfl ?_
    refine lv_icmp_ge (tgt := 30) hx hb dX4_here_15 (by decide) (fun c3 => ?_) (fun c3 => ?_)
    · have hE0 := ite_t hE0 c3
      refine lv_iconst (v := 0) hx hb dX4_here_30 rfl ?_
      exact kretP_z hcf hr hlk hK hw (rt1 hR hE0) hQ0 rfl dX4_here_31
    · have hE0 := ite_f hE0 c3
      refine lv_aload_n hx hb dX4_here_18 rfl (lv_at hl 0 rfl) ?_
      refine kg_X4_characters hcf hK (kw_88 htk) dX4_here_19 hw ?_
      refine lv_aload_n hx hb dX4_here_22 rfl (lv_at hl 0 rfl) ?_
      refine kg_X4_place hcf hK (kw_92 htk) (x := (σ.1 1)) dX4_here_23 hw rfl ?_
      obtain ⟨g1, hE0⟩ := gd_e hE0 hN0
      refine kald_A0 hcf hK (x := (σ.2.1 0 (((σ.1 1)).toNatClampNeg))) dX4_here_26 g1 hw rfl ?_
      refine lv_goto (tgt := 31) hx hb dX4_here_27 (by decide) ?_
      obtain ⟨g2, hE0⟩ := gd_e hE0 hN0
      exact kretP_z hcf hr hlk hK hw (rt1 hR hE0) hQ0 (nr_c g2) dX4_here_31
def fX4_ahead (N : Nat) (σ : vS) (p1 : Int32) : Option (Int32) :=
  k_lt ((σ.1 1) + p1) fun x1 =>
  if (x1 < 0) then (
    some (0 : Int32)
  ) else (
    if ((σ.1 0) ≤ x1) then (
      some (0 : Int32)
    ) else (
      if (x1 < 0 ∨ 100 ≤ (x1).toNatClampNeg) then none else
      if ¬ ((σ.2.1 0 ((x1).toNatClampNeg)).toUInt32.toUInt16.toUInt32.toInt32 = (σ.2.1 0 ((x1).toNatClampNeg))) then none else
      some (σ.2.1 0 ((x1).toNatClampNeg))
    )
  )
abbrev rmX4_ahead : Room := { frames := 0, cells := 0, slots := 0, locals := 0 }
abbrev wsX4_ahead : List Cond := .code yX4_ahead cX4_ahead 3 (some .char) :: kws
theorem kcX4_ahead {R : Room} {s : State} {args : Array Value} {own : String} {index : Nat} (htk : ∀ w ∈ kws, w.before args s = true) (hl : (Cond.methodLink own index yX4_ahead).before args s = true) (hR : rmX4_ahead.frames + 1 ≤ R.frames ∧ 8 + (3 + 11) + rmX4_ahead.locals ≤ R.locals) : CallW R s args own RX4 index yX4_ahead cX4_ahead 3 (some .char) wsX4_ahead rmX4_ahead 0 0 1 :=
  ⟨callB_of 1 htk (k_good kc_287) rfl rfl rfl (kw_54 htk) hl (by decide +kernel) hR, (kw_285 htk), (kw_286 htk)⟩
set_option maxRecDepth 100000 in
set_option maxHeartbeats 4000000 in
theorem mX4_ahead (l : Launch) (D : va_G) (cs : Nat → ClassId) (ad : Nat → Nat) (N : Nat) (σ : vS) (p1 : Int32) (r : Int32) (hf : fX4_ahead N σ p1 = some r) : k_MP l yX4_ahead wsX4_ahead rmX4_ahead D (tK cs) (wK cs ad) [.ref (ad 4), .int p1] σ (.int r) := by
  refine k_ofP (cc := cX4_ahead) (maxL := 3) (ret := (some .char)) (by decide) rfl (Nat.le_of_ble_eq_true rfl) ?_
  intro p e s m args below meth c ls hcf hr hlk hK hZ hl hw
  generalize hQ0 : MQ below _ args s 0 0 _ = Q0
  obtain ⟨T0, hE0⟩ : ∃ T, T = fX4_ahead N σ p1 := ⟨_, rfl⟩
  have hR := hE0.trans hf
  have hN0 : T0 ≠ none := by rw [hR]; exact fun h => nomatch h
  have hx := hcf.1
  have hb := hcf.2.1
  have htk := hcf.2.2.2.2
  have hown := hcf.2.2.2.1
  unfold fX4_ahead at hE0
  replace hl : lv_has ls 3 [(0, .ref (ad 4)), (1, .int p1)] := hl
  refine lv_aload_n hx hb dX4_ahead_0 rfl (lv_at hl 0 rfl) ?_
  refine kg_X4_place hcf hK (kw_92 htk) (x := (σ.1 1)) dX4_ahead_1 hw rfl ?_
  refine lv_iload_n hx hb dX4_ahead_4 rfl (lv_at hl 1 rfl) ?_
  refine lv_iadd hx hb dX4_ahead_5 ?_
  refine lv_topi (fun x1 e_x1 => ?_)
  have hE0 := k_lts hE0 e_x1
  refine lv_istore_n hx hb dX4_ahead_6 rfl hl (Nat.le_of_ble_eq_true rfl) rfl (fun ls (hl : lv_has ls 3 [(2, .int x1), (0, .ref (ad 4)), (1, .int p1)]) => ?_)
  refine lv_iload_n hx hb dX4_ahead_7 rfl (lv_at hl 0 rfl) ?_
  refine lv_if_lt (tgt := 28) hx hb dX4_ahead_8 (by decide) (fun c5 => ?_) (fun c5 => ?_)
  · have hE0 := ite_t hE0 c5
    refine lv_iconst (v := 0) hx hb dX4_ahead_28 rfl ?_
    exact kretP_z hcf hr hlk hK hw (rt1 hR hE0) hQ0 rfl dX4_ahead_29
  · have hE0 := ite_f hE0 c5
    refine lv_iload_n hx hb dX4_ahead_11 rfl (lv_at hl 0 rfl) ?_
    refine lv_aload_n hx hb dX4_ahead_12 rfl (lv_at hl 1 rfl) ?_
    refine kg_X4_length hcf hK (kw_90 htk) (x := (σ.1 0)) dX4_ahead_13 hw rfl ?_
    refine lv_icmp_ge (tgt := 28) hx hb dX4_ahead_16 (by decide) (fun c4 => ?_) (fun c4 => ?_)
    · have hE0 := ite_t hE0 c4
      refine lv_iconst (v := 0) hx hb dX4_ahead_28 rfl ?_
      exact kretP_z hcf hr hlk hK hw (rt1 hR hE0) hQ0 rfl dX4_ahead_29
    · have hE0 := ite_f hE0 c4
      refine lv_aload_n hx hb dX4_ahead_19 rfl (lv_at hl 1 rfl) ?_
      refine kg_X4_characters hcf hK (kw_88 htk) dX4_ahead_20 hw ?_
      refine lv_iload_n hx hb dX4_ahead_23 rfl (lv_at hl 0 rfl) ?_
      obtain ⟨g2, hE0⟩ := gd_e hE0 hN0
      refine kald_A0 hcf hK (x := (σ.2.1 0 ((x1).toNatClampNeg))) dX4_ahead_24 g2 hw rfl ?_
      refine lv_goto (tgt := 29) hx hb dX4_ahead_25 (by decide) ?_
      obtain ⟨g3, hE0⟩ := gd_e hE0 hN0
      exact kretP_z hcf hr hlk hK hw (rt1 hR hE0) hQ0 (nr_c g3) dX4_ahead_29
def fX4_clear (N : Nat) (σ : vS) : Option (vS) :=
  some (p_i (p_i σ 0 (0 : Int32)) 1 (0 : Int32))
abbrev rmX4_clear : Room := { frames := 0, cells := 0, slots := 0, locals := 0 }
abbrev wsX4_clear : List Cond := .code yX4_clear cX4_clear 1 none :: kws
theorem kcX4_clear {R : Room} {s : State} {args : Array Value} {own : String} {index : Nat} (htk : ∀ w ∈ kws, w.before args s = true) (hl : (Cond.methodLink own index yX4_clear).before args s = true) (hR : rmX4_clear.frames + 1 ≤ R.frames ∧ 8 + (1 + 11) + rmX4_clear.locals ≤ R.locals) : CallW R s args own RX4 index yX4_clear cX4_clear 1 none wsX4_clear rmX4_clear 0 0 0 :=
  ⟨callB_of 0 htk (k_good kc_446) rfl rfl rfl (kw_54 htk) hl (by decide +kernel) hR, (kw_444 htk), (kw_445 htk)⟩
set_option maxRecDepth 100000 in
set_option maxHeartbeats 4000000 in
theorem mX4_clear (l : Launch) (D : va_G) (cs : Nat → ClassId) (ad : Nat → Nat) (N : Nat) (σ : vS) (σ' : vS) (hf : fX4_clear N σ = some σ') : k_Met l yX4_clear wsX4_clear rmX4_clear D (tK cs) (wK cs ad) (k_A 41 ad) [.ref (ad 4)] σ none σ' := by
  refine k_of (cc := cX4_clear) (maxL := 1) (ret := none) (by decide) rfl (Nat.le_of_ble_eq_true rfl) ?_
  intro p e s m args below meth c ls H locs hcf hr hlk hK hZ hl hw
  generalize hQ0 : MQ below _ args s 0 0 _ = Q0
  obtain ⟨T0, hE0⟩ : ∃ T, T = fX4_clear N σ := ⟨_, rfl⟩
  have hR := hE0.trans hf
  have hN0 : T0 ≠ none := by rw [hR]; exact fun h => nomatch h
  have hx := hcf.1
  have hb := hcf.2.1
  have htk := hcf.2.2.2.2
  have hown := hcf.2.2.2.1
  unfold fX4_clear at hE0
  replace hl : lv_has ls 1 [(0, .ref (ad 4))] := hl
  refine lv_aload_n hx hb dX4_clear_0 rfl (lv_at hl 0 rfl) ?_
  refine lv_iconst (v := 0) hx hb dX4_clear_1 rfl ?_
  refine kp_X4_length hcf hK (kw_90 htk) dX4_clear_2 hw (fun H locs hw => ?_)
  refine lv_aload_n hx hb dX4_clear_5 rfl (lv_at hl 0 rfl) ?_
  refine lv_iconst (v := 0) hx hb dX4_clear_6 rfl ?_
  refine kp_X4_place hcf hK (kw_92 htk) dX4_clear_7 hw (fun H locs hw => ?_)
  exact kret_v hcf hr hlk hK hw (rt1 hR hE0) hQ0 dX4_clear_10
end
