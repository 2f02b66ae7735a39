section
-- ===== PART A: goes FIRST, ahead of the names: the tables' words, and 'selects' of the private methods out of them =====
/-- a private method of a class that the tables say can be made, by its rows of tables_1 -/
def lw_okq (q : MethodName × Nat) : Prop := (q.1.cls ≠ "java/lang/invoke/MethodHandle" ∧ q.1.cls ≠ "java/lang/invoke/VarHandle") ∧ Cond.instantiable q.1.cls q.2 ∈ tables_1 ∧ Cond.privateMethod q.1 ∈ tables_1 ∧ Cond.instanceMethod q.1 ∈ tables_1
theorem lw_p0 : lw_okq (⟨"PixelFormula$Compiler", "start", "([CI)V"⟩, 5) := ⟨⟨by decide +kernel, by decide +kernel⟩, List.mem_of_getElem? (i := 68) (by decide +kernel), List.mem_of_getElem? (i := 137) (by decide +kernel), List.mem_of_getElem? (i := 138) (by decide +kernel)⟩
theorem lw_p1 : lw_okq (⟨"PixelFormula$Compiler", "isAssignmentNext", "()Z"⟩, 5) := ⟨⟨by decide +kernel, by decide +kernel⟩, List.mem_of_getElem? (i := 68) (by decide +kernel), List.mem_of_getElem? (i := 145) (by decide +kernel), List.mem_of_getElem? (i := 146) (by decide +kernel)⟩
theorem lw_p2 : lw_okq (⟨"PixelFormula$Compiler", "assignment", "()Z"⟩, 5) := ⟨⟨by decide +kernel, by decide +kernel⟩, List.mem_of_getElem? (i := 68) (by decide +kernel), List.mem_of_getElem? (i := 152) (by decide +kernel), List.mem_of_getElem? (i := 153) (by decide +kernel)⟩
theorem lw_p3 : lw_okq (⟨"PixelFormula$Compiler", "next", "()C"⟩, 5) := ⟨⟨by decide +kernel, by decide +kernel⟩, List.mem_of_getElem? (i := 68) (by decide +kernel), List.mem_of_getElem? (i := 156) (by decide +kernel), List.mem_of_getElem? (i := 157) (by decide +kernel)⟩
theorem lw_p4 : lw_okq (⟨"PixelFormula$Compiler", "sum", "(I)I"⟩, 5) := ⟨⟨by decide +kernel, by decide +kernel⟩, List.mem_of_getElem? (i := 68) (by decide +kernel), List.mem_of_getElem? (i := 166) (by decide +kernel), List.mem_of_getElem? (i := 167) (by decide +kernel)⟩
theorem lw_p5 : lw_okq (⟨"PixelFormula$Compiler", "product", "(I)I"⟩, 5) := ⟨⟨by decide +kernel, by decide +kernel⟩, List.mem_of_getElem? (i := 68) (by decide +kernel), List.mem_of_getElem? (i := 170) (by decide +kernel), List.mem_of_getElem? (i := 171) (by decide +kernel)⟩
theorem lw_p6 : lw_okq (⟨"PixelFormula$Compiler", "unit", "(I)I"⟩, 5) := ⟨⟨by decide +kernel, by decide +kernel⟩, List.mem_of_getElem? (i := 68) (by decide +kernel), List.mem_of_getElem? (i := 174) (by decide +kernel), List.mem_of_getElem? (i := 175) (by decide +kernel)⟩
theorem lw_p7 : lw_okq (⟨"PixelFormula$Compiler", "takes", "(C)Z"⟩, 5) := ⟨⟨by decide +kernel, by decide +kernel⟩, List.mem_of_getElem? (i := 68) (by decide +kernel), List.mem_of_getElem? (i := 178) (by decide +kernel), List.mem_of_getElem? (i := 179) (by decide +kernel)⟩
theorem lw_p8 : lw_okq (⟨"PixelFormula$Compiler", "constant", "()I"⟩, 5) := ⟨⟨by decide +kernel, by decide +kernel⟩, List.mem_of_getElem? (i := 68) (by decide +kernel), List.mem_of_getElem? (i := 185) (by decide +kernel), List.mem_of_getElem? (i := 186) (by decide +kernel)⟩
theorem lw_p9 : lw_okq (⟨"PixelFormula$Compiler", "digit", "()I"⟩, 5) := ⟨⟨by decide +kernel, by decide +kernel⟩, List.mem_of_getElem? (i := 68) (by decide +kernel), List.mem_of_getElem? (i := 189) (by decide +kernel), List.mem_of_getElem? (i := 190) (by decide +kernel)⟩
theorem lw_p10 : lw_okq (⟨"PixelFormula$Compiler", "part", "(I)I"⟩, 5) := ⟨⟨by decide +kernel, by decide +kernel⟩, List.mem_of_getElem? (i := 68) (by decide +kernel), List.mem_of_getElem? (i := 204) (by decide +kernel), List.mem_of_getElem? (i := 205) (by decide +kernel)⟩
theorem lw_p11 : lw_okq (⟨"PixelFormula$Compiler", "letter", "(C)I"⟩, 5) := ⟨⟨by decide +kernel, by decide +kernel⟩, List.mem_of_getElem? (i := 68) (by decide +kernel), List.mem_of_getElem? (i := 208) (by decide +kernel), List.mem_of_getElem? (i := 209) (by decide +kernel)⟩
theorem lw_p12 : lw_okq (⟨"PixelFormula$Compiler", "input", "(II)I"⟩, 5) := ⟨⟨by decide +kernel, by decide +kernel⟩, List.mem_of_getElem? (i := 68) (by decide +kernel), List.mem_of_getElem? (i := 212) (by decide +kernel), List.mem_of_getElem? (i := 213) (by decide +kernel)⟩
theorem lw_p13 : lw_okq (⟨"PixelFormula$Compiler", "function", "(CI)I"⟩, 5) := ⟨⟨by decide +kernel, by decide +kernel⟩, List.mem_of_getElem? (i := 68) (by decide +kernel), List.mem_of_getElem? (i := 216) (by decide +kernel), List.mem_of_getElem? (i := 217) (by decide +kernel)⟩
theorem lw_p14 : lw_okq (⟨"PixelFormula$Compiler", "each", "(II)I"⟩, 5) := ⟨⟨by decide +kernel, by decide +kernel⟩, List.mem_of_getElem? (i := 68) (by decide +kernel), List.mem_of_getElem? (i := 220) (by decide +kernel), List.mem_of_getElem? (i := 221) (by decide +kernel)⟩
theorem lw_p15 : lw_okq (⟨"PixelFormula$Compiler", "vector", "(I)I"⟩, 5) := ⟨⟨by decide +kernel, by decide +kernel⟩, List.mem_of_getElem? (i := 68) (by decide +kernel), List.mem_of_getElem? (i := 230) (by decide +kernel), List.mem_of_getElem? (i := 231) (by decide +kernel)⟩
def lw_privs_1 : List (MethodName × Nat) := [(⟨"PixelFormula$Compiler", "start", "([CI)V"⟩, 5), (⟨"PixelFormula$Compiler", "isAssignmentNext", "()Z"⟩, 5), (⟨"PixelFormula$Compiler", "assignment", "()Z"⟩, 5), (⟨"PixelFormula$Compiler", "next", "()C"⟩, 5), (⟨"PixelFormula$Compiler", "sum", "(I)I"⟩, 5), (⟨"PixelFormula$Compiler", "product", "(I)I"⟩, 5), (⟨"PixelFormula$Compiler", "unit", "(I)I"⟩, 5), (⟨"PixelFormula$Compiler", "takes", "(C)Z"⟩, 5), (⟨"PixelFormula$Compiler", "constant", "()I"⟩, 5), (⟨"PixelFormula$Compiler", "digit", "()I"⟩, 5), (⟨"PixelFormula$Compiler", "part", "(I)I"⟩, 5), (⟨"PixelFormula$Compiler", "letter", "(C)I"⟩, 5), (⟨"PixelFormula$Compiler", "input", "(II)I"⟩, 5), (⟨"PixelFormula$Compiler", "function", "(CI)I"⟩, 5), (⟨"PixelFormula$Compiler", "each", "(II)I"⟩, 5), (⟨"PixelFormula$Compiler", "vector", "(I)I"⟩, 5)]
theorem lw_r1 : ∀ q ∈ lw_privs_1, lw_okq q := List.forall_mem_cons.mpr ⟨lw_p0, List.forall_mem_cons.mpr ⟨lw_p1, List.forall_mem_cons.mpr ⟨lw_p2, List.forall_mem_cons.mpr ⟨lw_p3, List.forall_mem_cons.mpr ⟨lw_p4, List.forall_mem_cons.mpr ⟨lw_p5, List.forall_mem_cons.mpr ⟨lw_p6, List.forall_mem_cons.mpr ⟨lw_p7, List.forall_mem_cons.mpr ⟨lw_p8, List.forall_mem_cons.mpr ⟨lw_p9, List.forall_mem_cons.mpr ⟨lw_p10, List.forall_mem_cons.mpr ⟨lw_p11, List.forall_mem_cons.mpr ⟨lw_p12, List.forall_mem_cons.mpr ⟨lw_p13, List.forall_mem_cons.mpr ⟨lw_p14, List.forall_mem_cons.mpr ⟨lw_p15, fun _ h => absurd h List.not_mem_nil⟩⟩⟩⟩⟩⟩⟩⟩⟩⟩⟩⟩⟩⟩⟩⟩
theorem lw_p16 : lw_okq (⟨"PixelFormula$Compiler", "joined", "(II)I"⟩, 5) := ⟨⟨by decide +kernel, by decide +kernel⟩, List.mem_of_getElem? (i := 68) (by decide +kernel), List.mem_of_getElem? (i := 234) (by decide +kernel), List.mem_of_getElem? (i := 235) (by decide +kernel)⟩
theorem lw_p17 : lw_okq (⟨"PixelFormula$Compiler", "functionOfTwo", "(CI)I"⟩, 5) := ⟨⟨by decide +kernel, by decide +kernel⟩, List.mem_of_getElem? (i := 68) (by decide +kernel), List.mem_of_getElem? (i := 241) (by decide +kernel), List.mem_of_getElem? (i := 242) (by decide +kernel)⟩
theorem lw_p18 : lw_okq (⟨"PixelFormula$Compiler", "pairwise", "(III)I"⟩, 5) := ⟨⟨by decide +kernel, by decide +kernel⟩, List.mem_of_getElem? (i := 68) (by decide +kernel), List.mem_of_getElem? (i := 245) (by decide +kernel), List.mem_of_getElem? (i := 246) (by decide +kernel)⟩
theorem lw_p19 : lw_okq (⟨"PixelFormula$Compiler", "dotted", "(II)I"⟩, 5) := ⟨⟨by decide +kernel, by decide +kernel⟩, List.mem_of_getElem? (i := 68) (by decide +kernel), List.mem_of_getElem? (i := 257) (by decide +kernel), List.mem_of_getElem? (i := 258) (by decide +kernel)⟩
theorem lw_p20 : lw_okq (⟨"PixelFormula$Compiler", "matrix", "(II)I"⟩, 5) := ⟨⟨by decide +kernel, by decide +kernel⟩, List.mem_of_getElem? (i := 68) (by decide +kernel), List.mem_of_getElem? (i := 261) (by decide +kernel), List.mem_of_getElem? (i := 262) (by decide +kernel)⟩
theorem lw_p21 : lw_okq (⟨"PixelFormula$Compiler", "picked", "(I)I"⟩, 5) := ⟨⟨by decide +kernel, by decide +kernel⟩, List.mem_of_getElem? (i := 68) (by decide +kernel), List.mem_of_getElem? (i := 265) (by decide +kernel), List.mem_of_getElem? (i := 266) (by decide +kernel)⟩
theorem lw_p22 : lw_okq (⟨"PixelFormula$Compiler", "times", "(II)I"⟩, 5) := ⟨⟨by decide +kernel, by decide +kernel⟩, List.mem_of_getElem? (i := 68) (by decide +kernel), List.mem_of_getElem? (i := 269) (by decide +kernel), List.mem_of_getElem? (i := 270) (by decide +kernel)⟩
theorem lw_p23 : lw_okq (⟨"PixelFormula$Compiler", "timesColumns", "(II)I"⟩, 5) := ⟨⟨by decide +kernel, by decide +kernel⟩, List.mem_of_getElem? (i := 68) (by decide +kernel), List.mem_of_getElem? (i := 273) (by decide +kernel), List.mem_of_getElem? (i := 274) (by decide +kernel)⟩
theorem lw_p24 : lw_okq (⟨"PixelFormula$Compiler", "dividedBy", "(II)I"⟩, 5) := ⟨⟨by decide +kernel, by decide +kernel⟩, List.mem_of_getElem? (i := 68) (by decide +kernel), List.mem_of_getElem? (i := 277) (by decide +kernel), List.mem_of_getElem? (i := 278) (by decide +kernel)⟩
theorem lw_p25 : lw_okq (⟨"PixelFormula$Compiler", "finish", "(I)V"⟩, 5) := ⟨⟨by decide +kernel, by decide +kernel⟩, List.mem_of_getElem? (i := 68) (by decide +kernel), List.mem_of_getElem? (i := 281) (by decide +kernel), List.mem_of_getElem? (i := 282) (by decide +kernel)⟩
theorem lw_p26 : lw_okq (⟨"java/lang/Throwable", "fillInStackTrace", "(I)Ljava/lang/Throwable;"⟩, 6) := ⟨⟨by decide +kernel, by decide +kernel⟩, List.mem_of_getElem? (i := 340) (by decide +kernel), List.mem_of_getElem? (i := 338) (by decide +kernel), List.mem_of_getElem? (i := 339) (by decide +kernel)⟩
theorem lw_p27 : lw_okq (⟨"PixelFormula", "isInstruction", "(I)Z"⟩, 6) := ⟨⟨by decide +kernel, by decide +kernel⟩, List.mem_of_getElem? (i := 16) (by decide +kernel), List.mem_of_getElem? (i := 388) (by decide +kernel), List.mem_of_getElem? (i := 389) (by decide +kernel)⟩
theorem lw_p28 : lw_okq (⟨"PixelFormula", "hasCode", "()Z"⟩, 6) := ⟨⟨by decide +kernel, by decide +kernel⟩, List.mem_of_getElem? (i := 16) (by decide +kernel), List.mem_of_getElem? (i := 414) (by decide +kernel), List.mem_of_getElem? (i := 415) (by decide +kernel)⟩
theorem lw_p29 : lw_okq (⟨"PixelFormula$Machine", "make", "(III)I"⟩, 2) := ⟨⟨by decide +kernel, by decide +kernel⟩, List.mem_of_getElem? (i := 92) (by decide +kernel), List.mem_of_getElem? (i := 440) (by decide +kernel), List.mem_of_getElem? (i := 441) (by decide +kernel)⟩
theorem lw_p30 : lw_okq (⟨"PixelFormulaModel", "begin", "()V"⟩, 29) := ⟨⟨by decide +kernel, by decide +kernel⟩, List.mem_of_getElem? (i := 498) (by decide +kernel), List.mem_of_getElem? (i := 608) (by decide +kernel), List.mem_of_getElem? (i := 609) (by decide +kernel)⟩
theorem lw_p31 : lw_okq (⟨"PixelFormulaModel", "look", "(I)I"⟩, 29) := ⟨⟨by decide +kernel, by decide +kernel⟩, List.mem_of_getElem? (i := 498) (by decide +kernel), List.mem_of_getElem? (i := 612) (by decide +kernel), List.mem_of_getElem? (i := 613) (by decide +kernel)⟩
def lw_privs_2 : List (MethodName × Nat) := [(⟨"PixelFormula$Compiler", "joined", "(II)I"⟩, 5), (⟨"PixelFormula$Compiler", "functionOfTwo", "(CI)I"⟩, 5), (⟨"PixelFormula$Compiler", "pairwise", "(III)I"⟩, 5), (⟨"PixelFormula$Compiler", "dotted", "(II)I"⟩, 5), (⟨"PixelFormula$Compiler", "matrix", "(II)I"⟩, 5), (⟨"PixelFormula$Compiler", "picked", "(I)I"⟩, 5), (⟨"PixelFormula$Compiler", "times", "(II)I"⟩, 5), (⟨"PixelFormula$Compiler", "timesColumns", "(II)I"⟩, 5), (⟨"PixelFormula$Compiler", "dividedBy", "(II)I"⟩, 5), (⟨"PixelFormula$Compiler", "finish", "(I)V"⟩, 5), (⟨"java/lang/Throwable", "fillInStackTrace", "(I)Ljava/lang/Throwable;"⟩, 6), (⟨"PixelFormula", "isInstruction", "(I)Z"⟩, 6), (⟨"PixelFormula", "hasCode", "()Z"⟩, 6), (⟨"PixelFormula$Machine", "make", "(III)I"⟩, 2), (⟨"PixelFormulaModel", "begin", "()V"⟩, 29), (⟨"PixelFormulaModel", "look", "(I)I"⟩, 29)]
theorem lw_r2 : ∀ q ∈ lw_privs_2, lw_okq q := List.forall_mem_cons.mpr ⟨lw_p16, List.forall_mem_cons.mpr ⟨lw_p17, List.forall_mem_cons.mpr ⟨lw_p18, List.forall_mem_cons.mpr ⟨lw_p19, List.forall_mem_cons.mpr ⟨lw_p20, List.forall_mem_cons.mpr ⟨lw_p21, List.forall_mem_cons.mpr ⟨lw_p22, List.forall_mem_cons.mpr ⟨lw_p23, List.forall_mem_cons.mpr ⟨lw_p24, List.forall_mem_cons.mpr ⟨lw_p25, List.forall_mem_cons.mpr ⟨lw_p26, List.forall_mem_cons.mpr ⟨lw_p27, List.forall_mem_cons.mpr ⟨lw_p28, List.forall_mem_cons.mpr ⟨lw_p29, List.forall_mem_cons.mpr ⟨lw_p30, List.forall_mem_cons.mpr ⟨lw_p31, fun _ h => absurd h List.not_mem_nil⟩⟩⟩⟩⟩⟩⟩⟩⟩⟩⟩⟩⟩⟩⟩⟩
theorem lw_p32 : lw_okq (⟨"PixelFormulaModel", "operator", "()Z"⟩, 29) := ⟨⟨by decide +kernel, by decide +kernel⟩, List.mem_of_getElem? (i := 498) (by decide +kernel), List.mem_of_getElem? (i := 622) (by decide +kernel), List.mem_of_getElem? (i := 623) (by decide +kernel)⟩
theorem lw_p33 : lw_okq (⟨"PixelFormulaModel", "close", "()V"⟩, 29) := ⟨⟨by decide +kernel, by decide +kernel⟩, List.mem_of_getElem? (i := 498) (by decide +kernel), List.mem_of_getElem? (i := 626) (by decide +kernel), List.mem_of_getElem? (i := 627) (by decide +kernel)⟩
theorem lw_p34 : lw_okq (⟨"PixelFormulaModel", "settle", "(Z)V"⟩, 29) := ⟨⟨by decide +kernel, by decide +kernel⟩, List.mem_of_getElem? (i := 498) (by decide +kernel), List.mem_of_getElem? (i := 630) (by decide +kernel), List.mem_of_getElem? (i := 631) (by decide +kernel)⟩
theorem lw_p35 : lw_okq (⟨"PixelFormulaModel", "top", "()I"⟩, 29) := ⟨⟨by decide +kernel, by decide +kernel⟩, List.mem_of_getElem? (i := 498) (by decide +kernel), List.mem_of_getElem? (i := 634) (by decide +kernel), List.mem_of_getElem? (i := 635) (by decide +kernel)⟩
theorem lw_p36 : lw_okq (⟨"PixelFormulaModel", "operate", "(I)V"⟩, 29) := ⟨⟨by decide +kernel, by decide +kernel⟩, List.mem_of_getElem? (i := 498) (by decide +kernel), List.mem_of_getElem? (i := 641) (by decide +kernel), List.mem_of_getElem? (i := 642) (by decide +kernel)⟩
theorem lw_p37 : lw_okq (⟨"PixelFormulaModel", "columns", "(III)V"⟩, 29) := ⟨⟨by decide +kernel, by decide +kernel⟩, List.mem_of_getElem? (i := 498) (by decide +kernel), List.mem_of_getElem? (i := 645) (by decide +kernel), List.mem_of_getElem? (i := 646) (by decide +kernel)⟩
theorem lw_p38 : lw_okq (⟨"PixelFormulaModel", "number", "(II)I"⟩, 29) := ⟨⟨by decide +kernel, by decide +kernel⟩, List.mem_of_getElem? (i := 498) (by decide +kernel), List.mem_of_getElem? (i := 649) (by decide +kernel), List.mem_of_getElem? (i := 650) (by decide +kernel)⟩
theorem lw_p39 : lw_okq (⟨"PixelFormulaModel", "put", "(III)I"⟩, 29) := ⟨⟨by decide +kernel, by decide +kernel⟩, List.mem_of_getElem? (i := 498) (by decide +kernel), List.mem_of_getElem? (i := 653) (by decide +kernel), List.mem_of_getElem? (i := 654) (by decide +kernel)⟩
theorem lw_p40 : lw_okq (⟨"PixelFormulaModel", "pushMade", "(I)V"⟩, 29) := ⟨⟨by decide +kernel, by decide +kernel⟩, List.mem_of_getElem? (i := 498) (by decide +kernel), List.mem_of_getElem? (i := 657) (by decide +kernel), List.mem_of_getElem? (i := 658) (by decide +kernel)⟩
theorem lw_p41 : lw_okq (⟨"PixelFormulaModel", "push", "(I)V"⟩, 29) := ⟨⟨by decide +kernel, by decide +kernel⟩, List.mem_of_getElem? (i := 498) (by decide +kernel), List.mem_of_getElem? (i := 661) (by decide +kernel), List.mem_of_getElem? (i := 662) (by decide +kernel)⟩
theorem lw_p42 : lw_okq (⟨"PixelFormulaModel", "pairwise", "(III)V"⟩, 29) := ⟨⟨by decide +kernel, by decide +kernel⟩, List.mem_of_getElem? (i := 498) (by decide +kernel), List.mem_of_getElem? (i := 665) (by decide +kernel), List.mem_of_getElem? (i := 666) (by decide +kernel)⟩
theorem lw_p43 : lw_okq (⟨"PixelFormulaModel", "call", "(II)V"⟩, 29) := ⟨⟨by decide +kernel, by decide +kernel⟩, List.mem_of_getElem? (i := 498) (by decide +kernel), List.mem_of_getElem? (i := 672) (by decide +kernel), List.mem_of_getElem? (i := 673) (by decide +kernel)⟩
theorem lw_p44 : lw_okq (⟨"PixelFormulaModel", "each", "(I)V"⟩, 29) := ⟨⟨by decide +kernel, by decide +kernel⟩, List.mem_of_getElem? (i := 498) (by decide +kernel), List.mem_of_getElem? (i := 676) (by decide +kernel), List.mem_of_getElem? (i := 677) (by decide +kernel)⟩
theorem lw_p45 : lw_okq (⟨"PixelFormulaModel", "dot", "(II)V"⟩, 29) := ⟨⟨by decide +kernel, by decide +kernel⟩, List.mem_of_getElem? (i := 498) (by decide +kernel), List.mem_of_getElem? (i := 680) (by decide +kernel), List.mem_of_getElem? (i := 681) (by decide +kernel)⟩
theorem lw_p46 : lw_okq (⟨"PixelFormulaModel", "join", "(I)V"⟩, 29) := ⟨⟨by decide +kernel, by decide +kernel⟩, List.mem_of_getElem? (i := 498) (by decide +kernel), List.mem_of_getElem? (i := 684) (by decide +kernel), List.mem_of_getElem? (i := 685) (by decide +kernel)⟩
theorem lw_p47 : lw_okq (⟨"PixelFormulaModel", "matrix", "(II)V"⟩, 29) := ⟨⟨by decide +kernel, by decide +kernel⟩, List.mem_of_getElem? (i := 498) (by decide +kernel), List.mem_of_getElem? (i := 688) (by decide +kernel), List.mem_of_getElem? (i := 689) (by decide +kernel)⟩
def lw_privs_3 : List (MethodName × Nat) := [(⟨"PixelFormulaModel", "operator", "()Z"⟩, 29), (⟨"PixelFormulaModel", "close", "()V"⟩, 29), (⟨"PixelFormulaModel", "settle", "(Z)V"⟩, 29), (⟨"PixelFormulaModel", "top", "()I"⟩, 29), (⟨"PixelFormulaModel", "operate", "(I)V"⟩, 29), (⟨"PixelFormulaModel", "columns", "(III)V"⟩, 29), (⟨"PixelFormulaModel", "number", "(II)I"⟩, 29), (⟨"PixelFormulaModel", "put", "(III)I"⟩, 29), (⟨"PixelFormulaModel", "pushMade", "(I)V"⟩, 29), (⟨"PixelFormulaModel", "push", "(I)V"⟩, 29), (⟨"PixelFormulaModel", "pairwise", "(III)V"⟩, 29), (⟨"PixelFormulaModel", "call", "(II)V"⟩, 29), (⟨"PixelFormulaModel", "each", "(I)V"⟩, 29), (⟨"PixelFormulaModel", "dot", "(II)V"⟩, 29), (⟨"PixelFormulaModel", "join", "(I)V"⟩, 29), (⟨"PixelFormulaModel", "matrix", "(II)V"⟩, 29)]
theorem lw_r3 : ∀ q ∈ lw_privs_3, lw_okq q := List.forall_mem_cons.mpr ⟨lw_p32, List.forall_mem_cons.mpr ⟨lw_p33, List.forall_mem_cons.mpr ⟨lw_p34, List.forall_mem_cons.mpr ⟨lw_p35, List.forall_mem_cons.mpr ⟨lw_p36, List.forall_mem_cons.mpr ⟨lw_p37, List.forall_mem_cons.mpr ⟨lw_p38, List.forall_mem_cons.mpr ⟨lw_p39, List.forall_mem_cons.mpr ⟨lw_p40, List.forall_mem_cons.mpr ⟨lw_p41, List.forall_mem_cons.mpr ⟨lw_p42, List.forall_mem_cons.mpr ⟨lw_p43, List.forall_mem_cons.mpr ⟨lw_p44, List.forall_mem_cons.mpr ⟨lw_p45, List.forall_mem_cons.mpr ⟨lw_p46, List.forall_mem_cons.mpr ⟨lw_p47, fun _ h => absurd h List.not_mem_nil⟩⟩⟩⟩⟩⟩⟩⟩⟩⟩⟩⟩⟩⟩⟩⟩
theorem lw_p48 : lw_okq (⟨"PixelFormulaModel", "finish", "(Z)V"⟩, 29) := ⟨⟨by decide +kernel, by decide +kernel⟩, List.mem_of_getElem? (i := 498) (by decide +kernel), List.mem_of_getElem? (i := 692) (by decide +kernel), List.mem_of_getElem? (i := 693) (by decide +kernel)⟩
theorem lw_p49 : lw_okq (⟨"PixelFormulaModel", "hold", "(I)V"⟩, 29) := ⟨⟨by decide +kernel, by decide +kernel⟩, List.mem_of_getElem? (i := 498) (by decide +kernel), List.mem_of_getElem? (i := 696) (by decide +kernel), List.mem_of_getElem? (i := 697) (by decide +kernel)⟩
theorem lw_p50 : lw_okq (⟨"PixelFormulaModel", "assign", "()V"⟩, 29) := ⟨⟨by decide +kernel, by decide +kernel⟩, List.mem_of_getElem? (i := 498) (by decide +kernel), List.mem_of_getElem? (i := 700) (by decide +kernel), List.mem_of_getElem? (i := 701) (by decide +kernel)⟩
theorem lw_p51 : lw_okq (⟨"PixelFormulaModel", "operand", "()Z"⟩, 29) := ⟨⟨by decide +kernel, by decide +kernel⟩, List.mem_of_getElem? (i := 498) (by decide +kernel), List.mem_of_getElem? (i := 704) (by decide +kernel), List.mem_of_getElem? (i := 705) (by decide +kernel)⟩
theorem lw_p52 : lw_okq (⟨"PixelFormulaModel", "bracket", "(I)V"⟩, 29) := ⟨⟨by decide +kernel, by decide +kernel⟩, List.mem_of_getElem? (i := 498) (by decide +kernel), List.mem_of_getElem? (i := 708) (by decide +kernel), List.mem_of_getElem? (i := 709) (by decide +kernel)⟩
theorem lw_p53 : lw_okq (⟨"PixelFormulaModel", "constant", "()V"⟩, 29) := ⟨⟨by decide +kernel, by decide +kernel⟩, List.mem_of_getElem? (i := 498) (by decide +kernel), List.mem_of_getElem? (i := 715) (by decide +kernel), List.mem_of_getElem? (i := 716) (by decide +kernel)⟩
theorem lw_p54 : lw_okq (⟨"PixelFormulaModel", "letter", "()V"⟩, 29) := ⟨⟨by decide +kernel, by decide +kernel⟩, List.mem_of_getElem? (i := 498) (by decide +kernel), List.mem_of_getElem? (i := 721) (by decide +kernel), List.mem_of_getElem? (i := 722) (by decide +kernel)⟩
theorem lw_p55 : lw_okq (⟨"PixelFormulaModel", "keep", "()V"⟩, 29) := ⟨⟨by decide +kernel, by decide +kernel⟩, List.mem_of_getElem? (i := 498) (by decide +kernel), List.mem_of_getElem? (i := 725) (by decide +kernel), List.mem_of_getElem? (i := 726) (by decide +kernel)⟩
theorem lw_p56 : lw_okq (⟨"PixelFormulaModel", "evaluate", "(IIIII)V"⟩, 29) := ⟨⟨by decide +kernel, by decide +kernel⟩, List.mem_of_getElem? (i := 498) (by decide +kernel), List.mem_of_getElem? (i := 753) (by decide +kernel), List.mem_of_getElem? (i := 754) (by decide +kernel)⟩
def lw_privs_4 : List (MethodName × Nat) := [(⟨"PixelFormulaModel", "finish", "(Z)V"⟩, 29), (⟨"PixelFormulaModel", "hold", "(I)V"⟩, 29), (⟨"PixelFormulaModel", "assign", "()V"⟩, 29), (⟨"PixelFormulaModel", "operand", "()Z"⟩, 29), (⟨"PixelFormulaModel", "bracket", "(I)V"⟩, 29), (⟨"PixelFormulaModel", "constant", "()V"⟩, 29), (⟨"PixelFormulaModel", "letter", "()V"⟩, 29), (⟨"PixelFormulaModel", "keep", "()V"⟩, 29), (⟨"PixelFormulaModel", "evaluate", "(IIIII)V"⟩, 29)]
theorem lw_r4 : ∀ q ∈ lw_privs_4, lw_okq q := List.forall_mem_cons.mpr ⟨lw_p48, List.forall_mem_cons.mpr ⟨lw_p49, List.forall_mem_cons.mpr ⟨lw_p50, List.forall_mem_cons.mpr ⟨lw_p51, List.forall_mem_cons.mpr ⟨lw_p52, List.forall_mem_cons.mpr ⟨lw_p53, List.forall_mem_cons.mpr ⟨lw_p54, List.forall_mem_cons.mpr ⟨lw_p55, List.forall_mem_cons.mpr ⟨lw_p56, fun _ h => absurd h List.not_mem_nil⟩⟩⟩⟩⟩⟩⟩⟩⟩
def lw_privs : List (MethodName × Nat) := lw_privs_1 ++ (lw_privs_2 ++ (lw_privs_3 ++ (lw_privs_4)))
def lw_tbl : List Cond := k2_sels lw_privs ++ tables_1
theorem lw_privs_ok : ∀ q ∈ lw_privs, lw_okq q := by
  show ∀ q ∈ lw_privs_1 ++ (lw_privs_2 ++ (lw_privs_3 ++ (lw_privs_4))), lw_okq q
  exact List.forall_mem_append.mpr ⟨lw_r1, List.forall_mem_append.mpr ⟨lw_r2, List.forall_mem_append.mpr ⟨lw_r3, lw_r4⟩⟩⟩
end
section
def wA : List Cond := lw_tbl.filter goodWord
theorem wA_in {w : Cond} (h : w ∈ lw_tbl) (g : goodWord w = true) : w ∈ wA := List.mem_filter.mpr ⟨h, g⟩
theorem wA_good {w : Cond} (h : w ∈ wA) : goodWord w = true := (List.mem_filter.mp h).2
theorem wA_tbl {w : Cond} (h : w ∈ wA) : w ∈ lw_tbl := (List.mem_filter.mp h).1
theorem tb_in (i : Nat) {w : Cond} (h : tables_1[i]? = some w) (g : goodWord w = true) : w ∈ wA := wA_in (List.mem_append_right _ (List.mem_of_getElem? h)) g
theorem sl_in {w : Cond} (h : w ∈ k2_sels lw_privs) (g : goodWord w = true) : w ∈ wA := wA_in (List.mem_append_left _ h) g
theorem wA_V {own C : String} {index maxL : Nat} {y : MethodName} {bytes : ByteArray} {ret : Option FieldType} (h1 : Cond.methodLink own index y ∈ wA) (h2 : Cond.instanceMethod y ∈ wA) (h3 : Cond.selects C y y ∈ wA) (h4 : Cond.initialized C ∈ wA) (h5 : Cond.code y bytes maxL ret ∈ wA) : GoodIn wA (wsV own index C y (Cond.code y bytes maxL ret :: wA)) := by
  have key : ∀ w ∈ wsV own index C y (Cond.code y bytes maxL ret :: wA), w ∈ wA := by
    intro w hw
    unfold wsV at hw
    rcases List.mem_append.mp hw with hw | hw
    · simp only [List.mem_cons, List.not_mem_nil, or_false] at hw
      rcases hw with rfl | rfl | rfl | rfl <;> assumption
    · rcases List.mem_cons.mp hw with rfl | hw
      · exact h5
      · exact hw
  exact fun w hw => ⟨key w hw, good_of_word (wA_good (key w hw))⟩
theorem wA_S {own : String} {index maxL : Nat} {y : MethodName} {bytes : ByteArray} {ret : Option FieldType} (h1 : Cond.methodLink own index y ∈ wA) (h2 : Cond.static y ∈ wA) (h4 : Cond.initialized y.cls ∈ wA) (h5 : Cond.code y bytes maxL ret ∈ wA) : GoodIn wA (va_wsS own index y (Cond.code y bytes maxL ret :: wA)) := by
  have key : ∀ w ∈ va_wsS own index y (Cond.code y bytes maxL ret :: wA), w ∈ wA := by
    intro w hw
    unfold va_wsS at hw
    rcases List.mem_append.mp hw with hw | hw
    · simp only [List.mem_cons, List.not_mem_nil, or_false] at hw
      rcases hw with rfl | rfl | rfl <;> assumption
    · rcases List.mem_cons.mp hw with rfl | hw
      · exact h5
      · exact hw
  exact fun w hw => ⟨key w hw, good_of_word (wA_good (key w hw))⟩
theorem cw_V {R : Room} {s : State} {args : Array Value} {own C : String} {index maxL : Nat} {y : MethodName} {bytes : ByteArray} {ret : Option FieldType} {rm : Room} (n : Nat) (ht : ∀ w ∈ wA, w.before args s = true) (h1 : Cond.methodLink own index y ∈ wA) (h2 : Cond.instanceMethod y ∈ wA) (h3 : Cond.selects C y y ∈ wA) (h4 : Cond.initialized C ∈ wA) (h5 : Cond.code y bytes maxL ret ∈ wA) (hrc : rm.cells = 0) (hrs : rm.slots = 0) (hC : y.cls = C)
    (hd : y.cls ≠ "java/lang/invoke/MethodHandle" ∧ y.cls ≠ "java/lang/invoke/VarHandle" ∧ (parseMethodDescriptor y.desc).map (fun d => d.parameters.length) = some n) (hR : rm.frames + 1 ≤ R.frames ∧ 8 + (maxL + 11) + rm.locals ≤ R.locals) : CallW R s args own C index y bytes maxL ret (Cond.code y bytes maxL ret :: wA) rm 0 0 n :=
  cwV n ht (wA_V h1 h2 h3 h4 h5) rfl hrc hrs ⟨hC, hd⟩ hR
theorem cw_S {R : Room} {s : State} {args : Array Value} {own : String} {index maxL : Nat} {y : MethodName} {bytes : ByteArray} {ret : Option FieldType} {rm : Room} (n : Nat) (ht : ∀ w ∈ wA, w.before args s = true) (h1 : Cond.methodLink own index y ∈ wA) (h2 : Cond.static y ∈ wA) (h4 : Cond.initialized y.cls ∈ wA) (h5 : Cond.code y bytes maxL ret ∈ wA) (hrc : rm.cells = 0) (hrs : rm.slots = 0)
    (hd : y.cls ≠ "java/lang/invoke/MethodHandle" ∧ y.cls ≠ "java/lang/invoke/VarHandle" ∧ (parseMethodDescriptor y.desc).map (fun d => d.parameters.length) = some n) (hR : rm.frames + 1 ≤ R.frames ∧ 8 + (maxL + 11) + rm.locals ≤ R.locals) : CallB R s args own index y bytes maxL ret (Cond.code y bytes maxL ret :: wA) rm 0 0 n ∧ (Cond.static y).before args s = true :=
  va_cwS n ht (wA_S h1 h2 h4 h5) rfl hrc hrs hd hR
def R_K : String := "PixelFormula$Code"
def R_C : String := "PixelFormula$Compiler"
def R_H : String := "PixelFormula$Machine"
def R_N : String := "PixelFormula$Numbers"
def R_V : String := "PixelFormula$Value"
def R_P : String := "PixelFormula"
def R_M : String := "PixelFormulaModel"
def R_L : String := "PixelFormulaLaw"
def T_K : u_T := fun k => match k with
  | 0 => ("PixelFormula$Code", "kinds", "[I", true)
  | 1 => ("PixelFormula$Code", "firsts", "[I", true)
  | 2 => ("PixelFormula$Code", "seconds", "[I", true)
  | 3 => ("PixelFormula$Code", "results", "[I", true)
  | 4 => ("PixelFormula$Code", "variableTypes", "[I", true)
  | 5 => ("PixelFormula$Code", "count", "I", false)
  | _ => ("PixelFormula$Code", "isTooLong", "Z", false)
def ty_K : Nat → FieldType := fun k => match k with
  | 0 => .array .int
  | 1 => .array .int
  | 2 => .array .int
  | 3 => .array .int
  | 4 => .array .int
  | 5 => .int
  | _ => .boolean
theorem nm_K : ∀ a, a < 7 → ∀ b, b < 7 → a ≠ b → (T_K a).2.1 ≠ (T_K b).2.1 := by decide +kernel
theorem ty_K_ok : ∀ k, k < 7 → parseFieldDescriptor (T_K k).2.2.1 = some (ty_K k) := by decide +kernel
theorem in_K0 : ∀ w ∈ u_ws R_K T_K 7, w ∈ tables_1 ∧ goodWord w = true := by decide +kernel
theorem in_K : ∀ w ∈ u_ws R_K T_K 7, w ∈ wA := fun w h => wA_in (List.mem_append_right _ (in_K0 w h).1) (in_K0 w h).2
def T_C : u_T := fun k => match k with
  | 0 => ("PixelFormula$Compiler", "variables", "[I", true)
  | 1 => ("PixelFormula$Compiler", "text", "[C", false)
  | 2 => ("PixelFormula$Compiler", "length", "I", false)
  | 3 => ("PixelFormula$Compiler", "at", "I", false)
  | _ => ("PixelFormula$Compiler", "code", "LPixelFormula$Code;", false)
def ty_C : Nat → FieldType := fun k => match k with
  | 0 => .array .int
  | 1 => .array .char
  | 2 => .int
  | 3 => .int
  | _ => .object "PixelFormula$Code"
theorem nm_C : ∀ a, a < 5 → ∀ b, b < 5 → a ≠ b → (T_C a).2.1 ≠ (T_C b).2.1 := by decide +kernel
theorem ty_C_ok : ∀ k, k < 5 → parseFieldDescriptor (T_C k).2.2.1 = some (ty_C k) := by decide +kernel
theorem in_C0 : ∀ w ∈ u_ws R_C T_C 5, w ∈ tables_1 ∧ goodWord w = true := by decide +kernel
theorem in_C : ∀ w ∈ u_ws R_C T_C 5, w ∈ wA := fun w h => wA_in (List.mem_append_right _ (in_C0 w h).1) (in_C0 w h).2
def T_H : u_T := fun k => match k with
  | 0 => ("PixelFormula$Machine", "made", "[I", true)
  | _ => ("PixelFormula$Machine", "inputs", "[I", true)
def ty_H : Nat → FieldType := fun k => match k with
  | 0 => .array .int
  | _ => .array .int
theorem nm_H : ∀ a, a < 2 → ∀ b, b < 2 → a ≠ b → (T_H a).2.1 ≠ (T_H b).2.1 := by decide +kernel
theorem ty_H_ok : ∀ k, k < 2 → parseFieldDescriptor (T_H k).2.2.1 = some (ty_H k) := by decide +kernel
theorem in_H0 : ∀ w ∈ u_ws R_H T_H 2, w ∈ tables_1 ∧ goodWord w = true := by decide +kernel
theorem in_H : ∀ w ∈ u_ws R_H T_H 2, w ∈ wA := fun w h => wA_in (List.mem_append_right _ (in_H0 w h).1) (in_H0 w h).2
def T_P : u_T := fun k => match k with
  | 0 => ("PixelFormula", "text", "[C", true)
  | 1 => ("PixelFormula", "length", "I", false)
  | 2 => ("PixelFormula", "code", "LPixelFormula$Code;", false)
  | 3 => ("PixelFormula", "compiler", "LPixelFormula$Compiler;", true)
  | 4 => ("PixelFormula", "machine", "LPixelFormula$Machine;", true)
  | _ => ("PixelFormula", "picture", "[I", true)
def ty_P : Nat → FieldType := fun k => match k with
  | 0 => .array .char
  | 1 => .int
  | 2 => .object "PixelFormula$Code"
  | 3 => .object "PixelFormula$Compiler"
  | 4 => .object "PixelFormula$Machine"
  | _ => .array .int
theorem nm_P : ∀ a, a < 6 → ∀ b, b < 6 → a ≠ b → (T_P a).2.1 ≠ (T_P b).2.1 := by decide +kernel
theorem ty_P_ok : ∀ k, k < 6 → parseFieldDescriptor (T_P k).2.2.1 = some (ty_P k) := by decide +kernel
theorem in_P0 : ∀ w ∈ u_ws R_P T_P 6, w ∈ tables_1 ∧ goodWord w = true := by decide +kernel
theorem in_P : ∀ w ∈ u_ws R_P T_P 6, w ∈ wA := fun w h => wA_in (List.mem_append_right _ (in_P0 w h).1) (in_P0 w h).2
def T_M : u_T := fun k => match k with
  | 0 => ("PixelFormulaModel", "code", "I", false)
  | 1 => ("PixelFormulaModel", "length", "I", false)
  | 2 => ("PixelFormulaModel", "text", "[I", true)
  | 3 => ("PixelFormulaModel", "size", "I", false)
  | 4 => ("PixelFormulaModel", "kinds", "[I", true)
  | 5 => ("PixelFormulaModel", "firsts", "[I", true)
  | 6 => ("PixelFormulaModel", "seconds", "[I", true)
  | 7 => ("PixelFormulaModel", "results", "[I", true)
  | 8 => ("PixelFormulaModel", "types", "[I", true)
  | 9 => ("PixelFormulaModel", "draft", "I", false)
  | 10 => ("PixelFormulaModel", "draftKinds", "[I", true)
  | 11 => ("PixelFormulaModel", "draftFirsts", "[I", true)
  | 12 => ("PixelFormulaModel", "draftSeconds", "[I", true)
  | 13 => ("PixelFormulaModel", "draftTypes", "[I", true)
  | 14 => ("PixelFormulaModel", "variables", "[I", true)
  | 15 => ("PixelFormulaModel", "at", "I", false)
  | 16 => ("PixelFormulaModel", "wrong", "Z", false)
  | 17 => ("PixelFormulaModel", "values", "I", false)
  | 18 => ("PixelFormulaModel", "valueTypes", "[I", true)
  | 19 => ("PixelFormulaModel", "numbers", "[I", true)
  | 20 => ("PixelFormulaModel", "waiting", "I", false)
  | 21 => ("PixelFormulaModel", "waits", "[I", true)
  | 22 => ("PixelFormulaModel", "arguments", "[I", true)
  | 23 => ("PixelFormulaModel", "open", "I", false)
  | 24 => ("PixelFormulaModel", "target", "I", false)
  | 25 => ("PixelFormulaModel", "made", "[I", true)
  | 26 => ("PixelFormulaModel", "picture", "[I", true)
  | 27 => ("PixelFormulaModel", "next", "[I", true)
  | _ => ("PixelFormulaModel", "worth", "[I", true)
def ty_M : Nat → FieldType := fun k => match k with
  | 0 => .int
  | 1 => .int
  | 2 => .array .int
  | 3 => .int
  | 4 => .array .int
  | 5 => .array .int
  | 6 => .array .int
  | 7 => .array .int
  | 8 => .array .int
  | 9 => .int
  | 10 => .array .int
  | 11 => .array .int
  | 12 => .array .int
  | 13 => .array .int
  | 14 => .array .int
  | 15 => .int
  | 16 => .boolean
  | 17 => .int
  | 18 => .array .int
  | 19 => .array .int
  | 20 => .int
  | 21 => .array .int
  | 22 => .array .int
  | 23 => .int
  | 24 => .int
  | 25 => .array .int
  | 26 => .array .int
  | 27 => .array .int
  | _ => .array .int
theorem nm_M : ∀ a, a < 29 → ∀ b, b < 29 → a ≠ b → (T_M a).2.1 ≠ (T_M b).2.1 := by decide +kernel
theorem ty_M_ok : ∀ k, k < 29 → parseFieldDescriptor (T_M k).2.2.1 = some (ty_M k) := by decide +kernel
theorem in_M0 : ∀ w ∈ u_ws R_M T_M 29, w ∈ tables_1 ∧ goodWord w = true := by decide +kernel
theorem in_M : ∀ w ∈ u_ws R_M T_M 29, w ∈ wA := fun w h => wA_in (List.mem_append_right _ (in_M0 w h).1) (in_M0 w h).2
abbrev vC : List vw_C := [(R_K, T_K, 7), (R_C, T_C, 5), (R_H, T_H, 2), (R_P, T_P, 6), (R_M, T_M, 29)]
abbrev b_P_init : ByteArray := prog_1_method_1_code
def y_P_init : MethodName := ⟨R_P, "<init>", "()V"⟩
abbrev b_P_type : ByteArray := prog_1_method_2_code
def y_P_type : MethodName := ⟨R_P, "type", "(I)I"⟩
abbrev b_P_erase : ByteArray := prog_1_method_3_code
def y_P_erase : MethodName := ⟨R_P, "erase", "()V"⟩
abbrev b_P_compile : ByteArray := prog_1_method_4_code
def y_P_compile : MethodName := ⟨R_P, "compile", "()Z"⟩
abbrev b_P_size : ByteArray := prog_1_method_5_code
def y_P_size : MethodName := ⟨R_P, "size", "()I"⟩
abbrev b_P_instruction : ByteArray := prog_1_method_6_code
def y_P_instruction : MethodName := ⟨R_P, "instruction", "(II)I"⟩
abbrev b_P_result : ByteArray := prog_1_method_7_code
def y_P_result : MethodName := ⟨R_P, "result", "(I)I"⟩
abbrev b_P_typeOf : ByteArray := prog_1_method_8_code
def y_P_typeOf : MethodName := ⟨R_P, "typeOf", "(I)I"⟩
abbrev b_P_value : ByteArray := prog_1_method_9_code
def y_P_value : MethodName := ⟨R_P, "value", "(IIIII)I"⟩
abbrev b_P_paint : ByteArray := prog_1_method_10_code
def y_P_paint : MethodName := ⟨R_P, "paint", "(III)V"⟩
abbrev b_P_run : ByteArray := prog_1_method_11_code
def y_P_run : MethodName := ⟨R_P, "run", "(I)V"⟩
abbrev b_P_pixel : ByteArray := prog_1_method_12_code
def y_P_pixel : MethodName := ⟨R_P, "pixel", "(II)I"⟩
abbrev b_P_hasCode : ByteArray := prog_1_method_13_code
def y_P_hasCode : MethodName := ⟨R_P, "hasCode", "()Z"⟩
abbrev b_P_isInstruction : ByteArray := prog_1_method_14_code
def y_P_isInstruction : MethodName := ⟨R_P, "isInstruction", "(I)Z"⟩
abbrev b_P_isPoint : ByteArray := prog_1_method_15_code
def y_P_isPoint : MethodName := ⟨R_P, "isPoint", "(II)Z"⟩
abbrev b_P_isColor : ByteArray := prog_1_method_16_code
def y_P_isColor : MethodName := ⟨R_P, "isColor", "(I)Z"⟩
abbrev b_M_init : ByteArray := prog_8_method_1_code
def y_M_init : MethodName := ⟨R_M, "<init>", "()V"⟩
abbrev b_M_thrown : ByteArray := prog_8_method_2_code
def y_M_thrown : MethodName := ⟨R_M, "thrown", "()I"⟩
abbrev b_M_type : ByteArray := prog_8_method_3_code
def y_M_type : MethodName := ⟨R_M, "type", "(I)I"⟩
abbrev b_M_erase : ByteArray := prog_8_method_4_code
def y_M_erase : MethodName := ⟨R_M, "erase", "()V"⟩
abbrev b_M_look : ByteArray := prog_8_method_5_code
def y_M_look : MethodName := ⟨R_M, "look", "(I)I"⟩
abbrev b_M_put : ByteArray := prog_8_method_6_code
def y_M_put : MethodName := ⟨R_M, "put", "(III)I"⟩
abbrev b_M_push : ByteArray := prog_8_method_7_code
def y_M_push : MethodName := ⟨R_M, "push", "(I)V"⟩
abbrev b_M_pushMade : ByteArray := prog_8_method_8_code
def y_M_pushMade : MethodName := ⟨R_M, "pushMade", "(I)V"⟩
abbrev b_M_number : ByteArray := prog_8_method_9_code
def y_M_number : MethodName := ⟨R_M, "number", "(II)I"⟩
abbrev b_M_pairwise : ByteArray := prog_8_method_10_code
def y_M_pairwise : MethodName := ⟨R_M, "pairwise", "(III)V"⟩
abbrev b_M_columns : ByteArray := prog_8_method_11_code
def y_M_columns : MethodName := ⟨R_M, "columns", "(III)V"⟩
abbrev b_M_operate : ByteArray := prog_8_method_12_code
def y_M_operate : MethodName := ⟨R_M, "operate", "(I)V"⟩
abbrev b_M_isBinary : ByteArray := prog_8_method_13_code
def y_M_isBinary : MethodName := ⟨R_M, "isBinary", "(I)Z"⟩
abbrev b_M_top : ByteArray := prog_8_method_14_code
def y_M_top : MethodName := ⟨R_M, "top", "()I"⟩
abbrev b_M_settle : ByteArray := prog_8_method_15_code
def y_M_settle : MethodName := ⟨R_M, "settle", "(Z)V"⟩
abbrev b_M_each : ByteArray := prog_8_method_16_code
def y_M_each : MethodName := ⟨R_M, "each", "(I)V"⟩
abbrev b_M_dot : ByteArray := prog_8_method_17_code
def y_M_dot : MethodName := ⟨R_M, "dot", "(II)V"⟩
abbrev b_M_join : ByteArray := prog_8_method_18_code
def y_M_join : MethodName := ⟨R_M, "join", "(I)V"⟩
abbrev b_M_matrix : ByteArray := prog_8_method_19_code
def y_M_matrix : MethodName := ⟨R_M, "matrix", "(II)V"⟩
abbrev b_M_call : ByteArray := prog_8_method_20_code
def y_M_call : MethodName := ⟨R_M, "call", "(II)V"⟩
abbrev b_M_isDigit : ByteArray := prog_8_method_21_code
def y_M_isDigit : MethodName := ⟨R_M, "isDigit", "(I)Z"⟩
abbrev b_M_isSmall : ByteArray := prog_8_method_22_code
def y_M_isSmall : MethodName := ⟨R_M, "isSmall", "(I)Z"⟩
abbrev b_M_isFunction : ByteArray := prog_8_method_23_code
def y_M_isFunction : MethodName := ⟨R_M, "isFunction", "(I)Z"⟩
abbrev b_M_isGiven : ByteArray := prog_8_method_24_code
def y_M_isGiven : MethodName := ⟨R_M, "isGiven", "(I)Z"⟩
abbrev b_M_constant : ByteArray := prog_8_method_25_code
def y_M_constant : MethodName := ⟨R_M, "constant", "()V"⟩
abbrev b_M_letter : ByteArray := prog_8_method_26_code
def y_M_letter : MethodName := ⟨R_M, "letter", "()V"⟩
abbrev b_M_finish : ByteArray := prog_8_method_27_code
def y_M_finish : MethodName := ⟨R_M, "finish", "(Z)V"⟩
abbrev b_M_hold : ByteArray := prog_8_method_28_code
def y_M_hold : MethodName := ⟨R_M, "hold", "(I)V"⟩
abbrev b_M_bracket : ByteArray := prog_8_method_29_code
def y_M_bracket : MethodName := ⟨R_M, "bracket", "(I)V"⟩
abbrev b_M_operand : ByteArray := prog_8_method_30_code
def y_M_operand : MethodName := ⟨R_M, "operand", "()Z"⟩
abbrev b_M_close : ByteArray := prog_8_method_31_code
def y_M_close : MethodName := ⟨R_M, "close", "()V"⟩
abbrev b_M_operator : ByteArray := prog_8_method_32_code
def y_M_operator : MethodName := ⟨R_M, "operator", "()Z"⟩
abbrev b_M_assign : ByteArray := prog_8_method_33_code
def y_M_assign : MethodName := ⟨R_M, "assign", "()V"⟩
abbrev b_M_begin : ByteArray := prog_8_method_34_code
def y_M_begin : MethodName := ⟨R_M, "begin", "()V"⟩
abbrev b_M_keep : ByteArray := prog_8_method_35_code
def y_M_keep : MethodName := ⟨R_M, "keep", "()V"⟩
abbrev b_M_compile : ByteArray := prog_8_method_36_code
def y_M_compile : MethodName := ⟨R_M, "compile", "()Z"⟩
abbrev b_M_size : ByteArray := prog_8_method_37_code
def y_M_size : MethodName := ⟨R_M, "size", "()I"⟩
abbrev b_M_instruction : ByteArray := prog_8_method_38_code
def y_M_instruction : MethodName := ⟨R_M, "instruction", "(II)I"⟩
abbrev b_M_result : ByteArray := prog_8_method_39_code
def y_M_result : MethodName := ⟨R_M, "result", "(I)I"⟩
abbrev b_M_typeOf : ByteArray := prog_8_method_40_code
def y_M_typeOf : MethodName := ⟨R_M, "typeOf", "(I)I"⟩
abbrev b_M_saturated : ByteArray := prog_8_method_41_code
def y_M_saturated : MethodName := ⟨R_M, "saturated", "(J)I"⟩
abbrev b_M_divided : ByteArray := prog_8_method_42_code
def y_M_divided : MethodName := ⟨R_M, "divided", "(II)I"⟩
abbrev b_M_done : ByteArray := prog_8_method_43_code
def y_M_done : MethodName := ⟨R_M, "done", "(III)I"⟩
abbrev b_M_evaluate : ByteArray := prog_8_method_44_code
def y_M_evaluate : MethodName := ⟨R_M, "evaluate", "(IIIII)V"⟩
abbrev b_M_noColor : ByteArray := prog_8_method_45_code
def y_M_noColor : MethodName := ⟨R_M, "noColor", "(I)Z"⟩
abbrev b_M_value : ByteArray := prog_8_method_46_code
def y_M_value : MethodName := ⟨R_M, "value", "(IIIII)I"⟩
abbrev b_M_noPoint : ByteArray := prog_8_method_47_code
def y_M_noPoint : MethodName := ⟨R_M, "noPoint", "(II)Z"⟩
abbrev b_M_paint : ByteArray := prog_8_method_48_code
def y_M_paint : MethodName := ⟨R_M, "paint", "(III)V"⟩
abbrev b_M_channel : ByteArray := prog_8_method_49_code
def y_M_channel : MethodName := ⟨R_M, "channel", "(I)I"⟩
abbrev b_M_run : ByteArray := prog_8_method_50_code
def y_M_run : MethodName := ⟨R_M, "run", "(I)V"⟩
abbrev b_M_pixel : ByteArray := prog_8_method_51_code
def y_M_pixel : MethodName := ⟨R_M, "pixel", "(II)I"⟩
abbrev b_K_init : ByteArray := prog_2_method_1_code
def y_K_init : MethodName := ⟨R_K, "<init>", "()V"⟩
abbrev b_K_clear : ByteArray := prog_2_method_2_code
def y_K_clear : MethodName := ⟨R_K, "clear", "()V"⟩
abbrev b_K_put : ByteArray := prog_2_method_3_code
def y_K_put : MethodName := ⟨R_K, "put", "(III)I"⟩
abbrev b_C_init : ByteArray := prog_3_method_1_code
def y_C_init : MethodName := ⟨R_C, "<init>", "()V"⟩
abbrev b_C_exchange : ByteArray := prog_3_method_2_code
def y_C_exchange : MethodName := ⟨R_C, "exchange", "(LPixelFormula$Code;)LPixelFormula$Code;"⟩
abbrev b_C_accepts : ByteArray := prog_3_method_3_code
def y_C_accepts : MethodName := ⟨R_C, "accepts", "([CI)Z"⟩
abbrev b_C_start : ByteArray := prog_3_method_4_code
def y_C_start : MethodName := ⟨R_C, "start", "([CI)V"⟩
abbrev b_C_finish : ByteArray := prog_3_method_5_code
def y_C_finish : MethodName := ⟨R_C, "finish", "(I)V"⟩
abbrev b_C_next : ByteArray := prog_3_method_6_code
def y_C_next : MethodName := ⟨R_C, "next", "()C"⟩
abbrev b_C_takes : ByteArray := prog_3_method_7_code
def y_C_takes : MethodName := ⟨R_C, "takes", "(C)Z"⟩
abbrev b_C_isAssignmentNext : ByteArray := prog_3_method_8_code
def y_C_isAssignmentNext : MethodName := ⟨R_C, "isAssignmentNext", "()Z"⟩
abbrev b_C_assignment : ByteArray := prog_3_method_9_code
def y_C_assignment : MethodName := ⟨R_C, "assignment", "()Z"⟩
abbrev b_C_sum : ByteArray := prog_3_method_10_code
def y_C_sum : MethodName := ⟨R_C, "sum", "(I)I"⟩
abbrev b_C_product : ByteArray := prog_3_method_11_code
def y_C_product : MethodName := ⟨R_C, "product", "(I)I"⟩
abbrev b_C_unit : ByteArray := prog_3_method_12_code
def y_C_unit : MethodName := ⟨R_C, "unit", "(I)I"⟩
abbrev b_C_part : ByteArray := prog_3_method_13_code
def y_C_part : MethodName := ⟨R_C, "part", "(I)I"⟩
abbrev b_C_letter : ByteArray := prog_3_method_14_code
def y_C_letter : MethodName := ⟨R_C, "letter", "(C)I"⟩
abbrev b_C_input : ByteArray := prog_3_method_15_code
def y_C_input : MethodName := ⟨R_C, "input", "(II)I"⟩
abbrev b_C_constant : ByteArray := prog_3_method_16_code
def y_C_constant : MethodName := ⟨R_C, "constant", "()I"⟩
abbrev b_C_digit : ByteArray := prog_3_method_17_code
def y_C_digit : MethodName := ⟨R_C, "digit", "()I"⟩
abbrev b_C_picked : ByteArray := prog_3_method_18_code
def y_C_picked : MethodName := ⟨R_C, "picked", "(I)I"⟩
abbrev b_C_function : ByteArray := prog_3_method_19_code
def y_C_function : MethodName := ⟨R_C, "function", "(CI)I"⟩
abbrev b_C_functionOfTwo : ByteArray := prog_3_method_20_code
def y_C_functionOfTwo : MethodName := ⟨R_C, "functionOfTwo", "(CI)I"⟩
abbrev b_C_vector : ByteArray := prog_3_method_21_code
def y_C_vector : MethodName := ⟨R_C, "vector", "(I)I"⟩
abbrev b_C_matrix : ByteArray := prog_3_method_22_code
def y_C_matrix : MethodName := ⟨R_C, "matrix", "(II)I"⟩
abbrev b_C_joined : ByteArray := prog_3_method_23_code
def y_C_joined : MethodName := ⟨R_C, "joined", "(II)I"⟩
abbrev b_C_behindEachOther : ByteArray := prog_3_method_24_code
def y_C_behindEachOther : MethodName := ⟨R_C, "behindEachOther", "(II)I"⟩
abbrev b_C_each : ByteArray := prog_3_method_25_code
def y_C_each : MethodName := ⟨R_C, "each", "(II)I"⟩
abbrev b_C_pairwise : ByteArray := prog_3_method_26_code
def y_C_pairwise : MethodName := ⟨R_C, "pairwise", "(III)I"⟩
abbrev b_C_times : ByteArray := prog_3_method_27_code
def y_C_times : MethodName := ⟨R_C, "times", "(II)I"⟩
abbrev b_C_timesColumns : ByteArray := prog_3_method_28_code
def y_C_timesColumns : MethodName := ⟨R_C, "timesColumns", "(II)I"⟩
abbrev b_C_dividedBy : ByteArray := prog_3_method_29_code
def y_C_dividedBy : MethodName := ⟨R_C, "dividedBy", "(II)I"⟩
abbrev b_C_dotted : ByteArray := prog_3_method_30_code
def y_C_dotted : MethodName := ⟨R_C, "dotted", "(II)I"⟩
abbrev b_C_isDigit : ByteArray := prog_3_method_31_code
def y_C_isDigit : MethodName := ⟨R_C, "isDigit", "(C)Z"⟩
abbrev b_C_isSmall : ByteArray := prog_3_method_32_code
def y_C_isSmall : MethodName := ⟨R_C, "isSmall", "(C)Z"⟩
abbrev b_C_isPlace : ByteArray := prog_3_method_33_code
def y_C_isPlace : MethodName := ⟨R_C, "isPlace", "(C)Z"⟩
abbrev b_C_isVariable : ByteArray := prog_3_method_34_code
def y_C_isVariable : MethodName := ⟨R_C, "isVariable", "(C)Z"⟩
abbrev b_H_init : ByteArray := prog_4_method_1_code
def y_H_init : MethodName := ⟨R_H, "<init>", "()V"⟩
abbrev b_H_work : ByteArray := prog_4_method_2_code
def y_H_work : MethodName := ⟨R_H, "work", "(LPixelFormula$Code;IIII)V"⟩
abbrev b_H_make : ByteArray := prog_4_method_3_code
def y_H_make : MethodName := ⟨R_H, "make", "(III)I"⟩
abbrev b_H_colorOf : ByteArray := prog_4_method_4_code
def y_H_colorOf : MethodName := ⟨R_H, "colorOf", "(LPixelFormula$Code;)I"⟩
abbrev b_N_operate : ByteArray := prog_5_method_2_code
def y_N_operate : MethodName := ⟨R_N, "operate", "(III)I"⟩
abbrev b_N_divide : ByteArray := prog_5_method_3_code
def y_N_divide : MethodName := ⟨R_N, "divide", "(II)I"⟩
abbrev b_N_saturate : ByteArray := prog_5_method_4_code
def y_N_saturate : MethodName := ⟨R_N, "saturate", "(J)I"⟩
abbrev b_V_ofType : ByteArray := prog_6_method_2_code
def y_V_ofType : MethodName := ⟨R_V, "ofType", "(I)I"⟩
abbrev b_V_typeIn : ByteArray := prog_6_method_3_code
def y_V_typeIn : MethodName := ⟨R_V, "typeIn", "(I)I"⟩
abbrev b_V_withNumber : ByteArray := prog_6_method_4_code
def y_V_withNumber : MethodName := ⟨R_V, "withNumber", "(III)I"⟩
abbrev b_V_number : ByteArray := prog_6_method_5_code
def y_V_number : MethodName := ⟨R_V, "number", "(II)I"⟩
abbrev b_V_spread : ByteArray := prog_6_method_6_code
def y_V_spread : MethodName := ⟨R_V, "spread", "(II)I"⟩
abbrev b_L_type : ByteArray := method_3_code
def y_L_type : MethodName := ⟨R_L, "type", "(LPixelFormula;I[J)I"⟩
abbrev b_L_instruction : ByteArray := method_4_code
def y_L_instruction : MethodName := ⟨R_L, "instruction", "(LPixelFormula;II[J)I"⟩
abbrev b_L_result : ByteArray := method_5_code
def y_L_result : MethodName := ⟨R_L, "result", "(LPixelFormula;I[J)I"⟩
abbrev b_L_typeOf : ByteArray := method_6_code
def y_L_typeOf : MethodName := ⟨R_L, "typeOf", "(LPixelFormula;I[J)I"⟩
abbrev b_L_value : ByteArray := method_7_code
def y_L_value : MethodName := ⟨R_L, "value", "(LPixelFormula;IIIII[J)I"⟩
abbrev b_L_paint : ByteArray := method_8_code
def y_L_paint : MethodName := ⟨R_L, "paint", "(LPixelFormula;III)I"⟩
abbrev b_L_run : ByteArray := method_9_code
def y_L_run : MethodName := ⟨R_L, "run", "(LPixelFormula;I)I"⟩
abbrev b_L_pixel : ByteArray := method_10_code
def y_L_pixel : MethodName := ⟨R_L, "pixel", "(LPixelFormula;II[J)I"⟩
end
section
/-! rows of mine over the kit: contracts whose end is fixed by a function; calls in the same world; static calls of numbers alone -/
abbrev cc_Pre (D : va_G) (cl : List vw_C) (tys : List (ClassId × FieldType)) (ws : va_W) (sz : Nat) (U : State) : Prop := U.heap.size = sz ∧ va_P D cl ws U.heap ∧ va_K D cl tys U ∧ va_D (fun _ => True) ws
abbrev cc_Post (D : va_G) (cl : List vw_C) (tys : List (ClassId × FieldType)) (ws0 : va_W) (sz : Nat) (ws : va_W) (t : State) : Prop := va_P D cl ws t.heap ∧ va_K D cl tys t ∧ va_D (va_A ws0 sz) ws
abbrev cc_Qi (D : va_G) (cl : List vw_C) (tys : List (ClassId × FieldType)) (ws0 : va_W) (sz : Nat) (ws : va_W) (r0 : Int32) : Array Value → State → Outcome → State → Prop := va_Qi (fun r (_ : Unit) => r = r0) (fun _ t => cc_Post D cl tys ws0 sz ws t) (va_A ws0 sz)
abbrev cc_Qv (D : va_G) (cl : List vw_C) (tys : List (ClassId × FieldType)) (ws0 : va_W) (sz : Nat) (ws : va_W) : Array Value → State → Outcome → State → Prop := va_Qv (fun (_ : Unit) => True) (fun _ t => cc_Post D cl tys ws0 sz ws t) (va_A ws0 sz)
abbrev cc_MetI (l : Launch) (y : MethodName) (wy : List Cond) (rm : Room) (D : va_G) (cl : List vw_C) (tys : List (ClassId × FieldType)) (av : List Value) (ws0 : va_W) (sz : Nat) (ws : va_W) (r0 : Int32) : Prop :=
  Met l y wy rm (va_Pc av (cc_Pre D cl tys ws0 sz)) (cc_Qi D cl tys ws0 sz ws r0) 0 0 (va_A ws0 sz)
abbrev cc_MetV (l : Launch) (y : MethodName) (wy : List Cond) (rm : Room) (D : va_G) (cl : List vw_C) (tys : List (ClassId × FieldType)) (av : List Value) (ws0 : va_W) (sz : Nat) (ws : va_W) : Prop :=
  Met l y wy rm (va_Pc av (cc_Pre D cl tys ws0 sz)) (cc_Qv D cl tys ws0 sz ws) 0 0 (va_A ws0 sz)
/-- a static method of numbers alone -/
abbrev cc_MetS (l : Launch) (y : MethodName) (wy : List Cond) (rm : Room) (av : List Value) (r0 : Int32) : Prop :=
  Met l y wy rm (fun v _ => v = av.toArray) (vp_Si (fun r => r = r0)) 0 0 (fun _ => False)
section CC
variable {p : Program} {l : Launch} {e : Env} {R : Room} {s : State} {m : MethodId} {args : Array Value} {below : List Frame} {meth : Method} {c : Code} {H : Heap} {locs : List Loc} {cells slots : Nat} {Q : State → Prop}
variable {pc : Nat} {ls : Array Slot} {rest st0 : List Value} {a : Array Value} {A0 : Nat → Prop} {H0 : Heap}
variable {D : va_G} {cl : List vw_C} {tys : List (ClassId × FieldType)} {ws w1 wq wc : va_W}
theorem cc_pre {av : List Value} (hK : va_K D cl tys s) (hP : va_P D cl ws H) (hD : va_D A0 ws) : FrameBlind (va_Pc av (cc_Pre D cl tys ws H.size)) ∧ ∀ U : State, U.heap = H → s.WarmedH U.vm → va_Pc av (cc_Pre D cl tys ws H.size) av.toArray U :=
  ⟨fun a U g mk q => by obtain ⟨q0, q1, qP, qK, qD⟩ := q; exact ⟨q0, q1, qP, va_K.moved (u := U) (U := U.calling g mk a) (Vm.Alike.refl U.vm) qK, qD⟩,
   fun U hU hW => ⟨rfl, by rw [hU], by rw [hU]; exact hP, va_K.moved hW.alike hK, hD.weaken (fun _ _ _ _ => trivial)⟩⟩
theorem cc_preV {b q0 ci : Nat} {q : vw_C} {fs : List Value} {As : List Value} (hK : va_K D cl tys s) (hP : va_P D cl ws H) (hD : va_D A0 ws) (hc : cl[ci]? = some q) (he : ws[q0]? = some (b, .inr (ci, fs))) : PreV s H q.1 b (va_Pc (.ref b :: As) (cc_Pre D cl tys ws H.size)) As :=
  ⟨(cc_pre hK hP hD).1, va_recv hK hP hc he, (cc_pre hK hP hD).2⟩
/-- the callee's world is a part of the caller's -/
theorem cc_preVs {b q0 ci : Nat} {q : vw_C} {fs : List Value} {As : List Value} (hK : va_K D cl tys s) (hP : va_P D cl ws H) (hD : va_D A0 ws) (isC : List Nat) (hn : va_nd isC = true) (hC : isC.map (fun i => ws[i]?) = wc.map some) (hC2 : isC.filterMap (fun i => ws[i]?) = wc) (hc : cl[ci]? = some q) (he : ws[q0]? = some (b, .inr (ci, fs))) : PreV s H q.1 b (va_Pc (.ref b :: As) (cc_Pre D cl tys wc H.size)) As :=
  ⟨(cc_pre hK (hP.sub isC hC2) (hD.sub isC hn hC)).1, va_recv hK hP hc he, (cc_pre hK (hP.sub isC hC2) (hD.sub isC hn hC)).2⟩
theorem cc_preS {av : List Value} : PreS s H (fun v _ => v = av.toArray) av := ⟨fun _ _ _ _ q => q, fun _ _ _ => rfl⟩
theorem cc_all (hD : va_D A0 ws) (hS : va_S A0 H0 H locs) (hA : ∀ q, H0.size ≤ q → A0 q) : ∀ q, va_A ws H.size q → A0 q := by
  intro q h
  rcases h with ⟨k, e, h⟩ | h
  · exact hD.2 k (q, e) h
  · exact hA q (Nat.le_trans hS.1 h)
theorem cc_calli {r0 : Int32} (hr : va_Run p l e R s m args below meth c H locs cells slots 0 0 (F0 m pc ls st0) rest (cc_Qi D cl tys ws H.size w1 r0 a) (va_A ws H.size)) (hD : va_D A0 ws) (hS : va_S A0 H0 H locs) (hA : ∀ q, H0.size ≤ q → A0 q)
    (kk : ∀ (H1 : Heap) (locs1 : List Loc), va_P D cl w1 H1 → va_D A0 w1 → va_S A0 H0 H1 locs1 → W p l e R s m args below meth c H1 locs1 cells slots Q (F0 m (pc + 3) ls (.int r0 :: rest))) : W p l e R s m args below meth c H locs cells slots Q (F0 m pc ls st0) := by
  have hFc := cc_all hD hS hA
  refine va_calli hr hS (fun q _ h => hFc q h) hFc (fun r u t H1 locs1 ht hvm hw hB hz1 hk1 hS1 => ?_)
  obtain ⟨hP1, hK1, hD1⟩ := hB
  rw [ht] at hP1
  have hw : r = r0 := hw
  rw [hw]
  exact kk H1 locs1 hP1 (hD1.weaken (fun k q _ h => hFc q.1 h)) hS1
theorem cc_callv (hr : va_Run p l e R s m args below meth c H locs cells slots 0 0 (F0 m pc ls st0) rest (cc_Qv D cl tys ws H.size w1 a) (va_A ws H.size)) (hD : va_D A0 ws) (hS : va_S A0 H0 H locs) (hA : ∀ q, H0.size ≤ q → A0 q)
    (kk : ∀ (H1 : Heap) (locs1 : List Loc), va_P D cl w1 H1 → va_D A0 w1 → va_S A0 H0 H1 locs1 → W p l e R s m args below meth c H1 locs1 cells slots Q (F0 m (pc + 3) ls rest)) : W p l e R s m args below meth c H locs cells slots Q (F0 m pc ls st0) := by
  have hFc := cc_all hD hS hA
  refine va_callv hr hS (fun q _ h => hFc q h) hFc (fun u t H1 locs1 ht hvm hw hB hz1 hk1 hS1 => ?_)
  obtain ⟨hP1, hK1, hD1⟩ := hB
  rw [ht] at hP1
  exact kk H1 locs1 hP1 (hD1.weaken (fun k q _ h => hFc q.1 h)) hS1
theorem cc_calliP {r0 : Int32} (hr : va_Run p l e R s m args below meth c H locs cells slots 0 0 (F0 m pc ls st0) rest (cc_Qi D cl tys wc H.size w1 r0 a) (va_A wc H.size)) (hP : va_P D cl ws H) (hD : va_D A0 ws) (hS : va_S A0 H0 H locs) (hA : ∀ q, H0.size ≤ q → A0 q)
    (isC isR : List Nat) (hC : isC.map (fun i => ws[i]?) = wc.map some) (hR : isR.map (fun i => ws[i]?) = wq.map some) (hn : va_nd isR = true) (hdis : ∀ i ∈ isR, i ∉ isC)
    (kk : ∀ (H1 : Heap) (locs1 : List Loc), va_P D cl (wq ++ w1) H1 → va_D A0 (wq ++ w1) → va_S A0 H0 H1 locs1 → W p l e R s m args below meth c H1 locs1 cells slots Q (F0 m (pc + 3) ls (.int r0 :: rest))) : W p l e R s m args below meth c H locs cells slots Q (F0 m pc ls st0) := by
  have hFc := va_free (wc := wc) hD hS hA isC hC
  refine va_calli hr hS (fun q _ h => hFc q h) hFc (fun r u t H1 locs1 ht hvm hw hB hz1 hk1 hS1 => ?_)
  obtain ⟨hP1, hK1, hD1⟩ := hB
  rw [ht] at hP1
  obtain ⟨hP2, hD2⟩ := va_join (wr := wq) (w1 := w1) hP hD isC isR hC hR hn hdis hk1 hFc hP1 hD1
  have hw : r = r0 := hw
  rw [hw]
  exact kk H1 locs1 hP2 hD2 hS1
theorem cc_callvP (hr : va_Run p l e R s m args below meth c H locs cells slots 0 0 (F0 m pc ls st0) rest (cc_Qv D cl tys wc H.size w1 a) (va_A wc H.size)) (hP : va_P D cl ws H) (hD : va_D A0 ws) (hS : va_S A0 H0 H locs) (hA : ∀ q, H0.size ≤ q → A0 q)
    (isC isR : List Nat) (hC : isC.map (fun i => ws[i]?) = wc.map some) (hR : isR.map (fun i => ws[i]?) = wq.map some) (hn : va_nd isR = true) (hdis : ∀ i ∈ isR, i ∉ isC)
    (kk : ∀ (H1 : Heap) (locs1 : List Loc), va_P D cl (wq ++ w1) H1 → va_D A0 (wq ++ w1) → va_S A0 H0 H1 locs1 → W p l e R s m args below meth c H1 locs1 cells slots Q (F0 m (pc + 3) ls rest)) : W p l e R s m args below meth c H locs cells slots Q (F0 m pc ls st0) := by
  have hFc := va_free (wc := wc) hD hS hA isC hC
  refine va_callv hr hS (fun q _ h => hFc q h) hFc (fun u t H1 locs1 ht hvm hw hB hz1 hk1 hS1 => ?_)
  obtain ⟨hP1, hK1, hD1⟩ := hB
  rw [ht] at hP1
  obtain ⟨hP2, hD2⟩ := va_join (wr := wq) (w1 := w1) hP hD isC isR hC hR hn hdis hk1 hFc hP1 hD1
  exact kk H1 locs1 hP2 hD2 hS1
theorem cc_calls {r0 : Int32} (hr : va_Run p l e R s m args below meth c H locs cells slots 0 0 (F0 m pc ls st0) rest (vp_Si (fun r => r = r0) a) (fun _ => False))
    (kk : W p l e R s m args below meth c H locs cells slots Q (F0 m (pc + 3) ls (.int r0 :: rest))) : W p l e R s m args below meth c H locs cells slots Q (F0 m pc ls st0) :=
  vp_callSi hr.run (fun r hr0 => by rw [hr0]; exact kk)
end CC
/-! decompiled functions: Nat → Int32 are the int fields of a world by their numbers, Nat → Nat → Int32 its rows by theirs; none: out of range, or out of turns -/
abbrev ST_F : Type := Nat → Int32
abbrev ST_A : Type := Nat → Nat → Int32
def ra_g {ρ : Type} (i : Int32) (n : Nat) (k : Option ρ) : Option ρ := if i < 0 ∨ n ≤ i.toNatClampNeg then none else k
theorem ra_g_some {ρ : Type} {i : Int32} {n : Nat} {k : Option ρ} {r : ρ} (h : ra_g i n k = some r) : vp_in i n ∧ k = some r := by
  unfold ra_g at h
  by_cases hc : i < 0 ∨ n ≤ i.toNatClampNeg
  · rw [if_pos hc] at h; cases h
  · rw [if_neg hc] at h; exact ⟨hc, h⟩
theorem ra_g_in {ρ : Type} {j n : Nat} (h : j < n) (hn : n < 2 ^ 31) (k : Option ρ) : ra_g (nI j) n k = k := if_neg (nI_in h hn)
def ra_nz {ρ : Type} (y : Int32) (k : Option ρ) : Option ρ := if y = 0 then none else k
theorem ra_nz_some {ρ : Type} {y : Int32} {k : Option ρ} {r : ρ} (h : ra_nz y k = some r) : ¬ y = 0 ∧ k = some r := by
  unfold ra_nz at h
  by_cases hc : y = 0
  · rw [if_pos hc] at h; cases h
  · rw [if_neg hc] at h; exact ⟨hc, h⟩
def ra_nzl {ρ : Type} (y : Int64) (k : Option ρ) : Option ρ := if y = 0 then none else k
theorem ra_nzl_some {ρ : Type} {y : Int64} {k : Option ρ} {r : ρ} (h : ra_nzl y k = some r) : ¬ y = 0 ∧ k = some r := by
  unfold ra_nzl at h
  by_cases hc : y = 0
  · rw [if_pos hc] at h; cases h
  · rw [if_neg hc] at h; exact ⟨hc, h⟩
def ra_nc {ρ : Type} (y : Int32) (k : Option ρ) : Option ρ := if vp_nar .char y = y then k else none
theorem ra_nc_some {ρ : Type} {y : Int32} {k : Option ρ} {r : ρ} (h : ra_nc y k = some r) : narrow .char (.int y) = .int y ∧ k = some r := by
  unfold ra_nc at h
  by_cases hc : vp_nar .char y = y
  · rw [if_pos hc] at h; exact ⟨congrArg Value.int hc, h⟩
  · rw [if_neg hc] at h; cases h
def ra_nb {ρ : Type} (y : Int32) (k : Option ρ) : Option ρ := if y = 0 ∨ y = 1 then k else none
theorem ra_nb_some {ρ : Type} {y : Int32} {k : Option ρ} {r : ρ} (h : ra_nb y k = some r) : narrow .boolean (.int y) = .int y ∧ k = some r := by
  unfold ra_nb at h
  by_cases hc : y = 0 ∨ y = 1
  · rw [if_pos hc] at h
    refine ⟨?_, h⟩
    rcases hc with rfl | rfl <;> rfl
  · rw [if_neg hc] at h; cases h
def ra_zb {ρ : Type} (y : Int32) (k : Option ρ) : Option ρ := if y = 0 ∨ y = 1 then k else none
theorem ra_zb_some {ρ : Type} {y : Int32} {k : Option ρ} {r : ρ} (h : ra_zb y k = some r) : narrow .boolean (.int y) = .int y ∧ fits .boolean (.int y) = true ∧ k = some r := by
  unfold ra_zb at h
  by_cases hc : y = 0 ∨ y = 1
  · rw [if_pos hc] at h
    refine ⟨?_, ?_, h⟩
    · rcases hc with rfl | rfl <;> rfl
    · rcases hc with rfl | rfl <;> rfl
  · rw [if_neg hc] at h; cases h
def ra_bi {ρ : Type} (g : Option (Int32 × ST_F × ST_A)) (k : Int32 → ST_F → ST_A → Option ρ) : Option ρ := match g with
  | none => none
  | some x => k x.1 x.2.1 x.2.2
def ra_bv {ρ : Type} (g : Option (ST_F × ST_A)) (k : ST_F → ST_A → Option ρ) : Option ρ := match g with
  | none => none
  | some x => k x.1 x.2
theorem ra_bi_some {ρ : Type} {g : Option (Int32 × ST_F × ST_A)} {k : Int32 → ST_F → ST_A → Option ρ} {r : ρ} (h : ra_bi g k = some r) : ∃ r1 F1 A1, g = some (r1, F1, A1) ∧ k r1 F1 A1 = some r := by
  cases g with
  | none => cases h
  | some x => exact ⟨x.1, x.2.1, x.2.2, rfl, h⟩
theorem ra_bv_some {ρ : Type} {g : Option (ST_F × ST_A)} {k : ST_F → ST_A → Option ρ} {r : ρ} (h : ra_bv g k = some r) : ∃ F1 A1, g = some (F1, A1) ∧ k F1 A1 = some r := by
  cases g with
  | none => cases h
  | some x => exact ⟨x.1, x.2, rfl, h⟩
end
section
/-! The pure layer: instructions, values, the grammar (recursive descent that stops at the first wrong piece), the reference's stacks. -/
abbrev px_I : Type := Int32 × Int32 × Int32
abbrev px_L : Type := List px_I
abbrev px_V : Type := List Nat
def px_find : px_L → px_I → Option Nat
  | [], _ => none
  | x :: l, i => if x = i then some 0 else (px_find l i).map (fun k => k + 1)
def px_put (L : px_L) (i : px_I) : Option (Nat × px_L) := match px_find L i with
  | some k => some (k, L)
  | none => if L.length = 100 then none else some (L.length, L ++ [i])
def px_puts : px_L → List px_I → Option (px_V × px_L)
  | L, [] => some ([], L)
  | L, i :: is => (px_put L i).bind fun r => (px_puts r.2 is).bind fun q => some (r.1 :: q.1, q.2)
def px_at (v : px_V) (i : Nat) : Int32 := nI (v.getD i 0)
def px_sp (v : px_V) (i : Nat) : Int32 := px_at v (if v.length = 1 then 0 else i)
def px_pair (kind : Int32) (a b : px_V) (L : px_L) : Option (px_V × px_L) :=
  if a.length ≠ b.length ∧ a.length ≠ 1 ∧ b.length ≠ 1 then none
  else px_puts L ((List.range (max a.length b.length)).map fun i => (kind, px_sp a i, px_sp b i))
def px_each (kind : Int32) (v : px_V) (L : px_L) : Option (px_V × px_L) := px_puts L (v.map fun p => (kind, nI p, 0))
def px_cell (a b : px_V) (j r : Nat) (L : px_L) : Option (Nat × px_L) :=
  (px_put L (4, px_at a r, px_at b (2 * j))).bind fun x => (px_put x.2 (4, px_at a (2 + r), px_at b (2 * j + 1))).bind fun y => px_put y.2 (2, nI x.1, nI y.1)
def px_cells (a b : px_V) : List (Nat × Nat) → px_L → Option (px_V × px_L)
  | [], L => some ([], L)
  | i :: is, L => (px_cell a b i.1 i.2 L).bind fun r => (px_cells a b is r.2).bind fun q => some (r.1 :: q.1, q.2)
def px_times (a b : px_V) (L : px_L) : Option (px_V × px_L) :=
  if a.length = 4 ∧ (b.length = 2 ∨ b.length = 4) then px_cells a b (if b.length = 2 then [(0, 0), (0, 1)] else [(0, 0), (0, 1), (1, 0), (1, 1)]) L
  else px_pair 4 a b L
def px_div (a b : px_V) (L : px_L) : Option (px_V × px_L) := if b.length = 4 then none else px_pair 5 a b L
def px_bin (c : Int32) (a b : px_V) (L : px_L) : Option (px_V × px_L) :=
  if c = 43 then px_pair 2 a b L else if c = 45 then px_pair 3 a b L else if c = 42 then px_times a b L else px_div a b L
def px_dotL (a b : px_V) : List Nat → Nat → px_L → Option (Nat × px_L)
  | [], t, L => some (t, L)
  | i :: is, t, L => (px_put L (4, px_at a i, px_at b i)).bind fun x => (px_put x.2 (2, nI t, nI x.1)).bind fun y => px_dotL a b is y.1 y.2
def px_dot (a b : px_V) (L : px_L) : Option (px_V × px_L) :=
  if a.length ≠ b.length ∨ 3 < a.length then none
  else (px_put L (4, px_at a 0, px_at b 0)).bind fun x => (px_dotL a b ((List.range (a.length - 1)).map (fun i => i + 1)) x.1 x.2).bind fun y => some ([y.1], y.2)
def px_join (args : List px_V) (L : px_L) : Option (px_V × px_L) :=
  if args.length ≤ 3 ∧ 2 ≤ args.flatten.length ∧ args.flatten.length ≤ 3 then some (args.flatten, L) else none
def px_fn (f : Int32) (args : List px_V) (L : px_L) : Option (px_V × px_L) :=
  if f = 86 then px_join args L
  else match args with
    | [a] => if f = 65 then px_each 10 a L else if f = 70 then px_each 11 a L else none
    | [a, b] => if f = 78 then px_pair 6 a b L else if f = 88 then px_pair 7 a b L else if f = 83 then px_pair 8 a b L else if f = 68 then px_dot a b L
        else if f = 77 then (if a.length = 2 ∧ b.length = 2 then some (a ++ b, L) else none) else none
    | _ => none
def px_dig (c : Int32) : Bool := decide (48 ≤ c) && decide (c ≤ 57)
def px_small (c : Int32) : Bool := decide (97 ≤ c) && decide (c ≤ 122)
def px_plc (c : Int32) : Bool := decide (120 ≤ c) && decide (c ≤ 122)
def px_isfn (c : Int32) : Bool := c == 65 || c == 70 || c == 78 || c == 88 || c == 83 || c == 68 || c == 86 || c == 77
def px_given (c : Int32) : Bool := px_plc c || c == 116 || c == 99
def px_ix (c : Int32) : Nat := (c - 97).toNatClampNeg
def px_letter (vars : Nat → Option px_V) (c : Int32) (L : px_L) : Option (px_V × px_L) :=
  if c = 120 then px_puts L [(1, 0, 0)] else if c = 121 then px_puts L [(1, 1, 0)] else if c = 116 then px_puts L [(1, 2, 0)]
  else if c = 99 then px_puts L [(1, 3, 0), (1, 4, 0), (1, 5, 0)]
  else (vars (px_ix c)).map fun v => (v, L)
section PX
variable (ch : Nat → Int32)
def px_digs : Nat → Nat → Int32 → Int32 → Nat × Int32 × Int32
  | 0, at_, a, s => (at_, a, s)
  | n + 1, at_, a, s => if px_dig (ch at_) = true then px_digs n (at_ + 1) (a * 10 + (ch at_ - 48)) (s * 10) else (at_, a, s)
def px_const (at_ : Nat) : Option (Int32 × Nat) :=
  if ch (px_digs ch 4 at_ 0 1).1 = 46 then
    (if (px_digs ch 4 ((px_digs ch 4 at_ 0 1).1 + 1) 0 1).1 = (px_digs ch 4 at_ 0 1).1 + 1 then none
     else some ((px_digs ch 4 at_ 0 1).2.1 * 65536 + (px_digs ch 4 ((px_digs ch 4 at_ 0 1).1 + 1) 0 1).2.1 * 65536 / (px_digs ch 4 ((px_digs ch 4 at_ 0 1).1 + 1) 0 1).2.2, (px_digs ch 4 ((px_digs ch 4 at_ 0 1).1 + 1) 0 1).1))
  else some ((px_digs ch 4 at_ 0 1).2.1 * 65536, (px_digs ch 4 at_ 0 1).1)
def px_places : Nat → Nat → List Nat
  | 0, _ => []
  | n + 1, at_ => if px_plc (ch at_) = true then (ch at_ - 120).toNatClampNeg :: px_places n (at_ + 1) else []
def px_pick (v : px_V) (at_ : Nat) : Option (px_V × Nat) :=
  if ch at_ = 46 then
    (if v.length = 4 ∨ px_places ch 3 (at_ + 1) = [] ∨ (px_places ch 3 (at_ + 1)).any (fun i => decide (v.length ≤ i)) = true then none
     else some ((px_places ch 3 (at_ + 1)).map (fun i => v.getD i 0), at_ + 1 + (px_places ch 3 (at_ + 1)).length))
  else some (v, at_)
def px_signs : Nat → Nat → Nat → Nat × Nat
  | 0, at_, k => (k, at_)
  | n + 1, at_, k => if ch at_ = 45 then px_signs n (at_ + 1) (k + 1) else (k, at_)
def px_negs : Nat → px_V → px_L → Option (px_V × px_L)
  | 0, v, L => some (v, L)
  | k + 1, v, L => (px_each 9 v L).bind fun r => px_negs k r.1 r.2
abbrev px_P : Type := Nat → px_L → Option (px_V × Nat × px_L)
def px_args (inner : px_P) : Nat → List px_V → Nat → px_L → Option (List px_V × Nat × px_L)
  | 0, _, _, _ => none
  | n + 1, acc, at_, L => (inner at_ L).bind fun r => if ch r.2.1 = 44 then px_args inner n (acc ++ [r.1]) (r.2.1 + 1) r.2.2
      else if ch r.2.1 = 41 then some (acc ++ [r.1], r.2.1 + 1, r.2.2) else none
variable (vars : Nat → Option px_V)
def px_part (inner : px_P) : px_P := fun at_ L =>
  if px_small (ch at_) = true then (px_letter vars (ch at_) L).bind fun r => some (r.1, at_ + 1, r.2)
  else if ch at_ = 40 then (inner (at_ + 1) L).bind fun r => if ch r.2.1 = 41 then some (r.1, r.2.1 + 1, r.2.2) else none
  else if px_isfn (ch at_) = true ∧ ch (at_ + 1) = 40 then (px_args ch inner 161 [] (at_ + 2) L).bind fun r => (px_fn (ch at_) r.1 r.2.2).bind fun q => some (q.1, r.2.1, q.2)
  else none
def px_core (inner : px_P) : px_P := fun at_ L =>
  if px_dig (ch at_) = true then (px_const ch at_).bind fun x => (px_put L (0, x.1, 0)).bind fun r => some ([r.1], x.2, r.2)
  else (px_part ch vars inner at_ L).bind fun r => (px_pick ch r.1 r.2.1).bind fun q => some (q.1, q.2, r.2.2)
def px_unit (inner : px_P) : px_P := fun at_ L =>
  (px_core ch vars inner (px_signs ch 160 at_ 0).2 L).bind fun r => (px_negs (px_signs ch 160 at_ 0).1 r.1 r.2.2).bind fun q => some (q.1, r.2.1, q.2)
def px_prodL (inner : px_P) : Nat → px_V → Nat → px_L → Option (px_V × Nat × px_L)
  | 0, _, _, _ => none
  | n + 1, v, at_, L => if ch at_ = 42 ∨ ch at_ = 47 then (px_unit ch vars inner (at_ + 1) L).bind fun r => (px_bin (ch at_) v r.1 r.2.2).bind fun q => px_prodL inner n q.1 r.2.1 q.2
      else some (v, at_, L)
def px_prod (inner : px_P) : px_P := fun at_ L => (px_unit ch vars inner at_ L).bind fun r => px_prodL ch vars inner 160 r.1 r.2.1 r.2.2
def px_sumL (inner : px_P) : Nat → px_V → Nat → px_L → Option (px_V × Nat × px_L)
  | 0, _, _, _ => none
  | n + 1, v, at_, L => if ch at_ = 43 ∨ ch at_ = 45 then (px_prod ch vars inner (at_ + 1) L).bind fun r => (px_bin (ch at_) v r.1 r.2.2).bind fun q => px_sumL inner n q.1 r.2.1 q.2
      else some (v, at_, L)
def px_sum (inner : px_P) : px_P := fun at_ L => (px_prod ch vars inner at_ L).bind fun r => px_sumL ch vars inner 160 r.1 r.2.1 r.2.2
def px_sumD : Nat → px_P
  | 0 => px_sum ch vars (fun _ _ => none)
  | d + 1 => px_sum ch vars (px_sumD d)
end PX
abbrev px_R : Type := px_V × px_L × (Nat → Option px_V)
def px_set (vars : Nat → Option px_V) (k : Nat) (v : px_V) : Nat → Option px_V := fun j => if j = k then some v else vars j
def px_asg (ch : Nat → Int32) (at_ : Nat) : Bool := px_small (ch at_) && (ch (at_ + 1) == 61)
def px_fin (ch : Nat → Int32) (len : Nat) (at_ : Nat) (vars : Nat → Option px_V) (L : px_L) : Option px_R :=
  (px_sumD ch vars 5 at_ L).bind fun x => if x.2.1 = len ∧ x.1.length = 3 then some (x.1, x.2.2, vars) else none
def px_prog (ch : Nat → Int32) (len : Nat) : Nat → Nat → (Nat → Option px_V) → px_L → Option px_R
  | 0, at_, vars, L => px_fin ch len at_ vars L
  | n + 1, at_, vars, L => if px_asg ch at_ = true then
      (if px_given (ch at_) = true then none else (px_sumD ch vars 5 (at_ + 2) L).bind fun x => if ch x.2.1 = 59 then px_prog ch len n (x.2.1 + 1) (px_set vars (px_ix (ch at_)) x.1) x.2.2 else none)
      else px_fin ch len at_ vars L
/-! the reference's run over its stacks (tops first) -/
def px_unneg : List (Int32 × Nat) → px_V → px_L → Option (px_V × px_L × List (Int32 × Nat))
  | [], v, L => some (v, L, [])
  | w :: ws, v, L => if w.1 = 126 then (px_each 9 v L).bind fun r => px_unneg ws r.1 r.2 else some (v, L, w :: ws)
def px_two : List px_V → Option (px_V × px_V × List px_V)
  | b :: a :: r => some (a, b, r)
  | _ => none
def px_settle (all : Bool) : List (Int32 × Nat) → List px_V → px_L → Option (List (Int32 × Nat) × List px_V × px_L)
  | [], vs, L => some ([], vs, L)
  | w :: ws, vs, L => if w.1 = 42 ∨ w.1 = 47 ∨ (all = true ∧ (w.1 = 43 ∨ w.1 = 45)) then
      (px_two vs).bind fun z => (px_bin w.1 z.1 z.2.1 L).bind fun q => px_settle all ws (q.1 :: z.2.2) q.2
      else some (w :: ws, vs, L)
def px_k {α ρ : Type} (x : Option α) (f : α → Option (Option ρ)) : Option (Option ρ) := match x with
  | none => some none
  | some a => f a
def px_close (q : List (Int32 × Nat) × List px_V × px_L) : Option (px_V × List (Int32 × Nat) × List px_V × px_L) := match q with
  | ([], _, _) => none
  | (w :: ws, vs, L) => if w.1 = 40 then (match vs with | [] => none | v :: r => some (v, ws, r, L))
      else if px_isfn w.1 = true ∧ w.2 ≤ vs.length then (px_fn w.1 (vs.take w.2).reverse L).bind fun r => some (r.1, ws, vs.drop w.2, r.2)
      else none
def px_end (tg : Option Nat) (vars : Nat → Option px_V) (q : List (Int32 × Nat) × List px_V × px_L) : Option px_R := match q with
  | ([], [v], L) => if tg = none ∧ v.length = 3 then some (v, L, vars) else none
  | _ => none
def px_comma : List (Int32 × Nat) → Option (List (Int32 × Nat))
  | [] => none
  | w :: ws => if px_isfn w.1 = true then some ((w.1, w.2 + 1) :: ws) else none
def px_semi : Option Nat → List (Int32 × Nat) × List px_V × px_L → Option (Nat × px_V × px_L)
  | some l, ([], [v], L) => some (l, v, L)
  | _, _ => none
def px_run (ch : Nat → Int32) (len : Nat) : Nat → Bool → Nat → List px_V → List (Int32 × Nat) → Nat → Option Nat → (Nat → Option px_V) → px_L → Option (Option px_R)
  | 0, _, _, _, _, _, _, _, _ => none
  | n + 1, false, at_, vs, ws, op, tg, vars, L =>
    if ch at_ = 45 then px_run ch len n false (at_ + 1) vs ((126, 1) :: ws) op tg vars L
    else if ch at_ = 40 then (if 5 ≤ op then some none else px_run ch len n false (at_ + 1) vs ((40, 1) :: ws) (op + 1) tg vars L)
    else if px_isfn (ch at_) = true ∧ ch (at_ + 1) = 40 then (if 5 ≤ op then some none else px_run ch len n false (at_ + 2) vs ((ch at_, 1) :: ws) (op + 1) tg vars L)
    else if px_dig (ch at_) = true then px_k (px_const ch at_) fun x => if px_dig (ch x.2) = true ∨ ch x.2 = 46 then some none else
      px_k (px_put L (0, x.1, 0)) fun r => px_k (px_unneg ws [r.1] r.2) fun q => px_run ch len n true x.2 (q.1 :: vs) q.2.2 op tg vars q.2.1
    else if px_small (ch at_) = true then px_k (px_letter vars (ch at_) L) fun r => px_k (px_pick ch r.1 (at_ + 1)) fun s => px_k (px_unneg ws s.1 r.2) fun q =>
      px_run ch len n true s.2 (q.1 :: vs) q.2.2 op tg vars q.2.1
    else some none
  | n + 1, true, at_, vs, ws, op, tg, vars, L =>
    if len ≤ at_ then px_k (px_settle true ws vs L) fun q => some (px_end tg vars q)
    else if ch at_ = 41 then px_k (px_settle true ws vs L) fun q => px_k (px_close q) fun z => px_k (px_pick ch z.1 (at_ + 1)) fun s => px_k (px_unneg z.2.1 s.1 z.2.2.2) fun y =>
      px_run ch len n true s.2 (y.1 :: z.2.2.1) y.2.2 (op - 1) tg vars y.2.1
    else if ch at_ = 43 ∨ ch at_ = 45 then px_k (px_settle true ws vs L) fun q => px_run ch len n false (at_ + 1) q.2.1 ((ch at_, 1) :: q.1) op tg vars q.2.2
    else if ch at_ = 42 ∨ ch at_ = 47 then px_k (px_settle false ws vs L) fun q => px_run ch len n false (at_ + 1) q.2.1 ((ch at_, 1) :: q.1) op tg vars q.2.2
    else if ch at_ = 44 then px_k (px_settle true ws vs L) fun q => px_k (px_comma q.1) fun ws' => px_run ch len n false (at_ + 1) q.2.1 ws' op tg vars q.2.2
    else if ch at_ = 59 then px_k (px_settle true ws vs L) fun q => px_k (px_semi tg q) fun z => if px_asg ch (at_ + 1) = true then
        (if px_given (ch (at_ + 1)) = true then some none else px_run ch len n false (at_ + 3) [] [] op (some (px_ix (ch (at_ + 1)))) (px_set vars z.1 z.2.1) z.2.2)
        else px_run ch len n false (at_ + 1) [] [] op none (px_set vars z.1 z.2.1) z.2.2
    else some none
end
section
/-! facts: every piece takes characters; where it ends; the simulation of the grammar by the reference's stacks -/
theorem pxf_isfn {c : Int32} (h : px_isfn c = true) : c = 65 ∨ c = 70 ∨ c = 78 ∨ c = 88 ∨ c = 83 ∨ c = 68 ∨ c = 86 ∨ c = 77 := by
  simpa [px_isfn, or_assoc] using h
theorem pxf_dig_fn {c : Int32} (hd : px_dig c = true) : ¬ px_isfn c = true := by
  intro h
  rcases pxf_isfn h with rfl | rfl | rfl | rfl | rfl | rfl | rfl | rfl <;> exact absurd hd (by decide)
theorem pxf_small_fn {c : Int32} (hd : px_small c = true) : ¬ px_isfn c = true := by
  intro h
  rcases pxf_isfn h with rfl | rfl | rfl | rfl | rfl | rfl | rfl | rfl <;> exact absurd hd (by decide)
theorem pxf_small_dig {c : Int32} (hd : px_small c = true) : ¬ px_dig c = true := by
  intro h
  simp only [px_small, px_dig, Bool.and_eq_true, decide_eq_true_eq] at hd h
  exact absurd (Int32.le_trans hd.1 h.2) (by decide)
theorem pxf_dig_ne {c d : Int32} (hd : px_dig c = true) (h : px_dig d = false) : c ≠ d := by
  intro e
  rw [e, h] at hd
  cases hd
theorem pxf_small_ne {c d : Int32} (hd : px_small c = true) (h : px_small d = false) : c ≠ d := by
  intro e
  rw [e, h] at hd
  cases hd
theorem pxf_fn_ne {c d : Int32} (hd : px_isfn c = true) (h : px_isfn d = false) : c ≠ d := by
  intro e
  rw [e, h] at hd
  cases hd
section PXF
variable {ch : Nat → Int32} {len : Nat}
theorem pxf_lt (hz : ∀ k, len ≤ k → ch k = 0) {k : Nat} (h : ch k ≠ 0) : k < len := by
  rcases Nat.lt_or_ge k len with h1 | h1
  · exact h1
  · exact absurd (hz k h1) h
theorem pxf_digl (hz : ∀ k, len ≤ k → ch k = 0) {k : Nat} (h : px_dig (ch k) = true) : k < len := pxf_lt hz (pxf_dig_ne h (by decide))
theorem pxf_plcl (hz : ∀ k, len ≤ k → ch k = 0) {k : Nat} (h : px_plc (ch k) = true) : k < len := pxf_lt hz (fun e => by rw [e] at h; exact absurd h (by decide))
theorem pxf_smalll (hz : ∀ k, len ≤ k → ch k = 0) {k : Nat} (h : px_small (ch k) = true) : k < len := pxf_lt hz (pxf_small_ne h (by decide))
theorem pxf_eql (hz : ∀ k, len ≤ k → ch k = 0) {k : Nat} {c : Int32} (h : ch k = c) (hc : c ≠ 0) : k < len := pxf_lt hz (by rw [h]; exact hc)
theorem pxf_digs (hz : ∀ k, len ≤ k → ch k = 0) : ∀ (n at_ : Nat) (a s : Int32), at_ ≤ (px_digs ch n at_ a s).1 ∧ (at_ ≤ len → (px_digs ch n at_ a s).1 ≤ len) := by
  intro n
  induction n with
  | zero => intro at_ a s; exact ⟨Nat.le_refl _, fun h => h⟩
  | succ n ih =>
    intro at_ a s
    rw [px_digs]
    split
    · rename_i h
      have h1 := ih (at_ + 1) (a * 10 + (ch at_ - 48)) (s * 10)
      have h2 := pxf_digl hz h
      exact ⟨by omega, fun _ => h1.2 (by omega)⟩
    · exact ⟨Nat.le_refl _, fun h => h⟩
theorem pxf_digs1 (hz : ∀ k, len ≤ k → ch k = 0) {at_ : Nat} (h : px_dig (ch at_) = true) (n : Nat) (a s : Int32) : at_ < (px_digs ch (n + 1) at_ a s).1 := by
  rw [px_digs, if_pos h]
  exact (pxf_digs hz n (at_ + 1) _ _).1
theorem pxf_const (hz : ∀ k, len ≤ k → ch k = 0) {at_ : Nat} (hd : px_dig (ch at_) = true) {x : Int32 × Nat} (h : px_const ch at_ = some x) : at_ < x.2 ∧ x.2 ≤ len := by
  have h1 := pxf_digs1 hz hd 3 0 1
  have h2 := (pxf_digs hz 4 at_ 0 1).2 (Nat.le_of_lt (pxf_digl hz hd))
  have h1 : at_ < (px_digs ch 4 at_ 0 1).1 := h1
  unfold px_const at h
  generalize px_digs ch 4 at_ 0 1 = w at h h1 h2
  have h3 := pxf_digs hz 4 (w.1 + 1) 0 1
  generalize px_digs ch 4 (w.1 + 1) 0 1 = f at h h3
  split at h
  · rename_i hp
    have h4 := pxf_eql hz hp (by decide)
    split at h
    · cases h
    · cases h
      exact ⟨by show at_ < f.1; omega, h3.2 (by omega)⟩
  · cases h
    exact ⟨h1, h2⟩
theorem pxf_places (hz : ∀ k, len ≤ k → ch k = 0) : ∀ (n at_ : Nat), at_ ≤ len → at_ + (px_places ch n at_).length ≤ len := by
  intro n
  induction n with
  | zero => intro at_ h; exact h
  | succ n ih =>
    intro at_ h
    rw [px_places]
    split
    · rename_i hp
      have h1 := pxf_plcl hz hp
      have h2 := ih (at_ + 1) (by omega)
      rw [List.length_cons]
      omega
    · exact h
theorem pxf_pick (hz : ∀ k, len ≤ k → ch k = 0) {v : px_V} {at_ : Nat} (hl : at_ ≤ len) {x : px_V × Nat} (h : px_pick ch v at_ = some x) : at_ ≤ x.2 ∧ x.2 ≤ len := by
  unfold px_pick at h
  split at h
  · rename_i hp
    have h1 := pxf_eql hz hp (by decide)
    have h2 := pxf_places hz 3 (at_ + 1) (by omega)
    split at h
    · cases h
    · cases h
      exact ⟨by show at_ ≤ at_ + 1 + _; omega, h2⟩
  · cases h
    exact ⟨Nat.le_refl _, hl⟩
def px_ok1 (len : Nat) (P : px_P) : Prop := ∀ at_ L x, P at_ L = some x → at_ < x.2.1 ∧ x.2.1 ≤ len
def px_nop (c : Int32) : Prop := c ≠ 42 ∧ c ≠ 47 ∧ c ≠ 43 ∧ c ≠ 45
def px_ok2 (ch : Nat → Int32) (len : Nat) (P : px_P) : Prop := px_ok1 len P ∧ ∀ at_ L x, P at_ L = some x → px_nop (ch x.2.1)
theorem pxf_args (hz : ∀ k, len ≤ k → ch k = 0) {inner : px_P} (hin : px_ok1 len inner) : ∀ (n : Nat) (acc : List px_V) (at_ : Nat) (L : px_L) (x : List px_V × Nat × px_L), px_args ch inner n acc at_ L = some x → at_ < x.2.1 ∧ x.2.1 ≤ len := by
  intro n
  induction n with
  | zero => intro acc at_ L x h; cases h
  | succ n ih =>
    intro acc at_ L x h
    rw [px_args] at h
    obtain ⟨r, hr, h⟩ := Option.bind_eq_some_iff.mp h
    have h1 := hin _ _ _ hr
    split at h
    · have h2 := ih _ _ _ _ h
      omega
    · split at h
      · rename_i hp
        have h3 := pxf_eql hz hp (by decide)
        cases h
        exact ⟨by show at_ < r.2.1 + 1; omega, h3⟩
      · cases h
variable {vars : Nat → Option px_V}
theorem pxf_part (hz : ∀ k, len ≤ k → ch k = 0) {inner : px_P} (hin : px_ok1 len inner) : px_ok1 len (px_part ch vars inner) := by
  intro at_ L x h
  unfold px_part at h
  split at h
  · rename_i hs
    have h1 := pxf_smalll hz hs
    obtain ⟨r, hr, h⟩ := Option.bind_eq_some_iff.mp h
    cases h
    exact ⟨by show at_ < at_ + 1; omega, h1⟩
  · split at h
    · obtain ⟨r, hr, h⟩ := Option.bind_eq_some_iff.mp h
      have h1 := hin _ _ _ hr
      split at h
      · rename_i hp
        have h3 := pxf_eql hz hp (by decide)
        cases h
        exact ⟨by show at_ < r.2.1 + 1; omega, h3⟩
      · cases h
    · split at h
      · obtain ⟨r, hr, h⟩ := Option.bind_eq_some_iff.mp h
        have h1 := pxf_args hz hin _ _ _ _ _ hr
        obtain ⟨q, hq, h⟩ := Option.bind_eq_some_iff.mp h
        cases h
        exact ⟨by show at_ < r.2.1; omega, h1.2⟩
      · cases h
theorem pxf_core (hz : ∀ k, len ≤ k → ch k = 0) {inner : px_P} (hin : px_ok1 len inner) : px_ok1 len (px_core ch vars inner) := by
  intro at_ L x h
  unfold px_core at h
  split at h
  · rename_i hd
    obtain ⟨r, hr, h⟩ := Option.bind_eq_some_iff.mp h
    obtain ⟨q, hq, h⟩ := Option.bind_eq_some_iff.mp h
    cases h
    exact pxf_const hz hd hr
  · obtain ⟨r, hr, h⟩ := Option.bind_eq_some_iff.mp h
    obtain ⟨q, hq, h⟩ := Option.bind_eq_some_iff.mp h
    cases h
    have h1 := pxf_part hz hin _ _ _ hr
    have h2 := pxf_pick hz h1.2 hq
    exact ⟨by show at_ < q.2; omega, h2.2⟩
theorem pxf_signs (hz : ∀ k, len ≤ k → ch k = 0) : ∀ (n at_ k : Nat), at_ ≤ (px_signs ch n at_ k).2 ∧ (len ≤ n + at_ → ch (px_signs ch n at_ k).2 ≠ 45) := by
  intro n
  induction n with
  | zero => intro at_ k; exact ⟨Nat.le_refl _, fun h => by rw [px_signs, hz _ (by omega)]; decide⟩
  | succ n ih =>
    intro at_ k
    rw [px_signs]
    split
    · have h1 := ih (at_ + 1) (k + 1)
      exact ⟨by omega, fun h => h1.2 (by omega)⟩
    · rename_i h
      exact ⟨Nat.le_refl _, fun _ => h⟩
theorem pxf_unit (hz : ∀ k, len ≤ k → ch k = 0) {inner : px_P} (hin : px_ok1 len inner) : px_ok1 len (px_unit ch vars inner) := by
  intro at_ L x h
  unfold px_unit at h
  obtain ⟨r, hr, h⟩ := Option.bind_eq_some_iff.mp h
  obtain ⟨q, hq, h⟩ := Option.bind_eq_some_iff.mp h
  cases h
  have h1 := pxf_core hz hin _ _ _ hr
  have h2 := (pxf_signs hz 160 at_ 0).1
  exact ⟨by show at_ < r.2.1; omega, h1.2⟩
theorem pxf_prodL (hz : ∀ k, len ≤ k → ch k = 0) {inner : px_P} (hin : px_ok1 len inner) : ∀ (n : Nat) (v : px_V) (at_ : Nat) (L : px_L) (x : px_V × Nat × px_L), at_ ≤ len → px_prodL ch vars inner n v at_ L = some x → at_ ≤ x.2.1 ∧ x.2.1 ≤ len ∧ ch x.2.1 ≠ 42 ∧ ch x.2.1 ≠ 47 := by
  intro n
  induction n with
  | zero => intro v at_ L x hl h; cases h
  | succ n ih =>
    intro v at_ L x hl h
    rw [px_prodL] at h
    split at h
    · obtain ⟨r, hr, h⟩ := Option.bind_eq_some_iff.mp h
      obtain ⟨q, hq, h⟩ := Option.bind_eq_some_iff.mp h
      have h1 := pxf_unit hz hin _ _ _ hr
      have h2 := ih _ _ _ _ h1.2 h
      exact ⟨by omega, h2.2⟩
    · rename_i hn
      cases h
      exact ⟨Nat.le_refl _, hl, fun e => hn (Or.inl e), fun e => hn (Or.inr e)⟩
theorem pxf_prod (hz : ∀ k, len ≤ k → ch k = 0) {inner : px_P} (hin : px_ok1 len inner) {at_ : Nat} {L : px_L} {x : px_V × Nat × px_L} (h : px_prod ch vars inner at_ L = some x) : at_ < x.2.1 ∧ x.2.1 ≤ len ∧ ch x.2.1 ≠ 42 ∧ ch x.2.1 ≠ 47 := by
  unfold px_prod at h
  obtain ⟨r, hr, h⟩ := Option.bind_eq_some_iff.mp h
  have h1 := pxf_unit hz hin _ _ _ hr
  have h2 := pxf_prodL hz hin _ _ _ _ _ h1.2 h
  exact ⟨by omega, h2.2⟩
theorem pxf_sumL (hz : ∀ k, len ≤ k → ch k = 0) {inner : px_P} (hin : px_ok1 len inner) : ∀ (n : Nat) (v : px_V) (at_ : Nat) (L : px_L) (x : px_V × Nat × px_L), at_ ≤ len → ch at_ ≠ 42 → ch at_ ≠ 47 → px_sumL ch vars inner n v at_ L = some x → at_ ≤ x.2.1 ∧ x.2.1 ≤ len ∧ px_nop (ch x.2.1) := by
  intro n
  induction n with
  | zero => intro v at_ L x hl _ _ h; cases h
  | succ n ih =>
    intro v at_ L x hl h42 h47 h
    rw [px_sumL] at h
    split at h
    · obtain ⟨r, hr, h⟩ := Option.bind_eq_some_iff.mp h
      obtain ⟨q, hq, h⟩ := Option.bind_eq_some_iff.mp h
      have h1 := pxf_prod hz hin hr
      have h2 := ih _ _ _ _ h1.2.1 h1.2.2.1 h1.2.2.2 h
      exact ⟨by omega, h2.2⟩
    · rename_i hn
      cases h
      exact ⟨Nat.le_refl _, hl, h42, h47, fun e => hn (Or.inl e), fun e => hn (Or.inr e)⟩
theorem pxf_sum (hz : ∀ k, len ≤ k → ch k = 0) {inner : px_P} (hin : px_ok1 len inner) : px_ok2 ch len (px_sum ch vars inner) := by
  have key : ∀ at_ L x, px_sum ch vars inner at_ L = some x → at_ < x.2.1 ∧ x.2.1 ≤ len ∧ px_nop (ch x.2.1) := by
    intro at_ L x h
    unfold px_sum at h
    obtain ⟨r, hr, h⟩ := Option.bind_eq_some_iff.mp h
    have h1 := pxf_prod hz hin hr
    have h2 := pxf_sumL hz hin _ _ _ _ _ h1.2.1 h1.2.2.1 h1.2.2.2 h
    exact ⟨by omega, h2.2⟩
  exact ⟨fun at_ L x h => ⟨(key _ _ _ h).1, (key _ _ _ h).2.1⟩, fun at_ L x h => (key _ _ _ h).2.2⟩
theorem pxf_sumD (hz : ∀ k, len ≤ k → ch k = 0) : ∀ d, px_ok2 ch len (px_sumD ch vars d) := by
  intro d
  induction d with
  | zero => exact pxf_sum hz (fun _ _ _ h => by cases h)
  | succ d ih => exact pxf_sum hz ih.1
end PXF
/-! what the run comes to -/
def px_to {α ρ : Type} (x : Option α) (r : Option ρ) (P : α → Prop) : Prop := match x with
  | none => r = none
  | some a => P a
theorem px_to_bind {α β ρ : Type} {x : Option α} {f : α → Option β} {r : Option ρ} {P : β → Prop} : px_to (x.bind f) r P ↔ px_to x r (fun a => px_to (f a) r P) := by
  cases x <;> exact Iff.rfl
theorem px_to_imp {α ρ : Type} {x : Option α} {r : Option ρ} {P P' : α → Prop} (h : px_to x r P) (hi : ∀ a, x = some a → P a → P' a) : px_to x r P' := by
  cases x with
  | none => exact h
  | some a => exact hi a rfl h
theorem px_k_ex {α ρ : Type} {x : Option α} {f : Nat → α → Option (Option ρ)} {r : Option ρ} (h : px_to x r (fun a => ∃ n, f n a = some r)) : ∃ n, px_k x (f n) = some r := by
  cases x with
  | none => exact ⟨0, by have h : r = none := h; rw [h]; rfl⟩
  | some a => exact h
def px_Ev (ch : Nat → Int32) (len : Nat) (m : Bool) (at_ : Nat) (vs : List px_V) (ws : List (Int32 × Nat)) (op : Nat) (tg : Option Nat) (vars : Nat → Option px_V) (L : px_L) (r : Option px_R) : Prop :=
  ∃ n, px_run ch len n m at_ vs ws op tg vars L = some r
def px_b0 (ws : List (Int32 × Nat)) : Prop := ∀ w, ws.head? = some w → w.1 ≠ 126
def px_b1 (ws : List (Int32 × Nat)) : Prop := ∀ w, ws.head? = some w → w.1 ≠ 126 ∧ w.1 ≠ 42 ∧ w.1 ≠ 47
def px_b2 (ws : List (Int32 × Nat)) : Prop := ∀ w, ws.head? = some w → w.1 ≠ 126 ∧ w.1 ≠ 42 ∧ w.1 ≠ 47 ∧ w.1 ≠ 43 ∧ w.1 ≠ 45
theorem px_b2.b1 {ws : List (Int32 × Nat)} (h : px_b2 ws) : px_b1 ws := fun w hw => ⟨(h w hw).1, (h w hw).2.1, (h w hw).2.2.1⟩
theorem px_b1.b0 {ws : List (Int32 × Nat)} (h : px_b1 ws) : px_b0 ws := fun w hw => (h w hw).1
theorem px_settle_f {ws : List (Int32 × Nat)} (h : px_b1 ws) (vs : List px_V) (L : px_L) : px_settle false ws vs L = some (ws, vs, L) := by
  cases ws with
  | nil => rfl
  | cons w ws =>
    have hw := h w rfl
    rw [px_settle, if_neg]
    rintro (e | e | e)
    · exact hw.2.1 e
    · exact hw.2.2 e
    · exact absurd e.1 (by decide)
theorem px_settle_t {ws : List (Int32 × Nat)} (h : px_b2 ws) (all : Bool) (vs : List px_V) (L : px_L) : px_settle all ws vs L = some (ws, vs, L) := by
  cases ws with
  | nil => rfl
  | cons w ws =>
    have hw := h w rfl
    rw [px_settle, if_neg]
    rintro (e | e | ⟨-, e | e⟩)
    · exact hw.2.1 e
    · exact hw.2.2.1 e
    · exact hw.2.2.2.1 e
    · exact hw.2.2.2.2 e
theorem px_unneg_rep {ws : List (Int32 × Nat)} (hb : px_b0 ws) : ∀ (k : Nat) (v : px_V) (L : px_L), px_unneg (List.replicate k (126, 1) ++ ws) v L = (px_negs k v L).map (fun q => (q.1, q.2, ws)) := by
  intro k
  induction k with
  | zero =>
    intro v L
    cases ws with
    | nil => rfl
    | cons w ws =>
      show px_unneg (w :: ws) v L = some (v, L, w :: ws)
      rw [px_unneg, if_neg (hb w rfl)]
  | succ k ih =>
    intro v L
    show px_unneg ((126, 1) :: (List.replicate k (126, 1) ++ ws)) v L = _
    rw [px_unneg, if_pos rfl, px_negs]
    cases px_each 9 v L with
    | none => rfl
    | some r => exact ih r.1 r.2
theorem px_to_unneg {ρ : Type} {ws : List (Int32 × Nat)} (hb : px_b0 ws) {k : Nat} {v : px_V} {L : px_L} {r : Option ρ} {P : px_V × px_L × List (Int32 × Nat) → Prop} (h : px_to (px_negs k v L) r (fun z => P (z.1, z.2, ws))) : px_to (px_unneg (List.replicate k (126, 1) ++ ws) v L) r P := by
  rw [px_unneg_rep hb]
  cases hn : px_negs k v L with
  | none => rw [hn] at h; exact h
  | some z => rw [hn] at h; exact h
end
section
/-! the grammar against the reference's run -/
section PXS
variable {ch : Nat → Int32} {len : Nat} {vs : List px_V} {ws : List (Int32 × Nat)} {op : Nat} {tg : Option Nat} {vars : Nat → Option px_V} {L : px_L} {r : Option px_R} {at_ : Nat}
theorem ev_neg (h : ch at_ = 45) (e : px_Ev ch len false (at_ + 1) vs ((126, 1) :: ws) op tg vars L r) : px_Ev ch len false at_ vs ws op tg vars L r := by
  obtain ⟨n, e⟩ := e
  exact ⟨n + 1, by rw [px_run, if_pos h]; exact e⟩
theorem ev_open (h : ch at_ = 40) (ho : op < 5) (e : px_Ev ch len false (at_ + 1) vs ((40, 1) :: ws) (op + 1) tg vars L r) : px_Ev ch len false at_ vs ws op tg vars L r := by
  obtain ⟨n, e⟩ := e
  exact ⟨n + 1, by rw [px_run, if_neg (by rw [h]; decide), if_pos h, if_neg (by omega)]; exact e⟩
theorem ev_open5 (h : ch at_ = 40) (ho : 5 ≤ op) : px_Ev ch len false at_ vs ws op tg vars L none :=
  ⟨0 + 1, by rw [px_run, if_neg (by rw [h]; decide), if_pos h, if_pos ho]⟩
theorem ev_fn (h : px_isfn (ch at_) = true ∧ ch (at_ + 1) = 40) (ho : op < 5) (e : px_Ev ch len false (at_ + 2) vs ((ch at_, 1) :: ws) (op + 1) tg vars L r) : px_Ev ch len false at_ vs ws op tg vars L r := by
  obtain ⟨n, e⟩ := e
  exact ⟨n + 1, by rw [px_run, if_neg (pxf_fn_ne h.1 (by decide)), if_neg (pxf_fn_ne h.1 (by decide)), if_pos h, if_neg (by omega)]; exact e⟩
theorem ev_fn5 (h : px_isfn (ch at_) = true ∧ ch (at_ + 1) = 40) (ho : 5 ≤ op) : px_Ev ch len false at_ vs ws op tg vars L none :=
  ⟨0 + 1, by rw [px_run, if_neg (pxf_fn_ne h.1 (by decide)), if_neg (pxf_fn_ne h.1 (by decide)), if_pos h, if_pos ho]⟩
theorem ev_bad (h1 : ch at_ ≠ 45) (h2 : ch at_ ≠ 40) (h3 : ¬ (px_isfn (ch at_) = true ∧ ch (at_ + 1) = 40)) (h4 : ¬ px_dig (ch at_) = true) (h5 : ¬ px_small (ch at_) = true) : px_Ev ch len false at_ vs ws op tg vars L none :=
  ⟨0 + 1, by rw [px_run, if_neg h1, if_neg h2, if_neg h3, if_neg h4, if_neg h5]⟩
theorem ev_junk (hl : at_ < len) (h1 : ch at_ ≠ 41) (h2 : px_nop (ch at_)) (h3 : ch at_ ≠ 44) (h4 : ch at_ ≠ 59) (e : px_Ev ch len true at_ vs ws op tg vars L r) : r = none := by
  obtain ⟨n, e⟩ := e
  cases n with
  | zero => rw [px_run] at e; cases e
  | succ n =>
    rw [px_run, if_neg (by omega), if_neg h1, if_neg (fun z => z.elim h2.2.2.1 h2.2.2.2), if_neg (fun z => z.elim h2.1 h2.2.1), if_neg h3, if_neg h4] at e
    exact (Option.some.inj e).symm
theorem ev_num (hz : ∀ k, len ≤ k → ch k = 0) {k : Nat} (hb : px_b0 ws) (hd : px_dig (ch at_) = true)
    (h : px_to (px_const ch at_) r fun x => px_to (px_put L (0, x.1, 0)) r fun y => px_to (px_negs k [y.1] y.2) r fun z => px_Ev ch len true x.2 (z.1 :: vs) ws op tg vars z.2 r) : px_Ev ch len false at_ vs (List.replicate k (126, 1) ++ ws) op tg vars L r := by
  have key : ∃ n, px_k (px_const ch at_) (fun x => if px_dig (ch x.2) = true ∨ ch x.2 = 46 then some none else
      px_k (px_put L (0, x.1, 0)) fun y => px_k (px_unneg (List.replicate k (126, 1) ++ ws) [y.1] y.2) fun q => px_run ch len n true x.2 (q.1 :: vs) q.2.2 op tg vars q.2.1) = some r := by
    refine px_k_ex (f := fun n x => if px_dig (ch x.2) = true ∨ ch x.2 = 46 then some none else
      px_k (px_put L (0, x.1, 0)) fun y => px_k (px_unneg (List.replicate k (126, 1) ++ ws) [y.1] y.2) fun q => px_run ch len n true x.2 (q.1 :: vs) q.2.2 op tg vars q.2.1) (px_to_imp h fun x hx hp => ?_)
    by_cases hj : px_dig (ch x.2) = true ∨ ch x.2 = 46
    · have hr : r = none := by
        have hlt : x.2 < len := hj.elim (fun q => pxf_digl hz q) (fun q => pxf_eql hz q (by decide))
        have hne : ∀ d : Int32, px_dig d = false → d ≠ 46 → ch x.2 ≠ d := fun d d1 d2 => hj.elim (fun q => pxf_dig_ne q d1) (fun q => by rw [q]; exact fun z => d2 z.symm)
        cases hu : px_put L (0, x.1, 0) with
        | none => rw [hu] at hp; exact hp
        | some y =>
          rw [hu] at hp
          have hp : px_to (px_negs k [y.1] y.2) r fun z => px_Ev ch len true x.2 (z.1 :: vs) ws op tg vars z.2 r := hp
          cases hv : px_negs k [y.1] y.2 with
          | none => rw [hv] at hp; exact hp
          | some z =>
            rw [hv] at hp
            exact ev_junk hlt (hne _ (by decide) (by decide)) ⟨hne _ (by decide) (by decide), hne _ (by decide) (by decide), hne _ (by decide) (by decide), hne _ (by decide) (by decide)⟩ (hne _ (by decide) (by decide)) (hne _ (by decide) (by decide)) hp
      exact ⟨0, by rw [if_pos hj, hr]⟩
    · have h2 : ∃ n, px_k (px_put L (0, x.1, 0)) (fun y => px_k (px_unneg (List.replicate k (126, 1) ++ ws) [y.1] y.2) fun q => px_run ch len n true x.2 (q.1 :: vs) q.2.2 op tg vars q.2.1) = some r := by
        refine px_k_ex (f := fun n y => px_k (px_unneg (List.replicate k (126, 1) ++ ws) [y.1] y.2) fun q => px_run ch len n true x.2 (q.1 :: vs) q.2.2 op tg vars q.2.1) (px_to_imp hp fun y hy hp => ?_)
        refine px_k_ex (f := fun n q => px_run ch len n true x.2 (q.1 :: vs) q.2.2 op tg vars q.2.1) (px_to_unneg hb hp)
      obtain ⟨n, e⟩ := h2
      exact ⟨n, by rw [if_neg hj]; exact e⟩
  obtain ⟨n, e⟩ := key
  exact ⟨n + 1, by rw [px_run, if_neg (pxf_dig_ne hd (by decide)), if_neg (pxf_dig_ne hd (by decide)), if_neg (fun q => pxf_dig_fn hd q.1), if_pos hd]; exact e⟩
theorem ev_let {k : Nat} (hb : px_b0 ws) (hd : px_small (ch at_) = true)
    (h : px_to (px_letter vars (ch at_) L) r fun x => px_to (px_pick ch x.1 (at_ + 1)) r fun y => px_to (px_negs k y.1 x.2) r fun z => px_Ev ch len true y.2 (z.1 :: vs) ws op tg vars z.2 r) : px_Ev ch len false at_ vs (List.replicate k (126, 1) ++ ws) op tg vars L r := by
  have key : ∃ n, px_k (px_letter vars (ch at_) L) (fun x => px_k (px_pick ch x.1 (at_ + 1)) fun s => px_k (px_unneg (List.replicate k (126, 1) ++ ws) s.1 x.2) fun q =>
      px_run ch len n true s.2 (q.1 :: vs) q.2.2 op tg vars q.2.1) = some r := by
    refine px_k_ex (f := fun n x => px_k (px_pick ch x.1 (at_ + 1)) fun s => px_k (px_unneg (List.replicate k (126, 1) ++ ws) s.1 x.2) fun q => px_run ch len n true s.2 (q.1 :: vs) q.2.2 op tg vars q.2.1) (px_to_imp h fun x hx hp => ?_)
    refine px_k_ex (f := fun n s => px_k (px_unneg (List.replicate k (126, 1) ++ ws) s.1 x.2) fun q => px_run ch len n true s.2 (q.1 :: vs) q.2.2 op tg vars q.2.1) (px_to_imp hp fun y hy hp => ?_)
    exact px_k_ex (f := fun n q => px_run ch len n true y.2 (q.1 :: vs) q.2.2 op tg vars q.2.1) (px_to_unneg hb hp)
  obtain ⟨n, e⟩ := key
  exact ⟨n + 1, by rw [px_run, if_neg (pxf_small_ne hd (by decide)), if_neg (pxf_small_ne hd (by decide)), if_neg (fun q => pxf_small_fn hd q.1), if_neg (pxf_small_dig hd), if_pos hd]; exact e⟩
/-- a bracket or a function closes -/
theorem ev_close {k : Nat} {w : Int32 × Nat} (hb : px_b0 ws) (hw : px_b2 (w :: (List.replicate k (126, 1) ++ ws))) (hl : at_ < len) (h : ch at_ = 41) {vs' : List px_V}
    (hc : px_to (px_close (w :: (List.replicate k (126, 1) ++ ws), vs, L)) r fun z => z.2.1 = List.replicate k (126, 1) ++ ws ∧ z.2.2.1 = vs' ∧ px_to (px_pick ch z.1 (at_ + 1)) r fun y => px_to (px_negs k y.1 z.2.2.2) r fun x => px_Ev ch len true y.2 (x.1 :: vs') ws (op - 1) tg vars x.2 r) :
    px_Ev ch len true at_ vs (w :: (List.replicate k (126, 1) ++ ws)) op tg vars L r := by
  have key : ∃ n, px_k (px_close (w :: (List.replicate k (126, 1) ++ ws), vs, L)) (fun z => px_k (px_pick ch z.1 (at_ + 1)) fun s => px_k (px_unneg z.2.1 s.1 z.2.2.2) fun y =>
      px_run ch len n true s.2 (y.1 :: z.2.2.1) y.2.2 (op - 1) tg vars y.2.1) = some r := by
    refine px_k_ex (f := fun n z => px_k (px_pick ch z.1 (at_ + 1)) fun s => px_k (px_unneg z.2.1 s.1 z.2.2.2) fun y => px_run ch len n true s.2 (y.1 :: z.2.2.1) y.2.2 (op - 1) tg vars y.2.1) (px_to_imp hc fun z hz hp => ?_)
    obtain ⟨e1, e2, hp⟩ := hp
    refine px_k_ex (f := fun n s => px_k (px_unneg z.2.1 s.1 z.2.2.2) fun y => px_run ch len n true s.2 (y.1 :: z.2.2.1) y.2.2 (op - 1) tg vars y.2.1) (px_to_imp hp fun y hy hp => ?_)
    rw [e1, e2]
    exact px_k_ex (f := fun n q => px_run ch len n true y.2 (q.1 :: vs') q.2.2 (op - 1) tg vars q.2.1) (px_to_unneg hb hp)
  obtain ⟨n, e⟩ := key
  exact ⟨n + 1, by rw [px_run, if_neg (by omega), if_pos h, px_settle_t hw]; exact e⟩
/-- a bracket is left open -/
theorem ev_left {w : Int32 × Nat} (hw : px_b2 (w :: ws)) (h1 : ch at_ ≠ 41) (h2 : px_nop (ch at_)) (h3 : ch at_ ≠ 44 ∨ px_isfn w.1 = false) : px_Ev ch len true at_ vs (w :: ws) op tg vars L none := by
  refine ⟨0 + 1, ?_⟩
  rw [px_run, px_settle_t hw]
  by_cases hl : len ≤ at_
  · rw [if_pos hl]
    rfl
  · rw [if_neg hl, if_neg h1, if_neg (fun z => z.elim h2.2.2.1 h2.2.2.2), if_neg (fun z => z.elim h2.1 h2.2.1)]
    by_cases h44 : ch at_ = 44
    · rw [if_pos h44]
      have h5 : px_isfn w.1 = false := h3.elim (fun q => absurd h44 q) id
      have h6 : px_comma (w :: ws) = none := by rw [px_comma, if_neg (by rw [h5]; decide)]
      show px_k (px_comma (w :: ws)) _ = some none
      rw [h6]
      rfl
    · rw [if_neg h44]
      by_cases h59 : ch at_ = 59
      · rw [if_pos h59]
        cases tg <;> rfl
      · rw [if_neg h59]
theorem ev_stop {v : px_V} (hl : at_ < len) (h2 : px_nop (ch at_)) (h3 : ch at_ ≠ 59 ∨ tg = none) : px_Ev ch len true at_ [v] [] op tg vars L none := by
  refine ⟨0 + 1, ?_⟩
  rw [px_run, if_neg (by omega)]
  by_cases h41 : ch at_ = 41
  · rw [if_pos h41]
    rfl
  · rw [if_neg h41, if_neg (fun z => z.elim h2.2.2.1 h2.2.2.2), if_neg (fun z => z.elim h2.1 h2.2.1)]
    by_cases h44 : ch at_ = 44
    · rw [if_pos h44]
      rfl
    · rw [if_neg h44]
      by_cases h59 : ch at_ = 59
      · rw [if_pos h59]
        have h5 : tg = none := h3.elim (fun q => absurd h59 q) id
        subst h5
        rfl
      · rw [if_neg h59]
theorem ev_comma {w : Int32 × Nat} (hw : px_b2 (w :: ws)) (hl : at_ < len) (h : ch at_ = 44) (hf : px_isfn w.1 = true) (e : px_Ev ch len false (at_ + 1) vs ((w.1, w.2 + 1) :: ws) op tg vars L r) : px_Ev ch len true at_ vs (w :: ws) op tg vars L r := by
  obtain ⟨n, e⟩ := e
  refine ⟨n + 1, ?_⟩
  rw [px_run, if_neg (by omega), if_neg (by rw [h]; decide), if_neg (by rw [h]; decide), if_neg (by rw [h]; decide), if_pos h, px_settle_t hw]
  have h6 : px_comma (w :: ws) = some ((w.1, w.2 + 1) :: ws) := by rw [px_comma, if_pos hf]
  show px_k (px_comma (w :: ws)) _ = some r
  rw [h6]
  exact e
theorem ev_mulOp (hw : px_b1 ws) (hl : at_ < len) (h : ch at_ = 42 ∨ ch at_ = 47) (e : px_Ev ch len false (at_ + 1) vs ((ch at_, 1) :: ws) op tg vars L r) : px_Ev ch len true at_ vs ws op tg vars L r := by
  obtain ⟨n, e⟩ := e
  have h1 : ch at_ ≠ 41 := by rcases h with h | h <;> rw [h] <;> decide
  have h2 : ¬ (ch at_ = 43 ∨ ch at_ = 45) := by rcases h with h | h <;> rw [h] <;> decide
  refine ⟨n + 1, ?_⟩
  rw [px_run, if_neg (by omega), if_neg h1, if_neg h2, if_pos h, px_settle_f hw]
  exact e
theorem ev_addOp (hw : px_b2 ws) (hl : at_ < len) (h : ch at_ = 43 ∨ ch at_ = 45) (e : px_Ev ch len false (at_ + 1) vs ((ch at_, 1) :: ws) op tg vars L r) : px_Ev ch len true at_ vs ws op tg vars L r := by
  obtain ⟨n, e⟩ := e
  have h1 : ch at_ ≠ 41 := by rcases h with h | h <;> rw [h] <;> decide
  refine ⟨n + 1, ?_⟩
  rw [px_run, if_neg (by omega), if_neg h1, if_pos h, px_settle_t hw]
  exact e
/-- a waiting '*' or '/' is settled at once, whatever comes; a waiting '+' or '-' if no '*' or '/' comes -/
theorem px_run_op {n : Nat} {c : Int32} {k : Nat} {a b : px_V} (hc : c = 42 ∨ c = 47 ∨ ((c = 43 ∨ c = 45) ∧ ch at_ ≠ 42 ∧ ch at_ ≠ 47)) :
    px_run ch len (n + 1) true at_ (b :: a :: vs) ((c, k) :: ws) op tg vars L = px_k (px_bin c a b L) fun q => px_run ch len (n + 1) true at_ (q.1 :: vs) ws op tg vars q.2 := by
  have ht : px_settle true ((c, k) :: ws) (b :: a :: vs) L = (px_bin c a b L).bind fun q => px_settle true ws (q.1 :: vs) q.2 := by
    rw [px_settle, if_pos]
    · rfl
    rcases hc with e | e | e
    · exact Or.inl e
    · exact Or.inr (Or.inl e)
    · exact Or.inr (Or.inr ⟨rfl, e.1⟩)
  have hf : ch at_ = 42 ∨ ch at_ = 47 → px_settle false ((c, k) :: ws) (b :: a :: vs) L = (px_bin c a b L).bind fun q => px_settle false ws (q.1 :: vs) q.2 := by
    intro hm
    rw [px_settle, if_pos]
    · rfl
    rcases hc with e | e | e
    · exact Or.inl e
    · exact Or.inr (Or.inl e)
    · exact absurd hm (fun z => z.elim e.2.1 e.2.2)
  by_cases hm : ch at_ = 42 ∨ ch at_ = 47
  · have hf := hf hm
    cases hb : px_bin c a b L with
    | none =>
      rw [hb] at ht hf
      rw [px_run, ht, hf]
      simp [px_k]
    | some q =>
      rw [hb] at ht hf
      show _ = px_run ch len (n + 1) true at_ (q.1 :: vs) ws op tg vars q.2
      rw [px_run, px_run, ht, hf]
      rfl
  · cases hb : px_bin c a b L with
    | none =>
      rw [hb] at ht
      rw [px_run, ht, if_neg (c := ch at_ = 42 ∨ ch at_ = 47) hm]
      simp [px_k]
    | some q =>
      rw [hb] at ht
      show _ = px_run ch len (n + 1) true at_ (q.1 :: vs) ws op tg vars q.2
      rw [px_run, px_run, ht, if_neg (c := ch at_ = 42 ∨ ch at_ = 47) hm, if_neg (c := ch at_ = 42 ∨ ch at_ = 47) hm]
      rfl
theorem ev_op {c : Int32} {k : Nat} {a b : px_V} (hc : c = 42 ∨ c = 47 ∨ ((c = 43 ∨ c = 45) ∧ ch at_ ≠ 42 ∧ ch at_ ≠ 47)) (h : px_to (px_bin c a b L) r fun q => px_Ev ch len true at_ (q.1 :: vs) ws op tg vars q.2 r) : px_Ev ch len true at_ (b :: a :: vs) ((c, k) :: ws) op tg vars L r := by
  cases hb : px_bin c a b L with
  | none =>
    rw [hb] at h
    have h : r = none := h
    exact ⟨0 + 1, by rw [px_run_op hc, hb, h]; rfl⟩
  | some q =>
    rw [hb] at h
    obtain ⟨n, e⟩ := h
    cases n with
    | zero => rw [px_run] at e; cases e
    | succ n => exact ⟨n + 1, by rw [px_run_op hc, hb]; exact e⟩
end PXS
/-- what it is to be simulated -/
def px_Good (ch : Nat → Int32) (len : Nat) (tg : Option Nat) (vars : Nat → Option px_V) (P : px_P) (op : Nat) (B : List (Int32 × Nat) → Prop) : Prop :=
  ∀ (at_ : Nat) (L : px_L) (vs : List px_V) (ws : List (Int32 × Nat)) (r : Option px_R), B ws → px_to (P at_ L) r (fun x => px_Ev ch len true x.2.1 (x.1 :: vs) ws op tg vars x.2.2 r) → px_Ev ch len false at_ vs ws op tg vars L r
section PXG
variable {ch : Nat → Int32} {len : Nat} {op : Nat} {tg : Option Nat} {vars : Nat → Option px_V} {inner : px_P}
theorem ev_args (hz : ∀ k, len ≤ k → ch k = 0) (hg : px_Good ch len tg vars inner (op + 1) px_b2) (hok : px_ok2 ch len inner) {f : Int32} (hf : px_isfn f = true) {k : Nat} {ws : List (Int32 × Nat)} (hb : px_b0 ws) {vs : List px_V} {r : Option px_R} :
    ∀ (n : Nat) (acc : List px_V) (at_ : Nat) (L : px_L), len < n + at_ →
      px_to (px_args ch inner n acc at_ L) r (fun x => px_to (px_fn f x.1 x.2.2) r fun q => px_to (px_pick ch q.1 x.2.1) r fun y => px_to (px_negs k y.1 q.2) r fun z => px_Ev ch len true y.2 (z.1 :: vs) ws op tg vars z.2 r) →
      px_Ev ch len false at_ (acc.reverse ++ vs) ((f, acc.length + 1) :: (List.replicate k (126, 1) ++ ws)) (op + 1) tg vars L r := by
  have hwf : ∀ j, px_b2 ((f, j) :: (List.replicate k (126, 1) ++ ws)) := by
    intro j w hw
    cases hw
    exact ⟨pxf_fn_ne hf (by decide), pxf_fn_ne hf (by decide), pxf_fn_ne hf (by decide), pxf_fn_ne hf (by decide), pxf_fn_ne hf (by decide)⟩
  intro n
  induction n with
  | zero =>
    intro acc at_ L hn h
    have h : r = none := h
    have h0 : ch at_ = 0 := hz at_ (by omega)
    rw [h]
    exact ev_bad (by rw [h0]; decide) (by rw [h0]; decide) (fun q => absurd q.1 (by rw [h0]; decide)) (by rw [h0]; decide) (by rw [h0]; decide)
  | succ n ih =>
    intro acc at_ L hn h
    refine hg at_ L _ _ r (hwf _) ?_
    rw [px_args, px_to_bind] at h
    refine px_to_imp h fun x hx hp => ?_
    have h1 := hok.1 _ _ _ hx
    have h2 := hok.2 _ _ _ hx
    by_cases h44 : ch x.2.1 = 44
    · rw [if_pos h44] at hp
      have h3 := pxf_eql hz h44 (by decide)
      have h4 := ih (acc ++ [x.1]) (x.2.1 + 1) x.2.2 (by omega) hp
      rw [List.reverse_append, List.length_append] at h4
      exact ev_comma (hwf _) h3 h44 hf h4
    · rw [if_neg h44] at hp
      by_cases h41 : ch x.2.1 = 41
      · rw [if_pos h41] at hp
        have h3 := pxf_eql hz h41 (by decide)
        refine ev_close (vs' := vs) hb (hwf _) h3 h41 ?_
        have he : px_close ((f, acc.length + 1) :: (List.replicate k (126, 1) ++ ws), x.1 :: (acc.reverse ++ vs), x.2.2) = (px_fn f (acc ++ [x.1]) x.2.2).bind fun q => some (q.1, List.replicate k (126, 1) ++ ws, vs, q.2) := by
          have e1 : (x.1 :: (acc.reverse ++ vs)).take (acc.length + 1) = x.1 :: acc.reverse := by
            rw [List.take_succ_cons, List.take_left' (List.length_reverse)]
          have e2 : (x.1 :: (acc.reverse ++ vs)).drop (acc.length + 1) = vs := by
            rw [List.drop_succ_cons, List.drop_left' (List.length_reverse)]
          unfold px_close
          dsimp only
          rw [if_neg (pxf_fn_ne hf (by decide)), if_pos ⟨hf, by simp⟩, e1, e2, List.reverse_cons, List.reverse_reverse]
        rw [he, px_to_bind]
        refine px_to_imp hp fun q hq hp => ?_
        exact ⟨rfl, rfl, hp⟩
      · rw [if_neg h41] at hp
        have hp : r = none := hp
        rw [hp]
        exact ev_left (hwf _) h41 h2 (Or.inl h44)
theorem good_unit (hz : ∀ k, len ≤ k → ch k = 0) (hlen : len ≤ 160) (hin : (5 ≤ op ∧ inner = fun _ _ => none) ∨ (op < 5 ∧ px_Good ch len tg vars inner (op + 1) px_b2)) (hok : px_ok2 ch len inner) :
    px_Good ch len tg vars (px_unit ch vars inner) op px_b0 := by
  intro at_ L vs ws r hb h
  have hsig : ∀ (n a k : Nat), px_Ev ch len false (px_signs ch n a k).2 vs (List.replicate (px_signs ch n a k).1 (126, 1) ++ ws) op tg vars L r → px_Ev ch len false a vs (List.replicate k (126, 1) ++ ws) op tg vars L r := by
    intro n
    induction n with
    | zero => intro a k e; exact e
    | succ n ih =>
      intro a k e
      rw [px_signs] at e
      by_cases h45 : ch a = 45
      · rw [if_pos h45] at e
        exact ev_neg h45 (ih (a + 1) (k + 1) e)
      · rw [if_neg h45] at e
        exact e
  have h45 := (pxf_signs hz 160 at_ 0).2 (by omega)
  refine hsig 160 at_ 0 ?_
  unfold px_unit at h
  rw [px_to_bind] at h
  generalize (px_signs ch 160 at_ 0).1 = k at h ⊢
  generalize (px_signs ch 160 at_ 0).2 = a at h h45 ⊢
  have h : px_to (px_core ch vars inner a L) r fun x => px_to (px_negs k x.1 x.2.2) r fun z => px_Ev ch len true x.2.1 (z.1 :: vs) ws op tg vars z.2 r := px_to_imp h fun x hx hp => px_to_bind.mp hp
  unfold px_core at h
  by_cases hd : px_dig (ch a) = true
  · rw [if_pos hd, px_to_bind] at h
    refine ev_num hz hb hd (px_to_imp h fun x hx hp => ?_)
    have hp := px_to_bind.mp hp
    exact hp
  · rw [if_neg hd, px_to_bind] at h
    have h : px_to (px_part ch vars inner a L) r fun x => px_to (px_pick ch x.1 x.2.1) r fun y => px_to (px_negs k y.1 x.2.2) r fun z => px_Ev ch len true y.2 (z.1 :: vs) ws op tg vars z.2 r := px_to_imp h fun x hx hp => px_to_bind.mp hp
    unfold px_part at h
    by_cases hs : px_small (ch a) = true
    · rw [if_pos hs, px_to_bind] at h
      exact ev_let hb hs h
    · rw [if_neg hs] at h
      by_cases h40 : ch a = 40
      · rw [if_pos h40, px_to_bind] at h
        rcases hin with ⟨h5, hi⟩ | ⟨h5, hg⟩
        · rw [hi] at h
          have h : r = none := h
          rw [h]
          exact ev_open5 h40 h5
        · have hw : px_b2 ((40, 1) :: (List.replicate k (126, 1) ++ ws)) := by
            intro w hw
            cases hw
            decide
          refine ev_open h40 h5 (hg _ _ _ _ r hw (px_to_imp h fun x hx hp => ?_))
          by_cases h41 : ch x.2.1 = 41
          · rw [if_pos h41] at hp
            have h3 := pxf_eql hz h41 (by decide)
            refine ev_close (vs' := vs) hb hw h3 h41 ?_
            exact ⟨rfl, rfl, hp⟩
          · rw [if_neg h41] at hp
            have hp : r = none := hp
            rw [hp]
            exact ev_left hw h41 (hok.2 _ _ _ hx) (Or.inr (by decide))
      · rw [if_neg h40] at h
        by_cases hf : px_isfn (ch a) = true ∧ ch (a + 1) = 40
        · rw [if_pos hf, px_to_bind] at h
          have h := px_to_imp h fun x hx hp => px_to_bind.mp hp
          rcases hin with ⟨h5, hi⟩ | ⟨h5, hg⟩
          · have hn : px_args ch inner 161 [] (a + 2) L = none := by rw [hi]; rfl
            rw [hn] at h
            have h : r = none := h
            rw [h]
            exact ev_fn5 hf h5
          · refine ev_fn hf h5 (ev_args hz hg hok hf.1 hb 161 [] (a + 2) L (by omega) h)
        · rw [if_neg hf] at h
          have h : r = none := h
          rw [h]
          exact ev_bad h45 h40 hf hd hs
theorem good_prod (hz : ∀ k, len ≤ k → ch k = 0) (hlen : len ≤ 160) (hok : px_ok1 len inner) (hu : px_Good ch len tg vars (px_unit ch vars inner) op px_b0) : px_Good ch len tg vars (px_prod ch vars inner) op px_b1 := by
  intro at_ L vs ws r hb h
  have hloop : ∀ (n : Nat) (v : px_V) (a : Nat) (L : px_L), a ≤ len → len < n + a → px_to (px_prodL ch vars inner n v a L) r (fun x => px_Ev ch len true x.2.1 (x.1 :: vs) ws op tg vars x.2.2 r) → px_Ev ch len true a (v :: vs) ws op tg vars L r := by
    intro n
    induction n with
    | zero => intro v a L h1 h2; omega
    | succ n ih =>
      intro v a L h1 h2 h
      rw [px_prodL] at h
      by_cases hc : ch a = 42 ∨ ch a = 47
      · rw [if_pos hc, px_to_bind] at h
        have hl : a < len := hc.elim (fun q => pxf_eql hz q (by decide)) (fun q => pxf_eql hz q (by decide))
        refine ev_mulOp hb hl hc (hu _ _ _ _ r ?_ (px_to_imp h fun x hx hp => ?_))
        · intro w hw
          cases hw
          show ch a ≠ 126
          rcases hc with q | q <;> rw [q] <;> decide
        · have h3 := pxf_unit hz hok _ _ _ hx
          refine ev_op (hc.elim (fun q => Or.inl q) (fun q => Or.inr (Or.inl q))) ?_
          refine px_to_imp (px_to_bind.mp hp) fun q hq hp => ?_
          exact ih _ _ _ h3.2 (by omega) hp
      · rw [if_neg hc] at h
        exact h
  unfold px_prod at h
  rw [px_to_bind] at h
  refine hu _ _ _ _ r hb.b0 (px_to_imp h fun x hx hp => ?_)
  have h3 := pxf_unit hz hok _ _ _ hx
  exact hloop 160 _ _ _ h3.2 (by omega) hp
theorem good_sum (hz : ∀ k, len ≤ k → ch k = 0) (hlen : len ≤ 160) (hok : px_ok1 len inner) (hu : px_Good ch len tg vars (px_prod ch vars inner) op px_b1) : px_Good ch len tg vars (px_sum ch vars inner) op px_b2 := by
  intro at_ L vs ws r hb h
  have hloop : ∀ (n : Nat) (v : px_V) (a : Nat) (L : px_L), a ≤ len → len < n + a → px_to (px_sumL ch vars inner n v a L) r (fun x => px_Ev ch len true x.2.1 (x.1 :: vs) ws op tg vars x.2.2 r) → px_Ev ch len true a (v :: vs) ws op tg vars L r := by
    intro n
    induction n with
    | zero => intro v a L h1 h2; omega
    | succ n ih =>
      intro v a L h1 h2 h
      rw [px_sumL] at h
      by_cases hc : ch a = 43 ∨ ch a = 45
      · rw [if_pos hc, px_to_bind] at h
        have hl : a < len := hc.elim (fun q => pxf_eql hz q (by decide)) (fun q => pxf_eql hz q (by decide))
        refine ev_addOp hb hl hc (hu _ _ _ _ r ?_ (px_to_imp h fun x hx hp => ?_))
        · intro w hw
          cases hw
          show ch a ≠ 126 ∧ ch a ≠ 42 ∧ ch a ≠ 47
          rcases hc with q | q <;> rw [q] <;> decide
        · have h3 := pxf_prod hz hok hx
          refine ev_op (Or.inr (Or.inr ⟨hc, h3.2.2⟩)) ?_
          refine px_to_imp (px_to_bind.mp hp) fun q hq hp => ?_
          exact ih _ _ _ h3.2.1 (by omega) hp
      · rw [if_neg hc] at h
        exact h
  unfold px_sum at h
  rw [px_to_bind] at h
  refine hu _ _ _ _ r hb.b1 (px_to_imp h fun x hx hp => ?_)
  have h3 := pxf_prod hz hok hx
  exact hloop 160 _ _ _ h3.2.1 (by omega) hp
theorem good_sumD (hz : ∀ k, len ≤ k → ch k = 0) (hlen : len ≤ 160) : ∀ (d op : Nat), d + op = 5 → px_Good ch len tg vars (px_sumD ch vars d) op px_b2 := by
  intro d
  induction d with
  | zero =>
    intro op ho
    have hok : px_ok2 ch len (fun _ _ => none) := ⟨fun _ _ _ h => (by cases h), fun _ _ _ h => (by cases h)⟩
    exact good_sum hz hlen hok.1 (good_prod hz hlen hok.1 (good_unit hz hlen (Or.inl ⟨by omega, rfl⟩) hok))
  | succ d ih =>
    intro op ho
    have hok : px_ok2 ch len (px_sumD ch vars d) := pxf_sumD hz d
    exact good_sum hz hlen hok.1 (good_prod hz hlen hok.1 (good_unit hz hlen (Or.inr ⟨by omega, ih (op + 1) (by omega)⟩) hok))
/-- a text's end, or its next assignment -/
def px_EvB (ch : Nat → Int32) (len : Nat) (at_ : Nat) (vars : Nat → Option px_V) (L : px_L) (r : Option px_R) : Prop :=
  if px_asg ch at_ = true then (if px_given (ch at_) = true then r = none else px_Ev ch len false (at_ + 2) [] [] 0 (some (px_ix (ch at_))) vars L r)
  else px_Ev ch len false at_ [] [] 0 none vars L r
theorem ev_semi {at_ : Nat} {v : px_V} {L : px_L} {r : Option px_R} {l : Nat} (hl : at_ < len) (h : ch at_ = 59) (e : px_EvB ch len (at_ + 1) (px_set vars l v) L r) : px_Ev ch len true at_ [v] [] 0 (some l) vars L r := by
  have hs : ∀ n, px_run ch len (n + 1) true at_ [v] [] 0 (some l) vars L = if px_asg ch (at_ + 1) = true then
            (if px_given (ch (at_ + 1)) = true then some none else px_run ch len n false (at_ + 3) [] [] 0 (some (px_ix (ch (at_ + 1)))) (px_set vars l v) L)
            else px_run ch len n false (at_ + 1) [] [] 0 none (px_set vars l v) L := by
    intro n
    rw [px_run, if_neg (by omega), if_neg (by rw [h]; decide), if_neg (by rw [h]; decide), if_neg (by rw [h]; decide), if_neg (by rw [h]; decide), if_pos h]
    rfl
  unfold px_EvB at e
  by_cases h1 : px_asg ch (at_ + 1) = true
  · rw [if_pos h1] at e
    by_cases h2 : px_given (ch (at_ + 1)) = true
    · rw [if_pos h2] at e
      exact ⟨0 + 1, by rw [hs, if_pos h1, if_pos h2, e]⟩
    · rw [if_neg h2] at e
      obtain ⟨n, e⟩ := e
      exact ⟨n + 1, by rw [hs, if_pos h1, if_neg h2]; exact e⟩
  · rw [if_neg h1] at e
    obtain ⟨n, e⟩ := e
    exact ⟨n + 1, by rw [hs, if_neg h1]; exact e⟩
theorem ev_fin (hz : ∀ k, len ≤ k → ch k = 0) (hlen : len ≤ 160) (at_ : Nat) (vars : Nat → Option px_V) (L : px_L) : px_Ev ch len false at_ [] [] 0 none vars L (px_fin ch len at_ vars L) := by
  refine good_sumD hz hlen 5 0 rfl at_ L [] [] _ (fun w hw => by cases hw) ?_
  unfold px_fin
  have hok := pxf_sumD (vars := vars) hz 5
  cases hx : px_sumD ch vars 5 at_ L with
  | none => rfl
  | some x =>
    have h1 := hok.1 _ _ _ hx
    have h2 := hok.2 _ _ _ hx
    show px_Ev ch len true x.2.1 [x.1] [] 0 none vars x.2.2 (if x.2.1 = len ∧ x.1.length = 3 then some (x.1, x.2.2, vars) else none)
    by_cases hl : len ≤ x.2.1
    · have e1 : x.2.1 = len := by omega
      refine ⟨0 + 1, ?_⟩
      rw [px_run, if_pos hl]
      show some (if (none : Option Nat) = none ∧ x.1.length = 3 then some (x.1, x.2.2, vars) else none) = _
      simp [e1]
    · rw [if_neg (c := x.2.1 = len ∧ x.1.length = 3) (fun q => hl (by omega))]
      exact ev_stop (by omega) h2 (Or.inr rfl)
theorem ev_prog (hz : ∀ k, len ≤ k → ch k = 0) (hlen : len ≤ 160) : ∀ (n at_ : Nat) (vars : Nat → Option px_V) (L : px_L), len ≤ n + at_ → px_EvB ch len at_ vars L (px_prog ch len n at_ vars L) := by
  intro n
  induction n with
  | zero =>
    intro at_ vars L hn
    have h0 : ch at_ = 0 := hz at_ (by omega)
    unfold px_EvB
    rw [if_neg (by unfold px_asg; rw [h0, show px_small 0 = false by decide]; simp), px_prog]
    exact ev_fin hz hlen at_ vars L
  | succ n ih =>
    intro at_ vars L hn
    unfold px_EvB
    rw [px_prog]
    by_cases h1 : px_asg ch at_ = true
    · rw [if_pos h1, if_pos h1]
      by_cases h2 : px_given (ch at_) = true
      · rw [if_pos h2, if_pos h2]
      · rw [if_neg h2, if_neg h2]
        refine good_sumD hz hlen 5 0 rfl (at_ + 2) L [] [] _ (fun w hw => by cases hw) ?_
        have hok := pxf_sumD (vars := vars) hz 5
        cases hx : px_sumD ch vars 5 (at_ + 2) L with
        | none => rfl
        | some x =>
          have h3 := hok.1 _ _ _ hx
          have h4 := hok.2 _ _ _ hx
          show px_Ev ch len true x.2.1 [x.1] [] 0 (some (px_ix (ch at_))) vars x.2.2 (if ch x.2.1 = 59 then px_prog ch len n (x.2.1 + 1) (px_set vars (px_ix (ch at_)) x.1) x.2.2 else none)
          by_cases h59 : ch x.2.1 = 59
          · rw [if_pos h59]
            exact ev_semi (pxf_eql hz h59 (by decide)) h59 (ih _ _ _ (by omega))
          · rw [if_neg h59]
            by_cases hl : len ≤ x.2.1
            · refine ⟨0 + 1, ?_⟩
              rw [px_run, if_pos hl]
              rfl
            · exact ev_stop (by omega) h4 (Or.inl h59)
    · rw [if_neg h1, if_neg h1]
      exact ev_fin hz hlen at_ vars L
end PXG
end
section
/-! a value in one int: four times 7 bits, the type above them -/
def pv_sum : px_V → Nat
  | [] => 0
  | p :: l => p + 128 * pv_sum l
def pv_n (v : px_V) : Nat := v.length * 268435456 + pv_sum v
def pv (v : px_V) : Int32 := nI (pv_n v)
/-- a value as the grammar makes it: one to four numbers, places of instructions -/
def pv_ok (v : px_V) : Prop := 1 ≤ v.length ∧ v.length ≤ 4 ∧ ∀ p ∈ v, p < 128
theorem pv_lt : ∀ (v : px_V), (∀ p ∈ v, p < 128) → pv_sum v < 128 ^ v.length := by
  intro v
  induction v with
  | nil => intro _; decide
  | cons p l ih =>
    intro h
    have h1 := ih (fun q hq => h q (List.mem_cons_of_mem _ hq))
    have h2 := h p List.mem_cons_self
    rw [pv_sum, List.length_cons, Nat.pow_succ]
    omega
theorem pv_lt4 {v : px_V} (h : pv_ok v) : pv_sum v < 268435456 := by
  have h1 := pv_lt v h.2.2
  have h2 : 128 ^ v.length ≤ 128 ^ 4 := Nat.pow_le_pow_right (by decide) h.2.1
  have h3 : (128 : Nat) ^ 4 = 268435456 := by decide
  omega
theorem pv_nlt {v : px_V} (h : pv_ok v) : pv_n v < 2 ^ 31 := by
  have h1 := pv_lt4 h
  have h2 := h.2.1
  unfold pv_n
  omega
theorem pv_ne {v : px_V} (h : pv_ok v) : ¬ pv v = -1 := by
  intro e
  have h1 : (pv v).toInt = pv_n v := nI_toInt (pv_nlt h)
  rw [e] at h1
  have h2 : ((-1 : Int32)).toInt = -1 := by decide
  omega
theorem pv_get : ∀ (v : px_V) (i : Nat), (∀ p ∈ v, p < 128) → pv_sum v / 128 ^ i % 128 = v.getD i 0 := by
  intro v
  induction v with
  | nil => intro i _; simp [pv_sum]
  | cons p l ih =>
    intro i h
    have h2 := h p List.mem_cons_self
    cases i with
    | zero =>
      rw [pv_sum]
      simp
      omega
    | succ i =>
      have h1 := ih i (fun q hq => h q (List.mem_cons_of_mem _ hq))
      rw [pv_sum, Nat.pow_succ, Nat.mul_comm (128 ^ i) 128, ← Nat.div_div_eq_div_mul, show (p + 128 * pv_sum l) / 128 = pv_sum l by omega, h1]
      simp
theorem pv_app : ∀ (v : px_V) (p : Nat), pv_sum (v ++ [p]) = pv_sum v + 128 ^ v.length * p := by
  intro v p
  induction v with
  | nil => simp [pv_sum]
  | cons q l ih =>
    rw [List.cons_append, pv_sum, ih, pv_sum, List.length_cons, Nat.pow_succ]
    rw [Nat.mul_add, Nat.mul_comm (128 ^ l.length) 128, Nat.mul_assoc]
    omega
theorem pv_or (a b : Nat) : nI a ||| nI b = nI (a ||| b) := (Int32.ofNat_or a b).symm
theorem pv_type {v : px_V} (h : pv_ok v) : pv v >>> ((28 : Int32) &&& 31) = nI v.length := by
  have h1 := pv_lt4 h
  unfold pv
  rw [pk_shrN (pv_nlt h) _ 28 (by decide)]
  unfold pv_n
  rw [show (v.length * 268435456 + pv_sum v) / 2 ^ 28 = v.length by omega]
theorem pv_num {v : px_V} (h : pv_ok v) {i : Nat} (hi : i < 4) : (pv v >>> (((7 : Int32) * nI i) &&& 31)) &&& 127 = nI (v.getD i 0) := by
  have h1 := pv_get v i h.2.2
  have h2 := pv_nlt h
  have hk : ((((7 : Int32) * nI i) &&& 31).toBitVec.smod 32).toNat = 7 * i := by
    rcases (show i = 0 ∨ i = 1 ∨ i = 2 ∨ i = 3 by omega) with rfl | rfl | rfl | rfl <;> decide
  unfold pv
  rw [pk_shrN h2 _ _ hk, pk_andN (by have := Nat.div_le_self (pv_n v) (2 ^ (7 * i)); omega) 7 (by decide), ← h1]
  congr 1
  unfold pv_n
  rcases (show i = 0 ∨ i = 1 ∨ i = 2 ∨ i = 3 by omega) with rfl | rfl | rfl | rfl <;> simp <;> omega
/-- a number is set behind those that are set already -/
theorem pv_with {T i : Nat} {w : px_V} {p : Nat} (hT : T < 8) (hi : i < 4) (hw : w.length = i) (hp : p < 128) (hs : ∀ q ∈ w, q < 128) :
    nI (T * 268435456 + pv_sum w) ||| (nI p <<< (((7 : Int32) * nI i) &&& 31)) = nI (T * 268435456 + pv_sum (w ++ [p])) := by
  have h1 := pv_lt w hs
  rw [hw] at h1
  have hk : ((((7 : Int32) * nI i) &&& 31).toBitVec.smod 32).toNat = 7 * i := by
    rcases (show i = 0 ∨ i = 1 ∨ i = 2 ∨ i = 3 by omega) with rfl | rfl | rfl | rfl <;> decide
  have hpw : (2 : Nat) ^ (7 * i) = 128 ^ i := by rw [Nat.pow_mul]
  have h4 : 128 ^ (i + 1) ≤ 128 ^ 4 := Nat.pow_le_pow_right (by decide) (by omega)
  have h5 : (128 : Nat) ^ 4 = 268435456 := by decide
  have h6 : 128 ^ i * p + pv_sum w < 128 ^ (i + 1) := by
    rw [Nat.pow_succ]
    have : 128 ^ i * p ≤ 128 ^ i * 127 := Nat.mul_le_mul_left _ (by omega)
    omega
  rw [pk_shlN _ _ hk (by rw [hpw, Nat.mul_comm]; omega), pv_or, pv_app, hw, hpw]
  congr 1
  have e1 : T * 268435456 + pv_sum w = 2 ^ 28 * T ||| pv_sum w := by
    rw [← Nat.two_pow_add_eq_or_of_lt (by omega) T]
    omega
  have e2 : p * 128 ^ i ||| pv_sum w = 128 ^ i * p + pv_sum w := by
    rw [← hpw, Nat.mul_comm, ← Nat.two_pow_add_eq_or_of_lt (by rw [hpw]; exact h1) p]
  rw [e1, Nat.or_assoc, Nat.or_comm (pv_sum w), e2, ← Nat.two_pow_add_eq_or_of_lt (by omega) T]
  omega
theorem pv_of {T : Nat} (hT : T < 8) : nI T <<< ((28 : Int32) &&& 31) = nI (T * 268435456) := by
  rw [pk_shlN _ 28 (by decide) (by omega)]
end
