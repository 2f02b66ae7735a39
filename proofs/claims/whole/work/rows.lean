section
-- ===== PART A: goes FIRST, ahead of the names: the tables' words, and 'selects' of the private methods out of them =====
/-- a private method of a class that the tables say can be made, by its rows of tables_1 -/
def lw_okq (q : MethodName × Nat) : Prop := (q.1.cls ≠ "java/lang/invoke/MethodHandle" ∧ q.1.cls ≠ "java/lang/invoke/VarHandle") ∧ Cond.instantiable q.1.cls q.2 ∈ tables_1 ∧ Cond.privateMethod q.1 ∈ tables_1 ∧ Cond.instanceMethod q.1 ∈ tables_1
theorem lw_p0 : lw_okq (⟨"PixelFormula$Compiler", "start", "([CI)V"⟩, 5) := ⟨⟨by decide +kernel, by decide +kernel⟩, List.mem_of_getElem? (i := 68) (by decide +kernel), List.mem_of_getElem? (i := 137) (by decide +kernel), List.mem_of_getElem? (i := 138) (by decide +kernel)⟩
theorem lw_p1 : lw_okq (⟨"PixelFormula$Compiler", "isAssignmentNext", "()Z"⟩, 5) := ⟨⟨by decide +kernel, by decide +kernel⟩, List.mem_of_getElem? (i := 68) (by decide +kernel), List.mem_of_getElem? (i := 145) (by decide +kernel), List.mem_of_getElem? (i := 146) (by decide +kernel)⟩
theorem lw_p2 : lw_okq (⟨"PixelFormula$Compiler", "assignment", "()Z"⟩, 5) := ⟨⟨by decide +kernel, by decide +kernel⟩, List.mem_of_getElem? (i := 68) (by decide +kernel), List.mem_of_getElem? (i := 152) (by decide +kernel), List.mem_of_getElem? (i := 153) (by decide +kernel)⟩
theorem lw_p3 : lw_okq (⟨"PixelFormula$Compiler", "next", "()C"⟩, 5) := ⟨⟨by decide +kernel, by decide +kernel⟩, List.mem_of_getElem? (i := 68) (by decide +kernel), List.mem_of_getElem? (i := 156) (by decide +kernel), List.mem_of_getElem? (i := 157) (by decide +kernel)⟩
theorem lw_p4 : lw_okq (⟨"PixelFormula$Compiler", "sum", "(I)I"⟩, 5) := ⟨⟨by decide +kernel, by decide +kernel⟩, List.mem_of_getElem? (i := 68) (by decide +kernel), List.mem_of_getElem? (i := 166) (by decide +kernel), List.mem_of_getElem? (i := 167) (by decide +kernel)⟩
theorem lw_p5 : lw_okq (⟨"PixelFormula$Compiler", "product", "(I)I"⟩, 5) := ⟨⟨by decide +kernel, by decide +kernel⟩, List.mem_of_getElem? (i := 68) (by decide +kernel), List.mem_of_getElem? (i := 170) (by decide +kernel), List.mem_of_getElem? (i := 171) (by decide +kernel)⟩
theorem lw_p6 : lw_okq (⟨"PixelFormula$Compiler", "unit", "(I)I"⟩, 5) := ⟨⟨by decide +kernel, by decide +kernel⟩, List.mem_of_getElem? (i := 68) (by decide +kernel), List.mem_of_getElem? (i := 174) (by decide +kernel), List.mem_of_getElem? (i := 175) (by decide +kernel)⟩
theorem lw_p7 : lw_okq (⟨"PixelFormula$Compiler", "takes", "(C)Z"⟩, 5) := ⟨⟨by decide +kernel, by decide +kernel⟩, List.mem_of_getElem? (i := 68) (by decide +kernel), List.mem_of_getElem? (i := 178) (by decide +kernel), List.mem_of_getElem? (i := 179) (by decide +kernel)⟩
theorem lw_p8 : lw_okq (⟨"PixelFormula$Compiler", "constant", "()I"⟩, 5) := ⟨⟨by decide +kernel, by decide +kernel⟩, List.mem_of_getElem? (i := 68) (by decide +kernel), List.mem_of_getElem? (i := 185) (by decide +kernel), List.mem_of_getElem? (i := 186) (by decide +kernel)⟩
theorem lw_p9 : lw_okq (⟨"PixelFormula$Compiler", "digit", "()I"⟩, 5) := ⟨⟨by decide +kernel, by decide +kernel⟩, List.mem_of_getElem? (i := 68) (by decide +kernel), List.mem_of_getElem? (i := 189) (by decide +kernel), List.mem_of_getElem? (i := 190) (by decide +kernel)⟩
theorem lw_p10 : lw_okq (⟨"PixelFormula$Compiler", "part", "(I)I"⟩, 5) := ⟨⟨by decide +kernel, by decide +kernel⟩, List.mem_of_getElem? (i := 68) (by decide +kernel), List.mem_of_getElem? (i := 204) (by decide +kernel), List.mem_of_getElem? (i := 205) (by decide +kernel)⟩
theorem lw_p11 : lw_okq (⟨"PixelFormula$Compiler", "letter", "(C)I"⟩, 5) := ⟨⟨by decide +kernel, by decide +kernel⟩, List.mem_of_getElem? (i := 68) (by decide +kernel), List.mem_of_getElem? (i := 208) (by decide +kernel), List.mem_of_getElem? (i := 209) (by decide +kernel)⟩
theorem lw_p12 : lw_okq (⟨"PixelFormula$Compiler", "input", "(II)I"⟩, 5) := ⟨⟨by decide +kernel, by decide +kernel⟩, List.mem_of_getElem? (i := 68) (by decide +kernel), List.mem_of_getElem? (i := 212) (by decide +kernel), List.mem_of_getElem? (i := 213) (by decide +kernel)⟩
theorem lw_p13 : lw_okq (⟨"PixelFormula$Compiler", "function", "(CI)I"⟩, 5) := ⟨⟨by decide +kernel, by decide +kernel⟩, List.mem_of_getElem? (i := 68) (by decide +kernel), List.mem_of_getElem? (i := 216) (by decide +kernel), List.mem_of_getElem? (i := 217) (by decide +kernel)⟩
theorem lw_p14 : lw_okq (⟨"PixelFormula$Compiler", "each", "(II)I"⟩, 5) := ⟨⟨by decide +kernel, by decide +kernel⟩, List.mem_of_getElem? (i := 68) (by decide +kernel), List.mem_of_getElem? (i := 220) (by decide +kernel), List.mem_of_getElem? (i := 221) (by decide +kernel)⟩
theorem lw_p15 : lw_okq (⟨"PixelFormula$Compiler", "vector", "(I)I"⟩, 5) := ⟨⟨by decide +kernel, by decide +kernel⟩, List.mem_of_getElem? (i := 68) (by decide +kernel), List.mem_of_getElem? (i := 230) (by decide +kernel), List.mem_of_getElem? (i := 231) (by decide +kernel)⟩
def lw_privs_1 : List (MethodName × Nat) := [(⟨"PixelFormula$Compiler", "start", "([CI)V"⟩, 5), (⟨"PixelFormula$Compiler", "isAssignmentNext", "()Z"⟩, 5), (⟨"PixelFormula$Compiler", "assignment", "()Z"⟩, 5), (⟨"PixelFormula$Compiler", "next", "()C"⟩, 5), (⟨"PixelFormula$Compiler", "sum", "(I)I"⟩, 5), (⟨"PixelFormula$Compiler", "product", "(I)I"⟩, 5), (⟨"PixelFormula$Compiler", "unit", "(I)I"⟩, 5), (⟨"PixelFormula$Compiler", "takes", "(C)Z"⟩, 5), (⟨"PixelFormula$Compiler", "constant", "()I"⟩, 5), (⟨"PixelFormula$Compiler", "digit", "()I"⟩, 5), (⟨"PixelFormula$Compiler", "part", "(I)I"⟩, 5), (⟨"PixelFormula$Compiler", "letter", "(C)I"⟩, 5), (⟨"PixelFormula$Compiler", "input", "(II)I"⟩, 5), (⟨"PixelFormula$Compiler", "function", "(CI)I"⟩, 5), (⟨"PixelFormula$Compiler", "each", "(II)I"⟩, 5), (⟨"PixelFormula$Compiler", "vector", "(I)I"⟩, 5)]
theorem lw_r1 : ∀ q ∈ lw_privs_1, lw_okq q := List.forall_mem_cons.mpr ⟨lw_p0, List.forall_mem_cons.mpr ⟨lw_p1, List.forall_mem_cons.mpr ⟨lw_p2, List.forall_mem_cons.mpr ⟨lw_p3, List.forall_mem_cons.mpr ⟨lw_p4, List.forall_mem_cons.mpr ⟨lw_p5, List.forall_mem_cons.mpr ⟨lw_p6, List.forall_mem_cons.mpr ⟨lw_p7, List.forall_mem_cons.mpr ⟨lw_p8, List.forall_mem_cons.mpr ⟨lw_p9, List.forall_mem_cons.mpr ⟨lw_p10, List.forall_mem_cons.mpr ⟨lw_p11, List.forall_mem_cons.mpr ⟨lw_p12, List.forall_mem_cons.mpr ⟨lw_p13, List.forall_mem_cons.mpr ⟨lw_p14, List.forall_mem_cons.mpr ⟨lw_p15, fun _ h => absurd h List.not_mem_nil⟩⟩⟩⟩⟩⟩⟩⟩⟩⟩⟩⟩⟩⟩⟩⟩
theorem lw_p16 : lw_okq (⟨"PixelFormula$Compiler", "joined", "(II)I"⟩, 5) := ⟨⟨by decide +kernel, by decide +kernel⟩, List.mem_of_getElem? (i := 68) (by decide +kernel), List.mem_of_getElem? (i := 234) (by decide +kernel), List.mem_of_getElem? (i := 235) (by decide +kernel)⟩
theorem lw_p17 : lw_okq (⟨"PixelFormula$Compiler", "functionOfTwo", "(CI)I"⟩, 5) := ⟨⟨by decide +kernel, by decide +kernel⟩, List.mem_of_getElem? (i := 68) (by decide +kernel), List.mem_of_getElem? (i := 241) (by decide +kernel), List.mem_of_getElem? (i := 242) (by decide +kernel)⟩
theorem lw_p18 : lw_okq (⟨"PixelFormula$Compiler", "pairwise", "(III)I"⟩, 5) := ⟨⟨by decide +kernel, by decide +kernel⟩, List.mem_of_getElem? (i := 68) (by decide +kernel), List.mem_of_getElem? (i := 245) (by decide +kernel), List.mem_of_getElem? (i := 246) (by decide +kernel)⟩
theorem lw_p19 : lw_okq (⟨"PixelFormula$Compiler", "dotted", "(II)I"⟩, 5) := ⟨⟨by decide +kernel, by decide +kernel⟩, List.mem_of_getElem? (i := 68) (by decide +kernel), List.mem_of_getElem? (i := 257) (by decide +kernel), List.mem_of_getElem? (i := 258) (by decide +kernel)⟩
theorem lw_p20 : lw_okq (⟨"PixelFormula$Compiler", "matrix", "(II)I"⟩, 5) := ⟨⟨by decide +kernel, by decide +kernel⟩, List.mem_of_getElem? (i := 68) (by decide +kernel), List.mem_of_getElem? (i := 261) (by decide +kernel), List.mem_of_getElem? (i := 262) (by decide +kernel)⟩
theorem lw_p21 : lw_okq (⟨"PixelFormula$Compiler", "picked", "(I)I"⟩, 5) := ⟨⟨by decide +kernel, by decide +kernel⟩, List.mem_of_getElem? (i := 68) (by decide +kernel), List.mem_of_getElem? (i := 265) (by decide +kernel), List.mem_of_getElem? (i := 266) (by decide +kernel)⟩
theorem lw_p22 : lw_okq (⟨"PixelFormula$Compiler", "times", "(II)I"⟩, 5) := ⟨⟨by decide +kernel, by decide +kernel⟩, List.mem_of_getElem? (i := 68) (by decide +kernel), List.mem_of_getElem? (i := 269) (by decide +kernel), List.mem_of_getElem? (i := 270) (by decide +kernel)⟩
theorem lw_p23 : lw_okq (⟨"PixelFormula$Compiler", "timesColumns", "(II)I"⟩, 5) := ⟨⟨by decide +kernel, by decide +kernel⟩, List.mem_of_getElem? (i := 68) (by decide +kernel), List.mem_of_getElem? (i := 273) (by decide +kernel), List.mem_of_getElem? (i := 274) (by decide +kernel)⟩
theorem lw_p24 : lw_okq (⟨"PixelFormula$Compiler", "dividedBy", "(II)I"⟩, 5) := ⟨⟨by decide +kernel, by decide +kernel⟩, List.mem_of_getElem? (i := 68) (by decide +kernel), List.mem_of_getElem? (i := 277) (by decide +kernel), List.mem_of_getElem? (i := 278) (by decide +kernel)⟩
theorem lw_p25 : lw_okq (⟨"PixelFormula$Compiler", "finish", "(I)V"⟩, 5) := ⟨⟨by decide +kernel, by decide +kernel⟩, List.mem_of_getElem? (i := 68) (by decide +kernel), List.mem_of_getElem? (i := 281) (by decide +kernel), List.mem_of_getElem? (i := 282) (by decide +kernel)⟩
theorem lw_p26 : lw_okq (⟨"java/lang/Throwable", "fillInStackTrace", "(I)Ljava/lang/Throwable;"⟩, 6) := ⟨⟨by decide +kernel, by decide +kernel⟩, List.mem_of_getElem? (i := 340) (by decide +kernel), List.mem_of_getElem? (i := 338) (by decide +kernel), List.mem_of_getElem? (i := 339) (by decide +kernel)⟩
theorem lw_p27 : lw_okq (⟨"PixelFormula", "isInstruction", "(I)Z"⟩, 6) := ⟨⟨by decide +kernel, by decide +kernel⟩, List.mem_of_getElem? (i := 16) (by decide +kernel), List.mem_of_getElem? (i := 388) (by decide +kernel), List.mem_of_getElem? (i := 389) (by decide +kernel)⟩
theorem lw_p28 : lw_okq (⟨"PixelFormula", "hasCode", "()Z"⟩, 6) := ⟨⟨by decide +kernel, by decide +kernel⟩, List.mem_of_getElem? (i := 16) (by decide +kernel), List.mem_of_getElem? (i := 414) (by decide +kernel), List.mem_of_getElem? (i := 415) (by decide +kernel)⟩
theorem lw_p29 : lw_okq (⟨"PixelFormula$Machine", "make", "(III)I"⟩, 2) := ⟨⟨by decide +kernel, by decide +kernel⟩, List.mem_of_getElem? (i := 92) (by decide +kernel), List.mem_of_getElem? (i := 440) (by decide +kernel), List.mem_of_getElem? (i := 441) (by decide +kernel)⟩
theorem lw_p30 : lw_okq (⟨"PixelFormulaModel", "begin", "()V"⟩, 29) := ⟨⟨by decide +kernel, by decide +kernel⟩, List.mem_of_getElem? (i := 498) (by decide +kernel), List.mem_of_getElem? (i := 608) (by decide +kernel), List.mem_of_getElem? (i := 609) (by decide +kernel)⟩
theorem lw_p31 : lw_okq (⟨"PixelFormulaModel", "look", "(I)I"⟩, 29) := ⟨⟨by decide +kernel, by decide +kernel⟩, List.mem_of_getElem? (i := 498) (by decide +kernel), List.mem_of_getElem? (i := 612) (by decide +kernel), List.mem_of_getElem? (i := 613) (by decide +kernel)⟩
def lw_privs_2 : List (MethodName × Nat) := [(⟨"PixelFormula$Compiler", "joined", "(II)I"⟩, 5), (⟨"PixelFormula$Compiler", "functionOfTwo", "(CI)I"⟩, 5), (⟨"PixelFormula$Compiler", "pairwise", "(III)I"⟩, 5), (⟨"PixelFormula$Compiler", "dotted", "(II)I"⟩, 5), (⟨"PixelFormula$Compiler", "matrix", "(II)I"⟩, 5), (⟨"PixelFormula$Compiler", "picked", "(I)I"⟩, 5), (⟨"PixelFormula$Compiler", "times", "(II)I"⟩, 5), (⟨"PixelFormula$Compiler", "timesColumns", "(II)I"⟩, 5), (⟨"PixelFormula$Compiler", "dividedBy", "(II)I"⟩, 5), (⟨"PixelFormula$Compiler", "finish", "(I)V"⟩, 5), (⟨"java/lang/Throwable", "fillInStackTrace", "(I)Ljava/lang/Throwable;"⟩, 6), (⟨"PixelFormula", "isInstruction", "(I)Z"⟩, 6), (⟨"PixelFormula", "hasCode", "()Z"⟩, 6), (⟨"PixelFormula$Machine", "make", "(III)I"⟩, 2), (⟨"PixelFormulaModel", "begin", "()V"⟩, 29), (⟨"PixelFormulaModel", "look", "(I)I"⟩, 29)]
theorem lw_r2 : ∀ q ∈ lw_privs_2, lw_okq q := List.forall_mem_cons.mpr ⟨lw_p16, List.forall_mem_cons.mpr ⟨lw_p17, List.forall_mem_cons.mpr ⟨lw_p18, List.forall_mem_cons.mpr ⟨lw_p19, List.forall_mem_cons.mpr ⟨lw_p20, List.forall_mem_cons.mpr ⟨lw_p21, List.forall_mem_cons.mpr ⟨lw_p22, List.forall_mem_cons.mpr ⟨lw_p23, List.forall_mem_cons.mpr ⟨lw_p24, List.forall_mem_cons.mpr ⟨lw_p25, List.forall_mem_cons.mpr ⟨lw_p26, List.forall_mem_cons.mpr ⟨lw_p27, List.forall_mem_cons.mpr ⟨lw_p28, List.forall_mem_cons.mpr ⟨lw_p29, List.forall_mem_cons.mpr ⟨lw_p30, List.forall_mem_cons.mpr ⟨lw_p31, fun _ h => absurd h List.not_mem_nil⟩⟩⟩⟩⟩⟩⟩⟩⟩⟩⟩⟩⟩⟩⟩⟩
theorem lw_p32 : lw_okq (⟨"PixelFormulaModel", "operator", "()Z"⟩, 29) := ⟨⟨by decide +kernel, by decide +kernel⟩, List.mem_of_getElem? (i := 498) (by decide +kernel), List.mem_of_getElem? (i := 622) (by decide +kernel), List.mem_of_getElem? (i := 623) (by decide +kernel)⟩
theorem lw_p33 : lw_okq (⟨"PixelFormulaModel", "close", "()V"⟩, 29) := ⟨⟨by decide +kernel, by decide +kernel⟩, List.mem_of_getElem? (i := 498) (by decide +kernel), List.mem_of_getElem? (i := 626) (by decide +kernel), List.mem_of_getElem? (i := 627) (by decide +kernel)⟩
theorem lw_p34 : lw_okq (⟨"PixelFormulaModel", "settle", "(Z)V"⟩, 29) := ⟨⟨by decide +kernel, by decide +kernel⟩, List.mem_of_getElem? (i := 498) (by decide +kernel), List.mem_of_getElem? (i := 630) (by decide +kernel), List.mem_of_getElem? (i := 631) (by decide +kernel)⟩
theorem lw_p35 : lw_okq (⟨"PixelFormulaModel", "top", "()I"⟩, 29) := ⟨⟨by decide +kernel, by decide +kernel⟩, List.mem_of_getElem? (i := 498) (by decide +kernel), List.mem_of_getElem? (i := 634) (by decide +kernel), List.mem_of_getElem? (i := 635) (by decide +kernel)⟩
theorem lw_p36 : lw_okq (⟨"PixelFormulaModel", "operate", "(I)V"⟩, 29) := ⟨⟨by decide +kernel, by decide +kernel⟩, List.mem_of_getElem? (i := 498) (by decide +kernel), List.mem_of_getElem? (i := 641) (by decide +kernel), List.mem_of_getElem? (i := 642) (by decide +kernel)⟩
theorem lw_p37 : lw_okq (⟨"PixelFormulaModel", "columns", "(III)V"⟩, 29) := ⟨⟨by decide +kernel, by decide +kernel⟩, List.mem_of_getElem? (i := 498) (by decide +kernel), List.mem_of_getElem? (i := 645) (by decide +kernel), List.mem_of_getElem? (i := 646) (by decide +kernel)⟩
theorem lw_p38 : lw_okq (⟨"PixelFormulaModel", "number", "(II)I"⟩, 29) := ⟨⟨by decide +kernel, by decide +kernel⟩, List.mem_of_getElem? (i := 498) (by decide +kernel), List.mem_of_getElem? (i := 649) (by decide +kernel), List.mem_of_getElem? (i := 650) (by decide +kernel)⟩
theorem lw_p39 : lw_okq (⟨"PixelFormulaModel", "put", "(III)I"⟩, 29) := ⟨⟨by decide +kernel, by decide +kernel⟩, List.mem_of_getElem? (i := 498) (by decide +kernel), List.mem_of_getElem? (i := 653) (by decide +kernel), List.mem_of_getElem? (i := 654) (by decide +kernel)⟩
theorem lw_p40 : lw_okq (⟨"PixelFormulaModel", "pushMade", "(I)V"⟩, 29) := ⟨⟨by decide +kernel, by decide +kernel⟩, List.mem_of_getElem? (i := 498) (by decide +kernel), List.mem_of_getElem? (i := 657) (by decide +kernel), List.mem_of_getElem? (i := 658) (by decide +kernel)⟩
theorem lw_p41 : lw_okq (⟨"PixelFormulaModel", "push", "(I)V"⟩, 29) := ⟨⟨by decide +kernel, by decide +kernel⟩, List.mem_of_getElem? (i := 498) (by decide +kernel), List.mem_of_getElem? (i := 661) (by decide +kernel), List.mem_of_getElem? (i := 662) (by decide +kernel)⟩
theorem lw_p42 : lw_okq (⟨"PixelFormulaModel", "pairwise", "(III)V"⟩, 29) := ⟨⟨by decide +kernel, by decide +kernel⟩, List.mem_of_getElem? (i := 498) (by decide +kernel), List.mem_of_getElem? (i := 665) (by decide +kernel), List.mem_of_getElem? (i := 666) (by decide +kernel)⟩
theorem lw_p43 : lw_okq (⟨"PixelFormulaModel", "call", "(II)V"⟩, 29) := ⟨⟨by decide +kernel, by decide +kernel⟩, List.mem_of_getElem? (i := 498) (by decide +kernel), List.mem_of_getElem? (i := 672) (by decide +kernel), List.mem_of_getElem? (i := 673) (by decide +kernel)⟩
theorem lw_p44 : lw_okq (⟨"PixelFormulaModel", "each", "(I)V"⟩, 29) := ⟨⟨by decide +kernel, by decide +kernel⟩, List.mem_of_getElem? (i := 498) (by decide +kernel), List.mem_of_getElem? (i := 676) (by decide +kernel), List.mem_of_getElem? (i := 677) (by decide +kernel)⟩
theorem lw_p45 : lw_okq (⟨"PixelFormulaModel", "dot", "(II)V"⟩, 29) := ⟨⟨by decide +kernel, by decide +kernel⟩, List.mem_of_getElem? (i := 498) (by decide +kernel), List.mem_of_getElem? (i := 680) (by decide +kernel), List.mem_of_getElem? (i := 681) (by decide +kernel)⟩
theorem lw_p46 : lw_okq (⟨"PixelFormulaModel", "join", "(I)V"⟩, 29) := ⟨⟨by decide +kernel, by decide +kernel⟩, List.mem_of_getElem? (i := 498) (by decide +kernel), List.mem_of_getElem? (i := 684) (by decide +kernel), List.mem_of_getElem? (i := 685) (by decide +kernel)⟩
theorem lw_p47 : lw_okq (⟨"PixelFormulaModel", "matrix", "(II)V"⟩, 29) := ⟨⟨by decide +kernel, by decide +kernel⟩, List.mem_of_getElem? (i := 498) (by decide +kernel), List.mem_of_getElem? (i := 688) (by decide +kernel), List.mem_of_getElem? (i := 689) (by decide +kernel)⟩
def lw_privs_3 : List (MethodName × Nat) := [(⟨"PixelFormulaModel", "operator", "()Z"⟩, 29), (⟨"PixelFormulaModel", "close", "()V"⟩, 29), (⟨"PixelFormulaModel", "settle", "(Z)V"⟩, 29), (⟨"PixelFormulaModel", "top", "()I"⟩, 29), (⟨"PixelFormulaModel", "operate", "(I)V"⟩, 29), (⟨"PixelFormulaModel", "columns", "(III)V"⟩, 29), (⟨"PixelFormulaModel", "number", "(II)I"⟩, 29), (⟨"PixelFormulaModel", "put", "(III)I"⟩, 29), (⟨"PixelFormulaModel", "pushMade", "(I)V"⟩, 29), (⟨"PixelFormulaModel", "push", "(I)V"⟩, 29), (⟨"PixelFormulaModel", "pairwise", "(III)V"⟩, 29), (⟨"PixelFormulaModel", "call", "(II)V"⟩, 29), (⟨"PixelFormulaModel", "each", "(I)V"⟩, 29), (⟨"PixelFormulaModel", "dot", "(II)V"⟩, 29), (⟨"PixelFormulaModel", "join", "(I)V"⟩, 29), (⟨"PixelFormulaModel", "matrix", "(II)V"⟩, 29)]
theorem lw_r3 : ∀ q ∈ lw_privs_3, lw_okq q := List.forall_mem_cons.mpr ⟨lw_p32, List.forall_mem_cons.mpr ⟨lw_p33, List.forall_mem_cons.mpr ⟨lw_p34, List.forall_mem_cons.mpr ⟨lw_p35, List.forall_mem_cons.mpr ⟨lw_p36, List.forall_mem_cons.mpr ⟨lw_p37, List.forall_mem_cons.mpr ⟨lw_p38, List.forall_mem_cons.mpr ⟨lw_p39, List.forall_mem_cons.mpr ⟨lw_p40, List.forall_mem_cons.mpr ⟨lw_p41, List.forall_mem_cons.mpr ⟨lw_p42, List.forall_mem_cons.mpr ⟨lw_p43, List.forall_mem_cons.mpr ⟨lw_p44, List.forall_mem_cons.mpr ⟨lw_p45, List.forall_mem_cons.mpr ⟨lw_p46, List.forall_mem_cons.mpr ⟨lw_p47, fun _ h => absurd h List.not_mem_nil⟩⟩⟩⟩⟩⟩⟩⟩⟩⟩⟩⟩⟩⟩⟩⟩
theorem lw_p48 : lw_okq (⟨"PixelFormulaModel", "finish", "(Z)V"⟩, 29) := ⟨⟨by decide +kernel, by decide +kernel⟩, List.mem_of_getElem? (i := 498) (by decide +kernel), List.mem_of_getElem? (i := 692) (by decide +kernel), List.mem_of_getElem? (i := 693) (by decide +kernel)⟩
theorem lw_p49 : lw_okq (⟨"PixelFormulaModel", "hold", "(I)V"⟩, 29) := ⟨⟨by decide +kernel, by decide +kernel⟩, List.mem_of_getElem? (i := 498) (by decide +kernel), List.mem_of_getElem? (i := 696) (by decide +kernel), List.mem_of_getElem? (i := 697) (by decide +kernel)⟩
theorem lw_p50 : lw_okq (⟨"PixelFormulaModel", "assign", "()V"⟩, 29) := ⟨⟨by decide +kernel, by decide +kernel⟩, List.mem_of_getElem? (i := 498) (by decide +kernel), List.mem_of_getElem? (i := 700) (by decide +kernel), List.mem_of_getElem? (i := 701) (by decide +kernel)⟩
theorem lw_p51 : lw_okq (⟨"PixelFormulaModel", "operand", "()Z"⟩, 29) := ⟨⟨by decide +kernel, by decide +kernel⟩, List.mem_of_getElem? (i := 498) (by decide +kernel), List.mem_of_getElem? (i := 704) (by decide +kernel), List.mem_of_getElem? (i := 705) (by decide +kernel)⟩
theorem lw_p52 : lw_okq (⟨"PixelFormulaModel", "bracket", "(I)V"⟩, 29) := ⟨⟨by decide +kernel, by decide +kernel⟩, List.mem_of_getElem? (i := 498) (by decide +kernel), List.mem_of_getElem? (i := 708) (by decide +kernel), List.mem_of_getElem? (i := 709) (by decide +kernel)⟩
theorem lw_p53 : lw_okq (⟨"PixelFormulaModel", "constant", "()V"⟩, 29) := ⟨⟨by decide +kernel, by decide +kernel⟩, List.mem_of_getElem? (i := 498) (by decide +kernel), List.mem_of_getElem? (i := 715) (by decide +kernel), List.mem_of_getElem? (i := 716) (by decide +kernel)⟩
theorem lw_p54 : lw_okq (⟨"PixelFormulaModel", "letter", "()V"⟩, 29) := ⟨⟨by decide +kernel, by decide +kernel⟩, List.mem_of_getElem? (i := 498) (by decide +kernel), List.mem_of_getElem? (i := 721) (by decide +kernel), List.mem_of_getElem? (i := 722) (by decide +kernel)⟩
theorem lw_p55 : lw_okq (⟨"PixelFormulaModel", "keep", "()V"⟩, 29) := ⟨⟨by decide +kernel, by decide +kernel⟩, List.mem_of_getElem? (i := 498) (by decide +kernel), List.mem_of_getElem? (i := 725) (by decide +kernel), List.mem_of_getElem? (i := 726) (by decide +kernel)⟩
theorem lw_p56 : lw_okq (⟨"PixelFormulaModel", "evaluate", "(IIIII)V"⟩, 29) := ⟨⟨by decide +kernel, by decide +kernel⟩, List.mem_of_getElem? (i := 498) (by decide +kernel), List.mem_of_getElem? (i := 753) (by decide +kernel), List.mem_of_getElem? (i := 754) (by decide +kernel)⟩
def lw_privs_4 : List (MethodName × Nat) := [(⟨"PixelFormulaModel", "finish", "(Z)V"⟩, 29), (⟨"PixelFormulaModel", "hold", "(I)V"⟩, 29), (⟨"PixelFormulaModel", "assign", "()V"⟩, 29), (⟨"PixelFormulaModel", "operand", "()Z"⟩, 29), (⟨"PixelFormulaModel", "bracket", "(I)V"⟩, 29), (⟨"PixelFormulaModel", "constant", "()V"⟩, 29), (⟨"PixelFormulaModel", "letter", "()V"⟩, 29), (⟨"PixelFormulaModel", "keep", "()V"⟩, 29), (⟨"PixelFormulaModel", "evaluate", "(IIIII)V"⟩, 29)]
theorem lw_r4 : ∀ q ∈ lw_privs_4, lw_okq q := List.forall_mem_cons.mpr ⟨lw_p48, List.forall_mem_cons.mpr ⟨lw_p49, List.forall_mem_cons.mpr ⟨lw_p50, List.forall_mem_cons.mpr ⟨lw_p51, List.forall_mem_cons.mpr ⟨lw_p52, List.forall_mem_cons.mpr ⟨lw_p53, List.forall_mem_cons.mpr ⟨lw_p54, List.forall_mem_cons.mpr ⟨lw_p55, List.forall_mem_cons.mpr ⟨lw_p56, fun _ h => absurd h List.not_mem_nil⟩⟩⟩⟩⟩⟩⟩⟩⟩
def lw_privs : List (MethodName × Nat) := lw_privs_1 ++ (lw_privs_2 ++ (lw_privs_3 ++ (lw_privs_4)))
def lw_tbl : List Cond := k2_sels lw_privs ++ tables_1
theorem lw_privs_ok : ∀ q ∈ lw_privs, lw_okq q := by
  show ∀ q ∈ lw_privs_1 ++ (lw_privs_2 ++ (lw_privs_3 ++ (lw_privs_4))), lw_okq q
  exact List.forall_mem_append.mpr ⟨lw_r1, List.forall_mem_append.mpr ⟨lw_r2, List.forall_mem_append.mpr ⟨lw_r3, lw_r4⟩⟩⟩
end
section
def wA : List Cond := lw_tbl.filter goodWord
theorem wA_in {w : Cond} (h : w ∈ lw_tbl) (g : goodWord w = true) : w ∈ wA := List.mem_filter.mpr ⟨h, g⟩
theorem wA_good {w : Cond} (h : w ∈ wA) : goodWord w = true := (List.mem_filter.mp h).2
theorem wA_tbl {w : Cond} (h : w ∈ wA) : w ∈ lw_tbl := (List.mem_filter.mp h).1
theorem tb_in (i : Nat) {w : Cond} (h : tables_1[i]? = some w) (g : goodWord w = true) : w ∈ wA := wA_in (List.mem_append_right _ (List.mem_of_getElem? h)) g
theorem sl_in {w : Cond} (h : w ∈ k2_sels lw_privs) (g : goodWord w = true) : w ∈ wA := wA_in (List.mem_append_left _ h) g
theorem wA_V {own C : String} {index maxL : Nat} {y : MethodName} {bytes : ByteArray} {ret : Option FieldType} (h1 : Cond.methodLink own index y ∈ wA) (h2 : Cond.instanceMethod y ∈ wA) (h3 : Cond.selects C y y ∈ wA) (h4 : Cond.initialized C ∈ wA) (h5 : Cond.code y bytes maxL ret ∈ wA) : GoodIn wA (wsV own index C y (Cond.code y bytes maxL ret :: wA)) := by
  have key : ∀ w ∈ wsV own index C y (Cond.code y bytes maxL ret :: wA), w ∈ wA := by
    intro w hw
    unfold wsV at hw
    rcases List.mem_append.mp hw with hw | hw
    · simp only [List.mem_cons, List.not_mem_nil, or_false] at hw
      rcases hw with rfl | rfl | rfl | rfl <;> assumption
    · rcases List.mem_cons.mp hw with rfl | hw
      · exact h5
      · exact hw
  exact fun w hw => ⟨key w hw, good_of_word (wA_good (key w hw))⟩
theorem wA_S {own : String} {index maxL : Nat} {y : MethodName} {bytes : ByteArray} {ret : Option FieldType} (h1 : Cond.methodLink own index y ∈ wA) (h2 : Cond.static y ∈ wA) (h4 : Cond.initialized y.cls ∈ wA) (h5 : Cond.code y bytes maxL ret ∈ wA) : GoodIn wA (va_wsS own index y (Cond.code y bytes maxL ret :: wA)) := by
  have key : ∀ w ∈ va_wsS own index y (Cond.code y bytes maxL ret :: wA), w ∈ wA := by
    intro w hw
    unfold va_wsS at hw
    rcases List.mem_append.mp hw with hw | hw
    · simp only [List.mem_cons, List.not_mem_nil, or_false] at hw
      rcases hw with rfl | rfl | rfl <;> assumption
    · rcases List.mem_cons.mp hw with rfl | hw
      · exact h5
      · exact hw
  exact fun w hw => ⟨key w hw, good_of_word (wA_good (key w hw))⟩
theorem cw_V {R : Room} {s : State} {args : Array Value} {own C : String} {index maxL : Nat} {y : MethodName} {bytes : ByteArray} {ret : Option FieldType} {rm : Room} (n : Nat) (ht : ∀ w ∈ wA, w.before args s = true) (h1 : Cond.methodLink own index y ∈ wA) (h2 : Cond.instanceMethod y ∈ wA) (h3 : Cond.selects C y y ∈ wA) (h4 : Cond.initialized C ∈ wA) (h5 : Cond.code y bytes maxL ret ∈ wA) (hrc : rm.cells = 0) (hrs : rm.slots = 0) (hC : y.cls = C)
    (hd : y.cls ≠ "java/lang/invoke/MethodHandle" ∧ y.cls ≠ "java/lang/invoke/VarHandle" ∧ (parseMethodDescriptor y.desc).map (fun d => d.parameters.length) = some n) (hR : rm.frames + 1 ≤ R.frames ∧ 8 + (maxL + 11) + rm.locals ≤ R.locals) : CallW R s args own C index y bytes maxL ret (Cond.code y bytes maxL ret :: wA) rm 0 0 n :=
  cwV n ht (wA_V h1 h2 h3 h4 h5) rfl hrc hrs ⟨hC, hd⟩ hR
theorem cw_S {R : Room} {s : State} {args : Array Value} {own : String} {index maxL : Nat} {y : MethodName} {bytes : ByteArray} {ret : Option FieldType} {rm : Room} (n : Nat) (ht : ∀ w ∈ wA, w.before args s = true) (h1 : Cond.methodLink own index y ∈ wA) (h2 : Cond.static y ∈ wA) (h4 : Cond.initialized y.cls ∈ wA) (h5 : Cond.code y bytes maxL ret ∈ wA) (hrc : rm.cells = 0) (hrs : rm.slots = 0)
    (hd : y.cls ≠ "java/lang/invoke/MethodHandle" ∧ y.cls ≠ "java/lang/invoke/VarHandle" ∧ (parseMethodDescriptor y.desc).map (fun d => d.parameters.length) = some n) (hR : rm.frames + 1 ≤ R.frames ∧ 8 + (maxL + 11) + rm.locals ≤ R.locals) : CallB R s args own index y bytes maxL ret (Cond.code y bytes maxL ret :: wA) rm 0 0 n ∧ (Cond.static y).before args s = true :=
  va_cwS n ht (wA_S h1 h2 h4 h5) rfl hrc hrs hd hR
def R_K : String := "PixelFormula$Code"
def R_C : String := "PixelFormula$Compiler"
def R_H : String := "PixelFormula$Machine"
def R_N : String := "PixelFormula$Numbers"
def R_V : String := "PixelFormula$Value"
def R_P : String := "PixelFormula"
def R_M : String := "PixelFormulaModel"
def R_L : String := "PixelFormulaLaw"
def T_K : u_T := fun k => match k with
  | 0 => ("PixelFormula$Code", "kinds", "[I", true)
  | 1 => ("PixelFormula$Code", "firsts", "[I", true)
  | 2 => ("PixelFormula$Code", "seconds", "[I", true)
  | 3 => ("PixelFormula$Code", "results", "[I", true)
  | 4 => ("PixelFormula$Code", "variableTypes", "[I", true)
  | 5 => ("PixelFormula$Code", "count", "I", false)
  | _ => ("PixelFormula$Code", "isTooLong", "Z", false)
def ty_K : Nat → FieldType := fun k => match k with
  | 0 => .array .int
  | 1 => .array .int
  | 2 => .array .int
  | 3 => .array .int
  | 4 => .array .int
  | 5 => .int
  | _ => .boolean
theorem nm_K : ∀ a, a < 7 → ∀ b, b < 7 → a ≠ b → (T_K a).2.1 ≠ (T_K b).2.1 := by decide +kernel
theorem ty_K_ok : ∀ k, k < 7 → parseFieldDescriptor (T_K k).2.2.1 = some (ty_K k) := by decide +kernel
theorem in_K0 : ∀ w ∈ u_ws R_K T_K 7, w ∈ tables_1 ∧ goodWord w = true := by decide +kernel
theorem in_K : ∀ w ∈ u_ws R_K T_K 7, w ∈ wA := fun w h => wA_in (List.mem_append_right _ (in_K0 w h).1) (in_K0 w h).2
def T_C : u_T := fun k => match k with
  | 0 => ("PixelFormula$Compiler", "variables", "[I", true)
  | 1 => ("PixelFormula$Compiler", "text", "[C", false)
  | 2 => ("PixelFormula$Compiler", "length", "I", false)
  | 3 => ("PixelFormula$Compiler", "at", "I", false)
  | _ => ("PixelFormula$Compiler", "code", "LPixelFormula$Code;", false)
def ty_C : Nat → FieldType := fun k => match k with
  | 0 => .array .int
  | 1 => .array .char
  | 2 => .int
  | 3 => .int
  | _ => .object "PixelFormula$Code"
theorem nm_C : ∀ a, a < 5 → ∀ b, b < 5 → a ≠ b → (T_C a).2.1 ≠ (T_C b).2.1 := by decide +kernel
theorem ty_C_ok : ∀ k, k < 5 → parseFieldDescriptor (T_C k).2.2.1 = some (ty_C k) := by decide +kernel
theorem in_C0 : ∀ w ∈ u_ws R_C T_C 5, w ∈ tables_1 ∧ goodWord w = true := by decide +kernel
theorem in_C : ∀ w ∈ u_ws R_C T_C 5, w ∈ wA := fun w h => wA_in (List.mem_append_right _ (in_C0 w h).1) (in_C0 w h).2
def T_H : u_T := fun k => match k with
  | 0 => ("PixelFormula$Machine", "made", "[I", true)
  | _ => ("PixelFormula$Machine", "inputs", "[I", true)
def ty_H : Nat → FieldType := fun k => match k with
  | 0 => .array .int
  | _ => .array .int
theorem nm_H : ∀ a, a < 2 → ∀ b, b < 2 → a ≠ b → (T_H a).2.1 ≠ (T_H b).2.1 := by decide +kernel
theorem ty_H_ok : ∀ k, k < 2 → parseFieldDescriptor (T_H k).2.2.1 = some (ty_H k) := by decide +kernel
theorem in_H0 : ∀ w ∈ u_ws R_H T_H 2, w ∈ tables_1 ∧ goodWord w = true := by decide +kernel
theorem in_H : ∀ w ∈ u_ws R_H T_H 2, w ∈ wA := fun w h => wA_in (List.mem_append_right _ (in_H0 w h).1) (in_H0 w h).2
def T_P : u_T := fun k => match k with
  | 0 => ("PixelFormula", "text", "[C", true)
  | 1 => ("PixelFormula", "length", "I", false)
  | 2 => ("PixelFormula", "code", "LPixelFormula$Code;", false)
  | 3 => ("PixelFormula", "compiler", "LPixelFormula$Compiler;", true)
  | 4 => ("PixelFormula", "machine", "LPixelFormula$Machine;", true)
  | _ => ("PixelFormula", "picture", "[I", true)
def ty_P : Nat → FieldType := fun k => match k with
  | 0 => .array .char
  | 1 => .int
  | 2 => .object "PixelFormula$Code"
  | 3 => .object "PixelFormula$Compiler"
  | 4 => .object "PixelFormula$Machine"
  | _ => .array .int
theorem nm_P : ∀ a, a < 6 → ∀ b, b < 6 → a ≠ b → (T_P a).2.1 ≠ (T_P b).2.1 := by decide +kernel
theorem ty_P_ok : ∀ k, k < 6 → parseFieldDescriptor (T_P k).2.2.1 = some (ty_P k) := by decide +kernel
theorem in_P0 : ∀ w ∈ u_ws R_P T_P 6, w ∈ tables_1 ∧ goodWord w = true := by decide +kernel
theorem in_P : ∀ w ∈ u_ws R_P T_P 6, w ∈ wA := fun w h => wA_in (List.mem_append_right _ (in_P0 w h).1) (in_P0 w h).2
def T_M : u_T := fun k => match k with
  | 0 => ("PixelFormulaModel", "code", "I", false)
  | 1 => ("PixelFormulaModel", "length", "I", false)
  | 2 => ("PixelFormulaModel", "text", "[I", true)
  | 3 => ("PixelFormulaModel", "size", "I", false)
  | 4 => ("PixelFormulaModel", "kinds", "[I", true)
  | 5 => ("PixelFormulaModel", "firsts", "[I", true)
  | 6 => ("PixelFormulaModel", "seconds", "[I", true)
  | 7 => ("PixelFormulaModel", "results", "[I", true)
  | 8 => ("PixelFormulaModel", "types", "[I", true)
  | 9 => ("PixelFormulaModel", "draft", "I", false)
  | 10 => ("PixelFormulaModel", "draftKinds", "[I", true)
  | 11 => ("PixelFormulaModel", "draftFirsts", "[I", true)
  | 12 => ("PixelFormulaModel", "draftSeconds", "[I", true)
  | 13 => ("PixelFormulaModel", "draftTypes", "[I", true)
  | 14 => ("PixelFormulaModel", "variables", "[I", true)
  | 15 => ("PixelFormulaModel", "at", "I", false)
  | 16 => ("PixelFormulaModel", "wrong", "Z", false)
  | 17 => ("PixelFormulaModel", "values", "I", false)
  | 18 => ("PixelFormulaModel", "valueTypes", "[I", true)
  | 19 => ("PixelFormulaModel", "numbers", "[I", true)
  | 20 => ("PixelFormulaModel", "waiting", "I", false)
  | 21 => ("PixelFormulaModel", "waits", "[I", true)
  | 22 => ("PixelFormulaModel", "arguments", "[I", true)
  | 23 => ("PixelFormulaModel", "open", "I", false)
  | 24 => ("PixelFormulaModel", "target", "I", false)
  | 25 => ("PixelFormulaModel", "made", "[I", true)
  | 26 => ("PixelFormulaModel", "picture", "[I", true)
  | 27 => ("PixelFormulaModel", "next", "[I", true)
  | _ => ("PixelFormulaModel", "worth", "[I", true)
def ty_M : Nat → FieldType := fun k => match k with
  | 0 => .int
  | 1 => .int
  | 2 => .array .int
  | 3 => .int
  | 4 => .array .int
  | 5 => .array .int
  | 6 => .array .int
  | 7 => .array .int
  | 8 => .array .int
  | 9 => .int
  | 10 => .array .int
  | 11 => .array .int
  | 12 => .array .int
  | 13 => .array .int
  | 14 => .array .int
  | 15 => .int
  | 16 => .boolean
  | 17 => .int
  | 18 => .array .int
  | 19 => .array .int
  | 20 => .int
  | 21 => .array .int
  | 22 => .array .int
  | 23 => .int
  | 24 => .int
  | 25 => .array .int
  | 26 => .array .int
  | 27 => .array .int
  | _ => .array .int
theorem nm_M : ∀ a, a < 29 → ∀ b, b < 29 → a ≠ b → (T_M a).2.1 ≠ (T_M b).2.1 := by decide +kernel
theorem ty_M_ok : ∀ k, k < 29 → parseFieldDescriptor (T_M k).2.2.1 = some (ty_M k) := by decide +kernel
theorem in_M0 : ∀ w ∈ u_ws R_M T_M 29, w ∈ tables_1 ∧ goodWord w = true := by decide +kernel
theorem in_M : ∀ w ∈ u_ws R_M T_M 29, w ∈ wA := fun w h => wA_in (List.mem_append_right _ (in_M0 w h).1) (in_M0 w h).2
abbrev vC : List vw_C := [(R_K, T_K, 7), (R_C, T_C, 5), (R_H, T_H, 2), (R_P, T_P, 6), (R_M, T_M, 29)]
abbrev b_P_init : ByteArray := prog_1_method_1_code
def y_P_init : MethodName := ⟨R_P, "<init>", "()V"⟩
abbrev b_P_type : ByteArray := prog_1_method_2_code
def y_P_type : MethodName := ⟨R_P, "type", "(I)I"⟩
abbrev b_P_erase : ByteArray := prog_1_method_3_code
def y_P_erase : MethodName := ⟨R_P, "erase", "()V"⟩
abbrev b_P_compile : ByteArray := prog_1_method_4_code
def y_P_compile : MethodName := ⟨R_P, "compile", "()Z"⟩
abbrev b_P_size : ByteArray := prog_1_method_5_code
def y_P_size : MethodName := ⟨R_P, "size", "()I"⟩
abbrev b_P_instruction : ByteArray := prog_1_method_6_code
def y_P_instruction : MethodName := ⟨R_P, "instruction", "(II)I"⟩
abbrev b_P_result : ByteArray := prog_1_method_7_code
def y_P_result : MethodName := ⟨R_P, "result", "(I)I"⟩
abbrev b_P_typeOf : ByteArray := prog_1_method_8_code
def y_P_typeOf : MethodName := ⟨R_P, "typeOf", "(I)I"⟩
abbrev b_P_value : ByteArray := prog_1_method_9_code
def y_P_value : MethodName := ⟨R_P, "value", "(IIIII)I"⟩
abbrev b_P_paint : ByteArray := prog_1_method_10_code
def y_P_paint : MethodName := ⟨R_P, "paint", "(III)V"⟩
abbrev b_P_run : ByteArray := prog_1_method_11_code
def y_P_run : MethodName := ⟨R_P, "run", "(I)V"⟩
abbrev b_P_pixel : ByteArray := prog_1_method_12_code
def y_P_pixel : MethodName := ⟨R_P, "pixel", "(II)I"⟩
abbrev b_P_hasCode : ByteArray := prog_1_method_13_code
def y_P_hasCode : MethodName := ⟨R_P, "hasCode", "()Z"⟩
abbrev b_P_isInstruction : ByteArray := prog_1_method_14_code
def y_P_isInstruction : MethodName := ⟨R_P, "isInstruction", "(I)Z"⟩
abbrev b_P_isPoint : ByteArray := prog_1_method_15_code
def y_P_isPoint : MethodName := ⟨R_P, "isPoint", "(II)Z"⟩
abbrev b_P_isColor : ByteArray := prog_1_method_16_code
def y_P_isColor : MethodName := ⟨R_P, "isColor", "(I)Z"⟩
abbrev b_M_init : ByteArray := prog_8_method_1_code
def y_M_init : MethodName := ⟨R_M, "<init>", "()V"⟩
abbrev b_M_thrown : ByteArray := prog_8_method_2_code
def y_M_thrown : MethodName := ⟨R_M, "thrown", "()I"⟩
abbrev b_M_type : ByteArray := prog_8_method_3_code
def y_M_type : MethodName := ⟨R_M, "type", "(I)I"⟩
abbrev b_M_erase : ByteArray := prog_8_method_4_code
def y_M_erase : MethodName := ⟨R_M, "erase", "()V"⟩
abbrev b_M_look : ByteArray := prog_8_method_5_code
def y_M_look : MethodName := ⟨R_M, "look", "(I)I"⟩
abbrev b_M_put : ByteArray := prog_8_method_6_code
def y_M_put : MethodName := ⟨R_M, "put", "(III)I"⟩
abbrev b_M_push : ByteArray := prog_8_method_7_code
def y_M_push : MethodName := ⟨R_M, "push", "(I)V"⟩
abbrev b_M_pushMade : ByteArray := prog_8_method_8_code
def y_M_pushMade : MethodName := ⟨R_M, "pushMade", "(I)V"⟩
abbrev b_M_number : ByteArray := prog_8_method_9_code
def y_M_number : MethodName := ⟨R_M, "number", "(II)I"⟩
abbrev b_M_pairwise : ByteArray := prog_8_method_10_code
def y_M_pairwise : MethodName := ⟨R_M, "pairwise", "(III)V"⟩
abbrev b_M_columns : ByteArray := prog_8_method_11_code
def y_M_columns : MethodName := ⟨R_M, "columns", "(III)V"⟩
abbrev b_M_operate : ByteArray := prog_8_method_12_code
def y_M_operate : MethodName := ⟨R_M, "operate", "(I)V"⟩
abbrev b_M_isBinary : ByteArray := prog_8_method_13_code
def y_M_isBinary : MethodName := ⟨R_M, "isBinary", "(I)Z"⟩
abbrev b_M_top : ByteArray := prog_8_method_14_code
def y_M_top : MethodName := ⟨R_M, "top", "()I"⟩
abbrev b_M_settle : ByteArray := prog_8_method_15_code
def y_M_settle : MethodName := ⟨R_M, "settle", "(Z)V"⟩
abbrev b_M_each : ByteArray := prog_8_method_16_code
def y_M_each : MethodName := ⟨R_M, "each", "(I)V"⟩
abbrev b_M_dot : ByteArray := prog_8_method_17_code
def y_M_dot : MethodName := ⟨R_M, "dot", "(II)V"⟩
abbrev b_M_join : ByteArray := prog_8_method_18_code
def y_M_join : MethodName := ⟨R_M, "join", "(I)V"⟩
abbrev b_M_matrix : ByteArray := prog_8_method_19_code
def y_M_matrix : MethodName := ⟨R_M, "matrix", "(II)V"⟩
abbrev b_M_call : ByteArray := prog_8_method_20_code
def y_M_call : MethodName := ⟨R_M, "call", "(II)V"⟩
abbrev b_M_isDigit : ByteArray := prog_8_method_21_code
def y_M_isDigit : MethodName := ⟨R_M, "isDigit", "(I)Z"⟩
abbrev b_M_isSmall : ByteArray := prog_8_method_22_code
def y_M_isSmall : MethodName := ⟨R_M, "isSmall", "(I)Z"⟩
abbrev b_M_isFunction : ByteArray := prog_8_method_23_code
def y_M_isFunction : MethodName := ⟨R_M, "isFunction", "(I)Z"⟩
abbrev b_M_isGiven : ByteArray := prog_8_method_24_code
def y_M_isGiven : MethodName := ⟨R_M, "isGiven", "(I)Z"⟩
abbrev b_M_constant : ByteArray := prog_8_method_25_code
def y_M_constant : MethodName := ⟨R_M, "constant", "()V"⟩
abbrev b_M_letter : ByteArray := prog_8_method_26_code
def y_M_letter : MethodName := ⟨R_M, "letter", "()V"⟩
abbrev b_M_finish : ByteArray := prog_8_method_27_code
def y_M_finish : MethodName := ⟨R_M, "finish", "(Z)V"⟩
abbrev b_M_hold : ByteArray := prog_8_method_28_code
def y_M_hold : MethodName := ⟨R_M, "hold", "(I)V"⟩
abbrev b_M_bracket : ByteArray := prog_8_method_29_code
def y_M_bracket : MethodName := ⟨R_M, "bracket", "(I)V"⟩
abbrev b_M_operand : ByteArray := prog_8_method_30_code
def y_M_operand : MethodName := ⟨R_M, "operand", "()Z"⟩
abbrev b_M_close : ByteArray := prog_8_method_31_code
def y_M_close : MethodName := ⟨R_M, "close", "()V"⟩
abbrev b_M_operator : ByteArray := prog_8_method_32_code
def y_M_operator : MethodName := ⟨R_M, "operator", "()Z"⟩
abbrev b_M_assign : ByteArray := prog_8_method_33_code
def y_M_assign : MethodName := ⟨R_M, "assign", "()V"⟩
abbrev b_M_begin : ByteArray := prog_8_method_34_code
def y_M_begin : MethodName := ⟨R_M, "begin", "()V"⟩
abbrev b_M_keep : ByteArray := prog_8_method_35_code
def y_M_keep : MethodName := ⟨R_M, "keep", "()V"⟩
abbrev b_M_compile : ByteArray := prog_8_method_36_code
def y_M_compile : MethodName := ⟨R_M, "compile", "()Z"⟩
abbrev b_M_size : ByteArray := prog_8_method_37_code
def y_M_size : MethodName := ⟨R_M, "size", "()I"⟩
abbrev b_M_instruction : ByteArray := prog_8_method_38_code
def y_M_instruction : MethodName := ⟨R_M, "instruction", "(II)I"⟩
abbrev b_M_result : ByteArray := prog_8_method_39_code
def y_M_result : MethodName := ⟨R_M, "result", "(I)I"⟩
abbrev b_M_typeOf : ByteArray := prog_8_method_40_code
def y_M_typeOf : MethodName := ⟨R_M, "typeOf", "(I)I"⟩
abbrev b_M_saturated : ByteArray := prog_8_method_41_code
def y_M_saturated : MethodName := ⟨R_M, "saturated", "(J)I"⟩
abbrev b_M_divided : ByteArray := prog_8_method_42_code
def y_M_divided : MethodName := ⟨R_M, "divided", "(II)I"⟩
abbrev b_M_done : ByteArray := prog_8_method_43_code
def y_M_done : MethodName := ⟨R_M, "done", "(III)I"⟩
abbrev b_M_evaluate : ByteArray := prog_8_method_44_code
def y_M_evaluate : MethodName := ⟨R_M, "evaluate", "(IIIII)V"⟩
abbrev b_M_noColor : ByteArray := prog_8_method_45_code
def y_M_noColor : MethodName := ⟨R_M, "noColor", "(I)Z"⟩
abbrev b_M_value : ByteArray := prog_8_method_46_code
def y_M_value : MethodName := ⟨R_M, "value", "(IIIII)I"⟩
abbrev b_M_noPoint : ByteArray := prog_8_method_47_code
def y_M_noPoint : MethodName := ⟨R_M, "noPoint", "(II)Z"⟩
abbrev b_M_paint : ByteArray := prog_8_method_48_code
def y_M_paint : MethodName := ⟨R_M, "paint", "(III)V"⟩
abbrev b_M_channel : ByteArray := prog_8_method_49_code
def y_M_channel : MethodName := ⟨R_M, "channel", "(I)I"⟩
abbrev b_M_run : ByteArray := prog_8_method_50_code
def y_M_run : MethodName := ⟨R_M, "run", "(I)V"⟩
abbrev b_M_pixel : ByteArray := prog_8_method_51_code
def y_M_pixel : MethodName := ⟨R_M, "pixel", "(II)I"⟩
abbrev b_K_init : ByteArray := prog_2_method_1_code
def y_K_init : MethodName := ⟨R_K, "<init>", "()V"⟩
abbrev b_K_clear : ByteArray := prog_2_method_2_code
def y_K_clear : MethodName := ⟨R_K, "clear", "()V"⟩
abbrev b_K_put : ByteArray := prog_2_method_3_code
def y_K_put : MethodName := ⟨R_K, "put", "(III)I"⟩
abbrev b_C_init : ByteArray := prog_3_method_1_code
def y_C_init : MethodName := ⟨R_C, "<init>", "()V"⟩
abbrev b_C_exchange : ByteArray := prog_3_method_2_code
def y_C_exchange : MethodName := ⟨R_C, "exchange", "(LPixelFormula$Code;)LPixelFormula$Code;"⟩
abbrev b_C_accepts : ByteArray := prog_3_method_3_code
def y_C_accepts : MethodName := ⟨R_C, "accepts", "([CI)Z"⟩
abbrev b_C_start : ByteArray := prog_3_method_4_code
def y_C_start : MethodName := ⟨R_C, "start", "([CI)V"⟩
abbrev b_C_finish : ByteArray := prog_3_method_5_code
def y_C_finish : MethodName := ⟨R_C, "finish", "(I)V"⟩
abbrev b_C_next : ByteArray := prog_3_method_6_code
def y_C_next : MethodName := ⟨R_C, "next", "()C"⟩
abbrev b_C_takes : ByteArray := prog_3_method_7_code
def y_C_takes : MethodName := ⟨R_C, "takes", "(C)Z"⟩
abbrev b_C_isAssignmentNext : ByteArray := prog_3_method_8_code
def y_C_isAssignmentNext : MethodName := ⟨R_C, "isAssignmentNext", "()Z"⟩
abbrev b_C_assignment : ByteArray := prog_3_method_9_code
def y_C_assignment : MethodName := ⟨R_C, "assignment", "()Z"⟩
abbrev b_C_sum : ByteArray := prog_3_method_10_code
def y_C_sum : MethodName := ⟨R_C, "sum", "(I)I"⟩
abbrev b_C_product : ByteArray := prog_3_method_11_code
def y_C_product : MethodName := ⟨R_C, "product", "(I)I"⟩
abbrev b_C_unit : ByteArray := prog_3_method_12_code
def y_C_unit : MethodName := ⟨R_C, "unit", "(I)I"⟩
abbrev b_C_part : ByteArray := prog_3_method_13_code
def y_C_part : MethodName := ⟨R_C, "part", "(I)I"⟩
abbrev b_C_letter : ByteArray := prog_3_method_14_code
def y_C_letter : MethodName := ⟨R_C, "letter", "(C)I"⟩
abbrev b_C_input : ByteArray := prog_3_method_15_code
def y_C_input : MethodName := ⟨R_C, "input", "(II)I"⟩
abbrev b_C_constant : ByteArray := prog_3_method_16_code
def y_C_constant : MethodName := ⟨R_C, "constant", "()I"⟩
abbrev b_C_digit : ByteArray := prog_3_method_17_code
def y_C_digit : MethodName := ⟨R_C, "digit", "()I"⟩
abbrev b_C_picked : ByteArray := prog_3_method_18_code
def y_C_picked : MethodName := ⟨R_C, "picked", "(I)I"⟩
abbrev b_C_function : ByteArray := prog_3_method_19_code
def y_C_function : MethodName := ⟨R_C, "function", "(CI)I"⟩
abbrev b_C_functionOfTwo : ByteArray := prog_3_method_20_code
def y_C_functionOfTwo : MethodName := ⟨R_C, "functionOfTwo", "(CI)I"⟩
abbrev b_C_vector : ByteArray := prog_3_method_21_code
def y_C_vector : MethodName := ⟨R_C, "vector", "(I)I"⟩
abbrev b_C_matrix : ByteArray := prog_3_method_22_code
def y_C_matrix : MethodName := ⟨R_C, "matrix", "(II)I"⟩
abbrev b_C_joined : ByteArray := prog_3_method_23_code
def y_C_joined : MethodName := ⟨R_C, "joined", "(II)I"⟩
abbrev b_C_behindEachOther : ByteArray := prog_3_method_24_code
def y_C_behindEachOther : MethodName := ⟨R_C, "behindEachOther", "(II)I"⟩
abbrev b_C_each : ByteArray := prog_3_method_25_code
def y_C_each : MethodName := ⟨R_C, "each", "(II)I"⟩
abbrev b_C_pairwise : ByteArray := prog_3_method_26_code
def y_C_pairwise : MethodName := ⟨R_C, "pairwise", "(III)I"⟩
abbrev b_C_times : ByteArray := prog_3_method_27_code
def y_C_times : MethodName := ⟨R_C, "times", "(II)I"⟩
abbrev b_C_timesColumns : ByteArray := prog_3_method_28_code
def y_C_timesColumns : MethodName := ⟨R_C, "timesColumns", "(II)I"⟩
abbrev b_C_dividedBy : ByteArray := prog_3_method_29_code
def y_C_dividedBy : MethodName := ⟨R_C, "dividedBy", "(II)I"⟩
abbrev b_C_dotted : ByteArray := prog_3_method_30_code
def y_C_dotted : MethodName := ⟨R_C, "dotted", "(II)I"⟩
abbrev b_C_isDigit : ByteArray := prog_3_method_31_code
def y_C_isDigit : MethodName := ⟨R_C, "isDigit", "(C)Z"⟩
abbrev b_C_isSmall : ByteArray := prog_3_method_32_code
def y_C_isSmall : MethodName := ⟨R_C, "isSmall", "(C)Z"⟩
abbrev b_C_isPlace : ByteArray := prog_3_method_33_code
def y_C_isPlace : MethodName := ⟨R_C, "isPlace", "(C)Z"⟩
abbrev b_C_isVariable : ByteArray := prog_3_method_34_code
def y_C_isVariable : MethodName := ⟨R_C, "isVariable", "(C)Z"⟩
abbrev b_H_init : ByteArray := prog_4_method_1_code
def y_H_init : MethodName := ⟨R_H, "<init>", "()V"⟩
abbrev b_H_work : ByteArray := prog_4_method_2_code
def y_H_work : MethodName := ⟨R_H, "work", "(LPixelFormula$Code;IIII)V"⟩
abbrev b_H_make : ByteArray := prog_4_method_3_code
def y_H_make : MethodName := ⟨R_H, "make", "(III)I"⟩
abbrev b_H_colorOf : ByteArray := prog_4_method_4_code
def y_H_colorOf : MethodName := ⟨R_H, "colorOf", "(LPixelFormula$Code;)I"⟩
abbrev b_N_operate : ByteArray := prog_5_method_2_code
def y_N_operate : MethodName := ⟨R_N, "operate", "(III)I"⟩
abbrev b_N_divide : ByteArray := prog_5_method_3_code
def y_N_divide : MethodName := ⟨R_N, "divide", "(II)I"⟩
abbrev b_N_saturate : ByteArray := prog_5_method_4_code
def y_N_saturate : MethodName := ⟨R_N, "saturate", "(J)I"⟩
abbrev b_V_ofType : ByteArray := prog_6_method_2_code
def y_V_ofType : MethodName := ⟨R_V, "ofType", "(I)I"⟩
abbrev b_V_typeIn : ByteArray := prog_6_method_3_code
def y_V_typeIn : MethodName := ⟨R_V, "typeIn", "(I)I"⟩
abbrev b_V_withNumber : ByteArray := prog_6_method_4_code
def y_V_withNumber : MethodName := ⟨R_V, "withNumber", "(III)I"⟩
abbrev b_V_number : ByteArray := prog_6_method_5_code
def y_V_number : MethodName := ⟨R_V, "number", "(II)I"⟩
abbrev b_V_spread : ByteArray := prog_6_method_6_code
def y_V_spread : MethodName := ⟨R_V, "spread", "(II)I"⟩
abbrev b_L_type : ByteArray := method_3_code
def y_L_type : MethodName := ⟨R_L, "type", "(LPixelFormula;I[J)I"⟩
abbrev b_L_instruction : ByteArray := method_4_code
def y_L_instruction : MethodName := ⟨R_L, "instruction", "(LPixelFormula;II[J)I"⟩
abbrev b_L_result : ByteArray := method_5_code
def y_L_result : MethodName := ⟨R_L, "result", "(LPixelFormula;I[J)I"⟩
abbrev b_L_typeOf : ByteArray := method_6_code
def y_L_typeOf : MethodName := ⟨R_L, "typeOf", "(LPixelFormula;I[J)I"⟩
abbrev b_L_value : ByteArray := method_7_code
def y_L_value : MethodName := ⟨R_L, "value", "(LPixelFormula;IIIII[J)I"⟩
abbrev b_L_paint : ByteArray := method_8_code
def y_L_paint : MethodName := ⟨R_L, "paint", "(LPixelFormula;III)I"⟩
abbrev b_L_run : ByteArray := method_9_code
def y_L_run : MethodName := ⟨R_L, "run", "(LPixelFormula;I)I"⟩
abbrev b_L_pixel : ByteArray := method_10_code
def y_L_pixel : MethodName := ⟨R_L, "pixel", "(LPixelFormula;II[J)I"⟩
end
section
theorem mw_0 : (Cond.initialized "PixelFormulaLaw") ∈ wA := tb_in 0 (by decide +kernel) (by decide +kernel)
theorem mw_1 : (Cond.initialized "PixelFormula") ∈ wA := tb_in 1 (by decide +kernel) (by decide +kernel)
theorem mw_2 : (Cond.initialized "PixelFormula$Code") ∈ wA := tb_in 2 (by decide +kernel) (by decide +kernel)
theorem mw_3 : (Cond.initialized "PixelFormula$Compiler") ∈ wA := tb_in 3 (by decide +kernel) (by decide +kernel)
theorem mw_4 : (Cond.initialized "PixelFormula$Machine") ∈ wA := tb_in 4 (by decide +kernel) (by decide +kernel)
theorem mw_5 : (Cond.initialized "PixelFormulaModel") ∈ wA := tb_in 5 (by decide +kernel) (by decide +kernel)
theorem mw_6 : (Cond.initialized "java/lang/Throwable") ∈ wA := tb_in 6 (by decide +kernel) (by decide +kernel)
theorem mw_7 : (Cond.initialized "java/lang/Exception") ∈ wA := tb_in 7 (by decide +kernel) (by decide +kernel)
theorem mw_8 : (Cond.initialized "java/lang/RuntimeException") ∈ wA := tb_in 8 (by decide +kernel) (by decide +kernel)
theorem mw_9 : (Cond.initialized "java/lang/IllegalArgumentException") ∈ wA := tb_in 9 (by decide +kernel) (by decide +kernel)
theorem mw_10 : (Cond.initialized "java/lang/IllegalStateException") ∈ wA := tb_in 10 (by decide +kernel) (by decide +kernel)
theorem mw_11 : (Cond.initialized "PixelFormula$Value") ∈ wA := tb_in 11 (by decide +kernel) (by decide +kernel)
theorem mw_12 : (Cond.initialized "java/lang/Math") ∈ wA := tb_in 12 (by decide +kernel) (by decide +kernel)
theorem mw_13 : (Cond.initialized "java/lang/IndexOutOfBoundsException") ∈ wA := tb_in 13 (by decide +kernel) (by decide +kernel)
theorem mw_14 : (Cond.initialized "PixelFormula$Numbers") ∈ wA := tb_in 14 (by decide +kernel) (by decide +kernel)
theorem mw_15 : (Cond.classLink "PixelFormulaLaw" (8 : Nat) "PixelFormula") ∈ wA := tb_in 15 (by decide +kernel) (by decide +kernel)
theorem mw_16 : (Cond.instantiable "PixelFormula" (6 : Nat)) ∈ wA := tb_in 16 (by decide +kernel) (by decide +kernel)
theorem mw_17 : (Cond.methodLink "PixelFormulaLaw" (44 : Nat) ({ cls := "PixelFormula", name := "<init>", desc := "()V" } : MethodName)) ∈ wA := tb_in 17 (by decide +kernel) (by decide +kernel)
theorem mw_18 : (Cond.instanceMethod ({ cls := "PixelFormula", name := "<init>", desc := "()V" } : MethodName)) ∈ wA := tb_in 18 (by decide +kernel) (by decide +kernel)
theorem mw_19 : (Cond.code ({ cls := "PixelFormula", name := "<init>", desc := "()V" } : MethodName) prog_1_method_1_code (1 : Nat) (Option.none : Option FieldType)) ∈ wA := tb_in 19 (by decide +kernel) (by decide +kernel)
theorem mw_20 : (Cond.methodLink "PixelFormula" (1 : Nat) ({ cls := "java/lang/Object", name := "<init>", desc := "()V" } : MethodName)) ∈ wA := tb_in 20 (by decide +kernel) (by decide +kernel)
theorem mw_21 : (Cond.instanceMethod ({ cls := "java/lang/Object", name := "<init>", desc := "()V" } : MethodName)) ∈ wA := tb_in 21 (by decide +kernel) (by decide +kernel)
theorem mw_22 : (Cond.code ({ cls := "java/lang/Object", name := "<init>", desc := "()V" } : MethodName) object_method_1_code (1 : Nat) (Option.none : Option FieldType)) ∈ wA := tb_in 22 (by decide +kernel) (by decide +kernel)
theorem mw_23 : (Cond.classLink "PixelFormula" (17 : Nat) "PixelFormula$Code") ∈ wA := tb_in 23 (by decide +kernel) (by decide +kernel)
theorem mw_24 : (Cond.instantiable "PixelFormula$Code" (7 : Nat)) ∈ wA := tb_in 24 (by decide +kernel) (by decide +kernel)
theorem mw_26 : (Cond.instanceMethod ({ cls := "PixelFormula$Code", name := "<init>", desc := "()V" } : MethodName)) ∈ wA := tb_in 26 (by decide +kernel) (by decide +kernel)
theorem mw_27 : (Cond.code ({ cls := "PixelFormula$Code", name := "<init>", desc := "()V" } : MethodName) prog_2_method_1_code (1 : Nat) (Option.none : Option FieldType)) ∈ wA := tb_in 27 (by decide +kernel) (by decide +kernel)
theorem mw_28 : (Cond.methodLink "PixelFormula$Code" (3 : Nat) ({ cls := "java/lang/Object", name := "<init>", desc := "()V" } : MethodName)) ∈ wA := tb_in 28 (by decide +kernel) (by decide +kernel)
theorem mw_29 : (Cond.fieldLink "PixelFormula$Code" (9 : Nat) "PixelFormula$Code" "kinds" "[I") ∈ wA := tb_in 29 (by decide +kernel) (by decide +kernel)
theorem mw_30 : (Cond.fieldLink "PixelFormula$Machine" (24 : Nat) "PixelFormula$Code" "kinds" "[I") ∈ wA := tb_in 30 (by decide +kernel) (by decide +kernel)
theorem mw_31 : (Cond.fieldLink "PixelFormula" (66 : Nat) "PixelFormula$Code" "kinds" "[I") ∈ wA := tb_in 31 (by decide +kernel) (by decide +kernel)
theorem mw_32 : (Cond.fieldLink "PixelFormula$Code" (15 : Nat) "PixelFormula$Code" "firsts" "[I") ∈ wA := tb_in 32 (by decide +kernel) (by decide +kernel)
theorem mw_33 : (Cond.fieldLink "PixelFormula$Machine" (27 : Nat) "PixelFormula$Code" "firsts" "[I") ∈ wA := tb_in 33 (by decide +kernel) (by decide +kernel)
theorem mw_34 : (Cond.fieldLink "PixelFormula" (69 : Nat) "PixelFormula$Code" "firsts" "[I") ∈ wA := tb_in 34 (by decide +kernel) (by decide +kernel)
theorem mw_35 : (Cond.fieldLink "PixelFormula$Code" (18 : Nat) "PixelFormula$Code" "seconds" "[I") ∈ wA := tb_in 35 (by decide +kernel) (by decide +kernel)
theorem mw_36 : (Cond.fieldLink "PixelFormula$Machine" (30 : Nat) "PixelFormula$Code" "seconds" "[I") ∈ wA := tb_in 36 (by decide +kernel) (by decide +kernel)
theorem mw_37 : (Cond.fieldLink "PixelFormula" (72 : Nat) "PixelFormula$Code" "seconds" "[I") ∈ wA := tb_in 37 (by decide +kernel) (by decide +kernel)
theorem mw_38 : (Cond.fieldLink "PixelFormula$Code" (21 : Nat) "PixelFormula$Code" "results" "[I") ∈ wA := tb_in 38 (by decide +kernel) (by decide +kernel)
theorem mw_39 : (Cond.fieldLink "PixelFormula$Machine" (42 : Nat) "PixelFormula$Code" "results" "[I") ∈ wA := tb_in 39 (by decide +kernel) (by decide +kernel)
theorem mw_40 : (Cond.fieldLink "PixelFormula$Compiler" (64 : Nat) "PixelFormula$Code" "results" "[I") ∈ wA := tb_in 40 (by decide +kernel) (by decide +kernel)
theorem mw_41 : (Cond.fieldLink "PixelFormula" (79 : Nat) "PixelFormula$Code" "results" "[I") ∈ wA := tb_in 41 (by decide +kernel) (by decide +kernel)
theorem mw_42 : (Cond.fieldLink "PixelFormula$Code" (24 : Nat) "PixelFormula$Code" "variableTypes" "[I") ∈ wA := tb_in 42 (by decide +kernel) (by decide +kernel)
theorem mw_43 : (Cond.fieldLink "PixelFormula$Compiler" (71 : Nat) "PixelFormula$Code" "variableTypes" "[I") ∈ wA := tb_in 43 (by decide +kernel) (by decide +kernel)
theorem mw_44 : (Cond.fieldLink "PixelFormula" (82 : Nat) "PixelFormula$Code" "variableTypes" "[I") ∈ wA := tb_in 44 (by decide +kernel) (by decide +kernel)
theorem mw_45 : (Cond.fieldLink "PixelFormula$Code" (27 : Nat) "PixelFormula$Code" "count" "I") ∈ wA := tb_in 45 (by decide +kernel) (by decide +kernel)
theorem mw_46 : (Cond.fieldLink "PixelFormula$Machine" (18 : Nat) "PixelFormula$Code" "count" "I") ∈ wA := tb_in 46 (by decide +kernel) (by decide +kernel)
theorem mw_47 : (Cond.fieldLink "PixelFormula" (56 : Nat) "PixelFormula$Code" "count" "I") ∈ wA := tb_in 47 (by decide +kernel) (by decide +kernel)
theorem mw_48 : (Cond.fieldLink "PixelFormula$Code" (31 : Nat) "PixelFormula$Code" "isTooLong" "Z") ∈ wA := tb_in 48 (by decide +kernel) (by decide +kernel)
theorem mw_49 : (Cond.fieldLink "PixelFormula$Compiler" (53 : Nat) "PixelFormula$Code" "isTooLong" "Z") ∈ wA := tb_in 49 (by decide +kernel) (by decide +kernel)
theorem mw_50 : (Cond.laysFinal "PixelFormula$Code" "PixelFormula$Code" "kinds" "[I") ∈ wA := tb_in 50 (by decide +kernel) (by decide +kernel)
theorem mw_52 : (Cond.laysFinal "PixelFormula$Code" "PixelFormula$Code" "firsts" "[I") ∈ wA := tb_in 52 (by decide +kernel) (by decide +kernel)
theorem mw_54 : (Cond.laysFinal "PixelFormula$Code" "PixelFormula$Code" "seconds" "[I") ∈ wA := tb_in 54 (by decide +kernel) (by decide +kernel)
theorem mw_56 : (Cond.laysFinal "PixelFormula$Code" "PixelFormula$Code" "results" "[I") ∈ wA := tb_in 56 (by decide +kernel) (by decide +kernel)
theorem mw_58 : (Cond.laysFinal "PixelFormula$Code" "PixelFormula$Code" "variableTypes" "[I") ∈ wA := tb_in 58 (by decide +kernel) (by decide +kernel)
theorem mw_60 : (Cond.lays "PixelFormula$Code" "PixelFormula$Code" "count" "I") ∈ wA := tb_in 60 (by decide +kernel) (by decide +kernel)
theorem mw_62 : (Cond.lays "PixelFormula$Code" "PixelFormula$Code" "isTooLong" "Z") ∈ wA := tb_in 62 (by decide +kernel) (by decide +kernel)
theorem mw_65 : (Cond.arrayClass FieldType.char) ∈ wA := tb_in 65 (by decide +kernel) (by decide +kernel)
theorem mw_66 : (Cond.arrayClass FieldType.int) ∈ wA := tb_in 66 (by decide +kernel) (by decide +kernel)
theorem mw_67 : (Cond.classLink "PixelFormula" (24 : Nat) "PixelFormula$Compiler") ∈ wA := tb_in 67 (by decide +kernel) (by decide +kernel)
theorem mw_68 : (Cond.instantiable "PixelFormula$Compiler" (5 : Nat)) ∈ wA := tb_in 68 (by decide +kernel) (by decide +kernel)
theorem mw_70 : (Cond.instanceMethod ({ cls := "PixelFormula$Compiler", name := "<init>", desc := "()V" } : MethodName)) ∈ wA := tb_in 70 (by decide +kernel) (by decide +kernel)
theorem mw_71 : (Cond.code ({ cls := "PixelFormula$Compiler", name := "<init>", desc := "()V" } : MethodName) prog_3_method_1_code (1 : Nat) (Option.none : Option FieldType)) ∈ wA := tb_in 71 (by decide +kernel) (by decide +kernel)
theorem mw_72 : (Cond.methodLink "PixelFormula$Compiler" (3 : Nat) ({ cls := "java/lang/Object", name := "<init>", desc := "()V" } : MethodName)) ∈ wA := tb_in 72 (by decide +kernel) (by decide +kernel)
theorem mw_73 : (Cond.classLink "PixelFormula$Compiler" (26 : Nat) "PixelFormula$Code") ∈ wA := tb_in 73 (by decide +kernel) (by decide +kernel)
theorem mw_75 : (Cond.fieldLink "PixelFormula$Compiler" (9 : Nat) "PixelFormula$Compiler" "variables" "[I") ∈ wA := tb_in 75 (by decide +kernel) (by decide +kernel)
theorem mw_76 : (Cond.fieldLink "PixelFormula$Compiler" (15 : Nat) "PixelFormula$Compiler" "text" "[C") ∈ wA := tb_in 76 (by decide +kernel) (by decide +kernel)
theorem mw_77 : (Cond.fieldLink "PixelFormula$Compiler" (19 : Nat) "PixelFormula$Compiler" "length" "I") ∈ wA := tb_in 77 (by decide +kernel) (by decide +kernel)
theorem mw_78 : (Cond.fieldLink "PixelFormula$Compiler" (23 : Nat) "PixelFormula$Compiler" "at" "I") ∈ wA := tb_in 78 (by decide +kernel) (by decide +kernel)
theorem mw_79 : (Cond.fieldLink "PixelFormula$Compiler" (29 : Nat) "PixelFormula$Compiler" "code" "LPixelFormula$Code;") ∈ wA := tb_in 79 (by decide +kernel) (by decide +kernel)
theorem mw_80 : (Cond.laysFinal "PixelFormula$Compiler" "PixelFormula$Compiler" "variables" "[I") ∈ wA := tb_in 80 (by decide +kernel) (by decide +kernel)
theorem mw_82 : (Cond.lays "PixelFormula$Compiler" "PixelFormula$Compiler" "text" "[C") ∈ wA := tb_in 82 (by decide +kernel) (by decide +kernel)
theorem mw_84 : (Cond.lays "PixelFormula$Compiler" "PixelFormula$Compiler" "length" "I") ∈ wA := tb_in 84 (by decide +kernel) (by decide +kernel)
theorem mw_86 : (Cond.lays "PixelFormula$Compiler" "PixelFormula$Compiler" "at" "I") ∈ wA := tb_in 86 (by decide +kernel) (by decide +kernel)
theorem mw_88 : (Cond.lays "PixelFormula$Compiler" "PixelFormula$Compiler" "code" "LPixelFormula$Code;") ∈ wA := tb_in 88 (by decide +kernel) (by decide +kernel)
theorem mw_91 : (Cond.classLink "PixelFormula" (31 : Nat) "PixelFormula$Machine") ∈ wA := tb_in 91 (by decide +kernel) (by decide +kernel)
theorem mw_92 : (Cond.instantiable "PixelFormula$Machine" (2 : Nat)) ∈ wA := tb_in 92 (by decide +kernel) (by decide +kernel)
theorem mw_94 : (Cond.instanceMethod ({ cls := "PixelFormula$Machine", name := "<init>", desc := "()V" } : MethodName)) ∈ wA := tb_in 94 (by decide +kernel) (by decide +kernel)
theorem mw_95 : (Cond.code ({ cls := "PixelFormula$Machine", name := "<init>", desc := "()V" } : MethodName) prog_4_method_1_code (1 : Nat) (Option.none : Option FieldType)) ∈ wA := tb_in 95 (by decide +kernel) (by decide +kernel)
theorem mw_96 : (Cond.methodLink "PixelFormula$Machine" (3 : Nat) ({ cls := "java/lang/Object", name := "<init>", desc := "()V" } : MethodName)) ∈ wA := tb_in 96 (by decide +kernel) (by decide +kernel)
theorem mw_97 : (Cond.fieldLink "PixelFormula$Machine" (9 : Nat) "PixelFormula$Machine" "made" "[I") ∈ wA := tb_in 97 (by decide +kernel) (by decide +kernel)
theorem mw_98 : (Cond.fieldLink "PixelFormula" (92 : Nat) "PixelFormula$Machine" "made" "[I") ∈ wA := tb_in 98 (by decide +kernel) (by decide +kernel)
theorem mw_99 : (Cond.fieldLink "PixelFormula$Machine" (15 : Nat) "PixelFormula$Machine" "inputs" "[I") ∈ wA := tb_in 99 (by decide +kernel) (by decide +kernel)
theorem mw_100 : (Cond.laysFinal "PixelFormula$Machine" "PixelFormula$Machine" "made" "[I") ∈ wA := tb_in 100 (by decide +kernel) (by decide +kernel)
theorem mw_102 : (Cond.laysFinal "PixelFormula$Machine" "PixelFormula$Machine" "inputs" "[I") ∈ wA := tb_in 102 (by decide +kernel) (by decide +kernel)
theorem mw_105 : (Cond.fieldLink "PixelFormula" (9 : Nat) "PixelFormula" "text" "[C") ∈ wA := tb_in 105 (by decide +kernel) (by decide +kernel)
theorem mw_106 : (Cond.fieldLink "PixelFormula" (13 : Nat) "PixelFormula" "length" "I") ∈ wA := tb_in 106 (by decide +kernel) (by decide +kernel)
theorem mw_107 : (Cond.fieldLink "PixelFormula" (20 : Nat) "PixelFormula" "code" "LPixelFormula$Code;") ∈ wA := tb_in 107 (by decide +kernel) (by decide +kernel)
theorem mw_108 : (Cond.fieldLink "PixelFormula" (27 : Nat) "PixelFormula" "compiler" "LPixelFormula$Compiler;") ∈ wA := tb_in 108 (by decide +kernel) (by decide +kernel)
theorem mw_109 : (Cond.fieldLink "PixelFormula" (34 : Nat) "PixelFormula" "machine" "LPixelFormula$Machine;") ∈ wA := tb_in 109 (by decide +kernel) (by decide +kernel)
theorem mw_110 : (Cond.fieldLink "PixelFormula" (38 : Nat) "PixelFormula" "picture" "[I") ∈ wA := tb_in 110 (by decide +kernel) (by decide +kernel)
theorem mw_111 : (Cond.laysFinal "PixelFormula" "PixelFormula" "text" "[C") ∈ wA := tb_in 111 (by decide +kernel) (by decide +kernel)
theorem mw_113 : (Cond.lays "PixelFormula" "PixelFormula" "length" "I") ∈ wA := tb_in 113 (by decide +kernel) (by decide +kernel)
theorem mw_115 : (Cond.lays "PixelFormula" "PixelFormula" "code" "LPixelFormula$Code;") ∈ wA := tb_in 115 (by decide +kernel) (by decide +kernel)
theorem mw_117 : (Cond.laysFinal "PixelFormula" "PixelFormula" "compiler" "LPixelFormula$Compiler;") ∈ wA := tb_in 117 (by decide +kernel) (by decide +kernel)
theorem mw_119 : (Cond.laysFinal "PixelFormula" "PixelFormula" "machine" "LPixelFormula$Machine;") ∈ wA := tb_in 119 (by decide +kernel) (by decide +kernel)
theorem mw_121 : (Cond.laysFinal "PixelFormula" "PixelFormula" "picture" "[I") ∈ wA := tb_in 121 (by decide +kernel) (by decide +kernel)
theorem mw_124 : (Cond.methodLink "PixelFormulaLaw" (58 : Nat) ({ cls := "PixelFormula", name := "erase", desc := "()V" } : MethodName)) ∈ wA := tb_in 124 (by decide +kernel) (by decide +kernel)
theorem mw_125 : (Cond.instanceMethod ({ cls := "PixelFormula", name := "erase", desc := "()V" } : MethodName)) ∈ wA := tb_in 125 (by decide +kernel) (by decide +kernel)
theorem mw_126 : (Cond.selects "PixelFormula" ({ cls := "PixelFormula", name := "erase", desc := "()V" } : MethodName) ({ cls := "PixelFormula", name := "erase", desc := "()V" } : MethodName)) ∈ wA := tb_in 126 (by decide +kernel) (by decide +kernel)
theorem mw_127 : (Cond.code ({ cls := "PixelFormula", name := "erase", desc := "()V" } : MethodName) prog_1_method_3_code (1 : Nat) (Option.none : Option FieldType)) ∈ wA := tb_in 127 (by decide +kernel) (by decide +kernel)
theorem mw_128 : (Cond.methodLink "PixelFormulaLaw" (62 : Nat) ({ cls := "PixelFormula", name := "compile", desc := "()Z" } : MethodName)) ∈ wA := tb_in 128 (by decide +kernel) (by decide +kernel)
theorem mw_129 : (Cond.instanceMethod ({ cls := "PixelFormula", name := "compile", desc := "()Z" } : MethodName)) ∈ wA := tb_in 129 (by decide +kernel) (by decide +kernel)
theorem mw_130 : (Cond.selects "PixelFormula" ({ cls := "PixelFormula", name := "compile", desc := "()Z" } : MethodName) ({ cls := "PixelFormula", name := "compile", desc := "()Z" } : MethodName)) ∈ wA := tb_in 130 (by decide +kernel) (by decide +kernel)
theorem mw_131 : (Cond.code ({ cls := "PixelFormula", name := "compile", desc := "()Z" } : MethodName) prog_1_method_4_code (1 : Nat) (Option.some FieldType.boolean)) ∈ wA := tb_in 131 (by decide +kernel) (by decide +kernel)
theorem mw_132 : (Cond.methodLink "PixelFormula" (48 : Nat) ({ cls := "PixelFormula$Compiler", name := "accepts", desc := "([CI)Z" } : MethodName)) ∈ wA := tb_in 132 (by decide +kernel) (by decide +kernel)
theorem mw_133 : (Cond.instanceMethod ({ cls := "PixelFormula$Compiler", name := "accepts", desc := "([CI)Z" } : MethodName)) ∈ wA := tb_in 133 (by decide +kernel) (by decide +kernel)
theorem mw_134 : (Cond.selects "PixelFormula$Compiler" ({ cls := "PixelFormula$Compiler", name := "accepts", desc := "([CI)Z" } : MethodName) ({ cls := "PixelFormula$Compiler", name := "accepts", desc := "([CI)Z" } : MethodName)) ∈ wA := tb_in 134 (by decide +kernel) (by decide +kernel)
theorem mw_135 : (Cond.code ({ cls := "PixelFormula$Compiler", name := "accepts", desc := "([CI)Z" } : MethodName) prog_3_method_3_code (4 : Nat) (Option.some FieldType.boolean)) ∈ wA := tb_in 135 (by decide +kernel) (by decide +kernel)
theorem mw_136 : (Cond.methodLink "PixelFormula$Compiler" (33 : Nat) ({ cls := "PixelFormula$Compiler", name := "start", desc := "([CI)V" } : MethodName)) ∈ wA := tb_in 136 (by decide +kernel) (by decide +kernel)
theorem mw_138 : (Cond.instanceMethod ({ cls := "PixelFormula$Compiler", name := "start", desc := "([CI)V" } : MethodName)) ∈ wA := tb_in 138 (by decide +kernel) (by decide +kernel)
theorem mw_139 : (Cond.code ({ cls := "PixelFormula$Compiler", name := "start", desc := "([CI)V" } : MethodName) prog_3_method_4_code (4 : Nat) (Option.none : Option FieldType)) ∈ wA := tb_in 139 (by decide +kernel) (by decide +kernel)
theorem mw_140 : (Cond.methodLink "PixelFormula$Compiler" (61 : Nat) ({ cls := "PixelFormula$Code", name := "clear", desc := "()V" } : MethodName)) ∈ wA := tb_in 140 (by decide +kernel) (by decide +kernel)
theorem mw_141 : (Cond.instanceMethod ({ cls := "PixelFormula$Code", name := "clear", desc := "()V" } : MethodName)) ∈ wA := tb_in 141 (by decide +kernel) (by decide +kernel)
theorem mw_142 : (Cond.selects "PixelFormula$Code" ({ cls := "PixelFormula$Code", name := "clear", desc := "()V" } : MethodName) ({ cls := "PixelFormula$Code", name := "clear", desc := "()V" } : MethodName)) ∈ wA := tb_in 142 (by decide +kernel) (by decide +kernel)
theorem mw_143 : (Cond.code ({ cls := "PixelFormula$Code", name := "clear", desc := "()V" } : MethodName) prog_2_method_2_code (1 : Nat) (Option.none : Option FieldType)) ∈ wA := tb_in 143 (by decide +kernel) (by decide +kernel)
theorem mw_144 : (Cond.methodLink "PixelFormula$Compiler" (37 : Nat) ({ cls := "PixelFormula$Compiler", name := "isAssignmentNext", desc := "()Z" } : MethodName)) ∈ wA := tb_in 144 (by decide +kernel) (by decide +kernel)
theorem mw_146 : (Cond.instanceMethod ({ cls := "PixelFormula$Compiler", name := "isAssignmentNext", desc := "()Z" } : MethodName)) ∈ wA := tb_in 146 (by decide +kernel) (by decide +kernel)
theorem mw_147 : (Cond.code ({ cls := "PixelFormula$Compiler", name := "isAssignmentNext", desc := "()Z" } : MethodName) prog_3_method_8_code (1 : Nat) (Option.some FieldType.boolean)) ∈ wA := tb_in 147 (by decide +kernel) (by decide +kernel)
theorem mw_148 : (Cond.methodLink "PixelFormula$Compiler" (78 : Nat) ({ cls := "PixelFormula$Compiler", name := "isSmall", desc := "(C)Z" } : MethodName)) ∈ wA := tb_in 148 (by decide +kernel) (by decide +kernel)
theorem mw_149 : (Cond.static ({ cls := "PixelFormula$Compiler", name := "isSmall", desc := "(C)Z" } : MethodName)) ∈ wA := tb_in 149 (by decide +kernel) (by decide +kernel)
theorem mw_150 : (Cond.code ({ cls := "PixelFormula$Compiler", name := "isSmall", desc := "(C)Z" } : MethodName) prog_3_method_32_code (1 : Nat) (Option.some FieldType.boolean)) ∈ wA := tb_in 150 (by decide +kernel) (by decide +kernel)
theorem mw_151 : (Cond.methodLink "PixelFormula$Compiler" (41 : Nat) ({ cls := "PixelFormula$Compiler", name := "assignment", desc := "()Z" } : MethodName)) ∈ wA := tb_in 151 (by decide +kernel) (by decide +kernel)
theorem mw_153 : (Cond.instanceMethod ({ cls := "PixelFormula$Compiler", name := "assignment", desc := "()Z" } : MethodName)) ∈ wA := tb_in 153 (by decide +kernel) (by decide +kernel)
theorem mw_154 : (Cond.code ({ cls := "PixelFormula$Compiler", name := "assignment", desc := "()Z" } : MethodName) prog_3_method_9_code (3 : Nat) (Option.some FieldType.boolean)) ∈ wA := tb_in 154 (by decide +kernel) (by decide +kernel)
theorem mw_155 : (Cond.methodLink "PixelFormula$Compiler" (74 : Nat) ({ cls := "PixelFormula$Compiler", name := "next", desc := "()C" } : MethodName)) ∈ wA := tb_in 155 (by decide +kernel) (by decide +kernel)
theorem mw_157 : (Cond.instanceMethod ({ cls := "PixelFormula$Compiler", name := "next", desc := "()C" } : MethodName)) ∈ wA := tb_in 157 (by decide +kernel) (by decide +kernel)
theorem mw_158 : (Cond.code ({ cls := "PixelFormula$Compiler", name := "next", desc := "()C" } : MethodName) prog_3_method_6_code (1 : Nat) (Option.some FieldType.char)) ∈ wA := tb_in 158 (by decide +kernel) (by decide +kernel)
theorem mw_159 : (Cond.methodLink "PixelFormula$Compiler" (82 : Nat) ({ cls := "PixelFormula$Compiler", name := "isVariable", desc := "(C)Z" } : MethodName)) ∈ wA := tb_in 159 (by decide +kernel) (by decide +kernel)
theorem mw_160 : (Cond.static ({ cls := "PixelFormula$Compiler", name := "isVariable", desc := "(C)Z" } : MethodName)) ∈ wA := tb_in 160 (by decide +kernel) (by decide +kernel)
theorem mw_161 : (Cond.code ({ cls := "PixelFormula$Compiler", name := "isVariable", desc := "(C)Z" } : MethodName) prog_3_method_34_code (1 : Nat) (Option.some FieldType.boolean)) ∈ wA := tb_in 161 (by decide +kernel) (by decide +kernel)
theorem mw_162 : (Cond.methodLink "PixelFormula$Compiler" (144 : Nat) ({ cls := "PixelFormula$Compiler", name := "isPlace", desc := "(C)Z" } : MethodName)) ∈ wA := tb_in 162 (by decide +kernel) (by decide +kernel)
theorem mw_163 : (Cond.static ({ cls := "PixelFormula$Compiler", name := "isPlace", desc := "(C)Z" } : MethodName)) ∈ wA := tb_in 163 (by decide +kernel) (by decide +kernel)
theorem mw_164 : (Cond.code ({ cls := "PixelFormula$Compiler", name := "isPlace", desc := "(C)Z" } : MethodName) prog_3_method_33_code (1 : Nat) (Option.some FieldType.boolean)) ∈ wA := tb_in 164 (by decide +kernel) (by decide +kernel)
theorem mw_165 : (Cond.methodLink "PixelFormula$Compiler" (44 : Nat) ({ cls := "PixelFormula$Compiler", name := "sum", desc := "(I)I" } : MethodName)) ∈ wA := tb_in 165 (by decide +kernel) (by decide +kernel)
theorem mw_167 : (Cond.instanceMethod ({ cls := "PixelFormula$Compiler", name := "sum", desc := "(I)I" } : MethodName)) ∈ wA := tb_in 167 (by decide +kernel) (by decide +kernel)
theorem mw_168 : (Cond.code ({ cls := "PixelFormula$Compiler", name := "sum", desc := "(I)I" } : MethodName) prog_3_method_10_code (4 : Nat) (Option.some FieldType.int)) ∈ wA := tb_in 168 (by decide +kernel) (by decide +kernel)
theorem mw_169 : (Cond.methodLink "PixelFormula$Compiler" (88 : Nat) ({ cls := "PixelFormula$Compiler", name := "product", desc := "(I)I" } : MethodName)) ∈ wA := tb_in 169 (by decide +kernel) (by decide +kernel)
theorem mw_171 : (Cond.instanceMethod ({ cls := "PixelFormula$Compiler", name := "product", desc := "(I)I" } : MethodName)) ∈ wA := tb_in 171 (by decide +kernel) (by decide +kernel)
theorem mw_172 : (Cond.code ({ cls := "PixelFormula$Compiler", name := "product", desc := "(I)I" } : MethodName) prog_3_method_11_code (4 : Nat) (Option.some FieldType.int)) ∈ wA := tb_in 172 (by decide +kernel) (by decide +kernel)
theorem mw_173 : (Cond.methodLink "PixelFormula$Compiler" (95 : Nat) ({ cls := "PixelFormula$Compiler", name := "unit", desc := "(I)I" } : MethodName)) ∈ wA := tb_in 173 (by decide +kernel) (by decide +kernel)
theorem mw_175 : (Cond.instanceMethod ({ cls := "PixelFormula$Compiler", name := "unit", desc := "(I)I" } : MethodName)) ∈ wA := tb_in 175 (by decide +kernel) (by decide +kernel)
theorem mw_176 : (Cond.code ({ cls := "PixelFormula$Compiler", name := "unit", desc := "(I)I" } : MethodName) prog_3_method_12_code (5 : Nat) (Option.some FieldType.int)) ∈ wA := tb_in 176 (by decide +kernel) (by decide +kernel)
theorem mw_177 : (Cond.methodLink "PixelFormula$Compiler" (85 : Nat) ({ cls := "PixelFormula$Compiler", name := "takes", desc := "(C)Z" } : MethodName)) ∈ wA := tb_in 177 (by decide +kernel) (by decide +kernel)
theorem mw_179 : (Cond.instanceMethod ({ cls := "PixelFormula$Compiler", name := "takes", desc := "(C)Z" } : MethodName)) ∈ wA := tb_in 179 (by decide +kernel) (by decide +kernel)
theorem mw_180 : (Cond.code ({ cls := "PixelFormula$Compiler", name := "takes", desc := "(C)Z" } : MethodName) prog_3_method_7_code (2 : Nat) (Option.some FieldType.boolean)) ∈ wA := tb_in 180 (by decide +kernel) (by decide +kernel)
theorem mw_181 : (Cond.methodLink "PixelFormula$Compiler" (104 : Nat) ({ cls := "PixelFormula$Compiler", name := "isDigit", desc := "(C)Z" } : MethodName)) ∈ wA := tb_in 181 (by decide +kernel) (by decide +kernel)
theorem mw_182 : (Cond.static ({ cls := "PixelFormula$Compiler", name := "isDigit", desc := "(C)Z" } : MethodName)) ∈ wA := tb_in 182 (by decide +kernel) (by decide +kernel)
theorem mw_183 : (Cond.code ({ cls := "PixelFormula$Compiler", name := "isDigit", desc := "(C)Z" } : MethodName) prog_3_method_31_code (1 : Nat) (Option.some FieldType.boolean)) ∈ wA := tb_in 183 (by decide +kernel) (by decide +kernel)
theorem mw_184 : (Cond.methodLink "PixelFormula$Compiler" (107 : Nat) ({ cls := "PixelFormula$Compiler", name := "constant", desc := "()I" } : MethodName)) ∈ wA := tb_in 184 (by decide +kernel) (by decide +kernel)
theorem mw_186 : (Cond.instanceMethod ({ cls := "PixelFormula$Compiler", name := "constant", desc := "()I" } : MethodName)) ∈ wA := tb_in 186 (by decide +kernel) (by decide +kernel)
theorem mw_187 : (Cond.code ({ cls := "PixelFormula$Compiler", name := "constant", desc := "()I" } : MethodName) prog_3_method_16_code (5 : Nat) (Option.some FieldType.int)) ∈ wA := tb_in 187 (by decide +kernel) (by decide +kernel)
theorem mw_188 : (Cond.methodLink "PixelFormula$Compiler" (140 : Nat) ({ cls := "PixelFormula$Compiler", name := "digit", desc := "()I" } : MethodName)) ∈ wA := tb_in 188 (by decide +kernel) (by decide +kernel)
theorem mw_190 : (Cond.instanceMethod ({ cls := "PixelFormula$Compiler", name := "digit", desc := "()I" } : MethodName)) ∈ wA := tb_in 190 (by decide +kernel) (by decide +kernel)
theorem mw_191 : (Cond.code ({ cls := "PixelFormula$Compiler", name := "digit", desc := "()I" } : MethodName) prog_3_method_17_code (2 : Nat) (Option.some FieldType.int)) ∈ wA := tb_in 191 (by decide +kernel) (by decide +kernel)
theorem mw_192 : (Cond.constant "PixelFormula$Compiler" (143 : Nat) (65536 : Int32)) ∈ wA := tb_in 192 (by decide +kernel) (by decide +kernel)
theorem mw_193 : (Cond.methodLink "PixelFormula$Compiler" (131 : Nat) ({ cls := "PixelFormula$Value", name := "ofType", desc := "(I)I" } : MethodName)) ∈ wA := tb_in 193 (by decide +kernel) (by decide +kernel)
theorem mw_194 : (Cond.static ({ cls := "PixelFormula$Value", name := "ofType", desc := "(I)I" } : MethodName)) ∈ wA := tb_in 194 (by decide +kernel) (by decide +kernel)
theorem mw_195 : (Cond.code ({ cls := "PixelFormula$Value", name := "ofType", desc := "(I)I" } : MethodName) prog_6_method_2_code (1 : Nat) (Option.some FieldType.int)) ∈ wA := tb_in 195 (by decide +kernel) (by decide +kernel)
theorem mw_196 : (Cond.methodLink "PixelFormula$Compiler" (134 : Nat) ({ cls := "PixelFormula$Code", name := "put", desc := "(III)I" } : MethodName)) ∈ wA := tb_in 196 (by decide +kernel) (by decide +kernel)
theorem mw_197 : (Cond.instanceMethod ({ cls := "PixelFormula$Code", name := "put", desc := "(III)I" } : MethodName)) ∈ wA := tb_in 197 (by decide +kernel) (by decide +kernel)
theorem mw_198 : (Cond.selects "PixelFormula$Code" ({ cls := "PixelFormula$Code", name := "put", desc := "(III)I" } : MethodName) ({ cls := "PixelFormula$Code", name := "put", desc := "(III)I" } : MethodName)) ∈ wA := tb_in 198 (by decide +kernel) (by decide +kernel)
theorem mw_199 : (Cond.code ({ cls := "PixelFormula$Code", name := "put", desc := "(III)I" } : MethodName) prog_2_method_3_code (5 : Nat) (Option.some FieldType.int)) ∈ wA := tb_in 199 (by decide +kernel) (by decide +kernel)
theorem mw_200 : (Cond.methodLink "PixelFormula$Compiler" (137 : Nat) ({ cls := "PixelFormula$Value", name := "withNumber", desc := "(III)I" } : MethodName)) ∈ wA := tb_in 200 (by decide +kernel) (by decide +kernel)
theorem mw_201 : (Cond.static ({ cls := "PixelFormula$Value", name := "withNumber", desc := "(III)I" } : MethodName)) ∈ wA := tb_in 201 (by decide +kernel) (by decide +kernel)
theorem mw_202 : (Cond.code ({ cls := "PixelFormula$Value", name := "withNumber", desc := "(III)I" } : MethodName) prog_6_method_4_code (3 : Nat) (Option.some FieldType.int)) ∈ wA := tb_in 202 (by decide +kernel) (by decide +kernel)
theorem mw_203 : (Cond.methodLink "PixelFormula$Compiler" (111 : Nat) ({ cls := "PixelFormula$Compiler", name := "part", desc := "(I)I" } : MethodName)) ∈ wA := tb_in 203 (by decide +kernel) (by decide +kernel)
theorem mw_205 : (Cond.instanceMethod ({ cls := "PixelFormula$Compiler", name := "part", desc := "(I)I" } : MethodName)) ∈ wA := tb_in 205 (by decide +kernel) (by decide +kernel)
theorem mw_206 : (Cond.code ({ cls := "PixelFormula$Compiler", name := "part", desc := "(I)I" } : MethodName) prog_3_method_13_code (4 : Nat) (Option.some FieldType.int)) ∈ wA := tb_in 206 (by decide +kernel) (by decide +kernel)
theorem mw_207 : (Cond.methodLink "PixelFormula$Compiler" (120 : Nat) ({ cls := "PixelFormula$Compiler", name := "letter", desc := "(C)I" } : MethodName)) ∈ wA := tb_in 207 (by decide +kernel) (by decide +kernel)
theorem mw_209 : (Cond.instanceMethod ({ cls := "PixelFormula$Compiler", name := "letter", desc := "(C)I" } : MethodName)) ∈ wA := tb_in 209 (by decide +kernel) (by decide +kernel)
theorem mw_210 : (Cond.code ({ cls := "PixelFormula$Compiler", name := "letter", desc := "(C)I" } : MethodName) prog_3_method_14_code (2 : Nat) (Option.some FieldType.int)) ∈ wA := tb_in 210 (by decide +kernel) (by decide +kernel)
theorem mw_211 : (Cond.methodLink "PixelFormula$Compiler" (128 : Nat) ({ cls := "PixelFormula$Compiler", name := "input", desc := "(II)I" } : MethodName)) ∈ wA := tb_in 211 (by decide +kernel) (by decide +kernel)
theorem mw_213 : (Cond.instanceMethod ({ cls := "PixelFormula$Compiler", name := "input", desc := "(II)I" } : MethodName)) ∈ wA := tb_in 213 (by decide +kernel) (by decide +kernel)
theorem mw_214 : (Cond.code ({ cls := "PixelFormula$Compiler", name := "input", desc := "(II)I" } : MethodName) prog_3_method_15_code (5 : Nat) (Option.some FieldType.int)) ∈ wA := tb_in 214 (by decide +kernel) (by decide +kernel)
theorem mw_215 : (Cond.methodLink "PixelFormula$Compiler" (124 : Nat) ({ cls := "PixelFormula$Compiler", name := "function", desc := "(CI)I" } : MethodName)) ∈ wA := tb_in 215 (by decide +kernel) (by decide +kernel)
theorem mw_217 : (Cond.instanceMethod ({ cls := "PixelFormula$Compiler", name := "function", desc := "(CI)I" } : MethodName)) ∈ wA := tb_in 217 (by decide +kernel) (by decide +kernel)
theorem mw_218 : (Cond.code ({ cls := "PixelFormula$Compiler", name := "function", desc := "(CI)I" } : MethodName) prog_3_method_19_code (3 : Nat) (Option.some FieldType.int)) ∈ wA := tb_in 218 (by decide +kernel) (by decide +kernel)
theorem mw_219 : (Cond.methodLink "PixelFormula$Compiler" (117 : Nat) ({ cls := "PixelFormula$Compiler", name := "each", desc := "(II)I" } : MethodName)) ∈ wA := tb_in 219 (by decide +kernel) (by decide +kernel)
theorem mw_221 : (Cond.instanceMethod ({ cls := "PixelFormula$Compiler", name := "each", desc := "(II)I" } : MethodName)) ∈ wA := tb_in 221 (by decide +kernel) (by decide +kernel)
theorem mw_222 : (Cond.code ({ cls := "PixelFormula$Compiler", name := "each", desc := "(II)I" } : MethodName) prog_3_method_25_code (5 : Nat) (Option.some FieldType.int)) ∈ wA := tb_in 222 (by decide +kernel) (by decide +kernel)
theorem mw_223 : (Cond.methodLink "PixelFormula$Compiler" (48 : Nat) ({ cls := "PixelFormula$Value", name := "typeIn", desc := "(I)I" } : MethodName)) ∈ wA := tb_in 223 (by decide +kernel) (by decide +kernel)
theorem mw_224 : (Cond.static ({ cls := "PixelFormula$Value", name := "typeIn", desc := "(I)I" } : MethodName)) ∈ wA := tb_in 224 (by decide +kernel) (by decide +kernel)
theorem mw_225 : (Cond.code ({ cls := "PixelFormula$Value", name := "typeIn", desc := "(I)I" } : MethodName) prog_6_method_3_code (1 : Nat) (Option.some FieldType.int)) ∈ wA := tb_in 225 (by decide +kernel) (by decide +kernel)
theorem mw_226 : (Cond.methodLink "PixelFormula$Compiler" (67 : Nat) ({ cls := "PixelFormula$Value", name := "number", desc := "(II)I" } : MethodName)) ∈ wA := tb_in 226 (by decide +kernel) (by decide +kernel)
theorem mw_227 : (Cond.static ({ cls := "PixelFormula$Value", name := "number", desc := "(II)I" } : MethodName)) ∈ wA := tb_in 227 (by decide +kernel) (by decide +kernel)
theorem mw_228 : (Cond.code ({ cls := "PixelFormula$Value", name := "number", desc := "(II)I" } : MethodName) prog_6_method_5_code (2 : Nat) (Option.some FieldType.int)) ∈ wA := tb_in 228 (by decide +kernel) (by decide +kernel)
theorem mw_229 : (Cond.methodLink "PixelFormula$Compiler" (147 : Nat) ({ cls := "PixelFormula$Compiler", name := "vector", desc := "(I)I" } : MethodName)) ∈ wA := tb_in 229 (by decide +kernel) (by decide +kernel)
theorem mw_231 : (Cond.instanceMethod ({ cls := "PixelFormula$Compiler", name := "vector", desc := "(I)I" } : MethodName)) ∈ wA := tb_in 231 (by decide +kernel) (by decide +kernel)
theorem mw_232 : (Cond.code ({ cls := "PixelFormula$Compiler", name := "vector", desc := "(I)I" } : MethodName) prog_3_method_21_code (4 : Nat) (Option.some FieldType.int)) ∈ wA := tb_in 232 (by decide +kernel) (by decide +kernel)
theorem mw_233 : (Cond.methodLink "PixelFormula$Compiler" (159 : Nat) ({ cls := "PixelFormula$Compiler", name := "joined", desc := "(II)I" } : MethodName)) ∈ wA := tb_in 233 (by decide +kernel) (by decide +kernel)
theorem mw_235 : (Cond.instanceMethod ({ cls := "PixelFormula$Compiler", name := "joined", desc := "(II)I" } : MethodName)) ∈ wA := tb_in 235 (by decide +kernel) (by decide +kernel)
theorem mw_236 : (Cond.code ({ cls := "PixelFormula$Compiler", name := "joined", desc := "(II)I" } : MethodName) prog_3_method_23_code (3 : Nat) (Option.some FieldType.int)) ∈ wA := tb_in 236 (by decide +kernel) (by decide +kernel)
theorem mw_237 : (Cond.methodLink "PixelFormula$Compiler" (162 : Nat) ({ cls := "PixelFormula$Compiler", name := "behindEachOther", desc := "(II)I" } : MethodName)) ∈ wA := tb_in 237 (by decide +kernel) (by decide +kernel)
theorem mw_238 : (Cond.static ({ cls := "PixelFormula$Compiler", name := "behindEachOther", desc := "(II)I" } : MethodName)) ∈ wA := tb_in 238 (by decide +kernel) (by decide +kernel)
theorem mw_239 : (Cond.code ({ cls := "PixelFormula$Compiler", name := "behindEachOther", desc := "(II)I" } : MethodName) prog_3_method_24_code (6 : Nat) (Option.some FieldType.int)) ∈ wA := tb_in 239 (by decide +kernel) (by decide +kernel)
theorem mw_240 : (Cond.methodLink "PixelFormula$Compiler" (150 : Nat) ({ cls := "PixelFormula$Compiler", name := "functionOfTwo", desc := "(CI)I" } : MethodName)) ∈ wA := tb_in 240 (by decide +kernel) (by decide +kernel)
theorem mw_242 : (Cond.instanceMethod ({ cls := "PixelFormula$Compiler", name := "functionOfTwo", desc := "(CI)I" } : MethodName)) ∈ wA := tb_in 242 (by decide +kernel) (by decide +kernel)
theorem mw_243 : (Cond.code ({ cls := "PixelFormula$Compiler", name := "functionOfTwo", desc := "(CI)I" } : MethodName) prog_3_method_20_code (5 : Nat) (Option.some FieldType.int)) ∈ wA := tb_in 243 (by decide +kernel) (by decide +kernel)
theorem mw_244 : (Cond.methodLink "PixelFormula$Compiler" (91 : Nat) ({ cls := "PixelFormula$Compiler", name := "pairwise", desc := "(III)I" } : MethodName)) ∈ wA := tb_in 244 (by decide +kernel) (by decide +kernel)
theorem mw_246 : (Cond.instanceMethod ({ cls := "PixelFormula$Compiler", name := "pairwise", desc := "(III)I" } : MethodName)) ∈ wA := tb_in 246 (by decide +kernel) (by decide +kernel)
theorem mw_247 : (Cond.code ({ cls := "PixelFormula$Compiler", name := "pairwise", desc := "(III)I" } : MethodName) prog_3_method_26_code (10 : Nat) (Option.some FieldType.int)) ∈ wA := tb_in 247 (by decide +kernel) (by decide +kernel)
theorem mw_248 : (Cond.methodLink "PixelFormula$Compiler" (165 : Nat) ({ cls := "java/lang/Math", name := "max", desc := "(II)I" } : MethodName)) ∈ wA := tb_in 248 (by decide +kernel) (by decide +kernel)
theorem mw_249 : (Cond.static ({ cls := "java/lang/Math", name := "max", desc := "(II)I" } : MethodName)) ∈ wA := tb_in 249 (by decide +kernel) (by decide +kernel)
theorem mw_250 : (Cond.code ({ cls := "java/lang/Math", name := "max", desc := "(II)I" } : MethodName) prog_13_method_65_code (2 : Nat) (Option.some FieldType.int)) ∈ wA := tb_in 250 (by decide +kernel) (by decide +kernel)
theorem mw_251 : (Cond.methodLink "PixelFormula$Compiler" (170 : Nat) ({ cls := "PixelFormula$Value", name := "spread", desc := "(II)I" } : MethodName)) ∈ wA := tb_in 251 (by decide +kernel) (by decide +kernel)
theorem mw_252 : (Cond.static ({ cls := "PixelFormula$Value", name := "spread", desc := "(II)I" } : MethodName)) ∈ wA := tb_in 252 (by decide +kernel) (by decide +kernel)
theorem mw_253 : (Cond.code ({ cls := "PixelFormula$Value", name := "spread", desc := "(II)I" } : MethodName) prog_6_method_6_code (2 : Nat) (Option.some FieldType.int)) ∈ wA := tb_in 253 (by decide +kernel) (by decide +kernel)
theorem mw_254 : (Cond.methodLink "PixelFormula$Value" (11 : Nat) ({ cls := "PixelFormula$Value", name := "typeIn", desc := "(I)I" } : MethodName)) ∈ wA := tb_in 254 (by decide +kernel) (by decide +kernel)
theorem mw_255 : (Cond.methodLink "PixelFormula$Value" (15 : Nat) ({ cls := "PixelFormula$Value", name := "number", desc := "(II)I" } : MethodName)) ∈ wA := tb_in 255 (by decide +kernel) (by decide +kernel)
theorem mw_256 : (Cond.methodLink "PixelFormula$Compiler" (153 : Nat) ({ cls := "PixelFormula$Compiler", name := "dotted", desc := "(II)I" } : MethodName)) ∈ wA := tb_in 256 (by decide +kernel) (by decide +kernel)
theorem mw_258 : (Cond.instanceMethod ({ cls := "PixelFormula$Compiler", name := "dotted", desc := "(II)I" } : MethodName)) ∈ wA := tb_in 258 (by decide +kernel) (by decide +kernel)
theorem mw_259 : (Cond.code ({ cls := "PixelFormula$Compiler", name := "dotted", desc := "(II)I" } : MethodName) prog_3_method_30_code (7 : Nat) (Option.some FieldType.int)) ∈ wA := tb_in 259 (by decide +kernel) (by decide +kernel)
theorem mw_260 : (Cond.methodLink "PixelFormula$Compiler" (156 : Nat) ({ cls := "PixelFormula$Compiler", name := "matrix", desc := "(II)I" } : MethodName)) ∈ wA := tb_in 260 (by decide +kernel) (by decide +kernel)
theorem mw_262 : (Cond.instanceMethod ({ cls := "PixelFormula$Compiler", name := "matrix", desc := "(II)I" } : MethodName)) ∈ wA := tb_in 262 (by decide +kernel) (by decide +kernel)
theorem mw_263 : (Cond.code ({ cls := "PixelFormula$Compiler", name := "matrix", desc := "(II)I" } : MethodName) prog_3_method_22_code (3 : Nat) (Option.some FieldType.int)) ∈ wA := tb_in 263 (by decide +kernel) (by decide +kernel)
theorem mw_264 : (Cond.methodLink "PixelFormula$Compiler" (114 : Nat) ({ cls := "PixelFormula$Compiler", name := "picked", desc := "(I)I" } : MethodName)) ∈ wA := tb_in 264 (by decide +kernel) (by decide +kernel)
theorem mw_266 : (Cond.instanceMethod ({ cls := "PixelFormula$Compiler", name := "picked", desc := "(I)I" } : MethodName)) ∈ wA := tb_in 266 (by decide +kernel) (by decide +kernel)
theorem mw_267 : (Cond.code ({ cls := "PixelFormula$Compiler", name := "picked", desc := "(I)I" } : MethodName) prog_3_method_18_code (6 : Nat) (Option.some FieldType.int)) ∈ wA := tb_in 267 (by decide +kernel) (by decide +kernel)
theorem mw_268 : (Cond.methodLink "PixelFormula$Compiler" (98 : Nat) ({ cls := "PixelFormula$Compiler", name := "times", desc := "(II)I" } : MethodName)) ∈ wA := tb_in 268 (by decide +kernel) (by decide +kernel)
theorem mw_270 : (Cond.instanceMethod ({ cls := "PixelFormula$Compiler", name := "times", desc := "(II)I" } : MethodName)) ∈ wA := tb_in 270 (by decide +kernel) (by decide +kernel)
theorem mw_271 : (Cond.code ({ cls := "PixelFormula$Compiler", name := "times", desc := "(II)I" } : MethodName) prog_3_method_27_code (4 : Nat) (Option.some FieldType.int)) ∈ wA := tb_in 271 (by decide +kernel) (by decide +kernel)
theorem mw_272 : (Cond.methodLink "PixelFormula$Compiler" (173 : Nat) ({ cls := "PixelFormula$Compiler", name := "timesColumns", desc := "(II)I" } : MethodName)) ∈ wA := tb_in 272 (by decide +kernel) (by decide +kernel)
theorem mw_274 : (Cond.instanceMethod ({ cls := "PixelFormula$Compiler", name := "timesColumns", desc := "(II)I" } : MethodName)) ∈ wA := tb_in 274 (by decide +kernel) (by decide +kernel)
theorem mw_275 : (Cond.code ({ cls := "PixelFormula$Compiler", name := "timesColumns", desc := "(II)I" } : MethodName) prog_3_method_28_code (9 : Nat) (Option.some FieldType.int)) ∈ wA := tb_in 275 (by decide +kernel) (by decide +kernel)
theorem mw_276 : (Cond.methodLink "PixelFormula$Compiler" (101 : Nat) ({ cls := "PixelFormula$Compiler", name := "dividedBy", desc := "(II)I" } : MethodName)) ∈ wA := tb_in 276 (by decide +kernel) (by decide +kernel)
theorem mw_278 : (Cond.instanceMethod ({ cls := "PixelFormula$Compiler", name := "dividedBy", desc := "(II)I" } : MethodName)) ∈ wA := tb_in 278 (by decide +kernel) (by decide +kernel)
theorem mw_279 : (Cond.code ({ cls := "PixelFormula$Compiler", name := "dividedBy", desc := "(II)I" } : MethodName) prog_3_method_29_code (3 : Nat) (Option.some FieldType.int)) ∈ wA := tb_in 279 (by decide +kernel) (by decide +kernel)
theorem mw_280 : (Cond.methodLink "PixelFormula$Compiler" (57 : Nat) ({ cls := "PixelFormula$Compiler", name := "finish", desc := "(I)V" } : MethodName)) ∈ wA := tb_in 280 (by decide +kernel) (by decide +kernel)
theorem mw_282 : (Cond.instanceMethod ({ cls := "PixelFormula$Compiler", name := "finish", desc := "(I)V" } : MethodName)) ∈ wA := tb_in 282 (by decide +kernel) (by decide +kernel)
theorem mw_283 : (Cond.code ({ cls := "PixelFormula$Compiler", name := "finish", desc := "(I)V" } : MethodName) prog_3_method_5_code (3 : Nat) (Option.none : Option FieldType)) ∈ wA := tb_in 283 (by decide +kernel) (by decide +kernel)
theorem mw_284 : (Cond.methodLink "PixelFormula" (52 : Nat) ({ cls := "PixelFormula$Compiler", name := "exchange", desc := "(LPixelFormula$Code;)LPixelFormula$Code;" } : MethodName)) ∈ wA := tb_in 284 (by decide +kernel) (by decide +kernel)
theorem mw_285 : (Cond.instanceMethod ({ cls := "PixelFormula$Compiler", name := "exchange", desc := "(LPixelFormula$Code;)LPixelFormula$Code;" } : MethodName)) ∈ wA := tb_in 285 (by decide +kernel) (by decide +kernel)
theorem mw_286 : (Cond.selects "PixelFormula$Compiler" ({ cls := "PixelFormula$Compiler", name := "exchange", desc := "(LPixelFormula$Code;)LPixelFormula$Code;" } : MethodName) ({ cls := "PixelFormula$Compiler", name := "exchange", desc := "(LPixelFormula$Code;)LPixelFormula$Code;" } : MethodName)) ∈ wA := tb_in 286 (by decide +kernel) (by decide +kernel)
theorem mw_287 : (Cond.code ({ cls := "PixelFormula$Compiler", name := "exchange", desc := "(LPixelFormula$Code;)LPixelFormula$Code;" } : MethodName) prog_3_method_2_code (3 : Nat) (Option.some (FieldType.object "PixelFormula$Code"))) ∈ wA := tb_in 287 (by decide +kernel) (by decide +kernel)
theorem mw_288 : (Cond.methodLink "PixelFormulaLaw" (67 : Nat) ({ cls := "PixelFormula", name := "size", desc := "()I" } : MethodName)) ∈ wA := tb_in 288 (by decide +kernel) (by decide +kernel)
theorem mw_289 : (Cond.instanceMethod ({ cls := "PixelFormula", name := "size", desc := "()I" } : MethodName)) ∈ wA := tb_in 289 (by decide +kernel) (by decide +kernel)
theorem mw_290 : (Cond.selects "PixelFormula" ({ cls := "PixelFormula", name := "size", desc := "()I" } : MethodName) ({ cls := "PixelFormula", name := "size", desc := "()I" } : MethodName)) ∈ wA := tb_in 290 (by decide +kernel) (by decide +kernel)
theorem mw_291 : (Cond.code ({ cls := "PixelFormula", name := "size", desc := "()I" } : MethodName) prog_1_method_5_code (1 : Nat) (Option.some FieldType.int)) ∈ wA := tb_in 291 (by decide +kernel) (by decide +kernel)
theorem mw_292 : (Cond.methodLink "PixelFormulaLaw" (48 : Nat) ({ cls := "PixelFormulaLaw", name := "type", desc := "(LPixelFormula;I[J)I" } : MethodName)) ∈ wA := tb_in 292 (by decide +kernel) (by decide +kernel)
theorem mw_293 : (Cond.static ({ cls := "PixelFormulaLaw", name := "type", desc := "(LPixelFormula;I[J)I" } : MethodName)) ∈ wA := tb_in 293 (by decide +kernel) (by decide +kernel)
theorem mw_295 : (Cond.classLink "PixelFormulaLaw" (13 : Nat) "java/lang/IllegalArgumentException") ∈ wA := tb_in 295 (by decide +kernel) (by decide +kernel)
theorem mw_296 : (Cond.classLink "PixelFormulaLaw" (15 : Nat) "java/lang/IllegalStateException") ∈ wA := tb_in 296 (by decide +kernel) (by decide +kernel)
theorem mw_297 : (Cond.methodLink "PixelFormulaLaw" (7 : Nat) ({ cls := "PixelFormula", name := "type", desc := "(I)I" } : MethodName)) ∈ wA := tb_in 297 (by decide +kernel) (by decide +kernel)
theorem mw_298 : (Cond.instanceMethod ({ cls := "PixelFormula", name := "type", desc := "(I)I" } : MethodName)) ∈ wA := tb_in 298 (by decide +kernel) (by decide +kernel)
theorem mw_299 : (Cond.selects "PixelFormula" ({ cls := "PixelFormula", name := "type", desc := "(I)I" } : MethodName) ({ cls := "PixelFormula", name := "type", desc := "(I)I" } : MethodName)) ∈ wA := tb_in 299 (by decide +kernel) (by decide +kernel)
theorem mw_300 : (Cond.code ({ cls := "PixelFormula", name := "type", desc := "(I)I" } : MethodName) prog_1_method_2_code (5 : Nat) (Option.some FieldType.int)) ∈ wA := tb_in 300 (by decide +kernel) (by decide +kernel)
theorem mw_301 : (Cond.classLink "PixelFormula" (42 : Nat) "java/lang/IllegalArgumentException") ∈ wA := tb_in 301 (by decide +kernel) (by decide +kernel)
theorem mw_302 : (Cond.instantiable "java/lang/IllegalArgumentException" (6 : Nat)) ∈ wA := tb_in 302 (by decide +kernel) (by decide +kernel)
theorem mw_310 : (Cond.selects "java/lang/IllegalArgumentException" ({ cls := "java/lang/Throwable", name := "fillInStackTrace", desc := "(I)Ljava/lang/Throwable;" } : MethodName) ({ cls := "java/lang/Throwable", name := "fillInStackTrace", desc := "(I)Ljava/lang/Throwable;" } : MethodName)) ∈ wA := tb_in 310 (by decide +kernel) (by decide +kernel)
theorem mw_311 : (Cond.selects "java/lang/IllegalArgumentException" ({ cls := "java/lang/Throwable", name := "fillInStackTrace", desc := "()Ljava/lang/Throwable;" } : MethodName) ({ cls := "java/lang/Throwable", name := "fillInStackTrace", desc := "()Ljava/lang/Throwable;" } : MethodName)) ∈ wA := tb_in 311 (by decide +kernel) (by decide +kernel)
theorem mw_312 : (Cond.lays "java/lang/IllegalArgumentException" "java/lang/Throwable" "cause" "Ljava/lang/Throwable;") ∈ wA := tb_in 312 (by decide +kernel) (by decide +kernel)
theorem mw_313 : (Cond.lays "java/lang/Throwable" "java/lang/Throwable" "cause" "Ljava/lang/Throwable;") ∈ wA := tb_in 313 (by decide +kernel) (by decide +kernel)
theorem mw_314 : (Cond.lays "java/lang/IllegalArgumentException" "java/lang/Throwable" "stackTrace" "[Ljava/lang/StackTraceElement;") ∈ wA := tb_in 314 (by decide +kernel) (by decide +kernel)
theorem mw_315 : (Cond.lays "java/lang/Throwable" "java/lang/Throwable" "stackTrace" "[Ljava/lang/StackTraceElement;") ∈ wA := tb_in 315 (by decide +kernel) (by decide +kernel)
theorem mw_316 : (Cond.lays "java/lang/IllegalArgumentException" "java/lang/Throwable" "suppressedExceptions" "Ljava/util/List;") ∈ wA := tb_in 316 (by decide +kernel) (by decide +kernel)
theorem mw_317 : (Cond.lays "java/lang/Throwable" "java/lang/Throwable" "suppressedExceptions" "Ljava/util/List;") ∈ wA := tb_in 317 (by decide +kernel) (by decide +kernel)
theorem mw_318 : (Cond.lays "java/lang/IllegalArgumentException" "java/lang/Throwable" "detailMessage" "Ljava/lang/String;") ∈ wA := tb_in 318 (by decide +kernel) (by decide +kernel)
theorem mw_319 : (Cond.lays "java/lang/Throwable" "java/lang/Throwable" "detailMessage" "Ljava/lang/String;") ∈ wA := tb_in 319 (by decide +kernel) (by decide +kernel)
theorem mw_320 : (Cond.lays "java/lang/IllegalArgumentException" "java/lang/Throwable" "backtrace" "Ljava/lang/Object;") ∈ wA := tb_in 320 (by decide +kernel) (by decide +kernel)
theorem mw_321 : (Cond.lays "java/lang/Throwable" "java/lang/Throwable" "backtrace" "Ljava/lang/Object;") ∈ wA := tb_in 321 (by decide +kernel) (by decide +kernel)
theorem mw_322 : (Cond.fieldLink "java/lang/Throwable" (198 : Nat) "java/lang/Throwable" "backtrace" "Ljava/lang/Object;") ∈ wA := tb_in 322 (by decide +kernel) (by decide +kernel)
theorem mw_324 : (Cond.instanceMethod ({ cls := "java/lang/Throwable", name := "<init>", desc := "()V" } : MethodName)) ∈ wA := tb_in 324 (by decide +kernel) (by decide +kernel)
theorem mw_325 : (Cond.code ({ cls := "java/lang/Throwable", name := "<init>", desc := "()V" } : MethodName) prog_15_method_1_code (1 : Nat) (Option.none : Option FieldType)) ∈ wA := tb_in 325 (by decide +kernel) (by decide +kernel)
theorem mw_326 : (Cond.methodLink "java/lang/Throwable" (1 : Nat) ({ cls := "java/lang/Object", name := "<init>", desc := "()V" } : MethodName)) ∈ wA := tb_in 326 (by decide +kernel) (by decide +kernel)
theorem mw_327 : (Cond.fieldLink "java/lang/Throwable" (13 : Nat) "java/lang/Throwable" "UNASSIGNED_STACK" "[Ljava/lang/StackTraceElement;") ∈ wA := tb_in 327 (by decide +kernel) (by decide +kernel)
theorem mw_329 : (Cond.fieldLink "java/lang/Throwable" (20 : Nat) "java/lang/Throwable" "SUPPRESSED_SENTINEL" "Ljava/util/List;") ∈ wA := tb_in 329 (by decide +kernel) (by decide +kernel)
theorem mw_331 : (Cond.methodLink "java/lang/Throwable" (27 : Nat) ({ cls := "java/lang/Throwable", name := "fillInStackTrace", desc := "()Ljava/lang/Throwable;" } : MethodName)) ∈ wA := tb_in 331 (by decide +kernel) (by decide +kernel)
theorem mw_332 : (Cond.instanceMethod ({ cls := "java/lang/Throwable", name := "fillInStackTrace", desc := "()Ljava/lang/Throwable;" } : MethodName)) ∈ wA := tb_in 332 (by decide +kernel) (by decide +kernel)
theorem mw_334 : (Cond.selects "java/lang/IllegalStateException" ({ cls := "java/lang/Throwable", name := "fillInStackTrace", desc := "()Ljava/lang/Throwable;" } : MethodName) ({ cls := "java/lang/Throwable", name := "fillInStackTrace", desc := "()Ljava/lang/Throwable;" } : MethodName)) ∈ wA := tb_in 334 (by decide +kernel) (by decide +kernel)
theorem mw_335 : (Cond.selects "java/lang/IndexOutOfBoundsException" ({ cls := "java/lang/Throwable", name := "fillInStackTrace", desc := "()Ljava/lang/Throwable;" } : MethodName) ({ cls := "java/lang/Throwable", name := "fillInStackTrace", desc := "()Ljava/lang/Throwable;" } : MethodName)) ∈ wA := tb_in 335 (by decide +kernel) (by decide +kernel)
theorem mw_337 : (Cond.methodLink "java/lang/Throwable" (202 : Nat) ({ cls := "java/lang/Throwable", name := "fillInStackTrace", desc := "(I)Ljava/lang/Throwable;" } : MethodName)) ∈ wA := tb_in 337 (by decide +kernel) (by decide +kernel)
theorem mw_339 : (Cond.instanceMethod ({ cls := "java/lang/Throwable", name := "fillInStackTrace", desc := "(I)Ljava/lang/Throwable;" } : MethodName)) ∈ wA := tb_in 339 (by decide +kernel) (by decide +kernel)
theorem mw_340 : (Cond.instantiable "java/lang/Throwable" (6 : Nat)) ∈ wA := tb_in 340 (by decide +kernel) (by decide +kernel)
theorem mw_342 : (Cond.methodLink "PixelFormula" (44 : Nat) ({ cls := "java/lang/IllegalArgumentException", name := "<init>", desc := "()V" } : MethodName)) ∈ wA := tb_in 342 (by decide +kernel) (by decide +kernel)
theorem mw_343 : (Cond.instanceMethod ({ cls := "java/lang/IllegalArgumentException", name := "<init>", desc := "()V" } : MethodName)) ∈ wA := tb_in 343 (by decide +kernel) (by decide +kernel)
theorem mw_344 : (Cond.code ({ cls := "java/lang/IllegalArgumentException", name := "<init>", desc := "()V" } : MethodName) prog_10_method_1_code (1 : Nat) (Option.none : Option FieldType)) ∈ wA := tb_in 344 (by decide +kernel) (by decide +kernel)
theorem mw_345 : (Cond.methodLink "java/lang/IllegalArgumentException" (1 : Nat) ({ cls := "java/lang/RuntimeException", name := "<init>", desc := "()V" } : MethodName)) ∈ wA := tb_in 345 (by decide +kernel) (by decide +kernel)
theorem mw_346 : (Cond.instanceMethod ({ cls := "java/lang/RuntimeException", name := "<init>", desc := "()V" } : MethodName)) ∈ wA := tb_in 346 (by decide +kernel) (by decide +kernel)
theorem mw_347 : (Cond.code ({ cls := "java/lang/RuntimeException", name := "<init>", desc := "()V" } : MethodName) prog_14_method_1_code (1 : Nat) (Option.none : Option FieldType)) ∈ wA := tb_in 347 (by decide +kernel) (by decide +kernel)
theorem mw_348 : (Cond.methodLink "java/lang/RuntimeException" (1 : Nat) ({ cls := "java/lang/Exception", name := "<init>", desc := "()V" } : MethodName)) ∈ wA := tb_in 348 (by decide +kernel) (by decide +kernel)
theorem mw_349 : (Cond.instanceMethod ({ cls := "java/lang/Exception", name := "<init>", desc := "()V" } : MethodName)) ∈ wA := tb_in 349 (by decide +kernel) (by decide +kernel)
theorem mw_350 : (Cond.code ({ cls := "java/lang/Exception", name := "<init>", desc := "()V" } : MethodName) prog_9_method_1_code (1 : Nat) (Option.none : Option FieldType)) ∈ wA := tb_in 350 (by decide +kernel) (by decide +kernel)
theorem mw_351 : (Cond.methodLink "java/lang/Exception" (1 : Nat) ({ cls := "java/lang/Throwable", name := "<init>", desc := "()V" } : MethodName)) ∈ wA := tb_in 351 (by decide +kernel) (by decide +kernel)
theorem mw_353 : (Cond.fieldLink "java/lang/Throwable" (7 : Nat) "java/lang/Throwable" "cause" "Ljava/lang/Throwable;") ∈ wA := tb_in 353 (by decide +kernel) (by decide +kernel)
theorem mw_354 : (Cond.fieldLink "java/lang/Throwable" (17 : Nat) "java/lang/Throwable" "stackTrace" "[Ljava/lang/StackTraceElement;") ∈ wA := tb_in 354 (by decide +kernel) (by decide +kernel)
theorem mw_355 : (Cond.fieldLink "java/lang/Throwable" (24 : Nat) "java/lang/Throwable" "suppressedExceptions" "Ljava/util/List;") ∈ wA := tb_in 355 (by decide +kernel) (by decide +kernel)
theorem mw_360 : (Cond.lays "java/lang/IllegalArgumentException" "java/lang/Throwable" "depth" "I") ∈ wA := tb_in 360 (by decide +kernel) (by decide +kernel)
theorem mw_364 : (Cond.classLink "PixelFormula" (45 : Nat) "java/lang/IllegalStateException") ∈ wA := tb_in 364 (by decide +kernel) (by decide +kernel)
theorem mw_365 : (Cond.instantiable "java/lang/IllegalStateException" (6 : Nat)) ∈ wA := tb_in 365 (by decide +kernel) (by decide +kernel)
theorem mw_367 : (Cond.selects "java/lang/IllegalStateException" ({ cls := "java/lang/Throwable", name := "fillInStackTrace", desc := "(I)Ljava/lang/Throwable;" } : MethodName) ({ cls := "java/lang/Throwable", name := "fillInStackTrace", desc := "(I)Ljava/lang/Throwable;" } : MethodName)) ∈ wA := tb_in 367 (by decide +kernel) (by decide +kernel)
theorem mw_368 : (Cond.lays "java/lang/IllegalStateException" "java/lang/Throwable" "cause" "Ljava/lang/Throwable;") ∈ wA := tb_in 368 (by decide +kernel) (by decide +kernel)
theorem mw_369 : (Cond.lays "java/lang/IllegalStateException" "java/lang/Throwable" "stackTrace" "[Ljava/lang/StackTraceElement;") ∈ wA := tb_in 369 (by decide +kernel) (by decide +kernel)
theorem mw_370 : (Cond.lays "java/lang/IllegalStateException" "java/lang/Throwable" "suppressedExceptions" "Ljava/util/List;") ∈ wA := tb_in 370 (by decide +kernel) (by decide +kernel)
theorem mw_371 : (Cond.lays "java/lang/IllegalStateException" "java/lang/Throwable" "detailMessage" "Ljava/lang/String;") ∈ wA := tb_in 371 (by decide +kernel) (by decide +kernel)
theorem mw_372 : (Cond.lays "java/lang/IllegalStateException" "java/lang/Throwable" "backtrace" "Ljava/lang/Object;") ∈ wA := tb_in 372 (by decide +kernel) (by decide +kernel)
theorem mw_373 : (Cond.methodLink "PixelFormula" (47 : Nat) ({ cls := "java/lang/IllegalStateException", name := "<init>", desc := "()V" } : MethodName)) ∈ wA := tb_in 373 (by decide +kernel) (by decide +kernel)
theorem mw_374 : (Cond.instanceMethod ({ cls := "java/lang/IllegalStateException", name := "<init>", desc := "()V" } : MethodName)) ∈ wA := tb_in 374 (by decide +kernel) (by decide +kernel)
theorem mw_375 : (Cond.code ({ cls := "java/lang/IllegalStateException", name := "<init>", desc := "()V" } : MethodName) prog_11_method_1_code (1 : Nat) (Option.none : Option FieldType)) ∈ wA := tb_in 375 (by decide +kernel) (by decide +kernel)
theorem mw_376 : (Cond.methodLink "java/lang/IllegalStateException" (1 : Nat) ({ cls := "java/lang/RuntimeException", name := "<init>", desc := "()V" } : MethodName)) ∈ wA := tb_in 376 (by decide +kernel) (by decide +kernel)
theorem mw_377 : (Cond.lays "java/lang/IllegalStateException" "java/lang/Throwable" "depth" "I") ∈ wA := tb_in 377 (by decide +kernel) (by decide +kernel)
theorem mw_379 : (Cond.methodLink "PixelFormulaLaw" (71 : Nat) ({ cls := "PixelFormulaLaw", name := "instruction", desc := "(LPixelFormula;II[J)I" } : MethodName)) ∈ wA := tb_in 379 (by decide +kernel) (by decide +kernel)
theorem mw_380 : (Cond.static ({ cls := "PixelFormulaLaw", name := "instruction", desc := "(LPixelFormula;II[J)I" } : MethodName)) ∈ wA := tb_in 380 (by decide +kernel) (by decide +kernel)
theorem mw_382 : (Cond.classLink "PixelFormulaLaw" (21 : Nat) "java/lang/IndexOutOfBoundsException") ∈ wA := tb_in 382 (by decide +kernel) (by decide +kernel)
theorem mw_383 : (Cond.methodLink "PixelFormulaLaw" (17 : Nat) ({ cls := "PixelFormula", name := "instruction", desc := "(II)I" } : MethodName)) ∈ wA := tb_in 383 (by decide +kernel) (by decide +kernel)
theorem mw_384 : (Cond.instanceMethod ({ cls := "PixelFormula", name := "instruction", desc := "(II)I" } : MethodName)) ∈ wA := tb_in 384 (by decide +kernel) (by decide +kernel)
theorem mw_385 : (Cond.selects "PixelFormula" ({ cls := "PixelFormula", name := "instruction", desc := "(II)I" } : MethodName) ({ cls := "PixelFormula", name := "instruction", desc := "(II)I" } : MethodName)) ∈ wA := tb_in 385 (by decide +kernel) (by decide +kernel)
theorem mw_386 : (Cond.code ({ cls := "PixelFormula", name := "instruction", desc := "(II)I" } : MethodName) prog_1_method_6_code (3 : Nat) (Option.some FieldType.int)) ∈ wA := tb_in 386 (by decide +kernel) (by decide +kernel)
theorem mw_387 : (Cond.methodLink "PixelFormula" (59 : Nat) ({ cls := "PixelFormula", name := "isInstruction", desc := "(I)Z" } : MethodName)) ∈ wA := tb_in 387 (by decide +kernel) (by decide +kernel)
theorem mw_389 : (Cond.instanceMethod ({ cls := "PixelFormula", name := "isInstruction", desc := "(I)Z" } : MethodName)) ∈ wA := tb_in 389 (by decide +kernel) (by decide +kernel)
theorem mw_390 : (Cond.code ({ cls := "PixelFormula", name := "isInstruction", desc := "(I)Z" } : MethodName) prog_1_method_14_code (2 : Nat) (Option.some FieldType.boolean)) ∈ wA := tb_in 390 (by decide +kernel) (by decide +kernel)
theorem mw_391 : (Cond.classLink "PixelFormula" (63 : Nat) "java/lang/IndexOutOfBoundsException") ∈ wA := tb_in 391 (by decide +kernel) (by decide +kernel)
theorem mw_392 : (Cond.instantiable "java/lang/IndexOutOfBoundsException" (6 : Nat)) ∈ wA := tb_in 392 (by decide +kernel) (by decide +kernel)
theorem mw_394 : (Cond.selects "java/lang/IndexOutOfBoundsException" ({ cls := "java/lang/Throwable", name := "fillInStackTrace", desc := "(I)Ljava/lang/Throwable;" } : MethodName) ({ cls := "java/lang/Throwable", name := "fillInStackTrace", desc := "(I)Ljava/lang/Throwable;" } : MethodName)) ∈ wA := tb_in 394 (by decide +kernel) (by decide +kernel)
theorem mw_395 : (Cond.lays "java/lang/IndexOutOfBoundsException" "java/lang/Throwable" "cause" "Ljava/lang/Throwable;") ∈ wA := tb_in 395 (by decide +kernel) (by decide +kernel)
theorem mw_396 : (Cond.lays "java/lang/IndexOutOfBoundsException" "java/lang/Throwable" "stackTrace" "[Ljava/lang/StackTraceElement;") ∈ wA := tb_in 396 (by decide +kernel) (by decide +kernel)
theorem mw_397 : (Cond.lays "java/lang/IndexOutOfBoundsException" "java/lang/Throwable" "suppressedExceptions" "Ljava/util/List;") ∈ wA := tb_in 397 (by decide +kernel) (by decide +kernel)
theorem mw_398 : (Cond.lays "java/lang/IndexOutOfBoundsException" "java/lang/Throwable" "detailMessage" "Ljava/lang/String;") ∈ wA := tb_in 398 (by decide +kernel) (by decide +kernel)
theorem mw_399 : (Cond.lays "java/lang/IndexOutOfBoundsException" "java/lang/Throwable" "backtrace" "Ljava/lang/Object;") ∈ wA := tb_in 399 (by decide +kernel) (by decide +kernel)
theorem mw_400 : (Cond.methodLink "PixelFormula" (65 : Nat) ({ cls := "java/lang/IndexOutOfBoundsException", name := "<init>", desc := "()V" } : MethodName)) ∈ wA := tb_in 400 (by decide +kernel) (by decide +kernel)
theorem mw_401 : (Cond.instanceMethod ({ cls := "java/lang/IndexOutOfBoundsException", name := "<init>", desc := "()V" } : MethodName)) ∈ wA := tb_in 401 (by decide +kernel) (by decide +kernel)
theorem mw_402 : (Cond.code ({ cls := "java/lang/IndexOutOfBoundsException", name := "<init>", desc := "()V" } : MethodName) prog_12_method_1_code (1 : Nat) (Option.none : Option FieldType)) ∈ wA := tb_in 402 (by decide +kernel) (by decide +kernel)
theorem mw_403 : (Cond.methodLink "java/lang/IndexOutOfBoundsException" (1 : Nat) ({ cls := "java/lang/RuntimeException", name := "<init>", desc := "()V" } : MethodName)) ∈ wA := tb_in 403 (by decide +kernel) (by decide +kernel)
theorem mw_404 : (Cond.lays "java/lang/IndexOutOfBoundsException" "java/lang/Throwable" "depth" "I") ∈ wA := tb_in 404 (by decide +kernel) (by decide +kernel)
theorem mw_406 : (Cond.methodLink "PixelFormulaLaw" (75 : Nat) ({ cls := "PixelFormulaLaw", name := "result", desc := "(LPixelFormula;I[J)I" } : MethodName)) ∈ wA := tb_in 406 (by decide +kernel) (by decide +kernel)
theorem mw_407 : (Cond.static ({ cls := "PixelFormulaLaw", name := "result", desc := "(LPixelFormula;I[J)I" } : MethodName)) ∈ wA := tb_in 407 (by decide +kernel) (by decide +kernel)
theorem mw_409 : (Cond.methodLink "PixelFormulaLaw" (23 : Nat) ({ cls := "PixelFormula", name := "result", desc := "(I)I" } : MethodName)) ∈ wA := tb_in 409 (by decide +kernel) (by decide +kernel)
theorem mw_410 : (Cond.instanceMethod ({ cls := "PixelFormula", name := "result", desc := "(I)I" } : MethodName)) ∈ wA := tb_in 410 (by decide +kernel) (by decide +kernel)
theorem mw_411 : (Cond.selects "PixelFormula" ({ cls := "PixelFormula", name := "result", desc := "(I)I" } : MethodName) ({ cls := "PixelFormula", name := "result", desc := "(I)I" } : MethodName)) ∈ wA := tb_in 411 (by decide +kernel) (by decide +kernel)
theorem mw_412 : (Cond.code ({ cls := "PixelFormula", name := "result", desc := "(I)I" } : MethodName) prog_1_method_7_code (2 : Nat) (Option.some FieldType.int)) ∈ wA := tb_in 412 (by decide +kernel) (by decide +kernel)
theorem mw_413 : (Cond.methodLink "PixelFormula" (75 : Nat) ({ cls := "PixelFormula", name := "hasCode", desc := "()Z" } : MethodName)) ∈ wA := tb_in 413 (by decide +kernel) (by decide +kernel)
theorem mw_415 : (Cond.instanceMethod ({ cls := "PixelFormula", name := "hasCode", desc := "()Z" } : MethodName)) ∈ wA := tb_in 415 (by decide +kernel) (by decide +kernel)
theorem mw_416 : (Cond.code ({ cls := "PixelFormula", name := "hasCode", desc := "()Z" } : MethodName) prog_1_method_13_code (1 : Nat) (Option.some FieldType.boolean)) ∈ wA := tb_in 416 (by decide +kernel) (by decide +kernel)
theorem mw_417 : (Cond.methodLink "PixelFormulaLaw" (78 : Nat) ({ cls := "PixelFormulaLaw", name := "typeOf", desc := "(LPixelFormula;I[J)I" } : MethodName)) ∈ wA := tb_in 417 (by decide +kernel) (by decide +kernel)
theorem mw_418 : (Cond.static ({ cls := "PixelFormulaLaw", name := "typeOf", desc := "(LPixelFormula;I[J)I" } : MethodName)) ∈ wA := tb_in 418 (by decide +kernel) (by decide +kernel)
theorem mw_420 : (Cond.methodLink "PixelFormulaLaw" (26 : Nat) ({ cls := "PixelFormula", name := "typeOf", desc := "(I)I" } : MethodName)) ∈ wA := tb_in 420 (by decide +kernel) (by decide +kernel)
theorem mw_421 : (Cond.instanceMethod ({ cls := "PixelFormula", name := "typeOf", desc := "(I)I" } : MethodName)) ∈ wA := tb_in 421 (by decide +kernel) (by decide +kernel)
theorem mw_422 : (Cond.selects "PixelFormula" ({ cls := "PixelFormula", name := "typeOf", desc := "(I)I" } : MethodName) ({ cls := "PixelFormula", name := "typeOf", desc := "(I)I" } : MethodName)) ∈ wA := tb_in 422 (by decide +kernel) (by decide +kernel)
theorem mw_423 : (Cond.code ({ cls := "PixelFormula", name := "typeOf", desc := "(I)I" } : MethodName) prog_1_method_8_code (2 : Nat) (Option.some FieldType.int)) ∈ wA := tb_in 423 (by decide +kernel) (by decide +kernel)
theorem mw_424 : (Cond.methodLink "PixelFormulaLaw" (81 : Nat) ({ cls := "PixelFormulaLaw", name := "value", desc := "(LPixelFormula;IIIII[J)I" } : MethodName)) ∈ wA := tb_in 424 (by decide +kernel) (by decide +kernel)
theorem mw_425 : (Cond.static ({ cls := "PixelFormulaLaw", name := "value", desc := "(LPixelFormula;IIIII[J)I" } : MethodName)) ∈ wA := tb_in 425 (by decide +kernel) (by decide +kernel)
theorem mw_427 : (Cond.methodLink "PixelFormulaLaw" (29 : Nat) ({ cls := "PixelFormula", name := "value", desc := "(IIIII)I" } : MethodName)) ∈ wA := tb_in 427 (by decide +kernel) (by decide +kernel)
theorem mw_428 : (Cond.instanceMethod ({ cls := "PixelFormula", name := "value", desc := "(IIIII)I" } : MethodName)) ∈ wA := tb_in 428 (by decide +kernel) (by decide +kernel)
theorem mw_429 : (Cond.selects "PixelFormula" ({ cls := "PixelFormula", name := "value", desc := "(IIIII)I" } : MethodName) ({ cls := "PixelFormula", name := "value", desc := "(IIIII)I" } : MethodName)) ∈ wA := tb_in 429 (by decide +kernel) (by decide +kernel)
theorem mw_430 : (Cond.code ({ cls := "PixelFormula", name := "value", desc := "(IIIII)I" } : MethodName) prog_1_method_9_code (6 : Nat) (Option.some FieldType.int)) ∈ wA := tb_in 430 (by decide +kernel) (by decide +kernel)
theorem mw_431 : (Cond.methodLink "PixelFormula" (85 : Nat) ({ cls := "PixelFormula", name := "isColor", desc := "(I)Z" } : MethodName)) ∈ wA := tb_in 431 (by decide +kernel) (by decide +kernel)
theorem mw_432 : (Cond.static ({ cls := "PixelFormula", name := "isColor", desc := "(I)Z" } : MethodName)) ∈ wA := tb_in 432 (by decide +kernel) (by decide +kernel)
theorem mw_433 : (Cond.code ({ cls := "PixelFormula", name := "isColor", desc := "(I)Z" } : MethodName) prog_1_method_16_code (1 : Nat) (Option.some FieldType.boolean)) ∈ wA := tb_in 433 (by decide +kernel) (by decide +kernel)
theorem mw_434 : (Cond.constant "PixelFormula" (104 : Nat) (16777215 : Int32)) ∈ wA := tb_in 434 (by decide +kernel) (by decide +kernel)
theorem mw_435 : (Cond.methodLink "PixelFormula" (88 : Nat) ({ cls := "PixelFormula$Machine", name := "work", desc := "(LPixelFormula$Code;IIII)V" } : MethodName)) ∈ wA := tb_in 435 (by decide +kernel) (by decide +kernel)
theorem mw_436 : (Cond.instanceMethod ({ cls := "PixelFormula$Machine", name := "work", desc := "(LPixelFormula$Code;IIII)V" } : MethodName)) ∈ wA := tb_in 436 (by decide +kernel) (by decide +kernel)
theorem mw_437 : (Cond.selects "PixelFormula$Machine" ({ cls := "PixelFormula$Machine", name := "work", desc := "(LPixelFormula$Code;IIII)V" } : MethodName) ({ cls := "PixelFormula$Machine", name := "work", desc := "(LPixelFormula$Code;IIII)V" } : MethodName)) ∈ wA := tb_in 437 (by decide +kernel) (by decide +kernel)
theorem mw_438 : (Cond.code ({ cls := "PixelFormula$Machine", name := "work", desc := "(LPixelFormula$Code;IIII)V" } : MethodName) prog_4_method_2_code (7 : Nat) (Option.none : Option FieldType)) ∈ wA := tb_in 438 (by decide +kernel) (by decide +kernel)
theorem mw_439 : (Cond.methodLink "PixelFormula$Machine" (33 : Nat) ({ cls := "PixelFormula$Machine", name := "make", desc := "(III)I" } : MethodName)) ∈ wA := tb_in 439 (by decide +kernel) (by decide +kernel)
theorem mw_441 : (Cond.instanceMethod ({ cls := "PixelFormula$Machine", name := "make", desc := "(III)I" } : MethodName)) ∈ wA := tb_in 441 (by decide +kernel) (by decide +kernel)
theorem mw_442 : (Cond.code ({ cls := "PixelFormula$Machine", name := "make", desc := "(III)I" } : MethodName) prog_4_method_3_code (4 : Nat) (Option.some FieldType.int)) ∈ wA := tb_in 442 (by decide +kernel) (by decide +kernel)
theorem mw_443 : (Cond.methodLink "PixelFormula$Machine" (37 : Nat) ({ cls := "PixelFormula$Numbers", name := "operate", desc := "(III)I" } : MethodName)) ∈ wA := tb_in 443 (by decide +kernel) (by decide +kernel)
theorem mw_444 : (Cond.static ({ cls := "PixelFormula$Numbers", name := "operate", desc := "(III)I" } : MethodName)) ∈ wA := tb_in 444 (by decide +kernel) (by decide +kernel)
theorem mw_445 : (Cond.code ({ cls := "PixelFormula$Numbers", name := "operate", desc := "(III)I" } : MethodName) prog_5_method_2_code (3 : Nat) (Option.some FieldType.int)) ∈ wA := tb_in 445 (by decide +kernel) (by decide +kernel)
theorem mw_446 : (Cond.methodLink "PixelFormula$Numbers" (9 : Nat) ({ cls := "PixelFormula$Numbers", name := "saturate", desc := "(J)I" } : MethodName)) ∈ wA := tb_in 446 (by decide +kernel) (by decide +kernel)
theorem mw_447 : (Cond.static ({ cls := "PixelFormula$Numbers", name := "saturate", desc := "(J)I" } : MethodName)) ∈ wA := tb_in 447 (by decide +kernel) (by decide +kernel)
theorem mw_448 : (Cond.code ({ cls := "PixelFormula$Numbers", name := "saturate", desc := "(J)I" } : MethodName) prog_5_method_4_code (2 : Nat) (Option.some FieldType.int)) ∈ wA := tb_in 448 (by decide +kernel) (by decide +kernel)
theorem mw_449 : (Cond.constantLong "PixelFormula$Numbers" (37 : Nat) (2147483647 : Int64)) ∈ wA := tb_in 449 (by decide +kernel) (by decide +kernel)
theorem mw_450 : (Cond.constant "PixelFormula$Numbers" (35 : Nat) (2147483647 : Int32)) ∈ wA := tb_in 450 (by decide +kernel) (by decide +kernel)
theorem mw_451 : (Cond.constantLong "PixelFormula$Numbers" (39 : Nat) (-2147483648 : Int64)) ∈ wA := tb_in 451 (by decide +kernel) (by decide +kernel)
theorem mw_452 : (Cond.constant "PixelFormula$Numbers" (36 : Nat) (-2147483648 : Int32)) ∈ wA := tb_in 452 (by decide +kernel) (by decide +kernel)
theorem mw_453 : (Cond.methodLink "PixelFormula$Numbers" (15 : Nat) ({ cls := "PixelFormula$Numbers", name := "divide", desc := "(II)I" } : MethodName)) ∈ wA := tb_in 453 (by decide +kernel) (by decide +kernel)
theorem mw_454 : (Cond.static ({ cls := "PixelFormula$Numbers", name := "divide", desc := "(II)I" } : MethodName)) ∈ wA := tb_in 454 (by decide +kernel) (by decide +kernel)
theorem mw_455 : (Cond.code ({ cls := "PixelFormula$Numbers", name := "divide", desc := "(II)I" } : MethodName) prog_5_method_3_code (2 : Nat) (Option.some FieldType.int)) ∈ wA := tb_in 455 (by decide +kernel) (by decide +kernel)
theorem mw_456 : (Cond.constantLong "PixelFormula$Numbers" (33 : Nat) (65536 : Int64)) ∈ wA := tb_in 456 (by decide +kernel) (by decide +kernel)
theorem mw_457 : (Cond.methodLink "PixelFormula$Numbers" (19 : Nat) ({ cls := "java/lang/Math", name := "min", desc := "(II)I" } : MethodName)) ∈ wA := tb_in 457 (by decide +kernel) (by decide +kernel)
theorem mw_458 : (Cond.static ({ cls := "java/lang/Math", name := "min", desc := "(II)I" } : MethodName)) ∈ wA := tb_in 458 (by decide +kernel) (by decide +kernel)
theorem mw_459 : (Cond.code ({ cls := "java/lang/Math", name := "min", desc := "(II)I" } : MethodName) prog_13_method_69_code (2 : Nat) (Option.some FieldType.int)) ∈ wA := tb_in 459 (by decide +kernel) (by decide +kernel)
theorem mw_460 : (Cond.methodLink "PixelFormula$Numbers" (24 : Nat) ({ cls := "java/lang/Math", name := "max", desc := "(II)I" } : MethodName)) ∈ wA := tb_in 460 (by decide +kernel) (by decide +kernel)
theorem mw_461 : (Cond.constant "PixelFormula$Numbers" (27 : Nat) (65536 : Int32)) ∈ wA := tb_in 461 (by decide +kernel) (by decide +kernel)
theorem mw_462 : (Cond.methodLink "PixelFormula$Numbers" (28 : Nat) ({ cls := "java/lang/Math", name := "abs", desc := "(J)J" } : MethodName)) ∈ wA := tb_in 462 (by decide +kernel) (by decide +kernel)
theorem mw_463 : (Cond.static ({ cls := "java/lang/Math", name := "abs", desc := "(J)J" } : MethodName)) ∈ wA := tb_in 463 (by decide +kernel) (by decide +kernel)
theorem mw_464 : (Cond.code ({ cls := "java/lang/Math", name := "abs", desc := "(J)J" } : MethodName) prog_13_method_61_code (2 : Nat) (Option.some FieldType.long)) ∈ wA := tb_in 464 (by decide +kernel) (by decide +kernel)
theorem mw_465 : (Cond.constant "PixelFormula$Numbers" (32 : Nat) (-65536 : Int32)) ∈ wA := tb_in 465 (by decide +kernel) (by decide +kernel)
theorem mw_466 : (Cond.methodLink "PixelFormulaLaw" (85 : Nat) ({ cls := "PixelFormulaLaw", name := "paint", desc := "(LPixelFormula;III)I" } : MethodName)) ∈ wA := tb_in 466 (by decide +kernel) (by decide +kernel)
theorem mw_467 : (Cond.static ({ cls := "PixelFormulaLaw", name := "paint", desc := "(LPixelFormula;III)I" } : MethodName)) ∈ wA := tb_in 467 (by decide +kernel) (by decide +kernel)
theorem mw_469 : (Cond.methodLink "PixelFormulaLaw" (33 : Nat) ({ cls := "PixelFormula", name := "paint", desc := "(III)V" } : MethodName)) ∈ wA := tb_in 469 (by decide +kernel) (by decide +kernel)
theorem mw_470 : (Cond.instanceMethod ({ cls := "PixelFormula", name := "paint", desc := "(III)V" } : MethodName)) ∈ wA := tb_in 470 (by decide +kernel) (by decide +kernel)
theorem mw_471 : (Cond.selects "PixelFormula" ({ cls := "PixelFormula", name := "paint", desc := "(III)V" } : MethodName) ({ cls := "PixelFormula", name := "paint", desc := "(III)V" } : MethodName)) ∈ wA := tb_in 471 (by decide +kernel) (by decide +kernel)
theorem mw_472 : (Cond.code ({ cls := "PixelFormula", name := "paint", desc := "(III)V" } : MethodName) prog_1_method_10_code (4 : Nat) (Option.none : Option FieldType)) ∈ wA := tb_in 472 (by decide +kernel) (by decide +kernel)
theorem mw_473 : (Cond.methodLink "PixelFormula" (95 : Nat) ({ cls := "PixelFormula", name := "isPoint", desc := "(II)Z" } : MethodName)) ∈ wA := tb_in 473 (by decide +kernel) (by decide +kernel)
theorem mw_474 : (Cond.static ({ cls := "PixelFormula", name := "isPoint", desc := "(II)Z" } : MethodName)) ∈ wA := tb_in 474 (by decide +kernel) (by decide +kernel)
theorem mw_475 : (Cond.code ({ cls := "PixelFormula", name := "isPoint", desc := "(II)Z" } : MethodName) prog_1_method_15_code (2 : Nat) (Option.some FieldType.boolean)) ∈ wA := tb_in 475 (by decide +kernel) (by decide +kernel)
theorem mw_476 : (Cond.methodLink "PixelFormulaLaw" (89 : Nat) ({ cls := "PixelFormulaLaw", name := "run", desc := "(LPixelFormula;I)I" } : MethodName)) ∈ wA := tb_in 476 (by decide +kernel) (by decide +kernel)
theorem mw_477 : (Cond.static ({ cls := "PixelFormulaLaw", name := "run", desc := "(LPixelFormula;I)I" } : MethodName)) ∈ wA := tb_in 477 (by decide +kernel) (by decide +kernel)
theorem mw_479 : (Cond.methodLink "PixelFormulaLaw" (37 : Nat) ({ cls := "PixelFormula", name := "run", desc := "(I)V" } : MethodName)) ∈ wA := tb_in 479 (by decide +kernel) (by decide +kernel)
theorem mw_480 : (Cond.instanceMethod ({ cls := "PixelFormula", name := "run", desc := "(I)V" } : MethodName)) ∈ wA := tb_in 480 (by decide +kernel) (by decide +kernel)
theorem mw_481 : (Cond.selects "PixelFormula" ({ cls := "PixelFormula", name := "run", desc := "(I)V" } : MethodName) ({ cls := "PixelFormula", name := "run", desc := "(I)V" } : MethodName)) ∈ wA := tb_in 481 (by decide +kernel) (by decide +kernel)
theorem mw_482 : (Cond.code ({ cls := "PixelFormula", name := "run", desc := "(I)V" } : MethodName) prog_1_method_11_code (5 : Nat) (Option.none : Option FieldType)) ∈ wA := tb_in 482 (by decide +kernel) (by decide +kernel)
theorem mw_483 : (Cond.constant "PixelFormula" (99 : Nat) (65536 : Int32)) ∈ wA := tb_in 483 (by decide +kernel) (by decide +kernel)
theorem mw_484 : (Cond.methodLink "PixelFormula" (100 : Nat) ({ cls := "PixelFormula$Machine", name := "colorOf", desc := "(LPixelFormula$Code;)I" } : MethodName)) ∈ wA := tb_in 484 (by decide +kernel) (by decide +kernel)
theorem mw_485 : (Cond.instanceMethod ({ cls := "PixelFormula$Machine", name := "colorOf", desc := "(LPixelFormula$Code;)I" } : MethodName)) ∈ wA := tb_in 485 (by decide +kernel) (by decide +kernel)
theorem mw_486 : (Cond.selects "PixelFormula$Machine" ({ cls := "PixelFormula$Machine", name := "colorOf", desc := "(LPixelFormula$Code;)I" } : MethodName) ({ cls := "PixelFormula$Machine", name := "colorOf", desc := "(LPixelFormula$Code;)I" } : MethodName)) ∈ wA := tb_in 486 (by decide +kernel) (by decide +kernel)
theorem mw_487 : (Cond.code ({ cls := "PixelFormula$Machine", name := "colorOf", desc := "(LPixelFormula$Code;)I" } : MethodName) prog_4_method_4_code (5 : Nat) (Option.some FieldType.int)) ∈ wA := tb_in 487 (by decide +kernel) (by decide +kernel)
theorem mw_488 : (Cond.methodLink "PixelFormula$Machine" (45 : Nat) ({ cls := "java/lang/Math", name := "min", desc := "(II)I" } : MethodName)) ∈ wA := tb_in 488 (by decide +kernel) (by decide +kernel)
theorem mw_489 : (Cond.methodLink "PixelFormula$Machine" (51 : Nat) ({ cls := "java/lang/Math", name := "max", desc := "(II)I" } : MethodName)) ∈ wA := tb_in 489 (by decide +kernel) (by decide +kernel)
theorem mw_490 : (Cond.methodLink "PixelFormulaLaw" (93 : Nat) ({ cls := "PixelFormulaLaw", name := "pixel", desc := "(LPixelFormula;II[J)I" } : MethodName)) ∈ wA := tb_in 490 (by decide +kernel) (by decide +kernel)
theorem mw_491 : (Cond.static ({ cls := "PixelFormulaLaw", name := "pixel", desc := "(LPixelFormula;II[J)I" } : MethodName)) ∈ wA := tb_in 491 (by decide +kernel) (by decide +kernel)
theorem mw_493 : (Cond.methodLink "PixelFormulaLaw" (41 : Nat) ({ cls := "PixelFormula", name := "pixel", desc := "(II)I" } : MethodName)) ∈ wA := tb_in 493 (by decide +kernel) (by decide +kernel)
theorem mw_494 : (Cond.instanceMethod ({ cls := "PixelFormula", name := "pixel", desc := "(II)I" } : MethodName)) ∈ wA := tb_in 494 (by decide +kernel) (by decide +kernel)
theorem mw_495 : (Cond.selects "PixelFormula" ({ cls := "PixelFormula", name := "pixel", desc := "(II)I" } : MethodName) ({ cls := "PixelFormula", name := "pixel", desc := "(II)I" } : MethodName)) ∈ wA := tb_in 495 (by decide +kernel) (by decide +kernel)
theorem mw_496 : (Cond.code ({ cls := "PixelFormula", name := "pixel", desc := "(II)I" } : MethodName) prog_1_method_12_code (3 : Nat) (Option.some FieldType.int)) ∈ wA := tb_in 496 (by decide +kernel) (by decide +kernel)
theorem mw_497 : (Cond.classLink "PixelFormulaLaw" (45 : Nat) "PixelFormulaModel") ∈ wA := tb_in 497 (by decide +kernel) (by decide +kernel)
theorem mw_498 : (Cond.instantiable "PixelFormulaModel" (29 : Nat)) ∈ wA := tb_in 498 (by decide +kernel) (by decide +kernel)
theorem mw_499 : (Cond.methodLink "PixelFormulaLaw" (47 : Nat) ({ cls := "PixelFormulaModel", name := "<init>", desc := "()V" } : MethodName)) ∈ wA := tb_in 499 (by decide +kernel) (by decide +kernel)
theorem mw_500 : (Cond.instanceMethod ({ cls := "PixelFormulaModel", name := "<init>", desc := "()V" } : MethodName)) ∈ wA := tb_in 500 (by decide +kernel) (by decide +kernel)
theorem mw_501 : (Cond.code ({ cls := "PixelFormulaModel", name := "<init>", desc := "()V" } : MethodName) prog_8_method_1_code (1 : Nat) (Option.none : Option FieldType)) ∈ wA := tb_in 501 (by decide +kernel) (by decide +kernel)
theorem mw_502 : (Cond.methodLink "PixelFormulaModel" (1 : Nat) ({ cls := "java/lang/Object", name := "<init>", desc := "()V" } : MethodName)) ∈ wA := tb_in 502 (by decide +kernel) (by decide +kernel)
theorem mw_503 : (Cond.fieldLink "PixelFormulaModel" (67 : Nat) "PixelFormulaModel" "code" "I") ∈ wA := tb_in 503 (by decide +kernel) (by decide +kernel)
theorem mw_504 : (Cond.fieldLink "PixelFormulaModel" (71 : Nat) "PixelFormulaModel" "length" "I") ∈ wA := tb_in 504 (by decide +kernel) (by decide +kernel)
theorem mw_505 : (Cond.fieldLink "PixelFormulaModel" (7 : Nat) "PixelFormulaModel" "text" "[I") ∈ wA := tb_in 505 (by decide +kernel) (by decide +kernel)
theorem mw_506 : (Cond.fieldLink "PixelFormulaModel" (192 : Nat) "PixelFormulaModel" "size" "I") ∈ wA := tb_in 506 (by decide +kernel) (by decide +kernel)
theorem mw_507 : (Cond.fieldLink "PixelFormulaModel" (13 : Nat) "PixelFormulaModel" "kinds" "[I") ∈ wA := tb_in 507 (by decide +kernel) (by decide +kernel)
theorem mw_508 : (Cond.fieldLink "PixelFormulaModel" (16 : Nat) "PixelFormulaModel" "firsts" "[I") ∈ wA := tb_in 508 (by decide +kernel) (by decide +kernel)
theorem mw_509 : (Cond.fieldLink "PixelFormulaModel" (19 : Nat) "PixelFormulaModel" "seconds" "[I") ∈ wA := tb_in 509 (by decide +kernel) (by decide +kernel)
theorem mw_510 : (Cond.fieldLink "PixelFormulaModel" (22 : Nat) "PixelFormulaModel" "results" "[I") ∈ wA := tb_in 510 (by decide +kernel) (by decide +kernel)
theorem mw_511 : (Cond.fieldLink "PixelFormulaModel" (25 : Nat) "PixelFormulaModel" "types" "[I") ∈ wA := tb_in 511 (by decide +kernel) (by decide +kernel)
theorem mw_512 : (Cond.fieldLink "PixelFormulaModel" (74 : Nat) "PixelFormulaModel" "draft" "I") ∈ wA := tb_in 512 (by decide +kernel) (by decide +kernel)
theorem mw_513 : (Cond.fieldLink "PixelFormulaModel" (28 : Nat) "PixelFormulaModel" "draftKinds" "[I") ∈ wA := tb_in 513 (by decide +kernel) (by decide +kernel)
theorem mw_514 : (Cond.fieldLink "PixelFormulaModel" (31 : Nat) "PixelFormulaModel" "draftFirsts" "[I") ∈ wA := tb_in 514 (by decide +kernel) (by decide +kernel)
theorem mw_515 : (Cond.fieldLink "PixelFormulaModel" (34 : Nat) "PixelFormulaModel" "draftSeconds" "[I") ∈ wA := tb_in 515 (by decide +kernel) (by decide +kernel)
theorem mw_516 : (Cond.fieldLink "PixelFormulaModel" (37 : Nat) "PixelFormulaModel" "draftTypes" "[I") ∈ wA := tb_in 516 (by decide +kernel) (by decide +kernel)
theorem mw_517 : (Cond.fieldLink "PixelFormulaModel" (40 : Nat) "PixelFormulaModel" "variables" "[I") ∈ wA := tb_in 517 (by decide +kernel) (by decide +kernel)
theorem mw_518 : (Cond.fieldLink "PixelFormulaModel" (133 : Nat) "PixelFormulaModel" "at" "I") ∈ wA := tb_in 518 (by decide +kernel) (by decide +kernel)
theorem mw_519 : (Cond.fieldLink "PixelFormulaModel" (77 : Nat) "PixelFormulaModel" "wrong" "Z") ∈ wA := tb_in 519 (by decide +kernel) (by decide +kernel)
theorem mw_520 : (Cond.fieldLink "PixelFormulaModel" (81 : Nat) "PixelFormulaModel" "values" "I") ∈ wA := tb_in 520 (by decide +kernel) (by decide +kernel)
theorem mw_521 : (Cond.fieldLink "PixelFormulaModel" (43 : Nat) "PixelFormulaModel" "valueTypes" "[I") ∈ wA := tb_in 521 (by decide +kernel) (by decide +kernel)
theorem mw_522 : (Cond.fieldLink "PixelFormulaModel" (46 : Nat) "PixelFormulaModel" "numbers" "[I") ∈ wA := tb_in 522 (by decide +kernel) (by decide +kernel)
theorem mw_523 : (Cond.fieldLink "PixelFormulaModel" (106 : Nat) "PixelFormulaModel" "waiting" "I") ∈ wA := tb_in 523 (by decide +kernel) (by decide +kernel)
theorem mw_524 : (Cond.fieldLink "PixelFormulaModel" (49 : Nat) "PixelFormulaModel" "waits" "[I") ∈ wA := tb_in 524 (by decide +kernel) (by decide +kernel)
theorem mw_525 : (Cond.fieldLink "PixelFormulaModel" (52 : Nat) "PixelFormulaModel" "arguments" "[I") ∈ wA := tb_in 525 (by decide +kernel) (by decide +kernel)
theorem mw_526 : (Cond.fieldLink "PixelFormulaModel" (146 : Nat) "PixelFormulaModel" "open" "I") ∈ wA := tb_in 526 (by decide +kernel) (by decide +kernel)
theorem mw_527 : (Cond.fieldLink "PixelFormulaModel" (180 : Nat) "PixelFormulaModel" "target" "I") ∈ wA := tb_in 527 (by decide +kernel) (by decide +kernel)
theorem mw_528 : (Cond.fieldLink "PixelFormulaModel" (55 : Nat) "PixelFormulaModel" "made" "[I") ∈ wA := tb_in 528 (by decide +kernel) (by decide +kernel)
theorem mw_529 : (Cond.fieldLink "PixelFormulaModel" (58 : Nat) "PixelFormulaModel" "picture" "[I") ∈ wA := tb_in 529 (by decide +kernel) (by decide +kernel)
theorem mw_530 : (Cond.fieldLink "PixelFormulaModel" (61 : Nat) "PixelFormulaModel" "next" "[I") ∈ wA := tb_in 530 (by decide +kernel) (by decide +kernel)
theorem mw_531 : (Cond.fieldLink "PixelFormulaModel" (64 : Nat) "PixelFormulaModel" "worth" "[I") ∈ wA := tb_in 531 (by decide +kernel) (by decide +kernel)
theorem mw_532 : (Cond.lays "PixelFormulaModel" "PixelFormulaModel" "code" "I") ∈ wA := tb_in 532 (by decide +kernel) (by decide +kernel)
theorem mw_534 : (Cond.lays "PixelFormulaModel" "PixelFormulaModel" "length" "I") ∈ wA := tb_in 534 (by decide +kernel) (by decide +kernel)
theorem mw_536 : (Cond.laysFinal "PixelFormulaModel" "PixelFormulaModel" "text" "[I") ∈ wA := tb_in 536 (by decide +kernel) (by decide +kernel)
theorem mw_538 : (Cond.lays "PixelFormulaModel" "PixelFormulaModel" "size" "I") ∈ wA := tb_in 538 (by decide +kernel) (by decide +kernel)
theorem mw_540 : (Cond.laysFinal "PixelFormulaModel" "PixelFormulaModel" "kinds" "[I") ∈ wA := tb_in 540 (by decide +kernel) (by decide +kernel)
theorem mw_542 : (Cond.laysFinal "PixelFormulaModel" "PixelFormulaModel" "firsts" "[I") ∈ wA := tb_in 542 (by decide +kernel) (by decide +kernel)
theorem mw_544 : (Cond.laysFinal "PixelFormulaModel" "PixelFormulaModel" "seconds" "[I") ∈ wA := tb_in 544 (by decide +kernel) (by decide +kernel)
theorem mw_546 : (Cond.laysFinal "PixelFormulaModel" "PixelFormulaModel" "results" "[I") ∈ wA := tb_in 546 (by decide +kernel) (by decide +kernel)
theorem mw_548 : (Cond.laysFinal "PixelFormulaModel" "PixelFormulaModel" "types" "[I") ∈ wA := tb_in 548 (by decide +kernel) (by decide +kernel)
theorem mw_550 : (Cond.lays "PixelFormulaModel" "PixelFormulaModel" "draft" "I") ∈ wA := tb_in 550 (by decide +kernel) (by decide +kernel)
theorem mw_552 : (Cond.laysFinal "PixelFormulaModel" "PixelFormulaModel" "draftKinds" "[I") ∈ wA := tb_in 552 (by decide +kernel) (by decide +kernel)
theorem mw_554 : (Cond.laysFinal "PixelFormulaModel" "PixelFormulaModel" "draftFirsts" "[I") ∈ wA := tb_in 554 (by decide +kernel) (by decide +kernel)
theorem mw_556 : (Cond.laysFinal "PixelFormulaModel" "PixelFormulaModel" "draftSeconds" "[I") ∈ wA := tb_in 556 (by decide +kernel) (by decide +kernel)
theorem mw_558 : (Cond.laysFinal "PixelFormulaModel" "PixelFormulaModel" "draftTypes" "[I") ∈ wA := tb_in 558 (by decide +kernel) (by decide +kernel)
theorem mw_560 : (Cond.laysFinal "PixelFormulaModel" "PixelFormulaModel" "variables" "[I") ∈ wA := tb_in 560 (by decide +kernel) (by decide +kernel)
theorem mw_562 : (Cond.lays "PixelFormulaModel" "PixelFormulaModel" "at" "I") ∈ wA := tb_in 562 (by decide +kernel) (by decide +kernel)
theorem mw_564 : (Cond.lays "PixelFormulaModel" "PixelFormulaModel" "wrong" "Z") ∈ wA := tb_in 564 (by decide +kernel) (by decide +kernel)
theorem mw_566 : (Cond.lays "PixelFormulaModel" "PixelFormulaModel" "values" "I") ∈ wA := tb_in 566 (by decide +kernel) (by decide +kernel)
theorem mw_568 : (Cond.laysFinal "PixelFormulaModel" "PixelFormulaModel" "valueTypes" "[I") ∈ wA := tb_in 568 (by decide +kernel) (by decide +kernel)
theorem mw_570 : (Cond.laysFinal "PixelFormulaModel" "PixelFormulaModel" "numbers" "[I") ∈ wA := tb_in 570 (by decide +kernel) (by decide +kernel)
theorem mw_572 : (Cond.lays "PixelFormulaModel" "PixelFormulaModel" "waiting" "I") ∈ wA := tb_in 572 (by decide +kernel) (by decide +kernel)
theorem mw_574 : (Cond.laysFinal "PixelFormulaModel" "PixelFormulaModel" "waits" "[I") ∈ wA := tb_in 574 (by decide +kernel) (by decide +kernel)
theorem mw_576 : (Cond.laysFinal "PixelFormulaModel" "PixelFormulaModel" "arguments" "[I") ∈ wA := tb_in 576 (by decide +kernel) (by decide +kernel)
theorem mw_578 : (Cond.lays "PixelFormulaModel" "PixelFormulaModel" "open" "I") ∈ wA := tb_in 578 (by decide +kernel) (by decide +kernel)
theorem mw_580 : (Cond.lays "PixelFormulaModel" "PixelFormulaModel" "target" "I") ∈ wA := tb_in 580 (by decide +kernel) (by decide +kernel)
theorem mw_582 : (Cond.laysFinal "PixelFormulaModel" "PixelFormulaModel" "made" "[I") ∈ wA := tb_in 582 (by decide +kernel) (by decide +kernel)
theorem mw_584 : (Cond.laysFinal "PixelFormulaModel" "PixelFormulaModel" "picture" "[I") ∈ wA := tb_in 584 (by decide +kernel) (by decide +kernel)
theorem mw_586 : (Cond.laysFinal "PixelFormulaModel" "PixelFormulaModel" "next" "[I") ∈ wA := tb_in 586 (by decide +kernel) (by decide +kernel)
theorem mw_588 : (Cond.laysFinal "PixelFormulaModel" "PixelFormulaModel" "worth" "[I") ∈ wA := tb_in 588 (by decide +kernel) (by decide +kernel)
theorem mw_591 : (Cond.methodLink "PixelFormulaLaw" (54 : Nat) ({ cls := "PixelFormulaModel", name := "thrown", desc := "()I" } : MethodName)) ∈ wA := tb_in 591 (by decide +kernel) (by decide +kernel)
theorem mw_592 : (Cond.instanceMethod ({ cls := "PixelFormulaModel", name := "thrown", desc := "()I" } : MethodName)) ∈ wA := tb_in 592 (by decide +kernel) (by decide +kernel)
theorem mw_593 : (Cond.selects "PixelFormulaModel" ({ cls := "PixelFormulaModel", name := "thrown", desc := "()I" } : MethodName) ({ cls := "PixelFormulaModel", name := "thrown", desc := "()I" } : MethodName)) ∈ wA := tb_in 593 (by decide +kernel) (by decide +kernel)
theorem mw_594 : (Cond.code ({ cls := "PixelFormulaModel", name := "thrown", desc := "()I" } : MethodName) prog_8_method_2_code (1 : Nat) (Option.some FieldType.int)) ∈ wA := tb_in 594 (by decide +kernel) (by decide +kernel)
theorem mw_595 : (Cond.methodLink "PixelFormulaLaw" (53 : Nat) ({ cls := "PixelFormulaModel", name := "type", desc := "(I)I" } : MethodName)) ∈ wA := tb_in 595 (by decide +kernel) (by decide +kernel)
theorem mw_596 : (Cond.instanceMethod ({ cls := "PixelFormulaModel", name := "type", desc := "(I)I" } : MethodName)) ∈ wA := tb_in 596 (by decide +kernel) (by decide +kernel)
theorem mw_597 : (Cond.selects "PixelFormulaModel" ({ cls := "PixelFormulaModel", name := "type", desc := "(I)I" } : MethodName) ({ cls := "PixelFormulaModel", name := "type", desc := "(I)I" } : MethodName)) ∈ wA := tb_in 597 (by decide +kernel) (by decide +kernel)
theorem mw_598 : (Cond.code ({ cls := "PixelFormulaModel", name := "type", desc := "(I)I" } : MethodName) prog_8_method_3_code (5 : Nat) (Option.some FieldType.int)) ∈ wA := tb_in 598 (by decide +kernel) (by decide +kernel)
theorem mw_599 : (Cond.methodLink "PixelFormulaLaw" (61 : Nat) ({ cls := "PixelFormulaModel", name := "erase", desc := "()V" } : MethodName)) ∈ wA := tb_in 599 (by decide +kernel) (by decide +kernel)
theorem mw_600 : (Cond.instanceMethod ({ cls := "PixelFormulaModel", name := "erase", desc := "()V" } : MethodName)) ∈ wA := tb_in 600 (by decide +kernel) (by decide +kernel)
theorem mw_601 : (Cond.selects "PixelFormulaModel" ({ cls := "PixelFormulaModel", name := "erase", desc := "()V" } : MethodName) ({ cls := "PixelFormulaModel", name := "erase", desc := "()V" } : MethodName)) ∈ wA := tb_in 601 (by decide +kernel) (by decide +kernel)
theorem mw_602 : (Cond.code ({ cls := "PixelFormulaModel", name := "erase", desc := "()V" } : MethodName) prog_8_method_4_code (1 : Nat) (Option.none : Option FieldType)) ∈ wA := tb_in 602 (by decide +kernel) (by decide +kernel)
theorem mw_603 : (Cond.methodLink "PixelFormulaLaw" (66 : Nat) ({ cls := "PixelFormulaModel", name := "compile", desc := "()Z" } : MethodName)) ∈ wA := tb_in 603 (by decide +kernel) (by decide +kernel)
theorem mw_604 : (Cond.instanceMethod ({ cls := "PixelFormulaModel", name := "compile", desc := "()Z" } : MethodName)) ∈ wA := tb_in 604 (by decide +kernel) (by decide +kernel)
theorem mw_605 : (Cond.selects "PixelFormulaModel" ({ cls := "PixelFormulaModel", name := "compile", desc := "()Z" } : MethodName) ({ cls := "PixelFormulaModel", name := "compile", desc := "()Z" } : MethodName)) ∈ wA := tb_in 605 (by decide +kernel) (by decide +kernel)
theorem mw_606 : (Cond.code ({ cls := "PixelFormulaModel", name := "compile", desc := "()Z" } : MethodName) prog_8_method_36_code (2 : Nat) (Option.some FieldType.boolean)) ∈ wA := tb_in 606 (by decide +kernel) (by decide +kernel)
theorem mw_607 : (Cond.methodLink "PixelFormulaModel" (186 : Nat) ({ cls := "PixelFormulaModel", name := "begin", desc := "()V" } : MethodName)) ∈ wA := tb_in 607 (by decide +kernel) (by decide +kernel)
theorem mw_609 : (Cond.instanceMethod ({ cls := "PixelFormulaModel", name := "begin", desc := "()V" } : MethodName)) ∈ wA := tb_in 609 (by decide +kernel) (by decide +kernel)
theorem mw_610 : (Cond.code ({ cls := "PixelFormulaModel", name := "begin", desc := "()V" } : MethodName) prog_8_method_34_code (2 : Nat) (Option.none : Option FieldType)) ∈ wA := tb_in 610 (by decide +kernel) (by decide +kernel)
theorem mw_611 : (Cond.methodLink "PixelFormulaModel" (136 : Nat) ({ cls := "PixelFormulaModel", name := "look", desc := "(I)I" } : MethodName)) ∈ wA := tb_in 611 (by decide +kernel) (by decide +kernel)
theorem mw_613 : (Cond.instanceMethod ({ cls := "PixelFormulaModel", name := "look", desc := "(I)I" } : MethodName)) ∈ wA := tb_in 613 (by decide +kernel) (by decide +kernel)
theorem mw_614 : (Cond.code ({ cls := "PixelFormulaModel", name := "look", desc := "(I)I" } : MethodName) prog_8_method_5_code (2 : Nat) (Option.some FieldType.int)) ∈ wA := tb_in 614 (by decide +kernel) (by decide +kernel)
theorem mw_615 : (Cond.methodLink "PixelFormulaModel" (165 : Nat) ({ cls := "PixelFormulaModel", name := "isSmall", desc := "(I)Z" } : MethodName)) ∈ wA := tb_in 615 (by decide +kernel) (by decide +kernel)
theorem mw_616 : (Cond.static ({ cls := "PixelFormulaModel", name := "isSmall", desc := "(I)Z" } : MethodName)) ∈ wA := tb_in 616 (by decide +kernel) (by decide +kernel)
theorem mw_617 : (Cond.code ({ cls := "PixelFormulaModel", name := "isSmall", desc := "(I)Z" } : MethodName) prog_8_method_22_code (1 : Nat) (Option.some FieldType.boolean)) ∈ wA := tb_in 617 (by decide +kernel) (by decide +kernel)
theorem mw_618 : (Cond.methodLink "PixelFormulaModel" (189 : Nat) ({ cls := "PixelFormulaModel", name := "isGiven", desc := "(I)Z" } : MethodName)) ∈ wA := tb_in 618 (by decide +kernel) (by decide +kernel)
theorem mw_619 : (Cond.static ({ cls := "PixelFormulaModel", name := "isGiven", desc := "(I)Z" } : MethodName)) ∈ wA := tb_in 619 (by decide +kernel) (by decide +kernel)
theorem mw_620 : (Cond.code ({ cls := "PixelFormulaModel", name := "isGiven", desc := "(I)Z" } : MethodName) prog_8_method_24_code (1 : Nat) (Option.some FieldType.boolean)) ∈ wA := tb_in 620 (by decide +kernel) (by decide +kernel)
theorem mw_621 : (Cond.methodLink "PixelFormulaModel" (195 : Nat) ({ cls := "PixelFormulaModel", name := "operator", desc := "()Z" } : MethodName)) ∈ wA := tb_in 621 (by decide +kernel) (by decide +kernel)
theorem mw_623 : (Cond.instanceMethod ({ cls := "PixelFormulaModel", name := "operator", desc := "()Z" } : MethodName)) ∈ wA := tb_in 623 (by decide +kernel) (by decide +kernel)
theorem mw_624 : (Cond.code ({ cls := "PixelFormulaModel", name := "operator", desc := "()Z" } : MethodName) prog_8_method_32_code (2 : Nat) (Option.some FieldType.boolean)) ∈ wA := tb_in 624 (by decide +kernel) (by decide +kernel)
theorem mw_625 : (Cond.methodLink "PixelFormulaModel" (177 : Nat) ({ cls := "PixelFormulaModel", name := "close", desc := "()V" } : MethodName)) ∈ wA := tb_in 625 (by decide +kernel) (by decide +kernel)
theorem mw_627 : (Cond.instanceMethod ({ cls := "PixelFormulaModel", name := "close", desc := "()V" } : MethodName)) ∈ wA := tb_in 627 (by decide +kernel) (by decide +kernel)
theorem mw_628 : (Cond.code ({ cls := "PixelFormulaModel", name := "close", desc := "()V" } : MethodName) prog_8_method_31_code (2 : Nat) (Option.none : Option FieldType)) ∈ wA := tb_in 628 (by decide +kernel) (by decide +kernel)
theorem mw_629 : (Cond.methodLink "PixelFormulaModel" (171 : Nat) ({ cls := "PixelFormulaModel", name := "settle", desc := "(Z)V" } : MethodName)) ∈ wA := tb_in 629 (by decide +kernel) (by decide +kernel)
theorem mw_631 : (Cond.instanceMethod ({ cls := "PixelFormulaModel", name := "settle", desc := "(Z)V" } : MethodName)) ∈ wA := tb_in 631 (by decide +kernel) (by decide +kernel)
theorem mw_632 : (Cond.code ({ cls := "PixelFormulaModel", name := "settle", desc := "(Z)V" } : MethodName) prog_8_method_15_code (2 : Nat) (Option.none : Option FieldType)) ∈ wA := tb_in 632 (by decide +kernel) (by decide +kernel)
theorem mw_633 : (Cond.methodLink "PixelFormulaModel" (109 : Nat) ({ cls := "PixelFormulaModel", name := "top", desc := "()I" } : MethodName)) ∈ wA := tb_in 633 (by decide +kernel) (by decide +kernel)
theorem mw_635 : (Cond.instanceMethod ({ cls := "PixelFormulaModel", name := "top", desc := "()I" } : MethodName)) ∈ wA := tb_in 635 (by decide +kernel) (by decide +kernel)
theorem mw_636 : (Cond.code ({ cls := "PixelFormulaModel", name := "top", desc := "()I" } : MethodName) prog_8_method_14_code (1 : Nat) (Option.some FieldType.int)) ∈ wA := tb_in 636 (by decide +kernel) (by decide +kernel)
theorem mw_637 : (Cond.methodLink "PixelFormulaModel" (113 : Nat) ({ cls := "PixelFormulaModel", name := "isBinary", desc := "(I)Z" } : MethodName)) ∈ wA := tb_in 637 (by decide +kernel) (by decide +kernel)
theorem mw_638 : (Cond.static ({ cls := "PixelFormulaModel", name := "isBinary", desc := "(I)Z" } : MethodName)) ∈ wA := tb_in 638 (by decide +kernel) (by decide +kernel)
theorem mw_639 : (Cond.code ({ cls := "PixelFormulaModel", name := "isBinary", desc := "(I)Z" } : MethodName) prog_8_method_13_code (1 : Nat) (Option.some FieldType.boolean)) ∈ wA := tb_in 639 (by decide +kernel) (by decide +kernel)
theorem mw_640 : (Cond.methodLink "PixelFormulaModel" (117 : Nat) ({ cls := "PixelFormulaModel", name := "operate", desc := "(I)V" } : MethodName)) ∈ wA := tb_in 640 (by decide +kernel) (by decide +kernel)
theorem mw_642 : (Cond.instanceMethod ({ cls := "PixelFormulaModel", name := "operate", desc := "(I)V" } : MethodName)) ∈ wA := tb_in 642 (by decide +kernel) (by decide +kernel)
theorem mw_643 : (Cond.code ({ cls := "PixelFormulaModel", name := "operate", desc := "(I)V" } : MethodName) prog_8_method_12_code (6 : Nat) (Option.none : Option FieldType)) ∈ wA := tb_in 643 (by decide +kernel) (by decide +kernel)
theorem mw_644 : (Cond.methodLink "PixelFormulaModel" (99 : Nat) ({ cls := "PixelFormulaModel", name := "columns", desc := "(III)V" } : MethodName)) ∈ wA := tb_in 644 (by decide +kernel) (by decide +kernel)
theorem mw_646 : (Cond.instanceMethod ({ cls := "PixelFormulaModel", name := "columns", desc := "(III)V" } : MethodName)) ∈ wA := tb_in 646 (by decide +kernel) (by decide +kernel)
theorem mw_647 : (Cond.code ({ cls := "PixelFormulaModel", name := "columns", desc := "(III)V" } : MethodName) prog_8_method_11_code (8 : Nat) (Option.none : Option FieldType)) ∈ wA := tb_in 647 (by decide +kernel) (by decide +kernel)
theorem mw_648 : (Cond.methodLink "PixelFormulaModel" (88 : Nat) ({ cls := "PixelFormulaModel", name := "number", desc := "(II)I" } : MethodName)) ∈ wA := tb_in 648 (by decide +kernel) (by decide +kernel)
theorem mw_650 : (Cond.instanceMethod ({ cls := "PixelFormulaModel", name := "number", desc := "(II)I" } : MethodName)) ∈ wA := tb_in 650 (by decide +kernel) (by decide +kernel)
theorem mw_651 : (Cond.code ({ cls := "PixelFormulaModel", name := "number", desc := "(II)I" } : MethodName) prog_8_method_9_code (3 : Nat) (Option.some FieldType.int)) ∈ wA := tb_in 651 (by decide +kernel) (by decide +kernel)
theorem mw_652 : (Cond.methodLink "PixelFormulaModel" (92 : Nat) ({ cls := "PixelFormulaModel", name := "put", desc := "(III)I" } : MethodName)) ∈ wA := tb_in 652 (by decide +kernel) (by decide +kernel)
theorem mw_654 : (Cond.instanceMethod ({ cls := "PixelFormulaModel", name := "put", desc := "(III)I" } : MethodName)) ∈ wA := tb_in 654 (by decide +kernel) (by decide +kernel)
theorem mw_655 : (Cond.code ({ cls := "PixelFormulaModel", name := "put", desc := "(III)I" } : MethodName) prog_8_method_6_code (5 : Nat) (Option.some FieldType.int)) ∈ wA := tb_in 655 (by decide +kernel) (by decide +kernel)
theorem mw_656 : (Cond.methodLink "PixelFormulaModel" (96 : Nat) ({ cls := "PixelFormulaModel", name := "pushMade", desc := "(I)V" } : MethodName)) ∈ wA := tb_in 656 (by decide +kernel) (by decide +kernel)
theorem mw_658 : (Cond.instanceMethod ({ cls := "PixelFormulaModel", name := "pushMade", desc := "(I)V" } : MethodName)) ∈ wA := tb_in 658 (by decide +kernel) (by decide +kernel)
theorem mw_659 : (Cond.code ({ cls := "PixelFormulaModel", name := "pushMade", desc := "(I)V" } : MethodName) prog_8_method_8_code (3 : Nat) (Option.none : Option FieldType)) ∈ wA := tb_in 659 (by decide +kernel) (by decide +kernel)
theorem mw_660 : (Cond.methodLink "PixelFormulaModel" (84 : Nat) ({ cls := "PixelFormulaModel", name := "push", desc := "(I)V" } : MethodName)) ∈ wA := tb_in 660 (by decide +kernel) (by decide +kernel)
theorem mw_662 : (Cond.instanceMethod ({ cls := "PixelFormulaModel", name := "push", desc := "(I)V" } : MethodName)) ∈ wA := tb_in 662 (by decide +kernel) (by decide +kernel)
theorem mw_663 : (Cond.code ({ cls := "PixelFormulaModel", name := "push", desc := "(I)V" } : MethodName) prog_8_method_7_code (2 : Nat) (Option.none : Option FieldType)) ∈ wA := tb_in 663 (by decide +kernel) (by decide +kernel)
theorem mw_664 : (Cond.methodLink "PixelFormulaModel" (103 : Nat) ({ cls := "PixelFormulaModel", name := "pairwise", desc := "(III)V" } : MethodName)) ∈ wA := tb_in 664 (by decide +kernel) (by decide +kernel)
theorem mw_666 : (Cond.instanceMethod ({ cls := "PixelFormulaModel", name := "pairwise", desc := "(III)V" } : MethodName)) ∈ wA := tb_in 666 (by decide +kernel) (by decide +kernel)
theorem mw_667 : (Cond.code ({ cls := "PixelFormulaModel", name := "pairwise", desc := "(III)V" } : MethodName) prog_8_method_10_code (8 : Nat) (Option.none : Option FieldType)) ∈ wA := tb_in 667 (by decide +kernel) (by decide +kernel)
theorem mw_668 : (Cond.methodLink "PixelFormulaModel" (155 : Nat) ({ cls := "PixelFormulaModel", name := "isFunction", desc := "(I)Z" } : MethodName)) ∈ wA := tb_in 668 (by decide +kernel) (by decide +kernel)
theorem mw_669 : (Cond.static ({ cls := "PixelFormulaModel", name := "isFunction", desc := "(I)Z" } : MethodName)) ∈ wA := tb_in 669 (by decide +kernel) (by decide +kernel)
theorem mw_670 : (Cond.code ({ cls := "PixelFormulaModel", name := "isFunction", desc := "(I)Z" } : MethodName) prog_8_method_23_code (1 : Nat) (Option.some FieldType.boolean)) ∈ wA := tb_in 670 (by decide +kernel) (by decide +kernel)
theorem mw_671 : (Cond.methodLink "PixelFormulaModel" (174 : Nat) ({ cls := "PixelFormulaModel", name := "call", desc := "(II)V" } : MethodName)) ∈ wA := tb_in 671 (by decide +kernel) (by decide +kernel)
theorem mw_673 : (Cond.instanceMethod ({ cls := "PixelFormulaModel", name := "call", desc := "(II)V" } : MethodName)) ∈ wA := tb_in 673 (by decide +kernel) (by decide +kernel)
theorem mw_674 : (Cond.code ({ cls := "PixelFormulaModel", name := "call", desc := "(II)V" } : MethodName) prog_8_method_20_code (5 : Nat) (Option.none : Option FieldType)) ∈ wA := tb_in 674 (by decide +kernel) (by decide +kernel)
theorem mw_675 : (Cond.methodLink "PixelFormulaModel" (120 : Nat) ({ cls := "PixelFormulaModel", name := "each", desc := "(I)V" } : MethodName)) ∈ wA := tb_in 675 (by decide +kernel) (by decide +kernel)
theorem mw_677 : (Cond.instanceMethod ({ cls := "PixelFormulaModel", name := "each", desc := "(I)V" } : MethodName)) ∈ wA := tb_in 677 (by decide +kernel) (by decide +kernel)
theorem mw_678 : (Cond.code ({ cls := "PixelFormulaModel", name := "each", desc := "(I)V" } : MethodName) prog_8_method_16_code (4 : Nat) (Option.none : Option FieldType)) ∈ wA := tb_in 678 (by decide +kernel) (by decide +kernel)
theorem mw_679 : (Cond.methodLink "PixelFormulaModel" (123 : Nat) ({ cls := "PixelFormulaModel", name := "dot", desc := "(II)V" } : MethodName)) ∈ wA := tb_in 679 (by decide +kernel) (by decide +kernel)
theorem mw_681 : (Cond.instanceMethod ({ cls := "PixelFormulaModel", name := "dot", desc := "(II)V" } : MethodName)) ∈ wA := tb_in 681 (by decide +kernel) (by decide +kernel)
theorem mw_682 : (Cond.code ({ cls := "PixelFormulaModel", name := "dot", desc := "(II)V" } : MethodName) prog_8_method_17_code (7 : Nat) (Option.none : Option FieldType)) ∈ wA := tb_in 682 (by decide +kernel) (by decide +kernel)
theorem mw_683 : (Cond.methodLink "PixelFormulaModel" (127 : Nat) ({ cls := "PixelFormulaModel", name := "join", desc := "(I)V" } : MethodName)) ∈ wA := tb_in 683 (by decide +kernel) (by decide +kernel)
theorem mw_685 : (Cond.instanceMethod ({ cls := "PixelFormulaModel", name := "join", desc := "(I)V" } : MethodName)) ∈ wA := tb_in 685 (by decide +kernel) (by decide +kernel)
theorem mw_686 : (Cond.code ({ cls := "PixelFormulaModel", name := "join", desc := "(I)V" } : MethodName) prog_8_method_18_code (7 : Nat) (Option.none : Option FieldType)) ∈ wA := tb_in 686 (by decide +kernel) (by decide +kernel)
theorem mw_687 : (Cond.methodLink "PixelFormulaModel" (130 : Nat) ({ cls := "PixelFormulaModel", name := "matrix", desc := "(II)V" } : MethodName)) ∈ wA := tb_in 687 (by decide +kernel) (by decide +kernel)
theorem mw_689 : (Cond.instanceMethod ({ cls := "PixelFormulaModel", name := "matrix", desc := "(II)V" } : MethodName)) ∈ wA := tb_in 689 (by decide +kernel) (by decide +kernel)
theorem mw_690 : (Cond.code ({ cls := "PixelFormulaModel", name := "matrix", desc := "(II)V" } : MethodName) prog_8_method_19_code (4 : Nat) (Option.none : Option FieldType)) ∈ wA := tb_in 690 (by decide +kernel) (by decide +kernel)
theorem mw_691 : (Cond.methodLink "PixelFormulaModel" (161 : Nat) ({ cls := "PixelFormulaModel", name := "finish", desc := "(Z)V" } : MethodName)) ∈ wA := tb_in 691 (by decide +kernel) (by decide +kernel)
theorem mw_693 : (Cond.instanceMethod ({ cls := "PixelFormulaModel", name := "finish", desc := "(Z)V" } : MethodName)) ∈ wA := tb_in 693 (by decide +kernel) (by decide +kernel)
theorem mw_694 : (Cond.code ({ cls := "PixelFormulaModel", name := "finish", desc := "(Z)V" } : MethodName) prog_8_method_27_code (5 : Nat) (Option.none : Option FieldType)) ∈ wA := tb_in 694 (by decide +kernel) (by decide +kernel)
theorem mw_695 : (Cond.methodLink "PixelFormulaModel" (149 : Nat) ({ cls := "PixelFormulaModel", name := "hold", desc := "(I)V" } : MethodName)) ∈ wA := tb_in 695 (by decide +kernel) (by decide +kernel)
theorem mw_697 : (Cond.instanceMethod ({ cls := "PixelFormulaModel", name := "hold", desc := "(I)V" } : MethodName)) ∈ wA := tb_in 697 (by decide +kernel) (by decide +kernel)
theorem mw_698 : (Cond.code ({ cls := "PixelFormulaModel", name := "hold", desc := "(I)V" } : MethodName) prog_8_method_28_code (2 : Nat) (Option.none : Option FieldType)) ∈ wA := tb_in 698 (by decide +kernel) (by decide +kernel)
theorem mw_699 : (Cond.methodLink "PixelFormulaModel" (183 : Nat) ({ cls := "PixelFormulaModel", name := "assign", desc := "()V" } : MethodName)) ∈ wA := tb_in 699 (by decide +kernel) (by decide +kernel)
theorem mw_701 : (Cond.instanceMethod ({ cls := "PixelFormulaModel", name := "assign", desc := "()V" } : MethodName)) ∈ wA := tb_in 701 (by decide +kernel) (by decide +kernel)
theorem mw_702 : (Cond.code ({ cls := "PixelFormulaModel", name := "assign", desc := "()V" } : MethodName) prog_8_method_33_code (2 : Nat) (Option.none : Option FieldType)) ∈ wA := tb_in 702 (by decide +kernel) (by decide +kernel)
theorem mw_703 : (Cond.methodLink "PixelFormulaModel" (199 : Nat) ({ cls := "PixelFormulaModel", name := "operand", desc := "()Z" } : MethodName)) ∈ wA := tb_in 703 (by decide +kernel) (by decide +kernel)
theorem mw_705 : (Cond.instanceMethod ({ cls := "PixelFormulaModel", name := "operand", desc := "()Z" } : MethodName)) ∈ wA := tb_in 705 (by decide +kernel) (by decide +kernel)
theorem mw_706 : (Cond.code ({ cls := "PixelFormulaModel", name := "operand", desc := "()Z" } : MethodName) prog_8_method_30_code (2 : Nat) (Option.some FieldType.boolean)) ∈ wA := tb_in 706 (by decide +kernel) (by decide +kernel)
theorem mw_707 : (Cond.methodLink "PixelFormulaModel" (152 : Nat) ({ cls := "PixelFormulaModel", name := "bracket", desc := "(I)V" } : MethodName)) ∈ wA := tb_in 707 (by decide +kernel) (by decide +kernel)
theorem mw_709 : (Cond.instanceMethod ({ cls := "PixelFormulaModel", name := "bracket", desc := "(I)V" } : MethodName)) ∈ wA := tb_in 709 (by decide +kernel) (by decide +kernel)
theorem mw_710 : (Cond.code ({ cls := "PixelFormulaModel", name := "bracket", desc := "(I)V" } : MethodName) prog_8_method_29_code (2 : Nat) (Option.none : Option FieldType)) ∈ wA := tb_in 710 (by decide +kernel) (by decide +kernel)
theorem mw_711 : (Cond.methodLink "PixelFormulaModel" (140 : Nat) ({ cls := "PixelFormulaModel", name := "isDigit", desc := "(I)Z" } : MethodName)) ∈ wA := tb_in 711 (by decide +kernel) (by decide +kernel)
theorem mw_712 : (Cond.static ({ cls := "PixelFormulaModel", name := "isDigit", desc := "(I)Z" } : MethodName)) ∈ wA := tb_in 712 (by decide +kernel) (by decide +kernel)
theorem mw_713 : (Cond.code ({ cls := "PixelFormulaModel", name := "isDigit", desc := "(I)Z" } : MethodName) prog_8_method_21_code (1 : Nat) (Option.some FieldType.boolean)) ∈ wA := tb_in 713 (by decide +kernel) (by decide +kernel)
theorem mw_714 : (Cond.methodLink "PixelFormulaModel" (158 : Nat) ({ cls := "PixelFormulaModel", name := "constant", desc := "()V" } : MethodName)) ∈ wA := tb_in 714 (by decide +kernel) (by decide +kernel)
theorem mw_716 : (Cond.instanceMethod ({ cls := "PixelFormulaModel", name := "constant", desc := "()V" } : MethodName)) ∈ wA := tb_in 716 (by decide +kernel) (by decide +kernel)
theorem mw_717 : (Cond.code ({ cls := "PixelFormulaModel", name := "constant", desc := "()V" } : MethodName) prog_8_method_25_code (5 : Nat) (Option.none : Option FieldType)) ∈ wA := tb_in 717 (by decide +kernel) (by decide +kernel)
theorem mw_718 : (Cond.constant "PixelFormulaModel" (143 : Nat) (65536 : Int32)) ∈ wA := tb_in 718 (by decide +kernel) (by decide +kernel)
theorem mw_719 : (Cond.constantLong "PixelFormulaModel" (144 : Nat) (65536 : Int64)) ∈ wA := tb_in 719 (by decide +kernel) (by decide +kernel)
theorem mw_720 : (Cond.methodLink "PixelFormulaModel" (168 : Nat) ({ cls := "PixelFormulaModel", name := "letter", desc := "()V" } : MethodName)) ∈ wA := tb_in 720 (by decide +kernel) (by decide +kernel)
theorem mw_722 : (Cond.instanceMethod ({ cls := "PixelFormulaModel", name := "letter", desc := "()V" } : MethodName)) ∈ wA := tb_in 722 (by decide +kernel) (by decide +kernel)
theorem mw_723 : (Cond.code ({ cls := "PixelFormulaModel", name := "letter", desc := "()V" } : MethodName) prog_8_method_26_code (3 : Nat) (Option.none : Option FieldType)) ∈ wA := tb_in 723 (by decide +kernel) (by decide +kernel)
theorem mw_724 : (Cond.methodLink "PixelFormulaModel" (202 : Nat) ({ cls := "PixelFormulaModel", name := "keep", desc := "()V" } : MethodName)) ∈ wA := tb_in 724 (by decide +kernel) (by decide +kernel)
theorem mw_726 : (Cond.instanceMethod ({ cls := "PixelFormulaModel", name := "keep", desc := "()V" } : MethodName)) ∈ wA := tb_in 726 (by decide +kernel) (by decide +kernel)
theorem mw_727 : (Cond.code ({ cls := "PixelFormulaModel", name := "keep", desc := "()V" } : MethodName) prog_8_method_35_code (2 : Nat) (Option.none : Option FieldType)) ∈ wA := tb_in 727 (by decide +kernel) (by decide +kernel)
theorem mw_728 : (Cond.methodLink "PixelFormulaLaw" (70 : Nat) ({ cls := "PixelFormulaModel", name := "size", desc := "()I" } : MethodName)) ∈ wA := tb_in 728 (by decide +kernel) (by decide +kernel)
theorem mw_729 : (Cond.instanceMethod ({ cls := "PixelFormulaModel", name := "size", desc := "()I" } : MethodName)) ∈ wA := tb_in 729 (by decide +kernel) (by decide +kernel)
theorem mw_730 : (Cond.selects "PixelFormulaModel" ({ cls := "PixelFormulaModel", name := "size", desc := "()I" } : MethodName) ({ cls := "PixelFormulaModel", name := "size", desc := "()I" } : MethodName)) ∈ wA := tb_in 730 (by decide +kernel) (by decide +kernel)
theorem mw_731 : (Cond.code ({ cls := "PixelFormulaModel", name := "size", desc := "()I" } : MethodName) prog_8_method_37_code (1 : Nat) (Option.some FieldType.int)) ∈ wA := tb_in 731 (by decide +kernel) (by decide +kernel)
theorem mw_732 : (Cond.methodLink "PixelFormulaLaw" (74 : Nat) ({ cls := "PixelFormulaModel", name := "instruction", desc := "(II)I" } : MethodName)) ∈ wA := tb_in 732 (by decide +kernel) (by decide +kernel)
theorem mw_733 : (Cond.instanceMethod ({ cls := "PixelFormulaModel", name := "instruction", desc := "(II)I" } : MethodName)) ∈ wA := tb_in 733 (by decide +kernel) (by decide +kernel)
theorem mw_734 : (Cond.selects "PixelFormulaModel" ({ cls := "PixelFormulaModel", name := "instruction", desc := "(II)I" } : MethodName) ({ cls := "PixelFormulaModel", name := "instruction", desc := "(II)I" } : MethodName)) ∈ wA := tb_in 734 (by decide +kernel) (by decide +kernel)
theorem mw_735 : (Cond.code ({ cls := "PixelFormulaModel", name := "instruction", desc := "(II)I" } : MethodName) prog_8_method_38_code (3 : Nat) (Option.some FieldType.int)) ∈ wA := tb_in 735 (by decide +kernel) (by decide +kernel)
theorem mw_736 : (Cond.methodLink "PixelFormulaLaw" (77 : Nat) ({ cls := "PixelFormulaModel", name := "result", desc := "(I)I" } : MethodName)) ∈ wA := tb_in 736 (by decide +kernel) (by decide +kernel)
theorem mw_737 : (Cond.instanceMethod ({ cls := "PixelFormulaModel", name := "result", desc := "(I)I" } : MethodName)) ∈ wA := tb_in 737 (by decide +kernel) (by decide +kernel)
theorem mw_738 : (Cond.selects "PixelFormulaModel" ({ cls := "PixelFormulaModel", name := "result", desc := "(I)I" } : MethodName) ({ cls := "PixelFormulaModel", name := "result", desc := "(I)I" } : MethodName)) ∈ wA := tb_in 738 (by decide +kernel) (by decide +kernel)
theorem mw_739 : (Cond.code ({ cls := "PixelFormulaModel", name := "result", desc := "(I)I" } : MethodName) prog_8_method_39_code (2 : Nat) (Option.some FieldType.int)) ∈ wA := tb_in 739 (by decide +kernel) (by decide +kernel)
theorem mw_740 : (Cond.methodLink "PixelFormulaLaw" (80 : Nat) ({ cls := "PixelFormulaModel", name := "typeOf", desc := "(I)I" } : MethodName)) ∈ wA := tb_in 740 (by decide +kernel) (by decide +kernel)
theorem mw_741 : (Cond.instanceMethod ({ cls := "PixelFormulaModel", name := "typeOf", desc := "(I)I" } : MethodName)) ∈ wA := tb_in 741 (by decide +kernel) (by decide +kernel)
theorem mw_742 : (Cond.selects "PixelFormulaModel" ({ cls := "PixelFormulaModel", name := "typeOf", desc := "(I)I" } : MethodName) ({ cls := "PixelFormulaModel", name := "typeOf", desc := "(I)I" } : MethodName)) ∈ wA := tb_in 742 (by decide +kernel) (by decide +kernel)
theorem mw_743 : (Cond.code ({ cls := "PixelFormulaModel", name := "typeOf", desc := "(I)I" } : MethodName) prog_8_method_40_code (2 : Nat) (Option.some FieldType.int)) ∈ wA := tb_in 743 (by decide +kernel) (by decide +kernel)
theorem mw_744 : (Cond.methodLink "PixelFormulaLaw" (84 : Nat) ({ cls := "PixelFormulaModel", name := "value", desc := "(IIIII)I" } : MethodName)) ∈ wA := tb_in 744 (by decide +kernel) (by decide +kernel)
theorem mw_745 : (Cond.instanceMethod ({ cls := "PixelFormulaModel", name := "value", desc := "(IIIII)I" } : MethodName)) ∈ wA := tb_in 745 (by decide +kernel) (by decide +kernel)
theorem mw_746 : (Cond.selects "PixelFormulaModel" ({ cls := "PixelFormulaModel", name := "value", desc := "(IIIII)I" } : MethodName) ({ cls := "PixelFormulaModel", name := "value", desc := "(IIIII)I" } : MethodName)) ∈ wA := tb_in 746 (by decide +kernel) (by decide +kernel)
theorem mw_747 : (Cond.code ({ cls := "PixelFormulaModel", name := "value", desc := "(IIIII)I" } : MethodName) prog_8_method_46_code (6 : Nat) (Option.some FieldType.int)) ∈ wA := tb_in 747 (by decide +kernel) (by decide +kernel)
theorem mw_748 : (Cond.methodLink "PixelFormulaModel" (222 : Nat) ({ cls := "PixelFormulaModel", name := "noColor", desc := "(I)Z" } : MethodName)) ∈ wA := tb_in 748 (by decide +kernel) (by decide +kernel)
theorem mw_749 : (Cond.static ({ cls := "PixelFormulaModel", name := "noColor", desc := "(I)Z" } : MethodName)) ∈ wA := tb_in 749 (by decide +kernel) (by decide +kernel)
theorem mw_750 : (Cond.code ({ cls := "PixelFormulaModel", name := "noColor", desc := "(I)Z" } : MethodName) prog_8_method_45_code (1 : Nat) (Option.some FieldType.boolean)) ∈ wA := tb_in 750 (by decide +kernel) (by decide +kernel)
theorem mw_751 : (Cond.constant "PixelFormulaModel" (221 : Nat) (16777215 : Int32)) ∈ wA := tb_in 751 (by decide +kernel) (by decide +kernel)
theorem mw_752 : (Cond.methodLink "PixelFormulaModel" (225 : Nat) ({ cls := "PixelFormulaModel", name := "evaluate", desc := "(IIIII)V" } : MethodName)) ∈ wA := tb_in 752 (by decide +kernel) (by decide +kernel)
theorem mw_754 : (Cond.instanceMethod ({ cls := "PixelFormulaModel", name := "evaluate", desc := "(IIIII)V" } : MethodName)) ∈ wA := tb_in 754 (by decide +kernel) (by decide +kernel)
theorem mw_755 : (Cond.code ({ cls := "PixelFormulaModel", name := "evaluate", desc := "(IIIII)V" } : MethodName) prog_8_method_44_code (8 : Nat) (Option.none : Option FieldType)) ∈ wA := tb_in 755 (by decide +kernel) (by decide +kernel)
theorem mw_756 : (Cond.methodLink "PixelFormulaModel" (218 : Nat) ({ cls := "PixelFormulaModel", name := "done", desc := "(III)I" } : MethodName)) ∈ wA := tb_in 756 (by decide +kernel) (by decide +kernel)
theorem mw_757 : (Cond.static ({ cls := "PixelFormulaModel", name := "done", desc := "(III)I" } : MethodName)) ∈ wA := tb_in 757 (by decide +kernel) (by decide +kernel)
theorem mw_758 : (Cond.code ({ cls := "PixelFormulaModel", name := "done", desc := "(III)I" } : MethodName) prog_8_method_43_code (3 : Nat) (Option.some FieldType.int)) ∈ wA := tb_in 758 (by decide +kernel) (by decide +kernel)
theorem mw_759 : (Cond.methodLink "PixelFormulaModel" (211 : Nat) ({ cls := "PixelFormulaModel", name := "saturated", desc := "(J)I" } : MethodName)) ∈ wA := tb_in 759 (by decide +kernel) (by decide +kernel)
theorem mw_760 : (Cond.static ({ cls := "PixelFormulaModel", name := "saturated", desc := "(J)I" } : MethodName)) ∈ wA := tb_in 760 (by decide +kernel) (by decide +kernel)
theorem mw_761 : (Cond.code ({ cls := "PixelFormulaModel", name := "saturated", desc := "(J)I" } : MethodName) prog_8_method_41_code (2 : Nat) (Option.some FieldType.int)) ∈ wA := tb_in 761 (by decide +kernel) (by decide +kernel)
theorem mw_762 : (Cond.constantLong "PixelFormulaModel" (205 : Nat) (2147483647 : Int64)) ∈ wA := tb_in 762 (by decide +kernel) (by decide +kernel)
theorem mw_763 : (Cond.constant "PixelFormulaModel" (207 : Nat) (2147483647 : Int32)) ∈ wA := tb_in 763 (by decide +kernel) (by decide +kernel)
theorem mw_764 : (Cond.constantLong "PixelFormulaModel" (208 : Nat) (-2147483648 : Int64)) ∈ wA := tb_in 764 (by decide +kernel) (by decide +kernel)
theorem mw_765 : (Cond.constant "PixelFormulaModel" (210 : Nat) (-2147483648 : Int32)) ∈ wA := tb_in 765 (by decide +kernel) (by decide +kernel)
theorem mw_766 : (Cond.methodLink "PixelFormulaModel" (215 : Nat) ({ cls := "PixelFormulaModel", name := "divided", desc := "(II)I" } : MethodName)) ∈ wA := tb_in 766 (by decide +kernel) (by decide +kernel)
theorem mw_767 : (Cond.static ({ cls := "PixelFormulaModel", name := "divided", desc := "(II)I" } : MethodName)) ∈ wA := tb_in 767 (by decide +kernel) (by decide +kernel)
theorem mw_768 : (Cond.code ({ cls := "PixelFormulaModel", name := "divided", desc := "(II)I" } : MethodName) prog_8_method_42_code (2 : Nat) (Option.some FieldType.int)) ∈ wA := tb_in 768 (by decide +kernel) (by decide +kernel)
theorem mw_769 : (Cond.methodLink "PixelFormulaLaw" (88 : Nat) ({ cls := "PixelFormulaModel", name := "paint", desc := "(III)V" } : MethodName)) ∈ wA := tb_in 769 (by decide +kernel) (by decide +kernel)
theorem mw_770 : (Cond.instanceMethod ({ cls := "PixelFormulaModel", name := "paint", desc := "(III)V" } : MethodName)) ∈ wA := tb_in 770 (by decide +kernel) (by decide +kernel)
theorem mw_771 : (Cond.selects "PixelFormulaModel" ({ cls := "PixelFormulaModel", name := "paint", desc := "(III)V" } : MethodName) ({ cls := "PixelFormulaModel", name := "paint", desc := "(III)V" } : MethodName)) ∈ wA := tb_in 771 (by decide +kernel) (by decide +kernel)
theorem mw_772 : (Cond.code ({ cls := "PixelFormulaModel", name := "paint", desc := "(III)V" } : MethodName) prog_8_method_48_code (4 : Nat) (Option.none : Option FieldType)) ∈ wA := tb_in 772 (by decide +kernel) (by decide +kernel)
theorem mw_773 : (Cond.methodLink "PixelFormulaModel" (229 : Nat) ({ cls := "PixelFormulaModel", name := "noPoint", desc := "(II)Z" } : MethodName)) ∈ wA := tb_in 773 (by decide +kernel) (by decide +kernel)
theorem mw_774 : (Cond.static ({ cls := "PixelFormulaModel", name := "noPoint", desc := "(II)Z" } : MethodName)) ∈ wA := tb_in 774 (by decide +kernel) (by decide +kernel)
theorem mw_775 : (Cond.code ({ cls := "PixelFormulaModel", name := "noPoint", desc := "(II)Z" } : MethodName) prog_8_method_47_code (2 : Nat) (Option.some FieldType.boolean)) ∈ wA := tb_in 775 (by decide +kernel) (by decide +kernel)
theorem mw_776 : (Cond.methodLink "PixelFormulaLaw" (92 : Nat) ({ cls := "PixelFormulaModel", name := "run", desc := "(I)V" } : MethodName)) ∈ wA := tb_in 776 (by decide +kernel) (by decide +kernel)
theorem mw_777 : (Cond.instanceMethod ({ cls := "PixelFormulaModel", name := "run", desc := "(I)V" } : MethodName)) ∈ wA := tb_in 777 (by decide +kernel) (by decide +kernel)
theorem mw_778 : (Cond.selects "PixelFormulaModel" ({ cls := "PixelFormulaModel", name := "run", desc := "(I)V" } : MethodName) ({ cls := "PixelFormulaModel", name := "run", desc := "(I)V" } : MethodName)) ∈ wA := tb_in 778 (by decide +kernel) (by decide +kernel)
theorem mw_779 : (Cond.code ({ cls := "PixelFormulaModel", name := "run", desc := "(I)V" } : MethodName) prog_8_method_50_code (3 : Nat) (Option.none : Option FieldType)) ∈ wA := tb_in 779 (by decide +kernel) (by decide +kernel)
theorem mw_780 : (Cond.methodLink "PixelFormulaModel" (233 : Nat) ({ cls := "PixelFormulaModel", name := "channel", desc := "(I)I" } : MethodName)) ∈ wA := tb_in 780 (by decide +kernel) (by decide +kernel)
theorem mw_781 : (Cond.static ({ cls := "PixelFormulaModel", name := "channel", desc := "(I)I" } : MethodName)) ∈ wA := tb_in 781 (by decide +kernel) (by decide +kernel)
theorem mw_782 : (Cond.code ({ cls := "PixelFormulaModel", name := "channel", desc := "(I)I" } : MethodName) prog_8_method_49_code (2 : Nat) (Option.some FieldType.int)) ∈ wA := tb_in 782 (by decide +kernel) (by decide +kernel)
theorem mw_783 : (Cond.methodLink "PixelFormulaLaw" (95 : Nat) ({ cls := "PixelFormulaModel", name := "pixel", desc := "(II)I" } : MethodName)) ∈ wA := tb_in 783 (by decide +kernel) (by decide +kernel)
theorem mw_784 : (Cond.instanceMethod ({ cls := "PixelFormulaModel", name := "pixel", desc := "(II)I" } : MethodName)) ∈ wA := tb_in 784 (by decide +kernel) (by decide +kernel)
theorem mw_785 : (Cond.selects "PixelFormulaModel" ({ cls := "PixelFormulaModel", name := "pixel", desc := "(II)I" } : MethodName) ({ cls := "PixelFormulaModel", name := "pixel", desc := "(II)I" } : MethodName)) ∈ wA := tb_in 785 (by decide +kernel) (by decide +kernel)
theorem mw_786 : (Cond.code ({ cls := "PixelFormulaModel", name := "pixel", desc := "(II)I" } : MethodName) prog_8_method_51_code (3 : Nat) (Option.some FieldType.int)) ∈ wA := tb_in 786 (by decide +kernel) (by decide +kernel)
theorem mw_787 : (Cond.arrayClass FieldType.long) ∈ wA := tb_in 787 (by decide +kernel) (by decide +kernel)
theorem ms_C_start : Cond.selects R_C y_C_start y_C_start ∈ wA := sl_in (List.mem_of_getElem? (i := 0) (by decide +kernel)) (by decide +kernel)
theorem ms_C_isAssignmentNext : Cond.selects R_C y_C_isAssignmentNext y_C_isAssignmentNext ∈ wA := sl_in (List.mem_of_getElem? (i := 1) (by decide +kernel)) (by decide +kernel)
theorem ms_C_assignment : Cond.selects R_C y_C_assignment y_C_assignment ∈ wA := sl_in (List.mem_of_getElem? (i := 2) (by decide +kernel)) (by decide +kernel)
theorem ms_C_next : Cond.selects R_C y_C_next y_C_next ∈ wA := sl_in (List.mem_of_getElem? (i := 3) (by decide +kernel)) (by decide +kernel)
theorem ms_C_sum : Cond.selects R_C y_C_sum y_C_sum ∈ wA := sl_in (List.mem_of_getElem? (i := 4) (by decide +kernel)) (by decide +kernel)
theorem ms_C_product : Cond.selects R_C y_C_product y_C_product ∈ wA := sl_in (List.mem_of_getElem? (i := 5) (by decide +kernel)) (by decide +kernel)
theorem ms_C_unit : Cond.selects R_C y_C_unit y_C_unit ∈ wA := sl_in (List.mem_of_getElem? (i := 6) (by decide +kernel)) (by decide +kernel)
theorem ms_C_takes : Cond.selects R_C y_C_takes y_C_takes ∈ wA := sl_in (List.mem_of_getElem? (i := 7) (by decide +kernel)) (by decide +kernel)
theorem ms_C_constant : Cond.selects R_C y_C_constant y_C_constant ∈ wA := sl_in (List.mem_of_getElem? (i := 8) (by decide +kernel)) (by decide +kernel)
theorem ms_C_digit : Cond.selects R_C y_C_digit y_C_digit ∈ wA := sl_in (List.mem_of_getElem? (i := 9) (by decide +kernel)) (by decide +kernel)
theorem ms_C_part : Cond.selects R_C y_C_part y_C_part ∈ wA := sl_in (List.mem_of_getElem? (i := 10) (by decide +kernel)) (by decide +kernel)
theorem ms_C_letter : Cond.selects R_C y_C_letter y_C_letter ∈ wA := sl_in (List.mem_of_getElem? (i := 11) (by decide +kernel)) (by decide +kernel)
theorem ms_C_input : Cond.selects R_C y_C_input y_C_input ∈ wA := sl_in (List.mem_of_getElem? (i := 12) (by decide +kernel)) (by decide +kernel)
theorem ms_C_function : Cond.selects R_C y_C_function y_C_function ∈ wA := sl_in (List.mem_of_getElem? (i := 13) (by decide +kernel)) (by decide +kernel)
theorem ms_C_each : Cond.selects R_C y_C_each y_C_each ∈ wA := sl_in (List.mem_of_getElem? (i := 14) (by decide +kernel)) (by decide +kernel)
theorem ms_C_vector : Cond.selects R_C y_C_vector y_C_vector ∈ wA := sl_in (List.mem_of_getElem? (i := 15) (by decide +kernel)) (by decide +kernel)
theorem ms_C_joined : Cond.selects R_C y_C_joined y_C_joined ∈ wA := sl_in (List.mem_of_getElem? (i := 16) (by decide +kernel)) (by decide +kernel)
theorem ms_C_functionOfTwo : Cond.selects R_C y_C_functionOfTwo y_C_functionOfTwo ∈ wA := sl_in (List.mem_of_getElem? (i := 17) (by decide +kernel)) (by decide +kernel)
theorem ms_C_pairwise : Cond.selects R_C y_C_pairwise y_C_pairwise ∈ wA := sl_in (List.mem_of_getElem? (i := 18) (by decide +kernel)) (by decide +kernel)
theorem ms_C_dotted : Cond.selects R_C y_C_dotted y_C_dotted ∈ wA := sl_in (List.mem_of_getElem? (i := 19) (by decide +kernel)) (by decide +kernel)
theorem ms_C_matrix : Cond.selects R_C y_C_matrix y_C_matrix ∈ wA := sl_in (List.mem_of_getElem? (i := 20) (by decide +kernel)) (by decide +kernel)
theorem ms_C_picked : Cond.selects R_C y_C_picked y_C_picked ∈ wA := sl_in (List.mem_of_getElem? (i := 21) (by decide +kernel)) (by decide +kernel)
theorem ms_C_times : Cond.selects R_C y_C_times y_C_times ∈ wA := sl_in (List.mem_of_getElem? (i := 22) (by decide +kernel)) (by decide +kernel)
theorem ms_C_timesColumns : Cond.selects R_C y_C_timesColumns y_C_timesColumns ∈ wA := sl_in (List.mem_of_getElem? (i := 23) (by decide +kernel)) (by decide +kernel)
theorem ms_C_dividedBy : Cond.selects R_C y_C_dividedBy y_C_dividedBy ∈ wA := sl_in (List.mem_of_getElem? (i := 24) (by decide +kernel)) (by decide +kernel)
theorem ms_C_finish : Cond.selects R_C y_C_finish y_C_finish ∈ wA := sl_in (List.mem_of_getElem? (i := 25) (by decide +kernel)) (by decide +kernel)
theorem ms_P_isInstruction : Cond.selects R_P y_P_isInstruction y_P_isInstruction ∈ wA := sl_in (List.mem_of_getElem? (i := 27) (by decide +kernel)) (by decide +kernel)
theorem ms_P_hasCode : Cond.selects R_P y_P_hasCode y_P_hasCode ∈ wA := sl_in (List.mem_of_getElem? (i := 28) (by decide +kernel)) (by decide +kernel)
theorem ms_H_make : Cond.selects R_H y_H_make y_H_make ∈ wA := sl_in (List.mem_of_getElem? (i := 29) (by decide +kernel)) (by decide +kernel)
theorem ms_M_begin : Cond.selects R_M y_M_begin y_M_begin ∈ wA := sl_in (List.mem_of_getElem? (i := 30) (by decide +kernel)) (by decide +kernel)
theorem ms_M_look : Cond.selects R_M y_M_look y_M_look ∈ wA := sl_in (List.mem_of_getElem? (i := 31) (by decide +kernel)) (by decide +kernel)
theorem ms_M_operator : Cond.selects R_M y_M_operator y_M_operator ∈ wA := sl_in (List.mem_of_getElem? (i := 32) (by decide +kernel)) (by decide +kernel)
theorem ms_M_close : Cond.selects R_M y_M_close y_M_close ∈ wA := sl_in (List.mem_of_getElem? (i := 33) (by decide +kernel)) (by decide +kernel)
theorem ms_M_settle : Cond.selects R_M y_M_settle y_M_settle ∈ wA := sl_in (List.mem_of_getElem? (i := 34) (by decide +kernel)) (by decide +kernel)
theorem ms_M_top : Cond.selects R_M y_M_top y_M_top ∈ wA := sl_in (List.mem_of_getElem? (i := 35) (by decide +kernel)) (by decide +kernel)
theorem ms_M_operate : Cond.selects R_M y_M_operate y_M_operate ∈ wA := sl_in (List.mem_of_getElem? (i := 36) (by decide +kernel)) (by decide +kernel)
theorem ms_M_columns : Cond.selects R_M y_M_columns y_M_columns ∈ wA := sl_in (List.mem_of_getElem? (i := 37) (by decide +kernel)) (by decide +kernel)
theorem ms_M_number : Cond.selects R_M y_M_number y_M_number ∈ wA := sl_in (List.mem_of_getElem? (i := 38) (by decide +kernel)) (by decide +kernel)
theorem ms_M_put : Cond.selects R_M y_M_put y_M_put ∈ wA := sl_in (List.mem_of_getElem? (i := 39) (by decide +kernel)) (by decide +kernel)
theorem ms_M_pushMade : Cond.selects R_M y_M_pushMade y_M_pushMade ∈ wA := sl_in (List.mem_of_getElem? (i := 40) (by decide +kernel)) (by decide +kernel)
theorem ms_M_push : Cond.selects R_M y_M_push y_M_push ∈ wA := sl_in (List.mem_of_getElem? (i := 41) (by decide +kernel)) (by decide +kernel)
theorem ms_M_pairwise : Cond.selects R_M y_M_pairwise y_M_pairwise ∈ wA := sl_in (List.mem_of_getElem? (i := 42) (by decide +kernel)) (by decide +kernel)
theorem ms_M_call : Cond.selects R_M y_M_call y_M_call ∈ wA := sl_in (List.mem_of_getElem? (i := 43) (by decide +kernel)) (by decide +kernel)
theorem ms_M_each : Cond.selects R_M y_M_each y_M_each ∈ wA := sl_in (List.mem_of_getElem? (i := 44) (by decide +kernel)) (by decide +kernel)
theorem ms_M_dot : Cond.selects R_M y_M_dot y_M_dot ∈ wA := sl_in (List.mem_of_getElem? (i := 45) (by decide +kernel)) (by decide +kernel)
theorem ms_M_join : Cond.selects R_M y_M_join y_M_join ∈ wA := sl_in (List.mem_of_getElem? (i := 46) (by decide +kernel)) (by decide +kernel)
theorem ms_M_matrix : Cond.selects R_M y_M_matrix y_M_matrix ∈ wA := sl_in (List.mem_of_getElem? (i := 47) (by decide +kernel)) (by decide +kernel)
theorem ms_M_finish : Cond.selects R_M y_M_finish y_M_finish ∈ wA := sl_in (List.mem_of_getElem? (i := 48) (by decide +kernel)) (by decide +kernel)
theorem ms_M_hold : Cond.selects R_M y_M_hold y_M_hold ∈ wA := sl_in (List.mem_of_getElem? (i := 49) (by decide +kernel)) (by decide +kernel)
theorem ms_M_assign : Cond.selects R_M y_M_assign y_M_assign ∈ wA := sl_in (List.mem_of_getElem? (i := 50) (by decide +kernel)) (by decide +kernel)
theorem ms_M_operand : Cond.selects R_M y_M_operand y_M_operand ∈ wA := sl_in (List.mem_of_getElem? (i := 51) (by decide +kernel)) (by decide +kernel)
theorem ms_M_bracket : Cond.selects R_M y_M_bracket y_M_bracket ∈ wA := sl_in (List.mem_of_getElem? (i := 52) (by decide +kernel)) (by decide +kernel)
theorem ms_M_constant : Cond.selects R_M y_M_constant y_M_constant ∈ wA := sl_in (List.mem_of_getElem? (i := 53) (by decide +kernel)) (by decide +kernel)
theorem ms_M_letter : Cond.selects R_M y_M_letter y_M_letter ∈ wA := sl_in (List.mem_of_getElem? (i := 54) (by decide +kernel)) (by decide +kernel)
theorem ms_M_keep : Cond.selects R_M y_M_keep y_M_keep ∈ wA := sl_in (List.mem_of_getElem? (i := 55) (by decide +kernel)) (by decide +kernel)
theorem ms_M_evaluate : Cond.selects R_M y_M_evaluate y_M_evaluate ∈ wA := sl_in (List.mem_of_getElem? (i := 56) (by decide +kernel)) (by decide +kernel)
theorem hd_P_init : y_P_init.cls ≠ "java/lang/invoke/MethodHandle" ∧ y_P_init.cls ≠ "java/lang/invoke/VarHandle" ∧ (parseMethodDescriptor y_P_init.desc).map (fun d => d.parameters.length) = some 0 := by decide +kernel
theorem hd_P_type : y_P_type.cls ≠ "java/lang/invoke/MethodHandle" ∧ y_P_type.cls ≠ "java/lang/invoke/VarHandle" ∧ (parseMethodDescriptor y_P_type.desc).map (fun d => d.parameters.length) = some 1 := by decide +kernel
theorem hd_P_erase : y_P_erase.cls ≠ "java/lang/invoke/MethodHandle" ∧ y_P_erase.cls ≠ "java/lang/invoke/VarHandle" ∧ (parseMethodDescriptor y_P_erase.desc).map (fun d => d.parameters.length) = some 0 := by decide +kernel
theorem hd_P_compile : y_P_compile.cls ≠ "java/lang/invoke/MethodHandle" ∧ y_P_compile.cls ≠ "java/lang/invoke/VarHandle" ∧ (parseMethodDescriptor y_P_compile.desc).map (fun d => d.parameters.length) = some 0 := by decide +kernel
theorem hd_P_size : y_P_size.cls ≠ "java/lang/invoke/MethodHandle" ∧ y_P_size.cls ≠ "java/lang/invoke/VarHandle" ∧ (parseMethodDescriptor y_P_size.desc).map (fun d => d.parameters.length) = some 0 := by decide +kernel
theorem hd_P_instruction : y_P_instruction.cls ≠ "java/lang/invoke/MethodHandle" ∧ y_P_instruction.cls ≠ "java/lang/invoke/VarHandle" ∧ (parseMethodDescriptor y_P_instruction.desc).map (fun d => d.parameters.length) = some 2 := by decide +kernel
theorem hd_P_result : y_P_result.cls ≠ "java/lang/invoke/MethodHandle" ∧ y_P_result.cls ≠ "java/lang/invoke/VarHandle" ∧ (parseMethodDescriptor y_P_result.desc).map (fun d => d.parameters.length) = some 1 := by decide +kernel
theorem hd_P_typeOf : y_P_typeOf.cls ≠ "java/lang/invoke/MethodHandle" ∧ y_P_typeOf.cls ≠ "java/lang/invoke/VarHandle" ∧ (parseMethodDescriptor y_P_typeOf.desc).map (fun d => d.parameters.length) = some 1 := by decide +kernel
theorem hd_P_value : y_P_value.cls ≠ "java/lang/invoke/MethodHandle" ∧ y_P_value.cls ≠ "java/lang/invoke/VarHandle" ∧ (parseMethodDescriptor y_P_value.desc).map (fun d => d.parameters.length) = some 5 := by decide +kernel
theorem hd_P_paint : y_P_paint.cls ≠ "java/lang/invoke/MethodHandle" ∧ y_P_paint.cls ≠ "java/lang/invoke/VarHandle" ∧ (parseMethodDescriptor y_P_paint.desc).map (fun d => d.parameters.length) = some 3 := by decide +kernel
theorem hd_P_run : y_P_run.cls ≠ "java/lang/invoke/MethodHandle" ∧ y_P_run.cls ≠ "java/lang/invoke/VarHandle" ∧ (parseMethodDescriptor y_P_run.desc).map (fun d => d.parameters.length) = some 1 := by decide +kernel
theorem hd_P_pixel : y_P_pixel.cls ≠ "java/lang/invoke/MethodHandle" ∧ y_P_pixel.cls ≠ "java/lang/invoke/VarHandle" ∧ (parseMethodDescriptor y_P_pixel.desc).map (fun d => d.parameters.length) = some 2 := by decide +kernel
theorem hd_P_hasCode : y_P_hasCode.cls ≠ "java/lang/invoke/MethodHandle" ∧ y_P_hasCode.cls ≠ "java/lang/invoke/VarHandle" ∧ (parseMethodDescriptor y_P_hasCode.desc).map (fun d => d.parameters.length) = some 0 := by decide +kernel
theorem hd_P_isInstruction : y_P_isInstruction.cls ≠ "java/lang/invoke/MethodHandle" ∧ y_P_isInstruction.cls ≠ "java/lang/invoke/VarHandle" ∧ (parseMethodDescriptor y_P_isInstruction.desc).map (fun d => d.parameters.length) = some 1 := by decide +kernel
theorem hd_P_isPoint : y_P_isPoint.cls ≠ "java/lang/invoke/MethodHandle" ∧ y_P_isPoint.cls ≠ "java/lang/invoke/VarHandle" ∧ (parseMethodDescriptor y_P_isPoint.desc).map (fun d => d.parameters.length) = some 2 := by decide +kernel
theorem hd_P_isColor : y_P_isColor.cls ≠ "java/lang/invoke/MethodHandle" ∧ y_P_isColor.cls ≠ "java/lang/invoke/VarHandle" ∧ (parseMethodDescriptor y_P_isColor.desc).map (fun d => d.parameters.length) = some 1 := by decide +kernel
theorem hd_M_init : y_M_init.cls ≠ "java/lang/invoke/MethodHandle" ∧ y_M_init.cls ≠ "java/lang/invoke/VarHandle" ∧ (parseMethodDescriptor y_M_init.desc).map (fun d => d.parameters.length) = some 0 := by decide +kernel
theorem hd_M_thrown : y_M_thrown.cls ≠ "java/lang/invoke/MethodHandle" ∧ y_M_thrown.cls ≠ "java/lang/invoke/VarHandle" ∧ (parseMethodDescriptor y_M_thrown.desc).map (fun d => d.parameters.length) = some 0 := by decide +kernel
theorem hd_M_type : y_M_type.cls ≠ "java/lang/invoke/MethodHandle" ∧ y_M_type.cls ≠ "java/lang/invoke/VarHandle" ∧ (parseMethodDescriptor y_M_type.desc).map (fun d => d.parameters.length) = some 1 := by decide +kernel
theorem hd_M_erase : y_M_erase.cls ≠ "java/lang/invoke/MethodHandle" ∧ y_M_erase.cls ≠ "java/lang/invoke/VarHandle" ∧ (parseMethodDescriptor y_M_erase.desc).map (fun d => d.parameters.length) = some 0 := by decide +kernel
theorem hd_M_look : y_M_look.cls ≠ "java/lang/invoke/MethodHandle" ∧ y_M_look.cls ≠ "java/lang/invoke/VarHandle" ∧ (parseMethodDescriptor y_M_look.desc).map (fun d => d.parameters.length) = some 1 := by decide +kernel
theorem hd_M_put : y_M_put.cls ≠ "java/lang/invoke/MethodHandle" ∧ y_M_put.cls ≠ "java/lang/invoke/VarHandle" ∧ (parseMethodDescriptor y_M_put.desc).map (fun d => d.parameters.length) = some 3 := by decide +kernel
theorem hd_M_push : y_M_push.cls ≠ "java/lang/invoke/MethodHandle" ∧ y_M_push.cls ≠ "java/lang/invoke/VarHandle" ∧ (parseMethodDescriptor y_M_push.desc).map (fun d => d.parameters.length) = some 1 := by decide +kernel
theorem hd_M_pushMade : y_M_pushMade.cls ≠ "java/lang/invoke/MethodHandle" ∧ y_M_pushMade.cls ≠ "java/lang/invoke/VarHandle" ∧ (parseMethodDescriptor y_M_pushMade.desc).map (fun d => d.parameters.length) = some 1 := by decide +kernel
theorem hd_M_number : y_M_number.cls ≠ "java/lang/invoke/MethodHandle" ∧ y_M_number.cls ≠ "java/lang/invoke/VarHandle" ∧ (parseMethodDescriptor y_M_number.desc).map (fun d => d.parameters.length) = some 2 := by decide +kernel
theorem hd_M_pairwise : y_M_pairwise.cls ≠ "java/lang/invoke/MethodHandle" ∧ y_M_pairwise.cls ≠ "java/lang/invoke/VarHandle" ∧ (parseMethodDescriptor y_M_pairwise.desc).map (fun d => d.parameters.length) = some 3 := by decide +kernel
theorem hd_M_columns : y_M_columns.cls ≠ "java/lang/invoke/MethodHandle" ∧ y_M_columns.cls ≠ "java/lang/invoke/VarHandle" ∧ (parseMethodDescriptor y_M_columns.desc).map (fun d => d.parameters.length) = some 3 := by decide +kernel
theorem hd_M_operate : y_M_operate.cls ≠ "java/lang/invoke/MethodHandle" ∧ y_M_operate.cls ≠ "java/lang/invoke/VarHandle" ∧ (parseMethodDescriptor y_M_operate.desc).map (fun d => d.parameters.length) = some 1 := by decide +kernel
theorem hd_M_isBinary : y_M_isBinary.cls ≠ "java/lang/invoke/MethodHandle" ∧ y_M_isBinary.cls ≠ "java/lang/invoke/VarHandle" ∧ (parseMethodDescriptor y_M_isBinary.desc).map (fun d => d.parameters.length) = some 1 := by decide +kernel
theorem hd_M_top : y_M_top.cls ≠ "java/lang/invoke/MethodHandle" ∧ y_M_top.cls ≠ "java/lang/invoke/VarHandle" ∧ (parseMethodDescriptor y_M_top.desc).map (fun d => d.parameters.length) = some 0 := by decide +kernel
theorem hd_M_settle : y_M_settle.cls ≠ "java/lang/invoke/MethodHandle" ∧ y_M_settle.cls ≠ "java/lang/invoke/VarHandle" ∧ (parseMethodDescriptor y_M_settle.desc).map (fun d => d.parameters.length) = some 1 := by decide +kernel
theorem hd_M_each : y_M_each.cls ≠ "java/lang/invoke/MethodHandle" ∧ y_M_each.cls ≠ "java/lang/invoke/VarHandle" ∧ (parseMethodDescriptor y_M_each.desc).map (fun d => d.parameters.length) = some 1 := by decide +kernel
theorem hd_M_dot : y_M_dot.cls ≠ "java/lang/invoke/MethodHandle" ∧ y_M_dot.cls ≠ "java/lang/invoke/VarHandle" ∧ (parseMethodDescriptor y_M_dot.desc).map (fun d => d.parameters.length) = some 2 := by decide +kernel
theorem hd_M_join : y_M_join.cls ≠ "java/lang/invoke/MethodHandle" ∧ y_M_join.cls ≠ "java/lang/invoke/VarHandle" ∧ (parseMethodDescriptor y_M_join.desc).map (fun d => d.parameters.length) = some 1 := by decide +kernel
theorem hd_M_matrix : y_M_matrix.cls ≠ "java/lang/invoke/MethodHandle" ∧ y_M_matrix.cls ≠ "java/lang/invoke/VarHandle" ∧ (parseMethodDescriptor y_M_matrix.desc).map (fun d => d.parameters.length) = some 2 := by decide +kernel
theorem hd_M_call : y_M_call.cls ≠ "java/lang/invoke/MethodHandle" ∧ y_M_call.cls ≠ "java/lang/invoke/VarHandle" ∧ (parseMethodDescriptor y_M_call.desc).map (fun d => d.parameters.length) = some 2 := by decide +kernel
theorem hd_M_isDigit : y_M_isDigit.cls ≠ "java/lang/invoke/MethodHandle" ∧ y_M_isDigit.cls ≠ "java/lang/invoke/VarHandle" ∧ (parseMethodDescriptor y_M_isDigit.desc).map (fun d => d.parameters.length) = some 1 := by decide +kernel
theorem hd_M_isSmall : y_M_isSmall.cls ≠ "java/lang/invoke/MethodHandle" ∧ y_M_isSmall.cls ≠ "java/lang/invoke/VarHandle" ∧ (parseMethodDescriptor y_M_isSmall.desc).map (fun d => d.parameters.length) = some 1 := by decide +kernel
theorem hd_M_isFunction : y_M_isFunction.cls ≠ "java/lang/invoke/MethodHandle" ∧ y_M_isFunction.cls ≠ "java/lang/invoke/VarHandle" ∧ (parseMethodDescriptor y_M_isFunction.desc).map (fun d => d.parameters.length) = some 1 := by decide +kernel
theorem hd_M_isGiven : y_M_isGiven.cls ≠ "java/lang/invoke/MethodHandle" ∧ y_M_isGiven.cls ≠ "java/lang/invoke/VarHandle" ∧ (parseMethodDescriptor y_M_isGiven.desc).map (fun d => d.parameters.length) = some 1 := by decide +kernel
theorem hd_M_constant : y_M_constant.cls ≠ "java/lang/invoke/MethodHandle" ∧ y_M_constant.cls ≠ "java/lang/invoke/VarHandle" ∧ (parseMethodDescriptor y_M_constant.desc).map (fun d => d.parameters.length) = some 0 := by decide +kernel
theorem hd_M_letter : y_M_letter.cls ≠ "java/lang/invoke/MethodHandle" ∧ y_M_letter.cls ≠ "java/lang/invoke/VarHandle" ∧ (parseMethodDescriptor y_M_letter.desc).map (fun d => d.parameters.length) = some 0 := by decide +kernel
theorem hd_M_finish : y_M_finish.cls ≠ "java/lang/invoke/MethodHandle" ∧ y_M_finish.cls ≠ "java/lang/invoke/VarHandle" ∧ (parseMethodDescriptor y_M_finish.desc).map (fun d => d.parameters.length) = some 1 := by decide +kernel
theorem hd_M_hold : y_M_hold.cls ≠ "java/lang/invoke/MethodHandle" ∧ y_M_hold.cls ≠ "java/lang/invoke/VarHandle" ∧ (parseMethodDescriptor y_M_hold.desc).map (fun d => d.parameters.length) = some 1 := by decide +kernel
theorem hd_M_bracket : y_M_bracket.cls ≠ "java/lang/invoke/MethodHandle" ∧ y_M_bracket.cls ≠ "java/lang/invoke/VarHandle" ∧ (parseMethodDescriptor y_M_bracket.desc).map (fun d => d.parameters.length) = some 1 := by decide +kernel
theorem hd_M_operand : y_M_operand.cls ≠ "java/lang/invoke/MethodHandle" ∧ y_M_operand.cls ≠ "java/lang/invoke/VarHandle" ∧ (parseMethodDescriptor y_M_operand.desc).map (fun d => d.parameters.length) = some 0 := by decide +kernel
theorem hd_M_close : y_M_close.cls ≠ "java/lang/invoke/MethodHandle" ∧ y_M_close.cls ≠ "java/lang/invoke/VarHandle" ∧ (parseMethodDescriptor y_M_close.desc).map (fun d => d.parameters.length) = some 0 := by decide +kernel
theorem hd_M_operator : y_M_operator.cls ≠ "java/lang/invoke/MethodHandle" ∧ y_M_operator.cls ≠ "java/lang/invoke/VarHandle" ∧ (parseMethodDescriptor y_M_operator.desc).map (fun d => d.parameters.length) = some 0 := by decide +kernel
theorem hd_M_assign : y_M_assign.cls ≠ "java/lang/invoke/MethodHandle" ∧ y_M_assign.cls ≠ "java/lang/invoke/VarHandle" ∧ (parseMethodDescriptor y_M_assign.desc).map (fun d => d.parameters.length) = some 0 := by decide +kernel
theorem hd_M_begin : y_M_begin.cls ≠ "java/lang/invoke/MethodHandle" ∧ y_M_begin.cls ≠ "java/lang/invoke/VarHandle" ∧ (parseMethodDescriptor y_M_begin.desc).map (fun d => d.parameters.length) = some 0 := by decide +kernel
theorem hd_M_keep : y_M_keep.cls ≠ "java/lang/invoke/MethodHandle" ∧ y_M_keep.cls ≠ "java/lang/invoke/VarHandle" ∧ (parseMethodDescriptor y_M_keep.desc).map (fun d => d.parameters.length) = some 0 := by decide +kernel
theorem hd_M_compile : y_M_compile.cls ≠ "java/lang/invoke/MethodHandle" ∧ y_M_compile.cls ≠ "java/lang/invoke/VarHandle" ∧ (parseMethodDescriptor y_M_compile.desc).map (fun d => d.parameters.length) = some 0 := by decide +kernel
theorem hd_M_size : y_M_size.cls ≠ "java/lang/invoke/MethodHandle" ∧ y_M_size.cls ≠ "java/lang/invoke/VarHandle" ∧ (parseMethodDescriptor y_M_size.desc).map (fun d => d.parameters.length) = some 0 := by decide +kernel
theorem hd_M_instruction : y_M_instruction.cls ≠ "java/lang/invoke/MethodHandle" ∧ y_M_instruction.cls ≠ "java/lang/invoke/VarHandle" ∧ (parseMethodDescriptor y_M_instruction.desc).map (fun d => d.parameters.length) = some 2 := by decide +kernel
theorem hd_M_result : y_M_result.cls ≠ "java/lang/invoke/MethodHandle" ∧ y_M_result.cls ≠ "java/lang/invoke/VarHandle" ∧ (parseMethodDescriptor y_M_result.desc).map (fun d => d.parameters.length) = some 1 := by decide +kernel
theorem hd_M_typeOf : y_M_typeOf.cls ≠ "java/lang/invoke/MethodHandle" ∧ y_M_typeOf.cls ≠ "java/lang/invoke/VarHandle" ∧ (parseMethodDescriptor y_M_typeOf.desc).map (fun d => d.parameters.length) = some 1 := by decide +kernel
theorem hd_M_saturated : y_M_saturated.cls ≠ "java/lang/invoke/MethodHandle" ∧ y_M_saturated.cls ≠ "java/lang/invoke/VarHandle" ∧ (parseMethodDescriptor y_M_saturated.desc).map (fun d => d.parameters.length) = some 1 := by decide +kernel
theorem hd_M_divided : y_M_divided.cls ≠ "java/lang/invoke/MethodHandle" ∧ y_M_divided.cls ≠ "java/lang/invoke/VarHandle" ∧ (parseMethodDescriptor y_M_divided.desc).map (fun d => d.parameters.length) = some 2 := by decide +kernel
theorem hd_M_done : y_M_done.cls ≠ "java/lang/invoke/MethodHandle" ∧ y_M_done.cls ≠ "java/lang/invoke/VarHandle" ∧ (parseMethodDescriptor y_M_done.desc).map (fun d => d.parameters.length) = some 3 := by decide +kernel
theorem hd_M_evaluate : y_M_evaluate.cls ≠ "java/lang/invoke/MethodHandle" ∧ y_M_evaluate.cls ≠ "java/lang/invoke/VarHandle" ∧ (parseMethodDescriptor y_M_evaluate.desc).map (fun d => d.parameters.length) = some 5 := by decide +kernel
theorem hd_M_noColor : y_M_noColor.cls ≠ "java/lang/invoke/MethodHandle" ∧ y_M_noColor.cls ≠ "java/lang/invoke/VarHandle" ∧ (parseMethodDescriptor y_M_noColor.desc).map (fun d => d.parameters.length) = some 1 := by decide +kernel
theorem hd_M_value : y_M_value.cls ≠ "java/lang/invoke/MethodHandle" ∧ y_M_value.cls ≠ "java/lang/invoke/VarHandle" ∧ (parseMethodDescriptor y_M_value.desc).map (fun d => d.parameters.length) = some 5 := by decide +kernel
theorem hd_M_noPoint : y_M_noPoint.cls ≠ "java/lang/invoke/MethodHandle" ∧ y_M_noPoint.cls ≠ "java/lang/invoke/VarHandle" ∧ (parseMethodDescriptor y_M_noPoint.desc).map (fun d => d.parameters.length) = some 2 := by decide +kernel
theorem hd_M_paint : y_M_paint.cls ≠ "java/lang/invoke/MethodHandle" ∧ y_M_paint.cls ≠ "java/lang/invoke/VarHandle" ∧ (parseMethodDescriptor y_M_paint.desc).map (fun d => d.parameters.length) = some 3 := by decide +kernel
theorem hd_M_channel : y_M_channel.cls ≠ "java/lang/invoke/MethodHandle" ∧ y_M_channel.cls ≠ "java/lang/invoke/VarHandle" ∧ (parseMethodDescriptor y_M_channel.desc).map (fun d => d.parameters.length) = some 1 := by decide +kernel
theorem hd_M_run : y_M_run.cls ≠ "java/lang/invoke/MethodHandle" ∧ y_M_run.cls ≠ "java/lang/invoke/VarHandle" ∧ (parseMethodDescriptor y_M_run.desc).map (fun d => d.parameters.length) = some 1 := by decide +kernel
theorem hd_M_pixel : y_M_pixel.cls ≠ "java/lang/invoke/MethodHandle" ∧ y_M_pixel.cls ≠ "java/lang/invoke/VarHandle" ∧ (parseMethodDescriptor y_M_pixel.desc).map (fun d => d.parameters.length) = some 2 := by decide +kernel
theorem hd_K_init : y_K_init.cls ≠ "java/lang/invoke/MethodHandle" ∧ y_K_init.cls ≠ "java/lang/invoke/VarHandle" ∧ (parseMethodDescriptor y_K_init.desc).map (fun d => d.parameters.length) = some 0 := by decide +kernel
theorem hd_K_clear : y_K_clear.cls ≠ "java/lang/invoke/MethodHandle" ∧ y_K_clear.cls ≠ "java/lang/invoke/VarHandle" ∧ (parseMethodDescriptor y_K_clear.desc).map (fun d => d.parameters.length) = some 0 := by decide +kernel
theorem hd_K_put : y_K_put.cls ≠ "java/lang/invoke/MethodHandle" ∧ y_K_put.cls ≠ "java/lang/invoke/VarHandle" ∧ (parseMethodDescriptor y_K_put.desc).map (fun d => d.parameters.length) = some 3 := by decide +kernel
theorem hd_C_init : y_C_init.cls ≠ "java/lang/invoke/MethodHandle" ∧ y_C_init.cls ≠ "java/lang/invoke/VarHandle" ∧ (parseMethodDescriptor y_C_init.desc).map (fun d => d.parameters.length) = some 0 := by decide +kernel
theorem hd_C_exchange : y_C_exchange.cls ≠ "java/lang/invoke/MethodHandle" ∧ y_C_exchange.cls ≠ "java/lang/invoke/VarHandle" ∧ (parseMethodDescriptor y_C_exchange.desc).map (fun d => d.parameters.length) = some 1 := by decide +kernel
theorem hd_C_accepts : y_C_accepts.cls ≠ "java/lang/invoke/MethodHandle" ∧ y_C_accepts.cls ≠ "java/lang/invoke/VarHandle" ∧ (parseMethodDescriptor y_C_accepts.desc).map (fun d => d.parameters.length) = some 2 := by decide +kernel
theorem hd_C_start : y_C_start.cls ≠ "java/lang/invoke/MethodHandle" ∧ y_C_start.cls ≠ "java/lang/invoke/VarHandle" ∧ (parseMethodDescriptor y_C_start.desc).map (fun d => d.parameters.length) = some 2 := by decide +kernel
theorem hd_C_finish : y_C_finish.cls ≠ "java/lang/invoke/MethodHandle" ∧ y_C_finish.cls ≠ "java/lang/invoke/VarHandle" ∧ (parseMethodDescriptor y_C_finish.desc).map (fun d => d.parameters.length) = some 1 := by decide +kernel
theorem hd_C_next : y_C_next.cls ≠ "java/lang/invoke/MethodHandle" ∧ y_C_next.cls ≠ "java/lang/invoke/VarHandle" ∧ (parseMethodDescriptor y_C_next.desc).map (fun d => d.parameters.length) = some 0 := by decide +kernel
theorem hd_C_takes : y_C_takes.cls ≠ "java/lang/invoke/MethodHandle" ∧ y_C_takes.cls ≠ "java/lang/invoke/VarHandle" ∧ (parseMethodDescriptor y_C_takes.desc).map (fun d => d.parameters.length) = some 1 := by decide +kernel
theorem hd_C_isAssignmentNext : y_C_isAssignmentNext.cls ≠ "java/lang/invoke/MethodHandle" ∧ y_C_isAssignmentNext.cls ≠ "java/lang/invoke/VarHandle" ∧ (parseMethodDescriptor y_C_isAssignmentNext.desc).map (fun d => d.parameters.length) = some 0 := by decide +kernel
theorem hd_C_assignment : y_C_assignment.cls ≠ "java/lang/invoke/MethodHandle" ∧ y_C_assignment.cls ≠ "java/lang/invoke/VarHandle" ∧ (parseMethodDescriptor y_C_assignment.desc).map (fun d => d.parameters.length) = some 0 := by decide +kernel
theorem hd_C_sum : y_C_sum.cls ≠ "java/lang/invoke/MethodHandle" ∧ y_C_sum.cls ≠ "java/lang/invoke/VarHandle" ∧ (parseMethodDescriptor y_C_sum.desc).map (fun d => d.parameters.length) = some 1 := by decide +kernel
theorem hd_C_product : y_C_product.cls ≠ "java/lang/invoke/MethodHandle" ∧ y_C_product.cls ≠ "java/lang/invoke/VarHandle" ∧ (parseMethodDescriptor y_C_product.desc).map (fun d => d.parameters.length) = some 1 := by decide +kernel
theorem hd_C_unit : y_C_unit.cls ≠ "java/lang/invoke/MethodHandle" ∧ y_C_unit.cls ≠ "java/lang/invoke/VarHandle" ∧ (parseMethodDescriptor y_C_unit.desc).map (fun d => d.parameters.length) = some 1 := by decide +kernel
theorem hd_C_part : y_C_part.cls ≠ "java/lang/invoke/MethodHandle" ∧ y_C_part.cls ≠ "java/lang/invoke/VarHandle" ∧ (parseMethodDescriptor y_C_part.desc).map (fun d => d.parameters.length) = some 1 := by decide +kernel
theorem hd_C_letter : y_C_letter.cls ≠ "java/lang/invoke/MethodHandle" ∧ y_C_letter.cls ≠ "java/lang/invoke/VarHandle" ∧ (parseMethodDescriptor y_C_letter.desc).map (fun d => d.parameters.length) = some 1 := by decide +kernel
theorem hd_C_input : y_C_input.cls ≠ "java/lang/invoke/MethodHandle" ∧ y_C_input.cls ≠ "java/lang/invoke/VarHandle" ∧ (parseMethodDescriptor y_C_input.desc).map (fun d => d.parameters.length) = some 2 := by decide +kernel
theorem hd_C_constant : y_C_constant.cls ≠ "java/lang/invoke/MethodHandle" ∧ y_C_constant.cls ≠ "java/lang/invoke/VarHandle" ∧ (parseMethodDescriptor y_C_constant.desc).map (fun d => d.parameters.length) = some 0 := by decide +kernel
theorem hd_C_digit : y_C_digit.cls ≠ "java/lang/invoke/MethodHandle" ∧ y_C_digit.cls ≠ "java/lang/invoke/VarHandle" ∧ (parseMethodDescriptor y_C_digit.desc).map (fun d => d.parameters.length) = some 0 := by decide +kernel
theorem hd_C_picked : y_C_picked.cls ≠ "java/lang/invoke/MethodHandle" ∧ y_C_picked.cls ≠ "java/lang/invoke/VarHandle" ∧ (parseMethodDescriptor y_C_picked.desc).map (fun d => d.parameters.length) = some 1 := by decide +kernel
theorem hd_C_function : y_C_function.cls ≠ "java/lang/invoke/MethodHandle" ∧ y_C_function.cls ≠ "java/lang/invoke/VarHandle" ∧ (parseMethodDescriptor y_C_function.desc).map (fun d => d.parameters.length) = some 2 := by decide +kernel
theorem hd_C_functionOfTwo : y_C_functionOfTwo.cls ≠ "java/lang/invoke/MethodHandle" ∧ y_C_functionOfTwo.cls ≠ "java/lang/invoke/VarHandle" ∧ (parseMethodDescriptor y_C_functionOfTwo.desc).map (fun d => d.parameters.length) = some 2 := by decide +kernel
theorem hd_C_vector : y_C_vector.cls ≠ "java/lang/invoke/MethodHandle" ∧ y_C_vector.cls ≠ "java/lang/invoke/VarHandle" ∧ (parseMethodDescriptor y_C_vector.desc).map (fun d => d.parameters.length) = some 1 := by decide +kernel
theorem hd_C_matrix : y_C_matrix.cls ≠ "java/lang/invoke/MethodHandle" ∧ y_C_matrix.cls ≠ "java/lang/invoke/VarHandle" ∧ (parseMethodDescriptor y_C_matrix.desc).map (fun d => d.parameters.length) = some 2 := by decide +kernel
theorem hd_C_joined : y_C_joined.cls ≠ "java/lang/invoke/MethodHandle" ∧ y_C_joined.cls ≠ "java/lang/invoke/VarHandle" ∧ (parseMethodDescriptor y_C_joined.desc).map (fun d => d.parameters.length) = some 2 := by decide +kernel
theorem hd_C_behindEachOther : y_C_behindEachOther.cls ≠ "java/lang/invoke/MethodHandle" ∧ y_C_behindEachOther.cls ≠ "java/lang/invoke/VarHandle" ∧ (parseMethodDescriptor y_C_behindEachOther.desc).map (fun d => d.parameters.length) = some 2 := by decide +kernel
theorem hd_C_each : y_C_each.cls ≠ "java/lang/invoke/MethodHandle" ∧ y_C_each.cls ≠ "java/lang/invoke/VarHandle" ∧ (parseMethodDescriptor y_C_each.desc).map (fun d => d.parameters.length) = some 2 := by decide +kernel
theorem hd_C_pairwise : y_C_pairwise.cls ≠ "java/lang/invoke/MethodHandle" ∧ y_C_pairwise.cls ≠ "java/lang/invoke/VarHandle" ∧ (parseMethodDescriptor y_C_pairwise.desc).map (fun d => d.parameters.length) = some 3 := by decide +kernel
theorem hd_C_times : y_C_times.cls ≠ "java/lang/invoke/MethodHandle" ∧ y_C_times.cls ≠ "java/lang/invoke/VarHandle" ∧ (parseMethodDescriptor y_C_times.desc).map (fun d => d.parameters.length) = some 2 := by decide +kernel
theorem hd_C_timesColumns : y_C_timesColumns.cls ≠ "java/lang/invoke/MethodHandle" ∧ y_C_timesColumns.cls ≠ "java/lang/invoke/VarHandle" ∧ (parseMethodDescriptor y_C_timesColumns.desc).map (fun d => d.parameters.length) = some 2 := by decide +kernel
theorem hd_C_dividedBy : y_C_dividedBy.cls ≠ "java/lang/invoke/MethodHandle" ∧ y_C_dividedBy.cls ≠ "java/lang/invoke/VarHandle" ∧ (parseMethodDescriptor y_C_dividedBy.desc).map (fun d => d.parameters.length) = some 2 := by decide +kernel
theorem hd_C_dotted : y_C_dotted.cls ≠ "java/lang/invoke/MethodHandle" ∧ y_C_dotted.cls ≠ "java/lang/invoke/VarHandle" ∧ (parseMethodDescriptor y_C_dotted.desc).map (fun d => d.parameters.length) = some 2 := by decide +kernel
theorem hd_C_isDigit : y_C_isDigit.cls ≠ "java/lang/invoke/MethodHandle" ∧ y_C_isDigit.cls ≠ "java/lang/invoke/VarHandle" ∧ (parseMethodDescriptor y_C_isDigit.desc).map (fun d => d.parameters.length) = some 1 := by decide +kernel
theorem hd_C_isSmall : y_C_isSmall.cls ≠ "java/lang/invoke/MethodHandle" ∧ y_C_isSmall.cls ≠ "java/lang/invoke/VarHandle" ∧ (parseMethodDescriptor y_C_isSmall.desc).map (fun d => d.parameters.length) = some 1 := by decide +kernel
theorem hd_C_isPlace : y_C_isPlace.cls ≠ "java/lang/invoke/MethodHandle" ∧ y_C_isPlace.cls ≠ "java/lang/invoke/VarHandle" ∧ (parseMethodDescriptor y_C_isPlace.desc).map (fun d => d.parameters.length) = some 1 := by decide +kernel
theorem hd_C_isVariable : y_C_isVariable.cls ≠ "java/lang/invoke/MethodHandle" ∧ y_C_isVariable.cls ≠ "java/lang/invoke/VarHandle" ∧ (parseMethodDescriptor y_C_isVariable.desc).map (fun d => d.parameters.length) = some 1 := by decide +kernel
theorem hd_H_init : y_H_init.cls ≠ "java/lang/invoke/MethodHandle" ∧ y_H_init.cls ≠ "java/lang/invoke/VarHandle" ∧ (parseMethodDescriptor y_H_init.desc).map (fun d => d.parameters.length) = some 0 := by decide +kernel
theorem hd_H_work : y_H_work.cls ≠ "java/lang/invoke/MethodHandle" ∧ y_H_work.cls ≠ "java/lang/invoke/VarHandle" ∧ (parseMethodDescriptor y_H_work.desc).map (fun d => d.parameters.length) = some 5 := by decide +kernel
theorem hd_H_make : y_H_make.cls ≠ "java/lang/invoke/MethodHandle" ∧ y_H_make.cls ≠ "java/lang/invoke/VarHandle" ∧ (parseMethodDescriptor y_H_make.desc).map (fun d => d.parameters.length) = some 3 := by decide +kernel
theorem hd_H_colorOf : y_H_colorOf.cls ≠ "java/lang/invoke/MethodHandle" ∧ y_H_colorOf.cls ≠ "java/lang/invoke/VarHandle" ∧ (parseMethodDescriptor y_H_colorOf.desc).map (fun d => d.parameters.length) = some 1 := by decide +kernel
theorem hd_N_operate : y_N_operate.cls ≠ "java/lang/invoke/MethodHandle" ∧ y_N_operate.cls ≠ "java/lang/invoke/VarHandle" ∧ (parseMethodDescriptor y_N_operate.desc).map (fun d => d.parameters.length) = some 3 := by decide +kernel
theorem hd_N_divide : y_N_divide.cls ≠ "java/lang/invoke/MethodHandle" ∧ y_N_divide.cls ≠ "java/lang/invoke/VarHandle" ∧ (parseMethodDescriptor y_N_divide.desc).map (fun d => d.parameters.length) = some 2 := by decide +kernel
theorem hd_N_saturate : y_N_saturate.cls ≠ "java/lang/invoke/MethodHandle" ∧ y_N_saturate.cls ≠ "java/lang/invoke/VarHandle" ∧ (parseMethodDescriptor y_N_saturate.desc).map (fun d => d.parameters.length) = some 1 := by decide +kernel
theorem hd_V_ofType : y_V_ofType.cls ≠ "java/lang/invoke/MethodHandle" ∧ y_V_ofType.cls ≠ "java/lang/invoke/VarHandle" ∧ (parseMethodDescriptor y_V_ofType.desc).map (fun d => d.parameters.length) = some 1 := by decide +kernel
theorem hd_V_typeIn : y_V_typeIn.cls ≠ "java/lang/invoke/MethodHandle" ∧ y_V_typeIn.cls ≠ "java/lang/invoke/VarHandle" ∧ (parseMethodDescriptor y_V_typeIn.desc).map (fun d => d.parameters.length) = some 1 := by decide +kernel
theorem hd_V_withNumber : y_V_withNumber.cls ≠ "java/lang/invoke/MethodHandle" ∧ y_V_withNumber.cls ≠ "java/lang/invoke/VarHandle" ∧ (parseMethodDescriptor y_V_withNumber.desc).map (fun d => d.parameters.length) = some 3 := by decide +kernel
theorem hd_V_number : y_V_number.cls ≠ "java/lang/invoke/MethodHandle" ∧ y_V_number.cls ≠ "java/lang/invoke/VarHandle" ∧ (parseMethodDescriptor y_V_number.desc).map (fun d => d.parameters.length) = some 2 := by decide +kernel
theorem hd_V_spread : y_V_spread.cls ≠ "java/lang/invoke/MethodHandle" ∧ y_V_spread.cls ≠ "java/lang/invoke/VarHandle" ∧ (parseMethodDescriptor y_V_spread.desc).map (fun d => d.parameters.length) = some 2 := by decide +kernel
end
section
theorem d_K_init_0 : decode b_K_init 0 = .ok (.aload_n 0, 1) := by decide +kernel
theorem d_K_init_1 : decode b_K_init 1 = .ok (.invokespecial 3, 3) := by decide +kernel
theorem d_K_init_4 : decode b_K_init 4 = .ok (.aload_n 0, 1) := by decide +kernel
theorem d_K_init_5 : decode b_K_init 5 = .ok (.bipush 100, 2) := by decide +kernel
theorem d_K_init_7 : decode b_K_init 7 = .ok (.newarray .int, 2) := by decide +kernel
theorem d_K_init_9 : decode b_K_init 9 = .ok (.putfield 9, 3) := by decide +kernel
theorem d_K_init_12 : decode b_K_init 12 = .ok (.aload_n 0, 1) := by decide +kernel
theorem d_K_init_13 : decode b_K_init 13 = .ok (.bipush 100, 2) := by decide +kernel
theorem d_K_init_15 : decode b_K_init 15 = .ok (.newarray .int, 2) := by decide +kernel
theorem d_K_init_17 : decode b_K_init 17 = .ok (.putfield 15, 3) := by decide +kernel
theorem d_K_init_20 : decode b_K_init 20 = .ok (.aload_n 0, 1) := by decide +kernel
theorem d_K_init_21 : decode b_K_init 21 = .ok (.bipush 100, 2) := by decide +kernel
theorem d_K_init_23 : decode b_K_init 23 = .ok (.newarray .int, 2) := by decide +kernel
theorem d_K_init_25 : decode b_K_init 25 = .ok (.putfield 18, 3) := by decide +kernel
theorem d_K_init_28 : decode b_K_init 28 = .ok (.aload_n 0, 1) := by decide +kernel
theorem d_K_init_29 : decode b_K_init 29 = .ok (.iconst 3, 1) := by decide +kernel
theorem d_K_init_30 : decode b_K_init 30 = .ok (.newarray .int, 2) := by decide +kernel
theorem d_K_init_32 : decode b_K_init 32 = .ok (.putfield 21, 3) := by decide +kernel
theorem d_K_init_35 : decode b_K_init 35 = .ok (.aload_n 0, 1) := by decide +kernel
theorem d_K_init_36 : decode b_K_init 36 = .ok (.bipush 26, 2) := by decide +kernel
theorem d_K_init_38 : decode b_K_init 38 = .ok (.newarray .int, 2) := by decide +kernel
theorem d_K_init_40 : decode b_K_init 40 = .ok (.putfield 24, 3) := by decide +kernel
theorem d_K_init_43 : decode b_K_init 43 = .ok (.aload_n 0, 1) := by decide +kernel
theorem d_K_init_44 : decode b_K_init 44 = .ok (.iconst 0, 1) := by decide +kernel
theorem d_K_init_45 : decode b_K_init 45 = .ok (.putfield 27, 3) := by decide +kernel
theorem d_K_init_48 : decode b_K_init 48 = .ok (.aload_n 0, 1) := by decide +kernel
theorem d_K_init_49 : decode b_K_init 49 = .ok (.iconst 0, 1) := by decide +kernel
theorem d_K_init_50 : decode b_K_init 50 = .ok (.putfield 31, 3) := by decide +kernel
theorem d_K_init_53 : decode b_K_init 53 = .ok (.return_, 1) := by decide +kernel
theorem d_K_clear_0 : decode b_K_clear 0 = .ok (.aload_n 0, 1) := by decide +kernel
theorem d_K_clear_1 : decode b_K_clear 1 = .ok (.iconst 0, 1) := by decide +kernel
theorem d_K_clear_2 : decode b_K_clear 2 = .ok (.putfield 27, 3) := by decide +kernel
theorem d_K_clear_5 : decode b_K_clear 5 = .ok (.aload_n 0, 1) := by decide +kernel
theorem d_K_clear_6 : decode b_K_clear 6 = .ok (.iconst 0, 1) := by decide +kernel
theorem d_K_clear_7 : decode b_K_clear 7 = .ok (.putfield 31, 3) := by decide +kernel
theorem d_K_clear_10 : decode b_K_clear 10 = .ok (.return_, 1) := by decide +kernel
theorem d_K_put_0 : decode b_K_put 0 = .ok (.iconst 0, 1) := by decide +kernel
theorem d_K_put_1 : decode b_K_put 1 = .ok (.istore 4, 2) := by decide +kernel
theorem d_K_put_3 : decode b_K_put 3 = .ok (.iload 4, 2) := by decide +kernel
theorem d_K_put_5 : decode b_K_put 5 = .ok (.aload_n 0, 1) := by decide +kernel
theorem d_K_put_6 : decode b_K_put 6 = .ok (.getfield 27, 3) := by decide +kernel
theorem d_K_put_9 : decode b_K_put 9 = .ok (.if_icmp .ge 45, 3) := by decide +kernel
theorem d_K_put_12 : decode b_K_put 12 = .ok (.aload_n 0, 1) := by decide +kernel
theorem d_K_put_13 : decode b_K_put 13 = .ok (.getfield 9, 3) := by decide +kernel
theorem d_K_put_16 : decode b_K_put 16 = .ok (.iload 4, 2) := by decide +kernel
theorem d_K_put_18 : decode b_K_put 18 = .ok (.iaload, 1) := by decide +kernel
theorem d_K_put_19 : decode b_K_put 19 = .ok (.iload_n 1, 1) := by decide +kernel
theorem d_K_put_20 : decode b_K_put 20 = .ok (.if_icmp .ne 28, 3) := by decide +kernel
theorem d_K_put_23 : decode b_K_put 23 = .ok (.aload_n 0, 1) := by decide +kernel
theorem d_K_put_24 : decode b_K_put 24 = .ok (.getfield 15, 3) := by decide +kernel
theorem d_K_put_27 : decode b_K_put 27 = .ok (.iload 4, 2) := by decide +kernel
theorem d_K_put_29 : decode b_K_put 29 = .ok (.iaload, 1) := by decide +kernel
theorem d_K_put_30 : decode b_K_put 30 = .ok (.iload_n 2, 1) := by decide +kernel
theorem d_K_put_31 : decode b_K_put 31 = .ok (.if_icmp .ne 17, 3) := by decide +kernel
theorem d_K_put_34 : decode b_K_put 34 = .ok (.aload_n 0, 1) := by decide +kernel
theorem d_K_put_35 : decode b_K_put 35 = .ok (.getfield 18, 3) := by decide +kernel
theorem d_K_put_38 : decode b_K_put 38 = .ok (.iload 4, 2) := by decide +kernel
theorem d_K_put_40 : decode b_K_put 40 = .ok (.iaload, 1) := by decide +kernel
theorem d_K_put_41 : decode b_K_put 41 = .ok (.iload_n 3, 1) := by decide +kernel
theorem d_K_put_42 : decode b_K_put 42 = .ok (.if_icmp .ne 6, 3) := by decide +kernel
theorem d_K_put_45 : decode b_K_put 45 = .ok (.iload 4, 2) := by decide +kernel
theorem d_K_put_47 : decode b_K_put 47 = .ok (.ireturn, 1) := by decide +kernel
theorem d_K_put_48 : decode b_K_put 48 = .ok (.iinc 4 1, 3) := by decide +kernel
theorem d_K_put_51 : decode b_K_put 51 = .ok (.goto (-48), 3) := by decide +kernel
theorem d_K_put_54 : decode b_K_put 54 = .ok (.aload_n 0, 1) := by decide +kernel
theorem d_K_put_55 : decode b_K_put 55 = .ok (.getfield 27, 3) := by decide +kernel
theorem d_K_put_58 : decode b_K_put 58 = .ok (.bipush 100, 2) := by decide +kernel
theorem d_K_put_60 : decode b_K_put 60 = .ok (.if_icmp .ne 10, 3) := by decide +kernel
theorem d_K_put_63 : decode b_K_put 63 = .ok (.aload_n 0, 1) := by decide +kernel
theorem d_K_put_64 : decode b_K_put 64 = .ok (.iconst 1, 1) := by decide +kernel
theorem d_K_put_65 : decode b_K_put 65 = .ok (.putfield 31, 3) := by decide +kernel
theorem d_K_put_68 : decode b_K_put 68 = .ok (.iconst 0, 1) := by decide +kernel
theorem d_K_put_69 : decode b_K_put 69 = .ok (.ireturn, 1) := by decide +kernel
theorem d_K_put_70 : decode b_K_put 70 = .ok (.aload_n 0, 1) := by decide +kernel
theorem d_K_put_71 : decode b_K_put 71 = .ok (.getfield 9, 3) := by decide +kernel
theorem d_K_put_74 : decode b_K_put 74 = .ok (.aload_n 0, 1) := by decide +kernel
theorem d_K_put_75 : decode b_K_put 75 = .ok (.getfield 27, 3) := by decide +kernel
theorem d_K_put_78 : decode b_K_put 78 = .ok (.iload_n 1, 1) := by decide +kernel
theorem d_K_put_79 : decode b_K_put 79 = .ok (.iastore, 1) := by decide +kernel
theorem d_K_put_80 : decode b_K_put 80 = .ok (.aload_n 0, 1) := by decide +kernel
theorem d_K_put_81 : decode b_K_put 81 = .ok (.getfield 15, 3) := by decide +kernel
theorem d_K_put_84 : decode b_K_put 84 = .ok (.aload_n 0, 1) := by decide +kernel
theorem d_K_put_85 : decode b_K_put 85 = .ok (.getfield 27, 3) := by decide +kernel
theorem d_K_put_88 : decode b_K_put 88 = .ok (.iload_n 2, 1) := by decide +kernel
theorem d_K_put_89 : decode b_K_put 89 = .ok (.iastore, 1) := by decide +kernel
theorem d_K_put_90 : decode b_K_put 90 = .ok (.aload_n 0, 1) := by decide +kernel
theorem d_K_put_91 : decode b_K_put 91 = .ok (.getfield 18, 3) := by decide +kernel
theorem d_K_put_94 : decode b_K_put 94 = .ok (.aload_n 0, 1) := by decide +kernel
theorem d_K_put_95 : decode b_K_put 95 = .ok (.getfield 27, 3) := by decide +kernel
theorem d_K_put_98 : decode b_K_put 98 = .ok (.iload_n 3, 1) := by decide +kernel
theorem d_K_put_99 : decode b_K_put 99 = .ok (.iastore, 1) := by decide +kernel
theorem d_K_put_100 : decode b_K_put 100 = .ok (.aload_n 0, 1) := by decide +kernel
theorem d_K_put_101 : decode b_K_put 101 = .ok (.dup, 1) := by decide +kernel
theorem d_K_put_102 : decode b_K_put 102 = .ok (.getfield 27, 3) := by decide +kernel
theorem d_K_put_105 : decode b_K_put 105 = .ok (.iconst 1, 1) := by decide +kernel
theorem d_K_put_106 : decode b_K_put 106 = .ok (.iadd, 1) := by decide +kernel
theorem d_K_put_107 : decode b_K_put 107 = .ok (.putfield 27, 3) := by decide +kernel
theorem d_K_put_110 : decode b_K_put 110 = .ok (.aload_n 0, 1) := by decide +kernel
theorem d_K_put_111 : decode b_K_put 111 = .ok (.getfield 27, 3) := by decide +kernel
theorem d_K_put_114 : decode b_K_put 114 = .ok (.iconst 1, 1) := by decide +kernel
theorem d_K_put_115 : decode b_K_put 115 = .ok (.isub, 1) := by decide +kernel
theorem d_K_put_116 : decode b_K_put 116 = .ok (.ireturn, 1) := by decide +kernel
theorem d_V_ofType_0 : decode b_V_ofType 0 = .ok (.iload_n 0, 1) := by decide +kernel
theorem d_V_ofType_1 : decode b_V_ofType 1 = .ok (.bipush 28, 2) := by decide +kernel
theorem d_V_ofType_3 : decode b_V_ofType 3 = .ok (.ishl, 1) := by decide +kernel
theorem d_V_ofType_4 : decode b_V_ofType 4 = .ok (.ireturn, 1) := by decide +kernel
theorem d_V_typeIn_0 : decode b_V_typeIn 0 = .ok (.iload_n 0, 1) := by decide +kernel
theorem d_V_typeIn_1 : decode b_V_typeIn 1 = .ok (.bipush 28, 2) := by decide +kernel
theorem d_V_typeIn_3 : decode b_V_typeIn 3 = .ok (.ishr, 1) := by decide +kernel
theorem d_V_typeIn_4 : decode b_V_typeIn 4 = .ok (.ireturn, 1) := by decide +kernel
theorem d_V_withNumber_0 : decode b_V_withNumber 0 = .ok (.iload_n 0, 1) := by decide +kernel
theorem d_V_withNumber_1 : decode b_V_withNumber 1 = .ok (.iload_n 2, 1) := by decide +kernel
theorem d_V_withNumber_2 : decode b_V_withNumber 2 = .ok (.bipush 7, 2) := by decide +kernel
theorem d_V_withNumber_4 : decode b_V_withNumber 4 = .ok (.iload_n 1, 1) := by decide +kernel
theorem d_V_withNumber_5 : decode b_V_withNumber 5 = .ok (.imul, 1) := by decide +kernel
theorem d_V_withNumber_6 : decode b_V_withNumber 6 = .ok (.ishl, 1) := by decide +kernel
theorem d_V_withNumber_7 : decode b_V_withNumber 7 = .ok (.ior, 1) := by decide +kernel
theorem d_V_withNumber_8 : decode b_V_withNumber 8 = .ok (.ireturn, 1) := by decide +kernel
theorem d_V_number_0 : decode b_V_number 0 = .ok (.iload_n 0, 1) := by decide +kernel
theorem d_V_number_1 : decode b_V_number 1 = .ok (.bipush 7, 2) := by decide +kernel
theorem d_V_number_3 : decode b_V_number 3 = .ok (.iload_n 1, 1) := by decide +kernel
theorem d_V_number_4 : decode b_V_number 4 = .ok (.imul, 1) := by decide +kernel
theorem d_V_number_5 : decode b_V_number 5 = .ok (.ishr, 1) := by decide +kernel
theorem d_V_number_6 : decode b_V_number 6 = .ok (.bipush 127, 2) := by decide +kernel
theorem d_V_number_8 : decode b_V_number 8 = .ok (.iand, 1) := by decide +kernel
theorem d_V_number_9 : decode b_V_number 9 = .ok (.ireturn, 1) := by decide +kernel
theorem d_V_spread_0 : decode b_V_spread 0 = .ok (.iload_n 0, 1) := by decide +kernel
theorem d_V_spread_1 : decode b_V_spread 1 = .ok (.iload_n 0, 1) := by decide +kernel
theorem d_V_spread_2 : decode b_V_spread 2 = .ok (.invokestatic 11, 3) := by decide +kernel
theorem d_V_spread_5 : decode b_V_spread 5 = .ok (.iconst 1, 1) := by decide +kernel
theorem d_V_spread_6 : decode b_V_spread 6 = .ok (.if_icmp .ne 7, 3) := by decide +kernel
theorem d_V_spread_9 : decode b_V_spread 9 = .ok (.iconst 0, 1) := by decide +kernel
theorem d_V_spread_10 : decode b_V_spread 10 = .ok (.goto 4, 3) := by decide +kernel
theorem d_V_spread_13 : decode b_V_spread 13 = .ok (.iload_n 1, 1) := by decide +kernel
theorem d_V_spread_14 : decode b_V_spread 14 = .ok (.invokestatic 15, 3) := by decide +kernel
theorem d_V_spread_17 : decode b_V_spread 17 = .ok (.ireturn, 1) := by decide +kernel
theorem d_N_operate_0 : decode b_N_operate 0 = .ok (.iload_n 0, 1) := by decide +kernel
theorem d_N_operate_1 : decode b_N_operate 1 = .ok (.tableswitch 136 2 11 #[55, 64, 73, 85, 91, 97, 103, 115, 122, 131], 55) := by decide +kernel
theorem d_N_operate_56 : decode b_N_operate 56 = .ok (.iload_n 1, 1) := by decide +kernel
theorem d_N_operate_57 : decode b_N_operate 57 = .ok (.i2l, 1) := by decide +kernel
theorem d_N_operate_58 : decode b_N_operate 58 = .ok (.iload_n 2, 1) := by decide +kernel
theorem d_N_operate_59 : decode b_N_operate 59 = .ok (.i2l, 1) := by decide +kernel
theorem d_N_operate_60 : decode b_N_operate 60 = .ok (.ladd, 1) := by decide +kernel
theorem d_N_operate_61 : decode b_N_operate 61 = .ok (.invokestatic 9, 3) := by decide +kernel
theorem d_N_operate_64 : decode b_N_operate 64 = .ok (.ireturn, 1) := by decide +kernel
theorem d_N_operate_65 : decode b_N_operate 65 = .ok (.iload_n 1, 1) := by decide +kernel
theorem d_N_operate_66 : decode b_N_operate 66 = .ok (.i2l, 1) := by decide +kernel
theorem d_N_operate_67 : decode b_N_operate 67 = .ok (.iload_n 2, 1) := by decide +kernel
theorem d_N_operate_68 : decode b_N_operate 68 = .ok (.i2l, 1) := by decide +kernel
theorem d_N_operate_69 : decode b_N_operate 69 = .ok (.lsub, 1) := by decide +kernel
theorem d_N_operate_70 : decode b_N_operate 70 = .ok (.invokestatic 9, 3) := by decide +kernel
theorem d_N_operate_73 : decode b_N_operate 73 = .ok (.ireturn, 1) := by decide +kernel
theorem d_N_operate_74 : decode b_N_operate 74 = .ok (.iload_n 1, 1) := by decide +kernel
theorem d_N_operate_75 : decode b_N_operate 75 = .ok (.i2l, 1) := by decide +kernel
theorem d_N_operate_76 : decode b_N_operate 76 = .ok (.iload_n 2, 1) := by decide +kernel
theorem d_N_operate_77 : decode b_N_operate 77 = .ok (.i2l, 1) := by decide +kernel
theorem d_N_operate_78 : decode b_N_operate 78 = .ok (.lmul, 1) := by decide +kernel
theorem d_N_operate_79 : decode b_N_operate 79 = .ok (.bipush 16, 2) := by decide +kernel
theorem d_N_operate_81 : decode b_N_operate 81 = .ok (.lshr, 1) := by decide +kernel
theorem d_N_operate_82 : decode b_N_operate 82 = .ok (.invokestatic 9, 3) := by decide +kernel
theorem d_N_operate_85 : decode b_N_operate 85 = .ok (.ireturn, 1) := by decide +kernel
theorem d_N_operate_86 : decode b_N_operate 86 = .ok (.iload_n 1, 1) := by decide +kernel
theorem d_N_operate_87 : decode b_N_operate 87 = .ok (.iload_n 2, 1) := by decide +kernel
theorem d_N_operate_88 : decode b_N_operate 88 = .ok (.invokestatic 15, 3) := by decide +kernel
theorem d_N_operate_91 : decode b_N_operate 91 = .ok (.ireturn, 1) := by decide +kernel
theorem d_N_operate_92 : decode b_N_operate 92 = .ok (.iload_n 1, 1) := by decide +kernel
theorem d_N_operate_93 : decode b_N_operate 93 = .ok (.iload_n 2, 1) := by decide +kernel
theorem d_N_operate_94 : decode b_N_operate 94 = .ok (.invokestatic 19, 3) := by decide +kernel
theorem d_N_operate_97 : decode b_N_operate 97 = .ok (.ireturn, 1) := by decide +kernel
theorem d_N_operate_98 : decode b_N_operate 98 = .ok (.iload_n 1, 1) := by decide +kernel
theorem d_N_operate_99 : decode b_N_operate 99 = .ok (.iload_n 2, 1) := by decide +kernel
theorem d_N_operate_100 : decode b_N_operate 100 = .ok (.invokestatic 24, 3) := by decide +kernel
theorem d_N_operate_103 : decode b_N_operate 103 = .ok (.ireturn, 1) := by decide +kernel
theorem d_N_operate_104 : decode b_N_operate 104 = .ok (.iload_n 1, 1) := by decide +kernel
theorem d_N_operate_105 : decode b_N_operate 105 = .ok (.iload_n 2, 1) := by decide +kernel
theorem d_N_operate_106 : decode b_N_operate 106 = .ok (.if_icmp .gt 8, 3) := by decide +kernel
theorem d_N_operate_109 : decode b_N_operate 109 = .ok (.ldc 27, 2) := by decide +kernel
theorem d_N_operate_111 : decode b_N_operate 111 = .ok (.goto 4, 3) := by decide +kernel
theorem d_N_operate_114 : decode b_N_operate 114 = .ok (.iconst 0, 1) := by decide +kernel
theorem d_N_operate_115 : decode b_N_operate 115 = .ok (.ireturn, 1) := by decide +kernel
theorem d_N_operate_116 : decode b_N_operate 116 = .ok (.iload_n 1, 1) := by decide +kernel
theorem d_N_operate_117 : decode b_N_operate 117 = .ok (.i2l, 1) := by decide +kernel
theorem d_N_operate_118 : decode b_N_operate 118 = .ok (.lneg, 1) := by decide +kernel
theorem d_N_operate_119 : decode b_N_operate 119 = .ok (.invokestatic 9, 3) := by decide +kernel
theorem d_N_operate_122 : decode b_N_operate 122 = .ok (.ireturn, 1) := by decide +kernel
theorem d_N_operate_123 : decode b_N_operate 123 = .ok (.iload_n 1, 1) := by decide +kernel
theorem d_N_operate_124 : decode b_N_operate 124 = .ok (.i2l, 1) := by decide +kernel
theorem d_N_operate_125 : decode b_N_operate 125 = .ok (.invokestatic 28, 3) := by decide +kernel
theorem d_N_operate_128 : decode b_N_operate 128 = .ok (.invokestatic 9, 3) := by decide +kernel
theorem d_N_operate_131 : decode b_N_operate 131 = .ok (.ireturn, 1) := by decide +kernel
theorem d_N_operate_132 : decode b_N_operate 132 = .ok (.iload_n 1, 1) := by decide +kernel
theorem d_N_operate_133 : decode b_N_operate 133 = .ok (.ldc 32, 2) := by decide +kernel
theorem d_N_operate_135 : decode b_N_operate 135 = .ok (.iand, 1) := by decide +kernel
theorem d_N_operate_136 : decode b_N_operate 136 = .ok (.ireturn, 1) := by decide +kernel
theorem d_N_operate_137 : decode b_N_operate 137 = .ok (.iconst 0, 1) := by decide +kernel
theorem d_N_operate_138 : decode b_N_operate 138 = .ok (.ireturn, 1) := by decide +kernel
theorem d_N_divide_0 : decode b_N_divide 0 = .ok (.iload_n 1, 1) := by decide +kernel
theorem d_N_divide_1 : decode b_N_divide 1 = .ok (.ifCond .eq 16, 3) := by decide +kernel
theorem d_N_divide_4 : decode b_N_divide 4 = .ok (.iload_n 0, 1) := by decide +kernel
theorem d_N_divide_5 : decode b_N_divide 5 = .ok (.i2l, 1) := by decide +kernel
theorem d_N_divide_6 : decode b_N_divide 6 = .ok (.ldc2_w 33, 3) := by decide +kernel
theorem d_N_divide_9 : decode b_N_divide 9 = .ok (.lmul, 1) := by decide +kernel
theorem d_N_divide_10 : decode b_N_divide 10 = .ok (.iload_n 1, 1) := by decide +kernel
theorem d_N_divide_11 : decode b_N_divide 11 = .ok (.i2l, 1) := by decide +kernel
theorem d_N_divide_12 : decode b_N_divide 12 = .ok (.ldiv, 1) := by decide +kernel
theorem d_N_divide_13 : decode b_N_divide 13 = .ok (.invokestatic 9, 3) := by decide +kernel
theorem d_N_divide_16 : decode b_N_divide 16 = .ok (.ireturn, 1) := by decide +kernel
theorem d_N_divide_17 : decode b_N_divide 17 = .ok (.iload_n 0, 1) := by decide +kernel
theorem d_N_divide_18 : decode b_N_divide 18 = .ok (.ifCond .ne 5, 3) := by decide +kernel
theorem d_N_divide_21 : decode b_N_divide 21 = .ok (.iconst 0, 1) := by decide +kernel
theorem d_N_divide_22 : decode b_N_divide 22 = .ok (.ireturn, 1) := by decide +kernel
theorem d_N_divide_23 : decode b_N_divide 23 = .ok (.iload_n 0, 1) := by decide +kernel
theorem d_N_divide_24 : decode b_N_divide 24 = .ok (.ifCond .le 8, 3) := by decide +kernel
theorem d_N_divide_27 : decode b_N_divide 27 = .ok (.ldc 35, 2) := by decide +kernel
theorem d_N_divide_29 : decode b_N_divide 29 = .ok (.goto 5, 3) := by decide +kernel
theorem d_N_divide_32 : decode b_N_divide 32 = .ok (.ldc 36, 2) := by decide +kernel
theorem d_N_divide_34 : decode b_N_divide 34 = .ok (.ireturn, 1) := by decide +kernel
theorem d_N_saturate_0 : decode b_N_saturate 0 = .ok (.lload_n 0, 1) := by decide +kernel
theorem d_N_saturate_1 : decode b_N_saturate 1 = .ok (.ldc2_w 37, 3) := by decide +kernel
theorem d_N_saturate_4 : decode b_N_saturate 4 = .ok (.lcmp, 1) := by decide +kernel
theorem d_N_saturate_5 : decode b_N_saturate 5 = .ok (.ifCond .le 6, 3) := by decide +kernel
theorem d_N_saturate_8 : decode b_N_saturate 8 = .ok (.ldc 35, 2) := by decide +kernel
theorem d_N_saturate_10 : decode b_N_saturate 10 = .ok (.ireturn, 1) := by decide +kernel
theorem d_N_saturate_11 : decode b_N_saturate 11 = .ok (.lload_n 0, 1) := by decide +kernel
theorem d_N_saturate_12 : decode b_N_saturate 12 = .ok (.ldc2_w 39, 3) := by decide +kernel
theorem d_N_saturate_15 : decode b_N_saturate 15 = .ok (.lcmp, 1) := by decide +kernel
theorem d_N_saturate_16 : decode b_N_saturate 16 = .ok (.ifCond .ge 8, 3) := by decide +kernel
theorem d_N_saturate_19 : decode b_N_saturate 19 = .ok (.ldc 36, 2) := by decide +kernel
theorem d_N_saturate_21 : decode b_N_saturate 21 = .ok (.goto 5, 3) := by decide +kernel
theorem d_N_saturate_24 : decode b_N_saturate 24 = .ok (.lload_n 0, 1) := by decide +kernel
theorem d_N_saturate_25 : decode b_N_saturate 25 = .ok (.l2i, 1) := by decide +kernel
theorem d_N_saturate_26 : decode b_N_saturate 26 = .ok (.ireturn, 1) := by decide +kernel
theorem d_H_init_0 : decode b_H_init 0 = .ok (.aload_n 0, 1) := by decide +kernel
theorem d_H_init_1 : decode b_H_init 1 = .ok (.invokespecial 3, 3) := by decide +kernel
theorem d_H_init_4 : decode b_H_init 4 = .ok (.aload_n 0, 1) := by decide +kernel
theorem d_H_init_5 : decode b_H_init 5 = .ok (.bipush 100, 2) := by decide +kernel
theorem d_H_init_7 : decode b_H_init 7 = .ok (.newarray .int, 2) := by decide +kernel
theorem d_H_init_9 : decode b_H_init 9 = .ok (.putfield 9, 3) := by decide +kernel
theorem d_H_init_12 : decode b_H_init 12 = .ok (.aload_n 0, 1) := by decide +kernel
theorem d_H_init_13 : decode b_H_init 13 = .ok (.bipush 6, 2) := by decide +kernel
theorem d_H_init_15 : decode b_H_init 15 = .ok (.newarray .int, 2) := by decide +kernel
theorem d_H_init_17 : decode b_H_init 17 = .ok (.putfield 15, 3) := by decide +kernel
theorem d_H_init_20 : decode b_H_init 20 = .ok (.return_, 1) := by decide +kernel
theorem d_H_work_0 : decode b_H_work 0 = .ok (.aload_n 0, 1) := by decide +kernel
theorem d_H_work_1 : decode b_H_work 1 = .ok (.getfield 15, 3) := by decide +kernel
theorem d_H_work_4 : decode b_H_work 4 = .ok (.iconst 0, 1) := by decide +kernel
theorem d_H_work_5 : decode b_H_work 5 = .ok (.iload_n 2, 1) := by decide +kernel
theorem d_H_work_6 : decode b_H_work 6 = .ok (.iastore, 1) := by decide +kernel
theorem d_H_work_7 : decode b_H_work 7 = .ok (.aload_n 0, 1) := by decide +kernel
theorem d_H_work_8 : decode b_H_work 8 = .ok (.getfield 15, 3) := by decide +kernel
theorem d_H_work_11 : decode b_H_work 11 = .ok (.iconst 1, 1) := by decide +kernel
theorem d_H_work_12 : decode b_H_work 12 = .ok (.iload_n 3, 1) := by decide +kernel
theorem d_H_work_13 : decode b_H_work 13 = .ok (.iastore, 1) := by decide +kernel
theorem d_H_work_14 : decode b_H_work 14 = .ok (.aload_n 0, 1) := by decide +kernel
theorem d_H_work_15 : decode b_H_work 15 = .ok (.getfield 15, 3) := by decide +kernel
theorem d_H_work_18 : decode b_H_work 18 = .ok (.iconst 2, 1) := by decide +kernel
theorem d_H_work_19 : decode b_H_work 19 = .ok (.iload 4, 2) := by decide +kernel
theorem d_H_work_21 : decode b_H_work 21 = .ok (.iastore, 1) := by decide +kernel
theorem d_H_work_22 : decode b_H_work 22 = .ok (.iconst 0, 1) := by decide +kernel
theorem d_H_work_23 : decode b_H_work 23 = .ok (.istore 6, 2) := by decide +kernel
theorem d_H_work_25 : decode b_H_work 25 = .ok (.iload 6, 2) := by decide +kernel
theorem d_H_work_27 : decode b_H_work 27 = .ok (.iconst 3, 1) := by decide +kernel
theorem d_H_work_28 : decode b_H_work 28 = .ok (.if_icmp .ge 37, 3) := by decide +kernel
theorem d_H_work_31 : decode b_H_work 31 = .ok (.aload_n 0, 1) := by decide +kernel
theorem d_H_work_32 : decode b_H_work 32 = .ok (.getfield 15, 3) := by decide +kernel
theorem d_H_work_35 : decode b_H_work 35 = .ok (.iconst 3, 1) := by decide +kernel
theorem d_H_work_36 : decode b_H_work 36 = .ok (.iload 6, 2) := by decide +kernel
theorem d_H_work_38 : decode b_H_work 38 = .ok (.iadd, 1) := by decide +kernel
theorem d_H_work_39 : decode b_H_work 39 = .ok (.iload 5, 2) := by decide +kernel
theorem d_H_work_41 : decode b_H_work 41 = .ok (.bipush 16, 2) := by decide +kernel
theorem d_H_work_43 : decode b_H_work 43 = .ok (.bipush 8, 2) := by decide +kernel
theorem d_H_work_45 : decode b_H_work 45 = .ok (.iload 6, 2) := by decide +kernel
theorem d_H_work_47 : decode b_H_work 47 = .ok (.imul, 1) := by decide +kernel
theorem d_H_work_48 : decode b_H_work 48 = .ok (.isub, 1) := by decide +kernel
theorem d_H_work_49 : decode b_H_work 49 = .ok (.ishr, 1) := by decide +kernel
theorem d_H_work_50 : decode b_H_work 50 = .ok (.sipush 255, 3) := by decide +kernel
theorem d_H_work_53 : decode b_H_work 53 = .ok (.iand, 1) := by decide +kernel
theorem d_H_work_54 : decode b_H_work 54 = .ok (.sipush 256, 3) := by decide +kernel
theorem d_H_work_57 : decode b_H_work 57 = .ok (.imul, 1) := by decide +kernel
theorem d_H_work_58 : decode b_H_work 58 = .ok (.iastore, 1) := by decide +kernel
theorem d_H_work_59 : decode b_H_work 59 = .ok (.iinc 6 1, 3) := by decide +kernel
theorem d_H_work_62 : decode b_H_work 62 = .ok (.goto (-37), 3) := by decide +kernel
theorem d_H_work_65 : decode b_H_work 65 = .ok (.iconst 0, 1) := by decide +kernel
theorem d_H_work_66 : decode b_H_work 66 = .ok (.istore 6, 2) := by decide +kernel
theorem d_H_work_68 : decode b_H_work 68 = .ok (.iload 6, 2) := by decide +kernel
theorem d_H_work_70 : decode b_H_work 70 = .ok (.aload_n 1, 1) := by decide +kernel
theorem d_H_work_71 : decode b_H_work 71 = .ok (.getfield 18, 3) := by decide +kernel
theorem d_H_work_74 : decode b_H_work 74 = .ok (.if_icmp .ge 41, 3) := by decide +kernel
theorem d_H_work_77 : decode b_H_work 77 = .ok (.aload_n 0, 1) := by decide +kernel
theorem d_H_work_78 : decode b_H_work 78 = .ok (.getfield 9, 3) := by decide +kernel
theorem d_H_work_81 : decode b_H_work 81 = .ok (.iload 6, 2) := by decide +kernel
theorem d_H_work_83 : decode b_H_work 83 = .ok (.aload_n 0, 1) := by decide +kernel
theorem d_H_work_84 : decode b_H_work 84 = .ok (.aload_n 1, 1) := by decide +kernel
theorem d_H_work_85 : decode b_H_work 85 = .ok (.getfield 24, 3) := by decide +kernel
theorem d_H_work_88 : decode b_H_work 88 = .ok (.iload 6, 2) := by decide +kernel
theorem d_H_work_90 : decode b_H_work 90 = .ok (.iaload, 1) := by decide +kernel
theorem d_H_work_91 : decode b_H_work 91 = .ok (.aload_n 1, 1) := by decide +kernel
theorem d_H_work_92 : decode b_H_work 92 = .ok (.getfield 27, 3) := by decide +kernel
theorem d_H_work_95 : decode b_H_work 95 = .ok (.iload 6, 2) := by decide +kernel
theorem d_H_work_97 : decode b_H_work 97 = .ok (.iaload, 1) := by decide +kernel
theorem d_H_work_98 : decode b_H_work 98 = .ok (.aload_n 1, 1) := by decide +kernel
theorem d_H_work_99 : decode b_H_work 99 = .ok (.getfield 30, 3) := by decide +kernel
theorem d_H_work_102 : decode b_H_work 102 = .ok (.iload 6, 2) := by decide +kernel
theorem d_H_work_104 : decode b_H_work 104 = .ok (.iaload, 1) := by decide +kernel
theorem d_H_work_105 : decode b_H_work 105 = .ok (.invokevirtual 33, 3) := by decide +kernel
theorem d_H_work_108 : decode b_H_work 108 = .ok (.iastore, 1) := by decide +kernel
theorem d_H_work_109 : decode b_H_work 109 = .ok (.iinc 6 1, 3) := by decide +kernel
theorem d_H_work_112 : decode b_H_work 112 = .ok (.goto (-44), 3) := by decide +kernel
theorem d_H_work_115 : decode b_H_work 115 = .ok (.return_, 1) := by decide +kernel
theorem d_H_make_0 : decode b_H_make 0 = .ok (.iload_n 1, 1) := by decide +kernel
theorem d_H_make_1 : decode b_H_make 1 = .ok (.ifCond .ne 5, 3) := by decide +kernel
theorem d_H_make_4 : decode b_H_make 4 = .ok (.iload_n 2, 1) := by decide +kernel
theorem d_H_make_5 : decode b_H_make 5 = .ok (.ireturn, 1) := by decide +kernel
theorem d_H_make_6 : decode b_H_make 6 = .ok (.iload_n 1, 1) := by decide +kernel
theorem d_H_make_7 : decode b_H_make 7 = .ok (.iconst 1, 1) := by decide +kernel
theorem d_H_make_8 : decode b_H_make 8 = .ok (.if_icmp .ne 10, 3) := by decide +kernel
theorem d_H_make_11 : decode b_H_make 11 = .ok (.aload_n 0, 1) := by decide +kernel
theorem d_H_make_12 : decode b_H_make 12 = .ok (.getfield 15, 3) := by decide +kernel
theorem d_H_make_15 : decode b_H_make 15 = .ok (.iload_n 2, 1) := by decide +kernel
theorem d_H_make_16 : decode b_H_make 16 = .ok (.iaload, 1) := by decide +kernel
theorem d_H_make_17 : decode b_H_make 17 = .ok (.ireturn, 1) := by decide +kernel
theorem d_H_make_18 : decode b_H_make 18 = .ok (.iload_n 1, 1) := by decide +kernel
theorem d_H_make_19 : decode b_H_make 19 = .ok (.aload_n 0, 1) := by decide +kernel
theorem d_H_make_20 : decode b_H_make 20 = .ok (.getfield 9, 3) := by decide +kernel
theorem d_H_make_23 : decode b_H_make 23 = .ok (.iload_n 2, 1) := by decide +kernel
theorem d_H_make_24 : decode b_H_make 24 = .ok (.iaload, 1) := by decide +kernel
theorem d_H_make_25 : decode b_H_make 25 = .ok (.aload_n 0, 1) := by decide +kernel
theorem d_H_make_26 : decode b_H_make 26 = .ok (.getfield 9, 3) := by decide +kernel
theorem d_H_make_29 : decode b_H_make 29 = .ok (.iload_n 3, 1) := by decide +kernel
theorem d_H_make_30 : decode b_H_make 30 = .ok (.iaload, 1) := by decide +kernel
theorem d_H_make_31 : decode b_H_make 31 = .ok (.invokestatic 37, 3) := by decide +kernel
theorem d_H_make_34 : decode b_H_make 34 = .ok (.ireturn, 1) := by decide +kernel
theorem d_H_colorOf_0 : decode b_H_colorOf 0 = .ok (.iconst 0, 1) := by decide +kernel
theorem d_H_colorOf_1 : decode b_H_colorOf 1 = .ok (.istore_n 2, 1) := by decide +kernel
theorem d_H_colorOf_2 : decode b_H_colorOf 2 = .ok (.iconst 0, 1) := by decide +kernel
theorem d_H_colorOf_3 : decode b_H_colorOf 3 = .ok (.istore_n 3, 1) := by decide +kernel
theorem d_H_colorOf_4 : decode b_H_colorOf 4 = .ok (.iload_n 3, 1) := by decide +kernel
theorem d_H_colorOf_5 : decode b_H_colorOf 5 = .ok (.iconst 3, 1) := by decide +kernel
theorem d_H_colorOf_6 : decode b_H_colorOf 6 = .ok (.if_icmp .ge 43, 3) := by decide +kernel
theorem d_H_colorOf_9 : decode b_H_colorOf 9 = .ok (.aload_n 0, 1) := by decide +kernel
theorem d_H_colorOf_10 : decode b_H_colorOf 10 = .ok (.getfield 9, 3) := by decide +kernel
theorem d_H_colorOf_13 : decode b_H_colorOf 13 = .ok (.aload_n 1, 1) := by decide +kernel
theorem d_H_colorOf_14 : decode b_H_colorOf 14 = .ok (.getfield 42, 3) := by decide +kernel
theorem d_H_colorOf_17 : decode b_H_colorOf 17 = .ok (.iload_n 3, 1) := by decide +kernel
theorem d_H_colorOf_18 : decode b_H_colorOf 18 = .ok (.iaload, 1) := by decide +kernel
theorem d_H_colorOf_19 : decode b_H_colorOf 19 = .ok (.iaload, 1) := by decide +kernel
theorem d_H_colorOf_20 : decode b_H_colorOf 20 = .ok (.bipush 8, 2) := by decide +kernel
theorem d_H_colorOf_22 : decode b_H_colorOf 22 = .ok (.ishr, 1) := by decide +kernel
theorem d_H_colorOf_23 : decode b_H_colorOf 23 = .ok (.istore 4, 2) := by decide +kernel
theorem d_H_colorOf_25 : decode b_H_colorOf 25 = .ok (.iload_n 2, 1) := by decide +kernel
theorem d_H_colorOf_26 : decode b_H_colorOf 26 = .ok (.bipush 8, 2) := by decide +kernel
theorem d_H_colorOf_28 : decode b_H_colorOf 28 = .ok (.ishl, 1) := by decide +kernel
theorem d_H_colorOf_29 : decode b_H_colorOf 29 = .ok (.iconst 0, 1) := by decide +kernel
theorem d_H_colorOf_30 : decode b_H_colorOf 30 = .ok (.sipush 255, 3) := by decide +kernel
theorem d_H_colorOf_33 : decode b_H_colorOf 33 = .ok (.iload 4, 2) := by decide +kernel
theorem d_H_colorOf_35 : decode b_H_colorOf 35 = .ok (.invokestatic 45, 3) := by decide +kernel
theorem d_H_colorOf_38 : decode b_H_colorOf 38 = .ok (.invokestatic 51, 3) := by decide +kernel
theorem d_H_colorOf_41 : decode b_H_colorOf 41 = .ok (.ior, 1) := by decide +kernel
theorem d_H_colorOf_42 : decode b_H_colorOf 42 = .ok (.istore_n 2, 1) := by decide +kernel
theorem d_H_colorOf_43 : decode b_H_colorOf 43 = .ok (.iinc 3 1, 3) := by decide +kernel
theorem d_H_colorOf_46 : decode b_H_colorOf 46 = .ok (.goto (-42), 3) := by decide +kernel
theorem d_H_colorOf_49 : decode b_H_colorOf 49 = .ok (.iload_n 2, 1) := by decide +kernel
theorem d_H_colorOf_50 : decode b_H_colorOf 50 = .ok (.ireturn, 1) := by decide +kernel
end
section
theorem d_C_init_0 : decode b_C_init 0 = .ok (.aload_n 0, 1) := by decide +kernel
theorem d_C_init_1 : decode b_C_init 1 = .ok (.invokespecial 3, 3) := by decide +kernel
theorem d_C_init_4 : decode b_C_init 4 = .ok (.aload_n 0, 1) := by decide +kernel
theorem d_C_init_5 : decode b_C_init 5 = .ok (.bipush 26, 2) := by decide +kernel
theorem d_C_init_7 : decode b_C_init 7 = .ok (.newarray .int, 2) := by decide +kernel
theorem d_C_init_9 : decode b_C_init 9 = .ok (.putfield 9, 3) := by decide +kernel
theorem d_C_init_12 : decode b_C_init 12 = .ok (.aload_n 0, 1) := by decide +kernel
theorem d_C_init_13 : decode b_C_init 13 = .ok (.iconst 0, 1) := by decide +kernel
theorem d_C_init_14 : decode b_C_init 14 = .ok (.newarray .char, 2) := by decide +kernel
theorem d_C_init_16 : decode b_C_init 16 = .ok (.putfield 15, 3) := by decide +kernel
theorem d_C_init_19 : decode b_C_init 19 = .ok (.aload_n 0, 1) := by decide +kernel
theorem d_C_init_20 : decode b_C_init 20 = .ok (.iconst 0, 1) := by decide +kernel
theorem d_C_init_21 : decode b_C_init 21 = .ok (.putfield 19, 3) := by decide +kernel
theorem d_C_init_24 : decode b_C_init 24 = .ok (.aload_n 0, 1) := by decide +kernel
theorem d_C_init_25 : decode b_C_init 25 = .ok (.iconst 0, 1) := by decide +kernel
theorem d_C_init_26 : decode b_C_init 26 = .ok (.putfield 23, 3) := by decide +kernel
theorem d_C_init_29 : decode b_C_init 29 = .ok (.aload_n 0, 1) := by decide +kernel
theorem d_C_init_30 : decode b_C_init 30 = .ok (.new 26, 3) := by decide +kernel
theorem d_C_init_33 : decode b_C_init 33 = .ok (.dup, 1) := by decide +kernel
theorem d_C_init_34 : decode b_C_init 34 = .ok (.invokespecial 28, 3) := by decide +kernel
theorem d_C_init_37 : decode b_C_init 37 = .ok (.putfield 29, 3) := by decide +kernel
theorem d_C_init_40 : decode b_C_init 40 = .ok (.return_, 1) := by decide +kernel
theorem d_C_exchange_0 : decode b_C_exchange 0 = .ok (.aload_n 0, 1) := by decide +kernel
theorem d_C_exchange_1 : decode b_C_exchange 1 = .ok (.getfield 29, 3) := by decide +kernel
theorem d_C_exchange_4 : decode b_C_exchange 4 = .ok (.astore_n 2, 1) := by decide +kernel
theorem d_C_exchange_5 : decode b_C_exchange 5 = .ok (.aload_n 0, 1) := by decide +kernel
theorem d_C_exchange_6 : decode b_C_exchange 6 = .ok (.aload_n 1, 1) := by decide +kernel
theorem d_C_exchange_7 : decode b_C_exchange 7 = .ok (.putfield 29, 3) := by decide +kernel
theorem d_C_exchange_10 : decode b_C_exchange 10 = .ok (.aload_n 2, 1) := by decide +kernel
theorem d_C_exchange_11 : decode b_C_exchange 11 = .ok (.areturn, 1) := by decide +kernel
theorem d_C_accepts_0 : decode b_C_accepts 0 = .ok (.aload_n 0, 1) := by decide +kernel
theorem d_C_accepts_1 : decode b_C_accepts 1 = .ok (.aload_n 1, 1) := by decide +kernel
theorem d_C_accepts_2 : decode b_C_accepts 2 = .ok (.iload_n 2, 1) := by decide +kernel
theorem d_C_accepts_3 : decode b_C_accepts 3 = .ok (.invokevirtual 33, 3) := by decide +kernel
theorem d_C_accepts_6 : decode b_C_accepts 6 = .ok (.iconst 0, 1) := by decide +kernel
theorem d_C_accepts_7 : decode b_C_accepts 7 = .ok (.istore_n 3, 1) := by decide +kernel
theorem d_C_accepts_8 : decode b_C_accepts 8 = .ok (.iload_n 3, 1) := by decide +kernel
theorem d_C_accepts_9 : decode b_C_accepts 9 = .ok (.sipush 160, 3) := by decide +kernel
theorem d_C_accepts_12 : decode b_C_accepts 12 = .ok (.if_icmp .ge 25, 3) := by decide +kernel
theorem d_C_accepts_15 : decode b_C_accepts 15 = .ok (.aload_n 0, 1) := by decide +kernel
theorem d_C_accepts_16 : decode b_C_accepts 16 = .ok (.invokevirtual 37, 3) := by decide +kernel
theorem d_C_accepts_19 : decode b_C_accepts 19 = .ok (.ifCond .eq 18, 3) := by decide +kernel
theorem d_C_accepts_22 : decode b_C_accepts 22 = .ok (.aload_n 0, 1) := by decide +kernel
theorem d_C_accepts_23 : decode b_C_accepts 23 = .ok (.invokevirtual 41, 3) := by decide +kernel
theorem d_C_accepts_26 : decode b_C_accepts 26 = .ok (.ifCond .ne 5, 3) := by decide +kernel
theorem d_C_accepts_29 : decode b_C_accepts 29 = .ok (.iconst 0, 1) := by decide +kernel
theorem d_C_accepts_30 : decode b_C_accepts 30 = .ok (.ireturn, 1) := by decide +kernel
theorem d_C_accepts_31 : decode b_C_accepts 31 = .ok (.iinc 3 1, 3) := by decide +kernel
theorem d_C_accepts_34 : decode b_C_accepts 34 = .ok (.goto (-26), 3) := by decide +kernel
theorem d_C_accepts_37 : decode b_C_accepts 37 = .ok (.aload_n 0, 1) := by decide +kernel
theorem d_C_accepts_38 : decode b_C_accepts 38 = .ok (.iconst 0, 1) := by decide +kernel
theorem d_C_accepts_39 : decode b_C_accepts 39 = .ok (.invokevirtual 44, 3) := by decide +kernel
theorem d_C_accepts_42 : decode b_C_accepts 42 = .ok (.istore_n 3, 1) := by decide +kernel
theorem d_C_accepts_43 : decode b_C_accepts 43 = .ok (.iload_n 3, 1) := by decide +kernel
theorem d_C_accepts_44 : decode b_C_accepts 44 = .ok (.iconst (-1), 1) := by decide +kernel
theorem d_C_accepts_45 : decode b_C_accepts 45 = .ok (.if_icmp .eq 32, 3) := by decide +kernel
theorem d_C_accepts_48 : decode b_C_accepts 48 = .ok (.aload_n 0, 1) := by decide +kernel
theorem d_C_accepts_49 : decode b_C_accepts 49 = .ok (.getfield 23, 3) := by decide +kernel
theorem d_C_accepts_52 : decode b_C_accepts 52 = .ok (.aload_n 0, 1) := by decide +kernel
theorem d_C_accepts_53 : decode b_C_accepts 53 = .ok (.getfield 19, 3) := by decide +kernel
theorem d_C_accepts_56 : decode b_C_accepts 56 = .ok (.if_icmp .ne 21, 3) := by decide +kernel
theorem d_C_accepts_59 : decode b_C_accepts 59 = .ok (.iload_n 3, 1) := by decide +kernel
theorem d_C_accepts_60 : decode b_C_accepts 60 = .ok (.invokestatic 48, 3) := by decide +kernel
theorem d_C_accepts_63 : decode b_C_accepts 63 = .ok (.iconst 3, 1) := by decide +kernel
theorem d_C_accepts_64 : decode b_C_accepts 64 = .ok (.if_icmp .ne 13, 3) := by decide +kernel
theorem d_C_accepts_67 : decode b_C_accepts 67 = .ok (.aload_n 0, 1) := by decide +kernel
theorem d_C_accepts_68 : decode b_C_accepts 68 = .ok (.getfield 29, 3) := by decide +kernel
theorem d_C_accepts_71 : decode b_C_accepts 71 = .ok (.getfield 53, 3) := by decide +kernel
theorem d_C_accepts_74 : decode b_C_accepts 74 = .ok (.ifCond .eq 5, 3) := by decide +kernel
theorem d_C_accepts_77 : decode b_C_accepts 77 = .ok (.iconst 0, 1) := by decide +kernel
theorem d_C_accepts_78 : decode b_C_accepts 78 = .ok (.ireturn, 1) := by decide +kernel
theorem d_C_accepts_79 : decode b_C_accepts 79 = .ok (.aload_n 0, 1) := by decide +kernel
theorem d_C_accepts_80 : decode b_C_accepts 80 = .ok (.iload_n 3, 1) := by decide +kernel
theorem d_C_accepts_81 : decode b_C_accepts 81 = .ok (.invokevirtual 57, 3) := by decide +kernel
theorem d_C_accepts_84 : decode b_C_accepts 84 = .ok (.iconst 1, 1) := by decide +kernel
theorem d_C_accepts_85 : decode b_C_accepts 85 = .ok (.ireturn, 1) := by decide +kernel
theorem d_C_start_0 : decode b_C_start 0 = .ok (.aload_n 0, 1) := by decide +kernel
theorem d_C_start_1 : decode b_C_start 1 = .ok (.aload_n 1, 1) := by decide +kernel
theorem d_C_start_2 : decode b_C_start 2 = .ok (.putfield 15, 3) := by decide +kernel
theorem d_C_start_5 : decode b_C_start 5 = .ok (.aload_n 0, 1) := by decide +kernel
theorem d_C_start_6 : decode b_C_start 6 = .ok (.iload_n 2, 1) := by decide +kernel
theorem d_C_start_7 : decode b_C_start 7 = .ok (.putfield 19, 3) := by decide +kernel
theorem d_C_start_10 : decode b_C_start 10 = .ok (.aload_n 0, 1) := by decide +kernel
theorem d_C_start_11 : decode b_C_start 11 = .ok (.iconst 0, 1) := by decide +kernel
theorem d_C_start_12 : decode b_C_start 12 = .ok (.putfield 23, 3) := by decide +kernel
theorem d_C_start_15 : decode b_C_start 15 = .ok (.aload_n 0, 1) := by decide +kernel
theorem d_C_start_16 : decode b_C_start 16 = .ok (.getfield 29, 3) := by decide +kernel
theorem d_C_start_19 : decode b_C_start 19 = .ok (.invokevirtual 61, 3) := by decide +kernel
theorem d_C_start_22 : decode b_C_start 22 = .ok (.iconst 0, 1) := by decide +kernel
theorem d_C_start_23 : decode b_C_start 23 = .ok (.istore_n 3, 1) := by decide +kernel
theorem d_C_start_24 : decode b_C_start 24 = .ok (.iload_n 3, 1) := by decide +kernel
theorem d_C_start_25 : decode b_C_start 25 = .ok (.bipush 26, 2) := by decide +kernel
theorem d_C_start_27 : decode b_C_start 27 = .ok (.if_icmp .ge 16, 3) := by decide +kernel
theorem d_C_start_30 : decode b_C_start 30 = .ok (.aload_n 0, 1) := by decide +kernel
theorem d_C_start_31 : decode b_C_start 31 = .ok (.getfield 9, 3) := by decide +kernel
theorem d_C_start_34 : decode b_C_start 34 = .ok (.iload_n 3, 1) := by decide +kernel
theorem d_C_start_35 : decode b_C_start 35 = .ok (.iconst (-1), 1) := by decide +kernel
theorem d_C_start_36 : decode b_C_start 36 = .ok (.iastore, 1) := by decide +kernel
theorem d_C_start_37 : decode b_C_start 37 = .ok (.iinc 3 1, 3) := by decide +kernel
theorem d_C_start_40 : decode b_C_start 40 = .ok (.goto (-16), 3) := by decide +kernel
theorem d_C_start_43 : decode b_C_start 43 = .ok (.return_, 1) := by decide +kernel
theorem d_C_finish_0 : decode b_C_finish 0 = .ok (.iconst 0, 1) := by decide +kernel
theorem d_C_finish_1 : decode b_C_finish 1 = .ok (.istore_n 2, 1) := by decide +kernel
theorem d_C_finish_2 : decode b_C_finish 2 = .ok (.iload_n 2, 1) := by decide +kernel
theorem d_C_finish_3 : decode b_C_finish 3 = .ok (.iconst 3, 1) := by decide +kernel
theorem d_C_finish_4 : decode b_C_finish 4 = .ok (.if_icmp .ge 23, 3) := by decide +kernel
theorem d_C_finish_7 : decode b_C_finish 7 = .ok (.aload_n 0, 1) := by decide +kernel
theorem d_C_finish_8 : decode b_C_finish 8 = .ok (.getfield 29, 3) := by decide +kernel
theorem d_C_finish_11 : decode b_C_finish 11 = .ok (.getfield 64, 3) := by decide +kernel
theorem d_C_finish_14 : decode b_C_finish 14 = .ok (.iload_n 2, 1) := by decide +kernel
theorem d_C_finish_15 : decode b_C_finish 15 = .ok (.iload_n 1, 1) := by decide +kernel
theorem d_C_finish_16 : decode b_C_finish 16 = .ok (.iload_n 2, 1) := by decide +kernel
theorem d_C_finish_17 : decode b_C_finish 17 = .ok (.invokestatic 67, 3) := by decide +kernel
theorem d_C_finish_20 : decode b_C_finish 20 = .ok (.iastore, 1) := by decide +kernel
theorem d_C_finish_21 : decode b_C_finish 21 = .ok (.iinc 2 1, 3) := by decide +kernel
theorem d_C_finish_24 : decode b_C_finish 24 = .ok (.goto (-22), 3) := by decide +kernel
theorem d_C_finish_27 : decode b_C_finish 27 = .ok (.iconst 0, 1) := by decide +kernel
theorem d_C_finish_28 : decode b_C_finish 28 = .ok (.istore_n 2, 1) := by decide +kernel
theorem d_C_finish_29 : decode b_C_finish 29 = .ok (.iload_n 2, 1) := by decide +kernel
theorem d_C_finish_30 : decode b_C_finish 30 = .ok (.bipush 26, 2) := by decide +kernel
theorem d_C_finish_32 : decode b_C_finish 32 = .ok (.if_icmp .ge 41, 3) := by decide +kernel
theorem d_C_finish_35 : decode b_C_finish 35 = .ok (.aload_n 0, 1) := by decide +kernel
theorem d_C_finish_36 : decode b_C_finish 36 = .ok (.getfield 29, 3) := by decide +kernel
theorem d_C_finish_39 : decode b_C_finish 39 = .ok (.getfield 71, 3) := by decide +kernel
theorem d_C_finish_42 : decode b_C_finish 42 = .ok (.iload_n 2, 1) := by decide +kernel
theorem d_C_finish_43 : decode b_C_finish 43 = .ok (.aload_n 0, 1) := by decide +kernel
theorem d_C_finish_44 : decode b_C_finish 44 = .ok (.getfield 9, 3) := by decide +kernel
theorem d_C_finish_47 : decode b_C_finish 47 = .ok (.iload_n 2, 1) := by decide +kernel
theorem d_C_finish_48 : decode b_C_finish 48 = .ok (.iaload, 1) := by decide +kernel
theorem d_C_finish_49 : decode b_C_finish 49 = .ok (.iconst (-1), 1) := by decide +kernel
theorem d_C_finish_50 : decode b_C_finish 50 = .ok (.if_icmp .ne 7, 3) := by decide +kernel
theorem d_C_finish_53 : decode b_C_finish 53 = .ok (.iconst 0, 1) := by decide +kernel
theorem d_C_finish_54 : decode b_C_finish 54 = .ok (.goto 12, 3) := by decide +kernel
theorem d_C_finish_57 : decode b_C_finish 57 = .ok (.aload_n 0, 1) := by decide +kernel
theorem d_C_finish_58 : decode b_C_finish 58 = .ok (.getfield 9, 3) := by decide +kernel
theorem d_C_finish_61 : decode b_C_finish 61 = .ok (.iload_n 2, 1) := by decide +kernel
theorem d_C_finish_62 : decode b_C_finish 62 = .ok (.iaload, 1) := by decide +kernel
theorem d_C_finish_63 : decode b_C_finish 63 = .ok (.invokestatic 48, 3) := by decide +kernel
theorem d_C_finish_66 : decode b_C_finish 66 = .ok (.iastore, 1) := by decide +kernel
theorem d_C_finish_67 : decode b_C_finish 67 = .ok (.iinc 2 1, 3) := by decide +kernel
theorem d_C_finish_70 : decode b_C_finish 70 = .ok (.goto (-41), 3) := by decide +kernel
theorem d_C_finish_73 : decode b_C_finish 73 = .ok (.return_, 1) := by decide +kernel
theorem d_C_next_0 : decode b_C_next 0 = .ok (.aload_n 0, 1) := by decide +kernel
theorem d_C_next_1 : decode b_C_next 1 = .ok (.getfield 23, 3) := by decide +kernel
theorem d_C_next_4 : decode b_C_next 4 = .ok (.aload_n 0, 1) := by decide +kernel
theorem d_C_next_5 : decode b_C_next 5 = .ok (.getfield 19, 3) := by decide +kernel
theorem d_C_next_8 : decode b_C_next 8 = .ok (.if_icmp .ge 15, 3) := by decide +kernel
theorem d_C_next_11 : decode b_C_next 11 = .ok (.aload_n 0, 1) := by decide +kernel
theorem d_C_next_12 : decode b_C_next 12 = .ok (.getfield 15, 3) := by decide +kernel
theorem d_C_next_15 : decode b_C_next 15 = .ok (.aload_n 0, 1) := by decide +kernel
theorem d_C_next_16 : decode b_C_next 16 = .ok (.getfield 23, 3) := by decide +kernel
theorem d_C_next_19 : decode b_C_next 19 = .ok (.caload, 1) := by decide +kernel
theorem d_C_next_20 : decode b_C_next 20 = .ok (.goto 4, 3) := by decide +kernel
theorem d_C_next_23 : decode b_C_next 23 = .ok (.iconst 0, 1) := by decide +kernel
theorem d_C_next_24 : decode b_C_next 24 = .ok (.ireturn, 1) := by decide +kernel
theorem d_C_takes_0 : decode b_C_takes 0 = .ok (.aload_n 0, 1) := by decide +kernel
theorem d_C_takes_1 : decode b_C_takes 1 = .ok (.invokevirtual 74, 3) := by decide +kernel
theorem d_C_takes_4 : decode b_C_takes 4 = .ok (.iload_n 1, 1) := by decide +kernel
theorem d_C_takes_5 : decode b_C_takes 5 = .ok (.if_icmp .eq 5, 3) := by decide +kernel
theorem d_C_takes_8 : decode b_C_takes 8 = .ok (.iconst 0, 1) := by decide +kernel
theorem d_C_takes_9 : decode b_C_takes 9 = .ok (.ireturn, 1) := by decide +kernel
theorem d_C_takes_10 : decode b_C_takes 10 = .ok (.aload_n 0, 1) := by decide +kernel
theorem d_C_takes_11 : decode b_C_takes 11 = .ok (.dup, 1) := by decide +kernel
theorem d_C_takes_12 : decode b_C_takes 12 = .ok (.getfield 23, 3) := by decide +kernel
theorem d_C_takes_15 : decode b_C_takes 15 = .ok (.iconst 1, 1) := by decide +kernel
theorem d_C_takes_16 : decode b_C_takes 16 = .ok (.iadd, 1) := by decide +kernel
theorem d_C_takes_17 : decode b_C_takes 17 = .ok (.putfield 23, 3) := by decide +kernel
theorem d_C_takes_20 : decode b_C_takes 20 = .ok (.iconst 1, 1) := by decide +kernel
theorem d_C_takes_21 : decode b_C_takes 21 = .ok (.ireturn, 1) := by decide +kernel
theorem d_C_isAssignmentNext_0 : decode b_C_isAssignmentNext 0 = .ok (.aload_n 0, 1) := by decide +kernel
theorem d_C_isAssignmentNext_1 : decode b_C_isAssignmentNext 1 = .ok (.getfield 23, 3) := by decide +kernel
theorem d_C_isAssignmentNext_4 : decode b_C_isAssignmentNext 4 = .ok (.iconst 1, 1) := by decide +kernel
theorem d_C_isAssignmentNext_5 : decode b_C_isAssignmentNext 5 = .ok (.iadd, 1) := by decide +kernel
theorem d_C_isAssignmentNext_6 : decode b_C_isAssignmentNext 6 = .ok (.aload_n 0, 1) := by decide +kernel
theorem d_C_isAssignmentNext_7 : decode b_C_isAssignmentNext 7 = .ok (.getfield 19, 3) := by decide +kernel
theorem d_C_isAssignmentNext_10 : decode b_C_isAssignmentNext 10 = .ok (.if_icmp .ge 38, 3) := by decide +kernel
theorem d_C_isAssignmentNext_13 : decode b_C_isAssignmentNext 13 = .ok (.aload_n 0, 1) := by decide +kernel
theorem d_C_isAssignmentNext_14 : decode b_C_isAssignmentNext 14 = .ok (.getfield 15, 3) := by decide +kernel
theorem d_C_isAssignmentNext_17 : decode b_C_isAssignmentNext 17 = .ok (.aload_n 0, 1) := by decide +kernel
theorem d_C_isAssignmentNext_18 : decode b_C_isAssignmentNext 18 = .ok (.getfield 23, 3) := by decide +kernel
theorem d_C_isAssignmentNext_21 : decode b_C_isAssignmentNext 21 = .ok (.caload, 1) := by decide +kernel
theorem d_C_isAssignmentNext_22 : decode b_C_isAssignmentNext 22 = .ok (.invokestatic 78, 3) := by decide +kernel
theorem d_C_isAssignmentNext_25 : decode b_C_isAssignmentNext 25 = .ok (.ifCond .eq 23, 3) := by decide +kernel
theorem d_C_isAssignmentNext_28 : decode b_C_isAssignmentNext 28 = .ok (.aload_n 0, 1) := by decide +kernel
theorem d_C_isAssignmentNext_29 : decode b_C_isAssignmentNext 29 = .ok (.getfield 15, 3) := by decide +kernel
theorem d_C_isAssignmentNext_32 : decode b_C_isAssignmentNext 32 = .ok (.aload_n 0, 1) := by decide +kernel
theorem d_C_isAssignmentNext_33 : decode b_C_isAssignmentNext 33 = .ok (.getfield 23, 3) := by decide +kernel
theorem d_C_isAssignmentNext_36 : decode b_C_isAssignmentNext 36 = .ok (.iconst 1, 1) := by decide +kernel
theorem d_C_isAssignmentNext_37 : decode b_C_isAssignmentNext 37 = .ok (.iadd, 1) := by decide +kernel
theorem d_C_isAssignmentNext_38 : decode b_C_isAssignmentNext 38 = .ok (.caload, 1) := by decide +kernel
theorem d_C_isAssignmentNext_39 : decode b_C_isAssignmentNext 39 = .ok (.bipush 61, 2) := by decide +kernel
theorem d_C_isAssignmentNext_41 : decode b_C_isAssignmentNext 41 = .ok (.if_icmp .ne 7, 3) := by decide +kernel
theorem d_C_isAssignmentNext_44 : decode b_C_isAssignmentNext 44 = .ok (.iconst 1, 1) := by decide +kernel
theorem d_C_isAssignmentNext_45 : decode b_C_isAssignmentNext 45 = .ok (.goto 4, 3) := by decide +kernel
theorem d_C_isAssignmentNext_48 : decode b_C_isAssignmentNext 48 = .ok (.iconst 0, 1) := by decide +kernel
theorem d_C_isAssignmentNext_49 : decode b_C_isAssignmentNext 49 = .ok (.ireturn, 1) := by decide +kernel
theorem d_C_assignment_0 : decode b_C_assignment 0 = .ok (.aload_n 0, 1) := by decide +kernel
theorem d_C_assignment_1 : decode b_C_assignment 1 = .ok (.invokevirtual 74, 3) := by decide +kernel
theorem d_C_assignment_4 : decode b_C_assignment 4 = .ok (.istore_n 1, 1) := by decide +kernel
theorem d_C_assignment_5 : decode b_C_assignment 5 = .ok (.aload_n 0, 1) := by decide +kernel
theorem d_C_assignment_6 : decode b_C_assignment 6 = .ok (.dup, 1) := by decide +kernel
theorem d_C_assignment_7 : decode b_C_assignment 7 = .ok (.getfield 23, 3) := by decide +kernel
theorem d_C_assignment_10 : decode b_C_assignment 10 = .ok (.iconst 2, 1) := by decide +kernel
theorem d_C_assignment_11 : decode b_C_assignment 11 = .ok (.iadd, 1) := by decide +kernel
theorem d_C_assignment_12 : decode b_C_assignment 12 = .ok (.putfield 23, 3) := by decide +kernel
theorem d_C_assignment_15 : decode b_C_assignment 15 = .ok (.iload_n 1, 1) := by decide +kernel
theorem d_C_assignment_16 : decode b_C_assignment 16 = .ok (.invokestatic 82, 3) := by decide +kernel
theorem d_C_assignment_19 : decode b_C_assignment 19 = .ok (.ifCond .ne 5, 3) := by decide +kernel
theorem d_C_assignment_22 : decode b_C_assignment 22 = .ok (.iconst 0, 1) := by decide +kernel
theorem d_C_assignment_23 : decode b_C_assignment 23 = .ok (.ireturn, 1) := by decide +kernel
theorem d_C_assignment_24 : decode b_C_assignment 24 = .ok (.aload_n 0, 1) := by decide +kernel
theorem d_C_assignment_25 : decode b_C_assignment 25 = .ok (.iconst 0, 1) := by decide +kernel
theorem d_C_assignment_26 : decode b_C_assignment 26 = .ok (.invokevirtual 44, 3) := by decide +kernel
theorem d_C_assignment_29 : decode b_C_assignment 29 = .ok (.istore_n 2, 1) := by decide +kernel
theorem d_C_assignment_30 : decode b_C_assignment 30 = .ok (.iload_n 2, 1) := by decide +kernel
theorem d_C_assignment_31 : decode b_C_assignment 31 = .ok (.iconst (-1), 1) := by decide +kernel
theorem d_C_assignment_32 : decode b_C_assignment 32 = .ok (.if_icmp .eq 12, 3) := by decide +kernel
theorem d_C_assignment_35 : decode b_C_assignment 35 = .ok (.aload_n 0, 1) := by decide +kernel
theorem d_C_assignment_36 : decode b_C_assignment 36 = .ok (.bipush 59, 2) := by decide +kernel
theorem d_C_assignment_38 : decode b_C_assignment 38 = .ok (.invokevirtual 85, 3) := by decide +kernel
theorem d_C_assignment_41 : decode b_C_assignment 41 = .ok (.ifCond .ne 5, 3) := by decide +kernel
theorem d_C_assignment_44 : decode b_C_assignment 44 = .ok (.iconst 0, 1) := by decide +kernel
theorem d_C_assignment_45 : decode b_C_assignment 45 = .ok (.ireturn, 1) := by decide +kernel
theorem d_C_assignment_46 : decode b_C_assignment 46 = .ok (.aload_n 0, 1) := by decide +kernel
theorem d_C_assignment_47 : decode b_C_assignment 47 = .ok (.getfield 9, 3) := by decide +kernel
theorem d_C_assignment_50 : decode b_C_assignment 50 = .ok (.iload_n 1, 1) := by decide +kernel
theorem d_C_assignment_51 : decode b_C_assignment 51 = .ok (.bipush 97, 2) := by decide +kernel
theorem d_C_assignment_53 : decode b_C_assignment 53 = .ok (.isub, 1) := by decide +kernel
theorem d_C_assignment_54 : decode b_C_assignment 54 = .ok (.iload_n 2, 1) := by decide +kernel
theorem d_C_assignment_55 : decode b_C_assignment 55 = .ok (.iastore, 1) := by decide +kernel
theorem d_C_assignment_56 : decode b_C_assignment 56 = .ok (.iconst 1, 1) := by decide +kernel
theorem d_C_assignment_57 : decode b_C_assignment 57 = .ok (.ireturn, 1) := by decide +kernel
theorem d_C_sum_0 : decode b_C_sum 0 = .ok (.aload_n 0, 1) := by decide +kernel
theorem d_C_sum_1 : decode b_C_sum 1 = .ok (.iload_n 1, 1) := by decide +kernel
theorem d_C_sum_2 : decode b_C_sum 2 = .ok (.invokevirtual 88, 3) := by decide +kernel
theorem d_C_sum_5 : decode b_C_sum 5 = .ok (.istore_n 2, 1) := by decide +kernel
theorem d_C_sum_6 : decode b_C_sum 6 = .ok (.iconst 0, 1) := by decide +kernel
theorem d_C_sum_7 : decode b_C_sum 7 = .ok (.istore_n 3, 1) := by decide +kernel
theorem d_C_sum_8 : decode b_C_sum 8 = .ok (.iload_n 3, 1) := by decide +kernel
theorem d_C_sum_9 : decode b_C_sum 9 = .ok (.sipush 160, 3) := by decide +kernel
theorem d_C_sum_12 : decode b_C_sum 12 = .ok (.if_icmp .ge 64, 3) := by decide +kernel
theorem d_C_sum_15 : decode b_C_sum 15 = .ok (.iload_n 2, 1) := by decide +kernel
theorem d_C_sum_16 : decode b_C_sum 16 = .ok (.iconst (-1), 1) := by decide +kernel
theorem d_C_sum_17 : decode b_C_sum 17 = .ok (.if_icmp .eq 59, 3) := by decide +kernel
theorem d_C_sum_20 : decode b_C_sum 20 = .ok (.aload_n 0, 1) := by decide +kernel
theorem d_C_sum_21 : decode b_C_sum 21 = .ok (.bipush 43, 2) := by decide +kernel
theorem d_C_sum_23 : decode b_C_sum 23 = .ok (.invokevirtual 85, 3) := by decide +kernel
theorem d_C_sum_26 : decode b_C_sum 26 = .ok (.ifCond .eq 18, 3) := by decide +kernel
theorem d_C_sum_29 : decode b_C_sum 29 = .ok (.aload_n 0, 1) := by decide +kernel
theorem d_C_sum_30 : decode b_C_sum 30 = .ok (.iconst 2, 1) := by decide +kernel
theorem d_C_sum_31 : decode b_C_sum 31 = .ok (.iload_n 2, 1) := by decide +kernel
theorem d_C_sum_32 : decode b_C_sum 32 = .ok (.aload_n 0, 1) := by decide +kernel
theorem d_C_sum_33 : decode b_C_sum 33 = .ok (.iload_n 1, 1) := by decide +kernel
theorem d_C_sum_34 : decode b_C_sum 34 = .ok (.invokevirtual 88, 3) := by decide +kernel
theorem d_C_sum_37 : decode b_C_sum 37 = .ok (.invokevirtual 91, 3) := by decide +kernel
theorem d_C_sum_40 : decode b_C_sum 40 = .ok (.istore_n 2, 1) := by decide +kernel
theorem d_C_sum_41 : decode b_C_sum 41 = .ok (.goto 29, 3) := by decide +kernel
theorem d_C_sum_44 : decode b_C_sum 44 = .ok (.aload_n 0, 1) := by decide +kernel
theorem d_C_sum_45 : decode b_C_sum 45 = .ok (.bipush 45, 2) := by decide +kernel
theorem d_C_sum_47 : decode b_C_sum 47 = .ok (.invokevirtual 85, 3) := by decide +kernel
theorem d_C_sum_50 : decode b_C_sum 50 = .ok (.ifCond .eq 18, 3) := by decide +kernel
theorem d_C_sum_53 : decode b_C_sum 53 = .ok (.aload_n 0, 1) := by decide +kernel
theorem d_C_sum_54 : decode b_C_sum 54 = .ok (.iconst 3, 1) := by decide +kernel
theorem d_C_sum_55 : decode b_C_sum 55 = .ok (.iload_n 2, 1) := by decide +kernel
theorem d_C_sum_56 : decode b_C_sum 56 = .ok (.aload_n 0, 1) := by decide +kernel
theorem d_C_sum_57 : decode b_C_sum 57 = .ok (.iload_n 1, 1) := by decide +kernel
theorem d_C_sum_58 : decode b_C_sum 58 = .ok (.invokevirtual 88, 3) := by decide +kernel
theorem d_C_sum_61 : decode b_C_sum 61 = .ok (.invokevirtual 91, 3) := by decide +kernel
theorem d_C_sum_64 : decode b_C_sum 64 = .ok (.istore_n 2, 1) := by decide +kernel
theorem d_C_sum_65 : decode b_C_sum 65 = .ok (.goto 5, 3) := by decide +kernel
theorem d_C_sum_68 : decode b_C_sum 68 = .ok (.iload_n 2, 1) := by decide +kernel
theorem d_C_sum_69 : decode b_C_sum 69 = .ok (.ireturn, 1) := by decide +kernel
theorem d_C_sum_70 : decode b_C_sum 70 = .ok (.iinc 3 1, 3) := by decide +kernel
theorem d_C_sum_73 : decode b_C_sum 73 = .ok (.goto (-65), 3) := by decide +kernel
theorem d_C_sum_76 : decode b_C_sum 76 = .ok (.iconst (-1), 1) := by decide +kernel
theorem d_C_sum_77 : decode b_C_sum 77 = .ok (.ireturn, 1) := by decide +kernel
theorem d_C_product_0 : decode b_C_product 0 = .ok (.aload_n 0, 1) := by decide +kernel
theorem d_C_product_1 : decode b_C_product 1 = .ok (.iload_n 1, 1) := by decide +kernel
theorem d_C_product_2 : decode b_C_product 2 = .ok (.invokevirtual 95, 3) := by decide +kernel
theorem d_C_product_5 : decode b_C_product 5 = .ok (.istore_n 2, 1) := by decide +kernel
theorem d_C_product_6 : decode b_C_product 6 = .ok (.iconst 0, 1) := by decide +kernel
theorem d_C_product_7 : decode b_C_product 7 = .ok (.istore_n 3, 1) := by decide +kernel
theorem d_C_product_8 : decode b_C_product 8 = .ok (.iload_n 3, 1) := by decide +kernel
theorem d_C_product_9 : decode b_C_product 9 = .ok (.sipush 160, 3) := by decide +kernel
theorem d_C_product_12 : decode b_C_product 12 = .ok (.if_icmp .ge 62, 3) := by decide +kernel
theorem d_C_product_15 : decode b_C_product 15 = .ok (.iload_n 2, 1) := by decide +kernel
theorem d_C_product_16 : decode b_C_product 16 = .ok (.iconst (-1), 1) := by decide +kernel
theorem d_C_product_17 : decode b_C_product 17 = .ok (.if_icmp .eq 57, 3) := by decide +kernel
theorem d_C_product_20 : decode b_C_product 20 = .ok (.aload_n 0, 1) := by decide +kernel
theorem d_C_product_21 : decode b_C_product 21 = .ok (.bipush 42, 2) := by decide +kernel
theorem d_C_product_23 : decode b_C_product 23 = .ok (.invokevirtual 85, 3) := by decide +kernel
theorem d_C_product_26 : decode b_C_product 26 = .ok (.ifCond .eq 17, 3) := by decide +kernel
theorem d_C_product_29 : decode b_C_product 29 = .ok (.aload_n 0, 1) := by decide +kernel
theorem d_C_product_30 : decode b_C_product 30 = .ok (.iload_n 2, 1) := by decide +kernel
theorem d_C_product_31 : decode b_C_product 31 = .ok (.aload_n 0, 1) := by decide +kernel
theorem d_C_product_32 : decode b_C_product 32 = .ok (.iload_n 1, 1) := by decide +kernel
theorem d_C_product_33 : decode b_C_product 33 = .ok (.invokevirtual 95, 3) := by decide +kernel
theorem d_C_product_36 : decode b_C_product 36 = .ok (.invokevirtual 98, 3) := by decide +kernel
theorem d_C_product_39 : decode b_C_product 39 = .ok (.istore_n 2, 1) := by decide +kernel
theorem d_C_product_40 : decode b_C_product 40 = .ok (.goto 28, 3) := by decide +kernel
theorem d_C_product_43 : decode b_C_product 43 = .ok (.aload_n 0, 1) := by decide +kernel
theorem d_C_product_44 : decode b_C_product 44 = .ok (.bipush 47, 2) := by decide +kernel
theorem d_C_product_46 : decode b_C_product 46 = .ok (.invokevirtual 85, 3) := by decide +kernel
theorem d_C_product_49 : decode b_C_product 49 = .ok (.ifCond .eq 17, 3) := by decide +kernel
theorem d_C_product_52 : decode b_C_product 52 = .ok (.aload_n 0, 1) := by decide +kernel
theorem d_C_product_53 : decode b_C_product 53 = .ok (.iload_n 2, 1) := by decide +kernel
theorem d_C_product_54 : decode b_C_product 54 = .ok (.aload_n 0, 1) := by decide +kernel
theorem d_C_product_55 : decode b_C_product 55 = .ok (.iload_n 1, 1) := by decide +kernel
theorem d_C_product_56 : decode b_C_product 56 = .ok (.invokevirtual 95, 3) := by decide +kernel
theorem d_C_product_59 : decode b_C_product 59 = .ok (.invokevirtual 101, 3) := by decide +kernel
theorem d_C_product_62 : decode b_C_product 62 = .ok (.istore_n 2, 1) := by decide +kernel
theorem d_C_product_63 : decode b_C_product 63 = .ok (.goto 5, 3) := by decide +kernel
theorem d_C_product_66 : decode b_C_product 66 = .ok (.iload_n 2, 1) := by decide +kernel
theorem d_C_product_67 : decode b_C_product 67 = .ok (.ireturn, 1) := by decide +kernel
theorem d_C_product_68 : decode b_C_product 68 = .ok (.iinc 3 1, 3) := by decide +kernel
theorem d_C_product_71 : decode b_C_product 71 = .ok (.goto (-63), 3) := by decide +kernel
theorem d_C_product_74 : decode b_C_product 74 = .ok (.iconst (-1), 1) := by decide +kernel
theorem d_C_product_75 : decode b_C_product 75 = .ok (.ireturn, 1) := by decide +kernel
theorem d_C_unit_0 : decode b_C_unit 0 = .ok (.iconst 0, 1) := by decide +kernel
theorem d_C_unit_1 : decode b_C_unit 1 = .ok (.istore_n 2, 1) := by decide +kernel
theorem d_C_unit_2 : decode b_C_unit 2 = .ok (.iload_n 2, 1) := by decide +kernel
theorem d_C_unit_3 : decode b_C_unit 3 = .ok (.sipush 160, 3) := by decide +kernel
theorem d_C_unit_6 : decode b_C_unit 6 = .ok (.if_icmp .ge 18, 3) := by decide +kernel
theorem d_C_unit_9 : decode b_C_unit 9 = .ok (.aload_n 0, 1) := by decide +kernel
theorem d_C_unit_10 : decode b_C_unit 10 = .ok (.bipush 45, 2) := by decide +kernel
theorem d_C_unit_12 : decode b_C_unit 12 = .ok (.invokevirtual 85, 3) := by decide +kernel
theorem d_C_unit_15 : decode b_C_unit 15 = .ok (.ifCond .eq 9, 3) := by decide +kernel
theorem d_C_unit_18 : decode b_C_unit 18 = .ok (.iinc 2 1, 3) := by decide +kernel
theorem d_C_unit_21 : decode b_C_unit 21 = .ok (.goto (-19), 3) := by decide +kernel
theorem d_C_unit_24 : decode b_C_unit 24 = .ok (.aload_n 0, 1) := by decide +kernel
theorem d_C_unit_25 : decode b_C_unit 25 = .ok (.invokevirtual 74, 3) := by decide +kernel
theorem d_C_unit_28 : decode b_C_unit 28 = .ok (.invokestatic 104, 3) := by decide +kernel
theorem d_C_unit_31 : decode b_C_unit 31 = .ok (.ifCond .eq 10, 3) := by decide +kernel
theorem d_C_unit_34 : decode b_C_unit 34 = .ok (.aload_n 0, 1) := by decide +kernel
theorem d_C_unit_35 : decode b_C_unit 35 = .ok (.invokevirtual 107, 3) := by decide +kernel
theorem d_C_unit_38 : decode b_C_unit 38 = .ok (.goto 12, 3) := by decide +kernel
theorem d_C_unit_41 : decode b_C_unit 41 = .ok (.aload_n 0, 1) := by decide +kernel
theorem d_C_unit_42 : decode b_C_unit 42 = .ok (.aload_n 0, 1) := by decide +kernel
theorem d_C_unit_43 : decode b_C_unit 43 = .ok (.iload_n 1, 1) := by decide +kernel
theorem d_C_unit_44 : decode b_C_unit 44 = .ok (.invokevirtual 111, 3) := by decide +kernel
theorem d_C_unit_47 : decode b_C_unit 47 = .ok (.invokevirtual 114, 3) := by decide +kernel
theorem d_C_unit_50 : decode b_C_unit 50 = .ok (.istore_n 3, 1) := by decide +kernel
theorem d_C_unit_51 : decode b_C_unit 51 = .ok (.iconst 0, 1) := by decide +kernel
theorem d_C_unit_52 : decode b_C_unit 52 = .ok (.istore 4, 2) := by decide +kernel
theorem d_C_unit_54 : decode b_C_unit 54 = .ok (.iload 4, 2) := by decide +kernel
theorem d_C_unit_56 : decode b_C_unit 56 = .ok (.iload_n 2, 1) := by decide +kernel
theorem d_C_unit_57 : decode b_C_unit 57 = .ok (.if_icmp .ge 17, 3) := by decide +kernel
theorem d_C_unit_60 : decode b_C_unit 60 = .ok (.aload_n 0, 1) := by decide +kernel
theorem d_C_unit_61 : decode b_C_unit 61 = .ok (.bipush 9, 2) := by decide +kernel
theorem d_C_unit_63 : decode b_C_unit 63 = .ok (.iload_n 3, 1) := by decide +kernel
theorem d_C_unit_64 : decode b_C_unit 64 = .ok (.invokevirtual 117, 3) := by decide +kernel
theorem d_C_unit_67 : decode b_C_unit 67 = .ok (.istore_n 3, 1) := by decide +kernel
theorem d_C_unit_68 : decode b_C_unit 68 = .ok (.iinc 4 1, 3) := by decide +kernel
theorem d_C_unit_71 : decode b_C_unit 71 = .ok (.goto (-17), 3) := by decide +kernel
theorem d_C_unit_74 : decode b_C_unit 74 = .ok (.iload_n 3, 1) := by decide +kernel
theorem d_C_unit_75 : decode b_C_unit 75 = .ok (.ireturn, 1) := by decide +kernel
theorem d_C_part_0 : decode b_C_part 0 = .ok (.aload_n 0, 1) := by decide +kernel
theorem d_C_part_1 : decode b_C_part 1 = .ok (.invokevirtual 74, 3) := by decide +kernel
theorem d_C_part_4 : decode b_C_part 4 = .ok (.istore_n 2, 1) := by decide +kernel
theorem d_C_part_5 : decode b_C_part 5 = .ok (.iload_n 2, 1) := by decide +kernel
theorem d_C_part_6 : decode b_C_part 6 = .ok (.invokestatic 78, 3) := by decide +kernel
theorem d_C_part_9 : decode b_C_part 9 = .ok (.ifCond .eq 19, 3) := by decide +kernel
theorem d_C_part_12 : decode b_C_part 12 = .ok (.aload_n 0, 1) := by decide +kernel
theorem d_C_part_13 : decode b_C_part 13 = .ok (.dup, 1) := by decide +kernel
theorem d_C_part_14 : decode b_C_part 14 = .ok (.getfield 23, 3) := by decide +kernel
theorem d_C_part_17 : decode b_C_part 17 = .ok (.iconst 1, 1) := by decide +kernel
theorem d_C_part_18 : decode b_C_part 18 = .ok (.iadd, 1) := by decide +kernel
theorem d_C_part_19 : decode b_C_part 19 = .ok (.putfield 23, 3) := by decide +kernel
theorem d_C_part_22 : decode b_C_part 22 = .ok (.aload_n 0, 1) := by decide +kernel
theorem d_C_part_23 : decode b_C_part 23 = .ok (.iload_n 2, 1) := by decide +kernel
theorem d_C_part_24 : decode b_C_part 24 = .ok (.invokevirtual 120, 3) := by decide +kernel
theorem d_C_part_27 : decode b_C_part 27 = .ok (.ireturn, 1) := by decide +kernel
theorem d_C_part_28 : decode b_C_part 28 = .ok (.iload_n 1, 1) := by decide +kernel
theorem d_C_part_29 : decode b_C_part 29 = .ok (.iconst 5, 1) := by decide +kernel
theorem d_C_part_30 : decode b_C_part 30 = .ok (.if_icmp .lt 5, 3) := by decide +kernel
theorem d_C_part_33 : decode b_C_part 33 = .ok (.iconst (-1), 1) := by decide +kernel
theorem d_C_part_34 : decode b_C_part 34 = .ok (.ireturn, 1) := by decide +kernel
theorem d_C_part_35 : decode b_C_part 35 = .ok (.aload_n 0, 1) := by decide +kernel
theorem d_C_part_36 : decode b_C_part 36 = .ok (.bipush 40, 2) := by decide +kernel
theorem d_C_part_38 : decode b_C_part 38 = .ok (.invokevirtual 85, 3) := by decide +kernel
theorem d_C_part_41 : decode b_C_part 41 = .ok (.ifCond .eq 14, 3) := by decide +kernel
theorem d_C_part_44 : decode b_C_part 44 = .ok (.aload_n 0, 1) := by decide +kernel
theorem d_C_part_45 : decode b_C_part 45 = .ok (.iload_n 1, 1) := by decide +kernel
theorem d_C_part_46 : decode b_C_part 46 = .ok (.iconst 1, 1) := by decide +kernel
theorem d_C_part_47 : decode b_C_part 47 = .ok (.iadd, 1) := by decide +kernel
theorem d_C_part_48 : decode b_C_part 48 = .ok (.invokevirtual 44, 3) := by decide +kernel
theorem d_C_part_51 : decode b_C_part 51 = .ok (.istore_n 3, 1) := by decide +kernel
theorem d_C_part_52 : decode b_C_part 52 = .ok (.goto 35, 3) := by decide +kernel
theorem d_C_part_55 : decode b_C_part 55 = .ok (.aload_n 0, 1) := by decide +kernel
theorem d_C_part_56 : decode b_C_part 56 = .ok (.dup, 1) := by decide +kernel
theorem d_C_part_57 : decode b_C_part 57 = .ok (.getfield 23, 3) := by decide +kernel
theorem d_C_part_60 : decode b_C_part 60 = .ok (.iconst 1, 1) := by decide +kernel
theorem d_C_part_61 : decode b_C_part 61 = .ok (.iadd, 1) := by decide +kernel
theorem d_C_part_62 : decode b_C_part 62 = .ok (.putfield 23, 3) := by decide +kernel
theorem d_C_part_65 : decode b_C_part 65 = .ok (.aload_n 0, 1) := by decide +kernel
theorem d_C_part_66 : decode b_C_part 66 = .ok (.bipush 40, 2) := by decide +kernel
theorem d_C_part_68 : decode b_C_part 68 = .ok (.invokevirtual 85, 3) := by decide +kernel
theorem d_C_part_71 : decode b_C_part 71 = .ok (.ifCond .eq 14, 3) := by decide +kernel
theorem d_C_part_74 : decode b_C_part 74 = .ok (.aload_n 0, 1) := by decide +kernel
theorem d_C_part_75 : decode b_C_part 75 = .ok (.iload_n 2, 1) := by decide +kernel
theorem d_C_part_76 : decode b_C_part 76 = .ok (.iload_n 1, 1) := by decide +kernel
theorem d_C_part_77 : decode b_C_part 77 = .ok (.iconst 1, 1) := by decide +kernel
theorem d_C_part_78 : decode b_C_part 78 = .ok (.iadd, 1) := by decide +kernel
theorem d_C_part_79 : decode b_C_part 79 = .ok (.invokevirtual 124, 3) := by decide +kernel
theorem d_C_part_82 : decode b_C_part 82 = .ok (.goto 4, 3) := by decide +kernel
theorem d_C_part_85 : decode b_C_part 85 = .ok (.iconst (-1), 1) := by decide +kernel
theorem d_C_part_86 : decode b_C_part 86 = .ok (.istore_n 3, 1) := by decide +kernel
theorem d_C_part_87 : decode b_C_part 87 = .ok (.aload_n 0, 1) := by decide +kernel
theorem d_C_part_88 : decode b_C_part 88 = .ok (.bipush 41, 2) := by decide +kernel
theorem d_C_part_90 : decode b_C_part 90 = .ok (.invokevirtual 85, 3) := by decide +kernel
theorem d_C_part_93 : decode b_C_part 93 = .ok (.ifCond .eq 7, 3) := by decide +kernel
theorem d_C_part_96 : decode b_C_part 96 = .ok (.iload_n 3, 1) := by decide +kernel
theorem d_C_part_97 : decode b_C_part 97 = .ok (.goto 4, 3) := by decide +kernel
theorem d_C_part_100 : decode b_C_part 100 = .ok (.iconst (-1), 1) := by decide +kernel
theorem d_C_part_101 : decode b_C_part 101 = .ok (.ireturn, 1) := by decide +kernel
theorem d_C_letter_0 : decode b_C_letter 0 = .ok (.iload_n 1, 1) := by decide +kernel
theorem d_C_letter_1 : decode b_C_letter 1 = .ok (.lookupswitch 71 #[(99, 64), (116, 57), (120, 43), (121, 50)], 43) := by decide +kernel
theorem d_C_letter_44 : decode b_C_letter 44 = .ok (.aload_n 0, 1) := by decide +kernel
theorem d_C_letter_45 : decode b_C_letter 45 = .ok (.iconst 0, 1) := by decide +kernel
theorem d_C_letter_46 : decode b_C_letter 46 = .ok (.iconst 1, 1) := by decide +kernel
theorem d_C_letter_47 : decode b_C_letter 47 = .ok (.invokevirtual 128, 3) := by decide +kernel
theorem d_C_letter_50 : decode b_C_letter 50 = .ok (.ireturn, 1) := by decide +kernel
theorem d_C_letter_51 : decode b_C_letter 51 = .ok (.aload_n 0, 1) := by decide +kernel
theorem d_C_letter_52 : decode b_C_letter 52 = .ok (.iconst 1, 1) := by decide +kernel
theorem d_C_letter_53 : decode b_C_letter 53 = .ok (.iconst 1, 1) := by decide +kernel
theorem d_C_letter_54 : decode b_C_letter 54 = .ok (.invokevirtual 128, 3) := by decide +kernel
theorem d_C_letter_57 : decode b_C_letter 57 = .ok (.ireturn, 1) := by decide +kernel
theorem d_C_letter_58 : decode b_C_letter 58 = .ok (.aload_n 0, 1) := by decide +kernel
theorem d_C_letter_59 : decode b_C_letter 59 = .ok (.iconst 2, 1) := by decide +kernel
theorem d_C_letter_60 : decode b_C_letter 60 = .ok (.iconst 1, 1) := by decide +kernel
theorem d_C_letter_61 : decode b_C_letter 61 = .ok (.invokevirtual 128, 3) := by decide +kernel
theorem d_C_letter_64 : decode b_C_letter 64 = .ok (.ireturn, 1) := by decide +kernel
theorem d_C_letter_65 : decode b_C_letter 65 = .ok (.aload_n 0, 1) := by decide +kernel
theorem d_C_letter_66 : decode b_C_letter 66 = .ok (.iconst 3, 1) := by decide +kernel
theorem d_C_letter_67 : decode b_C_letter 67 = .ok (.iconst 3, 1) := by decide +kernel
theorem d_C_letter_68 : decode b_C_letter 68 = .ok (.invokevirtual 128, 3) := by decide +kernel
theorem d_C_letter_71 : decode b_C_letter 71 = .ok (.ireturn, 1) := by decide +kernel
theorem d_C_letter_72 : decode b_C_letter 72 = .ok (.aload_n 0, 1) := by decide +kernel
theorem d_C_letter_73 : decode b_C_letter 73 = .ok (.getfield 9, 3) := by decide +kernel
theorem d_C_letter_76 : decode b_C_letter 76 = .ok (.iload_n 1, 1) := by decide +kernel
theorem d_C_letter_77 : decode b_C_letter 77 = .ok (.bipush 97, 2) := by decide +kernel
theorem d_C_letter_79 : decode b_C_letter 79 = .ok (.isub, 1) := by decide +kernel
theorem d_C_letter_80 : decode b_C_letter 80 = .ok (.iaload, 1) := by decide +kernel
theorem d_C_letter_81 : decode b_C_letter 81 = .ok (.ireturn, 1) := by decide +kernel
theorem d_C_input_0 : decode b_C_input 0 = .ok (.iload_n 2, 1) := by decide +kernel
theorem d_C_input_1 : decode b_C_input 1 = .ok (.invokestatic 131, 3) := by decide +kernel
theorem d_C_input_4 : decode b_C_input 4 = .ok (.istore_n 3, 1) := by decide +kernel
theorem d_C_input_5 : decode b_C_input 5 = .ok (.iconst 0, 1) := by decide +kernel
theorem d_C_input_6 : decode b_C_input 6 = .ok (.istore 4, 2) := by decide +kernel
theorem d_C_input_8 : decode b_C_input 8 = .ok (.iload 4, 2) := by decide +kernel
theorem d_C_input_10 : decode b_C_input 10 = .ok (.iload_n 2, 1) := by decide +kernel
theorem d_C_input_11 : decode b_C_input 11 = .ok (.if_icmp .ge 29, 3) := by decide +kernel
theorem d_C_input_14 : decode b_C_input 14 = .ok (.iload_n 3, 1) := by decide +kernel
theorem d_C_input_15 : decode b_C_input 15 = .ok (.iload 4, 2) := by decide +kernel
theorem d_C_input_17 : decode b_C_input 17 = .ok (.aload_n 0, 1) := by decide +kernel
theorem d_C_input_18 : decode b_C_input 18 = .ok (.getfield 29, 3) := by decide +kernel
theorem d_C_input_21 : decode b_C_input 21 = .ok (.iconst 1, 1) := by decide +kernel
theorem d_C_input_22 : decode b_C_input 22 = .ok (.iload_n 1, 1) := by decide +kernel
theorem d_C_input_23 : decode b_C_input 23 = .ok (.iload 4, 2) := by decide +kernel
theorem d_C_input_25 : decode b_C_input 25 = .ok (.iadd, 1) := by decide +kernel
theorem d_C_input_26 : decode b_C_input 26 = .ok (.iconst 0, 1) := by decide +kernel
theorem d_C_input_27 : decode b_C_input 27 = .ok (.invokevirtual 134, 3) := by decide +kernel
theorem d_C_input_30 : decode b_C_input 30 = .ok (.invokestatic 137, 3) := by decide +kernel
theorem d_C_input_33 : decode b_C_input 33 = .ok (.istore_n 3, 1) := by decide +kernel
theorem d_C_input_34 : decode b_C_input 34 = .ok (.iinc 4 1, 3) := by decide +kernel
theorem d_C_input_37 : decode b_C_input 37 = .ok (.goto (-29), 3) := by decide +kernel
theorem d_C_input_40 : decode b_C_input 40 = .ok (.iload_n 3, 1) := by decide +kernel
theorem d_C_input_41 : decode b_C_input 41 = .ok (.ireturn, 1) := by decide +kernel
theorem d_C_constant_0 : decode b_C_constant 0 = .ok (.iconst 0, 1) := by decide +kernel
theorem d_C_constant_1 : decode b_C_constant 1 = .ok (.istore_n 1, 1) := by decide +kernel
theorem d_C_constant_2 : decode b_C_constant 2 = .ok (.iconst 0, 1) := by decide +kernel
theorem d_C_constant_3 : decode b_C_constant 3 = .ok (.istore_n 2, 1) := by decide +kernel
theorem d_C_constant_4 : decode b_C_constant 4 = .ok (.iload_n 2, 1) := by decide +kernel
theorem d_C_constant_5 : decode b_C_constant 5 = .ok (.iconst 4, 1) := by decide +kernel
theorem d_C_constant_6 : decode b_C_constant 6 = .ok (.if_icmp .ge 29, 3) := by decide +kernel
theorem d_C_constant_9 : decode b_C_constant 9 = .ok (.aload_n 0, 1) := by decide +kernel
theorem d_C_constant_10 : decode b_C_constant 10 = .ok (.invokevirtual 74, 3) := by decide +kernel
theorem d_C_constant_13 : decode b_C_constant 13 = .ok (.invokestatic 104, 3) := by decide +kernel
theorem d_C_constant_16 : decode b_C_constant 16 = .ok (.ifCond .eq 19, 3) := by decide +kernel
theorem d_C_constant_19 : decode b_C_constant 19 = .ok (.iload_n 1, 1) := by decide +kernel
theorem d_C_constant_20 : decode b_C_constant 20 = .ok (.bipush 10, 2) := by decide +kernel
theorem d_C_constant_22 : decode b_C_constant 22 = .ok (.imul, 1) := by decide +kernel
theorem d_C_constant_23 : decode b_C_constant 23 = .ok (.aload_n 0, 1) := by decide +kernel
theorem d_C_constant_24 : decode b_C_constant 24 = .ok (.invokevirtual 140, 3) := by decide +kernel
theorem d_C_constant_27 : decode b_C_constant 27 = .ok (.iadd, 1) := by decide +kernel
theorem d_C_constant_28 : decode b_C_constant 28 = .ok (.istore_n 1, 1) := by decide +kernel
theorem d_C_constant_29 : decode b_C_constant 29 = .ok (.iinc 2 1, 3) := by decide +kernel
theorem d_C_constant_32 : decode b_C_constant 32 = .ok (.goto (-28), 3) := by decide +kernel
theorem d_C_constant_35 : decode b_C_constant 35 = .ok (.iconst 1, 1) := by decide +kernel
theorem d_C_constant_36 : decode b_C_constant 36 = .ok (.istore_n 2, 1) := by decide +kernel
theorem d_C_constant_37 : decode b_C_constant 37 = .ok (.iconst 0, 1) := by decide +kernel
theorem d_C_constant_38 : decode b_C_constant 38 = .ok (.istore_n 3, 1) := by decide +kernel
theorem d_C_constant_39 : decode b_C_constant 39 = .ok (.aload_n 0, 1) := by decide +kernel
theorem d_C_constant_40 : decode b_C_constant 40 = .ok (.bipush 46, 2) := by decide +kernel
theorem d_C_constant_42 : decode b_C_constant 42 = .ok (.invokevirtual 85, 3) := by decide +kernel
theorem d_C_constant_45 : decode b_C_constant 45 = .ok (.ifCond .eq 50, 3) := by decide +kernel
theorem d_C_constant_48 : decode b_C_constant 48 = .ok (.iconst 0, 1) := by decide +kernel
theorem d_C_constant_49 : decode b_C_constant 49 = .ok (.istore 4, 2) := by decide +kernel
theorem d_C_constant_51 : decode b_C_constant 51 = .ok (.iload 4, 2) := by decide +kernel
theorem d_C_constant_53 : decode b_C_constant 53 = .ok (.iconst 4, 1) := by decide +kernel
theorem d_C_constant_54 : decode b_C_constant 54 = .ok (.if_icmp .ge 34, 3) := by decide +kernel
theorem d_C_constant_57 : decode b_C_constant 57 = .ok (.aload_n 0, 1) := by decide +kernel
theorem d_C_constant_58 : decode b_C_constant 58 = .ok (.invokevirtual 74, 3) := by decide +kernel
theorem d_C_constant_61 : decode b_C_constant 61 = .ok (.invokestatic 104, 3) := by decide +kernel
theorem d_C_constant_64 : decode b_C_constant 64 = .ok (.ifCond .eq 24, 3) := by decide +kernel
theorem d_C_constant_67 : decode b_C_constant 67 = .ok (.iload_n 3, 1) := by decide +kernel
theorem d_C_constant_68 : decode b_C_constant 68 = .ok (.bipush 10, 2) := by decide +kernel
theorem d_C_constant_70 : decode b_C_constant 70 = .ok (.imul, 1) := by decide +kernel
theorem d_C_constant_71 : decode b_C_constant 71 = .ok (.aload_n 0, 1) := by decide +kernel
theorem d_C_constant_72 : decode b_C_constant 72 = .ok (.invokevirtual 140, 3) := by decide +kernel
theorem d_C_constant_75 : decode b_C_constant 75 = .ok (.iadd, 1) := by decide +kernel
theorem d_C_constant_76 : decode b_C_constant 76 = .ok (.istore_n 3, 1) := by decide +kernel
theorem d_C_constant_77 : decode b_C_constant 77 = .ok (.iload_n 2, 1) := by decide +kernel
theorem d_C_constant_78 : decode b_C_constant 78 = .ok (.bipush 10, 2) := by decide +kernel
theorem d_C_constant_80 : decode b_C_constant 80 = .ok (.imul, 1) := by decide +kernel
theorem d_C_constant_81 : decode b_C_constant 81 = .ok (.istore_n 2, 1) := by decide +kernel
theorem d_C_constant_82 : decode b_C_constant 82 = .ok (.iinc 4 1, 3) := by decide +kernel
theorem d_C_constant_85 : decode b_C_constant 85 = .ok (.goto (-34), 3) := by decide +kernel
theorem d_C_constant_88 : decode b_C_constant 88 = .ok (.iload_n 2, 1) := by decide +kernel
theorem d_C_constant_89 : decode b_C_constant 89 = .ok (.iconst 1, 1) := by decide +kernel
theorem d_C_constant_90 : decode b_C_constant 90 = .ok (.if_icmp .ne 5, 3) := by decide +kernel
theorem d_C_constant_93 : decode b_C_constant 93 = .ok (.iconst (-1), 1) := by decide +kernel
theorem d_C_constant_94 : decode b_C_constant 94 = .ok (.ireturn, 1) := by decide +kernel
theorem d_C_constant_95 : decode b_C_constant 95 = .ok (.iload_n 1, 1) := by decide +kernel
theorem d_C_constant_96 : decode b_C_constant 96 = .ok (.ldc 143, 2) := by decide +kernel
theorem d_C_constant_98 : decode b_C_constant 98 = .ok (.imul, 1) := by decide +kernel
theorem d_C_constant_99 : decode b_C_constant 99 = .ok (.iload_n 3, 1) := by decide +kernel
theorem d_C_constant_100 : decode b_C_constant 100 = .ok (.ldc 143, 2) := by decide +kernel
theorem d_C_constant_102 : decode b_C_constant 102 = .ok (.imul, 1) := by decide +kernel
theorem d_C_constant_103 : decode b_C_constant 103 = .ok (.iload_n 2, 1) := by decide +kernel
theorem d_C_constant_104 : decode b_C_constant 104 = .ok (.idiv, 1) := by decide +kernel
theorem d_C_constant_105 : decode b_C_constant 105 = .ok (.iadd, 1) := by decide +kernel
theorem d_C_constant_106 : decode b_C_constant 106 = .ok (.istore 4, 2) := by decide +kernel
theorem d_C_constant_108 : decode b_C_constant 108 = .ok (.iconst 1, 1) := by decide +kernel
theorem d_C_constant_109 : decode b_C_constant 109 = .ok (.invokestatic 131, 3) := by decide +kernel
theorem d_C_constant_112 : decode b_C_constant 112 = .ok (.iconst 0, 1) := by decide +kernel
theorem d_C_constant_113 : decode b_C_constant 113 = .ok (.aload_n 0, 1) := by decide +kernel
theorem d_C_constant_114 : decode b_C_constant 114 = .ok (.getfield 29, 3) := by decide +kernel
theorem d_C_constant_117 : decode b_C_constant 117 = .ok (.iconst 0, 1) := by decide +kernel
theorem d_C_constant_118 : decode b_C_constant 118 = .ok (.iload 4, 2) := by decide +kernel
theorem d_C_constant_120 : decode b_C_constant 120 = .ok (.iconst 0, 1) := by decide +kernel
theorem d_C_constant_121 : decode b_C_constant 121 = .ok (.invokevirtual 134, 3) := by decide +kernel
theorem d_C_constant_124 : decode b_C_constant 124 = .ok (.invokestatic 137, 3) := by decide +kernel
theorem d_C_constant_127 : decode b_C_constant 127 = .ok (.ireturn, 1) := by decide +kernel
theorem d_C_digit_0 : decode b_C_digit 0 = .ok (.aload_n 0, 1) := by decide +kernel
theorem d_C_digit_1 : decode b_C_digit 1 = .ok (.invokevirtual 74, 3) := by decide +kernel
theorem d_C_digit_4 : decode b_C_digit 4 = .ok (.bipush 48, 2) := by decide +kernel
theorem d_C_digit_6 : decode b_C_digit 6 = .ok (.isub, 1) := by decide +kernel
theorem d_C_digit_7 : decode b_C_digit 7 = .ok (.istore_n 1, 1) := by decide +kernel
theorem d_C_digit_8 : decode b_C_digit 8 = .ok (.aload_n 0, 1) := by decide +kernel
theorem d_C_digit_9 : decode b_C_digit 9 = .ok (.dup, 1) := by decide +kernel
theorem d_C_digit_10 : decode b_C_digit 10 = .ok (.getfield 23, 3) := by decide +kernel
theorem d_C_digit_13 : decode b_C_digit 13 = .ok (.iconst 1, 1) := by decide +kernel
theorem d_C_digit_14 : decode b_C_digit 14 = .ok (.iadd, 1) := by decide +kernel
theorem d_C_digit_15 : decode b_C_digit 15 = .ok (.putfield 23, 3) := by decide +kernel
theorem d_C_digit_18 : decode b_C_digit 18 = .ok (.iload_n 1, 1) := by decide +kernel
theorem d_C_digit_19 : decode b_C_digit 19 = .ok (.ireturn, 1) := by decide +kernel
theorem d_C_picked_0 : decode b_C_picked 0 = .ok (.iload_n 1, 1) := by decide +kernel
theorem d_C_picked_1 : decode b_C_picked 1 = .ok (.iconst (-1), 1) := by decide +kernel
theorem d_C_picked_2 : decode b_C_picked 2 = .ok (.if_icmp .eq 12, 3) := by decide +kernel
theorem d_C_picked_5 : decode b_C_picked 5 = .ok (.aload_n 0, 1) := by decide +kernel
theorem d_C_picked_6 : decode b_C_picked 6 = .ok (.bipush 46, 2) := by decide +kernel
theorem d_C_picked_8 : decode b_C_picked 8 = .ok (.invokevirtual 85, 3) := by decide +kernel
theorem d_C_picked_11 : decode b_C_picked 11 = .ok (.ifCond .ne 5, 3) := by decide +kernel
theorem d_C_picked_14 : decode b_C_picked 14 = .ok (.iload_n 1, 1) := by decide +kernel
theorem d_C_picked_15 : decode b_C_picked 15 = .ok (.ireturn, 1) := by decide +kernel
theorem d_C_picked_16 : decode b_C_picked 16 = .ok (.iconst 0, 1) := by decide +kernel
theorem d_C_picked_17 : decode b_C_picked 17 = .ok (.istore_n 2, 1) := by decide +kernel
theorem d_C_picked_18 : decode b_C_picked 18 = .ok (.iload_n 2, 1) := by decide +kernel
theorem d_C_picked_19 : decode b_C_picked 19 = .ok (.iconst 3, 1) := by decide +kernel
theorem d_C_picked_20 : decode b_C_picked 20 = .ok (.if_icmp .ge 39, 3) := by decide +kernel
theorem d_C_picked_23 : decode b_C_picked 23 = .ok (.aload_n 0, 1) := by decide +kernel
theorem d_C_picked_24 : decode b_C_picked 24 = .ok (.getfield 23, 3) := by decide +kernel
theorem d_C_picked_27 : decode b_C_picked 27 = .ok (.iload_n 2, 1) := by decide +kernel
theorem d_C_picked_28 : decode b_C_picked 28 = .ok (.iadd, 1) := by decide +kernel
theorem d_C_picked_29 : decode b_C_picked 29 = .ok (.aload_n 0, 1) := by decide +kernel
theorem d_C_picked_30 : decode b_C_picked 30 = .ok (.getfield 19, 3) := by decide +kernel
theorem d_C_picked_33 : decode b_C_picked 33 = .ok (.if_icmp .ge 26, 3) := by decide +kernel
theorem d_C_picked_36 : decode b_C_picked 36 = .ok (.aload_n 0, 1) := by decide +kernel
theorem d_C_picked_37 : decode b_C_picked 37 = .ok (.getfield 15, 3) := by decide +kernel
theorem d_C_picked_40 : decode b_C_picked 40 = .ok (.aload_n 0, 1) := by decide +kernel
theorem d_C_picked_41 : decode b_C_picked 41 = .ok (.getfield 23, 3) := by decide +kernel
theorem d_C_picked_44 : decode b_C_picked 44 = .ok (.iload_n 2, 1) := by decide +kernel
theorem d_C_picked_45 : decode b_C_picked 45 = .ok (.iadd, 1) := by decide +kernel
theorem d_C_picked_46 : decode b_C_picked 46 = .ok (.caload, 1) := by decide +kernel
theorem d_C_picked_47 : decode b_C_picked 47 = .ok (.invokestatic 144, 3) := by decide +kernel
theorem d_C_picked_50 : decode b_C_picked 50 = .ok (.ifCond .eq 9, 3) := by decide +kernel
theorem d_C_picked_53 : decode b_C_picked 53 = .ok (.iinc 2 1, 3) := by decide +kernel
theorem d_C_picked_56 : decode b_C_picked 56 = .ok (.goto (-38), 3) := by decide +kernel
theorem d_C_picked_59 : decode b_C_picked 59 = .ok (.iload_n 2, 1) := by decide +kernel
theorem d_C_picked_60 : decode b_C_picked 60 = .ok (.ifCond .eq 11, 3) := by decide +kernel
theorem d_C_picked_63 : decode b_C_picked 63 = .ok (.iload_n 1, 1) := by decide +kernel
theorem d_C_picked_64 : decode b_C_picked 64 = .ok (.invokestatic 48, 3) := by decide +kernel
theorem d_C_picked_67 : decode b_C_picked 67 = .ok (.iconst 4, 1) := by decide +kernel
theorem d_C_picked_68 : decode b_C_picked 68 = .ok (.if_icmp .ne 5, 3) := by decide +kernel
theorem d_C_picked_71 : decode b_C_picked 71 = .ok (.iconst (-1), 1) := by decide +kernel
theorem d_C_picked_72 : decode b_C_picked 72 = .ok (.ireturn, 1) := by decide +kernel
theorem d_C_picked_73 : decode b_C_picked 73 = .ok (.iload_n 2, 1) := by decide +kernel
theorem d_C_picked_74 : decode b_C_picked 74 = .ok (.invokestatic 131, 3) := by decide +kernel
theorem d_C_picked_77 : decode b_C_picked 77 = .ok (.istore_n 3, 1) := by decide +kernel
theorem d_C_picked_78 : decode b_C_picked 78 = .ok (.iconst 0, 1) := by decide +kernel
theorem d_C_picked_79 : decode b_C_picked 79 = .ok (.istore 4, 2) := by decide +kernel
theorem d_C_picked_81 : decode b_C_picked 81 = .ok (.iload 4, 2) := by decide +kernel
theorem d_C_picked_83 : decode b_C_picked 83 = .ok (.iload_n 2, 1) := by decide +kernel
theorem d_C_picked_84 : decode b_C_picked 84 = .ok (.if_icmp .ge 50, 3) := by decide +kernel
theorem d_C_picked_87 : decode b_C_picked 87 = .ok (.aload_n 0, 1) := by decide +kernel
theorem d_C_picked_88 : decode b_C_picked 88 = .ok (.getfield 15, 3) := by decide +kernel
theorem d_C_picked_91 : decode b_C_picked 91 = .ok (.aload_n 0, 1) := by decide +kernel
theorem d_C_picked_92 : decode b_C_picked 92 = .ok (.getfield 23, 3) := by decide +kernel
theorem d_C_picked_95 : decode b_C_picked 95 = .ok (.iload 4, 2) := by decide +kernel
theorem d_C_picked_97 : decode b_C_picked 97 = .ok (.iadd, 1) := by decide +kernel
theorem d_C_picked_98 : decode b_C_picked 98 = .ok (.caload, 1) := by decide +kernel
theorem d_C_picked_99 : decode b_C_picked 99 = .ok (.bipush 120, 2) := by decide +kernel
theorem d_C_picked_101 : decode b_C_picked 101 = .ok (.isub, 1) := by decide +kernel
theorem d_C_picked_102 : decode b_C_picked 102 = .ok (.istore 5, 2) := by decide +kernel
theorem d_C_picked_104 : decode b_C_picked 104 = .ok (.iload 5, 2) := by decide +kernel
theorem d_C_picked_106 : decode b_C_picked 106 = .ok (.iload_n 1, 1) := by decide +kernel
theorem d_C_picked_107 : decode b_C_picked 107 = .ok (.invokestatic 48, 3) := by decide +kernel
theorem d_C_picked_110 : decode b_C_picked 110 = .ok (.if_icmp .lt 5, 3) := by decide +kernel
theorem d_C_picked_113 : decode b_C_picked 113 = .ok (.iconst (-1), 1) := by decide +kernel
theorem d_C_picked_114 : decode b_C_picked 114 = .ok (.ireturn, 1) := by decide +kernel
theorem d_C_picked_115 : decode b_C_picked 115 = .ok (.iload_n 3, 1) := by decide +kernel
theorem d_C_picked_116 : decode b_C_picked 116 = .ok (.iload 4, 2) := by decide +kernel
theorem d_C_picked_118 : decode b_C_picked 118 = .ok (.iload_n 1, 1) := by decide +kernel
theorem d_C_picked_119 : decode b_C_picked 119 = .ok (.iload 5, 2) := by decide +kernel
theorem d_C_picked_121 : decode b_C_picked 121 = .ok (.invokestatic 67, 3) := by decide +kernel
theorem d_C_picked_124 : decode b_C_picked 124 = .ok (.invokestatic 137, 3) := by decide +kernel
theorem d_C_picked_127 : decode b_C_picked 127 = .ok (.istore_n 3, 1) := by decide +kernel
theorem d_C_picked_128 : decode b_C_picked 128 = .ok (.iinc 4 1, 3) := by decide +kernel
theorem d_C_picked_131 : decode b_C_picked 131 = .ok (.goto (-50), 3) := by decide +kernel
theorem d_C_picked_134 : decode b_C_picked 134 = .ok (.aload_n 0, 1) := by decide +kernel
theorem d_C_picked_135 : decode b_C_picked 135 = .ok (.dup, 1) := by decide +kernel
theorem d_C_picked_136 : decode b_C_picked 136 = .ok (.getfield 23, 3) := by decide +kernel
theorem d_C_picked_139 : decode b_C_picked 139 = .ok (.iload_n 2, 1) := by decide +kernel
theorem d_C_picked_140 : decode b_C_picked 140 = .ok (.iadd, 1) := by decide +kernel
theorem d_C_picked_141 : decode b_C_picked 141 = .ok (.putfield 23, 3) := by decide +kernel
theorem d_C_picked_144 : decode b_C_picked 144 = .ok (.iload_n 3, 1) := by decide +kernel
theorem d_C_picked_145 : decode b_C_picked 145 = .ok (.ireturn, 1) := by decide +kernel
theorem d_C_function_0 : decode b_C_function 0 = .ok (.iload_n 1, 1) := by decide +kernel
theorem d_C_function_1 : decode b_C_function 1 = .ok (.lookupswitch 65 #[(65, 35), (70, 47), (86, 59)], 35) := by decide +kernel
theorem d_C_function_36 : decode b_C_function 36 = .ok (.aload_n 0, 1) := by decide +kernel
theorem d_C_function_37 : decode b_C_function 37 = .ok (.bipush 10, 2) := by decide +kernel
theorem d_C_function_39 : decode b_C_function 39 = .ok (.aload_n 0, 1) := by decide +kernel
theorem d_C_function_40 : decode b_C_function 40 = .ok (.iload_n 2, 1) := by decide +kernel
theorem d_C_function_41 : decode b_C_function 41 = .ok (.invokevirtual 44, 3) := by decide +kernel
theorem d_C_function_44 : decode b_C_function 44 = .ok (.invokevirtual 117, 3) := by decide +kernel
theorem d_C_function_47 : decode b_C_function 47 = .ok (.ireturn, 1) := by decide +kernel
theorem d_C_function_48 : decode b_C_function 48 = .ok (.aload_n 0, 1) := by decide +kernel
theorem d_C_function_49 : decode b_C_function 49 = .ok (.bipush 11, 2) := by decide +kernel
theorem d_C_function_51 : decode b_C_function 51 = .ok (.aload_n 0, 1) := by decide +kernel
theorem d_C_function_52 : decode b_C_function 52 = .ok (.iload_n 2, 1) := by decide +kernel
theorem d_C_function_53 : decode b_C_function 53 = .ok (.invokevirtual 44, 3) := by decide +kernel
theorem d_C_function_56 : decode b_C_function 56 = .ok (.invokevirtual 117, 3) := by decide +kernel
theorem d_C_function_59 : decode b_C_function 59 = .ok (.ireturn, 1) := by decide +kernel
theorem d_C_function_60 : decode b_C_function 60 = .ok (.aload_n 0, 1) := by decide +kernel
theorem d_C_function_61 : decode b_C_function 61 = .ok (.iload_n 2, 1) := by decide +kernel
theorem d_C_function_62 : decode b_C_function 62 = .ok (.invokevirtual 147, 3) := by decide +kernel
theorem d_C_function_65 : decode b_C_function 65 = .ok (.ireturn, 1) := by decide +kernel
theorem d_C_function_66 : decode b_C_function 66 = .ok (.aload_n 0, 1) := by decide +kernel
theorem d_C_function_67 : decode b_C_function 67 = .ok (.iload_n 1, 1) := by decide +kernel
theorem d_C_function_68 : decode b_C_function 68 = .ok (.iload_n 2, 1) := by decide +kernel
theorem d_C_function_69 : decode b_C_function 69 = .ok (.invokevirtual 150, 3) := by decide +kernel
theorem d_C_function_72 : decode b_C_function 72 = .ok (.ireturn, 1) := by decide +kernel
theorem d_C_functionOfTwo_0 : decode b_C_functionOfTwo 0 = .ok (.aload_n 0, 1) := by decide +kernel
theorem d_C_functionOfTwo_1 : decode b_C_functionOfTwo 1 = .ok (.iload_n 2, 1) := by decide +kernel
theorem d_C_functionOfTwo_2 : decode b_C_functionOfTwo 2 = .ok (.invokevirtual 44, 3) := by decide +kernel
theorem d_C_functionOfTwo_5 : decode b_C_functionOfTwo 5 = .ok (.istore_n 3, 1) := by decide +kernel
theorem d_C_functionOfTwo_6 : decode b_C_functionOfTwo 6 = .ok (.aload_n 0, 1) := by decide +kernel
theorem d_C_functionOfTwo_7 : decode b_C_functionOfTwo 7 = .ok (.bipush 44, 2) := by decide +kernel
theorem d_C_functionOfTwo_9 : decode b_C_functionOfTwo 9 = .ok (.invokevirtual 85, 3) := by decide +kernel
theorem d_C_functionOfTwo_12 : decode b_C_functionOfTwo 12 = .ok (.ifCond .eq 11, 3) := by decide +kernel
theorem d_C_functionOfTwo_15 : decode b_C_functionOfTwo 15 = .ok (.aload_n 0, 1) := by decide +kernel
theorem d_C_functionOfTwo_16 : decode b_C_functionOfTwo 16 = .ok (.iload_n 2, 1) := by decide +kernel
theorem d_C_functionOfTwo_17 : decode b_C_functionOfTwo 17 = .ok (.invokevirtual 44, 3) := by decide +kernel
theorem d_C_functionOfTwo_20 : decode b_C_functionOfTwo 20 = .ok (.goto 4, 3) := by decide +kernel
theorem d_C_functionOfTwo_23 : decode b_C_functionOfTwo 23 = .ok (.iconst (-1), 1) := by decide +kernel
theorem d_C_functionOfTwo_24 : decode b_C_functionOfTwo 24 = .ok (.istore 4, 2) := by decide +kernel
theorem d_C_functionOfTwo_26 : decode b_C_functionOfTwo 26 = .ok (.iload_n 1, 1) := by decide +kernel
theorem d_C_functionOfTwo_27 : decode b_C_functionOfTwo 27 = .ok (.lookupswitch 95 #[(68, 79), (77, 87), (78, 49), (83, 69), (88, 59)], 49) := by decide +kernel
theorem d_C_functionOfTwo_76 : decode b_C_functionOfTwo 76 = .ok (.aload_n 0, 1) := by decide +kernel
theorem d_C_functionOfTwo_77 : decode b_C_functionOfTwo 77 = .ok (.bipush 6, 2) := by decide +kernel
theorem d_C_functionOfTwo_79 : decode b_C_functionOfTwo 79 = .ok (.iload_n 3, 1) := by decide +kernel
theorem d_C_functionOfTwo_80 : decode b_C_functionOfTwo 80 = .ok (.iload 4, 2) := by decide +kernel
theorem d_C_functionOfTwo_82 : decode b_C_functionOfTwo 82 = .ok (.invokevirtual 91, 3) := by decide +kernel
theorem d_C_functionOfTwo_85 : decode b_C_functionOfTwo 85 = .ok (.ireturn, 1) := by decide +kernel
theorem d_C_functionOfTwo_86 : decode b_C_functionOfTwo 86 = .ok (.aload_n 0, 1) := by decide +kernel
theorem d_C_functionOfTwo_87 : decode b_C_functionOfTwo 87 = .ok (.bipush 7, 2) := by decide +kernel
theorem d_C_functionOfTwo_89 : decode b_C_functionOfTwo 89 = .ok (.iload_n 3, 1) := by decide +kernel
theorem d_C_functionOfTwo_90 : decode b_C_functionOfTwo 90 = .ok (.iload 4, 2) := by decide +kernel
theorem d_C_functionOfTwo_92 : decode b_C_functionOfTwo 92 = .ok (.invokevirtual 91, 3) := by decide +kernel
theorem d_C_functionOfTwo_95 : decode b_C_functionOfTwo 95 = .ok (.ireturn, 1) := by decide +kernel
theorem d_C_functionOfTwo_96 : decode b_C_functionOfTwo 96 = .ok (.aload_n 0, 1) := by decide +kernel
theorem d_C_functionOfTwo_97 : decode b_C_functionOfTwo 97 = .ok (.bipush 8, 2) := by decide +kernel
theorem d_C_functionOfTwo_99 : decode b_C_functionOfTwo 99 = .ok (.iload_n 3, 1) := by decide +kernel
theorem d_C_functionOfTwo_100 : decode b_C_functionOfTwo 100 = .ok (.iload 4, 2) := by decide +kernel
theorem d_C_functionOfTwo_102 : decode b_C_functionOfTwo 102 = .ok (.invokevirtual 91, 3) := by decide +kernel
theorem d_C_functionOfTwo_105 : decode b_C_functionOfTwo 105 = .ok (.ireturn, 1) := by decide +kernel
theorem d_C_functionOfTwo_106 : decode b_C_functionOfTwo 106 = .ok (.aload_n 0, 1) := by decide +kernel
theorem d_C_functionOfTwo_107 : decode b_C_functionOfTwo 107 = .ok (.iload_n 3, 1) := by decide +kernel
theorem d_C_functionOfTwo_108 : decode b_C_functionOfTwo 108 = .ok (.iload 4, 2) := by decide +kernel
theorem d_C_functionOfTwo_110 : decode b_C_functionOfTwo 110 = .ok (.invokevirtual 153, 3) := by decide +kernel
theorem d_C_functionOfTwo_113 : decode b_C_functionOfTwo 113 = .ok (.ireturn, 1) := by decide +kernel
theorem d_C_functionOfTwo_114 : decode b_C_functionOfTwo 114 = .ok (.aload_n 0, 1) := by decide +kernel
theorem d_C_functionOfTwo_115 : decode b_C_functionOfTwo 115 = .ok (.iload_n 3, 1) := by decide +kernel
theorem d_C_functionOfTwo_116 : decode b_C_functionOfTwo 116 = .ok (.iload 4, 2) := by decide +kernel
theorem d_C_functionOfTwo_118 : decode b_C_functionOfTwo 118 = .ok (.invokevirtual 156, 3) := by decide +kernel
theorem d_C_functionOfTwo_121 : decode b_C_functionOfTwo 121 = .ok (.ireturn, 1) := by decide +kernel
theorem d_C_functionOfTwo_122 : decode b_C_functionOfTwo 122 = .ok (.iconst (-1), 1) := by decide +kernel
theorem d_C_functionOfTwo_123 : decode b_C_functionOfTwo 123 = .ok (.ireturn, 1) := by decide +kernel
theorem d_C_vector_0 : decode b_C_vector 0 = .ok (.aload_n 0, 1) := by decide +kernel
theorem d_C_vector_1 : decode b_C_vector 1 = .ok (.iload_n 1, 1) := by decide +kernel
theorem d_C_vector_2 : decode b_C_vector 2 = .ok (.invokevirtual 44, 3) := by decide +kernel
theorem d_C_vector_5 : decode b_C_vector 5 = .ok (.istore_n 2, 1) := by decide +kernel
theorem d_C_vector_6 : decode b_C_vector 6 = .ok (.iconst 0, 1) := by decide +kernel
theorem d_C_vector_7 : decode b_C_vector 7 = .ok (.istore_n 3, 1) := by decide +kernel
theorem d_C_vector_8 : decode b_C_vector 8 = .ok (.iload_n 3, 1) := by decide +kernel
theorem d_C_vector_9 : decode b_C_vector 9 = .ok (.iconst 2, 1) := by decide +kernel
theorem d_C_vector_10 : decode b_C_vector 10 = .ok (.if_icmp .ge 29, 3) := by decide +kernel
theorem d_C_vector_13 : decode b_C_vector 13 = .ok (.aload_n 0, 1) := by decide +kernel
theorem d_C_vector_14 : decode b_C_vector 14 = .ok (.bipush 44, 2) := by decide +kernel
theorem d_C_vector_16 : decode b_C_vector 16 = .ok (.invokevirtual 85, 3) := by decide +kernel
theorem d_C_vector_19 : decode b_C_vector 19 = .ok (.ifCond .eq 20, 3) := by decide +kernel
theorem d_C_vector_22 : decode b_C_vector 22 = .ok (.aload_n 0, 1) := by decide +kernel
theorem d_C_vector_23 : decode b_C_vector 23 = .ok (.iload_n 2, 1) := by decide +kernel
theorem d_C_vector_24 : decode b_C_vector 24 = .ok (.aload_n 0, 1) := by decide +kernel
theorem d_C_vector_25 : decode b_C_vector 25 = .ok (.iload_n 1, 1) := by decide +kernel
theorem d_C_vector_26 : decode b_C_vector 26 = .ok (.invokevirtual 44, 3) := by decide +kernel
theorem d_C_vector_29 : decode b_C_vector 29 = .ok (.invokevirtual 159, 3) := by decide +kernel
theorem d_C_vector_32 : decode b_C_vector 32 = .ok (.istore_n 2, 1) := by decide +kernel
theorem d_C_vector_33 : decode b_C_vector 33 = .ok (.iinc 3 1, 3) := by decide +kernel
theorem d_C_vector_36 : decode b_C_vector 36 = .ok (.goto (-28), 3) := by decide +kernel
theorem d_C_vector_39 : decode b_C_vector 39 = .ok (.iload_n 2, 1) := by decide +kernel
theorem d_C_vector_40 : decode b_C_vector 40 = .ok (.iconst (-1), 1) := by decide +kernel
theorem d_C_vector_41 : decode b_C_vector 41 = .ok (.if_icmp .eq 19, 3) := by decide +kernel
theorem d_C_vector_44 : decode b_C_vector 44 = .ok (.iload_n 2, 1) := by decide +kernel
theorem d_C_vector_45 : decode b_C_vector 45 = .ok (.invokestatic 48, 3) := by decide +kernel
theorem d_C_vector_48 : decode b_C_vector 48 = .ok (.iconst 1, 1) := by decide +kernel
theorem d_C_vector_49 : decode b_C_vector 49 = .ok (.if_icmp .eq 11, 3) := by decide +kernel
theorem d_C_vector_52 : decode b_C_vector 52 = .ok (.iload_n 2, 1) := by decide +kernel
theorem d_C_vector_53 : decode b_C_vector 53 = .ok (.invokestatic 48, 3) := by decide +kernel
theorem d_C_vector_56 : decode b_C_vector 56 = .ok (.iconst 4, 1) := by decide +kernel
theorem d_C_vector_57 : decode b_C_vector 57 = .ok (.if_icmp .ne 5, 3) := by decide +kernel
theorem d_C_vector_60 : decode b_C_vector 60 = .ok (.iconst (-1), 1) := by decide +kernel
theorem d_C_vector_61 : decode b_C_vector 61 = .ok (.ireturn, 1) := by decide +kernel
theorem d_C_vector_62 : decode b_C_vector 62 = .ok (.iload_n 2, 1) := by decide +kernel
theorem d_C_vector_63 : decode b_C_vector 63 = .ok (.ireturn, 1) := by decide +kernel
theorem d_C_matrix_0 : decode b_C_matrix 0 = .ok (.iload_n 1, 1) := by decide +kernel
theorem d_C_matrix_1 : decode b_C_matrix 1 = .ok (.iconst (-1), 1) := by decide +kernel
theorem d_C_matrix_2 : decode b_C_matrix 2 = .ok (.if_icmp .eq 8, 3) := by decide +kernel
theorem d_C_matrix_5 : decode b_C_matrix 5 = .ok (.iload_n 2, 1) := by decide +kernel
theorem d_C_matrix_6 : decode b_C_matrix 6 = .ok (.iconst (-1), 1) := by decide +kernel
theorem d_C_matrix_7 : decode b_C_matrix 7 = .ok (.if_icmp .ne 5, 3) := by decide +kernel
theorem d_C_matrix_10 : decode b_C_matrix 10 = .ok (.iconst (-1), 1) := by decide +kernel
theorem d_C_matrix_11 : decode b_C_matrix 11 = .ok (.ireturn, 1) := by decide +kernel
theorem d_C_matrix_12 : decode b_C_matrix 12 = .ok (.iload_n 1, 1) := by decide +kernel
theorem d_C_matrix_13 : decode b_C_matrix 13 = .ok (.invokestatic 48, 3) := by decide +kernel
theorem d_C_matrix_16 : decode b_C_matrix 16 = .ok (.iconst 2, 1) := by decide +kernel
theorem d_C_matrix_17 : decode b_C_matrix 17 = .ok (.if_icmp .ne 11, 3) := by decide +kernel
theorem d_C_matrix_20 : decode b_C_matrix 20 = .ok (.iload_n 2, 1) := by decide +kernel
theorem d_C_matrix_21 : decode b_C_matrix 21 = .ok (.invokestatic 48, 3) := by decide +kernel
theorem d_C_matrix_24 : decode b_C_matrix 24 = .ok (.iconst 2, 1) := by decide +kernel
theorem d_C_matrix_25 : decode b_C_matrix 25 = .ok (.if_icmp .eq 5, 3) := by decide +kernel
theorem d_C_matrix_28 : decode b_C_matrix 28 = .ok (.iconst (-1), 1) := by decide +kernel
theorem d_C_matrix_29 : decode b_C_matrix 29 = .ok (.ireturn, 1) := by decide +kernel
theorem d_C_matrix_30 : decode b_C_matrix 30 = .ok (.iload_n 1, 1) := by decide +kernel
theorem d_C_matrix_31 : decode b_C_matrix 31 = .ok (.iload_n 2, 1) := by decide +kernel
theorem d_C_matrix_32 : decode b_C_matrix 32 = .ok (.invokestatic 162, 3) := by decide +kernel
theorem d_C_matrix_35 : decode b_C_matrix 35 = .ok (.ireturn, 1) := by decide +kernel
theorem d_C_joined_0 : decode b_C_joined 0 = .ok (.iload_n 1, 1) := by decide +kernel
theorem d_C_joined_1 : decode b_C_joined 1 = .ok (.iconst (-1), 1) := by decide +kernel
theorem d_C_joined_2 : decode b_C_joined 2 = .ok (.if_icmp .eq 21, 3) := by decide +kernel
theorem d_C_joined_5 : decode b_C_joined 5 = .ok (.iload_n 2, 1) := by decide +kernel
theorem d_C_joined_6 : decode b_C_joined 6 = .ok (.iconst (-1), 1) := by decide +kernel
theorem d_C_joined_7 : decode b_C_joined 7 = .ok (.if_icmp .eq 16, 3) := by decide +kernel
theorem d_C_joined_10 : decode b_C_joined 10 = .ok (.iload_n 1, 1) := by decide +kernel
theorem d_C_joined_11 : decode b_C_joined 11 = .ok (.invokestatic 48, 3) := by decide +kernel
theorem d_C_joined_14 : decode b_C_joined 14 = .ok (.iload_n 2, 1) := by decide +kernel
theorem d_C_joined_15 : decode b_C_joined 15 = .ok (.invokestatic 48, 3) := by decide +kernel
theorem d_C_joined_18 : decode b_C_joined 18 = .ok (.iadd, 1) := by decide +kernel
theorem d_C_joined_19 : decode b_C_joined 19 = .ok (.iconst 3, 1) := by decide +kernel
theorem d_C_joined_20 : decode b_C_joined 20 = .ok (.if_icmp .le 5, 3) := by decide +kernel
theorem d_C_joined_23 : decode b_C_joined 23 = .ok (.iconst (-1), 1) := by decide +kernel
theorem d_C_joined_24 : decode b_C_joined 24 = .ok (.ireturn, 1) := by decide +kernel
theorem d_C_joined_25 : decode b_C_joined 25 = .ok (.iload_n 1, 1) := by decide +kernel
theorem d_C_joined_26 : decode b_C_joined 26 = .ok (.iload_n 2, 1) := by decide +kernel
theorem d_C_joined_27 : decode b_C_joined 27 = .ok (.invokestatic 162, 3) := by decide +kernel
theorem d_C_joined_30 : decode b_C_joined 30 = .ok (.ireturn, 1) := by decide +kernel
theorem d_C_behindEachOther_0 : decode b_C_behindEachOther 0 = .ok (.iload_n 0, 1) := by decide +kernel
theorem d_C_behindEachOther_1 : decode b_C_behindEachOther 1 = .ok (.invokestatic 48, 3) := by decide +kernel
theorem d_C_behindEachOther_4 : decode b_C_behindEachOther 4 = .ok (.istore_n 2, 1) := by decide +kernel
theorem d_C_behindEachOther_5 : decode b_C_behindEachOther 5 = .ok (.iload_n 1, 1) := by decide +kernel
theorem d_C_behindEachOther_6 : decode b_C_behindEachOther 6 = .ok (.invokestatic 48, 3) := by decide +kernel
theorem d_C_behindEachOther_9 : decode b_C_behindEachOther 9 = .ok (.istore_n 3, 1) := by decide +kernel
theorem d_C_behindEachOther_10 : decode b_C_behindEachOther 10 = .ok (.iload_n 2, 1) := by decide +kernel
theorem d_C_behindEachOther_11 : decode b_C_behindEachOther 11 = .ok (.iload_n 3, 1) := by decide +kernel
theorem d_C_behindEachOther_12 : decode b_C_behindEachOther 12 = .ok (.iadd, 1) := by decide +kernel
theorem d_C_behindEachOther_13 : decode b_C_behindEachOther 13 = .ok (.invokestatic 131, 3) := by decide +kernel
theorem d_C_behindEachOther_16 : decode b_C_behindEachOther 16 = .ok (.istore 4, 2) := by decide +kernel
theorem d_C_behindEachOther_18 : decode b_C_behindEachOther 18 = .ok (.iconst 0, 1) := by decide +kernel
theorem d_C_behindEachOther_19 : decode b_C_behindEachOther 19 = .ok (.istore 5, 2) := by decide +kernel
theorem d_C_behindEachOther_21 : decode b_C_behindEachOther 21 = .ok (.iload 5, 2) := by decide +kernel
theorem d_C_behindEachOther_23 : decode b_C_behindEachOther 23 = .ok (.iload_n 2, 1) := by decide +kernel
theorem d_C_behindEachOther_24 : decode b_C_behindEachOther 24 = .ok (.if_icmp .ge 24, 3) := by decide +kernel
theorem d_C_behindEachOther_27 : decode b_C_behindEachOther 27 = .ok (.iload 4, 2) := by decide +kernel
theorem d_C_behindEachOther_29 : decode b_C_behindEachOther 29 = .ok (.iload 5, 2) := by decide +kernel
theorem d_C_behindEachOther_31 : decode b_C_behindEachOther 31 = .ok (.iload_n 0, 1) := by decide +kernel
theorem d_C_behindEachOther_32 : decode b_C_behindEachOther 32 = .ok (.iload 5, 2) := by decide +kernel
theorem d_C_behindEachOther_34 : decode b_C_behindEachOther 34 = .ok (.invokestatic 67, 3) := by decide +kernel
theorem d_C_behindEachOther_37 : decode b_C_behindEachOther 37 = .ok (.invokestatic 137, 3) := by decide +kernel
theorem d_C_behindEachOther_40 : decode b_C_behindEachOther 40 = .ok (.istore 4, 2) := by decide +kernel
theorem d_C_behindEachOther_42 : decode b_C_behindEachOther 42 = .ok (.iinc 5 1, 3) := by decide +kernel
theorem d_C_behindEachOther_45 : decode b_C_behindEachOther 45 = .ok (.goto (-24), 3) := by decide +kernel
theorem d_C_behindEachOther_48 : decode b_C_behindEachOther 48 = .ok (.iconst 0, 1) := by decide +kernel
theorem d_C_behindEachOther_49 : decode b_C_behindEachOther 49 = .ok (.istore 5, 2) := by decide +kernel
theorem d_C_behindEachOther_51 : decode b_C_behindEachOther 51 = .ok (.iload 5, 2) := by decide +kernel
theorem d_C_behindEachOther_53 : decode b_C_behindEachOther 53 = .ok (.iload_n 3, 1) := by decide +kernel
theorem d_C_behindEachOther_54 : decode b_C_behindEachOther 54 = .ok (.if_icmp .ge 26, 3) := by decide +kernel
theorem d_C_behindEachOther_57 : decode b_C_behindEachOther 57 = .ok (.iload 4, 2) := by decide +kernel
theorem d_C_behindEachOther_59 : decode b_C_behindEachOther 59 = .ok (.iload_n 2, 1) := by decide +kernel
theorem d_C_behindEachOther_60 : decode b_C_behindEachOther 60 = .ok (.iload 5, 2) := by decide +kernel
theorem d_C_behindEachOther_62 : decode b_C_behindEachOther 62 = .ok (.iadd, 1) := by decide +kernel
theorem d_C_behindEachOther_63 : decode b_C_behindEachOther 63 = .ok (.iload_n 1, 1) := by decide +kernel
theorem d_C_behindEachOther_64 : decode b_C_behindEachOther 64 = .ok (.iload 5, 2) := by decide +kernel
theorem d_C_behindEachOther_66 : decode b_C_behindEachOther 66 = .ok (.invokestatic 67, 3) := by decide +kernel
theorem d_C_behindEachOther_69 : decode b_C_behindEachOther 69 = .ok (.invokestatic 137, 3) := by decide +kernel
theorem d_C_behindEachOther_72 : decode b_C_behindEachOther 72 = .ok (.istore 4, 2) := by decide +kernel
theorem d_C_behindEachOther_74 : decode b_C_behindEachOther 74 = .ok (.iinc 5 1, 3) := by decide +kernel
theorem d_C_behindEachOther_77 : decode b_C_behindEachOther 77 = .ok (.goto (-26), 3) := by decide +kernel
theorem d_C_behindEachOther_80 : decode b_C_behindEachOther 80 = .ok (.iload 4, 2) := by decide +kernel
theorem d_C_behindEachOther_82 : decode b_C_behindEachOther 82 = .ok (.ireturn, 1) := by decide +kernel
theorem d_C_each_0 : decode b_C_each 0 = .ok (.iload_n 2, 1) := by decide +kernel
theorem d_C_each_1 : decode b_C_each 1 = .ok (.iconst (-1), 1) := by decide +kernel
theorem d_C_each_2 : decode b_C_each 2 = .ok (.if_icmp .ne 5, 3) := by decide +kernel
theorem d_C_each_5 : decode b_C_each 5 = .ok (.iconst (-1), 1) := by decide +kernel
theorem d_C_each_6 : decode b_C_each 6 = .ok (.ireturn, 1) := by decide +kernel
theorem d_C_each_7 : decode b_C_each 7 = .ok (.iload_n 2, 1) := by decide +kernel
theorem d_C_each_8 : decode b_C_each 8 = .ok (.invokestatic 48, 3) := by decide +kernel
theorem d_C_each_11 : decode b_C_each 11 = .ok (.invokestatic 131, 3) := by decide +kernel
theorem d_C_each_14 : decode b_C_each 14 = .ok (.istore_n 3, 1) := by decide +kernel
theorem d_C_each_15 : decode b_C_each 15 = .ok (.iconst 0, 1) := by decide +kernel
theorem d_C_each_16 : decode b_C_each 16 = .ok (.istore 4, 2) := by decide +kernel
theorem d_C_each_18 : decode b_C_each 18 = .ok (.iload 4, 2) := by decide +kernel
theorem d_C_each_20 : decode b_C_each 20 = .ok (.iload_n 2, 1) := by decide +kernel
theorem d_C_each_21 : decode b_C_each 21 = .ok (.invokestatic 48, 3) := by decide +kernel
theorem d_C_each_24 : decode b_C_each 24 = .ok (.if_icmp .ge 31, 3) := by decide +kernel
theorem d_C_each_27 : decode b_C_each 27 = .ok (.iload_n 3, 1) := by decide +kernel
theorem d_C_each_28 : decode b_C_each 28 = .ok (.iload 4, 2) := by decide +kernel
theorem d_C_each_30 : decode b_C_each 30 = .ok (.aload_n 0, 1) := by decide +kernel
theorem d_C_each_31 : decode b_C_each 31 = .ok (.getfield 29, 3) := by decide +kernel
theorem d_C_each_34 : decode b_C_each 34 = .ok (.iload_n 1, 1) := by decide +kernel
theorem d_C_each_35 : decode b_C_each 35 = .ok (.iload_n 2, 1) := by decide +kernel
theorem d_C_each_36 : decode b_C_each 36 = .ok (.iload 4, 2) := by decide +kernel
theorem d_C_each_38 : decode b_C_each 38 = .ok (.invokestatic 67, 3) := by decide +kernel
theorem d_C_each_41 : decode b_C_each 41 = .ok (.iconst 0, 1) := by decide +kernel
theorem d_C_each_42 : decode b_C_each 42 = .ok (.invokevirtual 134, 3) := by decide +kernel
theorem d_C_each_45 : decode b_C_each 45 = .ok (.invokestatic 137, 3) := by decide +kernel
theorem d_C_each_48 : decode b_C_each 48 = .ok (.istore_n 3, 1) := by decide +kernel
theorem d_C_each_49 : decode b_C_each 49 = .ok (.iinc 4 1, 3) := by decide +kernel
theorem d_C_each_52 : decode b_C_each 52 = .ok (.goto (-34), 3) := by decide +kernel
theorem d_C_each_55 : decode b_C_each 55 = .ok (.iload_n 3, 1) := by decide +kernel
theorem d_C_each_56 : decode b_C_each 56 = .ok (.ireturn, 1) := by decide +kernel
theorem d_C_pairwise_0 : decode b_C_pairwise 0 = .ok (.iload_n 2, 1) := by decide +kernel
theorem d_C_pairwise_1 : decode b_C_pairwise 1 = .ok (.iconst (-1), 1) := by decide +kernel
theorem d_C_pairwise_2 : decode b_C_pairwise 2 = .ok (.if_icmp .eq 8, 3) := by decide +kernel
theorem d_C_pairwise_5 : decode b_C_pairwise 5 = .ok (.iload_n 3, 1) := by decide +kernel
theorem d_C_pairwise_6 : decode b_C_pairwise 6 = .ok (.iconst (-1), 1) := by decide +kernel
theorem d_C_pairwise_7 : decode b_C_pairwise 7 = .ok (.if_icmp .ne 5, 3) := by decide +kernel
theorem d_C_pairwise_10 : decode b_C_pairwise 10 = .ok (.iconst (-1), 1) := by decide +kernel
theorem d_C_pairwise_11 : decode b_C_pairwise 11 = .ok (.ireturn, 1) := by decide +kernel
theorem d_C_pairwise_12 : decode b_C_pairwise 12 = .ok (.iload_n 2, 1) := by decide +kernel
theorem d_C_pairwise_13 : decode b_C_pairwise 13 = .ok (.invokestatic 48, 3) := by decide +kernel
theorem d_C_pairwise_16 : decode b_C_pairwise 16 = .ok (.istore 4, 2) := by decide +kernel
theorem d_C_pairwise_18 : decode b_C_pairwise 18 = .ok (.iload_n 3, 1) := by decide +kernel
theorem d_C_pairwise_19 : decode b_C_pairwise 19 = .ok (.invokestatic 48, 3) := by decide +kernel
theorem d_C_pairwise_22 : decode b_C_pairwise 22 = .ok (.istore 5, 2) := by decide +kernel
theorem d_C_pairwise_24 : decode b_C_pairwise 24 = .ok (.iload 4, 2) := by decide +kernel
theorem d_C_pairwise_26 : decode b_C_pairwise 26 = .ok (.iload 5, 2) := by decide +kernel
theorem d_C_pairwise_28 : decode b_C_pairwise 28 = .ok (.if_icmp .eq 17, 3) := by decide +kernel
theorem d_C_pairwise_31 : decode b_C_pairwise 31 = .ok (.iload 4, 2) := by decide +kernel
theorem d_C_pairwise_33 : decode b_C_pairwise 33 = .ok (.iconst 1, 1) := by decide +kernel
theorem d_C_pairwise_34 : decode b_C_pairwise 34 = .ok (.if_icmp .eq 11, 3) := by decide +kernel
theorem d_C_pairwise_37 : decode b_C_pairwise 37 = .ok (.iload 5, 2) := by decide +kernel
theorem d_C_pairwise_39 : decode b_C_pairwise 39 = .ok (.iconst 1, 1) := by decide +kernel
theorem d_C_pairwise_40 : decode b_C_pairwise 40 = .ok (.if_icmp .eq 5, 3) := by decide +kernel
theorem d_C_pairwise_43 : decode b_C_pairwise 43 = .ok (.iconst (-1), 1) := by decide +kernel
theorem d_C_pairwise_44 : decode b_C_pairwise 44 = .ok (.ireturn, 1) := by decide +kernel
theorem d_C_pairwise_45 : decode b_C_pairwise 45 = .ok (.iload 4, 2) := by decide +kernel
theorem d_C_pairwise_47 : decode b_C_pairwise 47 = .ok (.iload 5, 2) := by decide +kernel
theorem d_C_pairwise_49 : decode b_C_pairwise 49 = .ok (.invokestatic 165, 3) := by decide +kernel
theorem d_C_pairwise_52 : decode b_C_pairwise 52 = .ok (.istore 6, 2) := by decide +kernel
theorem d_C_pairwise_54 : decode b_C_pairwise 54 = .ok (.iload 6, 2) := by decide +kernel
theorem d_C_pairwise_56 : decode b_C_pairwise 56 = .ok (.invokestatic 131, 3) := by decide +kernel
theorem d_C_pairwise_59 : decode b_C_pairwise 59 = .ok (.istore 7, 2) := by decide +kernel
theorem d_C_pairwise_61 : decode b_C_pairwise 61 = .ok (.iconst 0, 1) := by decide +kernel
theorem d_C_pairwise_62 : decode b_C_pairwise 62 = .ok (.istore 8, 2) := by decide +kernel
theorem d_C_pairwise_64 : decode b_C_pairwise 64 = .ok (.iload 8, 2) := by decide +kernel
theorem d_C_pairwise_66 : decode b_C_pairwise 66 = .ok (.iload 6, 2) := by decide +kernel
theorem d_C_pairwise_68 : decode b_C_pairwise 68 = .ok (.if_icmp .ge 42, 3) := by decide +kernel
theorem d_C_pairwise_71 : decode b_C_pairwise 71 = .ok (.aload_n 0, 1) := by decide +kernel
theorem d_C_pairwise_72 : decode b_C_pairwise 72 = .ok (.getfield 29, 3) := by decide +kernel
theorem d_C_pairwise_75 : decode b_C_pairwise 75 = .ok (.iload_n 1, 1) := by decide +kernel
theorem d_C_pairwise_76 : decode b_C_pairwise 76 = .ok (.iload_n 2, 1) := by decide +kernel
theorem d_C_pairwise_77 : decode b_C_pairwise 77 = .ok (.iload 8, 2) := by decide +kernel
theorem d_C_pairwise_79 : decode b_C_pairwise 79 = .ok (.invokestatic 170, 3) := by decide +kernel
theorem d_C_pairwise_82 : decode b_C_pairwise 82 = .ok (.iload_n 3, 1) := by decide +kernel
theorem d_C_pairwise_83 : decode b_C_pairwise 83 = .ok (.iload 8, 2) := by decide +kernel
theorem d_C_pairwise_85 : decode b_C_pairwise 85 = .ok (.invokestatic 170, 3) := by decide +kernel
theorem d_C_pairwise_88 : decode b_C_pairwise 88 = .ok (.invokevirtual 134, 3) := by decide +kernel
theorem d_C_pairwise_91 : decode b_C_pairwise 91 = .ok (.istore 9, 2) := by decide +kernel
theorem d_C_pairwise_93 : decode b_C_pairwise 93 = .ok (.iload 7, 2) := by decide +kernel
theorem d_C_pairwise_95 : decode b_C_pairwise 95 = .ok (.iload 8, 2) := by decide +kernel
theorem d_C_pairwise_97 : decode b_C_pairwise 97 = .ok (.iload 9, 2) := by decide +kernel
theorem d_C_pairwise_99 : decode b_C_pairwise 99 = .ok (.invokestatic 137, 3) := by decide +kernel
theorem d_C_pairwise_102 : decode b_C_pairwise 102 = .ok (.istore 7, 2) := by decide +kernel
theorem d_C_pairwise_104 : decode b_C_pairwise 104 = .ok (.iinc 8 1, 3) := by decide +kernel
theorem d_C_pairwise_107 : decode b_C_pairwise 107 = .ok (.goto (-43), 3) := by decide +kernel
theorem d_C_pairwise_110 : decode b_C_pairwise 110 = .ok (.iload 7, 2) := by decide +kernel
theorem d_C_pairwise_112 : decode b_C_pairwise 112 = .ok (.ireturn, 1) := by decide +kernel
theorem d_C_times_0 : decode b_C_times 0 = .ok (.iload_n 1, 1) := by decide +kernel
theorem d_C_times_1 : decode b_C_times 1 = .ok (.iconst (-1), 1) := by decide +kernel
theorem d_C_times_2 : decode b_C_times 2 = .ok (.if_icmp .eq 8, 3) := by decide +kernel
theorem d_C_times_5 : decode b_C_times 5 = .ok (.iload_n 2, 1) := by decide +kernel
theorem d_C_times_6 : decode b_C_times 6 = .ok (.iconst (-1), 1) := by decide +kernel
theorem d_C_times_7 : decode b_C_times 7 = .ok (.if_icmp .ne 5, 3) := by decide +kernel
theorem d_C_times_10 : decode b_C_times 10 = .ok (.iconst (-1), 1) := by decide +kernel
theorem d_C_times_11 : decode b_C_times 11 = .ok (.ireturn, 1) := by decide +kernel
theorem d_C_times_12 : decode b_C_times 12 = .ok (.iload_n 2, 1) := by decide +kernel
theorem d_C_times_13 : decode b_C_times 13 = .ok (.invokestatic 48, 3) := by decide +kernel
theorem d_C_times_16 : decode b_C_times 16 = .ok (.istore_n 3, 1) := by decide +kernel
theorem d_C_times_17 : decode b_C_times 17 = .ok (.iload_n 1, 1) := by decide +kernel
theorem d_C_times_18 : decode b_C_times 18 = .ok (.invokestatic 48, 3) := by decide +kernel
theorem d_C_times_21 : decode b_C_times 21 = .ok (.iconst 4, 1) := by decide +kernel
theorem d_C_times_22 : decode b_C_times 22 = .ok (.if_icmp .ne 20, 3) := by decide +kernel
theorem d_C_times_25 : decode b_C_times 25 = .ok (.iload_n 3, 1) := by decide +kernel
theorem d_C_times_26 : decode b_C_times 26 = .ok (.iconst 2, 1) := by decide +kernel
theorem d_C_times_27 : decode b_C_times 27 = .ok (.if_icmp .eq 8, 3) := by decide +kernel
theorem d_C_times_30 : decode b_C_times 30 = .ok (.iload_n 3, 1) := by decide +kernel
theorem d_C_times_31 : decode b_C_times 31 = .ok (.iconst 4, 1) := by decide +kernel
theorem d_C_times_32 : decode b_C_times 32 = .ok (.if_icmp .ne 10, 3) := by decide +kernel
theorem d_C_times_35 : decode b_C_times 35 = .ok (.aload_n 0, 1) := by decide +kernel
theorem d_C_times_36 : decode b_C_times 36 = .ok (.iload_n 1, 1) := by decide +kernel
theorem d_C_times_37 : decode b_C_times 37 = .ok (.iload_n 2, 1) := by decide +kernel
theorem d_C_times_38 : decode b_C_times 38 = .ok (.invokevirtual 173, 3) := by decide +kernel
theorem d_C_times_41 : decode b_C_times 41 = .ok (.ireturn, 1) := by decide +kernel
theorem d_C_times_42 : decode b_C_times 42 = .ok (.aload_n 0, 1) := by decide +kernel
theorem d_C_times_43 : decode b_C_times 43 = .ok (.iconst 4, 1) := by decide +kernel
theorem d_C_times_44 : decode b_C_times 44 = .ok (.iload_n 1, 1) := by decide +kernel
theorem d_C_times_45 : decode b_C_times 45 = .ok (.iload_n 2, 1) := by decide +kernel
theorem d_C_times_46 : decode b_C_times 46 = .ok (.invokevirtual 91, 3) := by decide +kernel
theorem d_C_times_49 : decode b_C_times 49 = .ok (.ireturn, 1) := by decide +kernel
theorem d_C_timesColumns_0 : decode b_C_timesColumns 0 = .ok (.iload_n 2, 1) := by decide +kernel
theorem d_C_timesColumns_1 : decode b_C_timesColumns 1 = .ok (.invokestatic 48, 3) := by decide +kernel
theorem d_C_timesColumns_4 : decode b_C_timesColumns 4 = .ok (.istore_n 3, 1) := by decide +kernel
theorem d_C_timesColumns_5 : decode b_C_timesColumns 5 = .ok (.iload_n 3, 1) := by decide +kernel
theorem d_C_timesColumns_6 : decode b_C_timesColumns 6 = .ok (.invokestatic 131, 3) := by decide +kernel
theorem d_C_timesColumns_9 : decode b_C_timesColumns 9 = .ok (.istore 4, 2) := by decide +kernel
theorem d_C_timesColumns_11 : decode b_C_timesColumns 11 = .ok (.iconst 0, 1) := by decide +kernel
theorem d_C_timesColumns_12 : decode b_C_timesColumns 12 = .ok (.istore 5, 2) := by decide +kernel
theorem d_C_timesColumns_14 : decode b_C_timesColumns 14 = .ok (.iload 5, 2) := by decide +kernel
theorem d_C_timesColumns_16 : decode b_C_timesColumns 16 = .ok (.iconst 1, 1) := by decide +kernel
theorem d_C_timesColumns_17 : decode b_C_timesColumns 17 = .ok (.iadd, 1) := by decide +kernel
theorem d_C_timesColumns_18 : decode b_C_timesColumns 18 = .ok (.iload_n 3, 1) := by decide +kernel
theorem d_C_timesColumns_19 : decode b_C_timesColumns 19 = .ok (.if_icmp .ge 96, 3) := by decide +kernel
theorem d_C_timesColumns_22 : decode b_C_timesColumns 22 = .ok (.iconst 0, 1) := by decide +kernel
theorem d_C_timesColumns_23 : decode b_C_timesColumns 23 = .ok (.istore 6, 2) := by decide +kernel
theorem d_C_timesColumns_25 : decode b_C_timesColumns 25 = .ok (.iload 6, 2) := by decide +kernel
theorem d_C_timesColumns_27 : decode b_C_timesColumns 27 = .ok (.iconst 2, 1) := by decide +kernel
theorem d_C_timesColumns_28 : decode b_C_timesColumns 28 = .ok (.if_icmp .ge 81, 3) := by decide +kernel
theorem d_C_timesColumns_31 : decode b_C_timesColumns 31 = .ok (.aload_n 0, 1) := by decide +kernel
theorem d_C_timesColumns_32 : decode b_C_timesColumns 32 = .ok (.getfield 29, 3) := by decide +kernel
theorem d_C_timesColumns_35 : decode b_C_timesColumns 35 = .ok (.iconst 4, 1) := by decide +kernel
theorem d_C_timesColumns_36 : decode b_C_timesColumns 36 = .ok (.iload_n 1, 1) := by decide +kernel
theorem d_C_timesColumns_37 : decode b_C_timesColumns 37 = .ok (.iload 6, 2) := by decide +kernel
theorem d_C_timesColumns_39 : decode b_C_timesColumns 39 = .ok (.invokestatic 67, 3) := by decide +kernel
theorem d_C_timesColumns_42 : decode b_C_timesColumns 42 = .ok (.iload_n 2, 1) := by decide +kernel
theorem d_C_timesColumns_43 : decode b_C_timesColumns 43 = .ok (.iload 5, 2) := by decide +kernel
theorem d_C_timesColumns_45 : decode b_C_timesColumns 45 = .ok (.invokestatic 67, 3) := by decide +kernel
theorem d_C_timesColumns_48 : decode b_C_timesColumns 48 = .ok (.invokevirtual 134, 3) := by decide +kernel
theorem d_C_timesColumns_51 : decode b_C_timesColumns 51 = .ok (.istore 7, 2) := by decide +kernel
theorem d_C_timesColumns_53 : decode b_C_timesColumns 53 = .ok (.aload_n 0, 1) := by decide +kernel
theorem d_C_timesColumns_54 : decode b_C_timesColumns 54 = .ok (.getfield 29, 3) := by decide +kernel
theorem d_C_timesColumns_57 : decode b_C_timesColumns 57 = .ok (.iconst 4, 1) := by decide +kernel
theorem d_C_timesColumns_58 : decode b_C_timesColumns 58 = .ok (.iload_n 1, 1) := by decide +kernel
theorem d_C_timesColumns_59 : decode b_C_timesColumns 59 = .ok (.iconst 2, 1) := by decide +kernel
theorem d_C_timesColumns_60 : decode b_C_timesColumns 60 = .ok (.iload 6, 2) := by decide +kernel
theorem d_C_timesColumns_62 : decode b_C_timesColumns 62 = .ok (.iadd, 1) := by decide +kernel
theorem d_C_timesColumns_63 : decode b_C_timesColumns 63 = .ok (.invokestatic 67, 3) := by decide +kernel
theorem d_C_timesColumns_66 : decode b_C_timesColumns 66 = .ok (.iload_n 2, 1) := by decide +kernel
theorem d_C_timesColumns_67 : decode b_C_timesColumns 67 = .ok (.iload 5, 2) := by decide +kernel
theorem d_C_timesColumns_69 : decode b_C_timesColumns 69 = .ok (.iconst 1, 1) := by decide +kernel
theorem d_C_timesColumns_70 : decode b_C_timesColumns 70 = .ok (.iadd, 1) := by decide +kernel
theorem d_C_timesColumns_71 : decode b_C_timesColumns 71 = .ok (.invokestatic 67, 3) := by decide +kernel
theorem d_C_timesColumns_74 : decode b_C_timesColumns 74 = .ok (.invokevirtual 134, 3) := by decide +kernel
theorem d_C_timesColumns_77 : decode b_C_timesColumns 77 = .ok (.istore 8, 2) := by decide +kernel
theorem d_C_timesColumns_79 : decode b_C_timesColumns 79 = .ok (.iload 4, 2) := by decide +kernel
theorem d_C_timesColumns_81 : decode b_C_timesColumns 81 = .ok (.iload 5, 2) := by decide +kernel
theorem d_C_timesColumns_83 : decode b_C_timesColumns 83 = .ok (.iload 6, 2) := by decide +kernel
theorem d_C_timesColumns_85 : decode b_C_timesColumns 85 = .ok (.iadd, 1) := by decide +kernel
theorem d_C_timesColumns_86 : decode b_C_timesColumns 86 = .ok (.aload_n 0, 1) := by decide +kernel
theorem d_C_timesColumns_87 : decode b_C_timesColumns 87 = .ok (.getfield 29, 3) := by decide +kernel
theorem d_C_timesColumns_90 : decode b_C_timesColumns 90 = .ok (.iconst 2, 1) := by decide +kernel
theorem d_C_timesColumns_91 : decode b_C_timesColumns 91 = .ok (.iload 7, 2) := by decide +kernel
theorem d_C_timesColumns_93 : decode b_C_timesColumns 93 = .ok (.iload 8, 2) := by decide +kernel
theorem d_C_timesColumns_95 : decode b_C_timesColumns 95 = .ok (.invokevirtual 134, 3) := by decide +kernel
theorem d_C_timesColumns_98 : decode b_C_timesColumns 98 = .ok (.invokestatic 137, 3) := by decide +kernel
theorem d_C_timesColumns_101 : decode b_C_timesColumns 101 = .ok (.istore 4, 2) := by decide +kernel
theorem d_C_timesColumns_103 : decode b_C_timesColumns 103 = .ok (.iinc 6 1, 3) := by decide +kernel
theorem d_C_timesColumns_106 : decode b_C_timesColumns 106 = .ok (.goto (-81), 3) := by decide +kernel
theorem d_C_timesColumns_109 : decode b_C_timesColumns 109 = .ok (.iinc 5 2, 3) := by decide +kernel
theorem d_C_timesColumns_112 : decode b_C_timesColumns 112 = .ok (.goto (-98), 3) := by decide +kernel
theorem d_C_timesColumns_115 : decode b_C_timesColumns 115 = .ok (.iload 4, 2) := by decide +kernel
theorem d_C_timesColumns_117 : decode b_C_timesColumns 117 = .ok (.ireturn, 1) := by decide +kernel
theorem d_C_dividedBy_0 : decode b_C_dividedBy 0 = .ok (.iload_n 2, 1) := by decide +kernel
theorem d_C_dividedBy_1 : decode b_C_dividedBy 1 = .ok (.iconst (-1), 1) := by decide +kernel
theorem d_C_dividedBy_2 : decode b_C_dividedBy 2 = .ok (.if_icmp .eq 11, 3) := by decide +kernel
theorem d_C_dividedBy_5 : decode b_C_dividedBy 5 = .ok (.iload_n 2, 1) := by decide +kernel
theorem d_C_dividedBy_6 : decode b_C_dividedBy 6 = .ok (.invokestatic 48, 3) := by decide +kernel
theorem d_C_dividedBy_9 : decode b_C_dividedBy 9 = .ok (.iconst 4, 1) := by decide +kernel
theorem d_C_dividedBy_10 : decode b_C_dividedBy 10 = .ok (.if_icmp .ne 5, 3) := by decide +kernel
theorem d_C_dividedBy_13 : decode b_C_dividedBy 13 = .ok (.iconst (-1), 1) := by decide +kernel
theorem d_C_dividedBy_14 : decode b_C_dividedBy 14 = .ok (.ireturn, 1) := by decide +kernel
theorem d_C_dividedBy_15 : decode b_C_dividedBy 15 = .ok (.aload_n 0, 1) := by decide +kernel
theorem d_C_dividedBy_16 : decode b_C_dividedBy 16 = .ok (.iconst 5, 1) := by decide +kernel
theorem d_C_dividedBy_17 : decode b_C_dividedBy 17 = .ok (.iload_n 1, 1) := by decide +kernel
theorem d_C_dividedBy_18 : decode b_C_dividedBy 18 = .ok (.iload_n 2, 1) := by decide +kernel
theorem d_C_dividedBy_19 : decode b_C_dividedBy 19 = .ok (.invokevirtual 91, 3) := by decide +kernel
theorem d_C_dividedBy_22 : decode b_C_dividedBy 22 = .ok (.ireturn, 1) := by decide +kernel
theorem d_C_dotted_0 : decode b_C_dotted 0 = .ok (.iload_n 1, 1) := by decide +kernel
theorem d_C_dotted_1 : decode b_C_dotted 1 = .ok (.iconst (-1), 1) := by decide +kernel
theorem d_C_dotted_2 : decode b_C_dotted 2 = .ok (.if_icmp .eq 8, 3) := by decide +kernel
theorem d_C_dotted_5 : decode b_C_dotted 5 = .ok (.iload_n 2, 1) := by decide +kernel
theorem d_C_dotted_6 : decode b_C_dotted 6 = .ok (.iconst (-1), 1) := by decide +kernel
theorem d_C_dotted_7 : decode b_C_dotted 7 = .ok (.if_icmp .ne 5, 3) := by decide +kernel
theorem d_C_dotted_10 : decode b_C_dotted 10 = .ok (.iconst (-1), 1) := by decide +kernel
theorem d_C_dotted_11 : decode b_C_dotted 11 = .ok (.ireturn, 1) := by decide +kernel
theorem d_C_dotted_12 : decode b_C_dotted 12 = .ok (.iload_n 1, 1) := by decide +kernel
theorem d_C_dotted_13 : decode b_C_dotted 13 = .ok (.invokestatic 48, 3) := by decide +kernel
theorem d_C_dotted_16 : decode b_C_dotted 16 = .ok (.istore_n 3, 1) := by decide +kernel
theorem d_C_dotted_17 : decode b_C_dotted 17 = .ok (.iload_n 3, 1) := by decide +kernel
theorem d_C_dotted_18 : decode b_C_dotted 18 = .ok (.iload_n 2, 1) := by decide +kernel
theorem d_C_dotted_19 : decode b_C_dotted 19 = .ok (.invokestatic 48, 3) := by decide +kernel
theorem d_C_dotted_22 : decode b_C_dotted 22 = .ok (.if_icmp .ne 8, 3) := by decide +kernel
theorem d_C_dotted_25 : decode b_C_dotted 25 = .ok (.iload_n 3, 1) := by decide +kernel
theorem d_C_dotted_26 : decode b_C_dotted 26 = .ok (.iconst 4, 1) := by decide +kernel
theorem d_C_dotted_27 : decode b_C_dotted 27 = .ok (.if_icmp .ne 5, 3) := by decide +kernel
theorem d_C_dotted_30 : decode b_C_dotted 30 = .ok (.iconst (-1), 1) := by decide +kernel
theorem d_C_dotted_31 : decode b_C_dotted 31 = .ok (.ireturn, 1) := by decide +kernel
theorem d_C_dotted_32 : decode b_C_dotted 32 = .ok (.aload_n 0, 1) := by decide +kernel
theorem d_C_dotted_33 : decode b_C_dotted 33 = .ok (.getfield 29, 3) := by decide +kernel
theorem d_C_dotted_36 : decode b_C_dotted 36 = .ok (.iconst 4, 1) := by decide +kernel
theorem d_C_dotted_37 : decode b_C_dotted 37 = .ok (.iload_n 1, 1) := by decide +kernel
theorem d_C_dotted_38 : decode b_C_dotted 38 = .ok (.iconst 0, 1) := by decide +kernel
theorem d_C_dotted_39 : decode b_C_dotted 39 = .ok (.invokestatic 67, 3) := by decide +kernel
theorem d_C_dotted_42 : decode b_C_dotted 42 = .ok (.iload_n 2, 1) := by decide +kernel
theorem d_C_dotted_43 : decode b_C_dotted 43 = .ok (.iconst 0, 1) := by decide +kernel
theorem d_C_dotted_44 : decode b_C_dotted 44 = .ok (.invokestatic 67, 3) := by decide +kernel
theorem d_C_dotted_47 : decode b_C_dotted 47 = .ok (.invokevirtual 134, 3) := by decide +kernel
theorem d_C_dotted_50 : decode b_C_dotted 50 = .ok (.istore 4, 2) := by decide +kernel
theorem d_C_dotted_52 : decode b_C_dotted 52 = .ok (.iconst 1, 1) := by decide +kernel
theorem d_C_dotted_53 : decode b_C_dotted 53 = .ok (.istore 5, 2) := by decide +kernel
theorem d_C_dotted_55 : decode b_C_dotted 55 = .ok (.iload 5, 2) := by decide +kernel
theorem d_C_dotted_57 : decode b_C_dotted 57 = .ok (.iload_n 3, 1) := by decide +kernel
theorem d_C_dotted_58 : decode b_C_dotted 58 = .ok (.if_icmp .ge 45, 3) := by decide +kernel
theorem d_C_dotted_61 : decode b_C_dotted 61 = .ok (.aload_n 0, 1) := by decide +kernel
theorem d_C_dotted_62 : decode b_C_dotted 62 = .ok (.getfield 29, 3) := by decide +kernel
theorem d_C_dotted_65 : decode b_C_dotted 65 = .ok (.iconst 4, 1) := by decide +kernel
theorem d_C_dotted_66 : decode b_C_dotted 66 = .ok (.iload_n 1, 1) := by decide +kernel
theorem d_C_dotted_67 : decode b_C_dotted 67 = .ok (.iload 5, 2) := by decide +kernel
theorem d_C_dotted_69 : decode b_C_dotted 69 = .ok (.invokestatic 67, 3) := by decide +kernel
theorem d_C_dotted_72 : decode b_C_dotted 72 = .ok (.iload_n 2, 1) := by decide +kernel
theorem d_C_dotted_73 : decode b_C_dotted 73 = .ok (.iload 5, 2) := by decide +kernel
theorem d_C_dotted_75 : decode b_C_dotted 75 = .ok (.invokestatic 67, 3) := by decide +kernel
theorem d_C_dotted_78 : decode b_C_dotted 78 = .ok (.invokevirtual 134, 3) := by decide +kernel
theorem d_C_dotted_81 : decode b_C_dotted 81 = .ok (.istore 6, 2) := by decide +kernel
theorem d_C_dotted_83 : decode b_C_dotted 83 = .ok (.aload_n 0, 1) := by decide +kernel
theorem d_C_dotted_84 : decode b_C_dotted 84 = .ok (.getfield 29, 3) := by decide +kernel
theorem d_C_dotted_87 : decode b_C_dotted 87 = .ok (.iconst 2, 1) := by decide +kernel
theorem d_C_dotted_88 : decode b_C_dotted 88 = .ok (.iload 4, 2) := by decide +kernel
theorem d_C_dotted_90 : decode b_C_dotted 90 = .ok (.iload 6, 2) := by decide +kernel
theorem d_C_dotted_92 : decode b_C_dotted 92 = .ok (.invokevirtual 134, 3) := by decide +kernel
theorem d_C_dotted_95 : decode b_C_dotted 95 = .ok (.istore 4, 2) := by decide +kernel
theorem d_C_dotted_97 : decode b_C_dotted 97 = .ok (.iinc 5 1, 3) := by decide +kernel
theorem d_C_dotted_100 : decode b_C_dotted 100 = .ok (.goto (-45), 3) := by decide +kernel
theorem d_C_dotted_103 : decode b_C_dotted 103 = .ok (.iconst 1, 1) := by decide +kernel
theorem d_C_dotted_104 : decode b_C_dotted 104 = .ok (.invokestatic 131, 3) := by decide +kernel
theorem d_C_dotted_107 : decode b_C_dotted 107 = .ok (.iconst 0, 1) := by decide +kernel
theorem d_C_dotted_108 : decode b_C_dotted 108 = .ok (.iload 4, 2) := by decide +kernel
theorem d_C_dotted_110 : decode b_C_dotted 110 = .ok (.invokestatic 137, 3) := by decide +kernel
theorem d_C_dotted_113 : decode b_C_dotted 113 = .ok (.ireturn, 1) := by decide +kernel
theorem d_C_isDigit_0 : decode b_C_isDigit 0 = .ok (.iload_n 0, 1) := by decide +kernel
theorem d_C_isDigit_1 : decode b_C_isDigit 1 = .ok (.bipush 48, 2) := by decide +kernel
theorem d_C_isDigit_3 : decode b_C_isDigit 3 = .ok (.if_icmp .lt 13, 3) := by decide +kernel
theorem d_C_isDigit_6 : decode b_C_isDigit 6 = .ok (.iload_n 0, 1) := by decide +kernel
theorem d_C_isDigit_7 : decode b_C_isDigit 7 = .ok (.bipush 57, 2) := by decide +kernel
theorem d_C_isDigit_9 : decode b_C_isDigit 9 = .ok (.if_icmp .gt 7, 3) := by decide +kernel
theorem d_C_isDigit_12 : decode b_C_isDigit 12 = .ok (.iconst 1, 1) := by decide +kernel
theorem d_C_isDigit_13 : decode b_C_isDigit 13 = .ok (.goto 4, 3) := by decide +kernel
theorem d_C_isDigit_16 : decode b_C_isDigit 16 = .ok (.iconst 0, 1) := by decide +kernel
theorem d_C_isDigit_17 : decode b_C_isDigit 17 = .ok (.ireturn, 1) := by decide +kernel
theorem d_C_isSmall_0 : decode b_C_isSmall 0 = .ok (.iload_n 0, 1) := by decide +kernel
theorem d_C_isSmall_1 : decode b_C_isSmall 1 = .ok (.bipush 97, 2) := by decide +kernel
theorem d_C_isSmall_3 : decode b_C_isSmall 3 = .ok (.if_icmp .lt 13, 3) := by decide +kernel
theorem d_C_isSmall_6 : decode b_C_isSmall 6 = .ok (.iload_n 0, 1) := by decide +kernel
theorem d_C_isSmall_7 : decode b_C_isSmall 7 = .ok (.bipush 122, 2) := by decide +kernel
theorem d_C_isSmall_9 : decode b_C_isSmall 9 = .ok (.if_icmp .gt 7, 3) := by decide +kernel
theorem d_C_isSmall_12 : decode b_C_isSmall 12 = .ok (.iconst 1, 1) := by decide +kernel
theorem d_C_isSmall_13 : decode b_C_isSmall 13 = .ok (.goto 4, 3) := by decide +kernel
theorem d_C_isSmall_16 : decode b_C_isSmall 16 = .ok (.iconst 0, 1) := by decide +kernel
theorem d_C_isSmall_17 : decode b_C_isSmall 17 = .ok (.ireturn, 1) := by decide +kernel
theorem d_C_isPlace_0 : decode b_C_isPlace 0 = .ok (.iload_n 0, 1) := by decide +kernel
theorem d_C_isPlace_1 : decode b_C_isPlace 1 = .ok (.bipush 120, 2) := by decide +kernel
theorem d_C_isPlace_3 : decode b_C_isPlace 3 = .ok (.if_icmp .lt 13, 3) := by decide +kernel
theorem d_C_isPlace_6 : decode b_C_isPlace 6 = .ok (.iload_n 0, 1) := by decide +kernel
theorem d_C_isPlace_7 : decode b_C_isPlace 7 = .ok (.bipush 122, 2) := by decide +kernel
theorem d_C_isPlace_9 : decode b_C_isPlace 9 = .ok (.if_icmp .gt 7, 3) := by decide +kernel
theorem d_C_isPlace_12 : decode b_C_isPlace 12 = .ok (.iconst 1, 1) := by decide +kernel
theorem d_C_isPlace_13 : decode b_C_isPlace 13 = .ok (.goto 4, 3) := by decide +kernel
theorem d_C_isPlace_16 : decode b_C_isPlace 16 = .ok (.iconst 0, 1) := by decide +kernel
theorem d_C_isPlace_17 : decode b_C_isPlace 17 = .ok (.ireturn, 1) := by decide +kernel
theorem d_C_isVariable_0 : decode b_C_isVariable 0 = .ok (.iload_n 0, 1) := by decide +kernel
theorem d_C_isVariable_1 : decode b_C_isVariable 1 = .ok (.invokestatic 144, 3) := by decide +kernel
theorem d_C_isVariable_4 : decode b_C_isVariable 4 = .ok (.ifCond .ne 19, 3) := by decide +kernel
theorem d_C_isVariable_7 : decode b_C_isVariable 7 = .ok (.iload_n 0, 1) := by decide +kernel
theorem d_C_isVariable_8 : decode b_C_isVariable 8 = .ok (.bipush 116, 2) := by decide +kernel
theorem d_C_isVariable_10 : decode b_C_isVariable 10 = .ok (.if_icmp .eq 13, 3) := by decide +kernel
theorem d_C_isVariable_13 : decode b_C_isVariable 13 = .ok (.iload_n 0, 1) := by decide +kernel
theorem d_C_isVariable_14 : decode b_C_isVariable 14 = .ok (.bipush 99, 2) := by decide +kernel
theorem d_C_isVariable_16 : decode b_C_isVariable 16 = .ok (.if_icmp .eq 7, 3) := by decide +kernel
theorem d_C_isVariable_19 : decode b_C_isVariable 19 = .ok (.iconst 1, 1) := by decide +kernel
theorem d_C_isVariable_20 : decode b_C_isVariable 20 = .ok (.goto 4, 3) := by decide +kernel
theorem d_C_isVariable_23 : decode b_C_isVariable 23 = .ok (.iconst 0, 1) := by decide +kernel
theorem d_C_isVariable_24 : decode b_C_isVariable 24 = .ok (.ireturn, 1) := by decide +kernel
end
section
theorem d_P_init_0 : decode b_P_init 0 = .ok (.aload_n 0, 1) := by decide +kernel
theorem d_P_init_1 : decode b_P_init 1 = .ok (.invokespecial 1, 3) := by decide +kernel
theorem d_P_init_4 : decode b_P_init 4 = .ok (.aload_n 0, 1) := by decide +kernel
theorem d_P_init_5 : decode b_P_init 5 = .ok (.sipush 160, 3) := by decide +kernel
theorem d_P_init_8 : decode b_P_init 8 = .ok (.newarray .char, 2) := by decide +kernel
theorem d_P_init_10 : decode b_P_init 10 = .ok (.putfield 9, 3) := by decide +kernel
theorem d_P_init_13 : decode b_P_init 13 = .ok (.aload_n 0, 1) := by decide +kernel
theorem d_P_init_14 : decode b_P_init 14 = .ok (.iconst 0, 1) := by decide +kernel
theorem d_P_init_15 : decode b_P_init 15 = .ok (.putfield 13, 3) := by decide +kernel
theorem d_P_init_18 : decode b_P_init 18 = .ok (.aload_n 0, 1) := by decide +kernel
theorem d_P_init_19 : decode b_P_init 19 = .ok (.new 17, 3) := by decide +kernel
theorem d_P_init_22 : decode b_P_init 22 = .ok (.dup, 1) := by decide +kernel
theorem d_P_init_23 : decode b_P_init 23 = .ok (.invokespecial 19, 3) := by decide +kernel
theorem d_P_init_26 : decode b_P_init 26 = .ok (.putfield 20, 3) := by decide +kernel
theorem d_P_init_29 : decode b_P_init 29 = .ok (.aload_n 0, 1) := by decide +kernel
theorem d_P_init_30 : decode b_P_init 30 = .ok (.new 24, 3) := by decide +kernel
theorem d_P_init_33 : decode b_P_init 33 = .ok (.dup, 1) := by decide +kernel
theorem d_P_init_34 : decode b_P_init 34 = .ok (.invokespecial 26, 3) := by decide +kernel
theorem d_P_init_37 : decode b_P_init 37 = .ok (.putfield 27, 3) := by decide +kernel
theorem d_P_init_40 : decode b_P_init 40 = .ok (.aload_n 0, 1) := by decide +kernel
theorem d_P_init_41 : decode b_P_init 41 = .ok (.new 31, 3) := by decide +kernel
theorem d_P_init_44 : decode b_P_init 44 = .ok (.dup, 1) := by decide +kernel
theorem d_P_init_45 : decode b_P_init 45 = .ok (.invokespecial 33, 3) := by decide +kernel
theorem d_P_init_48 : decode b_P_init 48 = .ok (.putfield 34, 3) := by decide +kernel
theorem d_P_init_51 : decode b_P_init 51 = .ok (.aload_n 0, 1) := by decide +kernel
theorem d_P_init_52 : decode b_P_init 52 = .ok (.bipush 32, 2) := by decide +kernel
theorem d_P_init_54 : decode b_P_init 54 = .ok (.newarray .int, 2) := by decide +kernel
theorem d_P_init_56 : decode b_P_init 56 = .ok (.putfield 38, 3) := by decide +kernel
theorem d_P_init_59 : decode b_P_init 59 = .ok (.return_, 1) := by decide +kernel
theorem d_P_type_0 : decode b_P_type 0 = .ok (.iconst 0, 1) := by decide +kernel
theorem d_P_type_1 : decode b_P_type 1 = .ok (.istore_n 2, 1) := by decide +kernel
theorem d_P_type_2 : decode b_P_type 2 = .ok (.bipush 24, 2) := by decide +kernel
theorem d_P_type_4 : decode b_P_type 4 = .ok (.istore_n 3, 1) := by decide +kernel
theorem d_P_type_5 : decode b_P_type 5 = .ok (.iload_n 3, 1) := by decide +kernel
theorem d_P_type_6 : decode b_P_type 6 = .ok (.ifCond .lt 48, 3) := by decide +kernel
theorem d_P_type_9 : decode b_P_type 9 = .ok (.iload_n 1, 1) := by decide +kernel
theorem d_P_type_10 : decode b_P_type 10 = .ok (.iload_n 3, 1) := by decide +kernel
theorem d_P_type_11 : decode b_P_type 11 = .ok (.iushr, 1) := by decide +kernel
theorem d_P_type_12 : decode b_P_type 12 = .ok (.sipush 255, 3) := by decide +kernel
theorem d_P_type_15 : decode b_P_type 15 = .ok (.iand, 1) := by decide +kernel
theorem d_P_type_16 : decode b_P_type 16 = .ok (.istore 4, 2) := by decide +kernel
theorem d_P_type_18 : decode b_P_type 18 = .ok (.iload 4, 2) := by decide +kernel
theorem d_P_type_20 : decode b_P_type 20 = .ok (.ifCond .eq 28, 3) := by decide +kernel
theorem d_P_type_23 : decode b_P_type 23 = .ok (.iload 4, 2) := by decide +kernel
theorem d_P_type_25 : decode b_P_type 25 = .ok (.bipush 33, 2) := by decide +kernel
theorem d_P_type_27 : decode b_P_type 27 = .ok (.if_icmp .lt 10, 3) := by decide +kernel
theorem d_P_type_30 : decode b_P_type 30 = .ok (.iload 4, 2) := by decide +kernel
theorem d_P_type_32 : decode b_P_type 32 = .ok (.bipush 126, 2) := by decide +kernel
theorem d_P_type_34 : decode b_P_type 34 = .ok (.if_icmp .le 11, 3) := by decide +kernel
theorem d_P_type_37 : decode b_P_type 37 = .ok (.new 42, 3) := by decide +kernel
theorem d_P_type_40 : decode b_P_type 40 = .ok (.dup, 1) := by decide +kernel
theorem d_P_type_41 : decode b_P_type 41 = .ok (.invokespecial 44, 3) := by decide +kernel
theorem d_P_type_44 : decode b_P_type 44 = .ok (.athrow, 1) := by decide +kernel
theorem d_P_type_45 : decode b_P_type 45 = .ok (.iinc 2 1, 3) := by decide +kernel
theorem d_P_type_48 : decode b_P_type 48 = .ok (.iinc 3 (-8), 3) := by decide +kernel
theorem d_P_type_51 : decode b_P_type 51 = .ok (.goto (-46), 3) := by decide +kernel
theorem d_P_type_54 : decode b_P_type 54 = .ok (.aload_n 0, 1) := by decide +kernel
theorem d_P_type_55 : decode b_P_type 55 = .ok (.getfield 13, 3) := by decide +kernel
theorem d_P_type_58 : decode b_P_type 58 = .ok (.iload_n 2, 1) := by decide +kernel
theorem d_P_type_59 : decode b_P_type 59 = .ok (.iadd, 1) := by decide +kernel
theorem d_P_type_60 : decode b_P_type 60 = .ok (.sipush 160, 3) := by decide +kernel
theorem d_P_type_63 : decode b_P_type 63 = .ok (.if_icmp .le 11, 3) := by decide +kernel
theorem d_P_type_66 : decode b_P_type 66 = .ok (.new 45, 3) := by decide +kernel
theorem d_P_type_69 : decode b_P_type 69 = .ok (.dup, 1) := by decide +kernel
theorem d_P_type_70 : decode b_P_type 70 = .ok (.invokespecial 47, 3) := by decide +kernel
theorem d_P_type_73 : decode b_P_type 73 = .ok (.athrow, 1) := by decide +kernel
theorem d_P_type_74 : decode b_P_type 74 = .ok (.bipush 24, 2) := by decide +kernel
theorem d_P_type_76 : decode b_P_type 76 = .ok (.istore_n 3, 1) := by decide +kernel
theorem d_P_type_77 : decode b_P_type 77 = .ok (.iload_n 3, 1) := by decide +kernel
theorem d_P_type_78 : decode b_P_type 78 = .ok (.ifCond .lt 45, 3) := by decide +kernel
theorem d_P_type_81 : decode b_P_type 81 = .ok (.iload_n 1, 1) := by decide +kernel
theorem d_P_type_82 : decode b_P_type 82 = .ok (.iload_n 3, 1) := by decide +kernel
theorem d_P_type_83 : decode b_P_type 83 = .ok (.iushr, 1) := by decide +kernel
theorem d_P_type_84 : decode b_P_type 84 = .ok (.sipush 255, 3) := by decide +kernel
theorem d_P_type_87 : decode b_P_type 87 = .ok (.iand, 1) := by decide +kernel
theorem d_P_type_88 : decode b_P_type 88 = .ok (.istore 4, 2) := by decide +kernel
theorem d_P_type_90 : decode b_P_type 90 = .ok (.iload 4, 2) := by decide +kernel
theorem d_P_type_92 : decode b_P_type 92 = .ok (.ifCond .eq 25, 3) := by decide +kernel
theorem d_P_type_95 : decode b_P_type 95 = .ok (.aload_n 0, 1) := by decide +kernel
theorem d_P_type_96 : decode b_P_type 96 = .ok (.getfield 9, 3) := by decide +kernel
theorem d_P_type_99 : decode b_P_type 99 = .ok (.aload_n 0, 1) := by decide +kernel
theorem d_P_type_100 : decode b_P_type 100 = .ok (.getfield 13, 3) := by decide +kernel
theorem d_P_type_103 : decode b_P_type 103 = .ok (.iload 4, 2) := by decide +kernel
theorem d_P_type_105 : decode b_P_type 105 = .ok (.i2c, 1) := by decide +kernel
theorem d_P_type_106 : decode b_P_type 106 = .ok (.castore, 1) := by decide +kernel
theorem d_P_type_107 : decode b_P_type 107 = .ok (.aload_n 0, 1) := by decide +kernel
theorem d_P_type_108 : decode b_P_type 108 = .ok (.dup, 1) := by decide +kernel
theorem d_P_type_109 : decode b_P_type 109 = .ok (.getfield 13, 3) := by decide +kernel
theorem d_P_type_112 : decode b_P_type 112 = .ok (.iconst 1, 1) := by decide +kernel
theorem d_P_type_113 : decode b_P_type 113 = .ok (.iadd, 1) := by decide +kernel
theorem d_P_type_114 : decode b_P_type 114 = .ok (.putfield 13, 3) := by decide +kernel
theorem d_P_type_117 : decode b_P_type 117 = .ok (.iinc 3 (-8), 3) := by decide +kernel
theorem d_P_type_120 : decode b_P_type 120 = .ok (.goto (-43), 3) := by decide +kernel
theorem d_P_type_123 : decode b_P_type 123 = .ok (.aload_n 0, 1) := by decide +kernel
theorem d_P_type_124 : decode b_P_type 124 = .ok (.getfield 13, 3) := by decide +kernel
theorem d_P_type_127 : decode b_P_type 127 = .ok (.ireturn, 1) := by decide +kernel
theorem d_P_erase_0 : decode b_P_erase 0 = .ok (.aload_n 0, 1) := by decide +kernel
theorem d_P_erase_1 : decode b_P_erase 1 = .ok (.iconst 0, 1) := by decide +kernel
theorem d_P_erase_2 : decode b_P_erase 2 = .ok (.putfield 13, 3) := by decide +kernel
theorem d_P_erase_5 : decode b_P_erase 5 = .ok (.return_, 1) := by decide +kernel
theorem d_P_compile_0 : decode b_P_compile 0 = .ok (.aload_n 0, 1) := by decide +kernel
theorem d_P_compile_1 : decode b_P_compile 1 = .ok (.getfield 27, 3) := by decide +kernel
theorem d_P_compile_4 : decode b_P_compile 4 = .ok (.aload_n 0, 1) := by decide +kernel
theorem d_P_compile_5 : decode b_P_compile 5 = .ok (.getfield 9, 3) := by decide +kernel
theorem d_P_compile_8 : decode b_P_compile 8 = .ok (.aload_n 0, 1) := by decide +kernel
theorem d_P_compile_9 : decode b_P_compile 9 = .ok (.getfield 13, 3) := by decide +kernel
theorem d_P_compile_12 : decode b_P_compile 12 = .ok (.invokevirtual 48, 3) := by decide +kernel
theorem d_P_compile_15 : decode b_P_compile 15 = .ok (.ifCond .ne 5, 3) := by decide +kernel
theorem d_P_compile_18 : decode b_P_compile 18 = .ok (.iconst 0, 1) := by decide +kernel
theorem d_P_compile_19 : decode b_P_compile 19 = .ok (.ireturn, 1) := by decide +kernel
theorem d_P_compile_20 : decode b_P_compile 20 = .ok (.aload_n 0, 1) := by decide +kernel
theorem d_P_compile_21 : decode b_P_compile 21 = .ok (.aload_n 0, 1) := by decide +kernel
theorem d_P_compile_22 : decode b_P_compile 22 = .ok (.getfield 27, 3) := by decide +kernel
theorem d_P_compile_25 : decode b_P_compile 25 = .ok (.aload_n 0, 1) := by decide +kernel
theorem d_P_compile_26 : decode b_P_compile 26 = .ok (.getfield 20, 3) := by decide +kernel
theorem d_P_compile_29 : decode b_P_compile 29 = .ok (.invokevirtual 52, 3) := by decide +kernel
theorem d_P_compile_32 : decode b_P_compile 32 = .ok (.putfield 20, 3) := by decide +kernel
theorem d_P_compile_35 : decode b_P_compile 35 = .ok (.iconst 1, 1) := by decide +kernel
theorem d_P_compile_36 : decode b_P_compile 36 = .ok (.ireturn, 1) := by decide +kernel
theorem d_P_size_0 : decode b_P_size 0 = .ok (.aload_n 0, 1) := by decide +kernel
theorem d_P_size_1 : decode b_P_size 1 = .ok (.getfield 20, 3) := by decide +kernel
theorem d_P_size_4 : decode b_P_size 4 = .ok (.getfield 56, 3) := by decide +kernel
theorem d_P_size_7 : decode b_P_size 7 = .ok (.ireturn, 1) := by decide +kernel
theorem d_P_instruction_0 : decode b_P_instruction 0 = .ok (.aload_n 0, 1) := by decide +kernel
theorem d_P_instruction_1 : decode b_P_instruction 1 = .ok (.iload_n 1, 1) := by decide +kernel
theorem d_P_instruction_2 : decode b_P_instruction 2 = .ok (.invokevirtual 59, 3) := by decide +kernel
theorem d_P_instruction_5 : decode b_P_instruction 5 = .ok (.ifCond .eq 12, 3) := by decide +kernel
theorem d_P_instruction_8 : decode b_P_instruction 8 = .ok (.iload_n 2, 1) := by decide +kernel
theorem d_P_instruction_9 : decode b_P_instruction 9 = .ok (.ifCond .lt 8, 3) := by decide +kernel
theorem d_P_instruction_12 : decode b_P_instruction 12 = .ok (.iload_n 2, 1) := by decide +kernel
theorem d_P_instruction_13 : decode b_P_instruction 13 = .ok (.iconst 2, 1) := by decide +kernel
theorem d_P_instruction_14 : decode b_P_instruction 14 = .ok (.if_icmp .le 11, 3) := by decide +kernel
theorem d_P_instruction_17 : decode b_P_instruction 17 = .ok (.new 63, 3) := by decide +kernel
theorem d_P_instruction_20 : decode b_P_instruction 20 = .ok (.dup, 1) := by decide +kernel
theorem d_P_instruction_21 : decode b_P_instruction 21 = .ok (.invokespecial 65, 3) := by decide +kernel
theorem d_P_instruction_24 : decode b_P_instruction 24 = .ok (.athrow, 1) := by decide +kernel
theorem d_P_instruction_25 : decode b_P_instruction 25 = .ok (.iload_n 2, 1) := by decide +kernel
theorem d_P_instruction_26 : decode b_P_instruction 26 = .ok (.ifCond .ne 13, 3) := by decide +kernel
theorem d_P_instruction_29 : decode b_P_instruction 29 = .ok (.aload_n 0, 1) := by decide +kernel
theorem d_P_instruction_30 : decode b_P_instruction 30 = .ok (.getfield 20, 3) := by decide +kernel
theorem d_P_instruction_33 : decode b_P_instruction 33 = .ok (.getfield 66, 3) := by decide +kernel
theorem d_P_instruction_36 : decode b_P_instruction 36 = .ok (.iload_n 1, 1) := by decide +kernel
theorem d_P_instruction_37 : decode b_P_instruction 37 = .ok (.iaload, 1) := by decide +kernel
theorem d_P_instruction_38 : decode b_P_instruction 38 = .ok (.ireturn, 1) := by decide +kernel
theorem d_P_instruction_39 : decode b_P_instruction 39 = .ok (.iload_n 2, 1) := by decide +kernel
theorem d_P_instruction_40 : decode b_P_instruction 40 = .ok (.iconst 1, 1) := by decide +kernel
theorem d_P_instruction_41 : decode b_P_instruction 41 = .ok (.if_icmp .ne 15, 3) := by decide +kernel
theorem d_P_instruction_44 : decode b_P_instruction 44 = .ok (.aload_n 0, 1) := by decide +kernel
theorem d_P_instruction_45 : decode b_P_instruction 45 = .ok (.getfield 20, 3) := by decide +kernel
theorem d_P_instruction_48 : decode b_P_instruction 48 = .ok (.getfield 69, 3) := by decide +kernel
theorem d_P_instruction_51 : decode b_P_instruction 51 = .ok (.iload_n 1, 1) := by decide +kernel
theorem d_P_instruction_52 : decode b_P_instruction 52 = .ok (.iaload, 1) := by decide +kernel
theorem d_P_instruction_53 : decode b_P_instruction 53 = .ok (.goto 12, 3) := by decide +kernel
theorem d_P_instruction_56 : decode b_P_instruction 56 = .ok (.aload_n 0, 1) := by decide +kernel
theorem d_P_instruction_57 : decode b_P_instruction 57 = .ok (.getfield 20, 3) := by decide +kernel
theorem d_P_instruction_60 : decode b_P_instruction 60 = .ok (.getfield 72, 3) := by decide +kernel
theorem d_P_instruction_63 : decode b_P_instruction 63 = .ok (.iload_n 1, 1) := by decide +kernel
theorem d_P_instruction_64 : decode b_P_instruction 64 = .ok (.iaload, 1) := by decide +kernel
theorem d_P_instruction_65 : decode b_P_instruction 65 = .ok (.ireturn, 1) := by decide +kernel
theorem d_P_result_0 : decode b_P_result 0 = .ok (.aload_n 0, 1) := by decide +kernel
theorem d_P_result_1 : decode b_P_result 1 = .ok (.invokevirtual 75, 3) := by decide +kernel
theorem d_P_result_4 : decode b_P_result 4 = .ok (.ifCond .ne 11, 3) := by decide +kernel
theorem d_P_result_7 : decode b_P_result 7 = .ok (.new 45, 3) := by decide +kernel
theorem d_P_result_10 : decode b_P_result 10 = .ok (.dup, 1) := by decide +kernel
theorem d_P_result_11 : decode b_P_result 11 = .ok (.invokespecial 47, 3) := by decide +kernel
theorem d_P_result_14 : decode b_P_result 14 = .ok (.athrow, 1) := by decide +kernel
theorem d_P_result_15 : decode b_P_result 15 = .ok (.iload_n 1, 1) := by decide +kernel
theorem d_P_result_16 : decode b_P_result 16 = .ok (.ifCond .lt 8, 3) := by decide +kernel
theorem d_P_result_19 : decode b_P_result 19 = .ok (.iload_n 1, 1) := by decide +kernel
theorem d_P_result_20 : decode b_P_result 20 = .ok (.iconst 3, 1) := by decide +kernel
theorem d_P_result_21 : decode b_P_result 21 = .ok (.if_icmp .lt 11, 3) := by decide +kernel
theorem d_P_result_24 : decode b_P_result 24 = .ok (.new 63, 3) := by decide +kernel
theorem d_P_result_27 : decode b_P_result 27 = .ok (.dup, 1) := by decide +kernel
theorem d_P_result_28 : decode b_P_result 28 = .ok (.invokespecial 65, 3) := by decide +kernel
theorem d_P_result_31 : decode b_P_result 31 = .ok (.athrow, 1) := by decide +kernel
theorem d_P_result_32 : decode b_P_result 32 = .ok (.aload_n 0, 1) := by decide +kernel
theorem d_P_result_33 : decode b_P_result 33 = .ok (.getfield 20, 3) := by decide +kernel
theorem d_P_result_36 : decode b_P_result 36 = .ok (.getfield 79, 3) := by decide +kernel
theorem d_P_result_39 : decode b_P_result 39 = .ok (.iload_n 1, 1) := by decide +kernel
theorem d_P_result_40 : decode b_P_result 40 = .ok (.iaload, 1) := by decide +kernel
theorem d_P_result_41 : decode b_P_result 41 = .ok (.ireturn, 1) := by decide +kernel
theorem d_P_typeOf_0 : decode b_P_typeOf 0 = .ok (.iload_n 1, 1) := by decide +kernel
theorem d_P_typeOf_1 : decode b_P_typeOf 1 = .ok (.ifCond .lt 9, 3) := by decide +kernel
theorem d_P_typeOf_4 : decode b_P_typeOf 4 = .ok (.iload_n 1, 1) := by decide +kernel
theorem d_P_typeOf_5 : decode b_P_typeOf 5 = .ok (.bipush 26, 2) := by decide +kernel
theorem d_P_typeOf_7 : decode b_P_typeOf 7 = .ok (.if_icmp .lt 11, 3) := by decide +kernel
theorem d_P_typeOf_10 : decode b_P_typeOf 10 = .ok (.new 63, 3) := by decide +kernel
theorem d_P_typeOf_13 : decode b_P_typeOf 13 = .ok (.dup, 1) := by decide +kernel
theorem d_P_typeOf_14 : decode b_P_typeOf 14 = .ok (.invokespecial 65, 3) := by decide +kernel
theorem d_P_typeOf_17 : decode b_P_typeOf 17 = .ok (.athrow, 1) := by decide +kernel
theorem d_P_typeOf_18 : decode b_P_typeOf 18 = .ok (.aload_n 0, 1) := by decide +kernel
theorem d_P_typeOf_19 : decode b_P_typeOf 19 = .ok (.getfield 20, 3) := by decide +kernel
theorem d_P_typeOf_22 : decode b_P_typeOf 22 = .ok (.getfield 82, 3) := by decide +kernel
theorem d_P_typeOf_25 : decode b_P_typeOf 25 = .ok (.iload_n 1, 1) := by decide +kernel
theorem d_P_typeOf_26 : decode b_P_typeOf 26 = .ok (.iaload, 1) := by decide +kernel
theorem d_P_typeOf_27 : decode b_P_typeOf 27 = .ok (.ireturn, 1) := by decide +kernel
theorem d_P_value_0 : decode b_P_value 0 = .ok (.aload_n 0, 1) := by decide +kernel
theorem d_P_value_1 : decode b_P_value 1 = .ok (.iload_n 1, 1) := by decide +kernel
theorem d_P_value_2 : decode b_P_value 2 = .ok (.invokevirtual 59, 3) := by decide +kernel
theorem d_P_value_5 : decode b_P_value 5 = .ok (.ifCond .ne 11, 3) := by decide +kernel
theorem d_P_value_8 : decode b_P_value 8 = .ok (.new 63, 3) := by decide +kernel
theorem d_P_value_11 : decode b_P_value 11 = .ok (.dup, 1) := by decide +kernel
theorem d_P_value_12 : decode b_P_value 12 = .ok (.invokespecial 65, 3) := by decide +kernel
theorem d_P_value_15 : decode b_P_value 15 = .ok (.athrow, 1) := by decide +kernel
theorem d_P_value_16 : decode b_P_value 16 = .ok (.iload 5, 2) := by decide +kernel
theorem d_P_value_18 : decode b_P_value 18 = .ok (.invokestatic 85, 3) := by decide +kernel
theorem d_P_value_21 : decode b_P_value 21 = .ok (.ifCond .ne 11, 3) := by decide +kernel
theorem d_P_value_24 : decode b_P_value 24 = .ok (.new 42, 3) := by decide +kernel
theorem d_P_value_27 : decode b_P_value 27 = .ok (.dup, 1) := by decide +kernel
theorem d_P_value_28 : decode b_P_value 28 = .ok (.invokespecial 44, 3) := by decide +kernel
theorem d_P_value_31 : decode b_P_value 31 = .ok (.athrow, 1) := by decide +kernel
theorem d_P_value_32 : decode b_P_value 32 = .ok (.aload_n 0, 1) := by decide +kernel
theorem d_P_value_33 : decode b_P_value 33 = .ok (.getfield 34, 3) := by decide +kernel
theorem d_P_value_36 : decode b_P_value 36 = .ok (.aload_n 0, 1) := by decide +kernel
theorem d_P_value_37 : decode b_P_value 37 = .ok (.getfield 20, 3) := by decide +kernel
theorem d_P_value_40 : decode b_P_value 40 = .ok (.iload_n 2, 1) := by decide +kernel
theorem d_P_value_41 : decode b_P_value 41 = .ok (.iload_n 3, 1) := by decide +kernel
theorem d_P_value_42 : decode b_P_value 42 = .ok (.iload 4, 2) := by decide +kernel
theorem d_P_value_44 : decode b_P_value 44 = .ok (.iload 5, 2) := by decide +kernel
theorem d_P_value_46 : decode b_P_value 46 = .ok (.invokevirtual 88, 3) := by decide +kernel
theorem d_P_value_49 : decode b_P_value 49 = .ok (.aload_n 0, 1) := by decide +kernel
theorem d_P_value_50 : decode b_P_value 50 = .ok (.getfield 34, 3) := by decide +kernel
theorem d_P_value_53 : decode b_P_value 53 = .ok (.getfield 92, 3) := by decide +kernel
theorem d_P_value_56 : decode b_P_value 56 = .ok (.iload_n 1, 1) := by decide +kernel
theorem d_P_value_57 : decode b_P_value 57 = .ok (.iaload, 1) := by decide +kernel
theorem d_P_value_58 : decode b_P_value 58 = .ok (.ireturn, 1) := by decide +kernel
theorem d_P_paint_0 : decode b_P_paint 0 = .ok (.iload_n 1, 1) := by decide +kernel
theorem d_P_paint_1 : decode b_P_paint 1 = .ok (.iload_n 2, 1) := by decide +kernel
theorem d_P_paint_2 : decode b_P_paint 2 = .ok (.invokestatic 95, 3) := by decide +kernel
theorem d_P_paint_5 : decode b_P_paint 5 = .ok (.ifCond .ne 11, 3) := by decide +kernel
theorem d_P_paint_8 : decode b_P_paint 8 = .ok (.new 63, 3) := by decide +kernel
theorem d_P_paint_11 : decode b_P_paint 11 = .ok (.dup, 1) := by decide +kernel
theorem d_P_paint_12 : decode b_P_paint 12 = .ok (.invokespecial 65, 3) := by decide +kernel
theorem d_P_paint_15 : decode b_P_paint 15 = .ok (.athrow, 1) := by decide +kernel
theorem d_P_paint_16 : decode b_P_paint 16 = .ok (.iload_n 3, 1) := by decide +kernel
theorem d_P_paint_17 : decode b_P_paint 17 = .ok (.invokestatic 85, 3) := by decide +kernel
theorem d_P_paint_20 : decode b_P_paint 20 = .ok (.ifCond .ne 11, 3) := by decide +kernel
theorem d_P_paint_23 : decode b_P_paint 23 = .ok (.new 42, 3) := by decide +kernel
theorem d_P_paint_26 : decode b_P_paint 26 = .ok (.dup, 1) := by decide +kernel
theorem d_P_paint_27 : decode b_P_paint 27 = .ok (.invokespecial 44, 3) := by decide +kernel
theorem d_P_paint_30 : decode b_P_paint 30 = .ok (.athrow, 1) := by decide +kernel
theorem d_P_paint_31 : decode b_P_paint 31 = .ok (.aload_n 0, 1) := by decide +kernel
theorem d_P_paint_32 : decode b_P_paint 32 = .ok (.getfield 38, 3) := by decide +kernel
theorem d_P_paint_35 : decode b_P_paint 35 = .ok (.iload_n 2, 1) := by decide +kernel
theorem d_P_paint_36 : decode b_P_paint 36 = .ok (.bipush 8, 2) := by decide +kernel
theorem d_P_paint_38 : decode b_P_paint 38 = .ok (.imul, 1) := by decide +kernel
theorem d_P_paint_39 : decode b_P_paint 39 = .ok (.iload_n 1, 1) := by decide +kernel
theorem d_P_paint_40 : decode b_P_paint 40 = .ok (.iadd, 1) := by decide +kernel
theorem d_P_paint_41 : decode b_P_paint 41 = .ok (.iload_n 3, 1) := by decide +kernel
theorem d_P_paint_42 : decode b_P_paint 42 = .ok (.iastore, 1) := by decide +kernel
theorem d_P_paint_43 : decode b_P_paint 43 = .ok (.return_, 1) := by decide +kernel
theorem d_P_run_0 : decode b_P_run 0 = .ok (.aload_n 0, 1) := by decide +kernel
theorem d_P_run_1 : decode b_P_run 1 = .ok (.invokevirtual 75, 3) := by decide +kernel
theorem d_P_run_4 : decode b_P_run 4 = .ok (.ifCond .ne 11, 3) := by decide +kernel
theorem d_P_run_7 : decode b_P_run 7 = .ok (.new 45, 3) := by decide +kernel
theorem d_P_run_10 : decode b_P_run 10 = .ok (.dup, 1) := by decide +kernel
theorem d_P_run_11 : decode b_P_run 11 = .ok (.invokespecial 47, 3) := by decide +kernel
theorem d_P_run_14 : decode b_P_run 14 = .ok (.athrow, 1) := by decide +kernel
theorem d_P_run_15 : decode b_P_run 15 = .ok (.iconst 0, 1) := by decide +kernel
theorem d_P_run_16 : decode b_P_run 16 = .ok (.istore_n 2, 1) := by decide +kernel
theorem d_P_run_17 : decode b_P_run 17 = .ok (.iload_n 2, 1) := by decide +kernel
theorem d_P_run_18 : decode b_P_run 18 = .ok (.iconst 4, 1) := by decide +kernel
theorem d_P_run_19 : decode b_P_run 19 = .ok (.if_icmp .ge 76, 3) := by decide +kernel
theorem d_P_run_22 : decode b_P_run 22 = .ok (.iconst 0, 1) := by decide +kernel
theorem d_P_run_23 : decode b_P_run 23 = .ok (.istore_n 3, 1) := by decide +kernel
theorem d_P_run_24 : decode b_P_run 24 = .ok (.iload_n 3, 1) := by decide +kernel
theorem d_P_run_25 : decode b_P_run 25 = .ok (.bipush 8, 2) := by decide +kernel
theorem d_P_run_27 : decode b_P_run 27 = .ok (.if_icmp .ge 62, 3) := by decide +kernel
theorem d_P_run_30 : decode b_P_run 30 = .ok (.iload_n 2, 1) := by decide +kernel
theorem d_P_run_31 : decode b_P_run 31 = .ok (.bipush 8, 2) := by decide +kernel
theorem d_P_run_33 : decode b_P_run 33 = .ok (.imul, 1) := by decide +kernel
theorem d_P_run_34 : decode b_P_run 34 = .ok (.iload_n 3, 1) := by decide +kernel
theorem d_P_run_35 : decode b_P_run 35 = .ok (.iadd, 1) := by decide +kernel
theorem d_P_run_36 : decode b_P_run 36 = .ok (.istore 4, 2) := by decide +kernel
theorem d_P_run_38 : decode b_P_run 38 = .ok (.aload_n 0, 1) := by decide +kernel
theorem d_P_run_39 : decode b_P_run 39 = .ok (.getfield 34, 3) := by decide +kernel
theorem d_P_run_42 : decode b_P_run 42 = .ok (.aload_n 0, 1) := by decide +kernel
theorem d_P_run_43 : decode b_P_run 43 = .ok (.getfield 20, 3) := by decide +kernel
theorem d_P_run_46 : decode b_P_run 46 = .ok (.iload_n 3, 1) := by decide +kernel
theorem d_P_run_47 : decode b_P_run 47 = .ok (.ldc 99, 2) := by decide +kernel
theorem d_P_run_49 : decode b_P_run 49 = .ok (.imul, 1) := by decide +kernel
theorem d_P_run_50 : decode b_P_run 50 = .ok (.iload_n 2, 1) := by decide +kernel
theorem d_P_run_51 : decode b_P_run 51 = .ok (.ldc 99, 2) := by decide +kernel
theorem d_P_run_53 : decode b_P_run 53 = .ok (.imul, 1) := by decide +kernel
theorem d_P_run_54 : decode b_P_run 54 = .ok (.iload_n 1, 1) := by decide +kernel
theorem d_P_run_55 : decode b_P_run 55 = .ok (.aload_n 0, 1) := by decide +kernel
theorem d_P_run_56 : decode b_P_run 56 = .ok (.getfield 38, 3) := by decide +kernel
theorem d_P_run_59 : decode b_P_run 59 = .ok (.iload 4, 2) := by decide +kernel
theorem d_P_run_61 : decode b_P_run 61 = .ok (.iaload, 1) := by decide +kernel
theorem d_P_run_62 : decode b_P_run 62 = .ok (.invokevirtual 88, 3) := by decide +kernel
theorem d_P_run_65 : decode b_P_run 65 = .ok (.aload_n 0, 1) := by decide +kernel
theorem d_P_run_66 : decode b_P_run 66 = .ok (.getfield 38, 3) := by decide +kernel
theorem d_P_run_69 : decode b_P_run 69 = .ok (.iload 4, 2) := by decide +kernel
theorem d_P_run_71 : decode b_P_run 71 = .ok (.aload_n 0, 1) := by decide +kernel
theorem d_P_run_72 : decode b_P_run 72 = .ok (.getfield 34, 3) := by decide +kernel
theorem d_P_run_75 : decode b_P_run 75 = .ok (.aload_n 0, 1) := by decide +kernel
theorem d_P_run_76 : decode b_P_run 76 = .ok (.getfield 20, 3) := by decide +kernel
theorem d_P_run_79 : decode b_P_run 79 = .ok (.invokevirtual 100, 3) := by decide +kernel
theorem d_P_run_82 : decode b_P_run 82 = .ok (.iastore, 1) := by decide +kernel
theorem d_P_run_83 : decode b_P_run 83 = .ok (.iinc 3 1, 3) := by decide +kernel
theorem d_P_run_86 : decode b_P_run 86 = .ok (.goto (-62), 3) := by decide +kernel
theorem d_P_run_89 : decode b_P_run 89 = .ok (.iinc 2 1, 3) := by decide +kernel
theorem d_P_run_92 : decode b_P_run 92 = .ok (.goto (-75), 3) := by decide +kernel
theorem d_P_run_95 : decode b_P_run 95 = .ok (.return_, 1) := by decide +kernel
theorem d_P_pixel_0 : decode b_P_pixel 0 = .ok (.iload_n 1, 1) := by decide +kernel
theorem d_P_pixel_1 : decode b_P_pixel 1 = .ok (.iload_n 2, 1) := by decide +kernel
theorem d_P_pixel_2 : decode b_P_pixel 2 = .ok (.invokestatic 95, 3) := by decide +kernel
theorem d_P_pixel_5 : decode b_P_pixel 5 = .ok (.ifCond .ne 11, 3) := by decide +kernel
theorem d_P_pixel_8 : decode b_P_pixel 8 = .ok (.new 63, 3) := by decide +kernel
theorem d_P_pixel_11 : decode b_P_pixel 11 = .ok (.dup, 1) := by decide +kernel
theorem d_P_pixel_12 : decode b_P_pixel 12 = .ok (.invokespecial 65, 3) := by decide +kernel
theorem d_P_pixel_15 : decode b_P_pixel 15 = .ok (.athrow, 1) := by decide +kernel
theorem d_P_pixel_16 : decode b_P_pixel 16 = .ok (.aload_n 0, 1) := by decide +kernel
theorem d_P_pixel_17 : decode b_P_pixel 17 = .ok (.getfield 38, 3) := by decide +kernel
theorem d_P_pixel_20 : decode b_P_pixel 20 = .ok (.iload_n 2, 1) := by decide +kernel
theorem d_P_pixel_21 : decode b_P_pixel 21 = .ok (.bipush 8, 2) := by decide +kernel
theorem d_P_pixel_23 : decode b_P_pixel 23 = .ok (.imul, 1) := by decide +kernel
theorem d_P_pixel_24 : decode b_P_pixel 24 = .ok (.iload_n 1, 1) := by decide +kernel
theorem d_P_pixel_25 : decode b_P_pixel 25 = .ok (.iadd, 1) := by decide +kernel
theorem d_P_pixel_26 : decode b_P_pixel 26 = .ok (.iaload, 1) := by decide +kernel
theorem d_P_pixel_27 : decode b_P_pixel 27 = .ok (.ireturn, 1) := by decide +kernel
theorem d_P_hasCode_0 : decode b_P_hasCode 0 = .ok (.aload_n 0, 1) := by decide +kernel
theorem d_P_hasCode_1 : decode b_P_hasCode 1 = .ok (.getfield 20, 3) := by decide +kernel
theorem d_P_hasCode_4 : decode b_P_hasCode 4 = .ok (.getfield 56, 3) := by decide +kernel
theorem d_P_hasCode_7 : decode b_P_hasCode 7 = .ok (.ifCond .le 7, 3) := by decide +kernel
theorem d_P_hasCode_10 : decode b_P_hasCode 10 = .ok (.iconst 1, 1) := by decide +kernel
theorem d_P_hasCode_11 : decode b_P_hasCode 11 = .ok (.goto 4, 3) := by decide +kernel
theorem d_P_hasCode_14 : decode b_P_hasCode 14 = .ok (.iconst 0, 1) := by decide +kernel
theorem d_P_hasCode_15 : decode b_P_hasCode 15 = .ok (.ireturn, 1) := by decide +kernel
theorem d_P_isInstruction_0 : decode b_P_isInstruction 0 = .ok (.iload_n 1, 1) := by decide +kernel
theorem d_P_isInstruction_1 : decode b_P_isInstruction 1 = .ok (.ifCond .lt 18, 3) := by decide +kernel
theorem d_P_isInstruction_4 : decode b_P_isInstruction 4 = .ok (.iload_n 1, 1) := by decide +kernel
theorem d_P_isInstruction_5 : decode b_P_isInstruction 5 = .ok (.aload_n 0, 1) := by decide +kernel
theorem d_P_isInstruction_6 : decode b_P_isInstruction 6 = .ok (.getfield 20, 3) := by decide +kernel
theorem d_P_isInstruction_9 : decode b_P_isInstruction 9 = .ok (.getfield 56, 3) := by decide +kernel
theorem d_P_isInstruction_12 : decode b_P_isInstruction 12 = .ok (.if_icmp .ge 7, 3) := by decide +kernel
theorem d_P_isInstruction_15 : decode b_P_isInstruction 15 = .ok (.iconst 1, 1) := by decide +kernel
theorem d_P_isInstruction_16 : decode b_P_isInstruction 16 = .ok (.goto 4, 3) := by decide +kernel
theorem d_P_isInstruction_19 : decode b_P_isInstruction 19 = .ok (.iconst 0, 1) := by decide +kernel
theorem d_P_isInstruction_20 : decode b_P_isInstruction 20 = .ok (.ireturn, 1) := by decide +kernel
theorem d_P_isPoint_0 : decode b_P_isPoint 0 = .ok (.iload_n 0, 1) := by decide +kernel
theorem d_P_isPoint_1 : decode b_P_isPoint 1 = .ok (.ifCond .lt 22, 3) := by decide +kernel
theorem d_P_isPoint_4 : decode b_P_isPoint 4 = .ok (.iload_n 0, 1) := by decide +kernel
theorem d_P_isPoint_5 : decode b_P_isPoint 5 = .ok (.bipush 8, 2) := by decide +kernel
theorem d_P_isPoint_7 : decode b_P_isPoint 7 = .ok (.if_icmp .ge 16, 3) := by decide +kernel
theorem d_P_isPoint_10 : decode b_P_isPoint 10 = .ok (.iload_n 1, 1) := by decide +kernel
theorem d_P_isPoint_11 : decode b_P_isPoint 11 = .ok (.ifCond .lt 12, 3) := by decide +kernel
theorem d_P_isPoint_14 : decode b_P_isPoint 14 = .ok (.iload_n 1, 1) := by decide +kernel
theorem d_P_isPoint_15 : decode b_P_isPoint 15 = .ok (.iconst 4, 1) := by decide +kernel
theorem d_P_isPoint_16 : decode b_P_isPoint 16 = .ok (.if_icmp .ge 7, 3) := by decide +kernel
theorem d_P_isPoint_19 : decode b_P_isPoint 19 = .ok (.iconst 1, 1) := by decide +kernel
theorem d_P_isPoint_20 : decode b_P_isPoint 20 = .ok (.goto 4, 3) := by decide +kernel
theorem d_P_isPoint_23 : decode b_P_isPoint 23 = .ok (.iconst 0, 1) := by decide +kernel
theorem d_P_isPoint_24 : decode b_P_isPoint 24 = .ok (.ireturn, 1) := by decide +kernel
theorem d_P_isColor_0 : decode b_P_isColor 0 = .ok (.iload_n 0, 1) := by decide +kernel
theorem d_P_isColor_1 : decode b_P_isColor 1 = .ok (.ifCond .lt 13, 3) := by decide +kernel
theorem d_P_isColor_4 : decode b_P_isColor 4 = .ok (.iload_n 0, 1) := by decide +kernel
theorem d_P_isColor_5 : decode b_P_isColor 5 = .ok (.ldc 104, 2) := by decide +kernel
theorem d_P_isColor_7 : decode b_P_isColor 7 = .ok (.if_icmp .gt 7, 3) := by decide +kernel
theorem d_P_isColor_10 : decode b_P_isColor 10 = .ok (.iconst 1, 1) := by decide +kernel
theorem d_P_isColor_11 : decode b_P_isColor 11 = .ok (.goto 4, 3) := by decide +kernel
theorem d_P_isColor_14 : decode b_P_isColor 14 = .ok (.iconst 0, 1) := by decide +kernel
theorem d_P_isColor_15 : decode b_P_isColor 15 = .ok (.ireturn, 1) := by decide +kernel
end
section
/-! rows of mine over the kit: contracts whose end is fixed by a function; calls in the same world; static calls of numbers alone -/
abbrev cc_Pre (D : va_G) (cl : List vw_C) (tys : List (ClassId × FieldType)) (ws : va_W) (sz : Nat) (U : State) : Prop := U.heap.size = sz ∧ va_P D cl ws U.heap ∧ va_K D cl tys U ∧ va_D (fun _ => True) ws
abbrev cc_Post (D : va_G) (cl : List vw_C) (tys : List (ClassId × FieldType)) (ws0 : va_W) (sz : Nat) (ws : va_W) (t : State) : Prop := va_P D cl ws t.heap ∧ va_K D cl tys t ∧ va_D (va_A ws0 sz) ws
abbrev cc_Qi (D : va_G) (cl : List vw_C) (tys : List (ClassId × FieldType)) (ws0 : va_W) (sz : Nat) (ws : va_W) (r0 : Int32) : Array Value → State → Outcome → State → Prop := va_Qi (fun r (_ : Unit) => r = r0) (fun _ t => cc_Post D cl tys ws0 sz ws t) (va_A ws0 sz)
abbrev cc_Qv (D : va_G) (cl : List vw_C) (tys : List (ClassId × FieldType)) (ws0 : va_W) (sz : Nat) (ws : va_W) : Array Value → State → Outcome → State → Prop := va_Qv (fun (_ : Unit) => True) (fun _ t => cc_Post D cl tys ws0 sz ws t) (va_A ws0 sz)
abbrev cc_MetI (l : Launch) (y : MethodName) (wy : List Cond) (rm : Room) (D : va_G) (cl : List vw_C) (tys : List (ClassId × FieldType)) (av : List Value) (ws0 : va_W) (sz : Nat) (ws : va_W) (r0 : Int32) : Prop :=
  Met l y wy rm (va_Pc av (cc_Pre D cl tys ws0 sz)) (cc_Qi D cl tys ws0 sz ws r0) 0 0 (va_A ws0 sz)
abbrev cc_MetV (l : Launch) (y : MethodName) (wy : List Cond) (rm : Room) (D : va_G) (cl : List vw_C) (tys : List (ClassId × FieldType)) (av : List Value) (ws0 : va_W) (sz : Nat) (ws : va_W) : Prop :=
  Met l y wy rm (va_Pc av (cc_Pre D cl tys ws0 sz)) (cc_Qv D cl tys ws0 sz ws) 0 0 (va_A ws0 sz)
/-- a static method of numbers alone -/
abbrev cc_MetS (l : Launch) (y : MethodName) (wy : List Cond) (rm : Room) (av : List Value) (r0 : Int32) : Prop :=
  Met l y wy rm (fun v _ => v = av.toArray) (vp_Si (fun r => r = r0)) 0 0 (fun _ => False)
section CC
variable {p : Program} {l : Launch} {e : Env} {R : Room} {s : State} {m : MethodId} {args : Array Value} {below : List Frame} {meth : Method} {c : Code} {H : Heap} {locs : List Loc} {cells slots : Nat} {Q : State → Prop}
variable {pc : Nat} {ls : Array Slot} {rest st0 : List Value} {a : Array Value} {A0 : Nat → Prop} {H0 : Heap}
variable {D : va_G} {cl : List vw_C} {tys : List (ClassId × FieldType)} {ws w1 wq wc : va_W}
theorem cc_pre {av : List Value} (hK : va_K D cl tys s) (hP : va_P D cl ws H) (hD : va_D A0 ws) : FrameBlind (va_Pc av (cc_Pre D cl tys ws H.size)) ∧ ∀ U : State, U.heap = H → s.WarmedH U.vm → va_Pc av (cc_Pre D cl tys ws H.size) av.toArray U :=
  ⟨fun a U g mk q => by obtain ⟨q0, q1, qP, qK, qD⟩ := q; exact ⟨q0, q1, qP, va_K.moved (u := U) (U := U.calling g mk a) (Vm.Alike.refl U.vm) qK, qD⟩,
   fun U hU hW => ⟨rfl, by rw [hU], by rw [hU]; exact hP, va_K.moved hW.alike hK, hD.weaken (fun _ _ _ _ => trivial)⟩⟩
theorem cc_preV {b q0 ci : Nat} {q : vw_C} {fs : List Value} {As : List Value} (hK : va_K D cl tys s) (hP : va_P D cl ws H) (hD : va_D A0 ws) (hc : cl[ci]? = some q) (he : ws[q0]? = some (b, .inr (ci, fs))) : PreV s H q.1 b (va_Pc (.ref b :: As) (cc_Pre D cl tys ws H.size)) As :=
  ⟨(cc_pre hK hP hD).1, va_recv hK hP hc he, (cc_pre hK hP hD).2⟩
/-- the callee's world is a part of the caller's -/
theorem cc_preVs {b q0 ci : Nat} {q : vw_C} {fs : List Value} {As : List Value} (hK : va_K D cl tys s) (hP : va_P D cl ws H) (hD : va_D A0 ws) (isC : List Nat) (hn : va_nd isC = true) (hC : isC.map (fun i => ws[i]?) = wc.map some) (hC2 : isC.filterMap (fun i => ws[i]?) = wc) (hc : cl[ci]? = some q) (he : ws[q0]? = some (b, .inr (ci, fs))) : PreV s H q.1 b (va_Pc (.ref b :: As) (cc_Pre D cl tys wc H.size)) As :=
  ⟨(cc_pre hK (hP.sub isC hC2) (hD.sub isC hn hC)).1, va_recv hK hP hc he, (cc_pre hK (hP.sub isC hC2) (hD.sub isC hn hC)).2⟩
theorem cc_preS {av : List Value} : PreS s H (fun v _ => v = av.toArray) av := ⟨fun _ _ _ _ q => q, fun _ _ _ => rfl⟩
theorem cc_all (hD : va_D A0 ws) (hS : va_S A0 H0 H locs) (hA : ∀ q, H0.size ≤ q → A0 q) : ∀ q, va_A ws H.size q → A0 q := by
  intro q h
  rcases h with ⟨k, e, h⟩ | h
  · exact hD.2 k (q, e) h
  · exact hA q (Nat.le_trans hS.1 h)
theorem cc_calli {r0 : Int32} (hr : va_Run p l e R s m args below meth c H locs cells slots 0 0 (F0 m pc ls st0) rest (cc_Qi D cl tys ws H.size w1 r0 a) (va_A ws H.size)) (hD : va_D A0 ws) (hS : va_S A0 H0 H locs) (hA : ∀ q, H0.size ≤ q → A0 q)
    (kk : ∀ (H1 : Heap) (locs1 : List Loc), va_P D cl w1 H1 → va_D A0 w1 → va_S A0 H0 H1 locs1 → W p l e R s m args below meth c H1 locs1 cells slots Q (F0 m (pc + 3) ls (.int r0 :: rest))) : W p l e R s m args below meth c H locs cells slots Q (F0 m pc ls st0) := by
  have hFc := cc_all hD hS hA
  refine va_calli hr hS (fun q _ h => hFc q h) hFc (fun r u t H1 locs1 ht hvm hw hB hz1 hk1 hS1 => ?_)
  obtain ⟨hP1, hK1, hD1⟩ := hB
  rw [ht] at hP1
  have hw : r = r0 := hw
  rw [hw]
  exact kk H1 locs1 hP1 (hD1.weaken (fun k q _ h => hFc q.1 h)) hS1
theorem cc_callv (hr : va_Run p l e R s m args below meth c H locs cells slots 0 0 (F0 m pc ls st0) rest (cc_Qv D cl tys ws H.size w1 a) (va_A ws H.size)) (hD : va_D A0 ws) (hS : va_S A0 H0 H locs) (hA : ∀ q, H0.size ≤ q → A0 q)
    (kk : ∀ (H1 : Heap) (locs1 : List Loc), va_P D cl w1 H1 → va_D A0 w1 → va_S A0 H0 H1 locs1 → W p l e R s m args below meth c H1 locs1 cells slots Q (F0 m (pc + 3) ls rest)) : W p l e R s m args below meth c H locs cells slots Q (F0 m pc ls st0) := by
  have hFc := cc_all hD hS hA
  refine va_callv hr hS (fun q _ h => hFc q h) hFc (fun u t H1 locs1 ht hvm hw hB hz1 hk1 hS1 => ?_)
  obtain ⟨hP1, hK1, hD1⟩ := hB
  rw [ht] at hP1
  exact kk H1 locs1 hP1 (hD1.weaken (fun k q _ h => hFc q.1 h)) hS1
theorem cc_calliP {r0 : Int32} (hr : va_Run p l e R s m args below meth c H locs cells slots 0 0 (F0 m pc ls st0) rest (cc_Qi D cl tys wc H.size w1 r0 a) (va_A wc H.size)) (hP : va_P D cl ws H) (hD : va_D A0 ws) (hS : va_S A0 H0 H locs) (hA : ∀ q, H0.size ≤ q → A0 q)
    (isC isR : List Nat) (hC : isC.map (fun i => ws[i]?) = wc.map some) (hR : isR.map (fun i => ws[i]?) = wq.map some) (hn : va_nd isR = true) (hdis : ∀ i ∈ isR, i ∉ isC)
    (kk : ∀ (H1 : Heap) (locs1 : List Loc), va_P D cl (wq ++ w1) H1 → va_D A0 (wq ++ w1) → va_S A0 H0 H1 locs1 → W p l e R s m args below meth c H1 locs1 cells slots Q (F0 m (pc + 3) ls (.int r0 :: rest))) : W p l e R s m args below meth c H locs cells slots Q (F0 m pc ls st0) := by
  have hFc := va_free (wc := wc) hD hS hA isC hC
  refine va_calli hr hS (fun q _ h => hFc q h) hFc (fun r u t H1 locs1 ht hvm hw hB hz1 hk1 hS1 => ?_)
  obtain ⟨hP1, hK1, hD1⟩ := hB
  rw [ht] at hP1
  obtain ⟨hP2, hD2⟩ := va_join (wr := wq) (w1 := w1) hP hD isC isR hC hR hn hdis hk1 hFc hP1 hD1
  have hw : r = r0 := hw
  rw [hw]
  exact kk H1 locs1 hP2 hD2 hS1
theorem cc_callvP (hr : va_Run p l e R s m args below meth c H locs cells slots 0 0 (F0 m pc ls st0) rest (cc_Qv D cl tys wc H.size w1 a) (va_A wc H.size)) (hP : va_P D cl ws H) (hD : va_D A0 ws) (hS : va_S A0 H0 H locs) (hA : ∀ q, H0.size ≤ q → A0 q)
    (isC isR : List Nat) (hC : isC.map (fun i => ws[i]?) = wc.map some) (hR : isR.map (fun i => ws[i]?) = wq.map some) (hn : va_nd isR = true) (hdis : ∀ i ∈ isR, i ∉ isC)
    (kk : ∀ (H1 : Heap) (locs1 : List Loc), va_P D cl (wq ++ w1) H1 → va_D A0 (wq ++ w1) → va_S A0 H0 H1 locs1 → W p l e R s m args below meth c H1 locs1 cells slots Q (F0 m (pc + 3) ls rest)) : W p l e R s m args below meth c H locs cells slots Q (F0 m pc ls st0) := by
  have hFc := va_free (wc := wc) hD hS hA isC hC
  refine va_callv hr hS (fun q _ h => hFc q h) hFc (fun u t H1 locs1 ht hvm hw hB hz1 hk1 hS1 => ?_)
  obtain ⟨hP1, hK1, hD1⟩ := hB
  rw [ht] at hP1
  obtain ⟨hP2, hD2⟩ := va_join (wr := wq) (w1 := w1) hP hD isC isR hC hR hn hdis hk1 hFc hP1 hD1
  exact kk H1 locs1 hP2 hD2 hS1
theorem cc_calls {r0 : Int32} (hr : va_Run p l e R s m args below meth c H locs cells slots 0 0 (F0 m pc ls st0) rest (vp_Si (fun r => r = r0) a) (fun _ => False))
    (kk : W p l e R s m args below meth c H locs cells slots Q (F0 m (pc + 3) ls (.int r0 :: rest))) : W p l e R s m args below meth c H locs cells slots Q (F0 m pc ls st0) :=
  vp_callSi hr.run (fun r hr0 => by rw [hr0]; exact kk)
end CC
/-! decompiled functions: Nat → Int32 are the int fields of a world by their numbers, Nat → Nat → Int32 its rows by theirs; none: out of range, or out of turns -/
abbrev ST_F : Type := Nat → Int32
abbrev ST_A : Type := Nat → Nat → Int32
def ra_g {ρ : Type} (i : Int32) (n : Nat) (k : Option ρ) : Option ρ := if i < 0 ∨ n ≤ i.toNatClampNeg then none else k
theorem ra_g_some {ρ : Type} {i : Int32} {n : Nat} {k : Option ρ} {r : ρ} (h : ra_g i n k = some r) : vp_in i n ∧ k = some r := by
  unfold ra_g at h
  by_cases hc : i < 0 ∨ n ≤ i.toNatClampNeg
  · rw [if_pos hc] at h; cases h
  · rw [if_neg hc] at h; exact ⟨hc, h⟩
theorem ra_g_in {ρ : Type} {j n : Nat} (h : j < n) (hn : n < 2 ^ 31) (k : Option ρ) : ra_g (nI j) n k = k := if_neg (nI_in h hn)
def ra_nz {ρ : Type} (y : Int32) (k : Option ρ) : Option ρ := if y = 0 then none else k
theorem ra_nz_some {ρ : Type} {y : Int32} {k : Option ρ} {r : ρ} (h : ra_nz y k = some r) : ¬ y = 0 ∧ k = some r := by
  unfold ra_nz at h
  by_cases hc : y = 0
  · rw [if_pos hc] at h; cases h
  · rw [if_neg hc] at h; exact ⟨hc, h⟩
def ra_nzl {ρ : Type} (y : Int64) (k : Option ρ) : Option ρ := if y = 0 then none else k
theorem ra_nzl_some {ρ : Type} {y : Int64} {k : Option ρ} {r : ρ} (h : ra_nzl y k = some r) : ¬ y = 0 ∧ k = some r := by
  unfold ra_nzl at h
  by_cases hc : y = 0
  · rw [if_pos hc] at h; cases h
  · rw [if_neg hc] at h; exact ⟨hc, h⟩
def ra_nc {ρ : Type} (y : Int32) (k : Option ρ) : Option ρ := if vp_nar .char y = y then k else none
theorem ra_nc_some {ρ : Type} {y : Int32} {k : Option ρ} {r : ρ} (h : ra_nc y k = some r) : narrow .char (.int y) = .int y ∧ k = some r := by
  unfold ra_nc at h
  by_cases hc : vp_nar .char y = y
  · rw [if_pos hc] at h; exact ⟨congrArg Value.int hc, h⟩
  · rw [if_neg hc] at h; cases h
def ra_nb {ρ : Type} (y : Int32) (k : Option ρ) : Option ρ := if y = 0 ∨ y = 1 then k else none
theorem ra_nb_some {ρ : Type} {y : Int32} {k : Option ρ} {r : ρ} (h : ra_nb y k = some r) : narrow .boolean (.int y) = .int y ∧ k = some r := by
  unfold ra_nb at h
  by_cases hc : y = 0 ∨ y = 1
  · rw [if_pos hc] at h
    refine ⟨?_, h⟩
    rcases hc with rfl | rfl <;> rfl
  · rw [if_neg hc] at h; cases h
def ra_zb {ρ : Type} (y : Int32) (k : Option ρ) : Option ρ := if y = 0 ∨ y = 1 then k else none
theorem ra_zb_some {ρ : Type} {y : Int32} {k : Option ρ} {r : ρ} (h : ra_zb y k = some r) : narrow .boolean (.int y) = .int y ∧ fits .boolean (.int y) = true ∧ k = some r := by
  unfold ra_zb at h
  by_cases hc : y = 0 ∨ y = 1
  · rw [if_pos hc] at h
    refine ⟨?_, ?_, h⟩
    · rcases hc with rfl | rfl <;> rfl
    · rcases hc with rfl | rfl <;> rfl
  · rw [if_neg hc] at h; cases h
def ra_bi {ρ : Type} (g : Option (Int32 × ST_F × ST_A)) (k : Int32 → ST_F → ST_A → Option ρ) : Option ρ := match g with
  | none => none
  | some x => k x.1 x.2.1 x.2.2
def ra_bv {ρ : Type} (g : Option (ST_F × ST_A)) (k : ST_F → ST_A → Option ρ) : Option ρ := match g with
  | none => none
  | some x => k x.1 x.2
theorem ra_bi_some {ρ : Type} {g : Option (Int32 × ST_F × ST_A)} {k : Int32 → ST_F → ST_A → Option ρ} {r : ρ} (h : ra_bi g k = some r) : ∃ r1 F1 A1, g = some (r1, F1, A1) ∧ k r1 F1 A1 = some r := by
  cases g with
  | none => cases h
  | some x => exact ⟨x.1, x.2.1, x.2.2, rfl, h⟩
theorem ra_bv_some {ρ : Type} {g : Option (ST_F × ST_A)} {k : ST_F → ST_A → Option ρ} {r : ρ} (h : ra_bv g k = some r) : ∃ F1 A1, g = some (F1, A1) ∧ k F1 A1 = some r := by
  cases g with
  | none => cases h
  | some x => exact ⟨x.1, x.2, rfl, h⟩
end
section
abbrev wC (a : Nat → Nat) (cI cC : ClassId) (F : ST_F) (A : ST_A) : va_W := [((a 0), .inr (1, [.ref (a 1), .ref (a 2), .int (F 0), .int (F 1), .ref (a 3)])), ((a 1), .inl (cI, 26, .inl (A 0))), ((a 2), .inl (cC, 160, .inl (A 1))), ((a 3), .inr (0, [.ref (a 4), .ref (a 5), .ref (a 6), .ref (a 7), .ref (a 8), .int (F 2), .int (F 3)])), ((a 4), .inl (cI, 100, .inl (A 2))), ((a 5), .inl (cI, 100, .inl (A 3))), ((a 6), .inl (cI, 100, .inl (A 4))), ((a 7), .inl (cI, 3, .inl (A 5))), ((a 8), .inl (cI, 26, .inl (A 6)))]
end
section
/-! The pure layer: instructions, values, the grammar (recursive descent that stops at the first wrong piece), the reference's stacks. -/
abbrev px_I : Type := Int32 × Int32 × Int32
abbrev px_L : Type := List px_I
abbrev px_V : Type := List Nat
def px_find : px_L → px_I → Option Nat
  | [], _ => none
  | x :: l, i => if x = i then some 0 else (px_find l i).map (fun k => k + 1)
def px_put (L : px_L) (i : px_I) : Option (Nat × px_L) := match px_find L i with
  | some k => some (k, L)
  | none => if L.length = 100 then none else some (L.length, L ++ [i])
def px_puts : px_L → List px_I → Option (px_V × px_L)
  | L, [] => some ([], L)
  | L, i :: is => (px_put L i).bind fun r => (px_puts r.2 is).bind fun q => some (r.1 :: q.1, q.2)
def px_at (v : px_V) (i : Nat) : Int32 := nI (v.getD i 0)
def px_sp (v : px_V) (i : Nat) : Int32 := px_at v (if v.length = 1 then 0 else i)
def px_pair (kind : Int32) (a b : px_V) (L : px_L) : Option (px_V × px_L) :=
  if a.length ≠ b.length ∧ a.length ≠ 1 ∧ b.length ≠ 1 then none
  else px_puts L ((List.range (max a.length b.length)).map fun i => (kind, px_sp a i, px_sp b i))
def px_each (kind : Int32) (v : px_V) (L : px_L) : Option (px_V × px_L) := px_puts L (v.map fun p => (kind, nI p, 0))
def px_cell (a b : px_V) (j r : Nat) (L : px_L) : Option (Nat × px_L) :=
  (px_put L (4, px_at a r, px_at b (2 * j))).bind fun x => (px_put x.2 (4, px_at a (2 + r), px_at b (2 * j + 1))).bind fun y => px_put y.2 (2, nI x.1, nI y.1)
def px_cells (a b : px_V) : List (Nat × Nat) → px_L → Option (px_V × px_L)
  | [], L => some ([], L)
  | i :: is, L => (px_cell a b i.1 i.2 L).bind fun r => (px_cells a b is r.2).bind fun q => some (r.1 :: q.1, q.2)
def px_times (a b : px_V) (L : px_L) : Option (px_V × px_L) :=
  if a.length = 4 ∧ (b.length = 2 ∨ b.length = 4) then px_cells a b (if b.length = 2 then [(0, 0), (0, 1)] else [(0, 0), (0, 1), (1, 0), (1, 1)]) L
  else px_pair 4 a b L
def px_div (a b : px_V) (L : px_L) : Option (px_V × px_L) := if b.length = 4 then none else px_pair 5 a b L
def px_bin (c : Int32) (a b : px_V) (L : px_L) : Option (px_V × px_L) :=
  if c = 43 then px_pair 2 a b L else if c = 45 then px_pair 3 a b L else if c = 42 then px_times a b L else px_div a b L
def px_dotL (a b : px_V) : List Nat → Nat → px_L → Option (Nat × px_L)
  | [], t, L => some (t, L)
  | i :: is, t, L => (px_put L (4, px_at a i, px_at b i)).bind fun x => (px_put x.2 (2, nI t, nI x.1)).bind fun y => px_dotL a b is y.1 y.2
def px_dot (a b : px_V) (L : px_L) : Option (px_V × px_L) :=
  if a.length ≠ b.length ∨ 3 < a.length then none
  else (px_put L (4, px_at a 0, px_at b 0)).bind fun x => (px_dotL a b ((List.range (a.length - 1)).map (fun i => i + 1)) x.1 x.2).bind fun y => some ([y.1], y.2)
def px_join (args : List px_V) (L : px_L) : Option (px_V × px_L) :=
  if args.length ≤ 3 ∧ 2 ≤ args.flatten.length ∧ args.flatten.length ≤ 3 then some (args.flatten, L) else none
def px_fn (f : Int32) (args : List px_V) (L : px_L) : Option (px_V × px_L) :=
  if f = 86 then px_join args L
  else match args with
    | [a] => if f = 65 then px_each 10 a L else if f = 70 then px_each 11 a L else none
    | [a, b] => if f = 78 then px_pair 6 a b L else if f = 88 then px_pair 7 a b L else if f = 83 then px_pair 8 a b L else if f = 68 then px_dot a b L
        else if f = 77 then (if a.length = 2 ∧ b.length = 2 then some (a ++ b, L) else none) else none
    | _ => none
def px_dig (c : Int32) : Bool := decide (48 ≤ c) && decide (c ≤ 57)
def px_small (c : Int32) : Bool := decide (97 ≤ c) && decide (c ≤ 122)
def px_plc (c : Int32) : Bool := decide (120 ≤ c) && decide (c ≤ 122)
def px_isfn (c : Int32) : Bool := c == 65 || c == 70 || c == 78 || c == 88 || c == 83 || c == 68 || c == 86 || c == 77
def px_given (c : Int32) : Bool := px_plc c || c == 116 || c == 99
def px_ix (c : Int32) : Nat := (c - 97).toNatClampNeg
def px_letter (vars : Nat → Option px_V) (c : Int32) (L : px_L) : Option (px_V × px_L) :=
  if c = 120 then px_puts L [(1, 0, 0)] else if c = 121 then px_puts L [(1, 1, 0)] else if c = 116 then px_puts L [(1, 2, 0)]
  else if c = 99 then px_puts L [(1, 3, 0), (1, 4, 0), (1, 5, 0)]
  else (vars (px_ix c)).map fun v => (v, L)
section PX
variable (ch : Nat → Int32)
def px_digs : Nat → Nat → Int32 → Int32 → Nat × Int32 × Int32
  | 0, at_, a, s => (at_, a, s)
  | n + 1, at_, a, s => if px_dig (ch at_) = true then px_digs n (at_ + 1) (a * 10 + (ch at_ - 48)) (s * 10) else (at_, a, s)
def px_const (at_ : Nat) : Option (Int32 × Nat) :=
  if ch (px_digs ch 4 at_ 0 1).1 = 46 then
    (if (px_digs ch 4 ((px_digs ch 4 at_ 0 1).1 + 1) 0 1).1 = (px_digs ch 4 at_ 0 1).1 + 1 then none
     else some ((px_digs ch 4 at_ 0 1).2.1 * 65536 + (px_digs ch 4 ((px_digs ch 4 at_ 0 1).1 + 1) 0 1).2.1 * 65536 / (px_digs ch 4 ((px_digs ch 4 at_ 0 1).1 + 1) 0 1).2.2, (px_digs ch 4 ((px_digs ch 4 at_ 0 1).1 + 1) 0 1).1))
  else some ((px_digs ch 4 at_ 0 1).2.1 * 65536, (px_digs ch 4 at_ 0 1).1)
def px_places : Nat → Nat → List Nat
  | 0, _ => []
  | n + 1, at_ => if px_plc (ch at_) = true then (ch at_ - 120).toNatClampNeg :: px_places n (at_ + 1) else []
def px_pick (v : px_V) (at_ : Nat) : Option (px_V × Nat) :=
  if ch at_ = 46 then
    (if v.length = 4 ∨ px_places ch 3 (at_ + 1) = [] ∨ (px_places ch 3 (at_ + 1)).any (fun i => decide (v.length ≤ i)) = true then none
     else some ((px_places ch 3 (at_ + 1)).map (fun i => v.getD i 0), at_ + 1 + (px_places ch 3 (at_ + 1)).length))
  else some (v, at_)
def px_signs : Nat → Nat → Nat → Nat × Nat
  | 0, at_, k => (k, at_)
  | n + 1, at_, k => if ch at_ = 45 then px_signs n (at_ + 1) (k + 1) else (k, at_)
def px_negs : Nat → px_V → px_L → Option (px_V × px_L)
  | 0, v, L => some (v, L)
  | k + 1, v, L => (px_each 9 v L).bind fun r => px_negs k r.1 r.2
abbrev px_P : Type := Nat → px_L → Option (px_V × Nat × px_L)
def px_args (inner : px_P) : Nat → List px_V → Nat → px_L → Option (List px_V × Nat × px_L)
  | 0, _, _, _ => none
  | n + 1, acc, at_, L => (inner at_ L).bind fun r => if ch r.2.1 = 44 then px_args inner n (acc ++ [r.1]) (r.2.1 + 1) r.2.2
      else if ch r.2.1 = 41 then some (acc ++ [r.1], r.2.1 + 1, r.2.2) else none
variable (vars : Nat → Option px_V)
def px_part (inner : px_P) : px_P := fun at_ L =>
  if px_small (ch at_) = true then (px_letter vars (ch at_) L).bind fun r => some (r.1, at_ + 1, r.2)
  else if ch at_ = 40 then (inner (at_ + 1) L).bind fun r => if ch r.2.1 = 41 then some (r.1, r.2.1 + 1, r.2.2) else none
  else if px_isfn (ch at_) = true ∧ ch (at_ + 1) = 40 then (px_args ch inner 161 [] (at_ + 2) L).bind fun r => (px_fn (ch at_) r.1 r.2.2).bind fun q => some (q.1, r.2.1, q.2)
  else none
def px_core (inner : px_P) : px_P := fun at_ L =>
  if px_dig (ch at_) = true then (px_const ch at_).bind fun x => (px_put L (0, x.1, 0)).bind fun r => some ([r.1], x.2, r.2)
  else (px_part ch vars inner at_ L).bind fun r => (px_pick ch r.1 r.2.1).bind fun q => some (q.1, q.2, r.2.2)
def px_unit (inner : px_P) : px_P := fun at_ L =>
  (px_core ch vars inner (px_signs ch 160 at_ 0).2 L).bind fun r => (px_negs (px_signs ch 160 at_ 0).1 r.1 r.2.2).bind fun q => some (q.1, r.2.1, q.2)
def px_prodL (inner : px_P) : Nat → px_V → Nat → px_L → Option (px_V × Nat × px_L)
  | 0, _, _, _ => none
  | n + 1, v, at_, L => if ch at_ = 42 ∨ ch at_ = 47 then (px_unit ch vars inner (at_ + 1) L).bind fun r => (px_bin (ch at_) v r.1 r.2.2).bind fun q => px_prodL inner n q.1 r.2.1 q.2
      else some (v, at_, L)
def px_prod (inner : px_P) : px_P := fun at_ L => (px_unit ch vars inner at_ L).bind fun r => px_prodL ch vars inner 160 r.1 r.2.1 r.2.2
def px_sumL (inner : px_P) : Nat → px_V → Nat → px_L → Option (px_V × Nat × px_L)
  | 0, _, _, _ => none
  | n + 1, v, at_, L => if ch at_ = 43 ∨ ch at_ = 45 then (px_prod ch vars inner (at_ + 1) L).bind fun r => (px_bin (ch at_) v r.1 r.2.2).bind fun q => px_sumL inner n q.1 r.2.1 q.2
      else some (v, at_, L)
def px_sum (inner : px_P) : px_P := fun at_ L => (px_prod ch vars inner at_ L).bind fun r => px_sumL ch vars inner 160 r.1 r.2.1 r.2.2
def px_sumD : Nat → px_P
  | 0 => px_sum ch vars (fun _ _ => none)
  | d + 1 => px_sum ch vars (px_sumD d)
end PX
abbrev px_R : Type := px_V × px_L × (Nat → Option px_V)
def px_set (vars : Nat → Option px_V) (k : Nat) (v : px_V) : Nat → Option px_V := fun j => if j = k then some v else vars j
def px_asg (ch : Nat → Int32) (at_ : Nat) : Bool := px_small (ch at_) && (ch (at_ + 1) == 61)
def px_fin (ch : Nat → Int32) (len : Nat) (at_ : Nat) (vars : Nat → Option px_V) (L : px_L) : Option px_R :=
  (px_sumD ch vars 5 at_ L).bind fun x => if x.2.1 = len ∧ x.1.length = 3 then some (x.1, x.2.2, vars) else none
def px_prog (ch : Nat → Int32) (len : Nat) : Nat → Nat → (Nat → Option px_V) → px_L → Option px_R
  | 0, at_, vars, L => px_fin ch len at_ vars L
  | n + 1, at_, vars, L => if px_asg ch at_ = true then
      (if px_given (ch at_) = true then none else (px_sumD ch vars 5 (at_ + 2) L).bind fun x => if ch x.2.1 = 59 then px_prog ch len n (x.2.1 + 1) (px_set vars (px_ix (ch at_)) x.1) x.2.2 else none)
      else px_fin ch len at_ vars L
/-! the reference's run over its stacks (tops first) -/
def px_unneg : List (Int32 × Nat) → px_V → px_L → Option (px_V × px_L × List (Int32 × Nat))
  | [], v, L => some (v, L, [])
  | w :: ws, v, L => if w.1 = 126 then (px_each 9 v L).bind fun r => px_unneg ws r.1 r.2 else some (v, L, w :: ws)
def px_two : List px_V → Option (px_V × px_V × List px_V)
  | b :: a :: r => some (a, b, r)
  | _ => none
def px_settle (all : Bool) : List (Int32 × Nat) → List px_V → px_L → Option (List (Int32 × Nat) × List px_V × px_L)
  | [], vs, L => some ([], vs, L)
  | w :: ws, vs, L => if w.1 = 42 ∨ w.1 = 47 ∨ (all = true ∧ (w.1 = 43 ∨ w.1 = 45)) then
      (px_two vs).bind fun z => (px_bin w.1 z.1 z.2.1 L).bind fun q => px_settle all ws (q.1 :: z.2.2) q.2
      else some (w :: ws, vs, L)
def px_k {α ρ : Type} (x : Option α) (f : α → Option (Option ρ)) : Option (Option ρ) := match x with
  | none => some none
  | some a => f a
def px_close (q : List (Int32 × Nat) × List px_V × px_L) : Option (px_V × List (Int32 × Nat) × List px_V × px_L) := match q with
  | ([], _, _) => none
  | (w :: ws, vs, L) => if w.1 = 40 then (match vs with | [] => none | v :: r => some (v, ws, r, L))
      else if px_isfn w.1 = true ∧ w.2 ≤ vs.length then (px_fn w.1 (vs.take w.2).reverse L).bind fun r => some (r.1, ws, vs.drop w.2, r.2)
      else none
def px_end (tg : Option Nat) (vars : Nat → Option px_V) (q : List (Int32 × Nat) × List px_V × px_L) : Option px_R := match q with
  | ([], [v], L) => if tg = none ∧ v.length = 3 then some (v, L, vars) else none
  | _ => none
def px_comma : List (Int32 × Nat) → Option (List (Int32 × Nat))
  | [] => none
  | w :: ws => if px_isfn w.1 = true then some ((w.1, w.2 + 1) :: ws) else none
def px_semi : Option Nat → List (Int32 × Nat) × List px_V × px_L → Option (Nat × px_V × px_L)
  | some l, ([], [v], L) => some (l, v, L)
  | _, _ => none
def px_run (ch : Nat → Int32) (len : Nat) : Nat → Bool → Nat → List px_V → List (Int32 × Nat) → Nat → Option Nat → (Nat → Option px_V) → px_L → Option (Option px_R)
  | 0, _, _, _, _, _, _, _, _ => none
  | n + 1, false, at_, vs, ws, op, tg, vars, L =>
    if ch at_ = 45 then px_run ch len n false (at_ + 1) vs ((126, 1) :: ws) op tg vars L
    else if ch at_ = 40 then (if 5 ≤ op then some none else px_run ch len n false (at_ + 1) vs ((40, 1) :: ws) (op + 1) tg vars L)
    else if px_isfn (ch at_) = true ∧ ch (at_ + 1) = 40 then (if 5 ≤ op then some none else px_run ch len n false (at_ + 2) vs ((ch at_, 1) :: ws) (op + 1) tg vars L)
    else if px_dig (ch at_) = true then px_k (px_const ch at_) fun x => if px_dig (ch x.2) = true ∨ ch x.2 = 46 then some none else
      px_k (px_put L (0, x.1, 0)) fun r => px_k (px_unneg ws [r.1] r.2) fun q => px_run ch len n true x.2 (q.1 :: vs) q.2.2 op tg vars q.2.1
    else if px_small (ch at_) = true then px_k (px_letter vars (ch at_) L) fun r => px_k (px_pick ch r.1 (at_ + 1)) fun s => px_k (px_unneg ws s.1 r.2) fun q =>
      px_run ch len n true s.2 (q.1 :: vs) q.2.2 op tg vars q.2.1
    else some none
  | n + 1, true, at_, vs, ws, op, tg, vars, L =>
    if len ≤ at_ then px_k (px_settle true ws vs L) fun q => some (px_end tg vars q)
    else if ch at_ = 41 then px_k (px_settle true ws vs L) fun q => px_k (px_close q) fun z => px_k (px_pick ch z.1 (at_ + 1)) fun s => px_k (px_unneg z.2.1 s.1 z.2.2.2) fun y =>
      px_run ch len n true s.2 (y.1 :: z.2.2.1) y.2.2 (op - 1) tg vars y.2.1
    else if ch at_ = 43 ∨ ch at_ = 45 then px_k (px_settle true ws vs L) fun q => px_run ch len n false (at_ + 1) q.2.1 ((ch at_, 1) :: q.1) op tg vars q.2.2
    else if ch at_ = 42 ∨ ch at_ = 47 then px_k (px_settle false ws vs L) fun q => px_run ch len n false (at_ + 1) q.2.1 ((ch at_, 1) :: q.1) op tg vars q.2.2
    else if ch at_ = 44 then px_k (px_settle true ws vs L) fun q => px_k (px_comma q.1) fun ws' => px_run ch len n false (at_ + 1) q.2.1 ws' op tg vars q.2.2
    else if ch at_ = 59 then px_k (px_settle true ws vs L) fun q => px_k (px_semi tg q) fun z => if px_asg ch (at_ + 1) = true then
        (if px_given (ch (at_ + 1)) = true then some none else px_run ch len n false (at_ + 3) [] [] op (some (px_ix (ch (at_ + 1)))) (px_set vars z.1 z.2.1) z.2.2)
        else px_run ch len n false (at_ + 1) [] [] op none (px_set vars z.1 z.2.1) z.2.2
    else some none
end
section
/-! facts: every piece takes characters; where it ends; the simulation of the grammar by the reference's stacks -/
theorem pxf_isfn {c : Int32} (h : px_isfn c = true) : c = 65 ∨ c = 70 ∨ c = 78 ∨ c = 88 ∨ c = 83 ∨ c = 68 ∨ c = 86 ∨ c = 77 := by
  simpa [px_isfn, or_assoc] using h
theorem pxf_dig_fn {c : Int32} (hd : px_dig c = true) : ¬ px_isfn c = true := by
  intro h
  rcases pxf_isfn h with rfl | rfl | rfl | rfl | rfl | rfl | rfl | rfl <;> exact absurd hd (by decide)
theorem pxf_small_fn {c : Int32} (hd : px_small c = true) : ¬ px_isfn c = true := by
  intro h
  rcases pxf_isfn h with rfl | rfl | rfl | rfl | rfl | rfl | rfl | rfl <;> exact absurd hd (by decide)
theorem pxf_small_dig {c : Int32} (hd : px_small c = true) : ¬ px_dig c = true := by
  intro h
  simp only [px_small, px_dig, Bool.and_eq_true, decide_eq_true_eq] at hd h
  exact absurd (Int32.le_trans hd.1 h.2) (by decide)
theorem pxf_dig_ne {c d : Int32} (hd : px_dig c = true) (h : px_dig d = false) : c ≠ d := by
  intro e
  rw [e, h] at hd
  cases hd
theorem pxf_small_ne {c d : Int32} (hd : px_small c = true) (h : px_small d = false) : c ≠ d := by
  intro e
  rw [e, h] at hd
  cases hd
theorem pxf_fn_ne {c d : Int32} (hd : px_isfn c = true) (h : px_isfn d = false) : c ≠ d := by
  intro e
  rw [e, h] at hd
  cases hd
section PXF
variable {ch : Nat → Int32} {len : Nat}
theorem pxf_lt (hz : ∀ k, len ≤ k → ch k = 0) {k : Nat} (h : ch k ≠ 0) : k < len := by
  rcases Nat.lt_or_ge k len with h1 | h1
  · exact h1
  · exact absurd (hz k h1) h
theorem pxf_digl (hz : ∀ k, len ≤ k → ch k = 0) {k : Nat} (h : px_dig (ch k) = true) : k < len := pxf_lt hz (pxf_dig_ne h (by decide))
theorem pxf_plcl (hz : ∀ k, len ≤ k → ch k = 0) {k : Nat} (h : px_plc (ch k) = true) : k < len := pxf_lt hz (fun e => by rw [e] at h; exact absurd h (by decide))
theorem pxf_smalll (hz : ∀ k, len ≤ k → ch k = 0) {k : Nat} (h : px_small (ch k) = true) : k < len := pxf_lt hz (pxf_small_ne h (by decide))
theorem pxf_eql (hz : ∀ k, len ≤ k → ch k = 0) {k : Nat} {c : Int32} (h : ch k = c) (hc : c ≠ 0) : k < len := pxf_lt hz (by rw [h]; exact hc)
theorem pxf_digs (hz : ∀ k, len ≤ k → ch k = 0) : ∀ (n at_ : Nat) (a s : Int32), at_ ≤ (px_digs ch n at_ a s).1 ∧ (at_ ≤ len → (px_digs ch n at_ a s).1 ≤ len) := by
  intro n
  induction n with
  | zero => intro at_ a s; exact ⟨Nat.le_refl _, fun h => h⟩
  | succ n ih =>
    intro at_ a s
    rw [px_digs]
    split
    · rename_i h
      have h1 := ih (at_ + 1) (a * 10 + (ch at_ - 48)) (s * 10)
      have h2 := pxf_digl hz h
      exact ⟨by omega, fun _ => h1.2 (by omega)⟩
    · exact ⟨Nat.le_refl _, fun h => h⟩
theorem pxf_digs1 (hz : ∀ k, len ≤ k → ch k = 0) {at_ : Nat} (h : px_dig (ch at_) = true) (n : Nat) (a s : Int32) : at_ < (px_digs ch (n + 1) at_ a s).1 := by
  rw [px_digs, if_pos h]
  exact (pxf_digs hz n (at_ + 1) _ _).1
theorem pxf_const (hz : ∀ k, len ≤ k → ch k = 0) {at_ : Nat} (hd : px_dig (ch at_) = true) {x : Int32 × Nat} (h : px_const ch at_ = some x) : at_ < x.2 ∧ x.2 ≤ len := by
  have h1 := pxf_digs1 hz hd 3 0 1
  have h2 := (pxf_digs hz 4 at_ 0 1).2 (Nat.le_of_lt (pxf_digl hz hd))
  have h1 : at_ < (px_digs ch 4 at_ 0 1).1 := h1
  unfold px_const at h
  generalize px_digs ch 4 at_ 0 1 = w at h h1 h2
  have h3 := pxf_digs hz 4 (w.1 + 1) 0 1
  generalize px_digs ch 4 (w.1 + 1) 0 1 = f at h h3
  split at h
  · rename_i hp
    have h4 := pxf_eql hz hp (by decide)
    split at h
    · cases h
    · cases h
      exact ⟨by show at_ < f.1; omega, h3.2 (by omega)⟩
  · cases h
    exact ⟨h1, h2⟩
theorem pxf_places (hz : ∀ k, len ≤ k → ch k = 0) : ∀ (n at_ : Nat), at_ ≤ len → at_ + (px_places ch n at_).length ≤ len := by
  intro n
  induction n with
  | zero => intro at_ h; exact h
  | succ n ih =>
    intro at_ h
    rw [px_places]
    split
    · rename_i hp
      have h1 := pxf_plcl hz hp
      have h2 := ih (at_ + 1) (by omega)
      rw [List.length_cons]
      omega
    · exact h
theorem pxf_pick (hz : ∀ k, len ≤ k → ch k = 0) {v : px_V} {at_ : Nat} (hl : at_ ≤ len) {x : px_V × Nat} (h : px_pick ch v at_ = some x) : at_ ≤ x.2 ∧ x.2 ≤ len := by
  unfold px_pick at h
  split at h
  · rename_i hp
    have h1 := pxf_eql hz hp (by decide)
    have h2 := pxf_places hz 3 (at_ + 1) (by omega)
    split at h
    · cases h
    · cases h
      exact ⟨by show at_ ≤ at_ + 1 + _; omega, h2⟩
  · cases h
    exact ⟨Nat.le_refl _, hl⟩
def px_ok1 (len : Nat) (P : px_P) : Prop := ∀ at_ L x, P at_ L = some x → at_ < x.2.1 ∧ x.2.1 ≤ len
def px_nop (c : Int32) : Prop := c ≠ 42 ∧ c ≠ 47 ∧ c ≠ 43 ∧ c ≠ 45
def px_ok2 (ch : Nat → Int32) (len : Nat) (P : px_P) : Prop := px_ok1 len P ∧ ∀ at_ L x, P at_ L = some x → px_nop (ch x.2.1)
theorem pxf_args (hz : ∀ k, len ≤ k → ch k = 0) {inner : px_P} (hin : px_ok1 len inner) : ∀ (n : Nat) (acc : List px_V) (at_ : Nat) (L : px_L) (x : List px_V × Nat × px_L), px_args ch inner n acc at_ L = some x → at_ < x.2.1 ∧ x.2.1 ≤ len := by
  intro n
  induction n with
  | zero => intro acc at_ L x h; cases h
  | succ n ih =>
    intro acc at_ L x h
    rw [px_args] at h
    obtain ⟨r, hr, h⟩ := Option.bind_eq_some_iff.mp h
    have h1 := hin _ _ _ hr
    split at h
    · have h2 := ih _ _ _ _ h
      omega
    · split at h
      · rename_i hp
        have h3 := pxf_eql hz hp (by decide)
        cases h
        exact ⟨by show at_ < r.2.1 + 1; omega, h3⟩
      · cases h
variable {vars : Nat → Option px_V}
theorem pxf_part (hz : ∀ k, len ≤ k → ch k = 0) {inner : px_P} (hin : px_ok1 len inner) : px_ok1 len (px_part ch vars inner) := by
  intro at_ L x h
  unfold px_part at h
  split at h
  · rename_i hs
    have h1 := pxf_smalll hz hs
    obtain ⟨r, hr, h⟩ := Option.bind_eq_some_iff.mp h
    cases h
    exact ⟨by show at_ < at_ + 1; omega, h1⟩
  · split at h
    · obtain ⟨r, hr, h⟩ := Option.bind_eq_some_iff.mp h
      have h1 := hin _ _ _ hr
      split at h
      · rename_i hp
        have h3 := pxf_eql hz hp (by decide)
        cases h
        exact ⟨by show at_ < r.2.1 + 1; omega, h3⟩
      · cases h
    · split at h
      · obtain ⟨r, hr, h⟩ := Option.bind_eq_some_iff.mp h
        have h1 := pxf_args hz hin _ _ _ _ _ hr
        obtain ⟨q, hq, h⟩ := Option.bind_eq_some_iff.mp h
        cases h
        exact ⟨by show at_ < r.2.1; omega, h1.2⟩
      · cases h
theorem pxf_core (hz : ∀ k, len ≤ k → ch k = 0) {inner : px_P} (hin : px_ok1 len inner) : px_ok1 len (px_core ch vars inner) := by
  intro at_ L x h
  unfold px_core at h
  split at h
  · rename_i hd
    obtain ⟨r, hr, h⟩ := Option.bind_eq_some_iff.mp h
    obtain ⟨q, hq, h⟩ := Option.bind_eq_some_iff.mp h
    cases h
    exact pxf_const hz hd hr
  · obtain ⟨r, hr, h⟩ := Option.bind_eq_some_iff.mp h
    obtain ⟨q, hq, h⟩ := Option.bind_eq_some_iff.mp h
    cases h
    have h1 := pxf_part hz hin _ _ _ hr
    have h2 := pxf_pick hz h1.2 hq
    exact ⟨by show at_ < q.2; omega, h2.2⟩
theorem pxf_signs (hz : ∀ k, len ≤ k → ch k = 0) : ∀ (n at_ k : Nat), at_ ≤ (px_signs ch n at_ k).2 ∧ (len ≤ n + at_ → ch (px_signs ch n at_ k).2 ≠ 45) := by
  intro n
  induction n with
  | zero => intro at_ k; exact ⟨Nat.le_refl _, fun h => by rw [px_signs, hz _ (by omega)]; decide⟩
  | succ n ih =>
    intro at_ k
    rw [px_signs]
    split
    · have h1 := ih (at_ + 1) (k + 1)
      exact ⟨by omega, fun h => h1.2 (by omega)⟩
    · rename_i h
      exact ⟨Nat.le_refl _, fun _ => h⟩
theorem pxf_unit (hz : ∀ k, len ≤ k → ch k = 0) {inner : px_P} (hin : px_ok1 len inner) : px_ok1 len (px_unit ch vars inner) := by
  intro at_ L x h
  unfold px_unit at h
  obtain ⟨r, hr, h⟩ := Option.bind_eq_some_iff.mp h
  obtain ⟨q, hq, h⟩ := Option.bind_eq_some_iff.mp h
  cases h
  have h1 := pxf_core hz hin _ _ _ hr
  have h2 := (pxf_signs hz 160 at_ 0).1
  exact ⟨by show at_ < r.2.1; omega, h1.2⟩
theorem pxf_prodL (hz : ∀ k, len ≤ k → ch k = 0) {inner : px_P} (hin : px_ok1 len inner) : ∀ (n : Nat) (v : px_V) (at_ : Nat) (L : px_L) (x : px_V × Nat × px_L), at_ ≤ len → px_prodL ch vars inner n v at_ L = some x → at_ ≤ x.2.1 ∧ x.2.1 ≤ len ∧ ch x.2.1 ≠ 42 ∧ ch x.2.1 ≠ 47 := by
  intro n
  induction n with
  | zero => intro v at_ L x hl h; cases h
  | succ n ih =>
    intro v at_ L x hl h
    rw [px_prodL] at h
    split at h
    · obtain ⟨r, hr, h⟩ := Option.bind_eq_some_iff.mp h
      obtain ⟨q, hq, h⟩ := Option.bind_eq_some_iff.mp h
      have h1 := pxf_unit hz hin _ _ _ hr
      have h2 := ih _ _ _ _ h1.2 h
      exact ⟨by omega, h2.2⟩
    · rename_i hn
      cases h
      exact ⟨Nat.le_refl _, hl, fun e => hn (Or.inl e), fun e => hn (Or.inr e)⟩
theorem pxf_prod (hz : ∀ k, len ≤ k → ch k = 0) {inner : px_P} (hin : px_ok1 len inner) {at_ : Nat} {L : px_L} {x : px_V × Nat × px_L} (h : px_prod ch vars inner at_ L = some x) : at_ < x.2.1 ∧ x.2.1 ≤ len ∧ ch x.2.1 ≠ 42 ∧ ch x.2.1 ≠ 47 := by
  unfold px_prod at h
  obtain ⟨r, hr, h⟩ := Option.bind_eq_some_iff.mp h
  have h1 := pxf_unit hz hin _ _ _ hr
  have h2 := pxf_prodL hz hin _ _ _ _ _ h1.2 h
  exact ⟨by omega, h2.2⟩
theorem pxf_sumL (hz : ∀ k, len ≤ k → ch k = 0) {inner : px_P} (hin : px_ok1 len inner) : ∀ (n : Nat) (v : px_V) (at_ : Nat) (L : px_L) (x : px_V × Nat × px_L), at_ ≤ len → ch at_ ≠ 42 → ch at_ ≠ 47 → px_sumL ch vars inner n v at_ L = some x → at_ ≤ x.2.1 ∧ x.2.1 ≤ len ∧ px_nop (ch x.2.1) := by
  intro n
  induction n with
  | zero => intro v at_ L x hl _ _ h; cases h
  | succ n ih =>
    intro v at_ L x hl h42 h47 h
    rw [px_sumL] at h
    split at h
    · obtain ⟨r, hr, h⟩ := Option.bind_eq_some_iff.mp h
      obtain ⟨q, hq, h⟩ := Option.bind_eq_some_iff.mp h
      have h1 := pxf_prod hz hin hr
      have h2 := ih _ _ _ _ h1.2.1 h1.2.2.1 h1.2.2.2 h
      exact ⟨by omega, h2.2⟩
    · rename_i hn
      cases h
      exact ⟨Nat.le_refl _, hl, h42, h47, fun e => hn (Or.inl e), fun e => hn (Or.inr e)⟩
theorem pxf_sum (hz : ∀ k, len ≤ k → ch k = 0) {inner : px_P} (hin : px_ok1 len inner) : px_ok2 ch len (px_sum ch vars inner) := by
  have key : ∀ at_ L x, px_sum ch vars inner at_ L = some x → at_ < x.2.1 ∧ x.2.1 ≤ len ∧ px_nop (ch x.2.1) := by
    intro at_ L x h
    unfold px_sum at h
    obtain ⟨r, hr, h⟩ := Option.bind_eq_some_iff.mp h
    have h1 := pxf_prod hz hin hr
    have h2 := pxf_sumL hz hin _ _ _ _ _ h1.2.1 h1.2.2.1 h1.2.2.2 h
    exact ⟨by omega, h2.2⟩
  exact ⟨fun at_ L x h => ⟨(key _ _ _ h).1, (key _ _ _ h).2.1⟩, fun at_ L x h => (key _ _ _ h).2.2⟩
theorem pxf_sumD (hz : ∀ k, len ≤ k → ch k = 0) : ∀ d, px_ok2 ch len (px_sumD ch vars d) := by
  intro d
  induction d with
  | zero => exact pxf_sum hz (fun _ _ _ h => by cases h)
  | succ d ih => exact pxf_sum hz ih.1
end PXF
/-! what the run comes to -/
def px_to {α ρ : Type} (x : Option α) (r : Option ρ) (P : α → Prop) : Prop := match x with
  | none => r = none
  | some a => P a
theorem px_to_bind {α β ρ : Type} {x : Option α} {f : α → Option β} {r : Option ρ} {P : β → Prop} : px_to (x.bind f) r P ↔ px_to x r (fun a => px_to (f a) r P) := by
  cases x <;> exact Iff.rfl
theorem px_to_imp {α ρ : Type} {x : Option α} {r : Option ρ} {P P' : α → Prop} (h : px_to x r P) (hi : ∀ a, x = some a → P a → P' a) : px_to x r P' := by
  cases x with
  | none => exact h
  | some a => exact hi a rfl h
theorem px_k_ex {α ρ : Type} {x : Option α} {f : Nat → α → Option (Option ρ)} {r : Option ρ} (h : px_to x r (fun a => ∃ n, f n a = some r)) : ∃ n, px_k x (f n) = some r := by
  cases x with
  | none => exact ⟨0, by have h : r = none := h; rw [h]; rfl⟩
  | some a => exact h
def px_Ev (ch : Nat → Int32) (len : Nat) (m : Bool) (at_ : Nat) (vs : List px_V) (ws : List (Int32 × Nat)) (op : Nat) (tg : Option Nat) (vars : Nat → Option px_V) (L : px_L) (r : Option px_R) : Prop :=
  ∃ n, px_run ch len n m at_ vs ws op tg vars L = some r
def px_b0 (ws : List (Int32 × Nat)) : Prop := ∀ w, ws.head? = some w → w.1 ≠ 126
def px_b1 (ws : List (Int32 × Nat)) : Prop := ∀ w, ws.head? = some w → w.1 ≠ 126 ∧ w.1 ≠ 42 ∧ w.1 ≠ 47
def px_b2 (ws : List (Int32 × Nat)) : Prop := ∀ w, ws.head? = some w → w.1 ≠ 126 ∧ w.1 ≠ 42 ∧ w.1 ≠ 47 ∧ w.1 ≠ 43 ∧ w.1 ≠ 45
theorem px_b2.b1 {ws : List (Int32 × Nat)} (h : px_b2 ws) : px_b1 ws := fun w hw => ⟨(h w hw).1, (h w hw).2.1, (h w hw).2.2.1⟩
theorem px_b1.b0 {ws : List (Int32 × Nat)} (h : px_b1 ws) : px_b0 ws := fun w hw => (h w hw).1
theorem px_settle_f {ws : List (Int32 × Nat)} (h : px_b1 ws) (vs : List px_V) (L : px_L) : px_settle false ws vs L = some (ws, vs, L) := by
  cases ws with
  | nil => rfl
  | cons w ws =>
    have hw := h w rfl
    rw [px_settle, if_neg]
    rintro (e | e | e)
    · exact hw.2.1 e
    · exact hw.2.2 e
    · exact absurd e.1 (by decide)
theorem px_settle_t {ws : List (Int32 × Nat)} (h : px_b2 ws) (all : Bool) (vs : List px_V) (L : px_L) : px_settle all ws vs L = some (ws, vs, L) := by
  cases ws with
  | nil => rfl
  | cons w ws =>
    have hw := h w rfl
    rw [px_settle, if_neg]
    rintro (e | e | ⟨-, e | e⟩)
    · exact hw.2.1 e
    · exact hw.2.2.1 e
    · exact hw.2.2.2.1 e
    · exact hw.2.2.2.2 e
theorem px_unneg_rep {ws : List (Int32 × Nat)} (hb : px_b0 ws) : ∀ (k : Nat) (v : px_V) (L : px_L), px_unneg (List.replicate k (126, 1) ++ ws) v L = (px_negs k v L).map (fun q => (q.1, q.2, ws)) := by
  intro k
  induction k with
  | zero =>
    intro v L
    cases ws with
    | nil => rfl
    | cons w ws =>
      show px_unneg (w :: ws) v L = some (v, L, w :: ws)
      rw [px_unneg, if_neg (hb w rfl)]
  | succ k ih =>
    intro v L
    show px_unneg ((126, 1) :: (List.replicate k (126, 1) ++ ws)) v L = _
    rw [px_unneg, if_pos rfl, px_negs]
    cases px_each 9 v L with
    | none => rfl
    | some r => exact ih r.1 r.2
theorem px_to_unneg {ρ : Type} {ws : List (Int32 × Nat)} (hb : px_b0 ws) {k : Nat} {v : px_V} {L : px_L} {r : Option ρ} {P : px_V × px_L × List (Int32 × Nat) → Prop} (h : px_to (px_negs k v L) r (fun z => P (z.1, z.2, ws))) : px_to (px_unneg (List.replicate k (126, 1) ++ ws) v L) r P := by
  rw [px_unneg_rep hb]
  cases hn : px_negs k v L with
  | none => rw [hn] at h; exact h
  | some z => rw [hn] at h; exact h
end
section
/-! the grammar against the reference's run -/
section PXS
variable {ch : Nat → Int32} {len : Nat} {vs : List px_V} {ws : List (Int32 × Nat)} {op : Nat} {tg : Option Nat} {vars : Nat → Option px_V} {L : px_L} {r : Option px_R} {at_ : Nat}
theorem ev_neg (h : ch at_ = 45) (e : px_Ev ch len false (at_ + 1) vs ((126, 1) :: ws) op tg vars L r) : px_Ev ch len false at_ vs ws op tg vars L r := by
  obtain ⟨n, e⟩ := e
  exact ⟨n + 1, by rw [px_run, if_pos h]; exact e⟩
theorem ev_open (h : ch at_ = 40) (ho : op < 5) (e : px_Ev ch len false (at_ + 1) vs ((40, 1) :: ws) (op + 1) tg vars L r) : px_Ev ch len false at_ vs ws op tg vars L r := by
  obtain ⟨n, e⟩ := e
  exact ⟨n + 1, by rw [px_run, if_neg (by rw [h]; decide), if_pos h, if_neg (by omega)]; exact e⟩
theorem ev_open5 (h : ch at_ = 40) (ho : 5 ≤ op) : px_Ev ch len false at_ vs ws op tg vars L none :=
  ⟨0 + 1, by rw [px_run, if_neg (by rw [h]; decide), if_pos h, if_pos ho]⟩
theorem ev_fn (h : px_isfn (ch at_) = true ∧ ch (at_ + 1) = 40) (ho : op < 5) (e : px_Ev ch len false (at_ + 2) vs ((ch at_, 1) :: ws) (op + 1) tg vars L r) : px_Ev ch len false at_ vs ws op tg vars L r := by
  obtain ⟨n, e⟩ := e
  exact ⟨n + 1, by rw [px_run, if_neg (pxf_fn_ne h.1 (by decide)), if_neg (pxf_fn_ne h.1 (by decide)), if_pos h, if_neg (by omega)]; exact e⟩
theorem ev_fn5 (h : px_isfn (ch at_) = true ∧ ch (at_ + 1) = 40) (ho : 5 ≤ op) : px_Ev ch len false at_ vs ws op tg vars L none :=
  ⟨0 + 1, by rw [px_run, if_neg (pxf_fn_ne h.1 (by decide)), if_neg (pxf_fn_ne h.1 (by decide)), if_pos h, if_pos ho]⟩
theorem ev_bad (h1 : ch at_ ≠ 45) (h2 : ch at_ ≠ 40) (h3 : ¬ (px_isfn (ch at_) = true ∧ ch (at_ + 1) = 40)) (h4 : ¬ px_dig (ch at_) = true) (h5 : ¬ px_small (ch at_) = true) : px_Ev ch len false at_ vs ws op tg vars L none :=
  ⟨0 + 1, by rw [px_run, if_neg h1, if_neg h2, if_neg h3, if_neg h4, if_neg h5]⟩
theorem ev_junk (hl : at_ < len) (h1 : ch at_ ≠ 41) (h2 : px_nop (ch at_)) (h3 : ch at_ ≠ 44) (h4 : ch at_ ≠ 59) (e : px_Ev ch len true at_ vs ws op tg vars L r) : r = none := by
  obtain ⟨n, e⟩ := e
  cases n with
  | zero => rw [px_run] at e; cases e
  | succ n =>
    rw [px_run, if_neg (by omega), if_neg h1, if_neg (fun z => z.elim h2.2.2.1 h2.2.2.2), if_neg (fun z => z.elim h2.1 h2.2.1), if_neg h3, if_neg h4] at e
    exact (Option.some.inj e).symm
theorem ev_num (hz : ∀ k, len ≤ k → ch k = 0) {k : Nat} (hb : px_b0 ws) (hd : px_dig (ch at_) = true)
    (h : px_to (px_const ch at_) r fun x => px_to (px_put L (0, x.1, 0)) r fun y => px_to (px_negs k [y.1] y.2) r fun z => px_Ev ch len true x.2 (z.1 :: vs) ws op tg vars z.2 r) : px_Ev ch len false at_ vs (List.replicate k (126, 1) ++ ws) op tg vars L r := by
  have key : ∃ n, px_k (px_const ch at_) (fun x => if px_dig (ch x.2) = true ∨ ch x.2 = 46 then some none else
      px_k (px_put L (0, x.1, 0)) fun y => px_k (px_unneg (List.replicate k (126, 1) ++ ws) [y.1] y.2) fun q => px_run ch len n true x.2 (q.1 :: vs) q.2.2 op tg vars q.2.1) = some r := by
    refine px_k_ex (f := fun n x => if px_dig (ch x.2) = true ∨ ch x.2 = 46 then some none else
      px_k (px_put L (0, x.1, 0)) fun y => px_k (px_unneg (List.replicate k (126, 1) ++ ws) [y.1] y.2) fun q => px_run ch len n true x.2 (q.1 :: vs) q.2.2 op tg vars q.2.1) (px_to_imp h fun x hx hp => ?_)
    by_cases hj : px_dig (ch x.2) = true ∨ ch x.2 = 46
    · have hr : r = none := by
        have hlt : x.2 < len := hj.elim (fun q => pxf_digl hz q) (fun q => pxf_eql hz q (by decide))
        have hne : ∀ d : Int32, px_dig d = false → d ≠ 46 → ch x.2 ≠ d := fun d d1 d2 => hj.elim (fun q => pxf_dig_ne q d1) (fun q => by rw [q]; exact fun z => d2 z.symm)
        cases hu : px_put L (0, x.1, 0) with
        | none => rw [hu] at hp; exact hp
        | some y =>
          rw [hu] at hp
          have hp : px_to (px_negs k [y.1] y.2) r fun z => px_Ev ch len true x.2 (z.1 :: vs) ws op tg vars z.2 r := hp
          cases hv : px_negs k [y.1] y.2 with
          | none => rw [hv] at hp; exact hp
          | some z =>
            rw [hv] at hp
            exact ev_junk hlt (hne _ (by decide) (by decide)) ⟨hne _ (by decide) (by decide), hne _ (by decide) (by decide), hne _ (by decide) (by decide), hne _ (by decide) (by decide)⟩ (hne _ (by decide) (by decide)) (hne _ (by decide) (by decide)) hp
      exact ⟨0, by rw [if_pos hj, hr]⟩
    · have h2 : ∃ n, px_k (px_put L (0, x.1, 0)) (fun y => px_k (px_unneg (List.replicate k (126, 1) ++ ws) [y.1] y.2) fun q => px_run ch len n true x.2 (q.1 :: vs) q.2.2 op tg vars q.2.1) = some r := by
        refine px_k_ex (f := fun n y => px_k (px_unneg (List.replicate k (126, 1) ++ ws) [y.1] y.2) fun q => px_run ch len n true x.2 (q.1 :: vs) q.2.2 op tg vars q.2.1) (px_to_imp hp fun y hy hp => ?_)
        refine px_k_ex (f := fun n q => px_run ch len n true x.2 (q.1 :: vs) q.2.2 op tg vars q.2.1) (px_to_unneg hb hp)
      obtain ⟨n, e⟩ := h2
      exact ⟨n, by rw [if_neg hj]; exact e⟩
  obtain ⟨n, e⟩ := key
  exact ⟨n + 1, by rw [px_run, if_neg (pxf_dig_ne hd (by decide)), if_neg (pxf_dig_ne hd (by decide)), if_neg (fun q => pxf_dig_fn hd q.1), if_pos hd]; exact e⟩
theorem ev_let {k : Nat} (hb : px_b0 ws) (hd : px_small (ch at_) = true)
    (h : px_to (px_letter vars (ch at_) L) r fun x => px_to (px_pick ch x.1 (at_ + 1)) r fun y => px_to (px_negs k y.1 x.2) r fun z => px_Ev ch len true y.2 (z.1 :: vs) ws op tg vars z.2 r) : px_Ev ch len false at_ vs (List.replicate k (126, 1) ++ ws) op tg vars L r := by
  have key : ∃ n, px_k (px_letter vars (ch at_) L) (fun x => px_k (px_pick ch x.1 (at_ + 1)) fun s => px_k (px_unneg (List.replicate k (126, 1) ++ ws) s.1 x.2) fun q =>
      px_run ch len n true s.2 (q.1 :: vs) q.2.2 op tg vars q.2.1) = some r := by
    refine px_k_ex (f := fun n x => px_k (px_pick ch x.1 (at_ + 1)) fun s => px_k (px_unneg (List.replicate k (126, 1) ++ ws) s.1 x.2) fun q => px_run ch len n true s.2 (q.1 :: vs) q.2.2 op tg vars q.2.1) (px_to_imp h fun x hx hp => ?_)
    refine px_k_ex (f := fun n s => px_k (px_unneg (List.replicate k (126, 1) ++ ws) s.1 x.2) fun q => px_run ch len n true s.2 (q.1 :: vs) q.2.2 op tg vars q.2.1) (px_to_imp hp fun y hy hp => ?_)
    exact px_k_ex (f := fun n q => px_run ch len n true y.2 (q.1 :: vs) q.2.2 op tg vars q.2.1) (px_to_unneg hb hp)
  obtain ⟨n, e⟩ := key
  exact ⟨n + 1, by rw [px_run, if_neg (pxf_small_ne hd (by decide)), if_neg (pxf_small_ne hd (by decide)), if_neg (fun q => pxf_small_fn hd q.1), if_neg (pxf_small_dig hd), if_pos hd]; exact e⟩
/-- a bracket or a function closes -/
theorem ev_close {k : Nat} {w : Int32 × Nat} (hb : px_b0 ws) (hw : px_b2 (w :: (List.replicate k (126, 1) ++ ws))) (hl : at_ < len) (h : ch at_ = 41) {vs' : List px_V}
    (hc : px_to (px_close (w :: (List.replicate k (126, 1) ++ ws), vs, L)) r fun z => z.2.1 = List.replicate k (126, 1) ++ ws ∧ z.2.2.1 = vs' ∧ px_to (px_pick ch z.1 (at_ + 1)) r fun y => px_to (px_negs k y.1 z.2.2.2) r fun x => px_Ev ch len true y.2 (x.1 :: vs') ws (op - 1) tg vars x.2 r) :
    px_Ev ch len true at_ vs (w :: (List.replicate k (126, 1) ++ ws)) op tg vars L r := by
  have key : ∃ n, px_k (px_close (w :: (List.replicate k (126, 1) ++ ws), vs, L)) (fun z => px_k (px_pick ch z.1 (at_ + 1)) fun s => px_k (px_unneg z.2.1 s.1 z.2.2.2) fun y =>
      px_run ch len n true s.2 (y.1 :: z.2.2.1) y.2.2 (op - 1) tg vars y.2.1) = some r := by
    refine px_k_ex (f := fun n z => px_k (px_pick ch z.1 (at_ + 1)) fun s => px_k (px_unneg z.2.1 s.1 z.2.2.2) fun y => px_run ch len n true s.2 (y.1 :: z.2.2.1) y.2.2 (op - 1) tg vars y.2.1) (px_to_imp hc fun z hz hp => ?_)
    obtain ⟨e1, e2, hp⟩ := hp
    refine px_k_ex (f := fun n s => px_k (px_unneg z.2.1 s.1 z.2.2.2) fun y => px_run ch len n true s.2 (y.1 :: z.2.2.1) y.2.2 (op - 1) tg vars y.2.1) (px_to_imp hp fun y hy hp => ?_)
    rw [e1, e2]
    exact px_k_ex (f := fun n q => px_run ch len n true y.2 (q.1 :: vs') q.2.2 (op - 1) tg vars q.2.1) (px_to_unneg hb hp)
  obtain ⟨n, e⟩ := key
  exact ⟨n + 1, by rw [px_run, if_neg (by omega), if_pos h, px_settle_t hw]; exact e⟩
/-- a bracket is left open -/
theorem ev_left {w : Int32 × Nat} (hw : px_b2 (w :: ws)) (h1 : ch at_ ≠ 41) (h2 : px_nop (ch at_)) (h3 : ch at_ ≠ 44 ∨ px_isfn w.1 = false) : px_Ev ch len true at_ vs (w :: ws) op tg vars L none := by
  refine ⟨0 + 1, ?_⟩
  rw [px_run, px_settle_t hw]
  by_cases hl : len ≤ at_
  · rw [if_pos hl]
    rfl
  · rw [if_neg hl, if_neg h1, if_neg (fun z => z.elim h2.2.2.1 h2.2.2.2), if_neg (fun z => z.elim h2.1 h2.2.1)]
    by_cases h44 : ch at_ = 44
    · rw [if_pos h44]
      have h5 : px_isfn w.1 = false := h3.elim (fun q => absurd h44 q) id
      have h6 : px_comma (w :: ws) = none := by rw [px_comma, if_neg (by rw [h5]; decide)]
      show px_k (px_comma (w :: ws)) _ = some none
      rw [h6]
      rfl
    · rw [if_neg h44]
      by_cases h59 : ch at_ = 59
      · rw [if_pos h59]
        cases tg <;> rfl
      · rw [if_neg h59]
theorem ev_stop {v : px_V} (hl : at_ < len) (h2 : px_nop (ch at_)) (h3 : ch at_ ≠ 59 ∨ tg = none) : px_Ev ch len true at_ [v] [] op tg vars L none := by
  refine ⟨0 + 1, ?_⟩
  rw [px_run, if_neg (by omega)]
  by_cases h41 : ch at_ = 41
  · rw [if_pos h41]
    rfl
  · rw [if_neg h41, if_neg (fun z => z.elim h2.2.2.1 h2.2.2.2), if_neg (fun z => z.elim h2.1 h2.2.1)]
    by_cases h44 : ch at_ = 44
    · rw [if_pos h44]
      rfl
    · rw [if_neg h44]
      by_cases h59 : ch at_ = 59
      · rw [if_pos h59]
        have h5 : tg = none := h3.elim (fun q => absurd h59 q) id
        subst h5
        rfl
      · rw [if_neg h59]
theorem ev_comma {w : Int32 × Nat} (hw : px_b2 (w :: ws)) (hl : at_ < len) (h : ch at_ = 44) (hf : px_isfn w.1 = true) (e : px_Ev ch len false (at_ + 1) vs ((w.1, w.2 + 1) :: ws) op tg vars L r) : px_Ev ch len true at_ vs (w :: ws) op tg vars L r := by
  obtain ⟨n, e⟩ := e
  refine ⟨n + 1, ?_⟩
  rw [px_run, if_neg (by omega), if_neg (by rw [h]; decide), if_neg (by rw [h]; decide), if_neg (by rw [h]; decide), if_pos h, px_settle_t hw]
  have h6 : px_comma (w :: ws) = some ((w.1, w.2 + 1) :: ws) := by rw [px_comma, if_pos hf]
  show px_k (px_comma (w :: ws)) _ = some r
  rw [h6]
  exact e
theorem ev_mulOp (hw : px_b1 ws) (hl : at_ < len) (h : ch at_ = 42 ∨ ch at_ = 47) (e : px_Ev ch len false (at_ + 1) vs ((ch at_, 1) :: ws) op tg vars L r) : px_Ev ch len true at_ vs ws op tg vars L r := by
  obtain ⟨n, e⟩ := e
  have h1 : ch at_ ≠ 41 := by rcases h with h | h <;> rw [h] <;> decide
  have h2 : ¬ (ch at_ = 43 ∨ ch at_ = 45) := by rcases h with h | h <;> rw [h] <;> decide
  refine ⟨n + 1, ?_⟩
  rw [px_run, if_neg (by omega), if_neg h1, if_neg h2, if_pos h, px_settle_f hw]
  exact e
theorem ev_addOp (hw : px_b2 ws) (hl : at_ < len) (h : ch at_ = 43 ∨ ch at_ = 45) (e : px_Ev ch len false (at_ + 1) vs ((ch at_, 1) :: ws) op tg vars L r) : px_Ev ch len true at_ vs ws op tg vars L r := by
  obtain ⟨n, e⟩ := e
  have h1 : ch at_ ≠ 41 := by rcases h with h | h <;> rw [h] <;> decide
  refine ⟨n + 1, ?_⟩
  rw [px_run, if_neg (by omega), if_neg h1, if_pos h, px_settle_t hw]
  exact e
/-- a waiting '*' or '/' is settled at once, whatever comes; a waiting '+' or '-' if no '*' or '/' comes -/
theorem px_run_op {n : Nat} {c : Int32} {k : Nat} {a b : px_V} (hc : c = 42 ∨ c = 47 ∨ ((c = 43 ∨ c = 45) ∧ ch at_ ≠ 42 ∧ ch at_ ≠ 47)) :
    px_run ch len (n + 1) true at_ (b :: a :: vs) ((c, k) :: ws) op tg vars L = px_k (px_bin c a b L) fun q => px_run ch len (n + 1) true at_ (q.1 :: vs) ws op tg vars q.2 := by
  have ht : px_settle true ((c, k) :: ws) (b :: a :: vs) L = (px_bin c a b L).bind fun q => px_settle true ws (q.1 :: vs) q.2 := by
    rw [px_settle, if_pos]
    · rfl
    rcases hc with e | e | e
    · exact Or.inl e
    · exact Or.inr (Or.inl e)
    · exact Or.inr (Or.inr ⟨rfl, e.1⟩)
  have hf : ch at_ = 42 ∨ ch at_ = 47 → px_settle false ((c, k) :: ws) (b :: a :: vs) L = (px_bin c a b L).bind fun q => px_settle false ws (q.1 :: vs) q.2 := by
    intro hm
    rw [px_settle, if_pos]
    · rfl
    rcases hc with e | e | e
    · exact Or.inl e
    · exact Or.inr (Or.inl e)
    · exact absurd hm (fun z => z.elim e.2.1 e.2.2)
  by_cases hm : ch at_ = 42 ∨ ch at_ = 47
  · have hf := hf hm
    cases hb : px_bin c a b L with
    | none =>
      rw [hb] at ht hf
      rw [px_run, ht, hf]
      simp [px_k]
    | some q =>
      rw [hb] at ht hf
      show _ = px_run ch len (n + 1) true at_ (q.1 :: vs) ws op tg vars q.2
      rw [px_run, px_run, ht, hf]
      rfl
  · cases hb : px_bin c a b L with
    | none =>
      rw [hb] at ht
      rw [px_run, ht, if_neg (c := ch at_ = 42 ∨ ch at_ = 47) hm]
      simp [px_k]
    | some q =>
      rw [hb] at ht
      show _ = px_run ch len (n + 1) true at_ (q.1 :: vs) ws op tg vars q.2
      rw [px_run, px_run, ht, if_neg (c := ch at_ = 42 ∨ ch at_ = 47) hm, if_neg (c := ch at_ = 42 ∨ ch at_ = 47) hm]
      rfl
theorem ev_op {c : Int32} {k : Nat} {a b : px_V} (hc : c = 42 ∨ c = 47 ∨ ((c = 43 ∨ c = 45) ∧ ch at_ ≠ 42 ∧ ch at_ ≠ 47)) (h : px_to (px_bin c a b L) r fun q => px_Ev ch len true at_ (q.1 :: vs) ws op tg vars q.2 r) : px_Ev ch len true at_ (b :: a :: vs) ((c, k) :: ws) op tg vars L r := by
  cases hb : px_bin c a b L with
  | none =>
    rw [hb] at h
    have h : r = none := h
    exact ⟨0 + 1, by rw [px_run_op hc, hb, h]; rfl⟩
  | some q =>
    rw [hb] at h
    obtain ⟨n, e⟩ := h
    cases n with
    | zero => rw [px_run] at e; cases e
    | succ n => exact ⟨n + 1, by rw [px_run_op hc, hb]; exact e⟩
end PXS
/-- what it is to be simulated -/
def px_Good (ch : Nat → Int32) (len : Nat) (tg : Option Nat) (vars : Nat → Option px_V) (P : px_P) (op : Nat) (B : List (Int32 × Nat) → Prop) : Prop :=
  ∀ (at_ : Nat) (L : px_L) (vs : List px_V) (ws : List (Int32 × Nat)) (r : Option px_R), B ws → px_to (P at_ L) r (fun x => px_Ev ch len true x.2.1 (x.1 :: vs) ws op tg vars x.2.2 r) → px_Ev ch len false at_ vs ws op tg vars L r
section PXG
variable {ch : Nat → Int32} {len : Nat} {op : Nat} {tg : Option Nat} {vars : Nat → Option px_V} {inner : px_P}
theorem ev_args (hz : ∀ k, len ≤ k → ch k = 0) (hg : px_Good ch len tg vars inner (op + 1) px_b2) (hok : px_ok2 ch len inner) {f : Int32} (hf : px_isfn f = true) {k : Nat} {ws : List (Int32 × Nat)} (hb : px_b0 ws) {vs : List px_V} {r : Option px_R} :
    ∀ (n : Nat) (acc : List px_V) (at_ : Nat) (L : px_L), len < n + at_ →
      px_to (px_args ch inner n acc at_ L) r (fun x => px_to (px_fn f x.1 x.2.2) r fun q => px_to (px_pick ch q.1 x.2.1) r fun y => px_to (px_negs k y.1 q.2) r fun z => px_Ev ch len true y.2 (z.1 :: vs) ws op tg vars z.2 r) →
      px_Ev ch len false at_ (acc.reverse ++ vs) ((f, acc.length + 1) :: (List.replicate k (126, 1) ++ ws)) (op + 1) tg vars L r := by
  have hwf : ∀ j, px_b2 ((f, j) :: (List.replicate k (126, 1) ++ ws)) := by
    intro j w hw
    cases hw
    exact ⟨pxf_fn_ne hf (by decide), pxf_fn_ne hf (by decide), pxf_fn_ne hf (by decide), pxf_fn_ne hf (by decide), pxf_fn_ne hf (by decide)⟩
  intro n
  induction n with
  | zero =>
    intro acc at_ L hn h
    have h : r = none := h
    have h0 : ch at_ = 0 := hz at_ (by omega)
    rw [h]
    exact ev_bad (by rw [h0]; decide) (by rw [h0]; decide) (fun q => absurd q.1 (by rw [h0]; decide)) (by rw [h0]; decide) (by rw [h0]; decide)
  | succ n ih =>
    intro acc at_ L hn h
    refine hg at_ L _ _ r (hwf _) ?_
    rw [px_args, px_to_bind] at h
    refine px_to_imp h fun x hx hp => ?_
    have h1 := hok.1 _ _ _ hx
    have h2 := hok.2 _ _ _ hx
    by_cases h44 : ch x.2.1 = 44
    · rw [if_pos h44] at hp
      have h3 := pxf_eql hz h44 (by decide)
      have h4 := ih (acc ++ [x.1]) (x.2.1 + 1) x.2.2 (by omega) hp
      rw [List.reverse_append, List.length_append] at h4
      exact ev_comma (hwf _) h3 h44 hf h4
    · rw [if_neg h44] at hp
      by_cases h41 : ch x.2.1 = 41
      · rw [if_pos h41] at hp
        have h3 := pxf_eql hz h41 (by decide)
        refine ev_close (vs' := vs) hb (hwf _) h3 h41 ?_
        have he : px_close ((f, acc.length + 1) :: (List.replicate k (126, 1) ++ ws), x.1 :: (acc.reverse ++ vs), x.2.2) = (px_fn f (acc ++ [x.1]) x.2.2).bind fun q => some (q.1, List.replicate k (126, 1) ++ ws, vs, q.2) := by
          have e1 : (x.1 :: (acc.reverse ++ vs)).take (acc.length + 1) = x.1 :: acc.reverse := by
            rw [List.take_succ_cons, List.take_left' (List.length_reverse)]
          have e2 : (x.1 :: (acc.reverse ++ vs)).drop (acc.length + 1) = vs := by
            rw [List.drop_succ_cons, List.drop_left' (List.length_reverse)]
          unfold px_close
          dsimp only
          rw [if_neg (pxf_fn_ne hf (by decide)), if_pos ⟨hf, by simp⟩, e1, e2, List.reverse_cons, List.reverse_reverse]
        rw [he, px_to_bind]
        refine px_to_imp hp fun q hq hp => ?_
        exact ⟨rfl, rfl, hp⟩
      · rw [if_neg h41] at hp
        have hp : r = none := hp
        rw [hp]
        exact ev_left (hwf _) h41 h2 (Or.inl h44)
theorem good_unit (hz : ∀ k, len ≤ k → ch k = 0) (hlen : len ≤ 160) (hin : (5 ≤ op ∧ inner = fun _ _ => none) ∨ (op < 5 ∧ px_Good ch len tg vars inner (op + 1) px_b2)) (hok : px_ok2 ch len inner) :
    px_Good ch len tg vars (px_unit ch vars inner) op px_b0 := by
  intro at_ L vs ws r hb h
  have hsig : ∀ (n a k : Nat), px_Ev ch len false (px_signs ch n a k).2 vs (List.replicate (px_signs ch n a k).1 (126, 1) ++ ws) op tg vars L r → px_Ev ch len false a vs (List.replicate k (126, 1) ++ ws) op tg vars L r := by
    intro n
    induction n with
    | zero => intro a k e; exact e
    | succ n ih =>
      intro a k e
      rw [px_signs] at e
      by_cases h45 : ch a = 45
      · rw [if_pos h45] at e
        exact ev_neg h45 (ih (a + 1) (k + 1) e)
      · rw [if_neg h45] at e
        exact e
  have h45 := (pxf_signs hz 160 at_ 0).2 (by omega)
  refine hsig 160 at_ 0 ?_
  unfold px_unit at h
  rw [px_to_bind] at h
  generalize (px_signs ch 160 at_ 0).1 = k at h ⊢
  generalize (px_signs ch 160 at_ 0).2 = a at h h45 ⊢
  have h : px_to (px_core ch vars inner a L) r fun x => px_to (px_negs k x.1 x.2.2) r fun z => px_Ev ch len true x.2.1 (z.1 :: vs) ws op tg vars z.2 r := px_to_imp h fun x hx hp => px_to_bind.mp hp
  unfold px_core at h
  by_cases hd : px_dig (ch a) = true
  · rw [if_pos hd, px_to_bind] at h
    refine ev_num hz hb hd (px_to_imp h fun x hx hp => ?_)
    have hp := px_to_bind.mp hp
    exact hp
  · rw [if_neg hd, px_to_bind] at h
    have h : px_to (px_part ch vars inner a L) r fun x => px_to (px_pick ch x.1 x.2.1) r fun y => px_to (px_negs k y.1 x.2.2) r fun z => px_Ev ch len true y.2 (z.1 :: vs) ws op tg vars z.2 r := px_to_imp h fun x hx hp => px_to_bind.mp hp
    unfold px_part at h
    by_cases hs : px_small (ch a) = true
    · rw [if_pos hs, px_to_bind] at h
      exact ev_let hb hs h
    · rw [if_neg hs] at h
      by_cases h40 : ch a = 40
      · rw [if_pos h40, px_to_bind] at h
        rcases hin with ⟨h5, hi⟩ | ⟨h5, hg⟩
        · rw [hi] at h
          have h : r = none := h
          rw [h]
          exact ev_open5 h40 h5
        · have hw : px_b2 ((40, 1) :: (List.replicate k (126, 1) ++ ws)) := by
            intro w hw
            cases hw
            decide
          refine ev_open h40 h5 (hg _ _ _ _ r hw (px_to_imp h fun x hx hp => ?_))
          by_cases h41 : ch x.2.1 = 41
          · rw [if_pos h41] at hp
            have h3 := pxf_eql hz h41 (by decide)
            refine ev_close (vs' := vs) hb hw h3 h41 ?_
            exact ⟨rfl, rfl, hp⟩
          · rw [if_neg h41] at hp
            have hp : r = none := hp
            rw [hp]
            exact ev_left hw h41 (hok.2 _ _ _ hx) (Or.inr (by decide))
      · rw [if_neg h40] at h
        by_cases hf : px_isfn (ch a) = true ∧ ch (a + 1) = 40
        · rw [if_pos hf, px_to_bind] at h
          have h := px_to_imp h fun x hx hp => px_to_bind.mp hp
          rcases hin with ⟨h5, hi⟩ | ⟨h5, hg⟩
          · have hn : px_args ch inner 161 [] (a + 2) L = none := by rw [hi]; rfl
            rw [hn] at h
            have h : r = none := h
            rw [h]
            exact ev_fn5 hf h5
          · refine ev_fn hf h5 (ev_args hz hg hok hf.1 hb 161 [] (a + 2) L (by omega) h)
        · rw [if_neg hf] at h
          have h : r = none := h
          rw [h]
          exact ev_bad h45 h40 hf hd hs
theorem good_prod (hz : ∀ k, len ≤ k → ch k = 0) (hlen : len ≤ 160) (hok : px_ok1 len inner) (hu : px_Good ch len tg vars (px_unit ch vars inner) op px_b0) : px_Good ch len tg vars (px_prod ch vars inner) op px_b1 := by
  intro at_ L vs ws r hb h
  have hloop : ∀ (n : Nat) (v : px_V) (a : Nat) (L : px_L), a ≤ len → len < n + a → px_to (px_prodL ch vars inner n v a L) r (fun x => px_Ev ch len true x.2.1 (x.1 :: vs) ws op tg vars x.2.2 r) → px_Ev ch len true a (v :: vs) ws op tg vars L r := by
    intro n
    induction n with
    | zero => intro v a L h1 h2; omega
    | succ n ih =>
      intro v a L h1 h2 h
      rw [px_prodL] at h
      by_cases hc : ch a = 42 ∨ ch a = 47
      · rw [if_pos hc, px_to_bind] at h
        have hl : a < len := hc.elim (fun q => pxf_eql hz q (by decide)) (fun q => pxf_eql hz q (by decide))
        refine ev_mulOp hb hl hc (hu _ _ _ _ r ?_ (px_to_imp h fun x hx hp => ?_))
        · intro w hw
          cases hw
          show ch a ≠ 126
          rcases hc with q | q <;> rw [q] <;> decide
        · have h3 := pxf_unit hz hok _ _ _ hx
          refine ev_op (hc.elim (fun q => Or.inl q) (fun q => Or.inr (Or.inl q))) ?_
          refine px_to_imp (px_to_bind.mp hp) fun q hq hp => ?_
          exact ih _ _ _ h3.2 (by omega) hp
      · rw [if_neg hc] at h
        exact h
  unfold px_prod at h
  rw [px_to_bind] at h
  refine hu _ _ _ _ r hb.b0 (px_to_imp h fun x hx hp => ?_)
  have h3 := pxf_unit hz hok _ _ _ hx
  exact hloop 160 _ _ _ h3.2 (by omega) hp
theorem good_sum (hz : ∀ k, len ≤ k → ch k = 0) (hlen : len ≤ 160) (hok : px_ok1 len inner) (hu : px_Good ch len tg vars (px_prod ch vars inner) op px_b1) : px_Good ch len tg vars (px_sum ch vars inner) op px_b2 := by
  intro at_ L vs ws r hb h
  have hloop : ∀ (n : Nat) (v : px_V) (a : Nat) (L : px_L), a ≤ len → len < n + a → px_to (px_sumL ch vars inner n v a L) r (fun x => px_Ev ch len true x.2.1 (x.1 :: vs) ws op tg vars x.2.2 r) → px_Ev ch len true a (v :: vs) ws op tg vars L r := by
    intro n
    induction n with
    | zero => intro v a L h1 h2; omega
    | succ n ih =>
      intro v a L h1 h2 h
      rw [px_sumL] at h
      by_cases hc : ch a = 43 ∨ ch a = 45
      · rw [if_pos hc, px_to_bind] at h
        have hl : a < len := hc.elim (fun q => pxf_eql hz q (by decide)) (fun q => pxf_eql hz q (by decide))
        refine ev_addOp hb hl hc (hu _ _ _ _ r ?_ (px_to_imp h fun x hx hp => ?_))
        · intro w hw
          cases hw
          show ch a ≠ 126 ∧ ch a ≠ 42 ∧ ch a ≠ 47
          rcases hc with q | q <;> rw [q] <;> decide
        · have h3 := pxf_prod hz hok hx
          refine ev_op (Or.inr (Or.inr ⟨hc, h3.2.2⟩)) ?_
          refine px_to_imp (px_to_bind.mp hp) fun q hq hp => ?_
          exact ih _ _ _ h3.2.1 (by omega) hp
      · rw [if_neg hc] at h
        exact h
  unfold px_sum at h
  rw [px_to_bind] at h
  refine hu _ _ _ _ r hb.b1 (px_to_imp h fun x hx hp => ?_)
  have h3 := pxf_prod hz hok hx
  exact hloop 160 _ _ _ h3.2.1 (by omega) hp
theorem good_sumD (hz : ∀ k, len ≤ k → ch k = 0) (hlen : len ≤ 160) : ∀ (d op : Nat), d + op = 5 → px_Good ch len tg vars (px_sumD ch vars d) op px_b2 := by
  intro d
  induction d with
  | zero =>
    intro op ho
    have hok : px_ok2 ch len (fun _ _ => none) := ⟨fun _ _ _ h => (by cases h), fun _ _ _ h => (by cases h)⟩
    exact good_sum hz hlen hok.1 (good_prod hz hlen hok.1 (good_unit hz hlen (Or.inl ⟨by omega, rfl⟩) hok))
  | succ d ih =>
    intro op ho
    have hok : px_ok2 ch len (px_sumD ch vars d) := pxf_sumD hz d
    exact good_sum hz hlen hok.1 (good_prod hz hlen hok.1 (good_unit hz hlen (Or.inr ⟨by omega, ih (op + 1) (by omega)⟩) hok))
/-- a text's end, or its next assignment -/
def px_EvB (ch : Nat → Int32) (len : Nat) (at_ : Nat) (vars : Nat → Option px_V) (L : px_L) (r : Option px_R) : Prop :=
  if px_asg ch at_ = true then (if px_given (ch at_) = true then r = none else px_Ev ch len false (at_ + 2) [] [] 0 (some (px_ix (ch at_))) vars L r)
  else px_Ev ch len false at_ [] [] 0 none vars L r
theorem ev_semi {at_ : Nat} {v : px_V} {L : px_L} {r : Option px_R} {l : Nat} (hl : at_ < len) (h : ch at_ = 59) (e : px_EvB ch len (at_ + 1) (px_set vars l v) L r) : px_Ev ch len true at_ [v] [] 0 (some l) vars L r := by
  have hs : ∀ n, px_run ch len (n + 1) true at_ [v] [] 0 (some l) vars L = if px_asg ch (at_ + 1) = true then
            (if px_given (ch (at_ + 1)) = true then some none else px_run ch len n false (at_ + 3) [] [] 0 (some (px_ix (ch (at_ + 1)))) (px_set vars l v) L)
            else px_run ch len n false (at_ + 1) [] [] 0 none (px_set vars l v) L := by
    intro n
    rw [px_run, if_neg (by omega), if_neg (by rw [h]; decide), if_neg (by rw [h]; decide), if_neg (by rw [h]; decide), if_neg (by rw [h]; decide), if_pos h]
    rfl
  unfold px_EvB at e
  by_cases h1 : px_asg ch (at_ + 1) = true
  · rw [if_pos h1] at e
    by_cases h2 : px_given (ch (at_ + 1)) = true
    · rw [if_pos h2] at e
      exact ⟨0 + 1, by rw [hs, if_pos h1, if_pos h2, e]⟩
    · rw [if_neg h2] at e
      obtain ⟨n, e⟩ := e
      exact ⟨n + 1, by rw [hs, if_pos h1, if_neg h2]; exact e⟩
  · rw [if_neg h1] at e
    obtain ⟨n, e⟩ := e
    exact ⟨n + 1, by rw [hs, if_neg h1]; exact e⟩
theorem ev_fin (hz : ∀ k, len ≤ k → ch k = 0) (hlen : len ≤ 160) (at_ : Nat) (vars : Nat → Option px_V) (L : px_L) : px_Ev ch len false at_ [] [] 0 none vars L (px_fin ch len at_ vars L) := by
  refine good_sumD hz hlen 5 0 rfl at_ L [] [] _ (fun w hw => by cases hw) ?_
  unfold px_fin
  have hok := pxf_sumD (vars := vars) hz 5
  cases hx : px_sumD ch vars 5 at_ L with
  | none => rfl
  | some x =>
    have h1 := hok.1 _ _ _ hx
    have h2 := hok.2 _ _ _ hx
    show px_Ev ch len true x.2.1 [x.1] [] 0 none vars x.2.2 (if x.2.1 = len ∧ x.1.length = 3 then some (x.1, x.2.2, vars) else none)
    by_cases hl : len ≤ x.2.1
    · have e1 : x.2.1 = len := by omega
      refine ⟨0 + 1, ?_⟩
      rw [px_run, if_pos hl]
      show some (if (none : Option Nat) = none ∧ x.1.length = 3 then some (x.1, x.2.2, vars) else none) = _
      simp [e1]
    · rw [if_neg (c := x.2.1 = len ∧ x.1.length = 3) (fun q => hl (by omega))]
      exact ev_stop (by omega) h2 (Or.inr rfl)
theorem ev_prog (hz : ∀ k, len ≤ k → ch k = 0) (hlen : len ≤ 160) : ∀ (n at_ : Nat) (vars : Nat → Option px_V) (L : px_L), len ≤ n + at_ → px_EvB ch len at_ vars L (px_prog ch len n at_ vars L) := by
  intro n
  induction n with
  | zero =>
    intro at_ vars L hn
    have h0 : ch at_ = 0 := hz at_ (by omega)
    unfold px_EvB
    rw [if_neg (by unfold px_asg; rw [h0, show px_small 0 = false by decide]; simp), px_prog]
    exact ev_fin hz hlen at_ vars L
  | succ n ih =>
    intro at_ vars L hn
    unfold px_EvB
    rw [px_prog]
    by_cases h1 : px_asg ch at_ = true
    · rw [if_pos h1, if_pos h1]
      by_cases h2 : px_given (ch at_) = true
      · rw [if_pos h2, if_pos h2]
      · rw [if_neg h2, if_neg h2]
        refine good_sumD hz hlen 5 0 rfl (at_ + 2) L [] [] _ (fun w hw => by cases hw) ?_
        have hok := pxf_sumD (vars := vars) hz 5
        cases hx : px_sumD ch vars 5 (at_ + 2) L with
        | none => rfl
        | some x =>
          have h3 := hok.1 _ _ _ hx
          have h4 := hok.2 _ _ _ hx
          show px_Ev ch len true x.2.1 [x.1] [] 0 (some (px_ix (ch at_))) vars x.2.2 (if ch x.2.1 = 59 then px_prog ch len n (x.2.1 + 1) (px_set vars (px_ix (ch at_)) x.1) x.2.2 else none)
          by_cases h59 : ch x.2.1 = 59
          · rw [if_pos h59]
            exact ev_semi (pxf_eql hz h59 (by decide)) h59 (ih _ _ _ (by omega))
          · rw [if_neg h59]
            by_cases hl : len ≤ x.2.1
            · refine ⟨0 + 1, ?_⟩
              rw [px_run, if_pos hl]
              rfl
            · exact ev_stop (by omega) h4 (Or.inl h59)
    · rw [if_neg h1, if_neg h1]
      exact ev_fin hz hlen at_ vars L
end PXG
end
section
/-! a value in one int: four times 7 bits, the type above them -/
def pv_sum : px_V → Nat
  | [] => 0
  | p :: l => p + 128 * pv_sum l
def pv_n (v : px_V) : Nat := v.length * 268435456 + pv_sum v
def pv (v : px_V) : Int32 := nI (pv_n v)
/-- a value as the grammar makes it: one to four numbers, places of instructions -/
def pv_ok (v : px_V) : Prop := 1 ≤ v.length ∧ v.length ≤ 4 ∧ ∀ p ∈ v, p < 128
theorem pv_lt : ∀ (v : px_V), (∀ p ∈ v, p < 128) → pv_sum v < 128 ^ v.length := by
  intro v
  induction v with
  | nil => intro _; decide
  | cons p l ih =>
    intro h
    have h1 := ih (fun q hq => h q (List.mem_cons_of_mem _ hq))
    have h2 := h p List.mem_cons_self
    rw [pv_sum, List.length_cons, Nat.pow_succ]
    omega
theorem pv_lt4 {v : px_V} (h : pv_ok v) : pv_sum v < 268435456 := by
  have h1 := pv_lt v h.2.2
  have h2 : 128 ^ v.length ≤ 128 ^ 4 := Nat.pow_le_pow_right (by decide) h.2.1
  have h3 : (128 : Nat) ^ 4 = 268435456 := by decide
  omega
theorem pv_nlt {v : px_V} (h : pv_ok v) : pv_n v < 2 ^ 31 := by
  have h1 := pv_lt4 h
  have h2 := h.2.1
  unfold pv_n
  omega
theorem pv_ne {v : px_V} (h : pv_ok v) : ¬ pv v = -1 := by
  intro e
  have h1 : (pv v).toInt = pv_n v := nI_toInt (pv_nlt h)
  rw [e] at h1
  have h2 : ((-1 : Int32)).toInt = -1 := by decide
  omega
theorem pv_get : ∀ (v : px_V) (i : Nat), (∀ p ∈ v, p < 128) → pv_sum v / 128 ^ i % 128 = v.getD i 0 := by
  intro v
  induction v with
  | nil => intro i _; simp [pv_sum]
  | cons p l ih =>
    intro i h
    have h2 := h p List.mem_cons_self
    cases i with
    | zero =>
      rw [pv_sum]
      simp
      omega
    | succ i =>
      have h1 := ih i (fun q hq => h q (List.mem_cons_of_mem _ hq))
      rw [pv_sum, Nat.pow_succ, Nat.mul_comm (128 ^ i) 128, ← Nat.div_div_eq_div_mul, show (p + 128 * pv_sum l) / 128 = pv_sum l by omega, h1]
      simp
theorem pv_app : ∀ (v : px_V) (p : Nat), pv_sum (v ++ [p]) = pv_sum v + 128 ^ v.length * p := by
  intro v p
  induction v with
  | nil => simp [pv_sum]
  | cons q l ih =>
    rw [List.cons_append, pv_sum, ih, pv_sum, List.length_cons, Nat.pow_succ]
    rw [Nat.mul_add, Nat.mul_comm (128 ^ l.length) 128, Nat.mul_assoc]
    omega
theorem pv_or (a b : Nat) : nI a ||| nI b = nI (a ||| b) := by
  apply Int32.toBitVec_inj.mp
  show BitVec.ofNat 32 a ||| BitVec.ofNat 32 b = BitVec.ofNat 32 (a ||| b)
  apply BitVec.eq_of_toNat_eq
  simp [Nat.or_mod_two_pow]
theorem pv_type {v : px_V} (h : pv_ok v) : pv v >>> ((28 : Int32) &&& 31) = nI v.length := by
  have h1 := pv_lt4 h
  unfold pv
  rw [pk_shrN (pv_nlt h) _ 28 (by decide)]
  unfold pv_n
  rw [show (v.length * 268435456 + pv_sum v) / 2 ^ 28 = v.length by omega]
theorem pv_num {v : px_V} (h : pv_ok v) {i : Nat} (hi : i < 4) : (pv v >>> (((7 : Int32) * nI i) &&& 31)) &&& 127 = nI (v.getD i 0) := by
  have h1 := pv_get v i h.2.2
  have h2 := pv_nlt h
  have hk : ((((7 : Int32) * nI i) &&& 31).toBitVec.smod 32).toNat = 7 * i := by
    rcases (show i = 0 ∨ i = 1 ∨ i = 2 ∨ i = 3 by omega) with rfl | rfl | rfl | rfl <;> decide
  unfold pv
  rw [pk_shrN h2 _ _ hk, pk_andN (by have := Nat.div_le_self (pv_n v) (2 ^ (7 * i)); omega) 7 (by decide), ← h1]
  congr 1
  unfold pv_n
  rcases (show i = 0 ∨ i = 1 ∨ i = 2 ∨ i = 3 by omega) with rfl | rfl | rfl | rfl <;> simp <;> omega
/-- a number is set behind those that are set already -/
theorem pv_with {T i : Nat} {w : px_V} {p : Nat} (hT : T < 8) (hi : i < 4) (hw : w.length = i) (hp : p < 128) (hs : ∀ q ∈ w, q < 128) :
    nI (T * 268435456 + pv_sum w) ||| (nI p <<< (((7 : Int32) * nI i) &&& 31)) = nI (T * 268435456 + pv_sum (w ++ [p])) := by
  have h1 := pv_lt w hs
  rw [hw] at h1
  have hk : ((((7 : Int32) * nI i) &&& 31).toBitVec.smod 32).toNat = 7 * i := by
    rcases (show i = 0 ∨ i = 1 ∨ i = 2 ∨ i = 3 by omega) with rfl | rfl | rfl | rfl <;> decide
  have hpw : (2 : Nat) ^ (7 * i) = 128 ^ i := by rw [Nat.pow_mul]
  have h4 : 128 ^ (i + 1) ≤ 128 ^ 4 := Nat.pow_le_pow_right (by decide) (by omega)
  have h5 : (128 : Nat) ^ 4 = 268435456 := by decide
  have h6 : 128 ^ i * p + pv_sum w < 128 ^ (i + 1) := by
    rw [Nat.pow_succ]
    have : 128 ^ i * p ≤ 128 ^ i * 127 := Nat.mul_le_mul_left _ (by omega)
    omega
  rw [pk_shlN _ _ hk (by rw [hpw, Nat.mul_comm]; omega), pv_or, pv_app, hw, hpw]
  congr 1
  have e1 : T * 268435456 + pv_sum w = 2 ^ 28 * T ||| pv_sum w := by
    rw [← Nat.two_pow_add_eq_or_of_lt (by omega) T]
    omega
  have e2 : p * 128 ^ i ||| pv_sum w = 128 ^ i * p + pv_sum w := by
    rw [← hpw, Nat.mul_comm, ← Nat.two_pow_add_eq_or_of_lt (by rw [hpw]; exact h1) p]
  rw [e1, Nat.or_assoc, Nat.or_comm (pv_sum w), e2, ← Nat.two_pow_add_eq_or_of_lt (by omega) T]
  omega
theorem pv_of {T : Nat} (hT : T < 8) : nI T <<< ((28 : Int32) &&& 31) = nI (T * 268435456) := by
  rw [pk_shlN _ 28 (by decide) (by omega)]
end
section
def f_V_ofType (u0 : Int32) : Int32 := (u0 <<< ((28 : Int32) &&& 31))
set_option maxHeartbeats 4000000 in
set_option maxRecDepth 100000 in
theorem k_V_ofType (l : Launch) (u0 : Int32) (r0 : Int32) (hf : f_V_ofType u0 = r0) : cc_MetS l y_V_ofType (Cond.code y_V_ofType b_V_ofType 1 (some .int) :: wA) ({ frames := 0, cells := 0, slots := 0, locals := 0 } : Room) ([.int u0] : List Value) r0 := by
  refine Met.ofW (cc := b_V_ofType) (maxL := 1) (ret := (some .int)) (by decide) rfl ?_
  intro p e s m args below meth c s₁ B hml hv
  obtain rfl : args = ([.int u0] : List Value).toArray := hv
  have hx := B.exec
  have hb := B.bytes
  have hr := B.returns
  have hts := fun w h => atoms_spec (ws := (Cond.code y_V_ofType b_V_ofType 1 (some .int) :: wA)) B.pre w (List.mem_cons_of_mem _ h)
  have hown : s.vm.findClass R_V = some m.cls := findClass_of_methodNamed B.named
  have hlocks := B.notSynchronized
  have hl := lv_entry (([.int u0] : List Value)) (n := 1) (Nat.le_of_ble_eq_true rfl)
  rw [lg_entry_eq]
  generalize (lg_sl (([.int u0] : List Value)) ++ List.replicate (1 - (lg_sl (([.int u0] : List Value))).length) Slot.unset).toArray = ls at hl ⊢
  have hl : lv_has ls 1 [(0, .int u0)] := hl
  unfold f_V_ofType at hf
  refine lv_iload_n hx hb d_V_ofType_0 rfl (lv_at hl 0 rfl) ?_
  refine lv_bipush (v := 28) hx hb d_V_ofType_1 (by decide) ?_
  refine lv_ishl hx hb d_V_ofType_3 ?_
  exact W.iret (v := (u0 <<< ((28 : Int32) &&& 31))) hx hb hr (fun t ht hW => ⟨_, rfl, hf, ht⟩) (fun q h => by cases h) d_V_ofType_4
def f_V_typeIn (u0 : Int32) : Int32 := (u0 >>> ((28 : Int32) &&& 31))
set_option maxHeartbeats 4000000 in
set_option maxRecDepth 100000 in
theorem k_V_typeIn (l : Launch) (u0 : Int32) (r0 : Int32) (hf : f_V_typeIn u0 = r0) : cc_MetS l y_V_typeIn (Cond.code y_V_typeIn b_V_typeIn 1 (some .int) :: wA) ({ frames := 0, cells := 0, slots := 0, locals := 0 } : Room) ([.int u0] : List Value) r0 := by
  refine Met.ofW (cc := b_V_typeIn) (maxL := 1) (ret := (some .int)) (by decide) rfl ?_
  intro p e s m args below meth c s₁ B hml hv
  obtain rfl : args = ([.int u0] : List Value).toArray := hv
  have hx := B.exec
  have hb := B.bytes
  have hr := B.returns
  have hts := fun w h => atoms_spec (ws := (Cond.code y_V_typeIn b_V_typeIn 1 (some .int) :: wA)) B.pre w (List.mem_cons_of_mem _ h)
  have hown : s.vm.findClass R_V = some m.cls := findClass_of_methodNamed B.named
  have hlocks := B.notSynchronized
  have hl := lv_entry (([.int u0] : List Value)) (n := 1) (Nat.le_of_ble_eq_true rfl)
  rw [lg_entry_eq]
  generalize (lg_sl (([.int u0] : List Value)) ++ List.replicate (1 - (lg_sl (([.int u0] : List Value))).length) Slot.unset).toArray = ls at hl ⊢
  have hl : lv_has ls 1 [(0, .int u0)] := hl
  unfold f_V_typeIn at hf
  refine lv_iload_n hx hb d_V_typeIn_0 rfl (lv_at hl 0 rfl) ?_
  refine lv_bipush (v := 28) hx hb d_V_typeIn_1 (by decide) ?_
  refine lv_ishr hx hb d_V_typeIn_3 ?_
  exact W.iret (v := (u0 >>> ((28 : Int32) &&& 31))) hx hb hr (fun t ht hW => ⟨_, rfl, hf, ht⟩) (fun q h => by cases h) d_V_typeIn_4
def f_V_withNumber (u0 : Int32) (u1 : Int32) (u2 : Int32) : Int32 := (u0 ||| (u2 <<< (((7 : Int32) * u1) &&& 31)))
set_option maxHeartbeats 4000000 in
set_option maxRecDepth 100000 in
theorem k_V_withNumber (l : Launch) (u0 : Int32) (u1 : Int32) (u2 : Int32) (r0 : Int32) (hf : f_V_withNumber u0 u1 u2 = r0) : cc_MetS l y_V_withNumber (Cond.code y_V_withNumber b_V_withNumber 3 (some .int) :: wA) ({ frames := 0, cells := 0, slots := 0, locals := 0 } : Room) ([.int u0, .int u1, .int u2] : List Value) r0 := by
  refine Met.ofW (cc := b_V_withNumber) (maxL := 3) (ret := (some .int)) (by decide) rfl ?_
  intro p e s m args below meth c s₁ B hml hv
  obtain rfl : args = ([.int u0, .int u1, .int u2] : List Value).toArray := hv
  have hx := B.exec
  have hb := B.bytes
  have hr := B.returns
  have hts := fun w h => atoms_spec (ws := (Cond.code y_V_withNumber b_V_withNumber 3 (some .int) :: wA)) B.pre w (List.mem_cons_of_mem _ h)
  have hown : s.vm.findClass R_V = some m.cls := findClass_of_methodNamed B.named
  have hlocks := B.notSynchronized
  have hl := lv_entry (([.int u0, .int u1, .int u2] : List Value)) (n := 3) (Nat.le_of_ble_eq_true rfl)
  rw [lg_entry_eq]
  generalize (lg_sl (([.int u0, .int u1, .int u2] : List Value)) ++ List.replicate (3 - (lg_sl (([.int u0, .int u1, .int u2] : List Value))).length) Slot.unset).toArray = ls at hl ⊢
  have hl : lv_has ls 3 [(0, .int u0), (1, .int u1), (2, .int u2)] := hl
  unfold f_V_withNumber at hf
  refine lv_iload_n hx hb d_V_withNumber_0 rfl (lv_at hl 0 rfl) ?_
  refine lv_iload_n hx hb d_V_withNumber_1 rfl (lv_at hl 2 rfl) ?_
  refine lv_bipush (v := 7) hx hb d_V_withNumber_2 (by decide) ?_
  refine lv_iload_n hx hb d_V_withNumber_4 rfl (lv_at hl 1 rfl) ?_
  refine lv_imul hx hb d_V_withNumber_5 ?_
  refine lv_ishl hx hb d_V_withNumber_6 ?_
  refine lv_ior hx hb d_V_withNumber_7 ?_
  exact W.iret (v := (u0 ||| (u2 <<< (((7 : Int32) * u1) &&& 31)))) hx hb hr (fun t ht hW => ⟨_, rfl, hf, ht⟩) (fun q h => by cases h) d_V_withNumber_8
def f_V_number (u0 : Int32) (u1 : Int32) : Int32 := ((u0 >>> (((7 : Int32) * u1) &&& 31)) &&& (127 : Int32))
set_option maxHeartbeats 4000000 in
set_option maxRecDepth 100000 in
theorem k_V_number (l : Launch) (u0 : Int32) (u1 : Int32) (r0 : Int32) (hf : f_V_number u0 u1 = r0) : cc_MetS l y_V_number (Cond.code y_V_number b_V_number 2 (some .int) :: wA) ({ frames := 0, cells := 0, slots := 0, locals := 0 } : Room) ([.int u0, .int u1] : List Value) r0 := by
  refine Met.ofW (cc := b_V_number) (maxL := 2) (ret := (some .int)) (by decide) rfl ?_
  intro p e s m args below meth c s₁ B hml hv
  obtain rfl : args = ([.int u0, .int u1] : List Value).toArray := hv
  have hx := B.exec
  have hb := B.bytes
  have hr := B.returns
  have hts := fun w h => atoms_spec (ws := (Cond.code y_V_number b_V_number 2 (some .int) :: wA)) B.pre w (List.mem_cons_of_mem _ h)
  have hown : s.vm.findClass R_V = some m.cls := findClass_of_methodNamed B.named
  have hlocks := B.notSynchronized
  have hl := lv_entry (([.int u0, .int u1] : List Value)) (n := 2) (Nat.le_of_ble_eq_true rfl)
  rw [lg_entry_eq]
  generalize (lg_sl (([.int u0, .int u1] : List Value)) ++ List.replicate (2 - (lg_sl (([.int u0, .int u1] : List Value))).length) Slot.unset).toArray = ls at hl ⊢
  have hl : lv_has ls 2 [(0, .int u0), (1, .int u1)] := hl
  unfold f_V_number at hf
  refine lv_iload_n hx hb d_V_number_0 rfl (lv_at hl 0 rfl) ?_
  refine lv_bipush (v := 7) hx hb d_V_number_1 (by decide) ?_
  refine lv_iload_n hx hb d_V_number_3 rfl (lv_at hl 1 rfl) ?_
  refine lv_imul hx hb d_V_number_4 ?_
  refine lv_ishr hx hb d_V_number_5 ?_
  refine lv_bipush (v := 127) hx hb d_V_number_6 (by decide) ?_
  refine lv_iand hx hb d_V_number_8 ?_
  exact W.iret (v := ((u0 >>> (((7 : Int32) * u1) &&& 31)) &&& (127 : Int32))) hx hb hr (fun t ht hW => ⟨_, rfl, hf, ht⟩) (fun q h => by cases h) d_V_number_9
def f_V_spread (u0 : Int32) (u1 : Int32) : Int32 := if (f_V_typeIn u0) = (1 : Int32) then ((f_V_number u0 (0 : Int32))) else ((f_V_number u0 u1))
set_option maxHeartbeats 4000000 in
set_option maxRecDepth 100000 in
theorem k_V_spread (l : Launch) (u0 : Int32) (u1 : Int32) (r0 : Int32) (hf : f_V_spread u0 u1 = r0) : cc_MetS l y_V_spread (Cond.code y_V_spread b_V_spread 2 (some .int) :: wA) ({ frames := 1, cells := 0, slots := 0, locals := 21 } : Room) ([.int u0, .int u1] : List Value) r0 := by
  refine Met.ofW (cc := b_V_spread) (maxL := 2) (ret := (some .int)) (by decide) rfl ?_
  intro p e s m args below meth c s₁ B hml hv
  obtain rfl : args = ([.int u0, .int u1] : List Value).toArray := hv
  have hx := B.exec
  have hb := B.bytes
  have hr := B.returns
  have hts := fun w h => atoms_spec (ws := (Cond.code y_V_spread b_V_spread 2 (some .int) :: wA)) B.pre w (List.mem_cons_of_mem _ h)
  have hown : s.vm.findClass R_V = some m.cls := findClass_of_methodNamed B.named
  have hlocks := B.notSynchronized
  have hl := lv_entry (([.int u0, .int u1] : List Value)) (n := 2) (Nat.le_of_ble_eq_true rfl)
  rw [lg_entry_eq]
  generalize (lg_sl (([.int u0, .int u1] : List Value)) ++ List.replicate (2 - (lg_sl (([.int u0, .int u1] : List Value))).length) Slot.unset).toArray = ls at hl ⊢
  have hl : lv_has ls 2 [(0, .int u0), (1, .int u1)] := hl
  unfold f_V_spread at hf
  refine lv_iload_n hx hb d_V_spread_0 rfl (lv_at hl 0 rfl) ?_
  refine lv_iload_n hx hb d_V_spread_1 rfl (lv_at hl 0 rfl) ?_
  refine cc_calls (va_runS (As := [.int u0]) (rest := [.int u0]) ⟨hx, hb, hml, hown, hts⟩ (k_V_typeIn l u0 _ rfl) (cw_S 1 hts mw_254 mw_224 mw_11 mw_225 rfl rfl hd_V_typeIn ⟨Nat.le_of_ble_eq_true rfl, Nat.le_of_ble_eq_true rfl⟩) cc_preS rfl rfl hl.1 rfl (lv_room (Nat.le_of_ble_eq_true rfl)) d_V_spread_2 ⟨Nat.zero_le _, Nat.zero_le _⟩) ?_
  refine lv_iconst (v := 1) hx hb d_V_spread_5 (by decide) ?_
  refine lv_icmp_ne (tgt := 13) hx hb d_V_spread_6 (by decide) (fun h6_1 => ?_) (fun h6_1 => ?_)
  · rw [if_neg h6_1] at hf
    refine lv_iload_n hx hb d_V_spread_13 rfl (lv_at hl 1 rfl) ?_
    refine cc_calls (va_runS (As := [.int u0, .int u1]) (rest := []) ⟨hx, hb, hml, hown, hts⟩ (k_V_number l u0 u1 _ rfl) (cw_S 2 hts mw_255 mw_227 mw_11 mw_228 rfl rfl hd_V_number ⟨Nat.le_of_ble_eq_true rfl, Nat.le_of_ble_eq_true rfl⟩) cc_preS rfl rfl hl.1 rfl (lv_room (Nat.le_of_ble_eq_true rfl)) d_V_spread_14 ⟨Nat.zero_le _, Nat.zero_le _⟩) ?_
    exact W.iret (v := (f_V_number u0 u1)) hx hb hr (fun t ht hW => ⟨_, rfl, hf, ht⟩) (fun q h => by cases h) d_V_spread_17
  · rw [if_pos h6_1] at hf
    refine lv_iconst (v := 0) hx hb d_V_spread_9 (by decide) ?_
    refine lv_goto (tgt := 14) hx hb d_V_spread_10 (by decide) ?_
    refine cc_calls (va_runS (As := [.int u0, .int (0 : Int32)]) (rest := []) ⟨hx, hb, hml, hown, hts⟩ (k_V_number l u0 (0 : Int32) _ rfl) (cw_S 2 hts mw_255 mw_227 mw_11 mw_228 rfl rfl hd_V_number ⟨Nat.le_of_ble_eq_true rfl, Nat.le_of_ble_eq_true rfl⟩) cc_preS rfl rfl hl.1 rfl (lv_room (Nat.le_of_ble_eq_true rfl)) d_V_spread_14 ⟨Nat.zero_le _, Nat.zero_le _⟩) ?_
    exact W.iret (v := (f_V_number u0 (0 : Int32))) hx hb hr (fun t ht hW => ⟨_, rfl, hf, ht⟩) (fun q h => by cases h) d_V_spread_17
end
section
def f_K_put_L3 : Nat → Int32 → Int32 → Int32 → Int32 → ST_F → ST_A → Option (Int32 × ST_F × ST_A)
  | 0, _, _, _, _, _, _ => none
  | n + 1, x1, x2, x3, x4, F, A => if (F 2) ≤ x4 then (if (F 2) = (100 : Int32) then (some ((0 : Int32), (upd F 3 (1 : Int32)), A)) else (ra_g (F 2) 100 (ra_g (F 2) 100 (ra_g (F 2) 100 (some ((((F 2) + (1 : Int32)) - (1 : Int32)), (upd F 2 ((F 2) + (1 : Int32))), (va_up (va_up (va_up A 2 (upd (A 2) (F 2).toNatClampNeg x1)) 3 (upd (A 3) (F 2).toNatClampNeg x2)) 4 (upd (A 4) (F 2).toNatClampNeg x3)))))))) else (ra_g x4 100 (if ((A 2) x4.toNatClampNeg) = x1 then (ra_g x4 100 (if ((A 3) x4.toNatClampNeg) = x2 then (ra_g x4 100 (if ((A 4) x4.toNatClampNeg) = x3 then (some (x4, F, A)) else (f_K_put_L3 n x1 x2 x3 (x4 + (1 : Int32)) F A))) else (f_K_put_L3 n x1 x2 x3 (x4 + (1 : Int32)) F A))) else (f_K_put_L3 n x1 x2 x3 (x4 + (1 : Int32)) F A)))
def f_K_put (u1 : Int32) (u2 : Int32) (u3 : Int32) (Fa : ST_F) (Aa : ST_A) : Option (Int32 × ST_F × ST_A) := f_K_put_L3 200 u1 u2 u3 (0 : Int32) Fa Aa
set_option maxHeartbeats 4000000 in
set_option maxRecDepth 100000 in
theorem k_K_put (l : Launch) (dC : Nat → ClassId) (dI : Nat → Nat → Nat) (a : Nat → Nat) (cI cC : ClassId) (sz : Nat) (Fa : ST_F) (Aa : ST_A) (u1 : Int32) (u2 : Int32) (u3 : Int32) (r0 : Int32) (F9 : ST_F) (A9 : ST_A) (hf : f_K_put u1 u2 u3 Fa Aa = some (r0, F9, A9)) : cc_MetI l y_K_put (Cond.code y_K_put b_K_put 5 (some .int) :: wA) ({ frames := 0, cells := 0, slots := 0, locals := 0 } : Room) (dC, dI) vC [(cI, .int), (cC, .char)] ([.ref (a 3), .int u1, .int u2, .int u3] : List Value) (wC a cI cC Fa Aa) sz (wC a cI cC F9 A9) r0 := by
  refine Met.ofW (cc := b_K_put) (maxL := 5) (ret := (some .int)) (by decide) rfl ?_
  intro p e s m args below meth c s₁ B hml hv
  obtain ⟨rfl, hsz, hP, hK, hD0⟩ := hv
  have hx := B.exec
  have hb := B.bytes
  have hr := B.returns
  have hts := fun w h => atoms_spec (ws := (Cond.code y_K_put b_K_put 5 (some .int) :: wA)) B.pre w (List.mem_cons_of_mem _ h)
  have hown : s.vm.findClass R_K = some m.cls := findClass_of_methodNamed B.named
  have hlocks := B.notSynchronized
  subst hsz
  have hD := hD0.self (sz := s.heap.size)
  have hA : ∀ q : Nat, s.heap.size ≤ q → va_A (wC a cI cC Fa Aa) s.heap.size q := fun q h => Or.inr h
  have hS : va_S (va_A (wC a cI cC Fa Aa) s.heap.size) s.heap s.heap [] := va_S.rf
  have hl := lv_entry (([.ref (a 3), .int u1, .int u2, .int u3] : List Value)) (n := 5) (Nat.le_of_ble_eq_true rfl)
  have L3 : ∀ (n : Nat) (x1 : Int32) (x2 : Int32) (x3 : Int32) (x4 : Int32) (F : ST_F) (A : ST_A) (H : Heap) (locs : List Loc) (ls : Array Slot), lv_has ls 5 [(0, .ref (a 3)), (1, .int x1), (2, .int x2), (3, .int x3), (4, .int x4)] → va_P (dC, dI) vC (wC a cI cC F A) H → va_D (va_A (wC a cI cC Fa Aa) s.heap.size) (wC a cI cC F A) → va_S (va_A (wC a cI cC Fa Aa) s.heap.size) s.heap H locs → f_K_put_L3 n x1 x2 x3 x4 F A = some (r0, F9, A9) → W p l e (headSpec (Cond.code y_K_put b_K_put 5 (some .int) :: wA) ({ frames := 0, cells := 0, slots := 0, locals := 0 } : Room)).room s m ([.ref (a 3), .int u1, .int u2, .int u3] : List Value).toArray below meth c H locs 0 0 (MQ below (cc_Qi (dC, dI) vC [(cI, .int), (cC, .char)] (wC a cI cC Fa Aa) s.heap.size (wC a cI cC F9 A9) r0) ([.ref (a 3), .int u1, .int u2, .int u3] : List Value).toArray s 0 0 (va_A (wC a cI cC Fa Aa) s.heap.size)) (F0 m 3 ls []) := by
    intro n
    induction n with
    | zero => intro x1 x2 x3 x4 F A H locs ls hl hP hD hS hf; cases hf
    | succ n ih =>
      intro x1 x2 x3 x4 F A H locs ls hl hP hD hS hf
      rw [f_K_put_L3] at hf
      refine lv_iload hx hb d_K_put_3 (lv_at hl 4 rfl) ?_
      refine lv_aload_n hx hb d_K_put_5 rfl (lv_at hl 0 rfl) ?_
      refine va_get (D := (dC, dI)) (ci := 0) (v := .int (F 2)) (C := R_K) (T := T_K) (N := 7) hx hb hts in_K hown hK hP 3 rfl rfl 5 (by decide) (hts _ mw_45) (fun _ h9 => h9) rfl d_K_put_6 ?_
      refine lv_icmp_ge (tgt := 54) hx hb d_K_put_9 (by decide) (fun h9_1 => ?_) (fun h9_1 => ?_)
      · rw [if_pos h9_1] at hf
        refine lv_aload_n hx hb d_K_put_54 rfl (lv_at hl 0 rfl) ?_
        refine va_get (D := (dC, dI)) (ci := 0) (v := .int (F 2)) (C := R_K) (T := T_K) (N := 7) hx hb hts in_K hown hK hP 3 rfl rfl 5 (by decide) (hts _ mw_45) (fun _ h9 => h9) rfl d_K_put_55 ?_
        refine lv_bipush (v := 100) hx hb d_K_put_58 (by decide) ?_
        refine lv_icmp_ne (tgt := 70) hx hb d_K_put_60 (by decide) (fun h60_2 => ?_) (fun h60_2 => ?_)
        · rw [if_neg h60_2] at hf
          refine lv_aload_n hx hb d_K_put_70 rfl (lv_at hl 0 rfl) ?_
          refine va_get (D := (dC, dI)) (ci := 0) (v := .ref (a 4)) (C := R_K) (T := T_K) (N := 7) hx hb hts in_K hown hK hP 3 rfl rfl 0 (by decide) (hts _ mw_29) (fun _ h9 => h9) rfl d_K_put_71 ?_
          refine lv_aload_n hx hb d_K_put_74 rfl (lv_at hl 0 rfl) ?_
          refine va_get (D := (dC, dI)) (ci := 0) (v := .int (F 2)) (C := R_K) (T := T_K) (N := 7) hx hb hts in_K hown hK hP 3 rfl rfl 5 (by decide) (hts _ mw_45) (fun _ h9 => h9) rfl d_K_put_75 ?_
          refine lv_iload_n hx hb d_K_put_78 rfl (lv_at hl 1 rfl) ?_
          obtain ⟨hi, hf⟩ := ra_g_some hf
          refine va_iast hx hb hK hP hD hS 4 0 rfl rfl hi d_K_put_79 (fun H locs hP hD hS => ?_)
          have hP : va_P (dC, dI) vC [((a 0), .inr (1, [.ref (a 1), .ref (a 2), .int (F 0), .int (F 1), .ref (a 3)])), ((a 1), .inl (cI, 26, .inl (A 0))), ((a 2), .inl (cC, 160, .inl (A 1))), ((a 3), .inr (0, [.ref (a 4), .ref (a 5), .ref (a 6), .ref (a 7), .ref (a 8), .int (F 2), .int (F 3)])), ((a 4), .inl (cI, 100, .inl (upd (A 2) (F 2).toNatClampNeg x1))), ((a 5), .inl (cI, 100, .inl (A 3))), ((a 6), .inl (cI, 100, .inl (A 4))), ((a 7), .inl (cI, 3, .inl (A 5))), ((a 8), .inl (cI, 26, .inl (A 6)))] H := hP
          have hD : va_D (va_A (wC a cI cC Fa Aa) s.heap.size) [((a 0), .inr (1, [.ref (a 1), .ref (a 2), .int (F 0), .int (F 1), .ref (a 3)])), ((a 1), .inl (cI, 26, .inl (A 0))), ((a 2), .inl (cC, 160, .inl (A 1))), ((a 3), .inr (0, [.ref (a 4), .ref (a 5), .ref (a 6), .ref (a 7), .ref (a 8), .int (F 2), .int (F 3)])), ((a 4), .inl (cI, 100, .inl (upd (A 2) (F 2).toNatClampNeg x1))), ((a 5), .inl (cI, 100, .inl (A 3))), ((a 6), .inl (cI, 100, .inl (A 4))), ((a 7), .inl (cI, 3, .inl (A 5))), ((a 8), .inl (cI, 26, .inl (A 6)))] := hD
          refine lv_aload_n hx hb d_K_put_80 rfl (lv_at hl 0 rfl) ?_
          refine va_get (D := (dC, dI)) (ci := 0) (v := .ref (a 5)) (C := R_K) (T := T_K) (N := 7) hx hb hts in_K hown hK hP 3 rfl rfl 1 (by decide) (hts _ mw_32) (fun _ h9 => h9) rfl d_K_put_81 ?_
          refine lv_aload_n hx hb d_K_put_84 rfl (lv_at hl 0 rfl) ?_
          refine va_get (D := (dC, dI)) (ci := 0) (v := .int (F 2)) (C := R_K) (T := T_K) (N := 7) hx hb hts in_K hown hK hP 3 rfl rfl 5 (by decide) (hts _ mw_45) (fun _ h9 => h9) rfl d_K_put_85 ?_
          refine lv_iload_n hx hb d_K_put_88 rfl (lv_at hl 2 rfl) ?_
          obtain ⟨hi, hf⟩ := ra_g_some hf
          refine va_iast hx hb hK hP hD hS 5 0 rfl rfl hi d_K_put_89 (fun H locs hP hD hS => ?_)
          have hP : va_P (dC, dI) vC [((a 0), .inr (1, [.ref (a 1), .ref (a 2), .int (F 0), .int (F 1), .ref (a 3)])), ((a 1), .inl (cI, 26, .inl (A 0))), ((a 2), .inl (cC, 160, .inl (A 1))), ((a 3), .inr (0, [.ref (a 4), .ref (a 5), .ref (a 6), .ref (a 7), .ref (a 8), .int (F 2), .int (F 3)])), ((a 4), .inl (cI, 100, .inl (upd (A 2) (F 2).toNatClampNeg x1))), ((a 5), .inl (cI, 100, .inl (upd (A 3) (F 2).toNatClampNeg x2))), ((a 6), .inl (cI, 100, .inl (A 4))), ((a 7), .inl (cI, 3, .inl (A 5))), ((a 8), .inl (cI, 26, .inl (A 6)))] H := hP
          have hD : va_D (va_A (wC a cI cC Fa Aa) s.heap.size) [((a 0), .inr (1, [.ref (a 1), .ref (a 2), .int (F 0), .int (F 1), .ref (a 3)])), ((a 1), .inl (cI, 26, .inl (A 0))), ((a 2), .inl (cC, 160, .inl (A 1))), ((a 3), .inr (0, [.ref (a 4), .ref (a 5), .ref (a 6), .ref (a 7), .ref (a 8), .int (F 2), .int (F 3)])), ((a 4), .inl (cI, 100, .inl (upd (A 2) (F 2).toNatClampNeg x1))), ((a 5), .inl (cI, 100, .inl (upd (A 3) (F 2).toNatClampNeg x2))), ((a 6), .inl (cI, 100, .inl (A 4))), ((a 7), .inl (cI, 3, .inl (A 5))), ((a 8), .inl (cI, 26, .inl (A 6)))] := hD
          refine lv_aload_n hx hb d_K_put_90 rfl (lv_at hl 0 rfl) ?_
          refine va_get (D := (dC, dI)) (ci := 0) (v := .ref (a 6)) (C := R_K) (T := T_K) (N := 7) hx hb hts in_K hown hK hP 3 rfl rfl 2 (by decide) (hts _ mw_35) (fun _ h9 => h9) rfl d_K_put_91 ?_
          refine lv_aload_n hx hb d_K_put_94 rfl (lv_at hl 0 rfl) ?_
          refine va_get (D := (dC, dI)) (ci := 0) (v := .int (F 2)) (C := R_K) (T := T_K) (N := 7) hx hb hts in_K hown hK hP 3 rfl rfl 5 (by decide) (hts _ mw_45) (fun _ h9 => h9) rfl d_K_put_95 ?_
          refine lv_iload_n hx hb d_K_put_98 rfl (lv_at hl 3 rfl) ?_
          obtain ⟨hi, hf⟩ := ra_g_some hf
          refine va_iast hx hb hK hP hD hS 6 0 rfl rfl hi d_K_put_99 (fun H locs hP hD hS => ?_)
          have hP : va_P (dC, dI) vC [((a 0), .inr (1, [.ref (a 1), .ref (a 2), .int (F 0), .int (F 1), .ref (a 3)])), ((a 1), .inl (cI, 26, .inl (A 0))), ((a 2), .inl (cC, 160, .inl (A 1))), ((a 3), .inr (0, [.ref (a 4), .ref (a 5), .ref (a 6), .ref (a 7), .ref (a 8), .int (F 2), .int (F 3)])), ((a 4), .inl (cI, 100, .inl (upd (A 2) (F 2).toNatClampNeg x1))), ((a 5), .inl (cI, 100, .inl (upd (A 3) (F 2).toNatClampNeg x2))), ((a 6), .inl (cI, 100, .inl (upd (A 4) (F 2).toNatClampNeg x3))), ((a 7), .inl (cI, 3, .inl (A 5))), ((a 8), .inl (cI, 26, .inl (A 6)))] H := hP
          have hD : va_D (va_A (wC a cI cC Fa Aa) s.heap.size) [((a 0), .inr (1, [.ref (a 1), .ref (a 2), .int (F 0), .int (F 1), .ref (a 3)])), ((a 1), .inl (cI, 26, .inl (A 0))), ((a 2), .inl (cC, 160, .inl (A 1))), ((a 3), .inr (0, [.ref (a 4), .ref (a 5), .ref (a 6), .ref (a 7), .ref (a 8), .int (F 2), .int (F 3)])), ((a 4), .inl (cI, 100, .inl (upd (A 2) (F 2).toNatClampNeg x1))), ((a 5), .inl (cI, 100, .inl (upd (A 3) (F 2).toNatClampNeg x2))), ((a 6), .inl (cI, 100, .inl (upd (A 4) (F 2).toNatClampNeg x3))), ((a 7), .inl (cI, 3, .inl (A 5))), ((a 8), .inl (cI, 26, .inl (A 6)))] := hD
          refine lv_aload_n hx hb d_K_put_100 rfl (lv_at hl 0 rfl) ?_
          refine lv_dup hx hb d_K_put_101 rfl ?_
          refine va_get (D := (dC, dI)) (ci := 0) (v := .int (F 2)) (C := R_K) (T := T_K) (N := 7) hx hb hts in_K hown hK hP 3 rfl rfl 5 (by decide) (hts _ mw_45) (fun _ h9 => h9) rfl d_K_put_102 ?_
          refine lv_iconst (v := 1) hx hb d_K_put_105 (by decide) ?_
          refine lv_iadd hx hb d_K_put_106 ?_
          refine va_put (D := (dC, dI)) (ci := 0) (v := .int ((F 2) + (1 : Int32))) (ty := .int) (C := R_K) (T := T_K) (N := 7) hx hb hts in_K ty_K ty_K_ok nm_K hown hK hP hD hS 3 rfl rfl 5 (by decide) (hts _ mw_45) (fun _ h9 => h9) rfl (by decide +kernel) rfl rfl (Nat.le_of_ble_eq_true rfl) d_K_put_107 (fun H locs hP hD hS => ?_)
          have hP : va_P (dC, dI) vC [((a 0), .inr (1, [.ref (a 1), .ref (a 2), .int (F 0), .int (F 1), .ref (a 3)])), ((a 1), .inl (cI, 26, .inl (A 0))), ((a 2), .inl (cC, 160, .inl (A 1))), ((a 3), .inr (0, [.ref (a 4), .ref (a 5), .ref (a 6), .ref (a 7), .ref (a 8), .int ((F 2) + (1 : Int32)), .int (F 3)])), ((a 4), .inl (cI, 100, .inl (upd (A 2) (F 2).toNatClampNeg x1))), ((a 5), .inl (cI, 100, .inl (upd (A 3) (F 2).toNatClampNeg x2))), ((a 6), .inl (cI, 100, .inl (upd (A 4) (F 2).toNatClampNeg x3))), ((a 7), .inl (cI, 3, .inl (A 5))), ((a 8), .inl (cI, 26, .inl (A 6)))] H := hP
          have hD : va_D (va_A (wC a cI cC Fa Aa) s.heap.size) [((a 0), .inr (1, [.ref (a 1), .ref (a 2), .int (F 0), .int (F 1), .ref (a 3)])), ((a 1), .inl (cI, 26, .inl (A 0))), ((a 2), .inl (cC, 160, .inl (A 1))), ((a 3), .inr (0, [.ref (a 4), .ref (a 5), .ref (a 6), .ref (a 7), .ref (a 8), .int ((F 2) + (1 : Int32)), .int (F 3)])), ((a 4), .inl (cI, 100, .inl (upd (A 2) (F 2).toNatClampNeg x1))), ((a 5), .inl (cI, 100, .inl (upd (A 3) (F 2).toNatClampNeg x2))), ((a 6), .inl (cI, 100, .inl (upd (A 4) (F 2).toNatClampNeg x3))), ((a 7), .inl (cI, 3, .inl (A 5))), ((a 8), .inl (cI, 26, .inl (A 6)))] := hD
          refine lv_aload_n hx hb d_K_put_110 rfl (lv_at hl 0 rfl) ?_
          refine va_get (D := (dC, dI)) (ci := 0) (v := .int ((F 2) + (1 : Int32))) (C := R_K) (T := T_K) (N := 7) hx hb hts in_K hown hK hP 3 rfl rfl 5 (by decide) (hts _ mw_45) (fun _ h9 => h9) rfl d_K_put_111 ?_
          refine lv_iconst (v := 1) hx hb d_K_put_114 (by decide) ?_
          refine lv_isub hx hb d_K_put_115 ?_
          cases hf
          exact W.iret hx hb hr (fun t ht hW => ⟨⟨_, (), rfl, rfl, by rw [ht]; exact hP, va_K.moved hW.alike hK, hD⟩, hS.F ht⟩) hS.2.2 d_K_put_116
        · rw [if_pos h60_2] at hf
          refine lv_aload_n hx hb d_K_put_63 rfl (lv_at hl 0 rfl) ?_
          refine lv_iconst (v := 1) hx hb d_K_put_64 (by decide) ?_
          refine va_put (D := (dC, dI)) (ci := 0) (v := .int (1 : Int32)) (ty := .boolean) (C := R_K) (T := T_K) (N := 7) hx hb hts in_K ty_K ty_K_ok nm_K hown hK hP hD hS 3 rfl rfl 6 (by decide) (hts _ mw_48) (fun _ h9 => h9) rfl (by decide +kernel) rfl rfl (Nat.le_of_ble_eq_true rfl) d_K_put_65 (fun H locs hP hD hS => ?_)
          have hP : va_P (dC, dI) vC [((a 0), .inr (1, [.ref (a 1), .ref (a 2), .int (F 0), .int (F 1), .ref (a 3)])), ((a 1), .inl (cI, 26, .inl (A 0))), ((a 2), .inl (cC, 160, .inl (A 1))), ((a 3), .inr (0, [.ref (a 4), .ref (a 5), .ref (a 6), .ref (a 7), .ref (a 8), .int (F 2), .int (1 : Int32)])), ((a 4), .inl (cI, 100, .inl (A 2))), ((a 5), .inl (cI, 100, .inl (A 3))), ((a 6), .inl (cI, 100, .inl (A 4))), ((a 7), .inl (cI, 3, .inl (A 5))), ((a 8), .inl (cI, 26, .inl (A 6)))] H := hP
          have hD : va_D (va_A (wC a cI cC Fa Aa) s.heap.size) [((a 0), .inr (1, [.ref (a 1), .ref (a 2), .int (F 0), .int (F 1), .ref (a 3)])), ((a 1), .inl (cI, 26, .inl (A 0))), ((a 2), .inl (cC, 160, .inl (A 1))), ((a 3), .inr (0, [.ref (a 4), .ref (a 5), .ref (a 6), .ref (a 7), .ref (a 8), .int (F 2), .int (1 : Int32)])), ((a 4), .inl (cI, 100, .inl (A 2))), ((a 5), .inl (cI, 100, .inl (A 3))), ((a 6), .inl (cI, 100, .inl (A 4))), ((a 7), .inl (cI, 3, .inl (A 5))), ((a 8), .inl (cI, 26, .inl (A 6)))] := hD
          refine lv_iconst (v := 0) hx hb d_K_put_68 (by decide) ?_
          cases hf
          exact W.iret hx hb hr (fun t ht hW => ⟨⟨_, (), rfl, rfl, by rw [ht]; exact hP, va_K.moved hW.alike hK, hD⟩, hS.F ht⟩) hS.2.2 d_K_put_69
      · rw [if_neg h9_1] at hf
        refine lv_aload_n hx hb d_K_put_12 rfl (lv_at hl 0 rfl) ?_
        refine va_get (D := (dC, dI)) (ci := 0) (v := .ref (a 4)) (C := R_K) (T := T_K) (N := 7) hx hb hts in_K hown hK hP 3 rfl rfl 0 (by decide) (hts _ mw_29) (fun _ h9 => h9) rfl d_K_put_13 ?_
        refine lv_iload hx hb d_K_put_16 (lv_at hl 4 rfl) ?_
        obtain ⟨hi, hf⟩ := ra_g_some hf
        refine va_iald hx hb hK hP 4 0 rfl rfl hi d_K_put_18 ?_
        refine lv_iload_n hx hb d_K_put_19 rfl (lv_at hl 1 rfl) ?_
        refine lv_icmp_ne (tgt := 48) hx hb d_K_put_20 (by decide) (fun h20_3 => ?_) (fun h20_3 => ?_)
        · rw [if_neg h20_3] at hf
          refine lv_iinc (k := 4) (v := (x4 + (1 : Int32))) hx hb d_K_put_48 hl rfl (by rfl) (by decide) rfl (fun ls hl => ?_)
          have hl : lv_has ls 5 [(4, .int (x4 + (1 : Int32))), (0, .ref (a 3)), (1, .int x1), (2, .int x2), (3, .int x3)] := hl
          refine lv_goto (tgt := 3) hx hb d_K_put_51 (by decide) ?_
          have hl : lv_has ls 5 [(0, .ref (a 3)), (1, .int x1), (2, .int x2), (3, .int x3), (4, .int (x4 + (1 : Int32)))] := lv_sub hl [1, 2, 3, 4, 0] rfl
          exact ih x1 x2 x3 (x4 + (1 : Int32)) F A _ _ _ hl hP hD hS hf
        · rw [if_pos h20_3] at hf
          refine lv_aload_n hx hb d_K_put_23 rfl (lv_at hl 0 rfl) ?_
          refine va_get (D := (dC, dI)) (ci := 0) (v := .ref (a 5)) (C := R_K) (T := T_K) (N := 7) hx hb hts in_K hown hK hP 3 rfl rfl 1 (by decide) (hts _ mw_32) (fun _ h9 => h9) rfl d_K_put_24 ?_
          refine lv_iload hx hb d_K_put_27 (lv_at hl 4 rfl) ?_
          obtain ⟨hi, hf⟩ := ra_g_some hf
          refine va_iald hx hb hK hP 5 0 rfl rfl hi d_K_put_29 ?_
          refine lv_iload_n hx hb d_K_put_30 rfl (lv_at hl 2 rfl) ?_
          refine lv_icmp_ne (tgt := 48) hx hb d_K_put_31 (by decide) (fun h31_4 => ?_) (fun h31_4 => ?_)
          · rw [if_neg h31_4] at hf
            refine lv_iinc (k := 4) (v := (x4 + (1 : Int32))) hx hb d_K_put_48 hl rfl (by rfl) (by decide) rfl (fun ls hl => ?_)
            have hl : lv_has ls 5 [(4, .int (x4 + (1 : Int32))), (0, .ref (a 3)), (1, .int x1), (2, .int x2), (3, .int x3)] := hl
            refine lv_goto (tgt := 3) hx hb d_K_put_51 (by decide) ?_
            have hl : lv_has ls 5 [(0, .ref (a 3)), (1, .int x1), (2, .int x2), (3, .int x3), (4, .int (x4 + (1 : Int32)))] := lv_sub hl [1, 2, 3, 4, 0] rfl
            exact ih x1 x2 x3 (x4 + (1 : Int32)) F A _ _ _ hl hP hD hS hf
          · rw [if_pos h31_4] at hf
            refine lv_aload_n hx hb d_K_put_34 rfl (lv_at hl 0 rfl) ?_
            refine va_get (D := (dC, dI)) (ci := 0) (v := .ref (a 6)) (C := R_K) (T := T_K) (N := 7) hx hb hts in_K hown hK hP 3 rfl rfl 2 (by decide) (hts _ mw_35) (fun _ h9 => h9) rfl d_K_put_35 ?_
            refine lv_iload hx hb d_K_put_38 (lv_at hl 4 rfl) ?_
            obtain ⟨hi, hf⟩ := ra_g_some hf
            refine va_iald hx hb hK hP 6 0 rfl rfl hi d_K_put_40 ?_
            refine lv_iload_n hx hb d_K_put_41 rfl (lv_at hl 3 rfl) ?_
            refine lv_icmp_ne (tgt := 48) hx hb d_K_put_42 (by decide) (fun h42_5 => ?_) (fun h42_5 => ?_)
            · rw [if_neg h42_5] at hf
              refine lv_iinc (k := 4) (v := (x4 + (1 : Int32))) hx hb d_K_put_48 hl rfl (by rfl) (by decide) rfl (fun ls hl => ?_)
              have hl : lv_has ls 5 [(4, .int (x4 + (1 : Int32))), (0, .ref (a 3)), (1, .int x1), (2, .int x2), (3, .int x3)] := hl
              refine lv_goto (tgt := 3) hx hb d_K_put_51 (by decide) ?_
              have hl : lv_has ls 5 [(0, .ref (a 3)), (1, .int x1), (2, .int x2), (3, .int x3), (4, .int (x4 + (1 : Int32)))] := lv_sub hl [1, 2, 3, 4, 0] rfl
              exact ih x1 x2 x3 (x4 + (1 : Int32)) F A _ _ _ hl hP hD hS hf
            · rw [if_pos h42_5] at hf
              refine lv_iload hx hb d_K_put_45 (lv_at hl 4 rfl) ?_
              cases hf
              exact W.iret hx hb hr (fun t ht hW => ⟨⟨_, (), rfl, rfl, by rw [ht]; exact hP, va_K.moved hW.alike hK, hD⟩, hS.F ht⟩) hS.2.2 d_K_put_47
  rw [lg_entry_eq]
  generalize (lg_sl (([.ref (a 3), .int u1, .int u2, .int u3] : List Value)) ++ List.replicate (5 - (lg_sl (([.ref (a 3), .int u1, .int u2, .int u3] : List Value))).length) Slot.unset).toArray = ls at hl ⊢
  have hl : lv_has ls 5 [(0, .ref (a 3)), (1, .int u1), (2, .int u2), (3, .int u3)] := hl
  unfold f_K_put at hf
  refine lv_iconst (v := 0) hx hb d_K_put_0 (by decide) ?_
  refine lv_istore hx hb d_K_put_1 hl (by decide) rfl (fun ls hl => ?_)
  have hl : lv_has ls 5 [(4, .int (0 : Int32)), (0, .ref (a 3)), (1, .int u1), (2, .int u2), (3, .int u3)] := hl
  have hl : lv_has ls 5 [(0, .ref (a 3)), (1, .int u1), (2, .int u2), (3, .int u3), (4, .int (0 : Int32))] := lv_sub hl [1, 2, 3, 4, 0] rfl
  exact L3 200 u1 u2 u3 (0 : Int32) Fa Aa _ _ _ hl hP hD hS hf
def f_K_clear  (Fa : ST_F) (Aa : ST_A) : Option (ST_F × ST_A) := some ((upd (upd Fa 2 (0 : Int32)) 3 (0 : Int32)), Aa)
set_option maxHeartbeats 4000000 in
set_option maxRecDepth 100000 in
theorem k_K_clear (l : Launch) (dC : Nat → ClassId) (dI : Nat → Nat → Nat) (a : Nat → Nat) (cI cC : ClassId) (sz : Nat) (Fa : ST_F) (Aa : ST_A)  (F9 : ST_F) (A9 : ST_A) (hf : f_K_clear  Fa Aa = some (F9, A9)) : cc_MetV l y_K_clear (Cond.code y_K_clear b_K_clear 1 none :: wA) ({ frames := 0, cells := 0, slots := 0, locals := 0 } : Room) (dC, dI) vC [(cI, .int), (cC, .char)] ([.ref (a 3)] : List Value) (wC a cI cC Fa Aa) sz (wC a cI cC F9 A9) := by
  refine Met.ofW (cc := b_K_clear) (maxL := 1) (ret := none) (by decide) rfl ?_
  intro p e s m args below meth c s₁ B hml hv
  obtain ⟨rfl, hsz, hP, hK, hD0⟩ := hv
  have hx := B.exec
  have hb := B.bytes
  have hr := B.returns
  have hts := fun w h => atoms_spec (ws := (Cond.code y_K_clear b_K_clear 1 none :: wA)) B.pre w (List.mem_cons_of_mem _ h)
  have hown : s.vm.findClass R_K = some m.cls := findClass_of_methodNamed B.named
  have hlocks := B.notSynchronized
  subst hsz
  have hD := hD0.self (sz := s.heap.size)
  have hA : ∀ q : Nat, s.heap.size ≤ q → va_A (wC a cI cC Fa Aa) s.heap.size q := fun q h => Or.inr h
  have hS : va_S (va_A (wC a cI cC Fa Aa) s.heap.size) s.heap s.heap [] := va_S.rf
  have hl := lv_entry (([.ref (a 3)] : List Value)) (n := 1) (Nat.le_of_ble_eq_true rfl)
  rw [lg_entry_eq]
  generalize (lg_sl (([.ref (a 3)] : List Value)) ++ List.replicate (1 - (lg_sl (([.ref (a 3)] : List Value))).length) Slot.unset).toArray = ls at hl ⊢
  have hl : lv_has ls 1 [(0, .ref (a 3))] := hl
  unfold f_K_clear at hf
  refine lv_aload_n hx hb d_K_clear_0 rfl (lv_at hl 0 rfl) ?_
  refine lv_iconst (v := 0) hx hb d_K_clear_1 (by decide) ?_
  refine va_put (D := (dC, dI)) (ci := 0) (v := .int (0 : Int32)) (ty := .int) (C := R_K) (T := T_K) (N := 7) hx hb hts in_K ty_K ty_K_ok nm_K hown hK hP hD hS 3 rfl rfl 5 (by decide) (hts _ mw_45) (fun _ h9 => h9) rfl (by decide +kernel) rfl rfl (Nat.le_of_ble_eq_true rfl) d_K_clear_2 (fun H locs hP hD hS => ?_)
  have hP : va_P (dC, dI) vC [((a 0), .inr (1, [.ref (a 1), .ref (a 2), .int (Fa 0), .int (Fa 1), .ref (a 3)])), ((a 1), .inl (cI, 26, .inl (Aa 0))), ((a 2), .inl (cC, 160, .inl (Aa 1))), ((a 3), .inr (0, [.ref (a 4), .ref (a 5), .ref (a 6), .ref (a 7), .ref (a 8), .int (0 : Int32), .int (Fa 3)])), ((a 4), .inl (cI, 100, .inl (Aa 2))), ((a 5), .inl (cI, 100, .inl (Aa 3))), ((a 6), .inl (cI, 100, .inl (Aa 4))), ((a 7), .inl (cI, 3, .inl (Aa 5))), ((a 8), .inl (cI, 26, .inl (Aa 6)))] H := hP
  have hD : va_D (va_A (wC a cI cC Fa Aa) s.heap.size) [((a 0), .inr (1, [.ref (a 1), .ref (a 2), .int (Fa 0), .int (Fa 1), .ref (a 3)])), ((a 1), .inl (cI, 26, .inl (Aa 0))), ((a 2), .inl (cC, 160, .inl (Aa 1))), ((a 3), .inr (0, [.ref (a 4), .ref (a 5), .ref (a 6), .ref (a 7), .ref (a 8), .int (0 : Int32), .int (Fa 3)])), ((a 4), .inl (cI, 100, .inl (Aa 2))), ((a 5), .inl (cI, 100, .inl (Aa 3))), ((a 6), .inl (cI, 100, .inl (Aa 4))), ((a 7), .inl (cI, 3, .inl (Aa 5))), ((a 8), .inl (cI, 26, .inl (Aa 6)))] := hD
  refine lv_aload_n hx hb d_K_clear_5 rfl (lv_at hl 0 rfl) ?_
  refine lv_iconst (v := 0) hx hb d_K_clear_6 (by decide) ?_
  refine va_put (D := (dC, dI)) (ci := 0) (v := .int (0 : Int32)) (ty := .boolean) (C := R_K) (T := T_K) (N := 7) hx hb hts in_K ty_K ty_K_ok nm_K hown hK hP hD hS 3 rfl rfl 6 (by decide) (hts _ mw_48) (fun _ h9 => h9) rfl (by decide +kernel) rfl rfl (Nat.le_of_ble_eq_true rfl) d_K_clear_7 (fun H locs hP hD hS => ?_)
  have hP : va_P (dC, dI) vC [((a 0), .inr (1, [.ref (a 1), .ref (a 2), .int (Fa 0), .int (Fa 1), .ref (a 3)])), ((a 1), .inl (cI, 26, .inl (Aa 0))), ((a 2), .inl (cC, 160, .inl (Aa 1))), ((a 3), .inr (0, [.ref (a 4), .ref (a 5), .ref (a 6), .ref (a 7), .ref (a 8), .int (0 : Int32), .int (0 : Int32)])), ((a 4), .inl (cI, 100, .inl (Aa 2))), ((a 5), .inl (cI, 100, .inl (Aa 3))), ((a 6), .inl (cI, 100, .inl (Aa 4))), ((a 7), .inl (cI, 3, .inl (Aa 5))), ((a 8), .inl (cI, 26, .inl (Aa 6)))] H := hP
  have hD : va_D (va_A (wC a cI cC Fa Aa) s.heap.size) [((a 0), .inr (1, [.ref (a 1), .ref (a 2), .int (Fa 0), .int (Fa 1), .ref (a 3)])), ((a 1), .inl (cI, 26, .inl (Aa 0))), ((a 2), .inl (cC, 160, .inl (Aa 1))), ((a 3), .inr (0, [.ref (a 4), .ref (a 5), .ref (a 6), .ref (a 7), .ref (a 8), .int (0 : Int32), .int (0 : Int32)])), ((a 4), .inl (cI, 100, .inl (Aa 2))), ((a 5), .inl (cI, 100, .inl (Aa 3))), ((a 6), .inl (cI, 100, .inl (Aa 4))), ((a 7), .inl (cI, 3, .inl (Aa 5))), ((a 8), .inl (cI, 26, .inl (Aa 6)))] := hD
  cases hf
  exact W.vret hx hb hr (fun t ht hW => ⟨⟨(), rfl, trivial, by rw [ht]; exact hP, va_K.moved hW.alike hK, hD⟩, hS.F ht⟩) hS.2.2 d_K_clear_10
def f_C_next  (Fa : ST_F) (Aa : ST_A) : Option (Int32 × ST_F × ST_A) := if (Fa 0) ≤ (Fa 1) then (some ((0 : Int32), Fa, Aa)) else (ra_g (Fa 1) 160 (ra_nc ((Aa 1) (Fa 1).toNatClampNeg) (some (((Aa 1) (Fa 1).toNatClampNeg), Fa, Aa))))
set_option maxHeartbeats 4000000 in
set_option maxRecDepth 100000 in
theorem k_C_next (l : Launch) (dC : Nat → ClassId) (dI : Nat → Nat → Nat) (a : Nat → Nat) (cI cC : ClassId) (sz : Nat) (Fa : ST_F) (Aa : ST_A)  (r0 : Int32) (F9 : ST_F) (A9 : ST_A) (hf : f_C_next  Fa Aa = some (r0, F9, A9)) : cc_MetI l y_C_next (Cond.code y_C_next b_C_next 1 (some .char) :: wA) ({ frames := 0, cells := 0, slots := 0, locals := 0 } : Room) (dC, dI) vC [(cI, .int), (cC, .char)] ([.ref (a 0)] : List Value) (wC a cI cC Fa Aa) sz (wC a cI cC F9 A9) r0 := by
  refine Met.ofW (cc := b_C_next) (maxL := 1) (ret := (some .char)) (by decide) rfl ?_
  intro p e s m args below meth c s₁ B hml hv
  obtain ⟨rfl, hsz, hP, hK, hD0⟩ := hv
  have hx := B.exec
  have hb := B.bytes
  have hr := B.returns
  have hts := fun w h => atoms_spec (ws := (Cond.code y_C_next b_C_next 1 (some .char) :: wA)) B.pre w (List.mem_cons_of_mem _ h)
  have hown : s.vm.findClass R_C = some m.cls := findClass_of_methodNamed B.named
  have hlocks := B.notSynchronized
  subst hsz
  have hD := hD0.self (sz := s.heap.size)
  have hA : ∀ q : Nat, s.heap.size ≤ q → va_A (wC a cI cC Fa Aa) s.heap.size q := fun q h => Or.inr h
  have hS : va_S (va_A (wC a cI cC Fa Aa) s.heap.size) s.heap s.heap [] := va_S.rf
  have hl := lv_entry (([.ref (a 0)] : List Value)) (n := 1) (Nat.le_of_ble_eq_true rfl)
  rw [lg_entry_eq]
  generalize (lg_sl (([.ref (a 0)] : List Value)) ++ List.replicate (1 - (lg_sl (([.ref (a 0)] : List Value))).length) Slot.unset).toArray = ls at hl ⊢
  have hl : lv_has ls 1 [(0, .ref (a 0))] := hl
  unfold f_C_next at hf
  refine lv_aload_n hx hb d_C_next_0 rfl (lv_at hl 0 rfl) ?_
  refine va_get (D := (dC, dI)) (ci := 1) (v := .int (Fa 1)) (C := R_C) (T := T_C) (N := 5) hx hb hts in_C hown hK hP 0 rfl rfl 3 (by decide) (hts _ mw_78) (fun _ h9 => h9) rfl d_C_next_1 ?_
  refine lv_aload_n hx hb d_C_next_4 rfl (lv_at hl 0 rfl) ?_
  refine va_get (D := (dC, dI)) (ci := 1) (v := .int (Fa 0)) (C := R_C) (T := T_C) (N := 5) hx hb hts in_C hown hK hP 0 rfl rfl 2 (by decide) (hts _ mw_77) (fun _ h9 => h9) rfl d_C_next_5 ?_
  refine lv_icmp_ge (tgt := 23) hx hb d_C_next_8 (by decide) (fun h8_1 => ?_) (fun h8_1 => ?_)
  · rw [if_pos h8_1] at hf
    refine lv_iconst (v := 0) hx hb d_C_next_23 (by decide) ?_
    cases hf
    exact W.zret hx hb hr (by rfl) (fun t ht hW => ⟨⟨_, (), rfl, rfl, by rw [ht]; exact hP, va_K.moved hW.alike hK, hD⟩, hS.F ht⟩) hS.2.2 d_C_next_24
  · rw [if_neg h8_1] at hf
    refine lv_aload_n hx hb d_C_next_11 rfl (lv_at hl 0 rfl) ?_
    refine va_get (D := (dC, dI)) (ci := 1) (v := .ref (a 2)) (C := R_C) (T := T_C) (N := 5) hx hb hts in_C hown hK hP 0 rfl rfl 1 (by decide) (hts _ mw_76) (fun _ h9 => h9) rfl d_C_next_12 ?_
    refine lv_aload_n hx hb d_C_next_15 rfl (lv_at hl 0 rfl) ?_
    refine va_get (D := (dC, dI)) (ci := 1) (v := .int (Fa 1)) (C := R_C) (T := T_C) (N := 5) hx hb hts in_C hown hK hP 0 rfl rfl 3 (by decide) (hts _ mw_78) (fun _ h9 => h9) rfl d_C_next_16 ?_
    obtain ⟨hi, hf⟩ := ra_g_some hf
    refine va_cald hx hb hK hP 2 1 rfl rfl hi d_C_next_19 ?_
    refine lv_goto (tgt := 24) hx hb d_C_next_20 (by decide) ?_
    obtain ⟨hn, hf⟩ := ra_nc_some hf
    cases hf
    exact W.zret hx hb hr hn (fun t ht hW => ⟨⟨_, (), rfl, rfl, by rw [ht]; exact hP, va_K.moved hW.alike hK, hD⟩, hS.F ht⟩) hS.2.2 d_C_next_24
def f_C_takes (u1 : Int32) (Fa : ST_F) (Aa : ST_A) : Option (Int32 × ST_F × ST_A) := ra_bi (f_C_next  Fa Aa) (fun r1 F1 A1 => if r1 = u1 then (some ((1 : Int32), (upd F1 1 ((F1 1) + (1 : Int32))), A1)) else (some ((0 : Int32), F1, A1)))
set_option maxHeartbeats 4000000 in
set_option maxRecDepth 100000 in
theorem k_C_takes (l : Launch) (dC : Nat → ClassId) (dI : Nat → Nat → Nat) (a : Nat → Nat) (cI cC : ClassId) (sz : Nat) (Fa : ST_F) (Aa : ST_A) (u1 : Int32) (r0 : Int32) (F9 : ST_F) (A9 : ST_A) (hf : f_C_takes u1 Fa Aa = some (r0, F9, A9)) : cc_MetI l y_C_takes (Cond.code y_C_takes b_C_takes 2 (some .boolean) :: wA) ({ frames := 1, cells := 0, slots := 0, locals := 20 } : Room) (dC, dI) vC [(cI, .int), (cC, .char)] ([.ref (a 0), .int u1] : List Value) (wC a cI cC Fa Aa) sz (wC a cI cC F9 A9) r0 := by
  refine Met.ofW (cc := b_C_takes) (maxL := 2) (ret := (some .boolean)) (by decide) rfl ?_
  intro p e s m args below meth c s₁ B hml hv
  obtain ⟨rfl, hsz, hP, hK, hD0⟩ := hv
  have hx := B.exec
  have hb := B.bytes
  have hr := B.returns
  have hts := fun w h => atoms_spec (ws := (Cond.code y_C_takes b_C_takes 2 (some .boolean) :: wA)) B.pre w (List.mem_cons_of_mem _ h)
  have hown : s.vm.findClass R_C = some m.cls := findClass_of_methodNamed B.named
  have hlocks := B.notSynchronized
  subst hsz
  have hD := hD0.self (sz := s.heap.size)
  have hA : ∀ q : Nat, s.heap.size ≤ q → va_A (wC a cI cC Fa Aa) s.heap.size q := fun q h => Or.inr h
  have hS : va_S (va_A (wC a cI cC Fa Aa) s.heap.size) s.heap s.heap [] := va_S.rf
  have hl := lv_entry (([.ref (a 0), .int u1] : List Value)) (n := 2) (Nat.le_of_ble_eq_true rfl)
  rw [lg_entry_eq]
  generalize (lg_sl (([.ref (a 0), .int u1] : List Value)) ++ List.replicate (2 - (lg_sl (([.ref (a 0), .int u1] : List Value))).length) Slot.unset).toArray = ls at hl ⊢
  have hl : lv_has ls 2 [(0, .ref (a 0)), (1, .int u1)] := hl
  unfold f_C_takes at hf
  refine lv_aload_n hx hb d_C_takes_0 rfl (lv_at hl 0 rfl) ?_
  have hP : va_P (dC, dI) vC (wC a cI cC Fa Aa) s.heap := hP
  have hD : va_D (va_A (wC a cI cC Fa Aa) s.heap.size) (wC a cI cC Fa Aa) := hD
  obtain ⟨r1, F1, A1, hc, hf⟩ := ra_bi_some hf
  refine cc_calli (va_runV (As := []) (rest := []) ⟨hx, hb, hml, hown, hts⟩ (k_C_next l dC dI a cI cC s.heap.size Fa Aa  r1 F1 A1 hc) (cw_V 0 hts mw_155 mw_157 ms_C_next mw_3 mw_158 rfl rfl rfl hd_C_next ⟨Nat.le_of_ble_eq_true rfl, Nat.le_of_ble_eq_true rfl⟩) (cc_preV hK hP hD rfl (q0 := 0) rfl) rfl rfl hl.1 rfl (lv_room (Nat.le_of_ble_eq_true rfl)) d_C_takes_1 ⟨Nat.zero_le _, Nat.zero_le _⟩) hD hS hA (fun H locs hP hD hS => ?_)
  refine lv_iload_n hx hb d_C_takes_4 rfl (lv_at hl 1 rfl) ?_
  refine lv_icmp_eq (tgt := 10) hx hb d_C_takes_5 (by decide) (fun h5_2 => ?_) (fun h5_2 => ?_)
  · rw [if_pos h5_2] at hf
    refine lv_aload_n hx hb d_C_takes_10 rfl (lv_at hl 0 rfl) ?_
    refine lv_dup hx hb d_C_takes_11 rfl ?_
    refine va_get (D := (dC, dI)) (ci := 1) (v := .int (F1 1)) (C := R_C) (T := T_C) (N := 5) hx hb hts in_C hown hK hP 0 rfl rfl 3 (by decide) (hts _ mw_78) (fun _ h9 => h9) rfl d_C_takes_12 ?_
    refine lv_iconst (v := 1) hx hb d_C_takes_15 (by decide) ?_
    refine lv_iadd hx hb d_C_takes_16 ?_
    refine va_put (D := (dC, dI)) (ci := 1) (v := .int ((F1 1) + (1 : Int32))) (ty := .int) (C := R_C) (T := T_C) (N := 5) hx hb hts in_C ty_C ty_C_ok nm_C hown hK hP hD hS 0 rfl rfl 3 (by decide) (hts _ mw_78) (fun _ h9 => h9) rfl (by decide +kernel) rfl rfl (Nat.le_of_ble_eq_true rfl) d_C_takes_17 (fun H locs hP hD hS => ?_)
    have hP : va_P (dC, dI) vC [((a 0), .inr (1, [.ref (a 1), .ref (a 2), .int (F1 0), .int ((F1 1) + (1 : Int32)), .ref (a 3)])), ((a 1), .inl (cI, 26, .inl (A1 0))), ((a 2), .inl (cC, 160, .inl (A1 1))), ((a 3), .inr (0, [.ref (a 4), .ref (a 5), .ref (a 6), .ref (a 7), .ref (a 8), .int (F1 2), .int (F1 3)])), ((a 4), .inl (cI, 100, .inl (A1 2))), ((a 5), .inl (cI, 100, .inl (A1 3))), ((a 6), .inl (cI, 100, .inl (A1 4))), ((a 7), .inl (cI, 3, .inl (A1 5))), ((a 8), .inl (cI, 26, .inl (A1 6)))] H := hP
    have hD : va_D (va_A (wC a cI cC Fa Aa) s.heap.size) [((a 0), .inr (1, [.ref (a 1), .ref (a 2), .int (F1 0), .int ((F1 1) + (1 : Int32)), .ref (a 3)])), ((a 1), .inl (cI, 26, .inl (A1 0))), ((a 2), .inl (cC, 160, .inl (A1 1))), ((a 3), .inr (0, [.ref (a 4), .ref (a 5), .ref (a 6), .ref (a 7), .ref (a 8), .int (F1 2), .int (F1 3)])), ((a 4), .inl (cI, 100, .inl (A1 2))), ((a 5), .inl (cI, 100, .inl (A1 3))), ((a 6), .inl (cI, 100, .inl (A1 4))), ((a 7), .inl (cI, 3, .inl (A1 5))), ((a 8), .inl (cI, 26, .inl (A1 6)))] := hD
    refine lv_iconst (v := 1) hx hb d_C_takes_20 (by decide) ?_
    cases hf
    exact W.zret hx hb hr (by rfl) (fun t ht hW => ⟨⟨_, (), rfl, rfl, by rw [ht]; exact hP, va_K.moved hW.alike hK, hD⟩, hS.F ht⟩) hS.2.2 d_C_takes_21
  · rw [if_neg h5_2] at hf
    refine lv_iconst (v := 0) hx hb d_C_takes_8 (by decide) ?_
    cases hf
    exact W.zret hx hb hr (by rfl) (fun t ht hW => ⟨⟨_, (), rfl, rfl, by rw [ht]; exact hP, va_K.moved hW.alike hK, hD⟩, hS.F ht⟩) hS.2.2 d_C_takes_9
end
section
def f_C_isDigit (u0 : Int32) : Int32 := if u0 < (48 : Int32) then ((0 : Int32)) else (if (57 : Int32) < u0 then ((0 : Int32)) else ((1 : Int32)))
set_option maxHeartbeats 4000000 in
set_option maxRecDepth 100000 in
theorem k_C_isDigit (l : Launch) (u0 : Int32) (r0 : Int32) (hf : f_C_isDigit u0 = r0) : cc_MetS l y_C_isDigit (Cond.code y_C_isDigit b_C_isDigit 1 (some .boolean) :: wA) ({ frames := 0, cells := 0, slots := 0, locals := 0 } : Room) ([.int u0] : List Value) r0 := by
  refine Met.ofW (cc := b_C_isDigit) (maxL := 1) (ret := (some .boolean)) (by decide) rfl ?_
  intro p e s m args below meth c s₁ B hml hv
  obtain rfl : args = ([.int u0] : List Value).toArray := hv
  have hx := B.exec
  have hb := B.bytes
  have hr := B.returns
  have hts := fun w h => atoms_spec (ws := (Cond.code y_C_isDigit b_C_isDigit 1 (some .boolean) :: wA)) B.pre w (List.mem_cons_of_mem _ h)
  have hown : s.vm.findClass R_C = some m.cls := findClass_of_methodNamed B.named
  have hlocks := B.notSynchronized
  have hl := lv_entry (([.int u0] : List Value)) (n := 1) (Nat.le_of_ble_eq_true rfl)
  rw [lg_entry_eq]
  generalize (lg_sl (([.int u0] : List Value)) ++ List.replicate (1 - (lg_sl (([.int u0] : List Value))).length) Slot.unset).toArray = ls at hl ⊢
  have hl : lv_has ls 1 [(0, .int u0)] := hl
  unfold f_C_isDigit at hf
  refine lv_iload_n hx hb d_C_isDigit_0 rfl (lv_at hl 0 rfl) ?_
  refine lv_bipush (v := 48) hx hb d_C_isDigit_1 (by decide) ?_
  refine lv_icmp_lt (tgt := 16) hx hb d_C_isDigit_3 (by decide) (fun h3_1 => ?_) (fun h3_1 => ?_)
  · rw [if_pos h3_1] at hf
    refine lv_iconst (v := 0) hx hb d_C_isDigit_16 (by decide) ?_
    exact W.zret (v := (0 : Int32)) hx hb hr (by rfl) (fun t ht hW => ⟨_, rfl, hf, ht⟩) (fun q h => by cases h) d_C_isDigit_17
  · rw [if_neg h3_1] at hf
    refine lv_iload_n hx hb d_C_isDigit_6 rfl (lv_at hl 0 rfl) ?_
    refine lv_bipush (v := 57) hx hb d_C_isDigit_7 (by decide) ?_
    refine lv_icmp_gt (tgt := 16) hx hb d_C_isDigit_9 (by decide) (fun h9_2 => ?_) (fun h9_2 => ?_)
    · rw [if_pos h9_2] at hf
      refine lv_iconst (v := 0) hx hb d_C_isDigit_16 (by decide) ?_
      exact W.zret (v := (0 : Int32)) hx hb hr (by rfl) (fun t ht hW => ⟨_, rfl, hf, ht⟩) (fun q h => by cases h) d_C_isDigit_17
    · rw [if_neg h9_2] at hf
      refine lv_iconst (v := 1) hx hb d_C_isDigit_12 (by decide) ?_
      refine lv_goto (tgt := 17) hx hb d_C_isDigit_13 (by decide) ?_
      exact W.zret (v := (1 : Int32)) hx hb hr (by rfl) (fun t ht hW => ⟨_, rfl, hf, ht⟩) (fun q h => by cases h) d_C_isDigit_17
def f_C_isSmall (u0 : Int32) : Int32 := if u0 < (97 : Int32) then ((0 : Int32)) else (if (122 : Int32) < u0 then ((0 : Int32)) else ((1 : Int32)))
set_option maxHeartbeats 4000000 in
set_option maxRecDepth 100000 in
theorem k_C_isSmall (l : Launch) (u0 : Int32) (r0 : Int32) (hf : f_C_isSmall u0 = r0) : cc_MetS l y_C_isSmall (Cond.code y_C_isSmall b_C_isSmall 1 (some .boolean) :: wA) ({ frames := 0, cells := 0, slots := 0, locals := 0 } : Room) ([.int u0] : List Value) r0 := by
  refine Met.ofW (cc := b_C_isSmall) (maxL := 1) (ret := (some .boolean)) (by decide) rfl ?_
  intro p e s m args below meth c s₁ B hml hv
  obtain rfl : args = ([.int u0] : List Value).toArray := hv
  have hx := B.exec
  have hb := B.bytes
  have hr := B.returns
  have hts := fun w h => atoms_spec (ws := (Cond.code y_C_isSmall b_C_isSmall 1 (some .boolean) :: wA)) B.pre w (List.mem_cons_of_mem _ h)
  have hown : s.vm.findClass R_C = some m.cls := findClass_of_methodNamed B.named
  have hlocks := B.notSynchronized
  have hl := lv_entry (([.int u0] : List Value)) (n := 1) (Nat.le_of_ble_eq_true rfl)
  rw [lg_entry_eq]
  generalize (lg_sl (([.int u0] : List Value)) ++ List.replicate (1 - (lg_sl (([.int u0] : List Value))).length) Slot.unset).toArray = ls at hl ⊢
  have hl : lv_has ls 1 [(0, .int u0)] := hl
  unfold f_C_isSmall at hf
  refine lv_iload_n hx hb d_C_isSmall_0 rfl (lv_at hl 0 rfl) ?_
  refine lv_bipush (v := 97) hx hb d_C_isSmall_1 (by decide) ?_
  refine lv_icmp_lt (tgt := 16) hx hb d_C_isSmall_3 (by decide) (fun h3_1 => ?_) (fun h3_1 => ?_)
  · rw [if_pos h3_1] at hf
    refine lv_iconst (v := 0) hx hb d_C_isSmall_16 (by decide) ?_
    exact W.zret (v := (0 : Int32)) hx hb hr (by rfl) (fun t ht hW => ⟨_, rfl, hf, ht⟩) (fun q h => by cases h) d_C_isSmall_17
  · rw [if_neg h3_1] at hf
    refine lv_iload_n hx hb d_C_isSmall_6 rfl (lv_at hl 0 rfl) ?_
    refine lv_bipush (v := 122) hx hb d_C_isSmall_7 (by decide) ?_
    refine lv_icmp_gt (tgt := 16) hx hb d_C_isSmall_9 (by decide) (fun h9_2 => ?_) (fun h9_2 => ?_)
    · rw [if_pos h9_2] at hf
      refine lv_iconst (v := 0) hx hb d_C_isSmall_16 (by decide) ?_
      exact W.zret (v := (0 : Int32)) hx hb hr (by rfl) (fun t ht hW => ⟨_, rfl, hf, ht⟩) (fun q h => by cases h) d_C_isSmall_17
    · rw [if_neg h9_2] at hf
      refine lv_iconst (v := 1) hx hb d_C_isSmall_12 (by decide) ?_
      refine lv_goto (tgt := 17) hx hb d_C_isSmall_13 (by decide) ?_
      exact W.zret (v := (1 : Int32)) hx hb hr (by rfl) (fun t ht hW => ⟨_, rfl, hf, ht⟩) (fun q h => by cases h) d_C_isSmall_17
def f_C_isPlace (u0 : Int32) : Int32 := if u0 < (120 : Int32) then ((0 : Int32)) else (if (122 : Int32) < u0 then ((0 : Int32)) else ((1 : Int32)))
set_option maxHeartbeats 4000000 in
set_option maxRecDepth 100000 in
theorem k_C_isPlace (l : Launch) (u0 : Int32) (r0 : Int32) (hf : f_C_isPlace u0 = r0) : cc_MetS l y_C_isPlace (Cond.code y_C_isPlace b_C_isPlace 1 (some .boolean) :: wA) ({ frames := 0, cells := 0, slots := 0, locals := 0 } : Room) ([.int u0] : List Value) r0 := by
  refine Met.ofW (cc := b_C_isPlace) (maxL := 1) (ret := (some .boolean)) (by decide) rfl ?_
  intro p e s m args below meth c s₁ B hml hv
  obtain rfl : args = ([.int u0] : List Value).toArray := hv
  have hx := B.exec
  have hb := B.bytes
  have hr := B.returns
  have hts := fun w h => atoms_spec (ws := (Cond.code y_C_isPlace b_C_isPlace 1 (some .boolean) :: wA)) B.pre w (List.mem_cons_of_mem _ h)
  have hown : s.vm.findClass R_C = some m.cls := findClass_of_methodNamed B.named
  have hlocks := B.notSynchronized
  have hl := lv_entry (([.int u0] : List Value)) (n := 1) (Nat.le_of_ble_eq_true rfl)
  rw [lg_entry_eq]
  generalize (lg_sl (([.int u0] : List Value)) ++ List.replicate (1 - (lg_sl (([.int u0] : List Value))).length) Slot.unset).toArray = ls at hl ⊢
  have hl : lv_has ls 1 [(0, .int u0)] := hl
  unfold f_C_isPlace at hf
  refine lv_iload_n hx hb d_C_isPlace_0 rfl (lv_at hl 0 rfl) ?_
  refine lv_bipush (v := 120) hx hb d_C_isPlace_1 (by decide) ?_
  refine lv_icmp_lt (tgt := 16) hx hb d_C_isPlace_3 (by decide) (fun h3_1 => ?_) (fun h3_1 => ?_)
  · rw [if_pos h3_1] at hf
    refine lv_iconst (v := 0) hx hb d_C_isPlace_16 (by decide) ?_
    exact W.zret (v := (0 : Int32)) hx hb hr (by rfl) (fun t ht hW => ⟨_, rfl, hf, ht⟩) (fun q h => by cases h) d_C_isPlace_17
  · rw [if_neg h3_1] at hf
    refine lv_iload_n hx hb d_C_isPlace_6 rfl (lv_at hl 0 rfl) ?_
    refine lv_bipush (v := 122) hx hb d_C_isPlace_7 (by decide) ?_
    refine lv_icmp_gt (tgt := 16) hx hb d_C_isPlace_9 (by decide) (fun h9_2 => ?_) (fun h9_2 => ?_)
    · rw [if_pos h9_2] at hf
      refine lv_iconst (v := 0) hx hb d_C_isPlace_16 (by decide) ?_
      exact W.zret (v := (0 : Int32)) hx hb hr (by rfl) (fun t ht hW => ⟨_, rfl, hf, ht⟩) (fun q h => by cases h) d_C_isPlace_17
    · rw [if_neg h9_2] at hf
      refine lv_iconst (v := 1) hx hb d_C_isPlace_12 (by decide) ?_
      refine lv_goto (tgt := 17) hx hb d_C_isPlace_13 (by decide) ?_
      exact W.zret (v := (1 : Int32)) hx hb hr (by rfl) (fun t ht hW => ⟨_, rfl, hf, ht⟩) (fun q h => by cases h) d_C_isPlace_17
def f_C_isVariable (u0 : Int32) : Int32 := if (f_C_isPlace u0) = 0 then (if u0 = (116 : Int32) then ((0 : Int32)) else (if u0 = (99 : Int32) then ((0 : Int32)) else ((1 : Int32)))) else ((0 : Int32))
set_option maxHeartbeats 4000000 in
set_option maxRecDepth 100000 in
theorem k_C_isVariable (l : Launch) (u0 : Int32) (r0 : Int32) (hf : f_C_isVariable u0 = r0) : cc_MetS l y_C_isVariable (Cond.code y_C_isVariable b_C_isVariable 1 (some .boolean) :: wA) ({ frames := 1, cells := 0, slots := 0, locals := 20 } : Room) ([.int u0] : List Value) r0 := by
  refine Met.ofW (cc := b_C_isVariable) (maxL := 1) (ret := (some .boolean)) (by decide) rfl ?_
  intro p e s m args below meth c s₁ B hml hv
  obtain rfl : args = ([.int u0] : List Value).toArray := hv
  have hx := B.exec
  have hb := B.bytes
  have hr := B.returns
  have hts := fun w h => atoms_spec (ws := (Cond.code y_C_isVariable b_C_isVariable 1 (some .boolean) :: wA)) B.pre w (List.mem_cons_of_mem _ h)
  have hown : s.vm.findClass R_C = some m.cls := findClass_of_methodNamed B.named
  have hlocks := B.notSynchronized
  have hl := lv_entry (([.int u0] : List Value)) (n := 1) (Nat.le_of_ble_eq_true rfl)
  rw [lg_entry_eq]
  generalize (lg_sl (([.int u0] : List Value)) ++ List.replicate (1 - (lg_sl (([.int u0] : List Value))).length) Slot.unset).toArray = ls at hl ⊢
  have hl : lv_has ls 1 [(0, .int u0)] := hl
  unfold f_C_isVariable at hf
  refine lv_iload_n hx hb d_C_isVariable_0 rfl (lv_at hl 0 rfl) ?_
  refine cc_calls (va_runS (As := [.int u0]) (rest := []) ⟨hx, hb, hml, hown, hts⟩ (k_C_isPlace l u0 _ rfl) (cw_S 1 hts mw_162 mw_163 mw_3 mw_164 rfl rfl hd_C_isPlace ⟨Nat.le_of_ble_eq_true rfl, Nat.le_of_ble_eq_true rfl⟩) cc_preS rfl rfl hl.1 rfl (lv_room (Nat.le_of_ble_eq_true rfl)) d_C_isVariable_1 ⟨Nat.zero_le _, Nat.zero_le _⟩) ?_
  refine lv_if_ne (tgt := 23) hx hb d_C_isVariable_4 (by decide) (fun h4_1 => ?_) (fun h4_1 => ?_)
  · rw [if_neg h4_1] at hf
    refine lv_iconst (v := 0) hx hb d_C_isVariable_23 (by decide) ?_
    exact W.zret (v := (0 : Int32)) hx hb hr (by rfl) (fun t ht hW => ⟨_, rfl, hf, ht⟩) (fun q h => by cases h) d_C_isVariable_24
  · rw [if_pos h4_1] at hf
    refine lv_iload_n hx hb d_C_isVariable_7 rfl (lv_at hl 0 rfl) ?_
    refine lv_bipush (v := 116) hx hb d_C_isVariable_8 (by decide) ?_
    refine lv_icmp_eq (tgt := 23) hx hb d_C_isVariable_10 (by decide) (fun h10_2 => ?_) (fun h10_2 => ?_)
    · rw [if_pos h10_2] at hf
      refine lv_iconst (v := 0) hx hb d_C_isVariable_23 (by decide) ?_
      exact W.zret (v := (0 : Int32)) hx hb hr (by rfl) (fun t ht hW => ⟨_, rfl, hf, ht⟩) (fun q h => by cases h) d_C_isVariable_24
    · rw [if_neg h10_2] at hf
      refine lv_iload_n hx hb d_C_isVariable_13 rfl (lv_at hl 0 rfl) ?_
      refine lv_bipush (v := 99) hx hb d_C_isVariable_14 (by decide) ?_
      refine lv_icmp_eq (tgt := 23) hx hb d_C_isVariable_16 (by decide) (fun h16_3 => ?_) (fun h16_3 => ?_)
      · rw [if_pos h16_3] at hf
        refine lv_iconst (v := 0) hx hb d_C_isVariable_23 (by decide) ?_
        exact W.zret (v := (0 : Int32)) hx hb hr (by rfl) (fun t ht hW => ⟨_, rfl, hf, ht⟩) (fun q h => by cases h) d_C_isVariable_24
      · rw [if_neg h16_3] at hf
        refine lv_iconst (v := 1) hx hb d_C_isVariable_19 (by decide) ?_
        refine lv_goto (tgt := 24) hx hb d_C_isVariable_20 (by decide) ?_
        exact W.zret (v := (1 : Int32)) hx hb hr (by rfl) (fun t ht hW => ⟨_, rfl, hf, ht⟩) (fun q h => by cases h) d_C_isVariable_24
def f_C_digit  (Fa : ST_F) (Aa : ST_A) : Option (Int32 × ST_F × ST_A) := ra_bi (f_C_next  Fa Aa) (fun r1 F1 A1 => some ((r1 - (48 : Int32)), (upd F1 1 ((F1 1) + (1 : Int32))), A1))
set_option maxHeartbeats 4000000 in
set_option maxRecDepth 100000 in
theorem k_C_digit (l : Launch) (dC : Nat → ClassId) (dI : Nat → Nat → Nat) (a : Nat → Nat) (cI cC : ClassId) (sz : Nat) (Fa : ST_F) (Aa : ST_A)  (r0 : Int32) (F9 : ST_F) (A9 : ST_A) (hf : f_C_digit  Fa Aa = some (r0, F9, A9)) : cc_MetI l y_C_digit (Cond.code y_C_digit b_C_digit 2 (some .int) :: wA) ({ frames := 1, cells := 0, slots := 0, locals := 20 } : Room) (dC, dI) vC [(cI, .int), (cC, .char)] ([.ref (a 0)] : List Value) (wC a cI cC Fa Aa) sz (wC a cI cC F9 A9) r0 := by
  refine Met.ofW (cc := b_C_digit) (maxL := 2) (ret := (some .int)) (by decide) rfl ?_
  intro p e s m args below meth c s₁ B hml hv
  obtain ⟨rfl, hsz, hP, hK, hD0⟩ := hv
  have hx := B.exec
  have hb := B.bytes
  have hr := B.returns
  have hts := fun w h => atoms_spec (ws := (Cond.code y_C_digit b_C_digit 2 (some .int) :: wA)) B.pre w (List.mem_cons_of_mem _ h)
  have hown : s.vm.findClass R_C = some m.cls := findClass_of_methodNamed B.named
  have hlocks := B.notSynchronized
  subst hsz
  have hD := hD0.self (sz := s.heap.size)
  have hA : ∀ q : Nat, s.heap.size ≤ q → va_A (wC a cI cC Fa Aa) s.heap.size q := fun q h => Or.inr h
  have hS : va_S (va_A (wC a cI cC Fa Aa) s.heap.size) s.heap s.heap [] := va_S.rf
  have hl := lv_entry (([.ref (a 0)] : List Value)) (n := 2) (Nat.le_of_ble_eq_true rfl)
  rw [lg_entry_eq]
  generalize (lg_sl (([.ref (a 0)] : List Value)) ++ List.replicate (2 - (lg_sl (([.ref (a 0)] : List Value))).length) Slot.unset).toArray = ls at hl ⊢
  have hl : lv_has ls 2 [(0, .ref (a 0))] := hl
  unfold f_C_digit at hf
  refine lv_aload_n hx hb d_C_digit_0 rfl (lv_at hl 0 rfl) ?_
  have hP : va_P (dC, dI) vC (wC a cI cC Fa Aa) s.heap := hP
  have hD : va_D (va_A (wC a cI cC Fa Aa) s.heap.size) (wC a cI cC Fa Aa) := hD
  obtain ⟨r1, F1, A1, hc, hf⟩ := ra_bi_some hf
  refine cc_calli (va_runV (As := []) (rest := []) ⟨hx, hb, hml, hown, hts⟩ (k_C_next l dC dI a cI cC s.heap.size Fa Aa  r1 F1 A1 hc) (cw_V 0 hts mw_155 mw_157 ms_C_next mw_3 mw_158 rfl rfl rfl hd_C_next ⟨Nat.le_of_ble_eq_true rfl, Nat.le_of_ble_eq_true rfl⟩) (cc_preV hK hP hD rfl (q0 := 0) rfl) rfl rfl hl.1 rfl (lv_room (Nat.le_of_ble_eq_true rfl)) d_C_digit_1 ⟨Nat.zero_le _, Nat.zero_le _⟩) hD hS hA (fun H locs hP hD hS => ?_)
  refine lv_bipush (v := 48) hx hb d_C_digit_4 (by decide) ?_
  refine lv_isub hx hb d_C_digit_6 ?_
  refine lv_istore_n hx hb d_C_digit_7 rfl hl (by decide) rfl (fun ls hl => ?_)
  have hl : lv_has ls 2 [(1, .int (r1 - (48 : Int32))), (0, .ref (a 0))] := hl
  refine lv_aload_n hx hb d_C_digit_8 rfl (lv_at hl 1 rfl) ?_
  refine lv_dup hx hb d_C_digit_9 rfl ?_
  refine va_get (D := (dC, dI)) (ci := 1) (v := .int (F1 1)) (C := R_C) (T := T_C) (N := 5) hx hb hts in_C hown hK hP 0 rfl rfl 3 (by decide) (hts _ mw_78) (fun _ h9 => h9) rfl d_C_digit_10 ?_
  refine lv_iconst (v := 1) hx hb d_C_digit_13 (by decide) ?_
  refine lv_iadd hx hb d_C_digit_14 ?_
  refine va_put (D := (dC, dI)) (ci := 1) (v := .int ((F1 1) + (1 : Int32))) (ty := .int) (C := R_C) (T := T_C) (N := 5) hx hb hts in_C ty_C ty_C_ok nm_C hown hK hP hD hS 0 rfl rfl 3 (by decide) (hts _ mw_78) (fun _ h9 => h9) rfl (by decide +kernel) rfl rfl (Nat.le_of_ble_eq_true rfl) d_C_digit_15 (fun H locs hP hD hS => ?_)
  have hP : va_P (dC, dI) vC [((a 0), .inr (1, [.ref (a 1), .ref (a 2), .int (F1 0), .int ((F1 1) + (1 : Int32)), .ref (a 3)])), ((a 1), .inl (cI, 26, .inl (A1 0))), ((a 2), .inl (cC, 160, .inl (A1 1))), ((a 3), .inr (0, [.ref (a 4), .ref (a 5), .ref (a 6), .ref (a 7), .ref (a 8), .int (F1 2), .int (F1 3)])), ((a 4), .inl (cI, 100, .inl (A1 2))), ((a 5), .inl (cI, 100, .inl (A1 3))), ((a 6), .inl (cI, 100, .inl (A1 4))), ((a 7), .inl (cI, 3, .inl (A1 5))), ((a 8), .inl (cI, 26, .inl (A1 6)))] H := hP
  have hD : va_D (va_A (wC a cI cC Fa Aa) s.heap.size) [((a 0), .inr (1, [.ref (a 1), .ref (a 2), .int (F1 0), .int ((F1 1) + (1 : Int32)), .ref (a 3)])), ((a 1), .inl (cI, 26, .inl (A1 0))), ((a 2), .inl (cC, 160, .inl (A1 1))), ((a 3), .inr (0, [.ref (a 4), .ref (a 5), .ref (a 6), .ref (a 7), .ref (a 8), .int (F1 2), .int (F1 3)])), ((a 4), .inl (cI, 100, .inl (A1 2))), ((a 5), .inl (cI, 100, .inl (A1 3))), ((a 6), .inl (cI, 100, .inl (A1 4))), ((a 7), .inl (cI, 3, .inl (A1 5))), ((a 8), .inl (cI, 26, .inl (A1 6)))] := hD
  refine lv_iload_n hx hb d_C_digit_18 rfl (lv_at hl 0 rfl) ?_
  cases hf
  exact W.iret hx hb hr (fun t ht hW => ⟨⟨_, (), rfl, rfl, by rw [ht]; exact hP, va_K.moved hW.alike hK, hD⟩, hS.F ht⟩) hS.2.2 d_C_digit_19
def f_C_isAssignmentNext  (Fa : ST_F) (Aa : ST_A) : Option (Int32 × ST_F × ST_A) := if (Fa 0) ≤ ((Fa 1) + (1 : Int32)) then (some ((0 : Int32), Fa, Aa)) else (ra_g (Fa 1) 160 (if (f_C_isSmall ((Aa 1) (Fa 1).toNatClampNeg)) = 0 then (some ((0 : Int32), Fa, Aa)) else (ra_g ((Fa 1) + (1 : Int32)) 160 (if ((Aa 1) ((Fa 1) + (1 : Int32)).toNatClampNeg) = (61 : Int32) then (some ((1 : Int32), Fa, Aa)) else (some ((0 : Int32), Fa, Aa))))))
set_option maxHeartbeats 4000000 in
set_option maxRecDepth 100000 in
theorem k_C_isAssignmentNext (l : Launch) (dC : Nat → ClassId) (dI : Nat → Nat → Nat) (a : Nat → Nat) (cI cC : ClassId) (sz : Nat) (Fa : ST_F) (Aa : ST_A)  (r0 : Int32) (F9 : ST_F) (A9 : ST_A) (hf : f_C_isAssignmentNext  Fa Aa = some (r0, F9, A9)) : cc_MetI l y_C_isAssignmentNext (Cond.code y_C_isAssignmentNext b_C_isAssignmentNext 1 (some .boolean) :: wA) ({ frames := 1, cells := 0, slots := 0, locals := 20 } : Room) (dC, dI) vC [(cI, .int), (cC, .char)] ([.ref (a 0)] : List Value) (wC a cI cC Fa Aa) sz (wC a cI cC F9 A9) r0 := by
  refine Met.ofW (cc := b_C_isAssignmentNext) (maxL := 1) (ret := (some .boolean)) (by decide) rfl ?_
  intro p e s m args below meth c s₁ B hml hv
  obtain ⟨rfl, hsz, hP, hK, hD0⟩ := hv
  have hx := B.exec
  have hb := B.bytes
  have hr := B.returns
  have hts := fun w h => atoms_spec (ws := (Cond.code y_C_isAssignmentNext b_C_isAssignmentNext 1 (some .boolean) :: wA)) B.pre w (List.mem_cons_of_mem _ h)
  have hown : s.vm.findClass R_C = some m.cls := findClass_of_methodNamed B.named
  have hlocks := B.notSynchronized
  subst hsz
  have hD := hD0.self (sz := s.heap.size)
  have hA : ∀ q : Nat, s.heap.size ≤ q → va_A (wC a cI cC Fa Aa) s.heap.size q := fun q h => Or.inr h
  have hS : va_S (va_A (wC a cI cC Fa Aa) s.heap.size) s.heap s.heap [] := va_S.rf
  have hl := lv_entry (([.ref (a 0)] : List Value)) (n := 1) (Nat.le_of_ble_eq_true rfl)
  rw [lg_entry_eq]
  generalize (lg_sl (([.ref (a 0)] : List Value)) ++ List.replicate (1 - (lg_sl (([.ref (a 0)] : List Value))).length) Slot.unset).toArray = ls at hl ⊢
  have hl : lv_has ls 1 [(0, .ref (a 0))] := hl
  unfold f_C_isAssignmentNext at hf
  refine lv_aload_n hx hb d_C_isAssignmentNext_0 rfl (lv_at hl 0 rfl) ?_
  refine va_get (D := (dC, dI)) (ci := 1) (v := .int (Fa 1)) (C := R_C) (T := T_C) (N := 5) hx hb hts in_C hown hK hP 0 rfl rfl 3 (by decide) (hts _ mw_78) (fun _ h9 => h9) rfl d_C_isAssignmentNext_1 ?_
  refine lv_iconst (v := 1) hx hb d_C_isAssignmentNext_4 (by decide) ?_
  refine lv_iadd hx hb d_C_isAssignmentNext_5 ?_
  refine lv_aload_n hx hb d_C_isAssignmentNext_6 rfl (lv_at hl 0 rfl) ?_
  refine va_get (D := (dC, dI)) (ci := 1) (v := .int (Fa 0)) (C := R_C) (T := T_C) (N := 5) hx hb hts in_C hown hK hP 0 rfl rfl 2 (by decide) (hts _ mw_77) (fun _ h9 => h9) rfl d_C_isAssignmentNext_7 ?_
  refine lv_icmp_ge (tgt := 48) hx hb d_C_isAssignmentNext_10 (by decide) (fun h10_1 => ?_) (fun h10_1 => ?_)
  · rw [if_pos h10_1] at hf
    refine lv_iconst (v := 0) hx hb d_C_isAssignmentNext_48 (by decide) ?_
    cases hf
    exact W.zret hx hb hr (by rfl) (fun t ht hW => ⟨⟨_, (), rfl, rfl, by rw [ht]; exact hP, va_K.moved hW.alike hK, hD⟩, hS.F ht⟩) hS.2.2 d_C_isAssignmentNext_49
  · rw [if_neg h10_1] at hf
    refine lv_aload_n hx hb d_C_isAssignmentNext_13 rfl (lv_at hl 0 rfl) ?_
    refine va_get (D := (dC, dI)) (ci := 1) (v := .ref (a 2)) (C := R_C) (T := T_C) (N := 5) hx hb hts in_C hown hK hP 0 rfl rfl 1 (by decide) (hts _ mw_76) (fun _ h9 => h9) rfl d_C_isAssignmentNext_14 ?_
    refine lv_aload_n hx hb d_C_isAssignmentNext_17 rfl (lv_at hl 0 rfl) ?_
    refine va_get (D := (dC, dI)) (ci := 1) (v := .int (Fa 1)) (C := R_C) (T := T_C) (N := 5) hx hb hts in_C hown hK hP 0 rfl rfl 3 (by decide) (hts _ mw_78) (fun _ h9 => h9) rfl d_C_isAssignmentNext_18 ?_
    obtain ⟨hi, hf⟩ := ra_g_some hf
    refine va_cald hx hb hK hP 2 1 rfl rfl hi d_C_isAssignmentNext_21 ?_
    refine cc_calls (va_runS (As := [.int ((Aa 1) (Fa 1).toNatClampNeg)]) (rest := []) ⟨hx, hb, hml, hown, hts⟩ (k_C_isSmall l ((Aa 1) (Fa 1).toNatClampNeg) _ rfl) (cw_S 1 hts mw_148 mw_149 mw_3 mw_150 rfl rfl hd_C_isSmall ⟨Nat.le_of_ble_eq_true rfl, Nat.le_of_ble_eq_true rfl⟩) cc_preS rfl rfl hl.1 rfl (lv_room (Nat.le_of_ble_eq_true rfl)) d_C_isAssignmentNext_22 ⟨Nat.zero_le _, Nat.zero_le _⟩) ?_
    refine lv_if_eq (tgt := 48) hx hb d_C_isAssignmentNext_25 (by decide) (fun h25_2 => ?_) (fun h25_2 => ?_)
    · rw [if_pos h25_2] at hf
      refine lv_iconst (v := 0) hx hb d_C_isAssignmentNext_48 (by decide) ?_
      cases hf
      exact W.zret hx hb hr (by rfl) (fun t ht hW => ⟨⟨_, (), rfl, rfl, by rw [ht]; exact hP, va_K.moved hW.alike hK, hD⟩, hS.F ht⟩) hS.2.2 d_C_isAssignmentNext_49
    · rw [if_neg h25_2] at hf
      refine lv_aload_n hx hb d_C_isAssignmentNext_28 rfl (lv_at hl 0 rfl) ?_
      refine va_get (D := (dC, dI)) (ci := 1) (v := .ref (a 2)) (C := R_C) (T := T_C) (N := 5) hx hb hts in_C hown hK hP 0 rfl rfl 1 (by decide) (hts _ mw_76) (fun _ h9 => h9) rfl d_C_isAssignmentNext_29 ?_
      refine lv_aload_n hx hb d_C_isAssignmentNext_32 rfl (lv_at hl 0 rfl) ?_
      refine va_get (D := (dC, dI)) (ci := 1) (v := .int (Fa 1)) (C := R_C) (T := T_C) (N := 5) hx hb hts in_C hown hK hP 0 rfl rfl 3 (by decide) (hts _ mw_78) (fun _ h9 => h9) rfl d_C_isAssignmentNext_33 ?_
      refine lv_iconst (v := 1) hx hb d_C_isAssignmentNext_36 (by decide) ?_
      refine lv_iadd hx hb d_C_isAssignmentNext_37 ?_
      obtain ⟨hi, hf⟩ := ra_g_some hf
      refine va_cald hx hb hK hP 2 1 rfl rfl hi d_C_isAssignmentNext_38 ?_
      refine lv_bipush (v := 61) hx hb d_C_isAssignmentNext_39 (by decide) ?_
      refine lv_icmp_ne (tgt := 48) hx hb d_C_isAssignmentNext_41 (by decide) (fun h41_3 => ?_) (fun h41_3 => ?_)
      · rw [if_neg h41_3] at hf
        refine lv_iconst (v := 0) hx hb d_C_isAssignmentNext_48 (by decide) ?_
        cases hf
        exact W.zret hx hb hr (by rfl) (fun t ht hW => ⟨⟨_, (), rfl, rfl, by rw [ht]; exact hP, va_K.moved hW.alike hK, hD⟩, hS.F ht⟩) hS.2.2 d_C_isAssignmentNext_49
      · rw [if_pos h41_3] at hf
        refine lv_iconst (v := 1) hx hb d_C_isAssignmentNext_44 (by decide) ?_
        refine lv_goto (tgt := 49) hx hb d_C_isAssignmentNext_45 (by decide) ?_
        cases hf
        exact W.zret hx hb hr (by rfl) (fun t ht hW => ⟨⟨_, (), rfl, rfl, by rw [ht]; exact hP, va_K.moved hW.alike hK, hD⟩, hS.F ht⟩) hS.2.2 d_C_isAssignmentNext_49
def f_C_input_L8 : Nat → Int32 → Int32 → Int32 → Int32 → ST_F → ST_A → Option (Int32 × ST_F × ST_A)
  | 0, _, _, _, _, _, _ => none
  | n + 1, x1, x2, x3, x4, F, A => if x2 ≤ x4 then (some (x3, F, A)) else (ra_bi (f_K_put (1 : Int32) (x1 + x4) (0 : Int32) F A) (fun r2 F2 A2 => f_C_input_L8 n x1 x2 (f_V_withNumber x3 x4 r2) (x4 + (1 : Int32)) F2 A2))
def f_C_input (u1 : Int32) (u2 : Int32) (Fa : ST_F) (Aa : ST_A) : Option (Int32 × ST_F × ST_A) := f_C_input_L8 400 u1 u2 (f_V_ofType u2) (0 : Int32) Fa Aa
set_option maxHeartbeats 4000000 in
set_option maxRecDepth 100000 in
theorem k_C_input (l : Launch) (dC : Nat → ClassId) (dI : Nat → Nat → Nat) (a : Nat → Nat) (cI cC : ClassId) (sz : Nat) (Fa : ST_F) (Aa : ST_A) (u1 : Int32) (u2 : Int32) (r0 : Int32) (F9 : ST_F) (A9 : ST_A) (hf : f_C_input u1 u2 Fa Aa = some (r0, F9, A9)) : cc_MetI l y_C_input (Cond.code y_C_input b_C_input 5 (some .int) :: wA) ({ frames := 1, cells := 0, slots := 0, locals := 24 } : Room) (dC, dI) vC [(cI, .int), (cC, .char)] ([.ref (a 0), .int u1, .int u2] : List Value) (wC a cI cC Fa Aa) sz (wC a cI cC F9 A9) r0 := by
  refine Met.ofW (cc := b_C_input) (maxL := 5) (ret := (some .int)) (by decide) rfl ?_
  intro p e s m args below meth c s₁ B hml hv
  obtain ⟨rfl, hsz, hP, hK, hD0⟩ := hv
  have hx := B.exec
  have hb := B.bytes
  have hr := B.returns
  have hts := fun w h => atoms_spec (ws := (Cond.code y_C_input b_C_input 5 (some .int) :: wA)) B.pre w (List.mem_cons_of_mem _ h)
  have hown : s.vm.findClass R_C = some m.cls := findClass_of_methodNamed B.named
  have hlocks := B.notSynchronized
  subst hsz
  have hD := hD0.self (sz := s.heap.size)
  have hA : ∀ q : Nat, s.heap.size ≤ q → va_A (wC a cI cC Fa Aa) s.heap.size q := fun q h => Or.inr h
  have hS : va_S (va_A (wC a cI cC Fa Aa) s.heap.size) s.heap s.heap [] := va_S.rf
  have hl := lv_entry (([.ref (a 0), .int u1, .int u2] : List Value)) (n := 5) (Nat.le_of_ble_eq_true rfl)
  have L8 : ∀ (n : Nat) (x1 : Int32) (x2 : Int32) (x3 : Int32) (x4 : Int32) (F : ST_F) (A : ST_A) (H : Heap) (locs : List Loc) (ls : Array Slot), lv_has ls 5 [(0, .ref (a 0)), (1, .int x1), (2, .int x2), (3, .int x3), (4, .int x4)] → va_P (dC, dI) vC (wC a cI cC F A) H → va_D (va_A (wC a cI cC Fa Aa) s.heap.size) (wC a cI cC F A) → va_S (va_A (wC a cI cC Fa Aa) s.heap.size) s.heap H locs → f_C_input_L8 n x1 x2 x3 x4 F A = some (r0, F9, A9) → W p l e (headSpec (Cond.code y_C_input b_C_input 5 (some .int) :: wA) ({ frames := 1, cells := 0, slots := 0, locals := 24 } : Room)).room s m ([.ref (a 0), .int u1, .int u2] : List Value).toArray below meth c H locs 0 0 (MQ below (cc_Qi (dC, dI) vC [(cI, .int), (cC, .char)] (wC a cI cC Fa Aa) s.heap.size (wC a cI cC F9 A9) r0) ([.ref (a 0), .int u1, .int u2] : List Value).toArray s 0 0 (va_A (wC a cI cC Fa Aa) s.heap.size)) (F0 m 8 ls []) := by
    intro n
    induction n with
    | zero => intro x1 x2 x3 x4 F A H locs ls hl hP hD hS hf; cases hf
    | succ n ih =>
      intro x1 x2 x3 x4 F A H locs ls hl hP hD hS hf
      rw [f_C_input_L8] at hf
      refine lv_iload hx hb d_C_input_8 (lv_at hl 4 rfl) ?_
      refine lv_iload_n hx hb d_C_input_10 rfl (lv_at hl 2 rfl) ?_
      refine lv_icmp_ge (tgt := 40) hx hb d_C_input_11 (by decide) (fun h11_1 => ?_) (fun h11_1 => ?_)
      · rw [if_pos h11_1] at hf
        refine lv_iload_n hx hb d_C_input_40 rfl (lv_at hl 3 rfl) ?_
        cases hf
        exact W.iret hx hb hr (fun t ht hW => ⟨⟨_, (), rfl, rfl, by rw [ht]; exact hP, va_K.moved hW.alike hK, hD⟩, hS.F ht⟩) hS.2.2 d_C_input_41
      · rw [if_neg h11_1] at hf
        refine lv_iload_n hx hb d_C_input_14 rfl (lv_at hl 3 rfl) ?_
        refine lv_iload hx hb d_C_input_15 (lv_at hl 4 rfl) ?_
        refine lv_aload_n hx hb d_C_input_17 rfl (lv_at hl 0 rfl) ?_
        refine va_get (D := (dC, dI)) (ci := 1) (v := .ref (a 3)) (C := R_C) (T := T_C) (N := 5) hx hb hts in_C hown hK hP 0 rfl rfl 4 (by decide) (hts _ mw_79) (fun _ h9 => h9) rfl d_C_input_18 ?_
        refine lv_iconst (v := 1) hx hb d_C_input_21 (by decide) ?_
        refine lv_iload_n hx hb d_C_input_22 rfl (lv_at hl 1 rfl) ?_
        refine lv_iload hx hb d_C_input_23 (lv_at hl 4 rfl) ?_
        refine lv_iadd hx hb d_C_input_25 ?_
        refine lv_iconst (v := 0) hx hb d_C_input_26 (by decide) ?_
        have hP : va_P (dC, dI) vC (wC a cI cC F A) H := hP
        have hD : va_D (va_A (wC a cI cC Fa Aa) s.heap.size) (wC a cI cC F A) := hD
        obtain ⟨r2, F2, A2, hc, hf⟩ := ra_bi_some hf
        refine cc_calli (va_runV (As := [.int (1 : Int32), .int (x1 + x4), .int (0 : Int32)]) (rest := [.int x4, .int x3]) ⟨hx, hb, hml, hown, hts⟩ (k_K_put l dC dI a cI cC H.size F A (1 : Int32) (x1 + x4) (0 : Int32) r2 F2 A2 hc) (cw_V 3 hts mw_196 mw_197 mw_198 mw_2 mw_199 rfl rfl rfl hd_K_put ⟨Nat.le_of_ble_eq_true rfl, Nat.le_of_ble_eq_true rfl⟩) (cc_preV hK hP hD rfl (q0 := 3) rfl) rfl rfl hl.1 rfl (lv_room (Nat.le_of_ble_eq_true rfl)) d_C_input_27 ⟨Nat.zero_le _, Nat.zero_le _⟩) hD hS hA (fun H locs hP hD hS => ?_)
        refine cc_calls (va_runS (As := [.int x3, .int x4, .int r2]) (rest := []) ⟨hx, hb, hml, hown, hts⟩ (k_V_withNumber l x3 x4 r2 _ rfl) (cw_S 3 hts mw_200 mw_201 mw_11 mw_202 rfl rfl hd_V_withNumber ⟨Nat.le_of_ble_eq_true rfl, Nat.le_of_ble_eq_true rfl⟩) cc_preS rfl rfl hl.1 rfl (lv_room (Nat.le_of_ble_eq_true rfl)) d_C_input_30 ⟨Nat.zero_le _, Nat.zero_le _⟩) ?_
        refine lv_istore_n hx hb d_C_input_33 rfl hl (by decide) rfl (fun ls hl => ?_)
        have hl : lv_has ls 5 [(3, .int (f_V_withNumber x3 x4 r2)), (0, .ref (a 0)), (1, .int x1), (2, .int x2), (4, .int x4)] := hl
        refine lv_iinc (k := 4) (v := (x4 + (1 : Int32))) hx hb d_C_input_34 hl rfl (by rfl) (by decide) rfl (fun ls hl => ?_)
        have hl : lv_has ls 5 [(4, .int (x4 + (1 : Int32))), (3, .int (f_V_withNumber x3 x4 r2)), (0, .ref (a 0)), (1, .int x1), (2, .int x2)] := hl
        refine lv_goto (tgt := 8) hx hb d_C_input_37 (by decide) ?_
        have hl : lv_has ls 5 [(0, .ref (a 0)), (1, .int x1), (2, .int x2), (3, .int (f_V_withNumber x3 x4 r2)), (4, .int (x4 + (1 : Int32)))] := lv_sub hl [2, 3, 4, 1, 0] rfl
        exact ih x1 x2 (f_V_withNumber x3 x4 r2) (x4 + (1 : Int32)) F2 A2 _ _ _ hl hP hD hS hf
  rw [lg_entry_eq]
  generalize (lg_sl (([.ref (a 0), .int u1, .int u2] : List Value)) ++ List.replicate (5 - (lg_sl (([.ref (a 0), .int u1, .int u2] : List Value))).length) Slot.unset).toArray = ls at hl ⊢
  have hl : lv_has ls 5 [(0, .ref (a 0)), (1, .int u1), (2, .int u2)] := hl
  unfold f_C_input at hf
  refine lv_iload_n hx hb d_C_input_0 rfl (lv_at hl 2 rfl) ?_
  refine cc_calls (va_runS (As := [.int u2]) (rest := []) ⟨hx, hb, hml, hown, hts⟩ (k_V_ofType l u2 _ rfl) (cw_S 1 hts mw_193 mw_194 mw_11 mw_195 rfl rfl hd_V_ofType ⟨Nat.le_of_ble_eq_true rfl, Nat.le_of_ble_eq_true rfl⟩) cc_preS rfl rfl hl.1 rfl (lv_room (Nat.le_of_ble_eq_true rfl)) d_C_input_1 ⟨Nat.zero_le _, Nat.zero_le _⟩) ?_
  refine lv_istore_n hx hb d_C_input_4 rfl hl (by decide) rfl (fun ls hl => ?_)
  have hl : lv_has ls 5 [(3, .int (f_V_ofType u2)), (0, .ref (a 0)), (1, .int u1), (2, .int u2)] := hl
  refine lv_iconst (v := 0) hx hb d_C_input_5 (by decide) ?_
  refine lv_istore hx hb d_C_input_6 hl (by decide) rfl (fun ls hl => ?_)
  have hl : lv_has ls 5 [(4, .int (0 : Int32)), (3, .int (f_V_ofType u2)), (0, .ref (a 0)), (1, .int u1), (2, .int u2)] := hl
  have hl : lv_has ls 5 [(0, .ref (a 0)), (1, .int u1), (2, .int u2), (3, .int (f_V_ofType u2)), (4, .int (0 : Int32))] := lv_sub hl [2, 3, 4, 1, 0] rfl
  exact L8 400 u1 u2 (f_V_ofType u2) (0 : Int32) Fa Aa _ _ _ hl hP hD hS hf
def f_C_letter (u1 : Int32) (Fa : ST_F) (Aa : ST_A) : Option (Int32 × ST_F × ST_A) := if u1 = (99 : Int32) then (ra_bi (f_C_input (3 : Int32) (3 : Int32) Fa Aa) (fun r2 F2 A2 => some (r2, F2, A2))) else (if u1 = (116 : Int32) then (ra_bi (f_C_input (2 : Int32) (1 : Int32) Fa Aa) (fun r4 F4 A4 => some (r4, F4, A4))) else (if u1 = (120 : Int32) then (ra_bi (f_C_input (0 : Int32) (1 : Int32) Fa Aa) (fun r6 F6 A6 => some (r6, F6, A6))) else (if u1 = (121 : Int32) then (ra_bi (f_C_input (1 : Int32) (1 : Int32) Fa Aa) (fun r8 F8 A8 => some (r8, F8, A8))) else (ra_g (u1 - (97 : Int32)) 26 (some (((Aa 0) (u1 - (97 : Int32)).toNatClampNeg), Fa, Aa))))))
set_option maxHeartbeats 4000000 in
set_option maxRecDepth 100000 in
theorem k_C_letter (l : Launch) (dC : Nat → ClassId) (dI : Nat → Nat → Nat) (a : Nat → Nat) (cI cC : ClassId) (sz : Nat) (Fa : ST_F) (Aa : ST_A) (u1 : Int32) (r0 : Int32) (F9 : ST_F) (A9 : ST_A) (hf : f_C_letter u1 Fa Aa = some (r0, F9, A9)) : cc_MetI l y_C_letter (Cond.code y_C_letter b_C_letter 2 (some .int) :: wA) ({ frames := 2, cells := 0, slots := 0, locals := 48 } : Room) (dC, dI) vC [(cI, .int), (cC, .char)] ([.ref (a 0), .int u1] : List Value) (wC a cI cC Fa Aa) sz (wC a cI cC F9 A9) r0 := by
  refine Met.ofW (cc := b_C_letter) (maxL := 2) (ret := (some .int)) (by decide) rfl ?_
  intro p e s m args below meth c s₁ B hml hv
  obtain ⟨rfl, hsz, hP, hK, hD0⟩ := hv
  have hx := B.exec
  have hb := B.bytes
  have hr := B.returns
  have hts := fun w h => atoms_spec (ws := (Cond.code y_C_letter b_C_letter 2 (some .int) :: wA)) B.pre w (List.mem_cons_of_mem _ h)
  have hown : s.vm.findClass R_C = some m.cls := findClass_of_methodNamed B.named
  have hlocks := B.notSynchronized
  subst hsz
  have hD := hD0.self (sz := s.heap.size)
  have hA : ∀ q : Nat, s.heap.size ≤ q → va_A (wC a cI cC Fa Aa) s.heap.size q := fun q h => Or.inr h
  have hS : va_S (va_A (wC a cI cC Fa Aa) s.heap.size) s.heap s.heap [] := va_S.rf
  have hl := lv_entry (([.ref (a 0), .int u1] : List Value)) (n := 2) (Nat.le_of_ble_eq_true rfl)
  rw [lg_entry_eq]
  generalize (lg_sl (([.ref (a 0), .int u1] : List Value)) ++ List.replicate (2 - (lg_sl (([.ref (a 0), .int u1] : List Value))).length) Slot.unset).toArray = ls at hl ⊢
  have hl : lv_has ls 2 [(0, .ref (a 0)), (1, .int u1)] := hl
  unfold f_C_letter at hf
  refine lv_iload_n hx hb d_C_letter_0 rfl (lv_at hl 1 rfl) ?_
  by_cases h1_1 : u1 = (99 : Int32)
  · rw [if_pos h1_1] at hf
    refine lv_lookup (tgt := 65) (off := 64) hx hb d_C_letter_1 (by decide) (by rw [h1_1]; decide) (by decide) ?_
    refine lv_aload_n hx hb d_C_letter_65 rfl (lv_at hl 0 rfl) ?_
    refine lv_iconst (v := 3) hx hb d_C_letter_66 (by decide) ?_
    refine lv_iconst (v := 3) hx hb d_C_letter_67 (by decide) ?_
    have hP : va_P (dC, dI) vC (wC a cI cC Fa Aa) s.heap := hP
    have hD : va_D (va_A (wC a cI cC Fa Aa) s.heap.size) (wC a cI cC Fa Aa) := hD
    obtain ⟨r2, F2, A2, hc, hf⟩ := ra_bi_some hf
    refine cc_calli (va_runV (As := [.int (3 : Int32), .int (3 : Int32)]) (rest := []) ⟨hx, hb, hml, hown, hts⟩ (k_C_input l dC dI a cI cC s.heap.size Fa Aa (3 : Int32) (3 : Int32) r2 F2 A2 hc) (cw_V 2 hts mw_211 mw_213 ms_C_input mw_3 mw_214 rfl rfl rfl hd_C_input ⟨Nat.le_of_ble_eq_true rfl, Nat.le_of_ble_eq_true rfl⟩) (cc_preV hK hP hD rfl (q0 := 0) rfl) rfl rfl hl.1 rfl (lv_room (Nat.le_of_ble_eq_true rfl)) d_C_letter_68 ⟨Nat.zero_le _, Nat.zero_le _⟩) hD hS hA (fun H locs hP hD hS => ?_)
    cases hf
    exact W.iret hx hb hr (fun t ht hW => ⟨⟨_, (), rfl, rfl, by rw [ht]; exact hP, va_K.moved hW.alike hK, hD⟩, hS.F ht⟩) hS.2.2 d_C_letter_71
  · rw [if_neg h1_1] at hf
    by_cases h1_3 : u1 = (116 : Int32)
    · rw [if_pos h1_3] at hf
      refine lv_lookup (tgt := 58) (off := 57) hx hb d_C_letter_1 (by decide) (by rw [h1_3]; decide) (by decide) ?_
      refine lv_aload_n hx hb d_C_letter_58 rfl (lv_at hl 0 rfl) ?_
      refine lv_iconst (v := 2) hx hb d_C_letter_59 (by decide) ?_
      refine lv_iconst (v := 1) hx hb d_C_letter_60 (by decide) ?_
      have hP : va_P (dC, dI) vC (wC a cI cC Fa Aa) s.heap := hP
      have hD : va_D (va_A (wC a cI cC Fa Aa) s.heap.size) (wC a cI cC Fa Aa) := hD
      obtain ⟨r4, F4, A4, hc, hf⟩ := ra_bi_some hf
      refine cc_calli (va_runV (As := [.int (2 : Int32), .int (1 : Int32)]) (rest := []) ⟨hx, hb, hml, hown, hts⟩ (k_C_input l dC dI a cI cC s.heap.size Fa Aa (2 : Int32) (1 : Int32) r4 F4 A4 hc) (cw_V 2 hts mw_211 mw_213 ms_C_input mw_3 mw_214 rfl rfl rfl hd_C_input ⟨Nat.le_of_ble_eq_true rfl, Nat.le_of_ble_eq_true rfl⟩) (cc_preV hK hP hD rfl (q0 := 0) rfl) rfl rfl hl.1 rfl (lv_room (Nat.le_of_ble_eq_true rfl)) d_C_letter_61 ⟨Nat.zero_le _, Nat.zero_le _⟩) hD hS hA (fun H locs hP hD hS => ?_)
      cases hf
      exact W.iret hx hb hr (fun t ht hW => ⟨⟨_, (), rfl, rfl, by rw [ht]; exact hP, va_K.moved hW.alike hK, hD⟩, hS.F ht⟩) hS.2.2 d_C_letter_64
    · rw [if_neg h1_3] at hf
      by_cases h1_5 : u1 = (120 : Int32)
      · rw [if_pos h1_5] at hf
        refine lv_lookup (tgt := 44) (off := 43) hx hb d_C_letter_1 (by decide) (by rw [h1_5]; decide) (by decide) ?_
        refine lv_aload_n hx hb d_C_letter_44 rfl (lv_at hl 0 rfl) ?_
        refine lv_iconst (v := 0) hx hb d_C_letter_45 (by decide) ?_
        refine lv_iconst (v := 1) hx hb d_C_letter_46 (by decide) ?_
        have hP : va_P (dC, dI) vC (wC a cI cC Fa Aa) s.heap := hP
        have hD : va_D (va_A (wC a cI cC Fa Aa) s.heap.size) (wC a cI cC Fa Aa) := hD
        obtain ⟨r6, F6, A6, hc, hf⟩ := ra_bi_some hf
        refine cc_calli (va_runV (As := [.int (0 : Int32), .int (1 : Int32)]) (rest := []) ⟨hx, hb, hml, hown, hts⟩ (k_C_input l dC dI a cI cC s.heap.size Fa Aa (0 : Int32) (1 : Int32) r6 F6 A6 hc) (cw_V 2 hts mw_211 mw_213 ms_C_input mw_3 mw_214 rfl rfl rfl hd_C_input ⟨Nat.le_of_ble_eq_true rfl, Nat.le_of_ble_eq_true rfl⟩) (cc_preV hK hP hD rfl (q0 := 0) rfl) rfl rfl hl.1 rfl (lv_room (Nat.le_of_ble_eq_true rfl)) d_C_letter_47 ⟨Nat.zero_le _, Nat.zero_le _⟩) hD hS hA (fun H locs hP hD hS => ?_)
        cases hf
        exact W.iret hx hb hr (fun t ht hW => ⟨⟨_, (), rfl, rfl, by rw [ht]; exact hP, va_K.moved hW.alike hK, hD⟩, hS.F ht⟩) hS.2.2 d_C_letter_50
      · rw [if_neg h1_5] at hf
        by_cases h1_7 : u1 = (121 : Int32)
        · rw [if_pos h1_7] at hf
          refine lv_lookup (tgt := 51) (off := 50) hx hb d_C_letter_1 (by decide) (by rw [h1_7]; decide) (by decide) ?_
          refine lv_aload_n hx hb d_C_letter_51 rfl (lv_at hl 0 rfl) ?_
          refine lv_iconst (v := 1) hx hb d_C_letter_52 (by decide) ?_
          refine lv_iconst (v := 1) hx hb d_C_letter_53 (by decide) ?_
          have hP : va_P (dC, dI) vC (wC a cI cC Fa Aa) s.heap := hP
          have hD : va_D (va_A (wC a cI cC Fa Aa) s.heap.size) (wC a cI cC Fa Aa) := hD
          obtain ⟨r8, F8, A8, hc, hf⟩ := ra_bi_some hf
          refine cc_calli (va_runV (As := [.int (1 : Int32), .int (1 : Int32)]) (rest := []) ⟨hx, hb, hml, hown, hts⟩ (k_C_input l dC dI a cI cC s.heap.size Fa Aa (1 : Int32) (1 : Int32) r8 F8 A8 hc) (cw_V 2 hts mw_211 mw_213 ms_C_input mw_3 mw_214 rfl rfl rfl hd_C_input ⟨Nat.le_of_ble_eq_true rfl, Nat.le_of_ble_eq_true rfl⟩) (cc_preV hK hP hD rfl (q0 := 0) rfl) rfl rfl hl.1 rfl (lv_room (Nat.le_of_ble_eq_true rfl)) d_C_letter_54 ⟨Nat.zero_le _, Nat.zero_le _⟩) hD hS hA (fun H locs hP hD hS => ?_)
          cases hf
          exact W.iret hx hb hr (fun t ht hW => ⟨⟨_, (), rfl, rfl, by rw [ht]; exact hP, va_K.moved hW.alike hK, hD⟩, hS.F ht⟩) hS.2.2 d_C_letter_57
        · rw [if_neg h1_7] at hf
          refine lv_lookup (tgt := 72) (off := 71) hx hb d_C_letter_1 (by decide) ((lv_osw h1_1 (by decide)).trans ((lv_osw h1_3 (by decide)).trans ((lv_osw h1_5 (by decide)).trans ((lv_osw h1_7 (by decide)).trans (rfl))))) (by decide) ?_
          refine lv_aload_n hx hb d_C_letter_72 rfl (lv_at hl 0 rfl) ?_
          refine va_get (D := (dC, dI)) (ci := 1) (v := .ref (a 1)) (C := R_C) (T := T_C) (N := 5) hx hb hts in_C hown hK hP 0 rfl rfl 0 (by decide) (hts _ mw_75) (fun _ h9 => h9) rfl d_C_letter_73 ?_
          refine lv_iload_n hx hb d_C_letter_76 rfl (lv_at hl 1 rfl) ?_
          refine lv_bipush (v := 97) hx hb d_C_letter_77 (by decide) ?_
          refine lv_isub hx hb d_C_letter_79 ?_
          obtain ⟨hi, hf⟩ := ra_g_some hf
          refine va_iald hx hb hK hP 1 0 rfl rfl hi d_C_letter_80 ?_
          cases hf
          exact W.iret hx hb hr (fun t ht hW => ⟨⟨_, (), rfl, rfl, by rw [ht]; exact hP, va_K.moved hW.alike hK, hD⟩, hS.F ht⟩) hS.2.2 d_C_letter_81
end
section
def f_C_behindEachOther_L51 : Nat → Int32 → Int32 → Int32 → Int32 → Int32 → Int32 → Option Int32
  | 0, _, _, _, _, _, _ => none
  | n + 1, x0, x1, x2, x3, x4, x5 => if x3 ≤ x5 then (some x4) else (f_C_behindEachOther_L51 n x0 x1 x2 x3 (f_V_withNumber x4 (x2 + x5) (f_V_number x1 x5)) (x5 + (1 : Int32)))
def f_C_behindEachOther_L21 : Nat → Int32 → Int32 → Int32 → Int32 → Int32 → Int32 → Option Int32
  | 0, _, _, _, _, _, _ => none
  | n + 1, x0, x1, x2, x3, x4, x5 => if x2 ≤ x5 then (f_C_behindEachOther_L51 400 x0 x1 x2 x3 x4 (0 : Int32)) else (f_C_behindEachOther_L21 n x0 x1 x2 x3 (f_V_withNumber x4 x5 (f_V_number x0 x5)) (x5 + (1 : Int32)))
def f_C_behindEachOther (u0 : Int32) (u1 : Int32) : Option Int32 := f_C_behindEachOther_L21 400 u0 u1 (f_V_typeIn u0) (f_V_typeIn u1) (f_V_ofType ((f_V_typeIn u0) + (f_V_typeIn u1))) (0 : Int32)
set_option maxHeartbeats 4000000 in
set_option maxRecDepth 100000 in
theorem k_C_behindEachOther (l : Launch) (u0 : Int32) (u1 : Int32) (r0 : Int32) (hf : f_C_behindEachOther u0 u1 = some r0) : cc_MetS l y_C_behindEachOther (Cond.code y_C_behindEachOther b_C_behindEachOther 6 (some .int) :: wA) ({ frames := 1, cells := 0, slots := 0, locals := 22 } : Room) ([.int u0, .int u1] : List Value) r0 := by
  refine Met.ofW (cc := b_C_behindEachOther) (maxL := 6) (ret := (some .int)) (by decide) rfl ?_
  intro p e s m args below meth c s₁ B hml hv
  obtain rfl : args = ([.int u0, .int u1] : List Value).toArray := hv
  have hx := B.exec
  have hb := B.bytes
  have hr := B.returns
  have hts := fun w h => atoms_spec (ws := (Cond.code y_C_behindEachOther b_C_behindEachOther 6 (some .int) :: wA)) B.pre w (List.mem_cons_of_mem _ h)
  have hown : s.vm.findClass R_C = some m.cls := findClass_of_methodNamed B.named
  have hlocks := B.notSynchronized
  have hl := lv_entry (([.int u0, .int u1] : List Value)) (n := 6) (Nat.le_of_ble_eq_true rfl)
  have L51 : ∀ (n : Nat) (x0 : Int32) (x1 : Int32) (x2 : Int32) (x3 : Int32) (x4 : Int32) (x5 : Int32) (ls : Array Slot), lv_has ls 6 [(0, .int x0), (1, .int x1), (2, .int x2), (3, .int x3), (4, .int x4), (5, .int x5)] → f_C_behindEachOther_L51 n x0 x1 x2 x3 x4 x5 = some r0 → W p l e (headSpec (Cond.code y_C_behindEachOther b_C_behindEachOther 6 (some .int) :: wA) ({ frames := 1, cells := 0, slots := 0, locals := 22 } : Room)).room s m ([.int u0, .int u1] : List Value).toArray below meth c s.heap [] 0 0 (MQ below (vp_Si (fun r => r = r0)) ([.int u0, .int u1] : List Value).toArray s 0 0 (fun _ => False)) (F0 m 51 ls []) := by
    intro n
    induction n with
    | zero => intro x0 x1 x2 x3 x4 x5 ls hl hf; cases hf
    | succ n ih =>
      intro x0 x1 x2 x3 x4 x5 ls hl hf
      rw [f_C_behindEachOther_L51] at hf
      refine lv_iload hx hb d_C_behindEachOther_51 (lv_at hl 5 rfl) ?_
      refine lv_iload_n hx hb d_C_behindEachOther_53 rfl (lv_at hl 3 rfl) ?_
      refine lv_icmp_ge (tgt := 80) hx hb d_C_behindEachOther_54 (by decide) (fun h54_2 => ?_) (fun h54_2 => ?_)
      · rw [if_pos h54_2] at hf
        refine lv_iload hx hb d_C_behindEachOther_80 (lv_at hl 4 rfl) ?_
        cases hf
        exact W.iret hx hb hr (fun t ht hW => ⟨_, rfl, rfl, ht⟩) (fun q h => by cases h) d_C_behindEachOther_82
      · rw [if_neg h54_2] at hf
        refine lv_iload hx hb d_C_behindEachOther_57 (lv_at hl 4 rfl) ?_
        refine lv_iload_n hx hb d_C_behindEachOther_59 rfl (lv_at hl 2 rfl) ?_
        refine lv_iload hx hb d_C_behindEachOther_60 (lv_at hl 5 rfl) ?_
        refine lv_iadd hx hb d_C_behindEachOther_62 ?_
        refine lv_iload_n hx hb d_C_behindEachOther_63 rfl (lv_at hl 1 rfl) ?_
        refine lv_iload hx hb d_C_behindEachOther_64 (lv_at hl 5 rfl) ?_
        refine cc_calls (va_runS (As := [.int x1, .int x5]) (rest := [.int (x2 + x5), .int x4]) ⟨hx, hb, hml, hown, hts⟩ (k_V_number l x1 x5 _ rfl) (cw_S 2 hts mw_226 mw_227 mw_11 mw_228 rfl rfl hd_V_number ⟨Nat.le_of_ble_eq_true rfl, Nat.le_of_ble_eq_true rfl⟩) cc_preS rfl rfl hl.1 rfl (lv_room (Nat.le_of_ble_eq_true rfl)) d_C_behindEachOther_66 ⟨Nat.zero_le _, Nat.zero_le _⟩) ?_
        refine cc_calls (va_runS (As := [.int x4, .int (x2 + x5), .int (f_V_number x1 x5)]) (rest := []) ⟨hx, hb, hml, hown, hts⟩ (k_V_withNumber l x4 (x2 + x5) (f_V_number x1 x5) _ rfl) (cw_S 3 hts mw_200 mw_201 mw_11 mw_202 rfl rfl hd_V_withNumber ⟨Nat.le_of_ble_eq_true rfl, Nat.le_of_ble_eq_true rfl⟩) cc_preS rfl rfl hl.1 rfl (lv_room (Nat.le_of_ble_eq_true rfl)) d_C_behindEachOther_69 ⟨Nat.zero_le _, Nat.zero_le _⟩) ?_
        refine lv_istore hx hb d_C_behindEachOther_72 hl (by decide) rfl (fun ls hl => ?_)
        have hl : lv_has ls 6 [(4, .int (f_V_withNumber x4 (x2 + x5) (f_V_number x1 x5))), (0, .int x0), (1, .int x1), (2, .int x2), (3, .int x3), (5, .int x5)] := hl
        refine lv_iinc (k := 5) (v := (x5 + (1 : Int32))) hx hb d_C_behindEachOther_74 hl rfl (by rfl) (by decide) rfl (fun ls hl => ?_)
        have hl : lv_has ls 6 [(5, .int (x5 + (1 : Int32))), (4, .int (f_V_withNumber x4 (x2 + x5) (f_V_number x1 x5))), (0, .int x0), (1, .int x1), (2, .int x2), (3, .int x3)] := hl
        refine lv_goto (tgt := 51) hx hb d_C_behindEachOther_77 (by decide) ?_
        have hl : lv_has ls 6 [(0, .int x0), (1, .int x1), (2, .int x2), (3, .int x3), (4, .int (f_V_withNumber x4 (x2 + x5) (f_V_number x1 x5))), (5, .int (x5 + (1 : Int32)))] := lv_sub hl [2, 3, 4, 5, 1, 0] rfl
        exact ih x0 x1 x2 x3 (f_V_withNumber x4 (x2 + x5) (f_V_number x1 x5)) (x5 + (1 : Int32)) _ hl hf
  have L21 : ∀ (n : Nat) (x0 : Int32) (x1 : Int32) (x2 : Int32) (x3 : Int32) (x4 : Int32) (x5 : Int32) (ls : Array Slot), lv_has ls 6 [(0, .int x0), (1, .int x1), (2, .int x2), (3, .int x3), (4, .int x4), (5, .int x5)] → f_C_behindEachOther_L21 n x0 x1 x2 x3 x4 x5 = some r0 → W p l e (headSpec (Cond.code y_C_behindEachOther b_C_behindEachOther 6 (some .int) :: wA) ({ frames := 1, cells := 0, slots := 0, locals := 22 } : Room)).room s m ([.int u0, .int u1] : List Value).toArray below meth c s.heap [] 0 0 (MQ below (vp_Si (fun r => r = r0)) ([.int u0, .int u1] : List Value).toArray s 0 0 (fun _ => False)) (F0 m 21 ls []) := by
    intro n
    induction n with
    | zero => intro x0 x1 x2 x3 x4 x5 ls hl hf; cases hf
    | succ n ih =>
      intro x0 x1 x2 x3 x4 x5 ls hl hf
      rw [f_C_behindEachOther_L21] at hf
      refine lv_iload hx hb d_C_behindEachOther_21 (lv_at hl 5 rfl) ?_
      refine lv_iload_n hx hb d_C_behindEachOther_23 rfl (lv_at hl 2 rfl) ?_
      refine lv_icmp_ge (tgt := 48) hx hb d_C_behindEachOther_24 (by decide) (fun h24_1 => ?_) (fun h24_1 => ?_)
      · rw [if_pos h24_1] at hf
        refine lv_iconst (v := 0) hx hb d_C_behindEachOther_48 (by decide) ?_
        refine lv_istore hx hb d_C_behindEachOther_49 hl (by decide) rfl (fun ls hl => ?_)
        have hl : lv_has ls 6 [(5, .int (0 : Int32)), (0, .int x0), (1, .int x1), (2, .int x2), (3, .int x3), (4, .int x4)] := hl
        have hl : lv_has ls 6 [(0, .int x0), (1, .int x1), (2, .int x2), (3, .int x3), (4, .int x4), (5, .int (0 : Int32))] := lv_sub hl [1, 2, 3, 4, 5, 0] rfl
        exact L51 400 x0 x1 x2 x3 x4 (0 : Int32) _ hl hf
      · rw [if_neg h24_1] at hf
        refine lv_iload hx hb d_C_behindEachOther_27 (lv_at hl 4 rfl) ?_
        refine lv_iload hx hb d_C_behindEachOther_29 (lv_at hl 5 rfl) ?_
        refine lv_iload_n hx hb d_C_behindEachOther_31 rfl (lv_at hl 0 rfl) ?_
        refine lv_iload hx hb d_C_behindEachOther_32 (lv_at hl 5 rfl) ?_
        refine cc_calls (va_runS (As := [.int x0, .int x5]) (rest := [.int x5, .int x4]) ⟨hx, hb, hml, hown, hts⟩ (k_V_number l x0 x5 _ rfl) (cw_S 2 hts mw_226 mw_227 mw_11 mw_228 rfl rfl hd_V_number ⟨Nat.le_of_ble_eq_true rfl, Nat.le_of_ble_eq_true rfl⟩) cc_preS rfl rfl hl.1 rfl (lv_room (Nat.le_of_ble_eq_true rfl)) d_C_behindEachOther_34 ⟨Nat.zero_le _, Nat.zero_le _⟩) ?_
        refine cc_calls (va_runS (As := [.int x4, .int x5, .int (f_V_number x0 x5)]) (rest := []) ⟨hx, hb, hml, hown, hts⟩ (k_V_withNumber l x4 x5 (f_V_number x0 x5) _ rfl) (cw_S 3 hts mw_200 mw_201 mw_11 mw_202 rfl rfl hd_V_withNumber ⟨Nat.le_of_ble_eq_true rfl, Nat.le_of_ble_eq_true rfl⟩) cc_preS rfl rfl hl.1 rfl (lv_room (Nat.le_of_ble_eq_true rfl)) d_C_behindEachOther_37 ⟨Nat.zero_le _, Nat.zero_le _⟩) ?_
        refine lv_istore hx hb d_C_behindEachOther_40 hl (by decide) rfl (fun ls hl => ?_)
        have hl : lv_has ls 6 [(4, .int (f_V_withNumber x4 x5 (f_V_number x0 x5))), (0, .int x0), (1, .int x1), (2, .int x2), (3, .int x3), (5, .int x5)] := hl
        refine lv_iinc (k := 5) (v := (x5 + (1 : Int32))) hx hb d_C_behindEachOther_42 hl rfl (by rfl) (by decide) rfl (fun ls hl => ?_)
        have hl : lv_has ls 6 [(5, .int (x5 + (1 : Int32))), (4, .int (f_V_withNumber x4 x5 (f_V_number x0 x5))), (0, .int x0), (1, .int x1), (2, .int x2), (3, .int x3)] := hl
        refine lv_goto (tgt := 21) hx hb d_C_behindEachOther_45 (by decide) ?_
        have hl : lv_has ls 6 [(0, .int x0), (1, .int x1), (2, .int x2), (3, .int x3), (4, .int (f_V_withNumber x4 x5 (f_V_number x0 x5))), (5, .int (x5 + (1 : Int32)))] := lv_sub hl [2, 3, 4, 5, 1, 0] rfl
        exact ih x0 x1 x2 x3 (f_V_withNumber x4 x5 (f_V_number x0 x5)) (x5 + (1 : Int32)) _ hl hf
  rw [lg_entry_eq]
  generalize (lg_sl (([.int u0, .int u1] : List Value)) ++ List.replicate (6 - (lg_sl (([.int u0, .int u1] : List Value))).length) Slot.unset).toArray = ls at hl ⊢
  have hl : lv_has ls 6 [(0, .int u0), (1, .int u1)] := hl
  unfold f_C_behindEachOther at hf
  refine lv_iload_n hx hb d_C_behindEachOther_0 rfl (lv_at hl 0 rfl) ?_
  refine cc_calls (va_runS (As := [.int u0]) (rest := []) ⟨hx, hb, hml, hown, hts⟩ (k_V_typeIn l u0 _ rfl) (cw_S 1 hts mw_223 mw_224 mw_11 mw_225 rfl rfl hd_V_typeIn ⟨Nat.le_of_ble_eq_true rfl, Nat.le_of_ble_eq_true rfl⟩) cc_preS rfl rfl hl.1 rfl (lv_room (Nat.le_of_ble_eq_true rfl)) d_C_behindEachOther_1 ⟨Nat.zero_le _, Nat.zero_le _⟩) ?_
  refine lv_istore_n hx hb d_C_behindEachOther_4 rfl hl (by decide) rfl (fun ls hl => ?_)
  have hl : lv_has ls 6 [(2, .int (f_V_typeIn u0)), (0, .int u0), (1, .int u1)] := hl
  refine lv_iload_n hx hb d_C_behindEachOther_5 rfl (lv_at hl 2 rfl) ?_
  refine cc_calls (va_runS (As := [.int u1]) (rest := []) ⟨hx, hb, hml, hown, hts⟩ (k_V_typeIn l u1 _ rfl) (cw_S 1 hts mw_223 mw_224 mw_11 mw_225 rfl rfl hd_V_typeIn ⟨Nat.le_of_ble_eq_true rfl, Nat.le_of_ble_eq_true rfl⟩) cc_preS rfl rfl hl.1 rfl (lv_room (Nat.le_of_ble_eq_true rfl)) d_C_behindEachOther_6 ⟨Nat.zero_le _, Nat.zero_le _⟩) ?_
  refine lv_istore_n hx hb d_C_behindEachOther_9 rfl hl (by decide) rfl (fun ls hl => ?_)
  have hl : lv_has ls 6 [(3, .int (f_V_typeIn u1)), (2, .int (f_V_typeIn u0)), (0, .int u0), (1, .int u1)] := hl
  refine lv_iload_n hx hb d_C_behindEachOther_10 rfl (lv_at hl 1 rfl) ?_
  refine lv_iload_n hx hb d_C_behindEachOther_11 rfl (lv_at hl 0 rfl) ?_
  refine lv_iadd hx hb d_C_behindEachOther_12 ?_
  refine cc_calls (va_runS (As := [.int ((f_V_typeIn u0) + (f_V_typeIn u1))]) (rest := []) ⟨hx, hb, hml, hown, hts⟩ (k_V_ofType l ((f_V_typeIn u0) + (f_V_typeIn u1)) _ rfl) (cw_S 1 hts mw_193 mw_194 mw_11 mw_195 rfl rfl hd_V_ofType ⟨Nat.le_of_ble_eq_true rfl, Nat.le_of_ble_eq_true rfl⟩) cc_preS rfl rfl hl.1 rfl (lv_room (Nat.le_of_ble_eq_true rfl)) d_C_behindEachOther_13 ⟨Nat.zero_le _, Nat.zero_le _⟩) ?_
  refine lv_istore hx hb d_C_behindEachOther_16 hl (by decide) rfl (fun ls hl => ?_)
  have hl : lv_has ls 6 [(4, .int (f_V_ofType ((f_V_typeIn u0) + (f_V_typeIn u1)))), (3, .int (f_V_typeIn u1)), (2, .int (f_V_typeIn u0)), (0, .int u0), (1, .int u1)] := hl
  refine lv_iconst (v := 0) hx hb d_C_behindEachOther_18 (by decide) ?_
  refine lv_istore hx hb d_C_behindEachOther_19 hl (by decide) rfl (fun ls hl => ?_)
  have hl : lv_has ls 6 [(5, .int (0 : Int32)), (4, .int (f_V_ofType ((f_V_typeIn u0) + (f_V_typeIn u1)))), (3, .int (f_V_typeIn u1)), (2, .int (f_V_typeIn u0)), (0, .int u0), (1, .int u1)] := hl
  have hl : lv_has ls 6 [(0, .int u0), (1, .int u1), (2, .int (f_V_typeIn u0)), (3, .int (f_V_typeIn u1)), (4, .int (f_V_ofType ((f_V_typeIn u0) + (f_V_typeIn u1)))), (5, .int (0 : Int32))] := lv_sub hl [4, 5, 3, 2, 1, 0] rfl
  exact L21 400 u0 u1 (f_V_typeIn u0) (f_V_typeIn u1) (f_V_ofType ((f_V_typeIn u0) + (f_V_typeIn u1))) (0 : Int32) _ hl hf
def f_C_matrix (u1 : Int32) (u2 : Int32) (Fa : ST_F) (Aa : ST_A) : Option (Int32 × ST_F × ST_A) := if u1 = (-1 : Int32) then (some ((-1 : Int32), Fa, Aa)) else (if u2 = (-1 : Int32) then (some ((-1 : Int32), Fa, Aa)) else (if (f_V_typeIn u1) = (2 : Int32) then (if (f_V_typeIn u2) = (2 : Int32) then ((f_C_behindEachOther u1 u2).bind (fun r5 => some (r5, Fa, Aa))) else (some ((-1 : Int32), Fa, Aa))) else (some ((-1 : Int32), Fa, Aa))))
set_option maxHeartbeats 4000000 in
set_option maxRecDepth 100000 in
theorem k_C_matrix (l : Launch) (dC : Nat → ClassId) (dI : Nat → Nat → Nat) (a : Nat → Nat) (cI cC : ClassId) (sz : Nat) (Fa : ST_F) (Aa : ST_A) (u1 : Int32) (u2 : Int32) (r0 : Int32) (F9 : ST_F) (A9 : ST_A) (hf : f_C_matrix u1 u2 Fa Aa = some (r0, F9, A9)) : cc_MetI l y_C_matrix (Cond.code y_C_matrix b_C_matrix 3 (some .int) :: wA) ({ frames := 2, cells := 0, slots := 0, locals := 47 } : Room) (dC, dI) vC [(cI, .int), (cC, .char)] ([.ref (a 0), .int u1, .int u2] : List Value) (wC a cI cC Fa Aa) sz (wC a cI cC F9 A9) r0 := by
  refine Met.ofW (cc := b_C_matrix) (maxL := 3) (ret := (some .int)) (by decide) rfl ?_
  intro p e s m args below meth c s₁ B hml hv
  obtain ⟨rfl, hsz, hP, hK, hD0⟩ := hv
  have hx := B.exec
  have hb := B.bytes
  have hr := B.returns
  have hts := fun w h => atoms_spec (ws := (Cond.code y_C_matrix b_C_matrix 3 (some .int) :: wA)) B.pre w (List.mem_cons_of_mem _ h)
  have hown : s.vm.findClass R_C = some m.cls := findClass_of_methodNamed B.named
  have hlocks := B.notSynchronized
  subst hsz
  have hD := hD0.self (sz := s.heap.size)
  have hA : ∀ q : Nat, s.heap.size ≤ q → va_A (wC a cI cC Fa Aa) s.heap.size q := fun q h => Or.inr h
  have hS : va_S (va_A (wC a cI cC Fa Aa) s.heap.size) s.heap s.heap [] := va_S.rf
  have hl := lv_entry (([.ref (a 0), .int u1, .int u2] : List Value)) (n := 3) (Nat.le_of_ble_eq_true rfl)
  rw [lg_entry_eq]
  generalize (lg_sl (([.ref (a 0), .int u1, .int u2] : List Value)) ++ List.replicate (3 - (lg_sl (([.ref (a 0), .int u1, .int u2] : List Value))).length) Slot.unset).toArray = ls at hl ⊢
  have hl : lv_has ls 3 [(0, .ref (a 0)), (1, .int u1), (2, .int u2)] := hl
  unfold f_C_matrix at hf
  refine lv_iload_n hx hb d_C_matrix_0 rfl (lv_at hl 1 rfl) ?_
  refine lv_iconst (v := -1) hx hb d_C_matrix_1 (by decide) ?_
  refine lv_icmp_eq (tgt := 10) hx hb d_C_matrix_2 (by decide) (fun h2_1 => ?_) (fun h2_1 => ?_)
  · rw [if_pos h2_1] at hf
    refine lv_iconst (v := -1) hx hb d_C_matrix_10 (by decide) ?_
    cases hf
    exact W.iret hx hb hr (fun t ht hW => ⟨⟨_, (), rfl, rfl, by rw [ht]; exact hP, va_K.moved hW.alike hK, hD⟩, hS.F ht⟩) hS.2.2 d_C_matrix_11
  · rw [if_neg h2_1] at hf
    refine lv_iload_n hx hb d_C_matrix_5 rfl (lv_at hl 2 rfl) ?_
    refine lv_iconst (v := -1) hx hb d_C_matrix_6 (by decide) ?_
    refine lv_icmp_ne (tgt := 12) hx hb d_C_matrix_7 (by decide) (fun h7_2 => ?_) (fun h7_2 => ?_)
    · rw [if_neg h7_2] at hf
      refine lv_iload_n hx hb d_C_matrix_12 rfl (lv_at hl 1 rfl) ?_
      refine cc_calls (va_runS (As := [.int u1]) (rest := []) ⟨hx, hb, hml, hown, hts⟩ (k_V_typeIn l u1 _ rfl) (cw_S 1 hts mw_223 mw_224 mw_11 mw_225 rfl rfl hd_V_typeIn ⟨Nat.le_of_ble_eq_true rfl, Nat.le_of_ble_eq_true rfl⟩) cc_preS rfl rfl hl.1 rfl (lv_room (Nat.le_of_ble_eq_true rfl)) d_C_matrix_13 ⟨Nat.zero_le _, Nat.zero_le _⟩) ?_
      refine lv_iconst (v := 2) hx hb d_C_matrix_16 (by decide) ?_
      refine lv_icmp_ne (tgt := 28) hx hb d_C_matrix_17 (by decide) (fun h17_3 => ?_) (fun h17_3 => ?_)
      · rw [if_neg h17_3] at hf
        refine lv_iconst (v := -1) hx hb d_C_matrix_28 (by decide) ?_
        cases hf
        exact W.iret hx hb hr (fun t ht hW => ⟨⟨_, (), rfl, rfl, by rw [ht]; exact hP, va_K.moved hW.alike hK, hD⟩, hS.F ht⟩) hS.2.2 d_C_matrix_29
      · rw [if_pos h17_3] at hf
        refine lv_iload_n hx hb d_C_matrix_20 rfl (lv_at hl 2 rfl) ?_
        refine cc_calls (va_runS (As := [.int u2]) (rest := []) ⟨hx, hb, hml, hown, hts⟩ (k_V_typeIn l u2 _ rfl) (cw_S 1 hts mw_223 mw_224 mw_11 mw_225 rfl rfl hd_V_typeIn ⟨Nat.le_of_ble_eq_true rfl, Nat.le_of_ble_eq_true rfl⟩) cc_preS rfl rfl hl.1 rfl (lv_room (Nat.le_of_ble_eq_true rfl)) d_C_matrix_21 ⟨Nat.zero_le _, Nat.zero_le _⟩) ?_
        refine lv_iconst (v := 2) hx hb d_C_matrix_24 (by decide) ?_
        refine lv_icmp_eq (tgt := 30) hx hb d_C_matrix_25 (by decide) (fun h25_4 => ?_) (fun h25_4 => ?_)
        · rw [if_pos h25_4] at hf
          refine lv_iload_n hx hb d_C_matrix_30 rfl (lv_at hl 1 rfl) ?_
          refine lv_iload_n hx hb d_C_matrix_31 rfl (lv_at hl 2 rfl) ?_
          obtain ⟨r5, hc, hf⟩ := Option.bind_eq_some_iff.mp hf
          refine cc_calls (va_runS (As := [.int u1, .int u2]) (rest := []) ⟨hx, hb, hml, hown, hts⟩ (k_C_behindEachOther l u1 u2 r5 hc) (cw_S 2 hts mw_237 mw_238 mw_3 mw_239 rfl rfl hd_C_behindEachOther ⟨Nat.le_of_ble_eq_true rfl, Nat.le_of_ble_eq_true rfl⟩) cc_preS rfl rfl hl.1 rfl (lv_room (Nat.le_of_ble_eq_true rfl)) d_C_matrix_32 ⟨Nat.zero_le _, Nat.zero_le _⟩) ?_
          cases hf
          exact W.iret hx hb hr (fun t ht hW => ⟨⟨_, (), rfl, rfl, by rw [ht]; exact hP, va_K.moved hW.alike hK, hD⟩, hS.F ht⟩) hS.2.2 d_C_matrix_35
        · rw [if_neg h25_4] at hf
          refine lv_iconst (v := -1) hx hb d_C_matrix_28 (by decide) ?_
          cases hf
          exact W.iret hx hb hr (fun t ht hW => ⟨⟨_, (), rfl, rfl, by rw [ht]; exact hP, va_K.moved hW.alike hK, hD⟩, hS.F ht⟩) hS.2.2 d_C_matrix_29
    · rw [if_pos h7_2] at hf
      refine lv_iconst (v := -1) hx hb d_C_matrix_10 (by decide) ?_
      cases hf
      exact W.iret hx hb hr (fun t ht hW => ⟨⟨_, (), rfl, rfl, by rw [ht]; exact hP, va_K.moved hW.alike hK, hD⟩, hS.F ht⟩) hS.2.2 d_C_matrix_11
def f_C_joined (u1 : Int32) (u2 : Int32) (Fa : ST_F) (Aa : ST_A) : Option (Int32 × ST_F × ST_A) := if u1 = (-1 : Int32) then (some ((-1 : Int32), Fa, Aa)) else (if u2 = (-1 : Int32) then (some ((-1 : Int32), Fa, Aa)) else (if ((f_V_typeIn u1) + (f_V_typeIn u2)) ≤ (3 : Int32) then ((f_C_behindEachOther u1 u2).bind (fun r4 => some (r4, Fa, Aa))) else (some ((-1 : Int32), Fa, Aa))))
set_option maxHeartbeats 4000000 in
set_option maxRecDepth 100000 in
theorem k_C_joined (l : Launch) (dC : Nat → ClassId) (dI : Nat → Nat → Nat) (a : Nat → Nat) (cI cC : ClassId) (sz : Nat) (Fa : ST_F) (Aa : ST_A) (u1 : Int32) (u2 : Int32) (r0 : Int32) (F9 : ST_F) (A9 : ST_A) (hf : f_C_joined u1 u2 Fa Aa = some (r0, F9, A9)) : cc_MetI l y_C_joined (Cond.code y_C_joined b_C_joined 3 (some .int) :: wA) ({ frames := 2, cells := 0, slots := 0, locals := 47 } : Room) (dC, dI) vC [(cI, .int), (cC, .char)] ([.ref (a 0), .int u1, .int u2] : List Value) (wC a cI cC Fa Aa) sz (wC a cI cC F9 A9) r0 := by
  refine Met.ofW (cc := b_C_joined) (maxL := 3) (ret := (some .int)) (by decide) rfl ?_
  intro p e s m args below meth c s₁ B hml hv
  obtain ⟨rfl, hsz, hP, hK, hD0⟩ := hv
  have hx := B.exec
  have hb := B.bytes
  have hr := B.returns
  have hts := fun w h => atoms_spec (ws := (Cond.code y_C_joined b_C_joined 3 (some .int) :: wA)) B.pre w (List.mem_cons_of_mem _ h)
  have hown : s.vm.findClass R_C = some m.cls := findClass_of_methodNamed B.named
  have hlocks := B.notSynchronized
  subst hsz
  have hD := hD0.self (sz := s.heap.size)
  have hA : ∀ q : Nat, s.heap.size ≤ q → va_A (wC a cI cC Fa Aa) s.heap.size q := fun q h => Or.inr h
  have hS : va_S (va_A (wC a cI cC Fa Aa) s.heap.size) s.heap s.heap [] := va_S.rf
  have hl := lv_entry (([.ref (a 0), .int u1, .int u2] : List Value)) (n := 3) (Nat.le_of_ble_eq_true rfl)
  rw [lg_entry_eq]
  generalize (lg_sl (([.ref (a 0), .int u1, .int u2] : List Value)) ++ List.replicate (3 - (lg_sl (([.ref (a 0), .int u1, .int u2] : List Value))).length) Slot.unset).toArray = ls at hl ⊢
  have hl : lv_has ls 3 [(0, .ref (a 0)), (1, .int u1), (2, .int u2)] := hl
  unfold f_C_joined at hf
  refine lv_iload_n hx hb d_C_joined_0 rfl (lv_at hl 1 rfl) ?_
  refine lv_iconst (v := -1) hx hb d_C_joined_1 (by decide) ?_
  refine lv_icmp_eq (tgt := 23) hx hb d_C_joined_2 (by decide) (fun h2_1 => ?_) (fun h2_1 => ?_)
  · rw [if_pos h2_1] at hf
    refine lv_iconst (v := -1) hx hb d_C_joined_23 (by decide) ?_
    cases hf
    exact W.iret hx hb hr (fun t ht hW => ⟨⟨_, (), rfl, rfl, by rw [ht]; exact hP, va_K.moved hW.alike hK, hD⟩, hS.F ht⟩) hS.2.2 d_C_joined_24
  · rw [if_neg h2_1] at hf
    refine lv_iload_n hx hb d_C_joined_5 rfl (lv_at hl 2 rfl) ?_
    refine lv_iconst (v := -1) hx hb d_C_joined_6 (by decide) ?_
    refine lv_icmp_eq (tgt := 23) hx hb d_C_joined_7 (by decide) (fun h7_2 => ?_) (fun h7_2 => ?_)
    · rw [if_pos h7_2] at hf
      refine lv_iconst (v := -1) hx hb d_C_joined_23 (by decide) ?_
      cases hf
      exact W.iret hx hb hr (fun t ht hW => ⟨⟨_, (), rfl, rfl, by rw [ht]; exact hP, va_K.moved hW.alike hK, hD⟩, hS.F ht⟩) hS.2.2 d_C_joined_24
    · rw [if_neg h7_2] at hf
      refine lv_iload_n hx hb d_C_joined_10 rfl (lv_at hl 1 rfl) ?_
      refine cc_calls (va_runS (As := [.int u1]) (rest := []) ⟨hx, hb, hml, hown, hts⟩ (k_V_typeIn l u1 _ rfl) (cw_S 1 hts mw_223 mw_224 mw_11 mw_225 rfl rfl hd_V_typeIn ⟨Nat.le_of_ble_eq_true rfl, Nat.le_of_ble_eq_true rfl⟩) cc_preS rfl rfl hl.1 rfl (lv_room (Nat.le_of_ble_eq_true rfl)) d_C_joined_11 ⟨Nat.zero_le _, Nat.zero_le _⟩) ?_
      refine lv_iload_n hx hb d_C_joined_14 rfl (lv_at hl 2 rfl) ?_
      refine cc_calls (va_runS (As := [.int u2]) (rest := [.int (f_V_typeIn u1)]) ⟨hx, hb, hml, hown, hts⟩ (k_V_typeIn l u2 _ rfl) (cw_S 1 hts mw_223 mw_224 mw_11 mw_225 rfl rfl hd_V_typeIn ⟨Nat.le_of_ble_eq_true rfl, Nat.le_of_ble_eq_true rfl⟩) cc_preS rfl rfl hl.1 rfl (lv_room (Nat.le_of_ble_eq_true rfl)) d_C_joined_15 ⟨Nat.zero_le _, Nat.zero_le _⟩) ?_
      refine lv_iadd hx hb d_C_joined_18 ?_
      refine lv_iconst (v := 3) hx hb d_C_joined_19 (by decide) ?_
      refine lv_icmp_le (tgt := 25) hx hb d_C_joined_20 (by decide) (fun h20_3 => ?_) (fun h20_3 => ?_)
      · rw [if_pos h20_3] at hf
        refine lv_iload_n hx hb d_C_joined_25 rfl (lv_at hl 1 rfl) ?_
        refine lv_iload_n hx hb d_C_joined_26 rfl (lv_at hl 2 rfl) ?_
        obtain ⟨r4, hc, hf⟩ := Option.bind_eq_some_iff.mp hf
        refine cc_calls (va_runS (As := [.int u1, .int u2]) (rest := []) ⟨hx, hb, hml, hown, hts⟩ (k_C_behindEachOther l u1 u2 r4 hc) (cw_S 2 hts mw_237 mw_238 mw_3 mw_239 rfl rfl hd_C_behindEachOther ⟨Nat.le_of_ble_eq_true rfl, Nat.le_of_ble_eq_true rfl⟩) cc_preS rfl rfl hl.1 rfl (lv_room (Nat.le_of_ble_eq_true rfl)) d_C_joined_27 ⟨Nat.zero_le _, Nat.zero_le _⟩) ?_
        cases hf
        exact W.iret hx hb hr (fun t ht hW => ⟨⟨_, (), rfl, rfl, by rw [ht]; exact hP, va_K.moved hW.alike hK, hD⟩, hS.F ht⟩) hS.2.2 d_C_joined_30
      · rw [if_neg h20_3] at hf
        refine lv_iconst (v := -1) hx hb d_C_joined_23 (by decide) ?_
        cases hf
        exact W.iret hx hb hr (fun t ht hW => ⟨⟨_, (), rfl, rfl, by rw [ht]; exact hP, va_K.moved hW.alike hK, hD⟩, hS.F ht⟩) hS.2.2 d_C_joined_24
def f_C_each_L18 : Nat → Int32 → Int32 → Int32 → Int32 → ST_F → ST_A → Option (Int32 × ST_F × ST_A)
  | 0, _, _, _, _, _, _ => none
  | n + 1, x1, x2, x3, x4, F, A => if (f_V_typeIn x2) ≤ x4 then (some (x3, F, A)) else (ra_bi (f_K_put x1 (f_V_number x2 x4) (0 : Int32) F A) (fun r3 F3 A3 => f_C_each_L18 n x1 x2 (f_V_withNumber x3 x4 r3) (x4 + (1 : Int32)) F3 A3))
def f_C_each (u1 : Int32) (u2 : Int32) (Fa : ST_F) (Aa : ST_A) : Option (Int32 × ST_F × ST_A) := if u2 = (-1 : Int32) then (some ((-1 : Int32), Fa, Aa)) else (f_C_each_L18 400 u1 u2 (f_V_ofType (f_V_typeIn u2)) (0 : Int32) Fa Aa)
set_option maxHeartbeats 4000000 in
set_option maxRecDepth 100000 in
theorem k_C_each (l : Launch) (dC : Nat → ClassId) (dI : Nat → Nat → Nat) (a : Nat → Nat) (cI cC : ClassId) (sz : Nat) (Fa : ST_F) (Aa : ST_A) (u1 : Int32) (u2 : Int32) (r0 : Int32) (F9 : ST_F) (A9 : ST_A) (hf : f_C_each u1 u2 Fa Aa = some (r0, F9, A9)) : cc_MetI l y_C_each (Cond.code y_C_each b_C_each 5 (some .int) :: wA) ({ frames := 1, cells := 0, slots := 0, locals := 24 } : Room) (dC, dI) vC [(cI, .int), (cC, .char)] ([.ref (a 0), .int u1, .int u2] : List Value) (wC a cI cC Fa Aa) sz (wC a cI cC F9 A9) r0 := by
  refine Met.ofW (cc := b_C_each) (maxL := 5) (ret := (some .int)) (by decide) rfl ?_
  intro p e s m args below meth c s₁ B hml hv
  obtain ⟨rfl, hsz, hP, hK, hD0⟩ := hv
  have hx := B.exec
  have hb := B.bytes
  have hr := B.returns
  have hts := fun w h => atoms_spec (ws := (Cond.code y_C_each b_C_each 5 (some .int) :: wA)) B.pre w (List.mem_cons_of_mem _ h)
  have hown : s.vm.findClass R_C = some m.cls := findClass_of_methodNamed B.named
  have hlocks := B.notSynchronized
  subst hsz
  have hD := hD0.self (sz := s.heap.size)
  have hA : ∀ q : Nat, s.heap.size ≤ q → va_A (wC a cI cC Fa Aa) s.heap.size q := fun q h => Or.inr h
  have hS : va_S (va_A (wC a cI cC Fa Aa) s.heap.size) s.heap s.heap [] := va_S.rf
  have hl := lv_entry (([.ref (a 0), .int u1, .int u2] : List Value)) (n := 5) (Nat.le_of_ble_eq_true rfl)
  have L18 : ∀ (n : Nat) (x1 : Int32) (x2 : Int32) (x3 : Int32) (x4 : Int32) (F : ST_F) (A : ST_A) (H : Heap) (locs : List Loc) (ls : Array Slot), lv_has ls 5 [(0, .ref (a 0)), (1, .int x1), (2, .int x2), (3, .int x3), (4, .int x4)] → va_P (dC, dI) vC (wC a cI cC F A) H → va_D (va_A (wC a cI cC Fa Aa) s.heap.size) (wC a cI cC F A) → va_S (va_A (wC a cI cC Fa Aa) s.heap.size) s.heap H locs → f_C_each_L18 n x1 x2 x3 x4 F A = some (r0, F9, A9) → W p l e (headSpec (Cond.code y_C_each b_C_each 5 (some .int) :: wA) ({ frames := 1, cells := 0, slots := 0, locals := 24 } : Room)).room s m ([.ref (a 0), .int u1, .int u2] : List Value).toArray below meth c H locs 0 0 (MQ below (cc_Qi (dC, dI) vC [(cI, .int), (cC, .char)] (wC a cI cC Fa Aa) s.heap.size (wC a cI cC F9 A9) r0) ([.ref (a 0), .int u1, .int u2] : List Value).toArray s 0 0 (va_A (wC a cI cC Fa Aa) s.heap.size)) (F0 m 18 ls []) := by
    intro n
    induction n with
    | zero => intro x1 x2 x3 x4 F A H locs ls hl hP hD hS hf; cases hf
    | succ n ih =>
      intro x1 x2 x3 x4 F A H locs ls hl hP hD hS hf
      rw [f_C_each_L18] at hf
      refine lv_iload hx hb d_C_each_18 (lv_at hl 4 rfl) ?_
      refine lv_iload_n hx hb d_C_each_20 rfl (lv_at hl 2 rfl) ?_
      refine cc_calls (va_runS (As := [.int x2]) (rest := [.int x4]) ⟨hx, hb, hml, hown, hts⟩ (k_V_typeIn l x2 _ rfl) (cw_S 1 hts mw_223 mw_224 mw_11 mw_225 rfl rfl hd_V_typeIn ⟨Nat.le_of_ble_eq_true rfl, Nat.le_of_ble_eq_true rfl⟩) cc_preS rfl rfl hl.1 rfl (lv_room (Nat.le_of_ble_eq_true rfl)) d_C_each_21 ⟨Nat.zero_le _, Nat.zero_le _⟩) ?_
      refine lv_icmp_ge (tgt := 55) hx hb d_C_each_24 (by decide) (fun h24_2 => ?_) (fun h24_2 => ?_)
      · rw [if_pos h24_2] at hf
        refine lv_iload_n hx hb d_C_each_55 rfl (lv_at hl 3 rfl) ?_
        cases hf
        exact W.iret hx hb hr (fun t ht hW => ⟨⟨_, (), rfl, rfl, by rw [ht]; exact hP, va_K.moved hW.alike hK, hD⟩, hS.F ht⟩) hS.2.2 d_C_each_56
      · rw [if_neg h24_2] at hf
        refine lv_iload_n hx hb d_C_each_27 rfl (lv_at hl 3 rfl) ?_
        refine lv_iload hx hb d_C_each_28 (lv_at hl 4 rfl) ?_
        refine lv_aload_n hx hb d_C_each_30 rfl (lv_at hl 0 rfl) ?_
        refine va_get (D := (dC, dI)) (ci := 1) (v := .ref (a 3)) (C := R_C) (T := T_C) (N := 5) hx hb hts in_C hown hK hP 0 rfl rfl 4 (by decide) (hts _ mw_79) (fun _ h9 => h9) rfl d_C_each_31 ?_
        refine lv_iload_n hx hb d_C_each_34 rfl (lv_at hl 1 rfl) ?_
        refine lv_iload_n hx hb d_C_each_35 rfl (lv_at hl 2 rfl) ?_
        refine lv_iload hx hb d_C_each_36 (lv_at hl 4 rfl) ?_
        refine cc_calls (va_runS (As := [.int x2, .int x4]) (rest := [.int x1, .ref (a 3), .int x4, .int x3]) ⟨hx, hb, hml, hown, hts⟩ (k_V_number l x2 x4 _ rfl) (cw_S 2 hts mw_226 mw_227 mw_11 mw_228 rfl rfl hd_V_number ⟨Nat.le_of_ble_eq_true rfl, Nat.le_of_ble_eq_true rfl⟩) cc_preS rfl rfl hl.1 rfl (lv_room (Nat.le_of_ble_eq_true rfl)) d_C_each_38 ⟨Nat.zero_le _, Nat.zero_le _⟩) ?_
        refine lv_iconst (v := 0) hx hb d_C_each_41 (by decide) ?_
        have hP : va_P (dC, dI) vC (wC a cI cC F A) H := hP
        have hD : va_D (va_A (wC a cI cC Fa Aa) s.heap.size) (wC a cI cC F A) := hD
        obtain ⟨r3, F3, A3, hc, hf⟩ := ra_bi_some hf
        refine cc_calli (va_runV (As := [.int x1, .int (f_V_number x2 x4), .int (0 : Int32)]) (rest := [.int x4, .int x3]) ⟨hx, hb, hml, hown, hts⟩ (k_K_put l dC dI a cI cC H.size F A x1 (f_V_number x2 x4) (0 : Int32) r3 F3 A3 hc) (cw_V 3 hts mw_196 mw_197 mw_198 mw_2 mw_199 rfl rfl rfl hd_K_put ⟨Nat.le_of_ble_eq_true rfl, Nat.le_of_ble_eq_true rfl⟩) (cc_preV hK hP hD rfl (q0 := 3) rfl) rfl rfl hl.1 rfl (lv_room (Nat.le_of_ble_eq_true rfl)) d_C_each_42 ⟨Nat.zero_le _, Nat.zero_le _⟩) hD hS hA (fun H locs hP hD hS => ?_)
        refine cc_calls (va_runS (As := [.int x3, .int x4, .int r3]) (rest := []) ⟨hx, hb, hml, hown, hts⟩ (k_V_withNumber l x3 x4 r3 _ rfl) (cw_S 3 hts mw_200 mw_201 mw_11 mw_202 rfl rfl hd_V_withNumber ⟨Nat.le_of_ble_eq_true rfl, Nat.le_of_ble_eq_true rfl⟩) cc_preS rfl rfl hl.1 rfl (lv_room (Nat.le_of_ble_eq_true rfl)) d_C_each_45 ⟨Nat.zero_le _, Nat.zero_le _⟩) ?_
        refine lv_istore_n hx hb d_C_each_48 rfl hl (by decide) rfl (fun ls hl => ?_)
        have hl : lv_has ls 5 [(3, .int (f_V_withNumber x3 x4 r3)), (0, .ref (a 0)), (1, .int x1), (2, .int x2), (4, .int x4)] := hl
        refine lv_iinc (k := 4) (v := (x4 + (1 : Int32))) hx hb d_C_each_49 hl rfl (by rfl) (by decide) rfl (fun ls hl => ?_)
        have hl : lv_has ls 5 [(4, .int (x4 + (1 : Int32))), (3, .int (f_V_withNumber x3 x4 r3)), (0, .ref (a 0)), (1, .int x1), (2, .int x2)] := hl
        refine lv_goto (tgt := 18) hx hb d_C_each_52 (by decide) ?_
        have hl : lv_has ls 5 [(0, .ref (a 0)), (1, .int x1), (2, .int x2), (3, .int (f_V_withNumber x3 x4 r3)), (4, .int (x4 + (1 : Int32)))] := lv_sub hl [2, 3, 4, 1, 0] rfl
        exact ih x1 x2 (f_V_withNumber x3 x4 r3) (x4 + (1 : Int32)) F3 A3 _ _ _ hl hP hD hS hf
  rw [lg_entry_eq]
  generalize (lg_sl (([.ref (a 0), .int u1, .int u2] : List Value)) ++ List.replicate (5 - (lg_sl (([.ref (a 0), .int u1, .int u2] : List Value))).length) Slot.unset).toArray = ls at hl ⊢
  have hl : lv_has ls 5 [(0, .ref (a 0)), (1, .int u1), (2, .int u2)] := hl
  unfold f_C_each at hf
  refine lv_iload_n hx hb d_C_each_0 rfl (lv_at hl 2 rfl) ?_
  refine lv_iconst (v := -1) hx hb d_C_each_1 (by decide) ?_
  refine lv_icmp_ne (tgt := 7) hx hb d_C_each_2 (by decide) (fun h2_1 => ?_) (fun h2_1 => ?_)
  · rw [if_neg h2_1] at hf
    refine lv_iload_n hx hb d_C_each_7 rfl (lv_at hl 2 rfl) ?_
    refine cc_calls (va_runS (As := [.int u2]) (rest := []) ⟨hx, hb, hml, hown, hts⟩ (k_V_typeIn l u2 _ rfl) (cw_S 1 hts mw_223 mw_224 mw_11 mw_225 rfl rfl hd_V_typeIn ⟨Nat.le_of_ble_eq_true rfl, Nat.le_of_ble_eq_true rfl⟩) cc_preS rfl rfl hl.1 rfl (lv_room (Nat.le_of_ble_eq_true rfl)) d_C_each_8 ⟨Nat.zero_le _, Nat.zero_le _⟩) ?_
    refine cc_calls (va_runS (As := [.int (f_V_typeIn u2)]) (rest := []) ⟨hx, hb, hml, hown, hts⟩ (k_V_ofType l (f_V_typeIn u2) _ rfl) (cw_S 1 hts mw_193 mw_194 mw_11 mw_195 rfl rfl hd_V_ofType ⟨Nat.le_of_ble_eq_true rfl, Nat.le_of_ble_eq_true rfl⟩) cc_preS rfl rfl hl.1 rfl (lv_room (Nat.le_of_ble_eq_true rfl)) d_C_each_11 ⟨Nat.zero_le _, Nat.zero_le _⟩) ?_
    refine lv_istore_n hx hb d_C_each_14 rfl hl (by decide) rfl (fun ls hl => ?_)
    have hl : lv_has ls 5 [(3, .int (f_V_ofType (f_V_typeIn u2))), (0, .ref (a 0)), (1, .int u1), (2, .int u2)] := hl
    refine lv_iconst (v := 0) hx hb d_C_each_15 (by decide) ?_
    refine lv_istore hx hb d_C_each_16 hl (by decide) rfl (fun ls hl => ?_)
    have hl : lv_has ls 5 [(4, .int (0 : Int32)), (3, .int (f_V_ofType (f_V_typeIn u2))), (0, .ref (a 0)), (1, .int u1), (2, .int u2)] := hl
    have hl : lv_has ls 5 [(0, .ref (a 0)), (1, .int u1), (2, .int u2), (3, .int (f_V_ofType (f_V_typeIn u2))), (4, .int (0 : Int32))] := lv_sub hl [2, 3, 4, 1, 0] rfl
    exact L18 400 u1 u2 (f_V_ofType (f_V_typeIn u2)) (0 : Int32) Fa Aa _ _ _ hl hP hD hS hf
  · rw [if_pos h2_1] at hf
    refine lv_iconst (v := -1) hx hb d_C_each_5 (by decide) ?_
    cases hf
    exact W.iret hx hb hr (fun t ht hW => ⟨⟨_, (), rfl, rfl, by rw [ht]; exact hP, va_K.moved hW.alike hK, hD⟩, hS.F ht⟩) hS.2.2 d_C_each_6
def f_C_pairwise_L64 : Nat → Int32 → Int32 → Int32 → Int32 → Int32 → Int32 → Int32 → Int32 → ST_F → ST_A → Option (Int32 × ST_F × ST_A)
  | 0, _, _, _, _, _, _, _, _, _, _ => none
  | n + 1, x1, x2, x3, x4, x5, x6, x7, x8, F, A => if x6 ≤ x8 then (some (x7, F, A)) else (ra_bi (f_K_put x1 (f_V_spread x2 x8) (f_V_spread x3 x8) F A) (fun r5 F5 A5 => f_C_pairwise_L64 n x1 x2 x3 x4 x5 x6 (f_V_withNumber x7 x8 r5) (x8 + (1 : Int32)) F5 A5))
def f_C_pairwise_J45 (x1 : Int32) (x2 : Int32) (x3 : Int32) (x4 : Int32) (x5 : Int32) (F : ST_F) (A : ST_A) : Option (Int32 × ST_F × ST_A) := f_C_pairwise_L64 400 x1 x2 x3 x4 x5 (if x4 < x5 then x5 else x4) (f_V_ofType (if x4 < x5 then x5 else x4)) (0 : Int32) F A
def f_C_pairwise (u1 : Int32) (u2 : Int32) (u3 : Int32) (Fa : ST_F) (Aa : ST_A) : Option (Int32 × ST_F × ST_A) := if u2 = (-1 : Int32) then (some ((-1 : Int32), Fa, Aa)) else (if u3 = (-1 : Int32) then (some ((-1 : Int32), Fa, Aa)) else (if (f_V_typeIn u2) = (f_V_typeIn u3) then (f_C_pairwise_J45 u1 u2 u3 (f_V_typeIn u2) (f_V_typeIn u3) Fa Aa) else (if (f_V_typeIn u2) = (1 : Int32) then (f_C_pairwise_J45 u1 u2 u3 (f_V_typeIn u2) (f_V_typeIn u3) Fa Aa) else (if (f_V_typeIn u3) = (1 : Int32) then (f_C_pairwise_J45 u1 u2 u3 (f_V_typeIn u2) (f_V_typeIn u3) Fa Aa) else (some ((-1 : Int32), Fa, Aa))))))
set_option maxHeartbeats 4000000 in
set_option maxRecDepth 100000 in
theorem k_C_pairwise (l : Launch) (dC : Nat → ClassId) (dI : Nat → Nat → Nat) (a : Nat → Nat) (cI cC : ClassId) (sz : Nat) (Fa : ST_F) (Aa : ST_A) (u1 : Int32) (u2 : Int32) (u3 : Int32) (r0 : Int32) (F9 : ST_F) (A9 : ST_A) (hf : f_C_pairwise u1 u2 u3 Fa Aa = some (r0, F9, A9)) : cc_MetI l y_C_pairwise (Cond.code y_C_pairwise b_C_pairwise 10 (some .int) :: wA) ({ frames := 2, cells := 0, slots := 0, locals := 42 } : Room) (dC, dI) vC [(cI, .int), (cC, .char)] ([.ref (a 0), .int u1, .int u2, .int u3] : List Value) (wC a cI cC Fa Aa) sz (wC a cI cC F9 A9) r0 := by
  refine Met.ofW (cc := b_C_pairwise) (maxL := 10) (ret := (some .int)) (by decide) rfl ?_
  intro p e s m args below meth c s₁ B hml hv
  obtain ⟨rfl, hsz, hP, hK, hD0⟩ := hv
  have hx := B.exec
  have hb := B.bytes
  have hr := B.returns
  have hts := fun w h => atoms_spec (ws := (Cond.code y_C_pairwise b_C_pairwise 10 (some .int) :: wA)) B.pre w (List.mem_cons_of_mem _ h)
  have hown : s.vm.findClass R_C = some m.cls := findClass_of_methodNamed B.named
  have hlocks := B.notSynchronized
  subst hsz
  have hD := hD0.self (sz := s.heap.size)
  have hA : ∀ q : Nat, s.heap.size ≤ q → va_A (wC a cI cC Fa Aa) s.heap.size q := fun q h => Or.inr h
  have hS : va_S (va_A (wC a cI cC Fa Aa) s.heap.size) s.heap s.heap [] := va_S.rf
  have hl := lv_entry (([.ref (a 0), .int u1, .int u2, .int u3] : List Value)) (n := 10) (Nat.le_of_ble_eq_true rfl)
  have L64 : ∀ (n : Nat) (x1 : Int32) (x2 : Int32) (x3 : Int32) (x4 : Int32) (x5 : Int32) (x6 : Int32) (x7 : Int32) (x8 : Int32) (F : ST_F) (A : ST_A) (H : Heap) (locs : List Loc) (ls : Array Slot), lv_has ls 10 [(0, .ref (a 0)), (1, .int x1), (2, .int x2), (3, .int x3), (4, .int x4), (5, .int x5), (6, .int x6), (7, .int x7), (8, .int x8)] → va_P (dC, dI) vC (wC a cI cC F A) H → va_D (va_A (wC a cI cC Fa Aa) s.heap.size) (wC a cI cC F A) → va_S (va_A (wC a cI cC Fa Aa) s.heap.size) s.heap H locs → f_C_pairwise_L64 n x1 x2 x3 x4 x5 x6 x7 x8 F A = some (r0, F9, A9) → W p l e (headSpec (Cond.code y_C_pairwise b_C_pairwise 10 (some .int) :: wA) ({ frames := 2, cells := 0, slots := 0, locals := 42 } : Room)).room s m ([.ref (a 0), .int u1, .int u2, .int u3] : List Value).toArray below meth c H locs 0 0 (MQ below (cc_Qi (dC, dI) vC [(cI, .int), (cC, .char)] (wC a cI cC Fa Aa) s.heap.size (wC a cI cC F9 A9) r0) ([.ref (a 0), .int u1, .int u2, .int u3] : List Value).toArray s 0 0 (va_A (wC a cI cC Fa Aa) s.heap.size)) (F0 m 64 ls []) := by
    intro n
    induction n with
    | zero => intro x1 x2 x3 x4 x5 x6 x7 x8 F A H locs ls hl hP hD hS hf; cases hf
    | succ n ih =>
      intro x1 x2 x3 x4 x5 x6 x7 x8 F A H locs ls hl hP hD hS hf
      rw [f_C_pairwise_L64] at hf
      refine lv_iload hx hb d_C_pairwise_64 (lv_at hl 8 rfl) ?_
      refine lv_iload hx hb d_C_pairwise_66 (lv_at hl 6 rfl) ?_
      refine lv_icmp_ge (tgt := 110) hx hb d_C_pairwise_68 (by decide) (fun h68_4 => ?_) (fun h68_4 => ?_)
      · rw [if_pos h68_4] at hf
        refine lv_iload hx hb d_C_pairwise_110 (lv_at hl 7 rfl) ?_
        cases hf
        exact W.iret hx hb hr (fun t ht hW => ⟨⟨_, (), rfl, rfl, by rw [ht]; exact hP, va_K.moved hW.alike hK, hD⟩, hS.F ht⟩) hS.2.2 d_C_pairwise_112
      · rw [if_neg h68_4] at hf
        refine lv_aload_n hx hb d_C_pairwise_71 rfl (lv_at hl 0 rfl) ?_
        refine va_get (D := (dC, dI)) (ci := 1) (v := .ref (a 3)) (C := R_C) (T := T_C) (N := 5) hx hb hts in_C hown hK hP 0 rfl rfl 4 (by decide) (hts _ mw_79) (fun _ h9 => h9) rfl d_C_pairwise_72 ?_
        refine lv_iload_n hx hb d_C_pairwise_75 rfl (lv_at hl 1 rfl) ?_
        refine lv_iload_n hx hb d_C_pairwise_76 rfl (lv_at hl 2 rfl) ?_
        refine lv_iload hx hb d_C_pairwise_77 (lv_at hl 8 rfl) ?_
        refine cc_calls (va_runS (As := [.int x2, .int x8]) (rest := [.int x1, .ref (a 3)]) ⟨hx, hb, hml, hown, hts⟩ (k_V_spread l x2 x8 _ rfl) (cw_S 2 hts mw_251 mw_252 mw_11 mw_253 rfl rfl hd_V_spread ⟨Nat.le_of_ble_eq_true rfl, Nat.le_of_ble_eq_true rfl⟩) cc_preS rfl rfl hl.1 rfl (lv_room (Nat.le_of_ble_eq_true rfl)) d_C_pairwise_79 ⟨Nat.zero_le _, Nat.zero_le _⟩) ?_
        refine lv_iload_n hx hb d_C_pairwise_82 rfl (lv_at hl 3 rfl) ?_
        refine lv_iload hx hb d_C_pairwise_83 (lv_at hl 8 rfl) ?_
        refine cc_calls (va_runS (As := [.int x3, .int x8]) (rest := [.int (f_V_spread x2 x8), .int x1, .ref (a 3)]) ⟨hx, hb, hml, hown, hts⟩ (k_V_spread l x3 x8 _ rfl) (cw_S 2 hts mw_251 mw_252 mw_11 mw_253 rfl rfl hd_V_spread ⟨Nat.le_of_ble_eq_true rfl, Nat.le_of_ble_eq_true rfl⟩) cc_preS rfl rfl hl.1 rfl (lv_room (Nat.le_of_ble_eq_true rfl)) d_C_pairwise_85 ⟨Nat.zero_le _, Nat.zero_le _⟩) ?_
        have hP : va_P (dC, dI) vC (wC a cI cC F A) H := hP
        have hD : va_D (va_A (wC a cI cC Fa Aa) s.heap.size) (wC a cI cC F A) := hD
        obtain ⟨r5, F5, A5, hc, hf⟩ := ra_bi_some hf
        refine cc_calli (va_runV (As := [.int x1, .int (f_V_spread x2 x8), .int (f_V_spread x3 x8)]) (rest := []) ⟨hx, hb, hml, hown, hts⟩ (k_K_put l dC dI a cI cC H.size F A x1 (f_V_spread x2 x8) (f_V_spread x3 x8) r5 F5 A5 hc) (cw_V 3 hts mw_196 mw_197 mw_198 mw_2 mw_199 rfl rfl rfl hd_K_put ⟨Nat.le_of_ble_eq_true rfl, Nat.le_of_ble_eq_true rfl⟩) (cc_preV hK hP hD rfl (q0 := 3) rfl) rfl rfl hl.1 rfl (lv_room (Nat.le_of_ble_eq_true rfl)) d_C_pairwise_88 ⟨Nat.zero_le _, Nat.zero_le _⟩) hD hS hA (fun H locs hP hD hS => ?_)
        refine lv_istore hx hb d_C_pairwise_91 hl (by decide) rfl (fun ls hl => ?_)
        have hl : lv_has ls 10 [(9, .int r5), (0, .ref (a 0)), (1, .int x1), (2, .int x2), (3, .int x3), (4, .int x4), (5, .int x5), (6, .int x6), (7, .int x7), (8, .int x8)] := hl
        refine lv_iload hx hb d_C_pairwise_93 (lv_at hl 8 rfl) ?_
        refine lv_iload hx hb d_C_pairwise_95 (lv_at hl 9 rfl) ?_
        refine lv_iload hx hb d_C_pairwise_97 (lv_at hl 0 rfl) ?_
        refine cc_calls (va_runS (As := [.int x7, .int x8, .int r5]) (rest := []) ⟨hx, hb, hml, hown, hts⟩ (k_V_withNumber l x7 x8 r5 _ rfl) (cw_S 3 hts mw_200 mw_201 mw_11 mw_202 rfl rfl hd_V_withNumber ⟨Nat.le_of_ble_eq_true rfl, Nat.le_of_ble_eq_true rfl⟩) cc_preS rfl rfl hl.1 rfl (lv_room (Nat.le_of_ble_eq_true rfl)) d_C_pairwise_99 ⟨Nat.zero_le _, Nat.zero_le _⟩) ?_
        refine lv_istore hx hb d_C_pairwise_102 hl (by decide) rfl (fun ls hl => ?_)
        have hl : lv_has ls 10 [(7, .int (f_V_withNumber x7 x8 r5)), (9, .int r5), (0, .ref (a 0)), (1, .int x1), (2, .int x2), (3, .int x3), (4, .int x4), (5, .int x5), (6, .int x6), (8, .int x8)] := hl
        refine lv_iinc (k := 9) (v := (x8 + (1 : Int32))) hx hb d_C_pairwise_104 hl rfl (by rfl) (by decide) rfl (fun ls hl => ?_)
        have hl : lv_has ls 10 [(8, .int (x8 + (1 : Int32))), (7, .int (f_V_withNumber x7 x8 r5)), (9, .int r5), (0, .ref (a 0)), (1, .int x1), (2, .int x2), (3, .int x3), (4, .int x4), (5, .int x5), (6, .int x6)] := hl
        refine lv_goto (tgt := 64) hx hb d_C_pairwise_107 (by decide) ?_
        have hl : lv_has ls 10 [(0, .ref (a 0)), (1, .int x1), (2, .int x2), (3, .int x3), (4, .int x4), (5, .int x5), (6, .int x6), (7, .int (f_V_withNumber x7 x8 r5)), (8, .int (x8 + (1 : Int32)))] := lv_sub hl [3, 4, 5, 6, 7, 8, 9, 1, 0] rfl
        exact ih x1 x2 x3 x4 x5 x6 (f_V_withNumber x7 x8 r5) (x8 + (1 : Int32)) F5 A5 _ _ _ hl hP hD hS hf
  have J45 : ∀ (x1 : Int32) (x2 : Int32) (x3 : Int32) (x4 : Int32) (x5 : Int32) (F : ST_F) (A : ST_A) (H : Heap) (locs : List Loc) (ls : Array Slot), lv_has ls 10 [(0, .ref (a 0)), (1, .int x1), (2, .int x2), (3, .int x3), (4, .int x4), (5, .int x5)] → va_P (dC, dI) vC (wC a cI cC F A) H → va_D (va_A (wC a cI cC Fa Aa) s.heap.size) (wC a cI cC F A) → va_S (va_A (wC a cI cC Fa Aa) s.heap.size) s.heap H locs → f_C_pairwise_J45 x1 x2 x3 x4 x5 F A = some (r0, F9, A9) → W p l e (headSpec (Cond.code y_C_pairwise b_C_pairwise 10 (some .int) :: wA) ({ frames := 2, cells := 0, slots := 0, locals := 42 } : Room)).room s m ([.ref (a 0), .int u1, .int u2, .int u3] : List Value).toArray below meth c H locs 0 0 (MQ below (cc_Qi (dC, dI) vC [(cI, .int), (cC, .char)] (wC a cI cC Fa Aa) s.heap.size (wC a cI cC F9 A9) r0) ([.ref (a 0), .int u1, .int u2, .int u3] : List Value).toArray s 0 0 (va_A (wC a cI cC Fa Aa) s.heap.size)) (F0 m 45 ls []) := by
    intro x1 x2 x3 x4 x5 F A H locs ls hl hP hD hS hf
    unfold f_C_pairwise_J45 at hf
    refine lv_iload hx hb d_C_pairwise_45 (lv_at hl 4 rfl) ?_
    refine lv_iload hx hb d_C_pairwise_47 (lv_at hl 5 rfl) ?_
    refine va_mmax hx hb (hml.trans hl.1.symm) hown (hts _ mw_248) (hts _ mw_249) (hts _ mw_12) (hts _ mw_250) (Nat.le_of_ble_eq_true rfl) (Nat.le_of_ble_eq_true rfl) (Nat.zero_le _) (Nat.zero_le _) d_C_pairwise_49 ?_
    refine lv_istore hx hb d_C_pairwise_52 hl (by decide) rfl (fun ls hl => ?_)
    have hl : lv_has ls 10 [(6, .int (if x4 < x5 then x5 else x4)), (0, .ref (a 0)), (1, .int x1), (2, .int x2), (3, .int x3), (4, .int x4), (5, .int x5)] := hl
    refine lv_iload hx hb d_C_pairwise_54 (lv_at hl 0 rfl) ?_
    refine cc_calls (va_runS (As := [.int (if x4 < x5 then x5 else x4)]) (rest := []) ⟨hx, hb, hml, hown, hts⟩ (k_V_ofType l (if x4 < x5 then x5 else x4) _ rfl) (cw_S 1 hts mw_193 mw_194 mw_11 mw_195 rfl rfl hd_V_ofType ⟨Nat.le_of_ble_eq_true rfl, Nat.le_of_ble_eq_true rfl⟩) cc_preS rfl rfl hl.1 rfl (lv_room (Nat.le_of_ble_eq_true rfl)) d_C_pairwise_56 ⟨Nat.zero_le _, Nat.zero_le _⟩) ?_
    refine lv_istore hx hb d_C_pairwise_59 hl (by decide) rfl (fun ls hl => ?_)
    have hl : lv_has ls 10 [(7, .int (f_V_ofType (if x4 < x5 then x5 else x4))), (6, .int (if x4 < x5 then x5 else x4)), (0, .ref (a 0)), (1, .int x1), (2, .int x2), (3, .int x3), (4, .int x4), (5, .int x5)] := hl
    refine lv_iconst (v := 0) hx hb d_C_pairwise_61 (by decide) ?_
    refine lv_istore hx hb d_C_pairwise_62 hl (by decide) rfl (fun ls hl => ?_)
    have hl : lv_has ls 10 [(8, .int (0 : Int32)), (7, .int (f_V_ofType (if x4 < x5 then x5 else x4))), (6, .int (if x4 < x5 then x5 else x4)), (0, .ref (a 0)), (1, .int x1), (2, .int x2), (3, .int x3), (4, .int x4), (5, .int x5)] := hl
    have hl : lv_has ls 10 [(0, .ref (a 0)), (1, .int x1), (2, .int x2), (3, .int x3), (4, .int x4), (5, .int x5), (6, .int (if x4 < x5 then x5 else x4)), (7, .int (f_V_ofType (if x4 < x5 then x5 else x4))), (8, .int (0 : Int32))] := lv_sub hl [3, 4, 5, 6, 7, 8, 2, 1, 0] rfl
    exact L64 400 x1 x2 x3 x4 x5 (if x4 < x5 then x5 else x4) (f_V_ofType (if x4 < x5 then x5 else x4)) (0 : Int32) F A _ _ _ hl hP hD hS hf
  rw [lg_entry_eq]
  generalize (lg_sl (([.ref (a 0), .int u1, .int u2, .int u3] : List Value)) ++ List.replicate (10 - (lg_sl (([.ref (a 0), .int u1, .int u2, .int u3] : List Value))).length) Slot.unset).toArray = ls at hl ⊢
  have hl : lv_has ls 10 [(0, .ref (a 0)), (1, .int u1), (2, .int u2), (3, .int u3)] := hl
  unfold f_C_pairwise at hf
  refine lv_iload_n hx hb d_C_pairwise_0 rfl (lv_at hl 2 rfl) ?_
  refine lv_iconst (v := -1) hx hb d_C_pairwise_1 (by decide) ?_
  refine lv_icmp_eq (tgt := 10) hx hb d_C_pairwise_2 (by decide) (fun h2_1 => ?_) (fun h2_1 => ?_)
  · rw [if_pos h2_1] at hf
    refine lv_iconst (v := -1) hx hb d_C_pairwise_10 (by decide) ?_
    cases hf
    exact W.iret hx hb hr (fun t ht hW => ⟨⟨_, (), rfl, rfl, by rw [ht]; exact hP, va_K.moved hW.alike hK, hD⟩, hS.F ht⟩) hS.2.2 d_C_pairwise_11
  · rw [if_neg h2_1] at hf
    refine lv_iload_n hx hb d_C_pairwise_5 rfl (lv_at hl 3 rfl) ?_
    refine lv_iconst (v := -1) hx hb d_C_pairwise_6 (by decide) ?_
    refine lv_icmp_ne (tgt := 12) hx hb d_C_pairwise_7 (by decide) (fun h7_2 => ?_) (fun h7_2 => ?_)
    · rw [if_neg h7_2] at hf
      refine lv_iload_n hx hb d_C_pairwise_12 rfl (lv_at hl 2 rfl) ?_
      refine cc_calls (va_runS (As := [.int u2]) (rest := []) ⟨hx, hb, hml, hown, hts⟩ (k_V_typeIn l u2 _ rfl) (cw_S 1 hts mw_223 mw_224 mw_11 mw_225 rfl rfl hd_V_typeIn ⟨Nat.le_of_ble_eq_true rfl, Nat.le_of_ble_eq_true rfl⟩) cc_preS rfl rfl hl.1 rfl (lv_room (Nat.le_of_ble_eq_true rfl)) d_C_pairwise_13 ⟨Nat.zero_le _, Nat.zero_le _⟩) ?_
      refine lv_istore hx hb d_C_pairwise_16 hl (by decide) rfl (fun ls hl => ?_)
      have hl : lv_has ls 10 [(4, .int (f_V_typeIn u2)), (0, .ref (a 0)), (1, .int u1), (2, .int u2), (3, .int u3)] := hl
      refine lv_iload_n hx hb d_C_pairwise_18 rfl (lv_at hl 4 rfl) ?_
      refine cc_calls (va_runS (As := [.int u3]) (rest := []) ⟨hx, hb, hml, hown, hts⟩ (k_V_typeIn l u3 _ rfl) (cw_S 1 hts mw_223 mw_224 mw_11 mw_225 rfl rfl hd_V_typeIn ⟨Nat.le_of_ble_eq_true rfl, Nat.le_of_ble_eq_true rfl⟩) cc_preS rfl rfl hl.1 rfl (lv_room (Nat.le_of_ble_eq_true rfl)) d_C_pairwise_19 ⟨Nat.zero_le _, Nat.zero_le _⟩) ?_
      refine lv_istore hx hb d_C_pairwise_22 hl (by decide) rfl (fun ls hl => ?_)
      have hl : lv_has ls 10 [(5, .int (f_V_typeIn u3)), (4, .int (f_V_typeIn u2)), (0, .ref (a 0)), (1, .int u1), (2, .int u2), (3, .int u3)] := hl
      refine lv_iload hx hb d_C_pairwise_24 (lv_at hl 1 rfl) ?_
      refine lv_iload hx hb d_C_pairwise_26 (lv_at hl 0 rfl) ?_
      refine lv_icmp_eq (tgt := 45) hx hb d_C_pairwise_28 (by decide) (fun h28_3 => ?_) (fun h28_3 => ?_)
      · rw [if_pos h28_3] at hf
        have hl : lv_has ls 10 [(0, .ref (a 0)), (1, .int u1), (2, .int u2), (3, .int u3), (4, .int (f_V_typeIn u2)), (5, .int (f_V_typeIn u3))] := lv_sub hl [2, 3, 4, 5, 1, 0] rfl
        exact J45 u1 u2 u3 (f_V_typeIn u2) (f_V_typeIn u3) Fa Aa _ _ _ hl hP hD hS hf
      · rw [if_neg h28_3] at hf
        refine lv_iload hx hb d_C_pairwise_31 (lv_at hl 1 rfl) ?_
        refine lv_iconst (v := 1) hx hb d_C_pairwise_33 (by decide) ?_
        refine lv_icmp_eq (tgt := 45) hx hb d_C_pairwise_34 (by decide) (fun h34_6 => ?_) (fun h34_6 => ?_)
        · rw [if_pos h34_6] at hf
          have hl : lv_has ls 10 [(0, .ref (a 0)), (1, .int u1), (2, .int u2), (3, .int u3), (4, .int (f_V_typeIn u2)), (5, .int (f_V_typeIn u3))] := lv_sub hl [2, 3, 4, 5, 1, 0] rfl
          exact J45 u1 u2 u3 (f_V_typeIn u2) (f_V_typeIn u3) Fa Aa _ _ _ hl hP hD hS hf
        · rw [if_neg h34_6] at hf
          refine lv_iload hx hb d_C_pairwise_37 (lv_at hl 0 rfl) ?_
          refine lv_iconst (v := 1) hx hb d_C_pairwise_39 (by decide) ?_
          refine lv_icmp_eq (tgt := 45) hx hb d_C_pairwise_40 (by decide) (fun h40_7 => ?_) (fun h40_7 => ?_)
          · rw [if_pos h40_7] at hf
            have hl : lv_has ls 10 [(0, .ref (a 0)), (1, .int u1), (2, .int u2), (3, .int u3), (4, .int (f_V_typeIn u2)), (5, .int (f_V_typeIn u3))] := lv_sub hl [2, 3, 4, 5, 1, 0] rfl
            exact J45 u1 u2 u3 (f_V_typeIn u2) (f_V_typeIn u3) Fa Aa _ _ _ hl hP hD hS hf
          · rw [if_neg h40_7] at hf
            refine lv_iconst (v := -1) hx hb d_C_pairwise_43 (by decide) ?_
            cases hf
            exact W.iret hx hb hr (fun t ht hW => ⟨⟨_, (), rfl, rfl, by rw [ht]; exact hP, va_K.moved hW.alike hK, hD⟩, hS.F ht⟩) hS.2.2 d_C_pairwise_44
    · rw [if_pos h7_2] at hf
      refine lv_iconst (v := -1) hx hb d_C_pairwise_10 (by decide) ?_
      cases hf
      exact W.iret hx hb hr (fun t ht hW => ⟨⟨_, (), rfl, rfl, by rw [ht]; exact hP, va_K.moved hW.alike hK, hD⟩, hS.F ht⟩) hS.2.2 d_C_pairwise_11
def f_C_timesColumns_L25 (kx : Int32 → Int32 → Int32 → Int32 → Int32 → Int32 → ST_F → ST_A → Option (Int32 × ST_F × ST_A)) : Nat → Int32 → Int32 → Int32 → Int32 → Int32 → Int32 → ST_F → ST_A → Option (Int32 × ST_F × ST_A)
  | 0, _, _, _, _, _, _, _, _ => none
  | n + 1, x1, x2, x3, x4, x5, x6, F, A => if (2 : Int32) ≤ x6 then (kx x1 x2 x3 x4 x5 x6 F A) else (ra_bi (f_K_put (4 : Int32) (f_V_number x1 x6) (f_V_number x2 x5) F A) (fun r3 F3 A3 => ra_bi (f_K_put (4 : Int32) (f_V_number x1 ((2 : Int32) + x6)) (f_V_number x2 (x5 + (1 : Int32))) F3 A3) (fun r4 F4 A4 => ra_bi (f_K_put (2 : Int32) r3 r4 F4 A4) (fun r5 F5 A5 => f_C_timesColumns_L25 kx n x1 x2 x3 (f_V_withNumber x4 (x5 + x6) r5) x5 (x6 + (1 : Int32)) F5 A5))))
def f_C_timesColumns_L14 : Nat → Int32 → Int32 → Int32 → Int32 → Int32 → ST_F → ST_A → Option (Int32 × ST_F × ST_A)
  | 0, _, _, _, _, _, _, _ => none
  | n + 1, x1, x2, x3, x4, x5, F, A => if x3 ≤ (x5 + (1 : Int32)) then (some (x4, F, A)) else (f_C_timesColumns_L25 (fun y1_6 y2_6 y3_6 y4_6 y5_6 y6_6 F6 A6 => f_C_timesColumns_L14 n y1_6 y2_6 y3_6 y4_6 (y5_6 + (2 : Int32)) F6 A6) 4 x1 x2 x3 x4 x5 (0 : Int32) F A)
def f_C_timesColumns (u1 : Int32) (u2 : Int32) (Fa : ST_F) (Aa : ST_A) : Option (Int32 × ST_F × ST_A) := f_C_timesColumns_L14 4 u1 u2 (f_V_typeIn u2) (f_V_ofType (f_V_typeIn u2)) (0 : Int32) Fa Aa
set_option maxHeartbeats 4000000 in
set_option maxRecDepth 100000 in
theorem k_C_timesColumns (l : Launch) (dC : Nat → ClassId) (dI : Nat → Nat → Nat) (a : Nat → Nat) (cI cC : ClassId) (sz : Nat) (Fa : ST_F) (Aa : ST_A) (u1 : Int32) (u2 : Int32) (r0 : Int32) (F9 : ST_F) (A9 : ST_A) (hf : f_C_timesColumns u1 u2 Fa Aa = some (r0, F9, A9)) : cc_MetI l y_C_timesColumns (Cond.code y_C_timesColumns b_C_timesColumns 9 (some .int) :: wA) ({ frames := 1, cells := 0, slots := 0, locals := 24 } : Room) (dC, dI) vC [(cI, .int), (cC, .char)] ([.ref (a 0), .int u1, .int u2] : List Value) (wC a cI cC Fa Aa) sz (wC a cI cC F9 A9) r0 := by
  refine Met.ofW (cc := b_C_timesColumns) (maxL := 9) (ret := (some .int)) (by decide) rfl ?_
  intro p e s m args below meth c s₁ B hml hv
  obtain ⟨rfl, hsz, hP, hK, hD0⟩ := hv
  have hx := B.exec
  have hb := B.bytes
  have hr := B.returns
  have hts := fun w h => atoms_spec (ws := (Cond.code y_C_timesColumns b_C_timesColumns 9 (some .int) :: wA)) B.pre w (List.mem_cons_of_mem _ h)
  have hown : s.vm.findClass R_C = some m.cls := findClass_of_methodNamed B.named
  have hlocks := B.notSynchronized
  subst hsz
  have hD := hD0.self (sz := s.heap.size)
  have hA : ∀ q : Nat, s.heap.size ≤ q → va_A (wC a cI cC Fa Aa) s.heap.size q := fun q h => Or.inr h
  have hS : va_S (va_A (wC a cI cC Fa Aa) s.heap.size) s.heap s.heap [] := va_S.rf
  have hl := lv_entry (([.ref (a 0), .int u1, .int u2] : List Value)) (n := 9) (Nat.le_of_ble_eq_true rfl)
  have L25 : ∀ (kx : Int32 → Int32 → Int32 → Int32 → Int32 → Int32 → ST_F → ST_A → Option (Int32 × ST_F × ST_A)), (∀ (x1 : Int32) (x2 : Int32) (x3 : Int32) (x4 : Int32) (x5 : Int32) (x6 : Int32) (F : ST_F) (A : ST_A) (H : Heap) (locs : List Loc) (ls : Array Slot), lv_has ls 9 [(0, .ref (a 0)), (1, .int x1), (2, .int x2), (3, .int x3), (4, .int x4), (5, .int x5), (6, .int x6)] → va_P (dC, dI) vC (wC a cI cC F A) H → va_D (va_A (wC a cI cC Fa Aa) s.heap.size) (wC a cI cC F A) → va_S (va_A (wC a cI cC Fa Aa) s.heap.size) s.heap H locs → kx x1 x2 x3 x4 x5 x6 F A = some (r0, F9, A9) → W p l e (headSpec (Cond.code y_C_timesColumns b_C_timesColumns 9 (some .int) :: wA) ({ frames := 1, cells := 0, slots := 0, locals := 24 } : Room)).room s m ([.ref (a 0), .int u1, .int u2] : List Value).toArray below meth c H locs 0 0 (MQ below (cc_Qi (dC, dI) vC [(cI, .int), (cC, .char)] (wC a cI cC Fa Aa) s.heap.size (wC a cI cC F9 A9) r0) ([.ref (a 0), .int u1, .int u2] : List Value).toArray s 0 0 (va_A (wC a cI cC Fa Aa) s.heap.size)) (F0 m 109 ls [])) → ∀ (n : Nat) (x1 : Int32) (x2 : Int32) (x3 : Int32) (x4 : Int32) (x5 : Int32) (x6 : Int32) (F : ST_F) (A : ST_A) (H : Heap) (locs : List Loc) (ls : Array Slot), lv_has ls 9 [(0, .ref (a 0)), (1, .int x1), (2, .int x2), (3, .int x3), (4, .int x4), (5, .int x5), (6, .int x6)] → va_P (dC, dI) vC (wC a cI cC F A) H → va_D (va_A (wC a cI cC Fa Aa) s.heap.size) (wC a cI cC F A) → va_S (va_A (wC a cI cC Fa Aa) s.heap.size) s.heap H locs → f_C_timesColumns_L25 kx n x1 x2 x3 x4 x5 x6 F A = some (r0, F9, A9) → W p l e (headSpec (Cond.code y_C_timesColumns b_C_timesColumns 9 (some .int) :: wA) ({ frames := 1, cells := 0, slots := 0, locals := 24 } : Room)).room s m ([.ref (a 0), .int u1, .int u2] : List Value).toArray below meth c H locs 0 0 (MQ below (cc_Qi (dC, dI) vC [(cI, .int), (cC, .char)] (wC a cI cC Fa Aa) s.heap.size (wC a cI cC F9 A9) r0) ([.ref (a 0), .int u1, .int u2] : List Value).toArray s 0 0 (va_A (wC a cI cC Fa Aa) s.heap.size)) (F0 m 25 ls []) := by
    intro kx hk n
    induction n with
    | zero => intro x1 x2 x3 x4 x5 x6 F A H locs ls hl hP hD hS hf; cases hf
    | succ n ih =>
      intro x1 x2 x3 x4 x5 x6 F A H locs ls hl hP hD hS hf
      rw [f_C_timesColumns_L25] at hf
      refine lv_iload hx hb d_C_timesColumns_25 (lv_at hl 6 rfl) ?_
      refine lv_iconst (v := 2) hx hb d_C_timesColumns_27 (by decide) ?_
      refine lv_icmp_ge (tgt := 109) hx hb d_C_timesColumns_28 (by decide) (fun h28_2 => ?_) (fun h28_2 => ?_)
      · rw [if_pos h28_2] at hf
        have hl : lv_has ls 9 [(0, .ref (a 0)), (1, .int x1), (2, .int x2), (3, .int x3), (4, .int x4), (5, .int x5), (6, .int x6)] := lv_sub hl [0, 1, 2, 3, 4, 5, 6] rfl
        exact hk x1 x2 x3 x4 x5 x6 F A _ _ _ hl hP hD hS hf
      · rw [if_neg h28_2] at hf
        refine lv_aload_n hx hb d_C_timesColumns_31 rfl (lv_at hl 0 rfl) ?_
        refine va_get (D := (dC, dI)) (ci := 1) (v := .ref (a 3)) (C := R_C) (T := T_C) (N := 5) hx hb hts in_C hown hK hP 0 rfl rfl 4 (by decide) (hts _ mw_79) (fun _ h9 => h9) rfl d_C_timesColumns_32 ?_
        refine lv_iconst (v := 4) hx hb d_C_timesColumns_35 (by decide) ?_
        refine lv_iload_n hx hb d_C_timesColumns_36 rfl (lv_at hl 1 rfl) ?_
        refine lv_iload hx hb d_C_timesColumns_37 (lv_at hl 6 rfl) ?_
        refine cc_calls (va_runS (As := [.int x1, .int x6]) (rest := [.int (4 : Int32), .ref (a 3)]) ⟨hx, hb, hml, hown, hts⟩ (k_V_number l x1 x6 _ rfl) (cw_S 2 hts mw_226 mw_227 mw_11 mw_228 rfl rfl hd_V_number ⟨Nat.le_of_ble_eq_true rfl, Nat.le_of_ble_eq_true rfl⟩) cc_preS rfl rfl hl.1 rfl (lv_room (Nat.le_of_ble_eq_true rfl)) d_C_timesColumns_39 ⟨Nat.zero_le _, Nat.zero_le _⟩) ?_
        refine lv_iload_n hx hb d_C_timesColumns_42 rfl (lv_at hl 2 rfl) ?_
        refine lv_iload hx hb d_C_timesColumns_43 (lv_at hl 5 rfl) ?_
        refine cc_calls (va_runS (As := [.int x2, .int x5]) (rest := [.int (f_V_number x1 x6), .int (4 : Int32), .ref (a 3)]) ⟨hx, hb, hml, hown, hts⟩ (k_V_number l x2 x5 _ rfl) (cw_S 2 hts mw_226 mw_227 mw_11 mw_228 rfl rfl hd_V_number ⟨Nat.le_of_ble_eq_true rfl, Nat.le_of_ble_eq_true rfl⟩) cc_preS rfl rfl hl.1 rfl (lv_room (Nat.le_of_ble_eq_true rfl)) d_C_timesColumns_45 ⟨Nat.zero_le _, Nat.zero_le _⟩) ?_
        have hP : va_P (dC, dI) vC (wC a cI cC F A) H := hP
        have hD : va_D (va_A (wC a cI cC Fa Aa) s.heap.size) (wC a cI cC F A) := hD
        obtain ⟨r3, F3, A3, hc, hf⟩ := ra_bi_some hf
        refine cc_calli (va_runV (As := [.int (4 : Int32), .int (f_V_number x1 x6), .int (f_V_number x2 x5)]) (rest := []) ⟨hx, hb, hml, hown, hts⟩ (k_K_put l dC dI a cI cC H.size F A (4 : Int32) (f_V_number x1 x6) (f_V_number x2 x5) r3 F3 A3 hc) (cw_V 3 hts mw_196 mw_197 mw_198 mw_2 mw_199 rfl rfl rfl hd_K_put ⟨Nat.le_of_ble_eq_true rfl, Nat.le_of_ble_eq_true rfl⟩) (cc_preV hK hP hD rfl (q0 := 3) rfl) rfl rfl hl.1 rfl (lv_room (Nat.le_of_ble_eq_true rfl)) d_C_timesColumns_48 ⟨Nat.zero_le _, Nat.zero_le _⟩) hD hS hA (fun H locs hP hD hS => ?_)
        refine lv_istore hx hb d_C_timesColumns_51 hl (by decide) rfl (fun ls hl => ?_)
        have hl : lv_has ls 9 [(7, .int r3), (0, .ref (a 0)), (1, .int x1), (2, .int x2), (3, .int x3), (4, .int x4), (5, .int x5), (6, .int x6)] := hl
        refine lv_aload_n hx hb d_C_timesColumns_53 rfl (lv_at hl 1 rfl) ?_
        refine va_get (D := (dC, dI)) (ci := 1) (v := .ref (a 3)) (C := R_C) (T := T_C) (N := 5) hx hb hts in_C hown hK hP 0 rfl rfl 4 (by decide) (hts _ mw_79) (fun _ h9 => h9) rfl d_C_timesColumns_54 ?_
        refine lv_iconst (v := 4) hx hb d_C_timesColumns_57 (by decide) ?_
        refine lv_iload_n hx hb d_C_timesColumns_58 rfl (lv_at hl 2 rfl) ?_
        refine lv_iconst (v := 2) hx hb d_C_timesColumns_59 (by decide) ?_
        refine lv_iload hx hb d_C_timesColumns_60 (lv_at hl 7 rfl) ?_
        refine lv_iadd hx hb d_C_timesColumns_62 ?_
        refine cc_calls (va_runS (As := [.int x1, .int ((2 : Int32) + x6)]) (rest := [.int (4 : Int32), .ref (a 3)]) ⟨hx, hb, hml, hown, hts⟩ (k_V_number l x1 ((2 : Int32) + x6) _ rfl) (cw_S 2 hts mw_226 mw_227 mw_11 mw_228 rfl rfl hd_V_number ⟨Nat.le_of_ble_eq_true rfl, Nat.le_of_ble_eq_true rfl⟩) cc_preS rfl rfl hl.1 rfl (lv_room (Nat.le_of_ble_eq_true rfl)) d_C_timesColumns_63 ⟨Nat.zero_le _, Nat.zero_le _⟩) ?_
        refine lv_iload_n hx hb d_C_timesColumns_66 rfl (lv_at hl 3 rfl) ?_
        refine lv_iload hx hb d_C_timesColumns_67 (lv_at hl 6 rfl) ?_
        refine lv_iconst (v := 1) hx hb d_C_timesColumns_69 (by decide) ?_
        refine lv_iadd hx hb d_C_timesColumns_70 ?_
        refine cc_calls (va_runS (As := [.int x2, .int (x5 + (1 : Int32))]) (rest := [.int (f_V_number x1 ((2 : Int32) + x6)), .int (4 : Int32), .ref (a 3)]) ⟨hx, hb, hml, hown, hts⟩ (k_V_number l x2 (x5 + (1 : Int32)) _ rfl) (cw_S 2 hts mw_226 mw_227 mw_11 mw_228 rfl rfl hd_V_number ⟨Nat.le_of_ble_eq_true rfl, Nat.le_of_ble_eq_true rfl⟩) cc_preS rfl rfl hl.1 rfl (lv_room (Nat.le_of_ble_eq_true rfl)) d_C_timesColumns_71 ⟨Nat.zero_le _, Nat.zero_le _⟩) ?_
        have hP : va_P (dC, dI) vC (wC a cI cC F3 A3) H := hP
        have hD : va_D (va_A (wC a cI cC Fa Aa) s.heap.size) (wC a cI cC F3 A3) := hD
        obtain ⟨r4, F4, A4, hc, hf⟩ := ra_bi_some hf
        refine cc_calli (va_runV (As := [.int (4 : Int32), .int (f_V_number x1 ((2 : Int32) + x6)), .int (f_V_number x2 (x5 + (1 : Int32)))]) (rest := []) ⟨hx, hb, hml, hown, hts⟩ (k_K_put l dC dI a cI cC H.size F3 A3 (4 : Int32) (f_V_number x1 ((2 : Int32) + x6)) (f_V_number x2 (x5 + (1 : Int32))) r4 F4 A4 hc) (cw_V 3 hts mw_196 mw_197 mw_198 mw_2 mw_199 rfl rfl rfl hd_K_put ⟨Nat.le_of_ble_eq_true rfl, Nat.le_of_ble_eq_true rfl⟩) (cc_preV hK hP hD rfl (q0 := 3) rfl) rfl rfl hl.1 rfl (lv_room (Nat.le_of_ble_eq_true rfl)) d_C_timesColumns_74 ⟨Nat.zero_le _, Nat.zero_le _⟩) hD hS hA (fun H locs hP hD hS => ?_)
        refine lv_istore hx hb d_C_timesColumns_77 hl (by decide) rfl (fun ls hl => ?_)
        have hl : lv_has ls 9 [(8, .int r4), (7, .int r3), (0, .ref (a 0)), (1, .int x1), (2, .int x2), (3, .int x3), (4, .int x4), (5, .int x5), (6, .int x6)] := hl
        refine lv_iload hx hb d_C_timesColumns_79 (lv_at hl 6 rfl) ?_
        refine lv_iload hx hb d_C_timesColumns_81 (lv_at hl 7 rfl) ?_
        refine lv_iload hx hb d_C_timesColumns_83 (lv_at hl 8 rfl) ?_
        refine lv_iadd hx hb d_C_timesColumns_85 ?_
        refine lv_aload_n hx hb d_C_timesColumns_86 rfl (lv_at hl 2 rfl) ?_
        refine va_get (D := (dC, dI)) (ci := 1) (v := .ref (a 3)) (C := R_C) (T := T_C) (N := 5) hx hb hts in_C hown hK hP 0 rfl rfl 4 (by decide) (hts _ mw_79) (fun _ h9 => h9) rfl d_C_timesColumns_87 ?_
        refine lv_iconst (v := 2) hx hb d_C_timesColumns_90 (by decide) ?_
        refine lv_iload hx hb d_C_timesColumns_91 (lv_at hl 1 rfl) ?_
        refine lv_iload hx hb d_C_timesColumns_93 (lv_at hl 0 rfl) ?_
        have hP : va_P (dC, dI) vC (wC a cI cC F4 A4) H := hP
        have hD : va_D (va_A (wC a cI cC Fa Aa) s.heap.size) (wC a cI cC F4 A4) := hD
        obtain ⟨r5, F5, A5, hc, hf⟩ := ra_bi_some hf
        refine cc_calli (va_runV (As := [.int (2 : Int32), .int r3, .int r4]) (rest := [.int (x5 + x6), .int x4]) ⟨hx, hb, hml, hown, hts⟩ (k_K_put l dC dI a cI cC H.size F4 A4 (2 : Int32) r3 r4 r5 F5 A5 hc) (cw_V 3 hts mw_196 mw_197 mw_198 mw_2 mw_199 rfl rfl rfl hd_K_put ⟨Nat.le_of_ble_eq_true rfl, Nat.le_of_ble_eq_true rfl⟩) (cc_preV hK hP hD rfl (q0 := 3) rfl) rfl rfl hl.1 rfl (lv_room (Nat.le_of_ble_eq_true rfl)) d_C_timesColumns_95 ⟨Nat.zero_le _, Nat.zero_le _⟩) hD hS hA (fun H locs hP hD hS => ?_)
        refine cc_calls (va_runS (As := [.int x4, .int (x5 + x6), .int r5]) (rest := []) ⟨hx, hb, hml, hown, hts⟩ (k_V_withNumber l x4 (x5 + x6) r5 _ rfl) (cw_S 3 hts mw_200 mw_201 mw_11 mw_202 rfl rfl hd_V_withNumber ⟨Nat.le_of_ble_eq_true rfl, Nat.le_of_ble_eq_true rfl⟩) cc_preS rfl rfl hl.1 rfl (lv_room (Nat.le_of_ble_eq_true rfl)) d_C_timesColumns_98 ⟨Nat.zero_le _, Nat.zero_le _⟩) ?_
        refine lv_istore hx hb d_C_timesColumns_101 hl (by decide) rfl (fun ls hl => ?_)
        have hl : lv_has ls 9 [(4, .int (f_V_withNumber x4 (x5 + x6) r5)), (8, .int r4), (7, .int r3), (0, .ref (a 0)), (1, .int x1), (2, .int x2), (3, .int x3), (5, .int x5), (6, .int x6)] := hl
        refine lv_iinc (k := 8) (v := (x6 + (1 : Int32))) hx hb d_C_timesColumns_103 hl rfl (by rfl) (by decide) rfl (fun ls hl => ?_)
        have hl : lv_has ls 9 [(6, .int (x6 + (1 : Int32))), (4, .int (f_V_withNumber x4 (x5 + x6) r5)), (8, .int r4), (7, .int r3), (0, .ref (a 0)), (1, .int x1), (2, .int x2), (3, .int x3), (5, .int x5)] := hl
        refine lv_goto (tgt := 25) hx hb d_C_timesColumns_106 (by decide) ?_
        have hl : lv_has ls 9 [(0, .ref (a 0)), (1, .int x1), (2, .int x2), (3, .int x3), (4, .int (f_V_withNumber x4 (x5 + x6) r5)), (5, .int x5), (6, .int (x6 + (1 : Int32)))] := lv_sub hl [4, 5, 6, 7, 1, 8, 0] rfl
        exact ih x1 x2 x3 (f_V_withNumber x4 (x5 + x6) r5) x5 (x6 + (1 : Int32)) F5 A5 _ _ _ hl hP hD hS hf
  have L14 : ∀ (n : Nat) (x1 : Int32) (x2 : Int32) (x3 : Int32) (x4 : Int32) (x5 : Int32) (F : ST_F) (A : ST_A) (H : Heap) (locs : List Loc) (ls : Array Slot), lv_has ls 9 [(0, .ref (a 0)), (1, .int x1), (2, .int x2), (3, .int x3), (4, .int x4), (5, .int x5)] → va_P (dC, dI) vC (wC a cI cC F A) H → va_D (va_A (wC a cI cC Fa Aa) s.heap.size) (wC a cI cC F A) → va_S (va_A (wC a cI cC Fa Aa) s.heap.size) s.heap H locs → f_C_timesColumns_L14 n x1 x2 x3 x4 x5 F A = some (r0, F9, A9) → W p l e (headSpec (Cond.code y_C_timesColumns b_C_timesColumns 9 (some .int) :: wA) ({ frames := 1, cells := 0, slots := 0, locals := 24 } : Room)).room s m ([.ref (a 0), .int u1, .int u2] : List Value).toArray below meth c H locs 0 0 (MQ below (cc_Qi (dC, dI) vC [(cI, .int), (cC, .char)] (wC a cI cC Fa Aa) s.heap.size (wC a cI cC F9 A9) r0) ([.ref (a 0), .int u1, .int u2] : List Value).toArray s 0 0 (va_A (wC a cI cC Fa Aa) s.heap.size)) (F0 m 14 ls []) := by
    intro n
    induction n with
    | zero => intro x1 x2 x3 x4 x5 F A H locs ls hl hP hD hS hf; cases hf
    | succ n ih =>
      intro x1 x2 x3 x4 x5 F A H locs ls hl hP hD hS hf
      rw [f_C_timesColumns_L14] at hf
      refine lv_iload hx hb d_C_timesColumns_14 (lv_at hl 5 rfl) ?_
      refine lv_iconst (v := 1) hx hb d_C_timesColumns_16 (by decide) ?_
      refine lv_iadd hx hb d_C_timesColumns_17 ?_
      refine lv_iload_n hx hb d_C_timesColumns_18 rfl (lv_at hl 3 rfl) ?_
      refine lv_icmp_ge (tgt := 115) hx hb d_C_timesColumns_19 (by decide) (fun h19_1 => ?_) (fun h19_1 => ?_)
      · rw [if_pos h19_1] at hf
        refine lv_iload hx hb d_C_timesColumns_115 (lv_at hl 4 rfl) ?_
        cases hf
        exact W.iret hx hb hr (fun t ht hW => ⟨⟨_, (), rfl, rfl, by rw [ht]; exact hP, va_K.moved hW.alike hK, hD⟩, hS.F ht⟩) hS.2.2 d_C_timesColumns_117
      · rw [if_neg h19_1] at hf
        refine lv_iconst (v := 0) hx hb d_C_timesColumns_22 (by decide) ?_
        refine lv_istore hx hb d_C_timesColumns_23 hl (by decide) rfl (fun ls hl => ?_)
        have hl : lv_has ls 9 [(6, .int (0 : Int32)), (0, .ref (a 0)), (1, .int x1), (2, .int x2), (3, .int x3), (4, .int x4), (5, .int x5)] := hl
        have hl : lv_has ls 9 [(0, .ref (a 0)), (1, .int x1), (2, .int x2), (3, .int x3), (4, .int x4), (5, .int x5), (6, .int (0 : Int32))] := lv_sub hl [1, 2, 3, 4, 5, 6, 0] rfl
        refine L25 _ (fun y1_6 y2_6 y3_6 y4_6 y5_6 y6_6 F6 A6 H locs ls hl hP hD hS hf => ?_) 4 x1 x2 x3 x4 x5 (0 : Int32) F A _ _ _ hl hP hD hS hf
        refine lv_iinc (k := 5) (v := (y5_6 + (2 : Int32))) hx hb d_C_timesColumns_109 hl rfl (by rfl) (by decide) rfl (fun ls hl => ?_)
        have hl : lv_has ls 9 [(5, .int (y5_6 + (2 : Int32))), (0, .ref (a 0)), (1, .int y1_6), (2, .int y2_6), (3, .int y3_6), (4, .int y4_6), (6, .int y6_6)] := hl
        refine lv_goto (tgt := 14) hx hb d_C_timesColumns_112 (by decide) ?_
        have hl : lv_has ls 9 [(0, .ref (a 0)), (1, .int y1_6), (2, .int y2_6), (3, .int y3_6), (4, .int y4_6), (5, .int (y5_6 + (2 : Int32)))] := lv_sub hl [1, 2, 3, 4, 5, 0] rfl
        exact ih y1_6 y2_6 y3_6 y4_6 (y5_6 + (2 : Int32)) F6 A6 _ _ _ hl hP hD hS hf
  rw [lg_entry_eq]
  generalize (lg_sl (([.ref (a 0), .int u1, .int u2] : List Value)) ++ List.replicate (9 - (lg_sl (([.ref (a 0), .int u1, .int u2] : List Value))).length) Slot.unset).toArray = ls at hl ⊢
  have hl : lv_has ls 9 [(0, .ref (a 0)), (1, .int u1), (2, .int u2)] := hl
  unfold f_C_timesColumns at hf
  refine lv_iload_n hx hb d_C_timesColumns_0 rfl (lv_at hl 2 rfl) ?_
  refine cc_calls (va_runS (As := [.int u2]) (rest := []) ⟨hx, hb, hml, hown, hts⟩ (k_V_typeIn l u2 _ rfl) (cw_S 1 hts mw_223 mw_224 mw_11 mw_225 rfl rfl hd_V_typeIn ⟨Nat.le_of_ble_eq_true rfl, Nat.le_of_ble_eq_true rfl⟩) cc_preS rfl rfl hl.1 rfl (lv_room (Nat.le_of_ble_eq_true rfl)) d_C_timesColumns_1 ⟨Nat.zero_le _, Nat.zero_le _⟩) ?_
  refine lv_istore_n hx hb d_C_timesColumns_4 rfl hl (by decide) rfl (fun ls hl => ?_)
  have hl : lv_has ls 9 [(3, .int (f_V_typeIn u2)), (0, .ref (a 0)), (1, .int u1), (2, .int u2)] := hl
  refine lv_iload_n hx hb d_C_timesColumns_5 rfl (lv_at hl 0 rfl) ?_
  refine cc_calls (va_runS (As := [.int (f_V_typeIn u2)]) (rest := []) ⟨hx, hb, hml, hown, hts⟩ (k_V_ofType l (f_V_typeIn u2) _ rfl) (cw_S 1 hts mw_193 mw_194 mw_11 mw_195 rfl rfl hd_V_ofType ⟨Nat.le_of_ble_eq_true rfl, Nat.le_of_ble_eq_true rfl⟩) cc_preS rfl rfl hl.1 rfl (lv_room (Nat.le_of_ble_eq_true rfl)) d_C_timesColumns_6 ⟨Nat.zero_le _, Nat.zero_le _⟩) ?_
  refine lv_istore hx hb d_C_timesColumns_9 hl (by decide) rfl (fun ls hl => ?_)
  have hl : lv_has ls 9 [(4, .int (f_V_ofType (f_V_typeIn u2))), (3, .int (f_V_typeIn u2)), (0, .ref (a 0)), (1, .int u1), (2, .int u2)] := hl
  refine lv_iconst (v := 0) hx hb d_C_timesColumns_11 (by decide) ?_
  refine lv_istore hx hb d_C_timesColumns_12 hl (by decide) rfl (fun ls hl => ?_)
  have hl : lv_has ls 9 [(5, .int (0 : Int32)), (4, .int (f_V_ofType (f_V_typeIn u2))), (3, .int (f_V_typeIn u2)), (0, .ref (a 0)), (1, .int u1), (2, .int u2)] := hl
  have hl : lv_has ls 9 [(0, .ref (a 0)), (1, .int u1), (2, .int u2), (3, .int (f_V_typeIn u2)), (4, .int (f_V_ofType (f_V_typeIn u2))), (5, .int (0 : Int32))] := lv_sub hl [3, 4, 5, 2, 1, 0] rfl
  exact L14 4 u1 u2 (f_V_typeIn u2) (f_V_ofType (f_V_typeIn u2)) (0 : Int32) Fa Aa _ _ _ hl hP hD hS hf
def f_C_times (u1 : Int32) (u2 : Int32) (Fa : ST_F) (Aa : ST_A) : Option (Int32 × ST_F × ST_A) := if u1 = (-1 : Int32) then (some ((-1 : Int32), Fa, Aa)) else (if u2 = (-1 : Int32) then (some ((-1 : Int32), Fa, Aa)) else (if (f_V_typeIn u1) = (4 : Int32) then (if (f_V_typeIn u2) = (2 : Int32) then (ra_bi (f_C_timesColumns u1 u2 Fa Aa) (fun r6 F6 A6 => some (r6, F6, A6))) else (if (f_V_typeIn u2) = (4 : Int32) then (ra_bi (f_C_timesColumns u1 u2 Fa Aa) (fun r9 F9 A9 => some (r9, F9, A9))) else (ra_bi (f_C_pairwise (4 : Int32) u1 u2 Fa Aa) (fun r8 F8 A8 => some (r8, F8, A8))))) else (ra_bi (f_C_pairwise (4 : Int32) u1 u2 Fa Aa) (fun r4 F4 A4 => some (r4, F4, A4)))))
set_option maxHeartbeats 4000000 in
set_option maxRecDepth 100000 in
theorem k_C_times (l : Launch) (dC : Nat → ClassId) (dI : Nat → Nat → Nat) (a : Nat → Nat) (cI cC : ClassId) (sz : Nat) (Fa : ST_F) (Aa : ST_A) (u1 : Int32) (u2 : Int32) (r0 : Int32) (F9 : ST_F) (A9 : ST_A) (hf : f_C_times u1 u2 Fa Aa = some (r0, F9, A9)) : cc_MetI l y_C_times (Cond.code y_C_times b_C_times 4 (some .int) :: wA) ({ frames := 3, cells := 0, slots := 0, locals := 71 } : Room) (dC, dI) vC [(cI, .int), (cC, .char)] ([.ref (a 0), .int u1, .int u2] : List Value) (wC a cI cC Fa Aa) sz (wC a cI cC F9 A9) r0 := by
  refine Met.ofW (cc := b_C_times) (maxL := 4) (ret := (some .int)) (by decide) rfl ?_
  intro p e s m args below meth c s₁ B hml hv
  obtain ⟨rfl, hsz, hP, hK, hD0⟩ := hv
  have hx := B.exec
  have hb := B.bytes
  have hr := B.returns
  have hts := fun w h => atoms_spec (ws := (Cond.code y_C_times b_C_times 4 (some .int) :: wA)) B.pre w (List.mem_cons_of_mem _ h)
  have hown : s.vm.findClass R_C = some m.cls := findClass_of_methodNamed B.named
  have hlocks := B.notSynchronized
  subst hsz
  have hD := hD0.self (sz := s.heap.size)
  have hA : ∀ q : Nat, s.heap.size ≤ q → va_A (wC a cI cC Fa Aa) s.heap.size q := fun q h => Or.inr h
  have hS : va_S (va_A (wC a cI cC Fa Aa) s.heap.size) s.heap s.heap [] := va_S.rf
  have hl := lv_entry (([.ref (a 0), .int u1, .int u2] : List Value)) (n := 4) (Nat.le_of_ble_eq_true rfl)
  rw [lg_entry_eq]
  generalize (lg_sl (([.ref (a 0), .int u1, .int u2] : List Value)) ++ List.replicate (4 - (lg_sl (([.ref (a 0), .int u1, .int u2] : List Value))).length) Slot.unset).toArray = ls at hl ⊢
  have hl : lv_has ls 4 [(0, .ref (a 0)), (1, .int u1), (2, .int u2)] := hl
  unfold f_C_times at hf
  refine lv_iload_n hx hb d_C_times_0 rfl (lv_at hl 1 rfl) ?_
  refine lv_iconst (v := -1) hx hb d_C_times_1 (by decide) ?_
  refine lv_icmp_eq (tgt := 10) hx hb d_C_times_2 (by decide) (fun h2_1 => ?_) (fun h2_1 => ?_)
  · rw [if_pos h2_1] at hf
    refine lv_iconst (v := -1) hx hb d_C_times_10 (by decide) ?_
    cases hf
    exact W.iret hx hb hr (fun t ht hW => ⟨⟨_, (), rfl, rfl, by rw [ht]; exact hP, va_K.moved hW.alike hK, hD⟩, hS.F ht⟩) hS.2.2 d_C_times_11
  · rw [if_neg h2_1] at hf
    refine lv_iload_n hx hb d_C_times_5 rfl (lv_at hl 2 rfl) ?_
    refine lv_iconst (v := -1) hx hb d_C_times_6 (by decide) ?_
    refine lv_icmp_ne (tgt := 12) hx hb d_C_times_7 (by decide) (fun h7_2 => ?_) (fun h7_2 => ?_)
    · rw [if_neg h7_2] at hf
      refine lv_iload_n hx hb d_C_times_12 rfl (lv_at hl 2 rfl) ?_
      refine cc_calls (va_runS (As := [.int u2]) (rest := []) ⟨hx, hb, hml, hown, hts⟩ (k_V_typeIn l u2 _ rfl) (cw_S 1 hts mw_223 mw_224 mw_11 mw_225 rfl rfl hd_V_typeIn ⟨Nat.le_of_ble_eq_true rfl, Nat.le_of_ble_eq_true rfl⟩) cc_preS rfl rfl hl.1 rfl (lv_room (Nat.le_of_ble_eq_true rfl)) d_C_times_13 ⟨Nat.zero_le _, Nat.zero_le _⟩) ?_
      refine lv_istore_n hx hb d_C_times_16 rfl hl (by decide) rfl (fun ls hl => ?_)
      have hl : lv_has ls 4 [(3, .int (f_V_typeIn u2)), (0, .ref (a 0)), (1, .int u1), (2, .int u2)] := hl
      refine lv_iload_n hx hb d_C_times_17 rfl (lv_at hl 2 rfl) ?_
      refine cc_calls (va_runS (As := [.int u1]) (rest := []) ⟨hx, hb, hml, hown, hts⟩ (k_V_typeIn l u1 _ rfl) (cw_S 1 hts mw_223 mw_224 mw_11 mw_225 rfl rfl hd_V_typeIn ⟨Nat.le_of_ble_eq_true rfl, Nat.le_of_ble_eq_true rfl⟩) cc_preS rfl rfl hl.1 rfl (lv_room (Nat.le_of_ble_eq_true rfl)) d_C_times_18 ⟨Nat.zero_le _, Nat.zero_le _⟩) ?_
      refine lv_iconst (v := 4) hx hb d_C_times_21 (by decide) ?_
      refine lv_icmp_ne (tgt := 42) hx hb d_C_times_22 (by decide) (fun h22_3 => ?_) (fun h22_3 => ?_)
      · rw [if_neg h22_3] at hf
        refine lv_aload_n hx hb d_C_times_42 rfl (lv_at hl 1 rfl) ?_
        refine lv_iconst (v := 4) hx hb d_C_times_43 (by decide) ?_
        refine lv_iload_n hx hb d_C_times_44 rfl (lv_at hl 2 rfl) ?_
        refine lv_iload_n hx hb d_C_times_45 rfl (lv_at hl 3 rfl) ?_
        have hP : va_P (dC, dI) vC (wC a cI cC Fa Aa) s.heap := hP
        have hD : va_D (va_A (wC a cI cC Fa Aa) s.heap.size) (wC a cI cC Fa Aa) := hD
        obtain ⟨r4, F4, A4, hc, hf⟩ := ra_bi_some hf
        refine cc_calli (va_runV (As := [.int (4 : Int32), .int u1, .int u2]) (rest := []) ⟨hx, hb, hml, hown, hts⟩ (k_C_pairwise l dC dI a cI cC s.heap.size Fa Aa (4 : Int32) u1 u2 r4 F4 A4 hc) (cw_V 3 hts mw_244 mw_246 ms_C_pairwise mw_3 mw_247 rfl rfl rfl hd_C_pairwise ⟨Nat.le_of_ble_eq_true rfl, Nat.le_of_ble_eq_true rfl⟩) (cc_preV hK hP hD rfl (q0 := 0) rfl) rfl rfl hl.1 rfl (lv_room (Nat.le_of_ble_eq_true rfl)) d_C_times_46 ⟨Nat.zero_le _, Nat.zero_le _⟩) hD hS hA (fun H locs hP hD hS => ?_)
        cases hf
        exact W.iret hx hb hr (fun t ht hW => ⟨⟨_, (), rfl, rfl, by rw [ht]; exact hP, va_K.moved hW.alike hK, hD⟩, hS.F ht⟩) hS.2.2 d_C_times_49
      · rw [if_pos h22_3] at hf
        refine lv_iload_n hx hb d_C_times_25 rfl (lv_at hl 0 rfl) ?_
        refine lv_iconst (v := 2) hx hb d_C_times_26 (by decide) ?_
        refine lv_icmp_eq (tgt := 35) hx hb d_C_times_27 (by decide) (fun h27_5 => ?_) (fun h27_5 => ?_)
        · rw [if_pos h27_5] at hf
          refine lv_aload_n hx hb d_C_times_35 rfl (lv_at hl 1 rfl) ?_
          refine lv_iload_n hx hb d_C_times_36 rfl (lv_at hl 2 rfl) ?_
          refine lv_iload_n hx hb d_C_times_37 rfl (lv_at hl 3 rfl) ?_
          have hP : va_P (dC, dI) vC (wC a cI cC Fa Aa) s.heap := hP
          have hD : va_D (va_A (wC a cI cC Fa Aa) s.heap.size) (wC a cI cC Fa Aa) := hD
          obtain ⟨r6, F6, A6, hc, hf⟩ := ra_bi_some hf
          refine cc_calli (va_runV (As := [.int u1, .int u2]) (rest := []) ⟨hx, hb, hml, hown, hts⟩ (k_C_timesColumns l dC dI a cI cC s.heap.size Fa Aa u1 u2 r6 F6 A6 hc) (cw_V 2 hts mw_272 mw_274 ms_C_timesColumns mw_3 mw_275 rfl rfl rfl hd_C_timesColumns ⟨Nat.le_of_ble_eq_true rfl, Nat.le_of_ble_eq_true rfl⟩) (cc_preV hK hP hD rfl (q0 := 0) rfl) rfl rfl hl.1 rfl (lv_room (Nat.le_of_ble_eq_true rfl)) d_C_times_38 ⟨Nat.zero_le _, Nat.zero_le _⟩) hD hS hA (fun H locs hP hD hS => ?_)
          cases hf
          exact W.iret hx hb hr (fun t ht hW => ⟨⟨_, (), rfl, rfl, by rw [ht]; exact hP, va_K.moved hW.alike hK, hD⟩, hS.F ht⟩) hS.2.2 d_C_times_41
        · rw [if_neg h27_5] at hf
          refine lv_iload_n hx hb d_C_times_30 rfl (lv_at hl 0 rfl) ?_
          refine lv_iconst (v := 4) hx hb d_C_times_31 (by decide) ?_
          refine lv_icmp_ne (tgt := 42) hx hb d_C_times_32 (by decide) (fun h32_7 => ?_) (fun h32_7 => ?_)
          · rw [if_neg h32_7] at hf
            refine lv_aload_n hx hb d_C_times_42 rfl (lv_at hl 1 rfl) ?_
            refine lv_iconst (v := 4) hx hb d_C_times_43 (by decide) ?_
            refine lv_iload_n hx hb d_C_times_44 rfl (lv_at hl 2 rfl) ?_
            refine lv_iload_n hx hb d_C_times_45 rfl (lv_at hl 3 rfl) ?_
            have hP : va_P (dC, dI) vC (wC a cI cC Fa Aa) s.heap := hP
            have hD : va_D (va_A (wC a cI cC Fa Aa) s.heap.size) (wC a cI cC Fa Aa) := hD
            obtain ⟨r8, F8, A8, hc, hf⟩ := ra_bi_some hf
            refine cc_calli (va_runV (As := [.int (4 : Int32), .int u1, .int u2]) (rest := []) ⟨hx, hb, hml, hown, hts⟩ (k_C_pairwise l dC dI a cI cC s.heap.size Fa Aa (4 : Int32) u1 u2 r8 F8 A8 hc) (cw_V 3 hts mw_244 mw_246 ms_C_pairwise mw_3 mw_247 rfl rfl rfl hd_C_pairwise ⟨Nat.le_of_ble_eq_true rfl, Nat.le_of_ble_eq_true rfl⟩) (cc_preV hK hP hD rfl (q0 := 0) rfl) rfl rfl hl.1 rfl (lv_room (Nat.le_of_ble_eq_true rfl)) d_C_times_46 ⟨Nat.zero_le _, Nat.zero_le _⟩) hD hS hA (fun H locs hP hD hS => ?_)
            cases hf
            exact W.iret hx hb hr (fun t ht hW => ⟨⟨_, (), rfl, rfl, by rw [ht]; exact hP, va_K.moved hW.alike hK, hD⟩, hS.F ht⟩) hS.2.2 d_C_times_49
          · rw [if_pos h32_7] at hf
            refine lv_aload_n hx hb d_C_times_35 rfl (lv_at hl 1 rfl) ?_
            refine lv_iload_n hx hb d_C_times_36 rfl (lv_at hl 2 rfl) ?_
            refine lv_iload_n hx hb d_C_times_37 rfl (lv_at hl 3 rfl) ?_
            have hP : va_P (dC, dI) vC (wC a cI cC Fa Aa) s.heap := hP
            have hD : va_D (va_A (wC a cI cC Fa Aa) s.heap.size) (wC a cI cC Fa Aa) := hD
            obtain ⟨r9, F9, A9, hc, hf⟩ := ra_bi_some hf
            refine cc_calli (va_runV (As := [.int u1, .int u2]) (rest := []) ⟨hx, hb, hml, hown, hts⟩ (k_C_timesColumns l dC dI a cI cC s.heap.size Fa Aa u1 u2 r9 F9 A9 hc) (cw_V 2 hts mw_272 mw_274 ms_C_timesColumns mw_3 mw_275 rfl rfl rfl hd_C_timesColumns ⟨Nat.le_of_ble_eq_true rfl, Nat.le_of_ble_eq_true rfl⟩) (cc_preV hK hP hD rfl (q0 := 0) rfl) rfl rfl hl.1 rfl (lv_room (Nat.le_of_ble_eq_true rfl)) d_C_times_38 ⟨Nat.zero_le _, Nat.zero_le _⟩) hD hS hA (fun H locs hP hD hS => ?_)
            cases hf
            exact W.iret hx hb hr (fun t ht hW => ⟨⟨_, (), rfl, rfl, by rw [ht]; exact hP, va_K.moved hW.alike hK, hD⟩, hS.F ht⟩) hS.2.2 d_C_times_41
    · rw [if_pos h7_2] at hf
      refine lv_iconst (v := -1) hx hb d_C_times_10 (by decide) ?_
      cases hf
      exact W.iret hx hb hr (fun t ht hW => ⟨⟨_, (), rfl, rfl, by rw [ht]; exact hP, va_K.moved hW.alike hK, hD⟩, hS.F ht⟩) hS.2.2 d_C_times_11
def f_C_dividedBy (u1 : Int32) (u2 : Int32) (Fa : ST_F) (Aa : ST_A) : Option (Int32 × ST_F × ST_A) := if u2 = (-1 : Int32) then (some ((-1 : Int32), Fa, Aa)) else (if (f_V_typeIn u2) = (4 : Int32) then (some ((-1 : Int32), Fa, Aa)) else (ra_bi (f_C_pairwise (5 : Int32) u1 u2 Fa Aa) (fun r3 F3 A3 => some (r3, F3, A3))))
set_option maxHeartbeats 4000000 in
set_option maxRecDepth 100000 in
theorem k_C_dividedBy (l : Launch) (dC : Nat → ClassId) (dI : Nat → Nat → Nat) (a : Nat → Nat) (cI cC : ClassId) (sz : Nat) (Fa : ST_F) (Aa : ST_A) (u1 : Int32) (u2 : Int32) (r0 : Int32) (F9 : ST_F) (A9 : ST_A) (hf : f_C_dividedBy u1 u2 Fa Aa = some (r0, F9, A9)) : cc_MetI l y_C_dividedBy (Cond.code y_C_dividedBy b_C_dividedBy 3 (some .int) :: wA) ({ frames := 3, cells := 0, slots := 0, locals := 71 } : Room) (dC, dI) vC [(cI, .int), (cC, .char)] ([.ref (a 0), .int u1, .int u2] : List Value) (wC a cI cC Fa Aa) sz (wC a cI cC F9 A9) r0 := by
  refine Met.ofW (cc := b_C_dividedBy) (maxL := 3) (ret := (some .int)) (by decide) rfl ?_
  intro p e s m args below meth c s₁ B hml hv
  obtain ⟨rfl, hsz, hP, hK, hD0⟩ := hv
  have hx := B.exec
  have hb := B.bytes
  have hr := B.returns
  have hts := fun w h => atoms_spec (ws := (Cond.code y_C_dividedBy b_C_dividedBy 3 (some .int) :: wA)) B.pre w (List.mem_cons_of_mem _ h)
  have hown : s.vm.findClass R_C = some m.cls := findClass_of_methodNamed B.named
  have hlocks := B.notSynchronized
  subst hsz
  have hD := hD0.self (sz := s.heap.size)
  have hA : ∀ q : Nat, s.heap.size ≤ q → va_A (wC a cI cC Fa Aa) s.heap.size q := fun q h => Or.inr h
  have hS : va_S (va_A (wC a cI cC Fa Aa) s.heap.size) s.heap s.heap [] := va_S.rf
  have hl := lv_entry (([.ref (a 0), .int u1, .int u2] : List Value)) (n := 3) (Nat.le_of_ble_eq_true rfl)
  rw [lg_entry_eq]
  generalize (lg_sl (([.ref (a 0), .int u1, .int u2] : List Value)) ++ List.replicate (3 - (lg_sl (([.ref (a 0), .int u1, .int u2] : List Value))).length) Slot.unset).toArray = ls at hl ⊢
  have hl : lv_has ls 3 [(0, .ref (a 0)), (1, .int u1), (2, .int u2)] := hl
  unfold f_C_dividedBy at hf
  refine lv_iload_n hx hb d_C_dividedBy_0 rfl (lv_at hl 2 rfl) ?_
  refine lv_iconst (v := -1) hx hb d_C_dividedBy_1 (by decide) ?_
  refine lv_icmp_eq (tgt := 13) hx hb d_C_dividedBy_2 (by decide) (fun h2_1 => ?_) (fun h2_1 => ?_)
  · rw [if_pos h2_1] at hf
    refine lv_iconst (v := -1) hx hb d_C_dividedBy_13 (by decide) ?_
    cases hf
    exact W.iret hx hb hr (fun t ht hW => ⟨⟨_, (), rfl, rfl, by rw [ht]; exact hP, va_K.moved hW.alike hK, hD⟩, hS.F ht⟩) hS.2.2 d_C_dividedBy_14
  · rw [if_neg h2_1] at hf
    refine lv_iload_n hx hb d_C_dividedBy_5 rfl (lv_at hl 2 rfl) ?_
    refine cc_calls (va_runS (As := [.int u2]) (rest := []) ⟨hx, hb, hml, hown, hts⟩ (k_V_typeIn l u2 _ rfl) (cw_S 1 hts mw_223 mw_224 mw_11 mw_225 rfl rfl hd_V_typeIn ⟨Nat.le_of_ble_eq_true rfl, Nat.le_of_ble_eq_true rfl⟩) cc_preS rfl rfl hl.1 rfl (lv_room (Nat.le_of_ble_eq_true rfl)) d_C_dividedBy_6 ⟨Nat.zero_le _, Nat.zero_le _⟩) ?_
    refine lv_iconst (v := 4) hx hb d_C_dividedBy_9 (by decide) ?_
    refine lv_icmp_ne (tgt := 15) hx hb d_C_dividedBy_10 (by decide) (fun h10_2 => ?_) (fun h10_2 => ?_)
    · rw [if_neg h10_2] at hf
      refine lv_aload_n hx hb d_C_dividedBy_15 rfl (lv_at hl 0 rfl) ?_
      refine lv_iconst (v := 5) hx hb d_C_dividedBy_16 (by decide) ?_
      refine lv_iload_n hx hb d_C_dividedBy_17 rfl (lv_at hl 1 rfl) ?_
      refine lv_iload_n hx hb d_C_dividedBy_18 rfl (lv_at hl 2 rfl) ?_
      have hP : va_P (dC, dI) vC (wC a cI cC Fa Aa) s.heap := hP
      have hD : va_D (va_A (wC a cI cC Fa Aa) s.heap.size) (wC a cI cC Fa Aa) := hD
      obtain ⟨r3, F3, A3, hc, hf⟩ := ra_bi_some hf
      refine cc_calli (va_runV (As := [.int (5 : Int32), .int u1, .int u2]) (rest := []) ⟨hx, hb, hml, hown, hts⟩ (k_C_pairwise l dC dI a cI cC s.heap.size Fa Aa (5 : Int32) u1 u2 r3 F3 A3 hc) (cw_V 3 hts mw_244 mw_246 ms_C_pairwise mw_3 mw_247 rfl rfl rfl hd_C_pairwise ⟨Nat.le_of_ble_eq_true rfl, Nat.le_of_ble_eq_true rfl⟩) (cc_preV hK hP hD rfl (q0 := 0) rfl) rfl rfl hl.1 rfl (lv_room (Nat.le_of_ble_eq_true rfl)) d_C_dividedBy_19 ⟨Nat.zero_le _, Nat.zero_le _⟩) hD hS hA (fun H locs hP hD hS => ?_)
      cases hf
      exact W.iret hx hb hr (fun t ht hW => ⟨⟨_, (), rfl, rfl, by rw [ht]; exact hP, va_K.moved hW.alike hK, hD⟩, hS.F ht⟩) hS.2.2 d_C_dividedBy_22
    · rw [if_pos h10_2] at hf
      refine lv_iconst (v := -1) hx hb d_C_dividedBy_13 (by decide) ?_
      cases hf
      exact W.iret hx hb hr (fun t ht hW => ⟨⟨_, (), rfl, rfl, by rw [ht]; exact hP, va_K.moved hW.alike hK, hD⟩, hS.F ht⟩) hS.2.2 d_C_dividedBy_14
def f_C_dotted_L55 : Nat → Int32 → Int32 → Int32 → Int32 → Int32 → ST_F → ST_A → Option (Int32 × ST_F × ST_A)
  | 0, _, _, _, _, _, _, _ => none
  | n + 1, x1, x2, x3, x4, x5, F, A => if x3 ≤ x5 then (some ((f_V_withNumber (f_V_ofType (1 : Int32)) (0 : Int32) x4), F, A)) else (ra_bi (f_K_put (4 : Int32) (f_V_number x1 x5) (f_V_number x2 x5) F A) (fun r7 F7 A7 => ra_bi (f_K_put (2 : Int32) x4 r7 F7 A7) (fun r8 F8 A8 => f_C_dotted_L55 n x1 x2 x3 r8 (x5 + (1 : Int32)) F8 A8)))
def f_C_dotted (u1 : Int32) (u2 : Int32) (Fa : ST_F) (Aa : ST_A) : Option (Int32 × ST_F × ST_A) := if u1 = (-1 : Int32) then (some ((-1 : Int32), Fa, Aa)) else (if u2 = (-1 : Int32) then (some ((-1 : Int32), Fa, Aa)) else (if (f_V_typeIn u1) = (f_V_typeIn u2) then (if (f_V_typeIn u1) = (4 : Int32) then (some ((-1 : Int32), Fa, Aa)) else (ra_bi (f_K_put (4 : Int32) (f_V_number u1 (0 : Int32)) (f_V_number u2 (0 : Int32)) Fa Aa) (fun r5 F5 A5 => f_C_dotted_L55 400 u1 u2 (f_V_typeIn u1) r5 (1 : Int32) F5 A5))) else (some ((-1 : Int32), Fa, Aa))))
set_option maxHeartbeats 4000000 in
set_option maxRecDepth 100000 in
theorem k_C_dotted (l : Launch) (dC : Nat → ClassId) (dI : Nat → Nat → Nat) (a : Nat → Nat) (cI cC : ClassId) (sz : Nat) (Fa : ST_F) (Aa : ST_A) (u1 : Int32) (u2 : Int32) (r0 : Int32) (F9 : ST_F) (A9 : ST_A) (hf : f_C_dotted u1 u2 Fa Aa = some (r0, F9, A9)) : cc_MetI l y_C_dotted (Cond.code y_C_dotted b_C_dotted 7 (some .int) :: wA) ({ frames := 1, cells := 0, slots := 0, locals := 24 } : Room) (dC, dI) vC [(cI, .int), (cC, .char)] ([.ref (a 0), .int u1, .int u2] : List Value) (wC a cI cC Fa Aa) sz (wC a cI cC F9 A9) r0 := by
  refine Met.ofW (cc := b_C_dotted) (maxL := 7) (ret := (some .int)) (by decide) rfl ?_
  intro p e s m args below meth c s₁ B hml hv
  obtain ⟨rfl, hsz, hP, hK, hD0⟩ := hv
  have hx := B.exec
  have hb := B.bytes
  have hr := B.returns
  have hts := fun w h => atoms_spec (ws := (Cond.code y_C_dotted b_C_dotted 7 (some .int) :: wA)) B.pre w (List.mem_cons_of_mem _ h)
  have hown : s.vm.findClass R_C = some m.cls := findClass_of_methodNamed B.named
  have hlocks := B.notSynchronized
  subst hsz
  have hD := hD0.self (sz := s.heap.size)
  have hA : ∀ q : Nat, s.heap.size ≤ q → va_A (wC a cI cC Fa Aa) s.heap.size q := fun q h => Or.inr h
  have hS : va_S (va_A (wC a cI cC Fa Aa) s.heap.size) s.heap s.heap [] := va_S.rf
  have hl := lv_entry (([.ref (a 0), .int u1, .int u2] : List Value)) (n := 7) (Nat.le_of_ble_eq_true rfl)
  have L55 : ∀ (n : Nat) (x1 : Int32) (x2 : Int32) (x3 : Int32) (x4 : Int32) (x5 : Int32) (F : ST_F) (A : ST_A) (H : Heap) (locs : List Loc) (ls : Array Slot), lv_has ls 7 [(0, .ref (a 0)), (1, .int x1), (2, .int x2), (3, .int x3), (4, .int x4), (5, .int x5)] → va_P (dC, dI) vC (wC a cI cC F A) H → va_D (va_A (wC a cI cC Fa Aa) s.heap.size) (wC a cI cC F A) → va_S (va_A (wC a cI cC Fa Aa) s.heap.size) s.heap H locs → f_C_dotted_L55 n x1 x2 x3 x4 x5 F A = some (r0, F9, A9) → W p l e (headSpec (Cond.code y_C_dotted b_C_dotted 7 (some .int) :: wA) ({ frames := 1, cells := 0, slots := 0, locals := 24 } : Room)).room s m ([.ref (a 0), .int u1, .int u2] : List Value).toArray below meth c H locs 0 0 (MQ below (cc_Qi (dC, dI) vC [(cI, .int), (cC, .char)] (wC a cI cC Fa Aa) s.heap.size (wC a cI cC F9 A9) r0) ([.ref (a 0), .int u1, .int u2] : List Value).toArray s 0 0 (va_A (wC a cI cC Fa Aa) s.heap.size)) (F0 m 55 ls []) := by
    intro n
    induction n with
    | zero => intro x1 x2 x3 x4 x5 F A H locs ls hl hP hD hS hf; cases hf
    | succ n ih =>
      intro x1 x2 x3 x4 x5 F A H locs ls hl hP hD hS hf
      rw [f_C_dotted_L55] at hf
      refine lv_iload hx hb d_C_dotted_55 (lv_at hl 5 rfl) ?_
      refine lv_iload_n hx hb d_C_dotted_57 rfl (lv_at hl 3 rfl) ?_
      refine lv_icmp_ge (tgt := 103) hx hb d_C_dotted_58 (by decide) (fun h58_6 => ?_) (fun h58_6 => ?_)
      · rw [if_pos h58_6] at hf
        refine lv_iconst (v := 1) hx hb d_C_dotted_103 (by decide) ?_
        refine cc_calls (va_runS (As := [.int (1 : Int32)]) (rest := []) ⟨hx, hb, hml, hown, hts⟩ (k_V_ofType l (1 : Int32) _ rfl) (cw_S 1 hts mw_193 mw_194 mw_11 mw_195 rfl rfl hd_V_ofType ⟨Nat.le_of_ble_eq_true rfl, Nat.le_of_ble_eq_true rfl⟩) cc_preS rfl rfl hl.1 rfl (lv_room (Nat.le_of_ble_eq_true rfl)) d_C_dotted_104 ⟨Nat.zero_le _, Nat.zero_le _⟩) ?_
        refine lv_iconst (v := 0) hx hb d_C_dotted_107 (by decide) ?_
        refine lv_iload hx hb d_C_dotted_108 (lv_at hl 4 rfl) ?_
        refine cc_calls (va_runS (As := [.int (f_V_ofType (1 : Int32)), .int (0 : Int32), .int x4]) (rest := []) ⟨hx, hb, hml, hown, hts⟩ (k_V_withNumber l (f_V_ofType (1 : Int32)) (0 : Int32) x4 _ rfl) (cw_S 3 hts mw_200 mw_201 mw_11 mw_202 rfl rfl hd_V_withNumber ⟨Nat.le_of_ble_eq_true rfl, Nat.le_of_ble_eq_true rfl⟩) cc_preS rfl rfl hl.1 rfl (lv_room (Nat.le_of_ble_eq_true rfl)) d_C_dotted_110 ⟨Nat.zero_le _, Nat.zero_le _⟩) ?_
        cases hf
        exact W.iret hx hb hr (fun t ht hW => ⟨⟨_, (), rfl, rfl, by rw [ht]; exact hP, va_K.moved hW.alike hK, hD⟩, hS.F ht⟩) hS.2.2 d_C_dotted_113
      · rw [if_neg h58_6] at hf
        refine lv_aload_n hx hb d_C_dotted_61 rfl (lv_at hl 0 rfl) ?_
        refine va_get (D := (dC, dI)) (ci := 1) (v := .ref (a 3)) (C := R_C) (T := T_C) (N := 5) hx hb hts in_C hown hK hP 0 rfl rfl 4 (by decide) (hts _ mw_79) (fun _ h9 => h9) rfl d_C_dotted_62 ?_
        refine lv_iconst (v := 4) hx hb d_C_dotted_65 (by decide) ?_
        refine lv_iload_n hx hb d_C_dotted_66 rfl (lv_at hl 1 rfl) ?_
        refine lv_iload hx hb d_C_dotted_67 (lv_at hl 5 rfl) ?_
        refine cc_calls (va_runS (As := [.int x1, .int x5]) (rest := [.int (4 : Int32), .ref (a 3)]) ⟨hx, hb, hml, hown, hts⟩ (k_V_number l x1 x5 _ rfl) (cw_S 2 hts mw_226 mw_227 mw_11 mw_228 rfl rfl hd_V_number ⟨Nat.le_of_ble_eq_true rfl, Nat.le_of_ble_eq_true rfl⟩) cc_preS rfl rfl hl.1 rfl (lv_room (Nat.le_of_ble_eq_true rfl)) d_C_dotted_69 ⟨Nat.zero_le _, Nat.zero_le _⟩) ?_
        refine lv_iload_n hx hb d_C_dotted_72 rfl (lv_at hl 2 rfl) ?_
        refine lv_iload hx hb d_C_dotted_73 (lv_at hl 5 rfl) ?_
        refine cc_calls (va_runS (As := [.int x2, .int x5]) (rest := [.int (f_V_number x1 x5), .int (4 : Int32), .ref (a 3)]) ⟨hx, hb, hml, hown, hts⟩ (k_V_number l x2 x5 _ rfl) (cw_S 2 hts mw_226 mw_227 mw_11 mw_228 rfl rfl hd_V_number ⟨Nat.le_of_ble_eq_true rfl, Nat.le_of_ble_eq_true rfl⟩) cc_preS rfl rfl hl.1 rfl (lv_room (Nat.le_of_ble_eq_true rfl)) d_C_dotted_75 ⟨Nat.zero_le _, Nat.zero_le _⟩) ?_
        have hP : va_P (dC, dI) vC (wC a cI cC F A) H := hP
        have hD : va_D (va_A (wC a cI cC Fa Aa) s.heap.size) (wC a cI cC F A) := hD
        obtain ⟨r7, F7, A7, hc, hf⟩ := ra_bi_some hf
        refine cc_calli (va_runV (As := [.int (4 : Int32), .int (f_V_number x1 x5), .int (f_V_number x2 x5)]) (rest := []) ⟨hx, hb, hml, hown, hts⟩ (k_K_put l dC dI a cI cC H.size F A (4 : Int32) (f_V_number x1 x5) (f_V_number x2 x5) r7 F7 A7 hc) (cw_V 3 hts mw_196 mw_197 mw_198 mw_2 mw_199 rfl rfl rfl hd_K_put ⟨Nat.le_of_ble_eq_true rfl, Nat.le_of_ble_eq_true rfl⟩) (cc_preV hK hP hD rfl (q0 := 3) rfl) rfl rfl hl.1 rfl (lv_room (Nat.le_of_ble_eq_true rfl)) d_C_dotted_78 ⟨Nat.zero_le _, Nat.zero_le _⟩) hD hS hA (fun H locs hP hD hS => ?_)
        refine lv_istore hx hb d_C_dotted_81 hl (by decide) rfl (fun ls hl => ?_)
        have hl : lv_has ls 7 [(6, .int r7), (0, .ref (a 0)), (1, .int x1), (2, .int x2), (3, .int x3), (4, .int x4), (5, .int x5)] := hl
        refine lv_aload_n hx hb d_C_dotted_83 rfl (lv_at hl 1 rfl) ?_
        refine va_get (D := (dC, dI)) (ci := 1) (v := .ref (a 3)) (C := R_C) (T := T_C) (N := 5) hx hb hts in_C hown hK hP 0 rfl rfl 4 (by decide) (hts _ mw_79) (fun _ h9 => h9) rfl d_C_dotted_84 ?_
        refine lv_iconst (v := 2) hx hb d_C_dotted_87 (by decide) ?_
        refine lv_iload hx hb d_C_dotted_88 (lv_at hl 5 rfl) ?_
        refine lv_iload hx hb d_C_dotted_90 (lv_at hl 0 rfl) ?_
        have hP : va_P (dC, dI) vC (wC a cI cC F7 A7) H := hP
        have hD : va_D (va_A (wC a cI cC Fa Aa) s.heap.size) (wC a cI cC F7 A7) := hD
        obtain ⟨r8, F8, A8, hc, hf⟩ := ra_bi_some hf
        refine cc_calli (va_runV (As := [.int (2 : Int32), .int x4, .int r7]) (rest := []) ⟨hx, hb, hml, hown, hts⟩ (k_K_put l dC dI a cI cC H.size F7 A7 (2 : Int32) x4 r7 r8 F8 A8 hc) (cw_V 3 hts mw_196 mw_197 mw_198 mw_2 mw_199 rfl rfl rfl hd_K_put ⟨Nat.le_of_ble_eq_true rfl, Nat.le_of_ble_eq_true rfl⟩) (cc_preV hK hP hD rfl (q0 := 3) rfl) rfl rfl hl.1 rfl (lv_room (Nat.le_of_ble_eq_true rfl)) d_C_dotted_92 ⟨Nat.zero_le _, Nat.zero_le _⟩) hD hS hA (fun H locs hP hD hS => ?_)
        refine lv_istore hx hb d_C_dotted_95 hl (by decide) rfl (fun ls hl => ?_)
        have hl : lv_has ls 7 [(4, .int r8), (6, .int r7), (0, .ref (a 0)), (1, .int x1), (2, .int x2), (3, .int x3), (5, .int x5)] := hl
        refine lv_iinc (k := 6) (v := (x5 + (1 : Int32))) hx hb d_C_dotted_97 hl rfl (by rfl) (by decide) rfl (fun ls hl => ?_)
        have hl : lv_has ls 7 [(5, .int (x5 + (1 : Int32))), (4, .int r8), (6, .int r7), (0, .ref (a 0)), (1, .int x1), (2, .int x2), (3, .int x3)] := hl
        refine lv_goto (tgt := 55) hx hb d_C_dotted_100 (by decide) ?_
        have hl : lv_has ls 7 [(0, .ref (a 0)), (1, .int x1), (2, .int x2), (3, .int x3), (4, .int r8), (5, .int (x5 + (1 : Int32)))] := lv_sub hl [3, 4, 5, 6, 1, 0] rfl
        exact ih x1 x2 x3 r8 (x5 + (1 : Int32)) F8 A8 _ _ _ hl hP hD hS hf
  rw [lg_entry_eq]
  generalize (lg_sl (([.ref (a 0), .int u1, .int u2] : List Value)) ++ List.replicate (7 - (lg_sl (([.ref (a 0), .int u1, .int u2] : List Value))).length) Slot.unset).toArray = ls at hl ⊢
  have hl : lv_has ls 7 [(0, .ref (a 0)), (1, .int u1), (2, .int u2)] := hl
  unfold f_C_dotted at hf
  refine lv_iload_n hx hb d_C_dotted_0 rfl (lv_at hl 1 rfl) ?_
  refine lv_iconst (v := -1) hx hb d_C_dotted_1 (by decide) ?_
  refine lv_icmp_eq (tgt := 10) hx hb d_C_dotted_2 (by decide) (fun h2_1 => ?_) (fun h2_1 => ?_)
  · rw [if_pos h2_1] at hf
    refine lv_iconst (v := -1) hx hb d_C_dotted_10 (by decide) ?_
    cases hf
    exact W.iret hx hb hr (fun t ht hW => ⟨⟨_, (), rfl, rfl, by rw [ht]; exact hP, va_K.moved hW.alike hK, hD⟩, hS.F ht⟩) hS.2.2 d_C_dotted_11
  · rw [if_neg h2_1] at hf
    refine lv_iload_n hx hb d_C_dotted_5 rfl (lv_at hl 2 rfl) ?_
    refine lv_iconst (v := -1) hx hb d_C_dotted_6 (by decide) ?_
    refine lv_icmp_ne (tgt := 12) hx hb d_C_dotted_7 (by decide) (fun h7_2 => ?_) (fun h7_2 => ?_)
    · rw [if_neg h7_2] at hf
      refine lv_iload_n hx hb d_C_dotted_12 rfl (lv_at hl 1 rfl) ?_
      refine cc_calls (va_runS (As := [.int u1]) (rest := []) ⟨hx, hb, hml, hown, hts⟩ (k_V_typeIn l u1 _ rfl) (cw_S 1 hts mw_223 mw_224 mw_11 mw_225 rfl rfl hd_V_typeIn ⟨Nat.le_of_ble_eq_true rfl, Nat.le_of_ble_eq_true rfl⟩) cc_preS rfl rfl hl.1 rfl (lv_room (Nat.le_of_ble_eq_true rfl)) d_C_dotted_13 ⟨Nat.zero_le _, Nat.zero_le _⟩) ?_
      refine lv_istore_n hx hb d_C_dotted_16 rfl hl (by decide) rfl (fun ls hl => ?_)
      have hl : lv_has ls 7 [(3, .int (f_V_typeIn u1)), (0, .ref (a 0)), (1, .int u1), (2, .int u2)] := hl
      refine lv_iload_n hx hb d_C_dotted_17 rfl (lv_at hl 0 rfl) ?_
      refine lv_iload_n hx hb d_C_dotted_18 rfl (lv_at hl 3 rfl) ?_
      refine cc_calls (va_runS (As := [.int u2]) (rest := [.int (f_V_typeIn u1)]) ⟨hx, hb, hml, hown, hts⟩ (k_V_typeIn l u2 _ rfl) (cw_S 1 hts mw_223 mw_224 mw_11 mw_225 rfl rfl hd_V_typeIn ⟨Nat.le_of_ble_eq_true rfl, Nat.le_of_ble_eq_true rfl⟩) cc_preS rfl rfl hl.1 rfl (lv_room (Nat.le_of_ble_eq_true rfl)) d_C_dotted_19 ⟨Nat.zero_le _, Nat.zero_le _⟩) ?_
      refine lv_icmp_ne (tgt := 30) hx hb d_C_dotted_22 (by decide) (fun h22_3 => ?_) (fun h22_3 => ?_)
      · rw [if_neg h22_3] at hf
        refine lv_iconst (v := -1) hx hb d_C_dotted_30 (by decide) ?_
        cases hf
        exact W.iret hx hb hr (fun t ht hW => ⟨⟨_, (), rfl, rfl, by rw [ht]; exact hP, va_K.moved hW.alike hK, hD⟩, hS.F ht⟩) hS.2.2 d_C_dotted_31
      · rw [if_pos h22_3] at hf
        refine lv_iload_n hx hb d_C_dotted_25 rfl (lv_at hl 0 rfl) ?_
        refine lv_iconst (v := 4) hx hb d_C_dotted_26 (by decide) ?_
        refine lv_icmp_ne (tgt := 32) hx hb d_C_dotted_27 (by decide) (fun h27_4 => ?_) (fun h27_4 => ?_)
        · rw [if_neg h27_4] at hf
          refine lv_aload_n hx hb d_C_dotted_32 rfl (lv_at hl 1 rfl) ?_
          refine va_get (D := (dC, dI)) (ci := 1) (v := .ref (a 3)) (C := R_C) (T := T_C) (N := 5) hx hb hts in_C hown hK hP 0 rfl rfl 4 (by decide) (hts _ mw_79) (fun _ h9 => h9) rfl d_C_dotted_33 ?_
          refine lv_iconst (v := 4) hx hb d_C_dotted_36 (by decide) ?_
          refine lv_iload_n hx hb d_C_dotted_37 rfl (lv_at hl 2 rfl) ?_
          refine lv_iconst (v := 0) hx hb d_C_dotted_38 (by decide) ?_
          refine cc_calls (va_runS (As := [.int u1, .int (0 : Int32)]) (rest := [.int (4 : Int32), .ref (a 3)]) ⟨hx, hb, hml, hown, hts⟩ (k_V_number l u1 (0 : Int32) _ rfl) (cw_S 2 hts mw_226 mw_227 mw_11 mw_228 rfl rfl hd_V_number ⟨Nat.le_of_ble_eq_true rfl, Nat.le_of_ble_eq_true rfl⟩) cc_preS rfl rfl hl.1 rfl (lv_room (Nat.le_of_ble_eq_true rfl)) d_C_dotted_39 ⟨Nat.zero_le _, Nat.zero_le _⟩) ?_
          refine lv_iload_n hx hb d_C_dotted_42 rfl (lv_at hl 3 rfl) ?_
          refine lv_iconst (v := 0) hx hb d_C_dotted_43 (by decide) ?_
          refine cc_calls (va_runS (As := [.int u2, .int (0 : Int32)]) (rest := [.int (f_V_number u1 (0 : Int32)), .int (4 : Int32), .ref (a 3)]) ⟨hx, hb, hml, hown, hts⟩ (k_V_number l u2 (0 : Int32) _ rfl) (cw_S 2 hts mw_226 mw_227 mw_11 mw_228 rfl rfl hd_V_number ⟨Nat.le_of_ble_eq_true rfl, Nat.le_of_ble_eq_true rfl⟩) cc_preS rfl rfl hl.1 rfl (lv_room (Nat.le_of_ble_eq_true rfl)) d_C_dotted_44 ⟨Nat.zero_le _, Nat.zero_le _⟩) ?_
          have hP : va_P (dC, dI) vC (wC a cI cC Fa Aa) s.heap := hP
          have hD : va_D (va_A (wC a cI cC Fa Aa) s.heap.size) (wC a cI cC Fa Aa) := hD
          obtain ⟨r5, F5, A5, hc, hf⟩ := ra_bi_some hf
          refine cc_calli (va_runV (As := [.int (4 : Int32), .int (f_V_number u1 (0 : Int32)), .int (f_V_number u2 (0 : Int32))]) (rest := []) ⟨hx, hb, hml, hown, hts⟩ (k_K_put l dC dI a cI cC s.heap.size Fa Aa (4 : Int32) (f_V_number u1 (0 : Int32)) (f_V_number u2 (0 : Int32)) r5 F5 A5 hc) (cw_V 3 hts mw_196 mw_197 mw_198 mw_2 mw_199 rfl rfl rfl hd_K_put ⟨Nat.le_of_ble_eq_true rfl, Nat.le_of_ble_eq_true rfl⟩) (cc_preV hK hP hD rfl (q0 := 3) rfl) rfl rfl hl.1 rfl (lv_room (Nat.le_of_ble_eq_true rfl)) d_C_dotted_47 ⟨Nat.zero_le _, Nat.zero_le _⟩) hD hS hA (fun H locs hP hD hS => ?_)
          refine lv_istore hx hb d_C_dotted_50 hl (by decide) rfl (fun ls hl => ?_)
          have hl : lv_has ls 7 [(4, .int r5), (3, .int (f_V_typeIn u1)), (0, .ref (a 0)), (1, .int u1), (2, .int u2)] := hl
          refine lv_iconst (v := 1) hx hb d_C_dotted_52 (by decide) ?_
          refine lv_istore hx hb d_C_dotted_53 hl (by decide) rfl (fun ls hl => ?_)
          have hl : lv_has ls 7 [(5, .int (1 : Int32)), (4, .int r5), (3, .int (f_V_typeIn u1)), (0, .ref (a 0)), (1, .int u1), (2, .int u2)] := hl
          have hl : lv_has ls 7 [(0, .ref (a 0)), (1, .int u1), (2, .int u2), (3, .int (f_V_typeIn u1)), (4, .int r5), (5, .int (1 : Int32))] := lv_sub hl [3, 4, 5, 2, 1, 0] rfl
          exact L55 400 u1 u2 (f_V_typeIn u1) r5 (1 : Int32) F5 A5 _ _ _ hl hP hD hS hf
        · rw [if_pos h27_4] at hf
          refine lv_iconst (v := -1) hx hb d_C_dotted_30 (by decide) ?_
          cases hf
          exact W.iret hx hb hr (fun t ht hW => ⟨⟨_, (), rfl, rfl, by rw [ht]; exact hP, va_K.moved hW.alike hK, hD⟩, hS.F ht⟩) hS.2.2 d_C_dotted_31
    · rw [if_pos h7_2] at hf
      refine lv_iconst (v := -1) hx hb d_C_dotted_10 (by decide) ?_
      cases hf
      exact W.iret hx hb hr (fun t ht hW => ⟨⟨_, (), rfl, rfl, by rw [ht]; exact hP, va_K.moved hW.alike hK, hD⟩, hS.F ht⟩) hS.2.2 d_C_dotted_11
end
section
def f_C_constant_J95 (x1 : Int32) (x2 : Int32) (x3 : Int32) (F : ST_F) (A : ST_A) : Option (Int32 × ST_F × ST_A) := ra_nz x2 (ra_bi (f_K_put (0 : Int32) ((x1 * (65536 : Int32)) + ((x3 * (65536 : Int32)) / x2)) (0 : Int32) F A) (fun r4 F4 A4 => some ((f_V_withNumber (f_V_ofType (1 : Int32)) (0 : Int32) r4), F4, A4)))
def f_C_constant_J88 (x1 : Int32) (x2 : Int32) (x3 : Int32) (x4 : Int32) (F : ST_F) (A : ST_A) : Option (Int32 × ST_F × ST_A) := if x2 = (1 : Int32) then (some ((-1 : Int32), F, A)) else (f_C_constant_J95 x1 x2 x3 F A)
def f_C_constant_L51 : Nat → Int32 → Int32 → Int32 → Int32 → ST_F → ST_A → Option (Int32 × ST_F × ST_A)
  | 0, _, _, _, _, _, _ => none
  | n + 1, x1, x2, x3, x4, F, A => if (4 : Int32) ≤ x4 then (f_C_constant_J88 x1 x2 x3 x4 F A) else (ra_bi (f_C_next  F A) (fun r7 F7 A7 => if (f_C_isDigit r7) = 0 then (f_C_constant_J88 x1 x2 x3 x4 F7 A7) else (ra_bi (f_C_digit  F7 A7) (fun r9 F9 A9 => f_C_constant_L51 n x1 (x2 * (10 : Int32)) ((x3 * (10 : Int32)) + r9) (x4 + (1 : Int32)) F9 A9))))
def f_C_constant_J35 (x1 : Int32) (x2 : Int32) (F : ST_F) (A : ST_A) : Option (Int32 × ST_F × ST_A) := ra_bi (f_C_takes (46 : Int32) F A) (fun r2 F2 A2 => if r2 = 0 then (f_C_constant_J95 x1 (1 : Int32) (0 : Int32) F2 A2) else (f_C_constant_L51 400 x1 (1 : Int32) (0 : Int32) (0 : Int32) F2 A2))
def f_C_constant_L4 : Nat → Int32 → Int32 → ST_F → ST_A → Option (Int32 × ST_F × ST_A)
  | 0, _, _, _, _ => none
  | n + 1, x1, x2, F, A => if (4 : Int32) ≤ x2 then (f_C_constant_J35 x1 x2 F A) else (ra_bi (f_C_next  F A) (fun r10 F10 A10 => if (f_C_isDigit r10) = 0 then (f_C_constant_J35 x1 x2 F10 A10) else (ra_bi (f_C_digit  F10 A10) (fun r12 F12 A12 => f_C_constant_L4 n ((x1 * (10 : Int32)) + r12) (x2 + (1 : Int32)) F12 A12))))
def f_C_constant  (Fa : ST_F) (Aa : ST_A) : Option (Int32 × ST_F × ST_A) := f_C_constant_L4 400 (0 : Int32) (0 : Int32) Fa Aa
set_option maxHeartbeats 4000000 in
set_option maxRecDepth 100000 in
theorem k_C_constant (l : Launch) (dC : Nat → ClassId) (dI : Nat → Nat → Nat) (a : Nat → Nat) (cI cC : ClassId) (sz : Nat) (Fa : ST_F) (Aa : ST_A)  (r0 : Int32) (F9 : ST_F) (A9 : ST_A) (hf : f_C_constant  Fa Aa = some (r0, F9, A9)) : cc_MetI l y_C_constant (Cond.code y_C_constant b_C_constant 5 (some .int) :: wA) ({ frames := 2, cells := 0, slots := 0, locals := 41 } : Room) (dC, dI) vC [(cI, .int), (cC, .char)] ([.ref (a 0)] : List Value) (wC a cI cC Fa Aa) sz (wC a cI cC F9 A9) r0 := by
  refine Met.ofW (cc := b_C_constant) (maxL := 5) (ret := (some .int)) (by decide) rfl ?_
  intro p e s m args below meth c s₁ B hml hv
  obtain ⟨rfl, hsz, hP, hK, hD0⟩ := hv
  have hx := B.exec
  have hb := B.bytes
  have hr := B.returns
  have hts := fun w h => atoms_spec (ws := (Cond.code y_C_constant b_C_constant 5 (some .int) :: wA)) B.pre w (List.mem_cons_of_mem _ h)
  have hown : s.vm.findClass R_C = some m.cls := findClass_of_methodNamed B.named
  have hlocks := B.notSynchronized
  subst hsz
  have hD := hD0.self (sz := s.heap.size)
  have hA : ∀ q : Nat, s.heap.size ≤ q → va_A (wC a cI cC Fa Aa) s.heap.size q := fun q h => Or.inr h
  have hS : va_S (va_A (wC a cI cC Fa Aa) s.heap.size) s.heap s.heap [] := va_S.rf
  have hl := lv_entry (([.ref (a 0)] : List Value)) (n := 5) (Nat.le_of_ble_eq_true rfl)
  have J95 : ∀ (x1 : Int32) (x2 : Int32) (x3 : Int32) (F : ST_F) (A : ST_A) (H : Heap) (locs : List Loc) (ls : Array Slot), lv_has ls 5 [(0, .ref (a 0)), (1, .int x1), (2, .int x2), (3, .int x3)] → va_P (dC, dI) vC (wC a cI cC F A) H → va_D (va_A (wC a cI cC Fa Aa) s.heap.size) (wC a cI cC F A) → va_S (va_A (wC a cI cC Fa Aa) s.heap.size) s.heap H locs → f_C_constant_J95 x1 x2 x3 F A = some (r0, F9, A9) → W p l e (headSpec (Cond.code y_C_constant b_C_constant 5 (some .int) :: wA) ({ frames := 2, cells := 0, slots := 0, locals := 41 } : Room)).room s m ([.ref (a 0)] : List Value).toArray below meth c H locs 0 0 (MQ below (cc_Qi (dC, dI) vC [(cI, .int), (cC, .char)] (wC a cI cC Fa Aa) s.heap.size (wC a cI cC F9 A9) r0) ([.ref (a 0)] : List Value).toArray s 0 0 (va_A (wC a cI cC Fa Aa) s.heap.size)) (F0 m 95 ls []) := by
    intro x1 x2 x3 F A H locs ls hl hP hD hS hf
    unfold f_C_constant_J95 at hf
    refine lv_iload_n hx hb d_C_constant_95 rfl (lv_at hl 1 rfl) ?_
    refine lv_ldc (v := 65536) hx hb hown (hts _ mw_192) d_C_constant_96 ?_
    refine lv_imul hx hb d_C_constant_98 ?_
    refine lv_iload_n hx hb d_C_constant_99 rfl (lv_at hl 3 rfl) ?_
    refine lv_ldc (v := 65536) hx hb hown (hts _ mw_192) d_C_constant_100 ?_
    refine lv_imul hx hb d_C_constant_102 ?_
    refine lv_iload_n hx hb d_C_constant_103 rfl (lv_at hl 2 rfl) ?_
    obtain ⟨hn, hf⟩ := ra_nz_some hf
    refine lv_idiv hx hb d_C_constant_104 hn ?_
    refine lv_iadd hx hb d_C_constant_105 ?_
    refine lv_istore hx hb d_C_constant_106 hl (by decide) rfl (fun ls hl => ?_)
    have hl : lv_has ls 5 [(4, .int ((x1 * (65536 : Int32)) + ((x3 * (65536 : Int32)) / x2))), (0, .ref (a 0)), (1, .int x1), (2, .int x2), (3, .int x3)] := hl
    refine lv_iconst (v := 1) hx hb d_C_constant_108 (by decide) ?_
    refine cc_calls (va_runS (As := [.int (1 : Int32)]) (rest := []) ⟨hx, hb, hml, hown, hts⟩ (k_V_ofType l (1 : Int32) _ rfl) (cw_S 1 hts mw_193 mw_194 mw_11 mw_195 rfl rfl hd_V_ofType ⟨Nat.le_of_ble_eq_true rfl, Nat.le_of_ble_eq_true rfl⟩) cc_preS rfl rfl hl.1 rfl (lv_room (Nat.le_of_ble_eq_true rfl)) d_C_constant_109 ⟨Nat.zero_le _, Nat.zero_le _⟩) ?_
    refine lv_iconst (v := 0) hx hb d_C_constant_112 (by decide) ?_
    refine lv_aload_n hx hb d_C_constant_113 rfl (lv_at hl 1 rfl) ?_
    refine va_get (D := (dC, dI)) (ci := 1) (v := .ref (a 3)) (C := R_C) (T := T_C) (N := 5) hx hb hts in_C hown hK hP 0 rfl rfl 4 (by decide) (hts _ mw_79) (fun _ h9 => h9) rfl d_C_constant_114 ?_
    refine lv_iconst (v := 0) hx hb d_C_constant_117 (by decide) ?_
    refine lv_iload hx hb d_C_constant_118 (lv_at hl 0 rfl) ?_
    refine lv_iconst (v := 0) hx hb d_C_constant_120 (by decide) ?_
    have hP : va_P (dC, dI) vC (wC a cI cC F A) H := hP
    have hD : va_D (va_A (wC a cI cC Fa Aa) s.heap.size) (wC a cI cC F A) := hD
    obtain ⟨r4, F4, A4, hc, hf⟩ := ra_bi_some hf
    refine cc_calli (va_runV (As := [.int (0 : Int32), .int ((x1 * (65536 : Int32)) + ((x3 * (65536 : Int32)) / x2)), .int (0 : Int32)]) (rest := [.int (0 : Int32), .int (f_V_ofType (1 : Int32))]) ⟨hx, hb, hml, hown, hts⟩ (k_K_put l dC dI a cI cC H.size F A (0 : Int32) ((x1 * (65536 : Int32)) + ((x3 * (65536 : Int32)) / x2)) (0 : Int32) r4 F4 A4 hc) (cw_V 3 hts mw_196 mw_197 mw_198 mw_2 mw_199 rfl rfl rfl hd_K_put ⟨Nat.le_of_ble_eq_true rfl, Nat.le_of_ble_eq_true rfl⟩) (cc_preV hK hP hD rfl (q0 := 3) rfl) rfl rfl hl.1 rfl (lv_room (Nat.le_of_ble_eq_true rfl)) d_C_constant_121 ⟨Nat.zero_le _, Nat.zero_le _⟩) hD hS hA (fun H locs hP hD hS => ?_)
    refine cc_calls (va_runS (As := [.int (f_V_ofType (1 : Int32)), .int (0 : Int32), .int r4]) (rest := []) ⟨hx, hb, hml, hown, hts⟩ (k_V_withNumber l (f_V_ofType (1 : Int32)) (0 : Int32) r4 _ rfl) (cw_S 3 hts mw_200 mw_201 mw_11 mw_202 rfl rfl hd_V_withNumber ⟨Nat.le_of_ble_eq_true rfl, Nat.le_of_ble_eq_true rfl⟩) cc_preS rfl rfl hl.1 rfl (lv_room (Nat.le_of_ble_eq_true rfl)) d_C_constant_124 ⟨Nat.zero_le _, Nat.zero_le _⟩) ?_
    cases hf
    exact W.iret hx hb hr (fun t ht hW => ⟨⟨_, (), rfl, rfl, by rw [ht]; exact hP, va_K.moved hW.alike hK, hD⟩, hS.F ht⟩) hS.2.2 d_C_constant_127
  have J88 : ∀ (x1 : Int32) (x2 : Int32) (x3 : Int32) (x4 : Int32) (F : ST_F) (A : ST_A) (H : Heap) (locs : List Loc) (ls : Array Slot), lv_has ls 5 [(0, .ref (a 0)), (1, .int x1), (2, .int x2), (3, .int x3), (4, .int x4)] → va_P (dC, dI) vC (wC a cI cC F A) H → va_D (va_A (wC a cI cC Fa Aa) s.heap.size) (wC a cI cC F A) → va_S (va_A (wC a cI cC Fa Aa) s.heap.size) s.heap H locs → f_C_constant_J88 x1 x2 x3 x4 F A = some (r0, F9, A9) → W p l e (headSpec (Cond.code y_C_constant b_C_constant 5 (some .int) :: wA) ({ frames := 2, cells := 0, slots := 0, locals := 41 } : Room)).room s m ([.ref (a 0)] : List Value).toArray below meth c H locs 0 0 (MQ below (cc_Qi (dC, dI) vC [(cI, .int), (cC, .char)] (wC a cI cC Fa Aa) s.heap.size (wC a cI cC F9 A9) r0) ([.ref (a 0)] : List Value).toArray s 0 0 (va_A (wC a cI cC Fa Aa) s.heap.size)) (F0 m 88 ls []) := by
    intro x1 x2 x3 x4 F A H locs ls hl hP hD hS hf
    unfold f_C_constant_J88 at hf
    refine lv_iload_n hx hb d_C_constant_88 rfl (lv_at hl 2 rfl) ?_
    refine lv_iconst (v := 1) hx hb d_C_constant_89 (by decide) ?_
    refine lv_icmp_ne (tgt := 95) hx hb d_C_constant_90 (by decide) (fun h90_6 => ?_) (fun h90_6 => ?_)
    · rw [if_neg h90_6] at hf
      have hl : lv_has ls 5 [(0, .ref (a 0)), (1, .int x1), (2, .int x2), (3, .int x3)] := lv_sub hl [0, 1, 2, 3] rfl
      exact J95 x1 x2 x3 F A _ _ _ hl hP hD hS hf
    · rw [if_pos h90_6] at hf
      refine lv_iconst (v := -1) hx hb d_C_constant_93 (by decide) ?_
      cases hf
      exact W.iret hx hb hr (fun t ht hW => ⟨⟨_, (), rfl, rfl, by rw [ht]; exact hP, va_K.moved hW.alike hK, hD⟩, hS.F ht⟩) hS.2.2 d_C_constant_94
  have L51 : ∀ (n : Nat) (x1 : Int32) (x2 : Int32) (x3 : Int32) (x4 : Int32) (F : ST_F) (A : ST_A) (H : Heap) (locs : List Loc) (ls : Array Slot), lv_has ls 5 [(0, .ref (a 0)), (1, .int x1), (2, .int x2), (3, .int x3), (4, .int x4)] → va_P (dC, dI) vC (wC a cI cC F A) H → va_D (va_A (wC a cI cC Fa Aa) s.heap.size) (wC a cI cC F A) → va_S (va_A (wC a cI cC Fa Aa) s.heap.size) s.heap H locs → f_C_constant_L51 n x1 x2 x3 x4 F A = some (r0, F9, A9) → W p l e (headSpec (Cond.code y_C_constant b_C_constant 5 (some .int) :: wA) ({ frames := 2, cells := 0, slots := 0, locals := 41 } : Room)).room s m ([.ref (a 0)] : List Value).toArray below meth c H locs 0 0 (MQ below (cc_Qi (dC, dI) vC [(cI, .int), (cC, .char)] (wC a cI cC Fa Aa) s.heap.size (wC a cI cC F9 A9) r0) ([.ref (a 0)] : List Value).toArray s 0 0 (va_A (wC a cI cC Fa Aa) s.heap.size)) (F0 m 51 ls []) := by
    intro n
    induction n with
    | zero => intro x1 x2 x3 x4 F A H locs ls hl hP hD hS hf; cases hf
    | succ n ih =>
      intro x1 x2 x3 x4 F A H locs ls hl hP hD hS hf
      rw [f_C_constant_L51] at hf
      refine lv_iload hx hb d_C_constant_51 (lv_at hl 4 rfl) ?_
      refine lv_iconst (v := 4) hx hb d_C_constant_53 (by decide) ?_
      refine lv_icmp_ge (tgt := 88) hx hb d_C_constant_54 (by decide) (fun h54_5 => ?_) (fun h54_5 => ?_)
      · rw [if_pos h54_5] at hf
        have hl : lv_has ls 5 [(0, .ref (a 0)), (1, .int x1), (2, .int x2), (3, .int x3), (4, .int x4)] := lv_sub hl [0, 1, 2, 3, 4] rfl
        exact J88 x1 x2 x3 x4 F A _ _ _ hl hP hD hS hf
      · rw [if_neg h54_5] at hf
        refine lv_aload_n hx hb d_C_constant_57 rfl (lv_at hl 0 rfl) ?_
        have hP : va_P (dC, dI) vC (wC a cI cC F A) H := hP
        have hD : va_D (va_A (wC a cI cC Fa Aa) s.heap.size) (wC a cI cC F A) := hD
        obtain ⟨r7, F7, A7, hc, hf⟩ := ra_bi_some hf
        refine cc_calli (va_runV (As := []) (rest := []) ⟨hx, hb, hml, hown, hts⟩ (k_C_next l dC dI a cI cC H.size F A  r7 F7 A7 hc) (cw_V 0 hts mw_155 mw_157 ms_C_next mw_3 mw_158 rfl rfl rfl hd_C_next ⟨Nat.le_of_ble_eq_true rfl, Nat.le_of_ble_eq_true rfl⟩) (cc_preV hK hP hD rfl (q0 := 0) rfl) rfl rfl hl.1 rfl (lv_room (Nat.le_of_ble_eq_true rfl)) d_C_constant_58 ⟨Nat.zero_le _, Nat.zero_le _⟩) hD hS hA (fun H locs hP hD hS => ?_)
        refine cc_calls (va_runS (As := [.int r7]) (rest := []) ⟨hx, hb, hml, hown, hts⟩ (k_C_isDigit l r7 _ rfl) (cw_S 1 hts mw_181 mw_182 mw_3 mw_183 rfl rfl hd_C_isDigit ⟨Nat.le_of_ble_eq_true rfl, Nat.le_of_ble_eq_true rfl⟩) cc_preS rfl rfl hl.1 rfl (lv_room (Nat.le_of_ble_eq_true rfl)) d_C_constant_61 ⟨Nat.zero_le _, Nat.zero_le _⟩) ?_
        refine lv_if_eq (tgt := 88) hx hb d_C_constant_64 (by decide) (fun h64_8 => ?_) (fun h64_8 => ?_)
        · rw [if_pos h64_8] at hf
          have hl : lv_has ls 5 [(0, .ref (a 0)), (1, .int x1), (2, .int x2), (3, .int x3), (4, .int x4)] := lv_sub hl [0, 1, 2, 3, 4] rfl
          exact J88 x1 x2 x3 x4 F7 A7 _ _ _ hl hP hD hS hf
        · rw [if_neg h64_8] at hf
          refine lv_iload_n hx hb d_C_constant_67 rfl (lv_at hl 3 rfl) ?_
          refine lv_bipush (v := 10) hx hb d_C_constant_68 (by decide) ?_
          refine lv_imul hx hb d_C_constant_70 ?_
          refine lv_aload_n hx hb d_C_constant_71 rfl (lv_at hl 0 rfl) ?_
          have hP : va_P (dC, dI) vC (wC a cI cC F7 A7) H := hP
          have hD : va_D (va_A (wC a cI cC Fa Aa) s.heap.size) (wC a cI cC F7 A7) := hD
          obtain ⟨r9, F9, A9, hc, hf⟩ := ra_bi_some hf
          refine cc_calli (va_runV (As := []) (rest := [.int (x3 * (10 : Int32))]) ⟨hx, hb, hml, hown, hts⟩ (k_C_digit l dC dI a cI cC H.size F7 A7  r9 F9 A9 hc) (cw_V 0 hts mw_188 mw_190 ms_C_digit mw_3 mw_191 rfl rfl rfl hd_C_digit ⟨Nat.le_of_ble_eq_true rfl, Nat.le_of_ble_eq_true rfl⟩) (cc_preV hK hP hD rfl (q0 := 0) rfl) rfl rfl hl.1 rfl (lv_room (Nat.le_of_ble_eq_true rfl)) d_C_constant_72 ⟨Nat.zero_le _, Nat.zero_le _⟩) hD hS hA (fun H locs hP hD hS => ?_)
          refine lv_iadd hx hb d_C_constant_75 ?_
          refine lv_istore_n hx hb d_C_constant_76 rfl hl (by decide) rfl (fun ls hl => ?_)
          have hl : lv_has ls 5 [(3, .int ((x3 * (10 : Int32)) + r9)), (0, .ref (a 0)), (1, .int x1), (2, .int x2), (4, .int x4)] := hl
          refine lv_iload_n hx hb d_C_constant_77 rfl (lv_at hl 3 rfl) ?_
          refine lv_bipush (v := 10) hx hb d_C_constant_78 (by decide) ?_
          refine lv_imul hx hb d_C_constant_80 ?_
          refine lv_istore_n hx hb d_C_constant_81 rfl hl (by decide) rfl (fun ls hl => ?_)
          have hl : lv_has ls 5 [(2, .int (x2 * (10 : Int32))), (3, .int ((x3 * (10 : Int32)) + r9)), (0, .ref (a 0)), (1, .int x1), (4, .int x4)] := hl
          refine lv_iinc (k := 4) (v := (x4 + (1 : Int32))) hx hb d_C_constant_82 hl rfl (by rfl) (by decide) rfl (fun ls hl => ?_)
          have hl : lv_has ls 5 [(4, .int (x4 + (1 : Int32))), (2, .int (x2 * (10 : Int32))), (3, .int ((x3 * (10 : Int32)) + r9)), (0, .ref (a 0)), (1, .int x1)] := hl
          refine lv_goto (tgt := 51) hx hb d_C_constant_85 (by decide) ?_
          have hl : lv_has ls 5 [(0, .ref (a 0)), (1, .int x1), (2, .int (x2 * (10 : Int32))), (3, .int ((x3 * (10 : Int32)) + r9)), (4, .int (x4 + (1 : Int32)))] := lv_sub hl [3, 4, 1, 2, 0] rfl
          exact ih x1 (x2 * (10 : Int32)) ((x3 * (10 : Int32)) + r9) (x4 + (1 : Int32)) F9 A9 _ _ _ hl hP hD hS hf
  have J35 : ∀ (x1 : Int32) (x2 : Int32) (F : ST_F) (A : ST_A) (H : Heap) (locs : List Loc) (ls : Array Slot), lv_has ls 5 [(0, .ref (a 0)), (1, .int x1), (2, .int x2)] → va_P (dC, dI) vC (wC a cI cC F A) H → va_D (va_A (wC a cI cC Fa Aa) s.heap.size) (wC a cI cC F A) → va_S (va_A (wC a cI cC Fa Aa) s.heap.size) s.heap H locs → f_C_constant_J35 x1 x2 F A = some (r0, F9, A9) → W p l e (headSpec (Cond.code y_C_constant b_C_constant 5 (some .int) :: wA) ({ frames := 2, cells := 0, slots := 0, locals := 41 } : Room)).room s m ([.ref (a 0)] : List Value).toArray below meth c H locs 0 0 (MQ below (cc_Qi (dC, dI) vC [(cI, .int), (cC, .char)] (wC a cI cC Fa Aa) s.heap.size (wC a cI cC F9 A9) r0) ([.ref (a 0)] : List Value).toArray s 0 0 (va_A (wC a cI cC Fa Aa) s.heap.size)) (F0 m 35 ls []) := by
    intro x1 x2 F A H locs ls hl hP hD hS hf
    unfold f_C_constant_J35 at hf
    refine lv_iconst (v := 1) hx hb d_C_constant_35 (by decide) ?_
    refine lv_istore_n hx hb d_C_constant_36 rfl hl (by decide) rfl (fun ls hl => ?_)
    have hl : lv_has ls 5 [(2, .int (1 : Int32)), (0, .ref (a 0)), (1, .int x1)] := hl
    refine lv_iconst (v := 0) hx hb d_C_constant_37 (by decide) ?_
    refine lv_istore_n hx hb d_C_constant_38 rfl hl (by decide) rfl (fun ls hl => ?_)
    have hl : lv_has ls 5 [(3, .int (0 : Int32)), (2, .int (1 : Int32)), (0, .ref (a 0)), (1, .int x1)] := hl
    refine lv_aload_n hx hb d_C_constant_39 rfl (lv_at hl 2 rfl) ?_
    refine lv_bipush (v := 46) hx hb d_C_constant_40 (by decide) ?_
    have hP : va_P (dC, dI) vC (wC a cI cC F A) H := hP
    have hD : va_D (va_A (wC a cI cC Fa Aa) s.heap.size) (wC a cI cC F A) := hD
    obtain ⟨r2, F2, A2, hc, hf⟩ := ra_bi_some hf
    refine cc_calli (va_runV (As := [.int (46 : Int32)]) (rest := []) ⟨hx, hb, hml, hown, hts⟩ (k_C_takes l dC dI a cI cC H.size F A (46 : Int32) r2 F2 A2 hc) (cw_V 1 hts mw_177 mw_179 ms_C_takes mw_3 mw_180 rfl rfl rfl hd_C_takes ⟨Nat.le_of_ble_eq_true rfl, Nat.le_of_ble_eq_true rfl⟩) (cc_preV hK hP hD rfl (q0 := 0) rfl) rfl rfl hl.1 rfl (lv_room (Nat.le_of_ble_eq_true rfl)) d_C_constant_42 ⟨Nat.zero_le _, Nat.zero_le _⟩) hD hS hA (fun H locs hP hD hS => ?_)
    refine lv_if_eq (tgt := 95) hx hb d_C_constant_45 (by decide) (fun h45_3 => ?_) (fun h45_3 => ?_)
    · rw [if_pos h45_3] at hf
      have hl : lv_has ls 5 [(0, .ref (a 0)), (1, .int x1), (2, .int (1 : Int32)), (3, .int (0 : Int32))] := lv_sub hl [2, 3, 1, 0] rfl
      exact J95 x1 (1 : Int32) (0 : Int32) F2 A2 _ _ _ hl hP hD hS hf
    · rw [if_neg h45_3] at hf
      refine lv_iconst (v := 0) hx hb d_C_constant_48 (by decide) ?_
      refine lv_istore hx hb d_C_constant_49 hl (by decide) rfl (fun ls hl => ?_)
      have hl : lv_has ls 5 [(4, .int (0 : Int32)), (3, .int (0 : Int32)), (2, .int (1 : Int32)), (0, .ref (a 0)), (1, .int x1)] := hl
      have hl : lv_has ls 5 [(0, .ref (a 0)), (1, .int x1), (2, .int (1 : Int32)), (3, .int (0 : Int32)), (4, .int (0 : Int32))] := lv_sub hl [3, 4, 2, 1, 0] rfl
      exact L51 400 x1 (1 : Int32) (0 : Int32) (0 : Int32) F2 A2 _ _ _ hl hP hD hS hf
  have L4 : ∀ (n : Nat) (x1 : Int32) (x2 : Int32) (F : ST_F) (A : ST_A) (H : Heap) (locs : List Loc) (ls : Array Slot), lv_has ls 5 [(0, .ref (a 0)), (1, .int x1), (2, .int x2)] → va_P (dC, dI) vC (wC a cI cC F A) H → va_D (va_A (wC a cI cC Fa Aa) s.heap.size) (wC a cI cC F A) → va_S (va_A (wC a cI cC Fa Aa) s.heap.size) s.heap H locs → f_C_constant_L4 n x1 x2 F A = some (r0, F9, A9) → W p l e (headSpec (Cond.code y_C_constant b_C_constant 5 (some .int) :: wA) ({ frames := 2, cells := 0, slots := 0, locals := 41 } : Room)).room s m ([.ref (a 0)] : List Value).toArray below meth c H locs 0 0 (MQ below (cc_Qi (dC, dI) vC [(cI, .int), (cC, .char)] (wC a cI cC Fa Aa) s.heap.size (wC a cI cC F9 A9) r0) ([.ref (a 0)] : List Value).toArray s 0 0 (va_A (wC a cI cC Fa Aa) s.heap.size)) (F0 m 4 ls []) := by
    intro n
    induction n with
    | zero => intro x1 x2 F A H locs ls hl hP hD hS hf; cases hf
    | succ n ih =>
      intro x1 x2 F A H locs ls hl hP hD hS hf
      rw [f_C_constant_L4] at hf
      refine lv_iload_n hx hb d_C_constant_4 rfl (lv_at hl 2 rfl) ?_
      refine lv_iconst (v := 4) hx hb d_C_constant_5 (by decide) ?_
      refine lv_icmp_ge (tgt := 35) hx hb d_C_constant_6 (by decide) (fun h6_1 => ?_) (fun h6_1 => ?_)
      · rw [if_pos h6_1] at hf
        have hl : lv_has ls 5 [(0, .ref (a 0)), (1, .int x1), (2, .int x2)] := lv_sub hl [0, 1, 2] rfl
        exact J35 x1 x2 F A _ _ _ hl hP hD hS hf
      · rw [if_neg h6_1] at hf
        refine lv_aload_n hx hb d_C_constant_9 rfl (lv_at hl 0 rfl) ?_
        have hP : va_P (dC, dI) vC (wC a cI cC F A) H := hP
        have hD : va_D (va_A (wC a cI cC Fa Aa) s.heap.size) (wC a cI cC F A) := hD
        obtain ⟨r10, F10, A10, hc, hf⟩ := ra_bi_some hf
        refine cc_calli (va_runV (As := []) (rest := []) ⟨hx, hb, hml, hown, hts⟩ (k_C_next l dC dI a cI cC H.size F A  r10 F10 A10 hc) (cw_V 0 hts mw_155 mw_157 ms_C_next mw_3 mw_158 rfl rfl rfl hd_C_next ⟨Nat.le_of_ble_eq_true rfl, Nat.le_of_ble_eq_true rfl⟩) (cc_preV hK hP hD rfl (q0 := 0) rfl) rfl rfl hl.1 rfl (lv_room (Nat.le_of_ble_eq_true rfl)) d_C_constant_10 ⟨Nat.zero_le _, Nat.zero_le _⟩) hD hS hA (fun H locs hP hD hS => ?_)
        refine cc_calls (va_runS (As := [.int r10]) (rest := []) ⟨hx, hb, hml, hown, hts⟩ (k_C_isDigit l r10 _ rfl) (cw_S 1 hts mw_181 mw_182 mw_3 mw_183 rfl rfl hd_C_isDigit ⟨Nat.le_of_ble_eq_true rfl, Nat.le_of_ble_eq_true rfl⟩) cc_preS rfl rfl hl.1 rfl (lv_room (Nat.le_of_ble_eq_true rfl)) d_C_constant_13 ⟨Nat.zero_le _, Nat.zero_le _⟩) ?_
        refine lv_if_eq (tgt := 35) hx hb d_C_constant_16 (by decide) (fun h16_11 => ?_) (fun h16_11 => ?_)
        · rw [if_pos h16_11] at hf
          have hl : lv_has ls 5 [(0, .ref (a 0)), (1, .int x1), (2, .int x2)] := lv_sub hl [0, 1, 2] rfl
          exact J35 x1 x2 F10 A10 _ _ _ hl hP hD hS hf
        · rw [if_neg h16_11] at hf
          refine lv_iload_n hx hb d_C_constant_19 rfl (lv_at hl 1 rfl) ?_
          refine lv_bipush (v := 10) hx hb d_C_constant_20 (by decide) ?_
          refine lv_imul hx hb d_C_constant_22 ?_
          refine lv_aload_n hx hb d_C_constant_23 rfl (lv_at hl 0 rfl) ?_
          have hP : va_P (dC, dI) vC (wC a cI cC F10 A10) H := hP
          have hD : va_D (va_A (wC a cI cC Fa Aa) s.heap.size) (wC a cI cC F10 A10) := hD
          obtain ⟨r12, F12, A12, hc, hf⟩ := ra_bi_some hf
          refine cc_calli (va_runV (As := []) (rest := [.int (x1 * (10 : Int32))]) ⟨hx, hb, hml, hown, hts⟩ (k_C_digit l dC dI a cI cC H.size F10 A10  r12 F12 A12 hc) (cw_V 0 hts mw_188 mw_190 ms_C_digit mw_3 mw_191 rfl rfl rfl hd_C_digit ⟨Nat.le_of_ble_eq_true rfl, Nat.le_of_ble_eq_true rfl⟩) (cc_preV hK hP hD rfl (q0 := 0) rfl) rfl rfl hl.1 rfl (lv_room (Nat.le_of_ble_eq_true rfl)) d_C_constant_24 ⟨Nat.zero_le _, Nat.zero_le _⟩) hD hS hA (fun H locs hP hD hS => ?_)
          refine lv_iadd hx hb d_C_constant_27 ?_
          refine lv_istore_n hx hb d_C_constant_28 rfl hl (by decide) rfl (fun ls hl => ?_)
          have hl : lv_has ls 5 [(1, .int ((x1 * (10 : Int32)) + r12)), (0, .ref (a 0)), (2, .int x2)] := hl
          refine lv_iinc (k := 2) (v := (x2 + (1 : Int32))) hx hb d_C_constant_29 hl rfl (by rfl) (by decide) rfl (fun ls hl => ?_)
          have hl : lv_has ls 5 [(2, .int (x2 + (1 : Int32))), (1, .int ((x1 * (10 : Int32)) + r12)), (0, .ref (a 0))] := hl
          refine lv_goto (tgt := 4) hx hb d_C_constant_32 (by decide) ?_
          have hl : lv_has ls 5 [(0, .ref (a 0)), (1, .int ((x1 * (10 : Int32)) + r12)), (2, .int (x2 + (1 : Int32)))] := lv_sub hl [2, 1, 0] rfl
          exact ih ((x1 * (10 : Int32)) + r12) (x2 + (1 : Int32)) F12 A12 _ _ _ hl hP hD hS hf
  rw [lg_entry_eq]
  generalize (lg_sl (([.ref (a 0)] : List Value)) ++ List.replicate (5 - (lg_sl (([.ref (a 0)] : List Value))).length) Slot.unset).toArray = ls at hl ⊢
  have hl : lv_has ls 5 [(0, .ref (a 0))] := hl
  unfold f_C_constant at hf
  refine lv_iconst (v := 0) hx hb d_C_constant_0 (by decide) ?_
  refine lv_istore_n hx hb d_C_constant_1 rfl hl (by decide) rfl (fun ls hl => ?_)
  have hl : lv_has ls 5 [(1, .int (0 : Int32)), (0, .ref (a 0))] := hl
  refine lv_iconst (v := 0) hx hb d_C_constant_2 (by decide) ?_
  refine lv_istore_n hx hb d_C_constant_3 rfl hl (by decide) rfl (fun ls hl => ?_)
  have hl : lv_has ls 5 [(2, .int (0 : Int32)), (1, .int (0 : Int32)), (0, .ref (a 0))] := hl
  have hl : lv_has ls 5 [(0, .ref (a 0)), (1, .int (0 : Int32)), (2, .int (0 : Int32))] := lv_sub hl [2, 1, 0] rfl
  exact L4 400 (0 : Int32) (0 : Int32) Fa Aa _ _ _ hl hP hD hS hf
def f_C_picked_L81 : Nat → Int32 → Int32 → Int32 → Int32 → ST_F → ST_A → Option (Int32 × ST_F × ST_A)
  | 0, _, _, _, _, _, _ => none
  | n + 1, x1, x2, x3, x4, F, A => if x2 ≤ x4 then (some (x3, (upd F 1 ((F 1) + x2)), A)) else (ra_g ((F 1) + x4) 160 (if (((A 1) ((F 1) + x4).toNatClampNeg) - (120 : Int32)) < (f_V_typeIn x1) then (f_C_picked_L81 n x1 x2 (f_V_withNumber x3 x4 (f_V_number x1 (((A 1) ((F 1) + x4).toNatClampNeg) - (120 : Int32)))) (x4 + (1 : Int32)) F A) else (some ((-1 : Int32), F, A))))
def f_C_picked_J59 (x1 : Int32) (x2 : Int32) (F : ST_F) (A : ST_A) : Option (Int32 × ST_F × ST_A) := if x2 = 0 then (some ((-1 : Int32), F, A)) else (if (f_V_typeIn x1) = (4 : Int32) then (some ((-1 : Int32), F, A)) else (f_C_picked_L81 400 x1 x2 (f_V_ofType x2) (0 : Int32) F A))
def f_C_picked_L18 : Nat → Int32 → Int32 → ST_F → ST_A → Option (Int32 × ST_F × ST_A)
  | 0, _, _, _, _ => none
  | n + 1, x1, x2, F, A => if (3 : Int32) ≤ x2 then (f_C_picked_J59 x1 x2 F A) else (if (F 0) ≤ ((F 1) + x2) then (f_C_picked_J59 x1 x2 F A) else (ra_g ((F 1) + x2) 160 (if (f_C_isPlace ((A 1) ((F 1) + x2).toNatClampNeg)) = 0 then (f_C_picked_J59 x1 x2 F A) else (f_C_picked_L18 n x1 (x2 + (1 : Int32)) F A))))
def f_C_picked (u1 : Int32) (Fa : ST_F) (Aa : ST_A) : Option (Int32 × ST_F × ST_A) := if u1 = (-1 : Int32) then (some (u1, Fa, Aa)) else (ra_bi (f_C_takes (46 : Int32) Fa Aa) (fun r2 F2 A2 => if r2 = 0 then (some (u1, F2, A2)) else (f_C_picked_L18 400 u1 (0 : Int32) F2 A2)))
set_option maxHeartbeats 4000000 in
set_option maxRecDepth 100000 in
theorem k_C_picked (l : Launch) (dC : Nat → ClassId) (dI : Nat → Nat → Nat) (a : Nat → Nat) (cI cC : ClassId) (sz : Nat) (Fa : ST_F) (Aa : ST_A) (u1 : Int32) (r0 : Int32) (F9 : ST_F) (A9 : ST_A) (hf : f_C_picked u1 Fa Aa = some (r0, F9, A9)) : cc_MetI l y_C_picked (Cond.code y_C_picked b_C_picked 6 (some .int) :: wA) ({ frames := 2, cells := 0, slots := 0, locals := 41 } : Room) (dC, dI) vC [(cI, .int), (cC, .char)] ([.ref (a 0), .int u1] : List Value) (wC a cI cC Fa Aa) sz (wC a cI cC F9 A9) r0 := by
  refine Met.ofW (cc := b_C_picked) (maxL := 6) (ret := (some .int)) (by decide) rfl ?_
  intro p e s m args below meth c s₁ B hml hv
  obtain ⟨rfl, hsz, hP, hK, hD0⟩ := hv
  have hx := B.exec
  have hb := B.bytes
  have hr := B.returns
  have hts := fun w h => atoms_spec (ws := (Cond.code y_C_picked b_C_picked 6 (some .int) :: wA)) B.pre w (List.mem_cons_of_mem _ h)
  have hown : s.vm.findClass R_C = some m.cls := findClass_of_methodNamed B.named
  have hlocks := B.notSynchronized
  subst hsz
  have hD := hD0.self (sz := s.heap.size)
  have hA : ∀ q : Nat, s.heap.size ≤ q → va_A (wC a cI cC Fa Aa) s.heap.size q := fun q h => Or.inr h
  have hS : va_S (va_A (wC a cI cC Fa Aa) s.heap.size) s.heap s.heap [] := va_S.rf
  have hl := lv_entry (([.ref (a 0), .int u1] : List Value)) (n := 6) (Nat.le_of_ble_eq_true rfl)
  have L81 : ∀ (n : Nat) (x1 : Int32) (x2 : Int32) (x3 : Int32) (x4 : Int32) (F : ST_F) (A : ST_A) (H : Heap) (locs : List Loc) (ls : Array Slot), lv_has ls 6 [(0, .ref (a 0)), (1, .int x1), (2, .int x2), (3, .int x3), (4, .int x4)] → va_P (dC, dI) vC (wC a cI cC F A) H → va_D (va_A (wC a cI cC Fa Aa) s.heap.size) (wC a cI cC F A) → va_S (va_A (wC a cI cC Fa Aa) s.heap.size) s.heap H locs → f_C_picked_L81 n x1 x2 x3 x4 F A = some (r0, F9, A9) → W p l e (headSpec (Cond.code y_C_picked b_C_picked 6 (some .int) :: wA) ({ frames := 2, cells := 0, slots := 0, locals := 41 } : Room)).room s m ([.ref (a 0), .int u1] : List Value).toArray below meth c H locs 0 0 (MQ below (cc_Qi (dC, dI) vC [(cI, .int), (cC, .char)] (wC a cI cC Fa Aa) s.heap.size (wC a cI cC F9 A9) r0) ([.ref (a 0), .int u1] : List Value).toArray s 0 0 (va_A (wC a cI cC Fa Aa) s.heap.size)) (F0 m 81 ls []) := by
    intro n
    induction n with
    | zero => intro x1 x2 x3 x4 F A H locs ls hl hP hD hS hf; cases hf
    | succ n ih =>
      intro x1 x2 x3 x4 F A H locs ls hl hP hD hS hf
      rw [f_C_picked_L81] at hf
      refine lv_iload hx hb d_C_picked_81 (lv_at hl 4 rfl) ?_
      refine lv_iload_n hx hb d_C_picked_83 rfl (lv_at hl 2 rfl) ?_
      refine lv_icmp_ge (tgt := 134) hx hb d_C_picked_84 (by decide) (fun h84_7 => ?_) (fun h84_7 => ?_)
      · rw [if_pos h84_7] at hf
        refine lv_aload_n hx hb d_C_picked_134 rfl (lv_at hl 0 rfl) ?_
        refine lv_dup hx hb d_C_picked_135 rfl ?_
        refine va_get (D := (dC, dI)) (ci := 1) (v := .int (F 1)) (C := R_C) (T := T_C) (N := 5) hx hb hts in_C hown hK hP 0 rfl rfl 3 (by decide) (hts _ mw_78) (fun _ h9 => h9) rfl d_C_picked_136 ?_
        refine lv_iload_n hx hb d_C_picked_139 rfl (lv_at hl 2 rfl) ?_
        refine lv_iadd hx hb d_C_picked_140 ?_
        refine va_put (D := (dC, dI)) (ci := 1) (v := .int ((F 1) + x2)) (ty := .int) (C := R_C) (T := T_C) (N := 5) hx hb hts in_C ty_C ty_C_ok nm_C hown hK hP hD hS 0 rfl rfl 3 (by decide) (hts _ mw_78) (fun _ h9 => h9) rfl (by decide +kernel) rfl rfl (Nat.le_of_ble_eq_true rfl) d_C_picked_141 (fun H locs hP hD hS => ?_)
        have hP : va_P (dC, dI) vC [((a 0), .inr (1, [.ref (a 1), .ref (a 2), .int (F 0), .int ((F 1) + x2), .ref (a 3)])), ((a 1), .inl (cI, 26, .inl (A 0))), ((a 2), .inl (cC, 160, .inl (A 1))), ((a 3), .inr (0, [.ref (a 4), .ref (a 5), .ref (a 6), .ref (a 7), .ref (a 8), .int (F 2), .int (F 3)])), ((a 4), .inl (cI, 100, .inl (A 2))), ((a 5), .inl (cI, 100, .inl (A 3))), ((a 6), .inl (cI, 100, .inl (A 4))), ((a 7), .inl (cI, 3, .inl (A 5))), ((a 8), .inl (cI, 26, .inl (A 6)))] H := hP
        have hD : va_D (va_A (wC a cI cC Fa Aa) s.heap.size) [((a 0), .inr (1, [.ref (a 1), .ref (a 2), .int (F 0), .int ((F 1) + x2), .ref (a 3)])), ((a 1), .inl (cI, 26, .inl (A 0))), ((a 2), .inl (cC, 160, .inl (A 1))), ((a 3), .inr (0, [.ref (a 4), .ref (a 5), .ref (a 6), .ref (a 7), .ref (a 8), .int (F 2), .int (F 3)])), ((a 4), .inl (cI, 100, .inl (A 2))), ((a 5), .inl (cI, 100, .inl (A 3))), ((a 6), .inl (cI, 100, .inl (A 4))), ((a 7), .inl (cI, 3, .inl (A 5))), ((a 8), .inl (cI, 26, .inl (A 6)))] := hD
        refine lv_iload_n hx hb d_C_picked_144 rfl (lv_at hl 3 rfl) ?_
        cases hf
        exact W.iret hx hb hr (fun t ht hW => ⟨⟨_, (), rfl, rfl, by rw [ht]; exact hP, va_K.moved hW.alike hK, hD⟩, hS.F ht⟩) hS.2.2 d_C_picked_145
      · rw [if_neg h84_7] at hf
        refine lv_aload_n hx hb d_C_picked_87 rfl (lv_at hl 0 rfl) ?_
        refine va_get (D := (dC, dI)) (ci := 1) (v := .ref (a 2)) (C := R_C) (T := T_C) (N := 5) hx hb hts in_C hown hK hP 0 rfl rfl 1 (by decide) (hts _ mw_76) (fun _ h9 => h9) rfl d_C_picked_88 ?_
        refine lv_aload_n hx hb d_C_picked_91 rfl (lv_at hl 0 rfl) ?_
        refine va_get (D := (dC, dI)) (ci := 1) (v := .int (F 1)) (C := R_C) (T := T_C) (N := 5) hx hb hts in_C hown hK hP 0 rfl rfl 3 (by decide) (hts _ mw_78) (fun _ h9 => h9) rfl d_C_picked_92 ?_
        refine lv_iload hx hb d_C_picked_95 (lv_at hl 4 rfl) ?_
        refine lv_iadd hx hb d_C_picked_97 ?_
        obtain ⟨hi, hf⟩ := ra_g_some hf
        refine va_cald hx hb hK hP 2 1 rfl rfl hi d_C_picked_98 ?_
        refine lv_bipush (v := 120) hx hb d_C_picked_99 (by decide) ?_
        refine lv_isub hx hb d_C_picked_101 ?_
        refine lv_istore hx hb d_C_picked_102 hl (by decide) rfl (fun ls hl => ?_)
        have hl : lv_has ls 6 [(5, .int (((A 1) ((F 1) + x4).toNatClampNeg) - (120 : Int32))), (0, .ref (a 0)), (1, .int x1), (2, .int x2), (3, .int x3), (4, .int x4)] := hl
        refine lv_iload hx hb d_C_picked_104 (lv_at hl 0 rfl) ?_
        refine lv_iload_n hx hb d_C_picked_106 rfl (lv_at hl 2 rfl) ?_
        refine cc_calls (va_runS (As := [.int x1]) (rest := [.int (((A 1) ((F 1) + x4).toNatClampNeg) - (120 : Int32))]) ⟨hx, hb, hml, hown, hts⟩ (k_V_typeIn l x1 _ rfl) (cw_S 1 hts mw_223 mw_224 mw_11 mw_225 rfl rfl hd_V_typeIn ⟨Nat.le_of_ble_eq_true rfl, Nat.le_of_ble_eq_true rfl⟩) cc_preS rfl rfl hl.1 rfl (lv_room (Nat.le_of_ble_eq_true rfl)) d_C_picked_107 ⟨Nat.zero_le _, Nat.zero_le _⟩) ?_
        refine lv_icmp_lt (tgt := 115) hx hb d_C_picked_110 (by decide) (fun h110_8 => ?_) (fun h110_8 => ?_)
        · rw [if_pos h110_8] at hf
          refine lv_iload_n hx hb d_C_picked_115 rfl (lv_at hl 4 rfl) ?_
          refine lv_iload hx hb d_C_picked_116 (lv_at hl 5 rfl) ?_
          refine lv_iload_n hx hb d_C_picked_118 rfl (lv_at hl 2 rfl) ?_
          refine lv_iload hx hb d_C_picked_119 (lv_at hl 0 rfl) ?_
          refine cc_calls (va_runS (As := [.int x1, .int (((A 1) ((F 1) + x4).toNatClampNeg) - (120 : Int32))]) (rest := [.int x4, .int x3]) ⟨hx, hb, hml, hown, hts⟩ (k_V_number l x1 (((A 1) ((F 1) + x4).toNatClampNeg) - (120 : Int32)) _ rfl) (cw_S 2 hts mw_226 mw_227 mw_11 mw_228 rfl rfl hd_V_number ⟨Nat.le_of_ble_eq_true rfl, Nat.le_of_ble_eq_true rfl⟩) cc_preS rfl rfl hl.1 rfl (lv_room (Nat.le_of_ble_eq_true rfl)) d_C_picked_121 ⟨Nat.zero_le _, Nat.zero_le _⟩) ?_
          refine cc_calls (va_runS (As := [.int x3, .int x4, .int (f_V_number x1 (((A 1) ((F 1) + x4).toNatClampNeg) - (120 : Int32)))]) (rest := []) ⟨hx, hb, hml, hown, hts⟩ (k_V_withNumber l x3 x4 (f_V_number x1 (((A 1) ((F 1) + x4).toNatClampNeg) - (120 : Int32))) _ rfl) (cw_S 3 hts mw_200 mw_201 mw_11 mw_202 rfl rfl hd_V_withNumber ⟨Nat.le_of_ble_eq_true rfl, Nat.le_of_ble_eq_true rfl⟩) cc_preS rfl rfl hl.1 rfl (lv_room (Nat.le_of_ble_eq_true rfl)) d_C_picked_124 ⟨Nat.zero_le _, Nat.zero_le _⟩) ?_
          refine lv_istore_n hx hb d_C_picked_127 rfl hl (by decide) rfl (fun ls hl => ?_)
          have hl : lv_has ls 6 [(3, .int (f_V_withNumber x3 x4 (f_V_number x1 (((A 1) ((F 1) + x4).toNatClampNeg) - (120 : Int32))))), (5, .int (((A 1) ((F 1) + x4).toNatClampNeg) - (120 : Int32))), (0, .ref (a 0)), (1, .int x1), (2, .int x2), (4, .int x4)] := hl
          refine lv_iinc (k := 5) (v := (x4 + (1 : Int32))) hx hb d_C_picked_128 hl rfl (by rfl) (by decide) rfl (fun ls hl => ?_)
          have hl : lv_has ls 6 [(4, .int (x4 + (1 : Int32))), (3, .int (f_V_withNumber x3 x4 (f_V_number x1 (((A 1) ((F 1) + x4).toNatClampNeg) - (120 : Int32))))), (5, .int (((A 1) ((F 1) + x4).toNatClampNeg) - (120 : Int32))), (0, .ref (a 0)), (1, .int x1), (2, .int x2)] := hl
          refine lv_goto (tgt := 81) hx hb d_C_picked_131 (by decide) ?_
          have hl : lv_has ls 6 [(0, .ref (a 0)), (1, .int x1), (2, .int x2), (3, .int (f_V_withNumber x3 x4 (f_V_number x1 (((A 1) ((F 1) + x4).toNatClampNeg) - (120 : Int32))))), (4, .int (x4 + (1 : Int32)))] := lv_sub hl [3, 4, 5, 1, 0] rfl
          exact ih x1 x2 (f_V_withNumber x3 x4 (f_V_number x1 (((A 1) ((F 1) + x4).toNatClampNeg) - (120 : Int32)))) (x4 + (1 : Int32)) F A _ _ _ hl hP hD hS hf
        · rw [if_neg h110_8] at hf
          refine lv_iconst (v := -1) hx hb d_C_picked_113 (by decide) ?_
          cases hf
          exact W.iret hx hb hr (fun t ht hW => ⟨⟨_, (), rfl, rfl, by rw [ht]; exact hP, va_K.moved hW.alike hK, hD⟩, hS.F ht⟩) hS.2.2 d_C_picked_114
  have J59 : ∀ (x1 : Int32) (x2 : Int32) (F : ST_F) (A : ST_A) (H : Heap) (locs : List Loc) (ls : Array Slot), lv_has ls 6 [(0, .ref (a 0)), (1, .int x1), (2, .int x2)] → va_P (dC, dI) vC (wC a cI cC F A) H → va_D (va_A (wC a cI cC Fa Aa) s.heap.size) (wC a cI cC F A) → va_S (va_A (wC a cI cC Fa Aa) s.heap.size) s.heap H locs → f_C_picked_J59 x1 x2 F A = some (r0, F9, A9) → W p l e (headSpec (Cond.code y_C_picked b_C_picked 6 (some .int) :: wA) ({ frames := 2, cells := 0, slots := 0, locals := 41 } : Room)).room s m ([.ref (a 0), .int u1] : List Value).toArray below meth c H locs 0 0 (MQ below (cc_Qi (dC, dI) vC [(cI, .int), (cC, .char)] (wC a cI cC Fa Aa) s.heap.size (wC a cI cC F9 A9) r0) ([.ref (a 0), .int u1] : List Value).toArray s 0 0 (va_A (wC a cI cC Fa Aa) s.heap.size)) (F0 m 59 ls []) := by
    intro x1 x2 F A H locs ls hl hP hD hS hf
    unfold f_C_picked_J59 at hf
    refine lv_iload_n hx hb d_C_picked_59 rfl (lv_at hl 2 rfl) ?_
    refine lv_if_eq (tgt := 71) hx hb d_C_picked_60 (by decide) (fun h60_5 => ?_) (fun h60_5 => ?_)
    · rw [if_pos h60_5] at hf
      refine lv_iconst (v := -1) hx hb d_C_picked_71 (by decide) ?_
      cases hf
      exact W.iret hx hb hr (fun t ht hW => ⟨⟨_, (), rfl, rfl, by rw [ht]; exact hP, va_K.moved hW.alike hK, hD⟩, hS.F ht⟩) hS.2.2 d_C_picked_72
    · rw [if_neg h60_5] at hf
      refine lv_iload_n hx hb d_C_picked_63 rfl (lv_at hl 1 rfl) ?_
      refine cc_calls (va_runS (As := [.int x1]) (rest := []) ⟨hx, hb, hml, hown, hts⟩ (k_V_typeIn l x1 _ rfl) (cw_S 1 hts mw_223 mw_224 mw_11 mw_225 rfl rfl hd_V_typeIn ⟨Nat.le_of_ble_eq_true rfl, Nat.le_of_ble_eq_true rfl⟩) cc_preS rfl rfl hl.1 rfl (lv_room (Nat.le_of_ble_eq_true rfl)) d_C_picked_64 ⟨Nat.zero_le _, Nat.zero_le _⟩) ?_
      refine lv_iconst (v := 4) hx hb d_C_picked_67 (by decide) ?_
      refine lv_icmp_ne (tgt := 73) hx hb d_C_picked_68 (by decide) (fun h68_6 => ?_) (fun h68_6 => ?_)
      · rw [if_neg h68_6] at hf
        refine lv_iload_n hx hb d_C_picked_73 rfl (lv_at hl 2 rfl) ?_
        refine cc_calls (va_runS (As := [.int x2]) (rest := []) ⟨hx, hb, hml, hown, hts⟩ (k_V_ofType l x2 _ rfl) (cw_S 1 hts mw_193 mw_194 mw_11 mw_195 rfl rfl hd_V_ofType ⟨Nat.le_of_ble_eq_true rfl, Nat.le_of_ble_eq_true rfl⟩) cc_preS rfl rfl hl.1 rfl (lv_room (Nat.le_of_ble_eq_true rfl)) d_C_picked_74 ⟨Nat.zero_le _, Nat.zero_le _⟩) ?_
        refine lv_istore_n hx hb d_C_picked_77 rfl hl (by decide) rfl (fun ls hl => ?_)
        have hl : lv_has ls 6 [(3, .int (f_V_ofType x2)), (0, .ref (a 0)), (1, .int x1), (2, .int x2)] := hl
        refine lv_iconst (v := 0) hx hb d_C_picked_78 (by decide) ?_
        refine lv_istore hx hb d_C_picked_79 hl (by decide) rfl (fun ls hl => ?_)
        have hl : lv_has ls 6 [(4, .int (0 : Int32)), (3, .int (f_V_ofType x2)), (0, .ref (a 0)), (1, .int x1), (2, .int x2)] := hl
        have hl : lv_has ls 6 [(0, .ref (a 0)), (1, .int x1), (2, .int x2), (3, .int (f_V_ofType x2)), (4, .int (0 : Int32))] := lv_sub hl [2, 3, 4, 1, 0] rfl
        exact L81 400 x1 x2 (f_V_ofType x2) (0 : Int32) F A _ _ _ hl hP hD hS hf
      · rw [if_pos h68_6] at hf
        refine lv_iconst (v := -1) hx hb d_C_picked_71 (by decide) ?_
        cases hf
        exact W.iret hx hb hr (fun t ht hW => ⟨⟨_, (), rfl, rfl, by rw [ht]; exact hP, va_K.moved hW.alike hK, hD⟩, hS.F ht⟩) hS.2.2 d_C_picked_72
  have L18 : ∀ (n : Nat) (x1 : Int32) (x2 : Int32) (F : ST_F) (A : ST_A) (H : Heap) (locs : List Loc) (ls : Array Slot), lv_has ls 6 [(0, .ref (a 0)), (1, .int x1), (2, .int x2)] → va_P (dC, dI) vC (wC a cI cC F A) H → va_D (va_A (wC a cI cC Fa Aa) s.heap.size) (wC a cI cC F A) → va_S (va_A (wC a cI cC Fa Aa) s.heap.size) s.heap H locs → f_C_picked_L18 n x1 x2 F A = some (r0, F9, A9) → W p l e (headSpec (Cond.code y_C_picked b_C_picked 6 (some .int) :: wA) ({ frames := 2, cells := 0, slots := 0, locals := 41 } : Room)).room s m ([.ref (a 0), .int u1] : List Value).toArray below meth c H locs 0 0 (MQ below (cc_Qi (dC, dI) vC [(cI, .int), (cC, .char)] (wC a cI cC Fa Aa) s.heap.size (wC a cI cC F9 A9) r0) ([.ref (a 0), .int u1] : List Value).toArray s 0 0 (va_A (wC a cI cC Fa Aa) s.heap.size)) (F0 m 18 ls []) := by
    intro n
    induction n with
    | zero => intro x1 x2 F A H locs ls hl hP hD hS hf; cases hf
    | succ n ih =>
      intro x1 x2 F A H locs ls hl hP hD hS hf
      rw [f_C_picked_L18] at hf
      refine lv_iload_n hx hb d_C_picked_18 rfl (lv_at hl 2 rfl) ?_
      refine lv_iconst (v := 3) hx hb d_C_picked_19 (by decide) ?_
      refine lv_icmp_ge (tgt := 59) hx hb d_C_picked_20 (by decide) (fun h20_4 => ?_) (fun h20_4 => ?_)
      · rw [if_pos h20_4] at hf
        have hl : lv_has ls 6 [(0, .ref (a 0)), (1, .int x1), (2, .int x2)] := lv_sub hl [0, 1, 2] rfl
        exact J59 x1 x2 F A _ _ _ hl hP hD hS hf
      · rw [if_neg h20_4] at hf
        refine lv_aload_n hx hb d_C_picked_23 rfl (lv_at hl 0 rfl) ?_
        refine va_get (D := (dC, dI)) (ci := 1) (v := .int (F 1)) (C := R_C) (T := T_C) (N := 5) hx hb hts in_C hown hK hP 0 rfl rfl 3 (by decide) (hts _ mw_78) (fun _ h9 => h9) rfl d_C_picked_24 ?_
        refine lv_iload_n hx hb d_C_picked_27 rfl (lv_at hl 2 rfl) ?_
        refine lv_iadd hx hb d_C_picked_28 ?_
        refine lv_aload_n hx hb d_C_picked_29 rfl (lv_at hl 0 rfl) ?_
        refine va_get (D := (dC, dI)) (ci := 1) (v := .int (F 0)) (C := R_C) (T := T_C) (N := 5) hx hb hts in_C hown hK hP 0 rfl rfl 2 (by decide) (hts _ mw_77) (fun _ h9 => h9) rfl d_C_picked_30 ?_
        refine lv_icmp_ge (tgt := 59) hx hb d_C_picked_33 (by decide) (fun h33_9 => ?_) (fun h33_9 => ?_)
        · rw [if_pos h33_9] at hf
          have hl : lv_has ls 6 [(0, .ref (a 0)), (1, .int x1), (2, .int x2)] := lv_sub hl [0, 1, 2] rfl
          exact J59 x1 x2 F A _ _ _ hl hP hD hS hf
        · rw [if_neg h33_9] at hf
          refine lv_aload_n hx hb d_C_picked_36 rfl (lv_at hl 0 rfl) ?_
          refine va_get (D := (dC, dI)) (ci := 1) (v := .ref (a 2)) (C := R_C) (T := T_C) (N := 5) hx hb hts in_C hown hK hP 0 rfl rfl 1 (by decide) (hts _ mw_76) (fun _ h9 => h9) rfl d_C_picked_37 ?_
          refine lv_aload_n hx hb d_C_picked_40 rfl (lv_at hl 0 rfl) ?_
          refine va_get (D := (dC, dI)) (ci := 1) (v := .int (F 1)) (C := R_C) (T := T_C) (N := 5) hx hb hts in_C hown hK hP 0 rfl rfl 3 (by decide) (hts _ mw_78) (fun _ h9 => h9) rfl d_C_picked_41 ?_
          refine lv_iload_n hx hb d_C_picked_44 rfl (lv_at hl 2 rfl) ?_
          refine lv_iadd hx hb d_C_picked_45 ?_
          obtain ⟨hi, hf⟩ := ra_g_some hf
          refine va_cald hx hb hK hP 2 1 rfl rfl hi d_C_picked_46 ?_
          refine cc_calls (va_runS (As := [.int ((A 1) ((F 1) + x2).toNatClampNeg)]) (rest := []) ⟨hx, hb, hml, hown, hts⟩ (k_C_isPlace l ((A 1) ((F 1) + x2).toNatClampNeg) _ rfl) (cw_S 1 hts mw_162 mw_163 mw_3 mw_164 rfl rfl hd_C_isPlace ⟨Nat.le_of_ble_eq_true rfl, Nat.le_of_ble_eq_true rfl⟩) cc_preS rfl rfl hl.1 rfl (lv_room (Nat.le_of_ble_eq_true rfl)) d_C_picked_47 ⟨Nat.zero_le _, Nat.zero_le _⟩) ?_
          refine lv_if_eq (tgt := 59) hx hb d_C_picked_50 (by decide) (fun h50_10 => ?_) (fun h50_10 => ?_)
          · rw [if_pos h50_10] at hf
            have hl : lv_has ls 6 [(0, .ref (a 0)), (1, .int x1), (2, .int x2)] := lv_sub hl [0, 1, 2] rfl
            exact J59 x1 x2 F A _ _ _ hl hP hD hS hf
          · rw [if_neg h50_10] at hf
            refine lv_iinc (k := 2) (v := (x2 + (1 : Int32))) hx hb d_C_picked_53 hl rfl (by rfl) (by decide) rfl (fun ls hl => ?_)
            have hl : lv_has ls 6 [(2, .int (x2 + (1 : Int32))), (0, .ref (a 0)), (1, .int x1)] := hl
            refine lv_goto (tgt := 18) hx hb d_C_picked_56 (by decide) ?_
            have hl : lv_has ls 6 [(0, .ref (a 0)), (1, .int x1), (2, .int (x2 + (1 : Int32)))] := lv_sub hl [1, 2, 0] rfl
            exact ih x1 (x2 + (1 : Int32)) F A _ _ _ hl hP hD hS hf
  rw [lg_entry_eq]
  generalize (lg_sl (([.ref (a 0), .int u1] : List Value)) ++ List.replicate (6 - (lg_sl (([.ref (a 0), .int u1] : List Value))).length) Slot.unset).toArray = ls at hl ⊢
  have hl : lv_has ls 6 [(0, .ref (a 0)), (1, .int u1)] := hl
  unfold f_C_picked at hf
  refine lv_iload_n hx hb d_C_picked_0 rfl (lv_at hl 1 rfl) ?_
  refine lv_iconst (v := -1) hx hb d_C_picked_1 (by decide) ?_
  refine lv_icmp_eq (tgt := 14) hx hb d_C_picked_2 (by decide) (fun h2_1 => ?_) (fun h2_1 => ?_)
  · rw [if_pos h2_1] at hf
    refine lv_iload_n hx hb d_C_picked_14 rfl (lv_at hl 1 rfl) ?_
    cases hf
    exact W.iret hx hb hr (fun t ht hW => ⟨⟨_, (), rfl, rfl, by rw [ht]; exact hP, va_K.moved hW.alike hK, hD⟩, hS.F ht⟩) hS.2.2 d_C_picked_15
  · rw [if_neg h2_1] at hf
    refine lv_aload_n hx hb d_C_picked_5 rfl (lv_at hl 0 rfl) ?_
    refine lv_bipush (v := 46) hx hb d_C_picked_6 (by decide) ?_
    have hP : va_P (dC, dI) vC (wC a cI cC Fa Aa) s.heap := hP
    have hD : va_D (va_A (wC a cI cC Fa Aa) s.heap.size) (wC a cI cC Fa Aa) := hD
    obtain ⟨r2, F2, A2, hc, hf⟩ := ra_bi_some hf
    refine cc_calli (va_runV (As := [.int (46 : Int32)]) (rest := []) ⟨hx, hb, hml, hown, hts⟩ (k_C_takes l dC dI a cI cC s.heap.size Fa Aa (46 : Int32) r2 F2 A2 hc) (cw_V 1 hts mw_177 mw_179 ms_C_takes mw_3 mw_180 rfl rfl rfl hd_C_takes ⟨Nat.le_of_ble_eq_true rfl, Nat.le_of_ble_eq_true rfl⟩) (cc_preV hK hP hD rfl (q0 := 0) rfl) rfl rfl hl.1 rfl (lv_room (Nat.le_of_ble_eq_true rfl)) d_C_picked_8 ⟨Nat.zero_le _, Nat.zero_le _⟩) hD hS hA (fun H locs hP hD hS => ?_)
    refine lv_if_ne (tgt := 16) hx hb d_C_picked_11 (by decide) (fun h11_3 => ?_) (fun h11_3 => ?_)
    · rw [if_neg h11_3] at hf
      refine lv_iconst (v := 0) hx hb d_C_picked_16 (by decide) ?_
      refine lv_istore_n hx hb d_C_picked_17 rfl hl (by decide) rfl (fun ls hl => ?_)
      have hl : lv_has ls 6 [(2, .int (0 : Int32)), (0, .ref (a 0)), (1, .int u1)] := hl
      have hl : lv_has ls 6 [(0, .ref (a 0)), (1, .int u1), (2, .int (0 : Int32))] := lv_sub hl [1, 2, 0] rfl
      exact L18 400 u1 (0 : Int32) F2 A2 _ _ _ hl hP hD hS hf
    · rw [if_pos h11_3] at hf
      refine lv_iload_n hx hb d_C_picked_14 rfl (lv_at hl 1 rfl) ?_
      cases hf
      exact W.iret hx hb hr (fun t ht hW => ⟨⟨_, (), rfl, rfl, by rw [ht]; exact hP, va_K.moved hW.alike hK, hD⟩, hS.F ht⟩) hS.2.2 d_C_picked_15
end
section
def f_C_functionOfTwo_J24 (inner : Int32 → ST_F → ST_A → Option (Int32 × ST_F × ST_A)) (x1 : Int32) (x2 : Int32) (x3 : Int32) (z0 : Int32) (F : ST_F) (A : ST_A) : Option (Int32 × ST_F × ST_A) := if x1 = (68 : Int32) then (ra_bi (f_C_dotted x3 z0 F A) (fun r5 F5 A5 => some (r5, F5, A5))) else (if x1 = (77 : Int32) then (ra_bi (f_C_matrix x3 z0 F A) (fun r7 F7 A7 => some (r7, F7, A7))) else (if x1 = (78 : Int32) then (ra_bi (f_C_pairwise (6 : Int32) x3 z0 F A) (fun r9 F9 A9 => some (r9, F9, A9))) else (if x1 = (83 : Int32) then (ra_bi (f_C_pairwise (8 : Int32) x3 z0 F A) (fun r11 F11 A11 => some (r11, F11, A11))) else (if x1 = (88 : Int32) then (ra_bi (f_C_pairwise (7 : Int32) x3 z0 F A) (fun r13 F13 A13 => some (r13, F13, A13))) else (some ((-1 : Int32), F, A))))))
def f_C_functionOfTwo (inner : Int32 → ST_F → ST_A → Option (Int32 × ST_F × ST_A)) (u1 : Int32) (u2 : Int32) (Fa : ST_F) (Aa : ST_A) : Option (Int32 × ST_F × ST_A) := ra_bi (inner u2 Fa Aa) (fun r1 F1 A1 => ra_bi (f_C_takes (44 : Int32) F1 A1) (fun r2 F2 A2 => if r2 = 0 then (f_C_functionOfTwo_J24 inner u1 u2 r1 (-1 : Int32) F2 A2) else (ra_bi (inner u2 F2 A2) (fun r14 F14 A14 => f_C_functionOfTwo_J24 inner u1 u2 r1 r14 F14 A14))))
set_option maxHeartbeats 4000000 in
set_option maxRecDepth 100000 in
theorem k_C_functionOfTwo (l : Launch) (dC : Nat → ClassId) (dI : Nat → Nat → Nat) (a : Nat → Nat) (cI cC : ClassId) (fI lI : Nat) (inner : Int32 → ST_F → ST_A → Option (Int32 × ST_F × ST_A)) (hin : ∀ (sz : Nat) (Fa : ST_F) (Aa : ST_A) (u1 r0 : Int32) (F9 : ST_F) (A9 : ST_A), inner u1 Fa Aa = some (r0, F9, A9) → cc_MetI l y_C_sum (Cond.code y_C_sum b_C_sum 4 (some .int) :: wA) ({ frames := fI, cells := 0, slots := 0, locals := lI } : Room) (dC, dI) vC [(cI, .int), (cC, .char)] ([.ref (a 0), .int u1] : List Value) (wC a cI cC Fa Aa) sz (wC a cI cC F9 A9) r0) (sz : Nat) (Fa : ST_F) (Aa : ST_A) (u1 : Int32) (u2 : Int32) (r0 : Int32) (F9 : ST_F) (A9 : ST_A) (hf : f_C_functionOfTwo inner u1 u2 Fa Aa = some (r0, F9, A9)) : cc_MetI l y_C_functionOfTwo (Cond.code y_C_functionOfTwo b_C_functionOfTwo 5 (some .int) :: wA) ({ frames := (fI + 6), cells := 0, slots := 0, locals := (lI + 200) } : Room) (dC, dI) vC [(cI, .int), (cC, .char)] ([.ref (a 0), .int u1, .int u2] : List Value) (wC a cI cC Fa Aa) sz (wC a cI cC F9 A9) r0 := by
  refine Met.ofW (cc := b_C_functionOfTwo) (maxL := 5) (ret := (some .int)) (by decide) rfl ?_
  intro p e s m args below meth c s₁ B hml hv
  obtain ⟨rfl, hsz, hP, hK, hD0⟩ := hv
  have hx := B.exec
  have hb := B.bytes
  have hr := B.returns
  have hts := fun w h => atoms_spec (ws := (Cond.code y_C_functionOfTwo b_C_functionOfTwo 5 (some .int) :: wA)) B.pre w (List.mem_cons_of_mem _ h)
  have hown : s.vm.findClass R_C = some m.cls := findClass_of_methodNamed B.named
  have hlocks := B.notSynchronized
  subst hsz
  have hD := hD0.self (sz := s.heap.size)
  have hA : ∀ q : Nat, s.heap.size ≤ q → va_A (wC a cI cC Fa Aa) s.heap.size q := fun q h => Or.inr h
  have hS : va_S (va_A (wC a cI cC Fa Aa) s.heap.size) s.heap s.heap [] := va_S.rf
  have hl := lv_entry (([.ref (a 0), .int u1, .int u2] : List Value)) (n := 5) (Nat.le_of_ble_eq_true rfl)
  have J24 : ∀ (x1 : Int32) (x2 : Int32) (x3 : Int32) (z0 : Int32) (F : ST_F) (A : ST_A) (H : Heap) (locs : List Loc) (ls : Array Slot), lv_has ls 5 [(0, .ref (a 0)), (1, .int x1), (2, .int x2), (3, .int x3)] → va_P (dC, dI) vC (wC a cI cC F A) H → va_D (va_A (wC a cI cC Fa Aa) s.heap.size) (wC a cI cC F A) → va_S (va_A (wC a cI cC Fa Aa) s.heap.size) s.heap H locs → f_C_functionOfTwo_J24 inner x1 x2 x3 z0 F A = some (r0, F9, A9) → W p l e (headSpec (Cond.code y_C_functionOfTwo b_C_functionOfTwo 5 (some .int) :: wA) ({ frames := (fI + 6), cells := 0, slots := 0, locals := (lI + 200) } : Room)).room s m ([.ref (a 0), .int u1, .int u2] : List Value).toArray below meth c H locs 0 0 (MQ below (cc_Qi (dC, dI) vC [(cI, .int), (cC, .char)] (wC a cI cC Fa Aa) s.heap.size (wC a cI cC F9 A9) r0) ([.ref (a 0), .int u1, .int u2] : List Value).toArray s 0 0 (va_A (wC a cI cC Fa Aa) s.heap.size)) (F0 m 24 ls [.int z0]) := by
    intro x1 x2 x3 z0 F A H locs ls hl hP hD hS hf
    unfold f_C_functionOfTwo_J24 at hf
    refine lv_istore hx hb d_C_functionOfTwo_24 hl (by decide) rfl (fun ls hl => ?_)
    have hl : lv_has ls 5 [(4, .int z0), (0, .ref (a 0)), (1, .int x1), (2, .int x2), (3, .int x3)] := hl
    refine lv_iload_n hx hb d_C_functionOfTwo_26 rfl (lv_at hl 2 rfl) ?_
    by_cases h27_4 : x1 = (68 : Int32)
    · rw [if_pos h27_4] at hf
      refine lv_lookup (tgt := 106) (off := 79) hx hb d_C_functionOfTwo_27 (by decide) (by rw [h27_4]; decide) (by decide) ?_
      refine lv_aload_n hx hb d_C_functionOfTwo_106 rfl (lv_at hl 1 rfl) ?_
      refine lv_iload_n hx hb d_C_functionOfTwo_107 rfl (lv_at hl 4 rfl) ?_
      refine lv_iload hx hb d_C_functionOfTwo_108 (lv_at hl 0 rfl) ?_
      have hP : va_P (dC, dI) vC (wC a cI cC F A) H := hP
      have hD : va_D (va_A (wC a cI cC Fa Aa) s.heap.size) (wC a cI cC F A) := hD
      obtain ⟨r5, F5, A5, hc, hf⟩ := ra_bi_some hf
      refine cc_calli (va_runV (As := [.int x3, .int z0]) (rest := []) ⟨hx, hb, hml, hown, hts⟩ (k_C_dotted l dC dI a cI cC H.size F A x3 z0 r5 F5 A5 hc) (cw_V 2 hts mw_256 mw_258 ms_C_dotted mw_3 mw_259 rfl rfl rfl hd_C_dotted ⟨(show 1 + 1 ≤ (fI + 6) by omega), (show 8 + (7 + 11) + 24 ≤ (lI + 200) by omega)⟩) (cc_preV hK hP hD rfl (q0 := 0) rfl) rfl rfl hl.1 rfl (lv_room (Nat.le_of_ble_eq_true rfl)) d_C_functionOfTwo_110 ⟨Nat.zero_le _, Nat.zero_le _⟩) hD hS hA (fun H locs hP hD hS => ?_)
      cases hf
      exact W.iret hx hb hr (fun t ht hW => ⟨⟨_, (), rfl, rfl, by rw [ht]; exact hP, va_K.moved hW.alike hK, hD⟩, hS.F ht⟩) hS.2.2 d_C_functionOfTwo_113
    · rw [if_neg h27_4] at hf
      by_cases h27_6 : x1 = (77 : Int32)
      · rw [if_pos h27_6] at hf
        refine lv_lookup (tgt := 114) (off := 87) hx hb d_C_functionOfTwo_27 (by decide) (by rw [h27_6]; decide) (by decide) ?_
        refine lv_aload_n hx hb d_C_functionOfTwo_114 rfl (lv_at hl 1 rfl) ?_
        refine lv_iload_n hx hb d_C_functionOfTwo_115 rfl (lv_at hl 4 rfl) ?_
        refine lv_iload hx hb d_C_functionOfTwo_116 (lv_at hl 0 rfl) ?_
        have hP : va_P (dC, dI) vC (wC a cI cC F A) H := hP
        have hD : va_D (va_A (wC a cI cC Fa Aa) s.heap.size) (wC a cI cC F A) := hD
        obtain ⟨r7, F7, A7, hc, hf⟩ := ra_bi_some hf
        refine cc_calli (va_runV (As := [.int x3, .int z0]) (rest := []) ⟨hx, hb, hml, hown, hts⟩ (k_C_matrix l dC dI a cI cC H.size F A x3 z0 r7 F7 A7 hc) (cw_V 2 hts mw_260 mw_262 ms_C_matrix mw_3 mw_263 rfl rfl rfl hd_C_matrix ⟨(show 2 + 1 ≤ (fI + 6) by omega), (show 8 + (3 + 11) + 47 ≤ (lI + 200) by omega)⟩) (cc_preV hK hP hD rfl (q0 := 0) rfl) rfl rfl hl.1 rfl (lv_room (Nat.le_of_ble_eq_true rfl)) d_C_functionOfTwo_118 ⟨Nat.zero_le _, Nat.zero_le _⟩) hD hS hA (fun H locs hP hD hS => ?_)
        cases hf
        exact W.iret hx hb hr (fun t ht hW => ⟨⟨_, (), rfl, rfl, by rw [ht]; exact hP, va_K.moved hW.alike hK, hD⟩, hS.F ht⟩) hS.2.2 d_C_functionOfTwo_121
      · rw [if_neg h27_6] at hf
        by_cases h27_8 : x1 = (78 : Int32)
        · rw [if_pos h27_8] at hf
          refine lv_lookup (tgt := 76) (off := 49) hx hb d_C_functionOfTwo_27 (by decide) (by rw [h27_8]; decide) (by decide) ?_
          refine lv_aload_n hx hb d_C_functionOfTwo_76 rfl (lv_at hl 1 rfl) ?_
          refine lv_bipush (v := 6) hx hb d_C_functionOfTwo_77 (by decide) ?_
          refine lv_iload_n hx hb d_C_functionOfTwo_79 rfl (lv_at hl 4 rfl) ?_
          refine lv_iload hx hb d_C_functionOfTwo_80 (lv_at hl 0 rfl) ?_
          have hP : va_P (dC, dI) vC (wC a cI cC F A) H := hP
          have hD : va_D (va_A (wC a cI cC Fa Aa) s.heap.size) (wC a cI cC F A) := hD
          obtain ⟨r9, F9, A9, hc, hf⟩ := ra_bi_some hf
          refine cc_calli (va_runV (As := [.int (6 : Int32), .int x3, .int z0]) (rest := []) ⟨hx, hb, hml, hown, hts⟩ (k_C_pairwise l dC dI a cI cC H.size F A (6 : Int32) x3 z0 r9 F9 A9 hc) (cw_V 3 hts mw_244 mw_246 ms_C_pairwise mw_3 mw_247 rfl rfl rfl hd_C_pairwise ⟨(show 2 + 1 ≤ (fI + 6) by omega), (show 8 + (10 + 11) + 42 ≤ (lI + 200) by omega)⟩) (cc_preV hK hP hD rfl (q0 := 0) rfl) rfl rfl hl.1 rfl (lv_room (Nat.le_of_ble_eq_true rfl)) d_C_functionOfTwo_82 ⟨Nat.zero_le _, Nat.zero_le _⟩) hD hS hA (fun H locs hP hD hS => ?_)
          cases hf
          exact W.iret hx hb hr (fun t ht hW => ⟨⟨_, (), rfl, rfl, by rw [ht]; exact hP, va_K.moved hW.alike hK, hD⟩, hS.F ht⟩) hS.2.2 d_C_functionOfTwo_85
        · rw [if_neg h27_8] at hf
          by_cases h27_10 : x1 = (83 : Int32)
          · rw [if_pos h27_10] at hf
            refine lv_lookup (tgt := 96) (off := 69) hx hb d_C_functionOfTwo_27 (by decide) (by rw [h27_10]; decide) (by decide) ?_
            refine lv_aload_n hx hb d_C_functionOfTwo_96 rfl (lv_at hl 1 rfl) ?_
            refine lv_bipush (v := 8) hx hb d_C_functionOfTwo_97 (by decide) ?_
            refine lv_iload_n hx hb d_C_functionOfTwo_99 rfl (lv_at hl 4 rfl) ?_
            refine lv_iload hx hb d_C_functionOfTwo_100 (lv_at hl 0 rfl) ?_
            have hP : va_P (dC, dI) vC (wC a cI cC F A) H := hP
            have hD : va_D (va_A (wC a cI cC Fa Aa) s.heap.size) (wC a cI cC F A) := hD
            obtain ⟨r11, F11, A11, hc, hf⟩ := ra_bi_some hf
            refine cc_calli (va_runV (As := [.int (8 : Int32), .int x3, .int z0]) (rest := []) ⟨hx, hb, hml, hown, hts⟩ (k_C_pairwise l dC dI a cI cC H.size F A (8 : Int32) x3 z0 r11 F11 A11 hc) (cw_V 3 hts mw_244 mw_246 ms_C_pairwise mw_3 mw_247 rfl rfl rfl hd_C_pairwise ⟨(show 2 + 1 ≤ (fI + 6) by omega), (show 8 + (10 + 11) + 42 ≤ (lI + 200) by omega)⟩) (cc_preV hK hP hD rfl (q0 := 0) rfl) rfl rfl hl.1 rfl (lv_room (Nat.le_of_ble_eq_true rfl)) d_C_functionOfTwo_102 ⟨Nat.zero_le _, Nat.zero_le _⟩) hD hS hA (fun H locs hP hD hS => ?_)
            cases hf
            exact W.iret hx hb hr (fun t ht hW => ⟨⟨_, (), rfl, rfl, by rw [ht]; exact hP, va_K.moved hW.alike hK, hD⟩, hS.F ht⟩) hS.2.2 d_C_functionOfTwo_105
          · rw [if_neg h27_10] at hf
            by_cases h27_12 : x1 = (88 : Int32)
            · rw [if_pos h27_12] at hf
              refine lv_lookup (tgt := 86) (off := 59) hx hb d_C_functionOfTwo_27 (by decide) (by rw [h27_12]; decide) (by decide) ?_
              refine lv_aload_n hx hb d_C_functionOfTwo_86 rfl (lv_at hl 1 rfl) ?_
              refine lv_bipush (v := 7) hx hb d_C_functionOfTwo_87 (by decide) ?_
              refine lv_iload_n hx hb d_C_functionOfTwo_89 rfl (lv_at hl 4 rfl) ?_
              refine lv_iload hx hb d_C_functionOfTwo_90 (lv_at hl 0 rfl) ?_
              have hP : va_P (dC, dI) vC (wC a cI cC F A) H := hP
              have hD : va_D (va_A (wC a cI cC Fa Aa) s.heap.size) (wC a cI cC F A) := hD
              obtain ⟨r13, F13, A13, hc, hf⟩ := ra_bi_some hf
              refine cc_calli (va_runV (As := [.int (7 : Int32), .int x3, .int z0]) (rest := []) ⟨hx, hb, hml, hown, hts⟩ (k_C_pairwise l dC dI a cI cC H.size F A (7 : Int32) x3 z0 r13 F13 A13 hc) (cw_V 3 hts mw_244 mw_246 ms_C_pairwise mw_3 mw_247 rfl rfl rfl hd_C_pairwise ⟨(show 2 + 1 ≤ (fI + 6) by omega), (show 8 + (10 + 11) + 42 ≤ (lI + 200) by omega)⟩) (cc_preV hK hP hD rfl (q0 := 0) rfl) rfl rfl hl.1 rfl (lv_room (Nat.le_of_ble_eq_true rfl)) d_C_functionOfTwo_92 ⟨Nat.zero_le _, Nat.zero_le _⟩) hD hS hA (fun H locs hP hD hS => ?_)
              cases hf
              exact W.iret hx hb hr (fun t ht hW => ⟨⟨_, (), rfl, rfl, by rw [ht]; exact hP, va_K.moved hW.alike hK, hD⟩, hS.F ht⟩) hS.2.2 d_C_functionOfTwo_95
            · rw [if_neg h27_12] at hf
              refine lv_lookup (tgt := 122) (off := 95) hx hb d_C_functionOfTwo_27 (by decide) ((lv_osw h27_4 (by decide)).trans ((lv_osw h27_6 (by decide)).trans ((lv_osw h27_8 (by decide)).trans ((lv_osw h27_10 (by decide)).trans ((lv_osw h27_12 (by decide)).trans (rfl)))))) (by decide) ?_
              refine lv_iconst (v := -1) hx hb d_C_functionOfTwo_122 (by decide) ?_
              cases hf
              exact W.iret hx hb hr (fun t ht hW => ⟨⟨_, (), rfl, rfl, by rw [ht]; exact hP, va_K.moved hW.alike hK, hD⟩, hS.F ht⟩) hS.2.2 d_C_functionOfTwo_123
  rw [lg_entry_eq]
  generalize (lg_sl (([.ref (a 0), .int u1, .int u2] : List Value)) ++ List.replicate (5 - (lg_sl (([.ref (a 0), .int u1, .int u2] : List Value))).length) Slot.unset).toArray = ls at hl ⊢
  have hl : lv_has ls 5 [(0, .ref (a 0)), (1, .int u1), (2, .int u2)] := hl
  unfold f_C_functionOfTwo at hf
  refine lv_aload_n hx hb d_C_functionOfTwo_0 rfl (lv_at hl 0 rfl) ?_
  refine lv_iload_n hx hb d_C_functionOfTwo_1 rfl (lv_at hl 2 rfl) ?_
  have hP : va_P (dC, dI) vC (wC a cI cC Fa Aa) s.heap := hP
  have hD : va_D (va_A (wC a cI cC Fa Aa) s.heap.size) (wC a cI cC Fa Aa) := hD
  obtain ⟨r1, F1, A1, hc, hf⟩ := ra_bi_some hf
  refine cc_calli (va_runV (As := [.int u2]) (rest := []) ⟨hx, hb, hml, hown, hts⟩ (hin  s.heap.size Fa Aa u2 r1 F1 A1 hc) (cw_V 1 hts mw_165 mw_167 ms_C_sum mw_3 mw_168 rfl rfl rfl hd_C_sum ⟨(show fI + 1 ≤ (fI + 6) by omega), (show 8 + (4 + 11) + lI ≤ (lI + 200) by omega)⟩) (cc_preV hK hP hD rfl (q0 := 0) rfl) rfl rfl hl.1 rfl (lv_room (Nat.le_of_ble_eq_true rfl)) d_C_functionOfTwo_2 ⟨Nat.zero_le _, Nat.zero_le _⟩) hD hS hA (fun H locs hP hD hS => ?_)
  refine lv_istore_n hx hb d_C_functionOfTwo_5 rfl hl (by decide) rfl (fun ls hl => ?_)
  have hl : lv_has ls 5 [(3, .int r1), (0, .ref (a 0)), (1, .int u1), (2, .int u2)] := hl
  refine lv_aload_n hx hb d_C_functionOfTwo_6 rfl (lv_at hl 1 rfl) ?_
  refine lv_bipush (v := 44) hx hb d_C_functionOfTwo_7 (by decide) ?_
  have hP : va_P (dC, dI) vC (wC a cI cC F1 A1) H := hP
  have hD : va_D (va_A (wC a cI cC Fa Aa) s.heap.size) (wC a cI cC F1 A1) := hD
  obtain ⟨r2, F2, A2, hc, hf⟩ := ra_bi_some hf
  refine cc_calli (va_runV (As := [.int (44 : Int32)]) (rest := []) ⟨hx, hb, hml, hown, hts⟩ (k_C_takes l dC dI a cI cC H.size F1 A1 (44 : Int32) r2 F2 A2 hc) (cw_V 1 hts mw_177 mw_179 ms_C_takes mw_3 mw_180 rfl rfl rfl hd_C_takes ⟨(show 1 + 1 ≤ (fI + 6) by omega), (show 8 + (2 + 11) + 20 ≤ (lI + 200) by omega)⟩) (cc_preV hK hP hD rfl (q0 := 0) rfl) rfl rfl hl.1 rfl (lv_room (Nat.le_of_ble_eq_true rfl)) d_C_functionOfTwo_9 ⟨Nat.zero_le _, Nat.zero_le _⟩) hD hS hA (fun H locs hP hD hS => ?_)
  refine lv_if_eq (tgt := 23) hx hb d_C_functionOfTwo_12 (by decide) (fun h12_3 => ?_) (fun h12_3 => ?_)
  · rw [if_pos h12_3] at hf
    refine lv_iconst (v := -1) hx hb d_C_functionOfTwo_23 (by decide) ?_
    have hl : lv_has ls 5 [(0, .ref (a 0)), (1, .int u1), (2, .int u2), (3, .int r1)] := lv_sub hl [1, 2, 3, 0] rfl
    exact J24 u1 u2 r1 (-1 : Int32) F2 A2 _ _ _ hl hP hD hS hf
  · rw [if_neg h12_3] at hf
    refine lv_aload_n hx hb d_C_functionOfTwo_15 rfl (lv_at hl 1 rfl) ?_
    refine lv_iload_n hx hb d_C_functionOfTwo_16 rfl (lv_at hl 3 rfl) ?_
    have hP : va_P (dC, dI) vC (wC a cI cC F2 A2) H := hP
    have hD : va_D (va_A (wC a cI cC Fa Aa) s.heap.size) (wC a cI cC F2 A2) := hD
    obtain ⟨r14, F14, A14, hc, hf⟩ := ra_bi_some hf
    refine cc_calli (va_runV (As := [.int u2]) (rest := []) ⟨hx, hb, hml, hown, hts⟩ (hin  H.size F2 A2 u2 r14 F14 A14 hc) (cw_V 1 hts mw_165 mw_167 ms_C_sum mw_3 mw_168 rfl rfl rfl hd_C_sum ⟨(show fI + 1 ≤ (fI + 6) by omega), (show 8 + (4 + 11) + lI ≤ (lI + 200) by omega)⟩) (cc_preV hK hP hD rfl (q0 := 0) rfl) rfl rfl hl.1 rfl (lv_room (Nat.le_of_ble_eq_true rfl)) d_C_functionOfTwo_17 ⟨Nat.zero_le _, Nat.zero_le _⟩) hD hS hA (fun H locs hP hD hS => ?_)
    refine lv_goto (tgt := 24) hx hb d_C_functionOfTwo_20 (by decide) ?_
    have hl : lv_has ls 5 [(0, .ref (a 0)), (1, .int u1), (2, .int u2), (3, .int r1)] := lv_sub hl [1, 2, 3, 0] rfl
    exact J24 u1 u2 r1 r14 F14 A14 _ _ _ hl hP hD hS hf
def f_C_vector_J39 (inner : Int32 → ST_F → ST_A → Option (Int32 × ST_F × ST_A)) (x1 : Int32) (x2 : Int32) (x3 : Int32) (F : ST_F) (A : ST_A) : Option (Int32 × ST_F × ST_A) := if x2 = (-1 : Int32) then (some ((-1 : Int32), F, A)) else (if (f_V_typeIn x2) = (1 : Int32) then (some ((-1 : Int32), F, A)) else (if (f_V_typeIn x2) = (4 : Int32) then (some ((-1 : Int32), F, A)) else (some (x2, F, A))))
def f_C_vector_L8 (inner : Int32 → ST_F → ST_A → Option (Int32 × ST_F × ST_A)) : Nat → Int32 → Int32 → Int32 → ST_F → ST_A → Option (Int32 × ST_F × ST_A)
  | 0, _, _, _, _, _ => none
  | n + 1, x1, x2, x3, F, A => if (2 : Int32) ≤ x3 then (f_C_vector_J39 inner x1 x2 x3 F A) else (ra_bi (f_C_takes (44 : Int32) F A) (fun r6 F6 A6 => if r6 = 0 then (f_C_vector_J39 inner x1 x2 x3 F6 A6) else (ra_bi (inner x1 F6 A6) (fun r8 F8 A8 => ra_bi (f_C_joined x2 r8 F8 A8) (fun r9 F9 A9 => f_C_vector_L8 inner n x1 r9 (x3 + (1 : Int32)) F9 A9)))))
def f_C_vector (inner : Int32 → ST_F → ST_A → Option (Int32 × ST_F × ST_A)) (u1 : Int32) (Fa : ST_F) (Aa : ST_A) : Option (Int32 × ST_F × ST_A) := ra_bi (inner u1 Fa Aa) (fun r1 F1 A1 => f_C_vector_L8 inner 400 u1 r1 (0 : Int32) F1 A1)
set_option maxHeartbeats 4000000 in
set_option maxRecDepth 100000 in
theorem k_C_vector (l : Launch) (dC : Nat → ClassId) (dI : Nat → Nat → Nat) (a : Nat → Nat) (cI cC : ClassId) (fI lI : Nat) (inner : Int32 → ST_F → ST_A → Option (Int32 × ST_F × ST_A)) (hin : ∀ (sz : Nat) (Fa : ST_F) (Aa : ST_A) (u1 r0 : Int32) (F9 : ST_F) (A9 : ST_A), inner u1 Fa Aa = some (r0, F9, A9) → cc_MetI l y_C_sum (Cond.code y_C_sum b_C_sum 4 (some .int) :: wA) ({ frames := fI, cells := 0, slots := 0, locals := lI } : Room) (dC, dI) vC [(cI, .int), (cC, .char)] ([.ref (a 0), .int u1] : List Value) (wC a cI cC Fa Aa) sz (wC a cI cC F9 A9) r0) (sz : Nat) (Fa : ST_F) (Aa : ST_A) (u1 : Int32) (r0 : Int32) (F9 : ST_F) (A9 : ST_A) (hf : f_C_vector inner u1 Fa Aa = some (r0, F9, A9)) : cc_MetI l y_C_vector (Cond.code y_C_vector b_C_vector 4 (some .int) :: wA) ({ frames := (fI + 6), cells := 0, slots := 0, locals := (lI + 200) } : Room) (dC, dI) vC [(cI, .int), (cC, .char)] ([.ref (a 0), .int u1] : List Value) (wC a cI cC Fa Aa) sz (wC a cI cC F9 A9) r0 := by
  refine Met.ofW (cc := b_C_vector) (maxL := 4) (ret := (some .int)) (by decide) rfl ?_
  intro p e s m args below meth c s₁ B hml hv
  obtain ⟨rfl, hsz, hP, hK, hD0⟩ := hv
  have hx := B.exec
  have hb := B.bytes
  have hr := B.returns
  have hts := fun w h => atoms_spec (ws := (Cond.code y_C_vector b_C_vector 4 (some .int) :: wA)) B.pre w (List.mem_cons_of_mem _ h)
  have hown : s.vm.findClass R_C = some m.cls := findClass_of_methodNamed B.named
  have hlocks := B.notSynchronized
  subst hsz
  have hD := hD0.self (sz := s.heap.size)
  have hA : ∀ q : Nat, s.heap.size ≤ q → va_A (wC a cI cC Fa Aa) s.heap.size q := fun q h => Or.inr h
  have hS : va_S (va_A (wC a cI cC Fa Aa) s.heap.size) s.heap s.heap [] := va_S.rf
  have hl := lv_entry (([.ref (a 0), .int u1] : List Value)) (n := 4) (Nat.le_of_ble_eq_true rfl)
  have J39 : ∀ (x1 : Int32) (x2 : Int32) (x3 : Int32) (F : ST_F) (A : ST_A) (H : Heap) (locs : List Loc) (ls : Array Slot), lv_has ls 4 [(0, .ref (a 0)), (1, .int x1), (2, .int x2), (3, .int x3)] → va_P (dC, dI) vC (wC a cI cC F A) H → va_D (va_A (wC a cI cC Fa Aa) s.heap.size) (wC a cI cC F A) → va_S (va_A (wC a cI cC Fa Aa) s.heap.size) s.heap H locs → f_C_vector_J39 inner x1 x2 x3 F A = some (r0, F9, A9) → W p l e (headSpec (Cond.code y_C_vector b_C_vector 4 (some .int) :: wA) ({ frames := (fI + 6), cells := 0, slots := 0, locals := (lI + 200) } : Room)).room s m ([.ref (a 0), .int u1] : List Value).toArray below meth c H locs 0 0 (MQ below (cc_Qi (dC, dI) vC [(cI, .int), (cC, .char)] (wC a cI cC Fa Aa) s.heap.size (wC a cI cC F9 A9) r0) ([.ref (a 0), .int u1] : List Value).toArray s 0 0 (va_A (wC a cI cC Fa Aa) s.heap.size)) (F0 m 39 ls []) := by
    intro x1 x2 x3 F A H locs ls hl hP hD hS hf
    unfold f_C_vector_J39 at hf
    refine lv_iload_n hx hb d_C_vector_39 rfl (lv_at hl 2 rfl) ?_
    refine lv_iconst (v := -1) hx hb d_C_vector_40 (by decide) ?_
    refine lv_icmp_eq (tgt := 60) hx hb d_C_vector_41 (by decide) (fun h41_3 => ?_) (fun h41_3 => ?_)
    · rw [if_pos h41_3] at hf
      refine lv_iconst (v := -1) hx hb d_C_vector_60 (by decide) ?_
      cases hf
      exact W.iret hx hb hr (fun t ht hW => ⟨⟨_, (), rfl, rfl, by rw [ht]; exact hP, va_K.moved hW.alike hK, hD⟩, hS.F ht⟩) hS.2.2 d_C_vector_61
    · rw [if_neg h41_3] at hf
      refine lv_iload_n hx hb d_C_vector_44 rfl (lv_at hl 2 rfl) ?_
      refine cc_calls (va_runS (As := [.int x2]) (rest := []) ⟨hx, hb, hml, hown, hts⟩ (k_V_typeIn l x2 _ rfl) (cw_S 1 hts mw_223 mw_224 mw_11 mw_225 rfl rfl hd_V_typeIn ⟨(show 0 + 1 ≤ (fI + 6) by omega), (show 8 + (1 + 11) + 0 ≤ (lI + 200) by omega)⟩) cc_preS rfl rfl hl.1 rfl (lv_room (Nat.le_of_ble_eq_true rfl)) d_C_vector_45 ⟨Nat.zero_le _, Nat.zero_le _⟩) ?_
      refine lv_iconst (v := 1) hx hb d_C_vector_48 (by decide) ?_
      refine lv_icmp_eq (tgt := 60) hx hb d_C_vector_49 (by decide) (fun h49_4 => ?_) (fun h49_4 => ?_)
      · rw [if_pos h49_4] at hf
        refine lv_iconst (v := -1) hx hb d_C_vector_60 (by decide) ?_
        cases hf
        exact W.iret hx hb hr (fun t ht hW => ⟨⟨_, (), rfl, rfl, by rw [ht]; exact hP, va_K.moved hW.alike hK, hD⟩, hS.F ht⟩) hS.2.2 d_C_vector_61
      · rw [if_neg h49_4] at hf
        refine lv_iload_n hx hb d_C_vector_52 rfl (lv_at hl 2 rfl) ?_
        refine cc_calls (va_runS (As := [.int x2]) (rest := []) ⟨hx, hb, hml, hown, hts⟩ (k_V_typeIn l x2 _ rfl) (cw_S 1 hts mw_223 mw_224 mw_11 mw_225 rfl rfl hd_V_typeIn ⟨(show 0 + 1 ≤ (fI + 6) by omega), (show 8 + (1 + 11) + 0 ≤ (lI + 200) by omega)⟩) cc_preS rfl rfl hl.1 rfl (lv_room (Nat.le_of_ble_eq_true rfl)) d_C_vector_53 ⟨Nat.zero_le _, Nat.zero_le _⟩) ?_
        refine lv_iconst (v := 4) hx hb d_C_vector_56 (by decide) ?_
        refine lv_icmp_ne (tgt := 62) hx hb d_C_vector_57 (by decide) (fun h57_5 => ?_) (fun h57_5 => ?_)
        · rw [if_neg h57_5] at hf
          refine lv_iload_n hx hb d_C_vector_62 rfl (lv_at hl 2 rfl) ?_
          cases hf
          exact W.iret hx hb hr (fun t ht hW => ⟨⟨_, (), rfl, rfl, by rw [ht]; exact hP, va_K.moved hW.alike hK, hD⟩, hS.F ht⟩) hS.2.2 d_C_vector_63
        · rw [if_pos h57_5] at hf
          refine lv_iconst (v := -1) hx hb d_C_vector_60 (by decide) ?_
          cases hf
          exact W.iret hx hb hr (fun t ht hW => ⟨⟨_, (), rfl, rfl, by rw [ht]; exact hP, va_K.moved hW.alike hK, hD⟩, hS.F ht⟩) hS.2.2 d_C_vector_61
  have L8 : ∀ (n : Nat) (x1 : Int32) (x2 : Int32) (x3 : Int32) (F : ST_F) (A : ST_A) (H : Heap) (locs : List Loc) (ls : Array Slot), lv_has ls 4 [(0, .ref (a 0)), (1, .int x1), (2, .int x2), (3, .int x3)] → va_P (dC, dI) vC (wC a cI cC F A) H → va_D (va_A (wC a cI cC Fa Aa) s.heap.size) (wC a cI cC F A) → va_S (va_A (wC a cI cC Fa Aa) s.heap.size) s.heap H locs → f_C_vector_L8 inner n x1 x2 x3 F A = some (r0, F9, A9) → W p l e (headSpec (Cond.code y_C_vector b_C_vector 4 (some .int) :: wA) ({ frames := (fI + 6), cells := 0, slots := 0, locals := (lI + 200) } : Room)).room s m ([.ref (a 0), .int u1] : List Value).toArray below meth c H locs 0 0 (MQ below (cc_Qi (dC, dI) vC [(cI, .int), (cC, .char)] (wC a cI cC Fa Aa) s.heap.size (wC a cI cC F9 A9) r0) ([.ref (a 0), .int u1] : List Value).toArray s 0 0 (va_A (wC a cI cC Fa Aa) s.heap.size)) (F0 m 8 ls []) := by
    intro n
    induction n with
    | zero => intro x1 x2 x3 F A H locs ls hl hP hD hS hf; cases hf
    | succ n ih =>
      intro x1 x2 x3 F A H locs ls hl hP hD hS hf
      rw [f_C_vector_L8] at hf
      refine lv_iload_n hx hb d_C_vector_8 rfl (lv_at hl 3 rfl) ?_
      refine lv_iconst (v := 2) hx hb d_C_vector_9 (by decide) ?_
      refine lv_icmp_ge (tgt := 39) hx hb d_C_vector_10 (by decide) (fun h10_2 => ?_) (fun h10_2 => ?_)
      · rw [if_pos h10_2] at hf
        have hl : lv_has ls 4 [(0, .ref (a 0)), (1, .int x1), (2, .int x2), (3, .int x3)] := lv_sub hl [0, 1, 2, 3] rfl
        exact J39 x1 x2 x3 F A _ _ _ hl hP hD hS hf
      · rw [if_neg h10_2] at hf
        refine lv_aload_n hx hb d_C_vector_13 rfl (lv_at hl 0 rfl) ?_
        refine lv_bipush (v := 44) hx hb d_C_vector_14 (by decide) ?_
        have hP : va_P (dC, dI) vC (wC a cI cC F A) H := hP
        have hD : va_D (va_A (wC a cI cC Fa Aa) s.heap.size) (wC a cI cC F A) := hD
        obtain ⟨r6, F6, A6, hc, hf⟩ := ra_bi_some hf
        refine cc_calli (va_runV (As := [.int (44 : Int32)]) (rest := []) ⟨hx, hb, hml, hown, hts⟩ (k_C_takes l dC dI a cI cC H.size F A (44 : Int32) r6 F6 A6 hc) (cw_V 1 hts mw_177 mw_179 ms_C_takes mw_3 mw_180 rfl rfl rfl hd_C_takes ⟨(show 1 + 1 ≤ (fI + 6) by omega), (show 8 + (2 + 11) + 20 ≤ (lI + 200) by omega)⟩) (cc_preV hK hP hD rfl (q0 := 0) rfl) rfl rfl hl.1 rfl (lv_room (Nat.le_of_ble_eq_true rfl)) d_C_vector_16 ⟨Nat.zero_le _, Nat.zero_le _⟩) hD hS hA (fun H locs hP hD hS => ?_)
        refine lv_if_eq (tgt := 39) hx hb d_C_vector_19 (by decide) (fun h19_7 => ?_) (fun h19_7 => ?_)
        · rw [if_pos h19_7] at hf
          have hl : lv_has ls 4 [(0, .ref (a 0)), (1, .int x1), (2, .int x2), (3, .int x3)] := lv_sub hl [0, 1, 2, 3] rfl
          exact J39 x1 x2 x3 F6 A6 _ _ _ hl hP hD hS hf
        · rw [if_neg h19_7] at hf
          refine lv_aload_n hx hb d_C_vector_22 rfl (lv_at hl 0 rfl) ?_
          refine lv_iload_n hx hb d_C_vector_23 rfl (lv_at hl 2 rfl) ?_
          refine lv_aload_n hx hb d_C_vector_24 rfl (lv_at hl 0 rfl) ?_
          refine lv_iload_n hx hb d_C_vector_25 rfl (lv_at hl 1 rfl) ?_
          have hP : va_P (dC, dI) vC (wC a cI cC F6 A6) H := hP
          have hD : va_D (va_A (wC a cI cC Fa Aa) s.heap.size) (wC a cI cC F6 A6) := hD
          obtain ⟨r8, F8, A8, hc, hf⟩ := ra_bi_some hf
          refine cc_calli (va_runV (As := [.int x1]) (rest := [.int x2, .ref (a 0)]) ⟨hx, hb, hml, hown, hts⟩ (hin  H.size F6 A6 x1 r8 F8 A8 hc) (cw_V 1 hts mw_165 mw_167 ms_C_sum mw_3 mw_168 rfl rfl rfl hd_C_sum ⟨(show fI + 1 ≤ (fI + 6) by omega), (show 8 + (4 + 11) + lI ≤ (lI + 200) by omega)⟩) (cc_preV hK hP hD rfl (q0 := 0) rfl) rfl rfl hl.1 rfl (lv_room (Nat.le_of_ble_eq_true rfl)) d_C_vector_26 ⟨Nat.zero_le _, Nat.zero_le _⟩) hD hS hA (fun H locs hP hD hS => ?_)
          have hP : va_P (dC, dI) vC (wC a cI cC F8 A8) H := hP
          have hD : va_D (va_A (wC a cI cC Fa Aa) s.heap.size) (wC a cI cC F8 A8) := hD
          obtain ⟨r9, F9, A9, hc, hf⟩ := ra_bi_some hf
          refine cc_calli (va_runV (As := [.int x2, .int r8]) (rest := []) ⟨hx, hb, hml, hown, hts⟩ (k_C_joined l dC dI a cI cC H.size F8 A8 x2 r8 r9 F9 A9 hc) (cw_V 2 hts mw_233 mw_235 ms_C_joined mw_3 mw_236 rfl rfl rfl hd_C_joined ⟨(show 2 + 1 ≤ (fI + 6) by omega), (show 8 + (3 + 11) + 47 ≤ (lI + 200) by omega)⟩) (cc_preV hK hP hD rfl (q0 := 0) rfl) rfl rfl hl.1 rfl (lv_room (Nat.le_of_ble_eq_true rfl)) d_C_vector_29 ⟨Nat.zero_le _, Nat.zero_le _⟩) hD hS hA (fun H locs hP hD hS => ?_)
          refine lv_istore_n hx hb d_C_vector_32 rfl hl (by decide) rfl (fun ls hl => ?_)
          have hl : lv_has ls 4 [(2, .int r9), (0, .ref (a 0)), (1, .int x1), (3, .int x3)] := hl
          refine lv_iinc (k := 3) (v := (x3 + (1 : Int32))) hx hb d_C_vector_33 hl rfl (by rfl) (by decide) rfl (fun ls hl => ?_)
          have hl : lv_has ls 4 [(3, .int (x3 + (1 : Int32))), (2, .int r9), (0, .ref (a 0)), (1, .int x1)] := hl
          refine lv_goto (tgt := 8) hx hb d_C_vector_36 (by decide) ?_
          have hl : lv_has ls 4 [(0, .ref (a 0)), (1, .int x1), (2, .int r9), (3, .int (x3 + (1 : Int32)))] := lv_sub hl [2, 3, 1, 0] rfl
          exact ih x1 r9 (x3 + (1 : Int32)) F9 A9 _ _ _ hl hP hD hS hf
  rw [lg_entry_eq]
  generalize (lg_sl (([.ref (a 0), .int u1] : List Value)) ++ List.replicate (4 - (lg_sl (([.ref (a 0), .int u1] : List Value))).length) Slot.unset).toArray = ls at hl ⊢
  have hl : lv_has ls 4 [(0, .ref (a 0)), (1, .int u1)] := hl
  unfold f_C_vector at hf
  refine lv_aload_n hx hb d_C_vector_0 rfl (lv_at hl 0 rfl) ?_
  refine lv_iload_n hx hb d_C_vector_1 rfl (lv_at hl 1 rfl) ?_
  have hP : va_P (dC, dI) vC (wC a cI cC Fa Aa) s.heap := hP
  have hD : va_D (va_A (wC a cI cC Fa Aa) s.heap.size) (wC a cI cC Fa Aa) := hD
  obtain ⟨r1, F1, A1, hc, hf⟩ := ra_bi_some hf
  refine cc_calli (va_runV (As := [.int u1]) (rest := []) ⟨hx, hb, hml, hown, hts⟩ (hin  s.heap.size Fa Aa u1 r1 F1 A1 hc) (cw_V 1 hts mw_165 mw_167 ms_C_sum mw_3 mw_168 rfl rfl rfl hd_C_sum ⟨(show fI + 1 ≤ (fI + 6) by omega), (show 8 + (4 + 11) + lI ≤ (lI + 200) by omega)⟩) (cc_preV hK hP hD rfl (q0 := 0) rfl) rfl rfl hl.1 rfl (lv_room (Nat.le_of_ble_eq_true rfl)) d_C_vector_2 ⟨Nat.zero_le _, Nat.zero_le _⟩) hD hS hA (fun H locs hP hD hS => ?_)
  refine lv_istore_n hx hb d_C_vector_5 rfl hl (by decide) rfl (fun ls hl => ?_)
  have hl : lv_has ls 4 [(2, .int r1), (0, .ref (a 0)), (1, .int u1)] := hl
  refine lv_iconst (v := 0) hx hb d_C_vector_6 (by decide) ?_
  refine lv_istore_n hx hb d_C_vector_7 rfl hl (by decide) rfl (fun ls hl => ?_)
  have hl : lv_has ls 4 [(3, .int (0 : Int32)), (2, .int r1), (0, .ref (a 0)), (1, .int u1)] := hl
  have hl : lv_has ls 4 [(0, .ref (a 0)), (1, .int u1), (2, .int r1), (3, .int (0 : Int32))] := lv_sub hl [2, 3, 1, 0] rfl
  exact L8 400 u1 r1 (0 : Int32) F1 A1 _ _ _ hl hP hD hS hf
def f_C_function (inner : Int32 → ST_F → ST_A → Option (Int32 × ST_F × ST_A)) (u1 : Int32) (u2 : Int32) (Fa : ST_F) (Aa : ST_A) : Option (Int32 × ST_F × ST_A) := if u1 = (65 : Int32) then (ra_bi (inner u2 Fa Aa) (fun r2 F2 A2 => ra_bi (f_C_each (10 : Int32) r2 F2 A2) (fun r3 F3 A3 => some (r3, F3, A3)))) else (if u1 = (70 : Int32) then (ra_bi (inner u2 Fa Aa) (fun r5 F5 A5 => ra_bi (f_C_each (11 : Int32) r5 F5 A5) (fun r6 F6 A6 => some (r6, F6, A6)))) else (if u1 = (86 : Int32) then (ra_bi (f_C_vector inner u2 Fa Aa) (fun r8 F8 A8 => some (r8, F8, A8))) else (ra_bi (f_C_functionOfTwo inner u1 u2 Fa Aa) (fun r9 F9 A9 => some (r9, F9, A9)))))
set_option maxHeartbeats 4000000 in
set_option maxRecDepth 100000 in
theorem k_C_function (l : Launch) (dC : Nat → ClassId) (dI : Nat → Nat → Nat) (a : Nat → Nat) (cI cC : ClassId) (fI lI : Nat) (inner : Int32 → ST_F → ST_A → Option (Int32 × ST_F × ST_A)) (hin : ∀ (sz : Nat) (Fa : ST_F) (Aa : ST_A) (u1 r0 : Int32) (F9 : ST_F) (A9 : ST_A), inner u1 Fa Aa = some (r0, F9, A9) → cc_MetI l y_C_sum (Cond.code y_C_sum b_C_sum 4 (some .int) :: wA) ({ frames := fI, cells := 0, slots := 0, locals := lI } : Room) (dC, dI) vC [(cI, .int), (cC, .char)] ([.ref (a 0), .int u1] : List Value) (wC a cI cC Fa Aa) sz (wC a cI cC F9 A9) r0) (sz : Nat) (Fa : ST_F) (Aa : ST_A) (u1 : Int32) (u2 : Int32) (r0 : Int32) (F9 : ST_F) (A9 : ST_A) (hf : f_C_function inner u1 u2 Fa Aa = some (r0, F9, A9)) : cc_MetI l y_C_function (Cond.code y_C_function b_C_function 3 (some .int) :: wA) ({ frames := (fI + 8), cells := 0, slots := 0, locals := (lI + 300) } : Room) (dC, dI) vC [(cI, .int), (cC, .char)] ([.ref (a 0), .int u1, .int u2] : List Value) (wC a cI cC Fa Aa) sz (wC a cI cC F9 A9) r0 := by
  refine Met.ofW (cc := b_C_function) (maxL := 3) (ret := (some .int)) (by decide) rfl ?_
  intro p e s m args below meth c s₁ B hml hv
  obtain ⟨rfl, hsz, hP, hK, hD0⟩ := hv
  have hx := B.exec
  have hb := B.bytes
  have hr := B.returns
  have hts := fun w h => atoms_spec (ws := (Cond.code y_C_function b_C_function 3 (some .int) :: wA)) B.pre w (List.mem_cons_of_mem _ h)
  have hown : s.vm.findClass R_C = some m.cls := findClass_of_methodNamed B.named
  have hlocks := B.notSynchronized
  subst hsz
  have hD := hD0.self (sz := s.heap.size)
  have hA : ∀ q : Nat, s.heap.size ≤ q → va_A (wC a cI cC Fa Aa) s.heap.size q := fun q h => Or.inr h
  have hS : va_S (va_A (wC a cI cC Fa Aa) s.heap.size) s.heap s.heap [] := va_S.rf
  have hl := lv_entry (([.ref (a 0), .int u1, .int u2] : List Value)) (n := 3) (Nat.le_of_ble_eq_true rfl)
  rw [lg_entry_eq]
  generalize (lg_sl (([.ref (a 0), .int u1, .int u2] : List Value)) ++ List.replicate (3 - (lg_sl (([.ref (a 0), .int u1, .int u2] : List Value))).length) Slot.unset).toArray = ls at hl ⊢
  have hl : lv_has ls 3 [(0, .ref (a 0)), (1, .int u1), (2, .int u2)] := hl
  unfold f_C_function at hf
  refine lv_iload_n hx hb d_C_function_0 rfl (lv_at hl 1 rfl) ?_
  by_cases h1_1 : u1 = (65 : Int32)
  · rw [if_pos h1_1] at hf
    refine lv_lookup (tgt := 36) (off := 35) hx hb d_C_function_1 (by decide) (by rw [h1_1]; decide) (by decide) ?_
    refine lv_aload_n hx hb d_C_function_36 rfl (lv_at hl 0 rfl) ?_
    refine lv_bipush (v := 10) hx hb d_C_function_37 (by decide) ?_
    refine lv_aload_n hx hb d_C_function_39 rfl (lv_at hl 0 rfl) ?_
    refine lv_iload_n hx hb d_C_function_40 rfl (lv_at hl 2 rfl) ?_
    have hP : va_P (dC, dI) vC (wC a cI cC Fa Aa) s.heap := hP
    have hD : va_D (va_A (wC a cI cC Fa Aa) s.heap.size) (wC a cI cC Fa Aa) := hD
    obtain ⟨r2, F2, A2, hc, hf⟩ := ra_bi_some hf
    refine cc_calli (va_runV (As := [.int u2]) (rest := [.int (10 : Int32), .ref (a 0)]) ⟨hx, hb, hml, hown, hts⟩ (hin  s.heap.size Fa Aa u2 r2 F2 A2 hc) (cw_V 1 hts mw_165 mw_167 ms_C_sum mw_3 mw_168 rfl rfl rfl hd_C_sum ⟨(show fI + 1 ≤ (fI + 8) by omega), (show 8 + (4 + 11) + lI ≤ (lI + 300) by omega)⟩) (cc_preV hK hP hD rfl (q0 := 0) rfl) rfl rfl hl.1 rfl (lv_room (Nat.le_of_ble_eq_true rfl)) d_C_function_41 ⟨Nat.zero_le _, Nat.zero_le _⟩) hD hS hA (fun H locs hP hD hS => ?_)
    have hP : va_P (dC, dI) vC (wC a cI cC F2 A2) H := hP
    have hD : va_D (va_A (wC a cI cC Fa Aa) s.heap.size) (wC a cI cC F2 A2) := hD
    obtain ⟨r3, F3, A3, hc, hf⟩ := ra_bi_some hf
    refine cc_calli (va_runV (As := [.int (10 : Int32), .int r2]) (rest := []) ⟨hx, hb, hml, hown, hts⟩ (k_C_each l dC dI a cI cC H.size F2 A2 (10 : Int32) r2 r3 F3 A3 hc) (cw_V 2 hts mw_219 mw_221 ms_C_each mw_3 mw_222 rfl rfl rfl hd_C_each ⟨(show 1 + 1 ≤ (fI + 8) by omega), (show 8 + (5 + 11) + 24 ≤ (lI + 300) by omega)⟩) (cc_preV hK hP hD rfl (q0 := 0) rfl) rfl rfl hl.1 rfl (lv_room (Nat.le_of_ble_eq_true rfl)) d_C_function_44 ⟨Nat.zero_le _, Nat.zero_le _⟩) hD hS hA (fun H locs hP hD hS => ?_)
    cases hf
    exact W.iret hx hb hr (fun t ht hW => ⟨⟨_, (), rfl, rfl, by rw [ht]; exact hP, va_K.moved hW.alike hK, hD⟩, hS.F ht⟩) hS.2.2 d_C_function_47
  · rw [if_neg h1_1] at hf
    by_cases h1_4 : u1 = (70 : Int32)
    · rw [if_pos h1_4] at hf
      refine lv_lookup (tgt := 48) (off := 47) hx hb d_C_function_1 (by decide) (by rw [h1_4]; decide) (by decide) ?_
      refine lv_aload_n hx hb d_C_function_48 rfl (lv_at hl 0 rfl) ?_
      refine lv_bipush (v := 11) hx hb d_C_function_49 (by decide) ?_
      refine lv_aload_n hx hb d_C_function_51 rfl (lv_at hl 0 rfl) ?_
      refine lv_iload_n hx hb d_C_function_52 rfl (lv_at hl 2 rfl) ?_
      have hP : va_P (dC, dI) vC (wC a cI cC Fa Aa) s.heap := hP
      have hD : va_D (va_A (wC a cI cC Fa Aa) s.heap.size) (wC a cI cC Fa Aa) := hD
      obtain ⟨r5, F5, A5, hc, hf⟩ := ra_bi_some hf
      refine cc_calli (va_runV (As := [.int u2]) (rest := [.int (11 : Int32), .ref (a 0)]) ⟨hx, hb, hml, hown, hts⟩ (hin  s.heap.size Fa Aa u2 r5 F5 A5 hc) (cw_V 1 hts mw_165 mw_167 ms_C_sum mw_3 mw_168 rfl rfl rfl hd_C_sum ⟨(show fI + 1 ≤ (fI + 8) by omega), (show 8 + (4 + 11) + lI ≤ (lI + 300) by omega)⟩) (cc_preV hK hP hD rfl (q0 := 0) rfl) rfl rfl hl.1 rfl (lv_room (Nat.le_of_ble_eq_true rfl)) d_C_function_53 ⟨Nat.zero_le _, Nat.zero_le _⟩) hD hS hA (fun H locs hP hD hS => ?_)
      have hP : va_P (dC, dI) vC (wC a cI cC F5 A5) H := hP
      have hD : va_D (va_A (wC a cI cC Fa Aa) s.heap.size) (wC a cI cC F5 A5) := hD
      obtain ⟨r6, F6, A6, hc, hf⟩ := ra_bi_some hf
      refine cc_calli (va_runV (As := [.int (11 : Int32), .int r5]) (rest := []) ⟨hx, hb, hml, hown, hts⟩ (k_C_each l dC dI a cI cC H.size F5 A5 (11 : Int32) r5 r6 F6 A6 hc) (cw_V 2 hts mw_219 mw_221 ms_C_each mw_3 mw_222 rfl rfl rfl hd_C_each ⟨(show 1 + 1 ≤ (fI + 8) by omega), (show 8 + (5 + 11) + 24 ≤ (lI + 300) by omega)⟩) (cc_preV hK hP hD rfl (q0 := 0) rfl) rfl rfl hl.1 rfl (lv_room (Nat.le_of_ble_eq_true rfl)) d_C_function_56 ⟨Nat.zero_le _, Nat.zero_le _⟩) hD hS hA (fun H locs hP hD hS => ?_)
      cases hf
      exact W.iret hx hb hr (fun t ht hW => ⟨⟨_, (), rfl, rfl, by rw [ht]; exact hP, va_K.moved hW.alike hK, hD⟩, hS.F ht⟩) hS.2.2 d_C_function_59
    · rw [if_neg h1_4] at hf
      by_cases h1_7 : u1 = (86 : Int32)
      · rw [if_pos h1_7] at hf
        refine lv_lookup (tgt := 60) (off := 59) hx hb d_C_function_1 (by decide) (by rw [h1_7]; decide) (by decide) ?_
        refine lv_aload_n hx hb d_C_function_60 rfl (lv_at hl 0 rfl) ?_
        refine lv_iload_n hx hb d_C_function_61 rfl (lv_at hl 2 rfl) ?_
        have hP : va_P (dC, dI) vC (wC a cI cC Fa Aa) s.heap := hP
        have hD : va_D (va_A (wC a cI cC Fa Aa) s.heap.size) (wC a cI cC Fa Aa) := hD
        obtain ⟨r8, F8, A8, hc, hf⟩ := ra_bi_some hf
        refine cc_calli (va_runV (As := [.int u2]) (rest := []) ⟨hx, hb, hml, hown, hts⟩ (k_C_vector l dC dI a cI cC fI lI inner hin s.heap.size Fa Aa u2 r8 F8 A8 hc) (cw_V 1 hts mw_229 mw_231 ms_C_vector mw_3 mw_232 rfl rfl rfl hd_C_vector ⟨(show (fI + 6) + 1 ≤ (fI + 8) by omega), (show 8 + (4 + 11) + (lI + 200) ≤ (lI + 300) by omega)⟩) (cc_preV hK hP hD rfl (q0 := 0) rfl) rfl rfl hl.1 rfl (lv_room (Nat.le_of_ble_eq_true rfl)) d_C_function_62 ⟨Nat.zero_le _, Nat.zero_le _⟩) hD hS hA (fun H locs hP hD hS => ?_)
        cases hf
        exact W.iret hx hb hr (fun t ht hW => ⟨⟨_, (), rfl, rfl, by rw [ht]; exact hP, va_K.moved hW.alike hK, hD⟩, hS.F ht⟩) hS.2.2 d_C_function_65
      · rw [if_neg h1_7] at hf
        refine lv_lookup (tgt := 66) (off := 65) hx hb d_C_function_1 (by decide) ((lv_osw h1_1 (by decide)).trans ((lv_osw h1_4 (by decide)).trans ((lv_osw h1_7 (by decide)).trans (rfl)))) (by decide) ?_
        refine lv_aload_n hx hb d_C_function_66 rfl (lv_at hl 0 rfl) ?_
        refine lv_iload_n hx hb d_C_function_67 rfl (lv_at hl 1 rfl) ?_
        refine lv_iload_n hx hb d_C_function_68 rfl (lv_at hl 2 rfl) ?_
        have hP : va_P (dC, dI) vC (wC a cI cC Fa Aa) s.heap := hP
        have hD : va_D (va_A (wC a cI cC Fa Aa) s.heap.size) (wC a cI cC Fa Aa) := hD
        obtain ⟨r9, F9, A9, hc, hf⟩ := ra_bi_some hf
        refine cc_calli (va_runV (As := [.int u1, .int u2]) (rest := []) ⟨hx, hb, hml, hown, hts⟩ (k_C_functionOfTwo l dC dI a cI cC fI lI inner hin s.heap.size Fa Aa u1 u2 r9 F9 A9 hc) (cw_V 2 hts mw_240 mw_242 ms_C_functionOfTwo mw_3 mw_243 rfl rfl rfl hd_C_functionOfTwo ⟨(show (fI + 6) + 1 ≤ (fI + 8) by omega), (show 8 + (5 + 11) + (lI + 200) ≤ (lI + 300) by omega)⟩) (cc_preV hK hP hD rfl (q0 := 0) rfl) rfl rfl hl.1 rfl (lv_room (Nat.le_of_ble_eq_true rfl)) d_C_function_69 ⟨Nat.zero_le _, Nat.zero_le _⟩) hD hS hA (fun H locs hP hD hS => ?_)
        cases hf
        exact W.iret hx hb hr (fun t ht hW => ⟨⟨_, (), rfl, rfl, by rw [ht]; exact hP, va_K.moved hW.alike hK, hD⟩, hS.F ht⟩) hS.2.2 d_C_function_72
def f_C_part_J87 (inner : Int32 → ST_F → ST_A → Option (Int32 × ST_F × ST_A)) (x1 : Int32) (x2 : Int32) (x3 : Int32) (F : ST_F) (A : ST_A) : Option (Int32 × ST_F × ST_A) := ra_bi (f_C_takes (41 : Int32) F A) (fun r8 F8 A8 => if r8 = 0 then (some ((-1 : Int32), F8, A8)) else (some (x3, F8, A8)))
def f_C_part_J86 (inner : Int32 → ST_F → ST_A → Option (Int32 × ST_F × ST_A)) (x1 : Int32) (x2 : Int32) (z0 : Int32) (F : ST_F) (A : ST_A) : Option (Int32 × ST_F × ST_A) := f_C_part_J87 inner x1 x2 z0 F A
def f_C_part (inner : Int32 → ST_F → ST_A → Option (Int32 × ST_F × ST_A)) (u1 : Int32) (Fa : ST_F) (Aa : ST_A) : Option (Int32 × ST_F × ST_A) := ra_bi (f_C_next  Fa Aa) (fun r1 F1 A1 => if (f_C_isSmall r1) = 0 then (if u1 < (5 : Int32) then (ra_bi (f_C_takes (40 : Int32) F1 A1) (fun r4 F4 A4 => if r4 = 0 then (ra_bi (f_C_takes (40 : Int32) (upd F4 1 ((F4 1) + (1 : Int32))) A4) (fun r6 F6 A6 => if r6 = 0 then (f_C_part_J86 inner u1 r1 (-1 : Int32) F6 A6) else (ra_bi (f_C_function inner r1 (u1 + (1 : Int32)) F6 A6) (fun r10 F10 A10 => f_C_part_J86 inner u1 r1 r10 F10 A10)))) else (ra_bi (inner (u1 + (1 : Int32)) F4 A4) (fun r11 F11 A11 => f_C_part_J87 inner u1 r1 r11 F11 A11)))) else (some ((-1 : Int32), F1, A1))) else (ra_bi (f_C_letter r1 (upd F1 1 ((F1 1) + (1 : Int32))) A1) (fun r12 F12 A12 => some (r12, F12, A12))))
set_option maxHeartbeats 4000000 in
set_option maxRecDepth 100000 in
theorem k_C_part (l : Launch) (dC : Nat → ClassId) (dI : Nat → Nat → Nat) (a : Nat → Nat) (cI cC : ClassId) (fI lI : Nat) (inner : Int32 → ST_F → ST_A → Option (Int32 × ST_F × ST_A)) (hin : ∀ (sz : Nat) (Fa : ST_F) (Aa : ST_A) (u1 r0 : Int32) (F9 : ST_F) (A9 : ST_A), inner u1 Fa Aa = some (r0, F9, A9) → cc_MetI l y_C_sum (Cond.code y_C_sum b_C_sum 4 (some .int) :: wA) ({ frames := fI, cells := 0, slots := 0, locals := lI } : Room) (dC, dI) vC [(cI, .int), (cC, .char)] ([.ref (a 0), .int u1] : List Value) (wC a cI cC Fa Aa) sz (wC a cI cC F9 A9) r0) (sz : Nat) (Fa : ST_F) (Aa : ST_A) (u1 : Int32) (r0 : Int32) (F9 : ST_F) (A9 : ST_A) (hf : f_C_part inner u1 Fa Aa = some (r0, F9, A9)) : cc_MetI l y_C_part (Cond.code y_C_part b_C_part 4 (some .int) :: wA) ({ frames := (fI + 10), cells := 0, slots := 0, locals := (lI + 400) } : Room) (dC, dI) vC [(cI, .int), (cC, .char)] ([.ref (a 0), .int u1] : List Value) (wC a cI cC Fa Aa) sz (wC a cI cC F9 A9) r0 := by
  refine Met.ofW (cc := b_C_part) (maxL := 4) (ret := (some .int)) (by decide) rfl ?_
  intro p e s m args below meth c s₁ B hml hv
  obtain ⟨rfl, hsz, hP, hK, hD0⟩ := hv
  have hx := B.exec
  have hb := B.bytes
  have hr := B.returns
  have hts := fun w h => atoms_spec (ws := (Cond.code y_C_part b_C_part 4 (some .int) :: wA)) B.pre w (List.mem_cons_of_mem _ h)
  have hown : s.vm.findClass R_C = some m.cls := findClass_of_methodNamed B.named
  have hlocks := B.notSynchronized
  subst hsz
  have hD := hD0.self (sz := s.heap.size)
  have hA : ∀ q : Nat, s.heap.size ≤ q → va_A (wC a cI cC Fa Aa) s.heap.size q := fun q h => Or.inr h
  have hS : va_S (va_A (wC a cI cC Fa Aa) s.heap.size) s.heap s.heap [] := va_S.rf
  have hl := lv_entry (([.ref (a 0), .int u1] : List Value)) (n := 4) (Nat.le_of_ble_eq_true rfl)
  have J87 : ∀ (x1 : Int32) (x2 : Int32) (x3 : Int32) (F : ST_F) (A : ST_A) (H : Heap) (locs : List Loc) (ls : Array Slot), lv_has ls 4 [(0, .ref (a 0)), (1, .int x1), (2, .int x2), (3, .int x3)] → va_P (dC, dI) vC (wC a cI cC F A) H → va_D (va_A (wC a cI cC Fa Aa) s.heap.size) (wC a cI cC F A) → va_S (va_A (wC a cI cC Fa Aa) s.heap.size) s.heap H locs → f_C_part_J87 inner x1 x2 x3 F A = some (r0, F9, A9) → W p l e (headSpec (Cond.code y_C_part b_C_part 4 (some .int) :: wA) ({ frames := (fI + 10), cells := 0, slots := 0, locals := (lI + 400) } : Room)).room s m ([.ref (a 0), .int u1] : List Value).toArray below meth c H locs 0 0 (MQ below (cc_Qi (dC, dI) vC [(cI, .int), (cC, .char)] (wC a cI cC Fa Aa) s.heap.size (wC a cI cC F9 A9) r0) ([.ref (a 0), .int u1] : List Value).toArray s 0 0 (va_A (wC a cI cC Fa Aa) s.heap.size)) (F0 m 87 ls []) := by
    intro x1 x2 x3 F A H locs ls hl hP hD hS hf
    unfold f_C_part_J87 at hf
    refine lv_aload_n hx hb d_C_part_87 rfl (lv_at hl 0 rfl) ?_
    refine lv_bipush (v := 41) hx hb d_C_part_88 (by decide) ?_
    have hP : va_P (dC, dI) vC (wC a cI cC F A) H := hP
    have hD : va_D (va_A (wC a cI cC Fa Aa) s.heap.size) (wC a cI cC F A) := hD
    obtain ⟨r8, F8, A8, hc, hf⟩ := ra_bi_some hf
    refine cc_calli (va_runV (As := [.int (41 : Int32)]) (rest := []) ⟨hx, hb, hml, hown, hts⟩ (k_C_takes l dC dI a cI cC H.size F A (41 : Int32) r8 F8 A8 hc) (cw_V 1 hts mw_177 mw_179 ms_C_takes mw_3 mw_180 rfl rfl rfl hd_C_takes ⟨(show 1 + 1 ≤ (fI + 10) by omega), (show 8 + (2 + 11) + 20 ≤ (lI + 400) by omega)⟩) (cc_preV hK hP hD rfl (q0 := 0) rfl) rfl rfl hl.1 rfl (lv_room (Nat.le_of_ble_eq_true rfl)) d_C_part_90 ⟨Nat.zero_le _, Nat.zero_le _⟩) hD hS hA (fun H locs hP hD hS => ?_)
    refine lv_if_eq (tgt := 100) hx hb d_C_part_93 (by decide) (fun h93_9 => ?_) (fun h93_9 => ?_)
    · rw [if_pos h93_9] at hf
      refine lv_iconst (v := -1) hx hb d_C_part_100 (by decide) ?_
      cases hf
      exact W.iret hx hb hr (fun t ht hW => ⟨⟨_, (), rfl, rfl, by rw [ht]; exact hP, va_K.moved hW.alike hK, hD⟩, hS.F ht⟩) hS.2.2 d_C_part_101
    · rw [if_neg h93_9] at hf
      refine lv_iload_n hx hb d_C_part_96 rfl (lv_at hl 3 rfl) ?_
      refine lv_goto (tgt := 101) hx hb d_C_part_97 (by decide) ?_
      cases hf
      exact W.iret hx hb hr (fun t ht hW => ⟨⟨_, (), rfl, rfl, by rw [ht]; exact hP, va_K.moved hW.alike hK, hD⟩, hS.F ht⟩) hS.2.2 d_C_part_101
  have J86 : ∀ (x1 : Int32) (x2 : Int32) (z0 : Int32) (F : ST_F) (A : ST_A) (H : Heap) (locs : List Loc) (ls : Array Slot), lv_has ls 4 [(0, .ref (a 0)), (1, .int x1), (2, .int x2)] → va_P (dC, dI) vC (wC a cI cC F A) H → va_D (va_A (wC a cI cC Fa Aa) s.heap.size) (wC a cI cC F A) → va_S (va_A (wC a cI cC Fa Aa) s.heap.size) s.heap H locs → f_C_part_J86 inner x1 x2 z0 F A = some (r0, F9, A9) → W p l e (headSpec (Cond.code y_C_part b_C_part 4 (some .int) :: wA) ({ frames := (fI + 10), cells := 0, slots := 0, locals := (lI + 400) } : Room)).room s m ([.ref (a 0), .int u1] : List Value).toArray below meth c H locs 0 0 (MQ below (cc_Qi (dC, dI) vC [(cI, .int), (cC, .char)] (wC a cI cC Fa Aa) s.heap.size (wC a cI cC F9 A9) r0) ([.ref (a 0), .int u1] : List Value).toArray s 0 0 (va_A (wC a cI cC Fa Aa) s.heap.size)) (F0 m 86 ls [.int z0]) := by
    intro x1 x2 z0 F A H locs ls hl hP hD hS hf
    unfold f_C_part_J86 at hf
    refine lv_istore_n hx hb d_C_part_86 rfl hl (by decide) rfl (fun ls hl => ?_)
    have hl : lv_has ls 4 [(3, .int z0), (0, .ref (a 0)), (1, .int x1), (2, .int x2)] := hl
    have hl : lv_has ls 4 [(0, .ref (a 0)), (1, .int x1), (2, .int x2), (3, .int z0)] := lv_sub hl [1, 2, 3, 0] rfl
    exact J87 x1 x2 z0 F A _ _ _ hl hP hD hS hf
  rw [lg_entry_eq]
  generalize (lg_sl (([.ref (a 0), .int u1] : List Value)) ++ List.replicate (4 - (lg_sl (([.ref (a 0), .int u1] : List Value))).length) Slot.unset).toArray = ls at hl ⊢
  have hl : lv_has ls 4 [(0, .ref (a 0)), (1, .int u1)] := hl
  unfold f_C_part at hf
  refine lv_aload_n hx hb d_C_part_0 rfl (lv_at hl 0 rfl) ?_
  have hP : va_P (dC, dI) vC (wC a cI cC Fa Aa) s.heap := hP
  have hD : va_D (va_A (wC a cI cC Fa Aa) s.heap.size) (wC a cI cC Fa Aa) := hD
  obtain ⟨r1, F1, A1, hc, hf⟩ := ra_bi_some hf
  refine cc_calli (va_runV (As := []) (rest := []) ⟨hx, hb, hml, hown, hts⟩ (k_C_next l dC dI a cI cC s.heap.size Fa Aa  r1 F1 A1 hc) (cw_V 0 hts mw_155 mw_157 ms_C_next mw_3 mw_158 rfl rfl rfl hd_C_next ⟨(show 0 + 1 ≤ (fI + 10) by omega), (show 8 + (1 + 11) + 0 ≤ (lI + 400) by omega)⟩) (cc_preV hK hP hD rfl (q0 := 0) rfl) rfl rfl hl.1 rfl (lv_room (Nat.le_of_ble_eq_true rfl)) d_C_part_1 ⟨Nat.zero_le _, Nat.zero_le _⟩) hD hS hA (fun H locs hP hD hS => ?_)
  refine lv_istore_n hx hb d_C_part_4 rfl hl (by decide) rfl (fun ls hl => ?_)
  have hl : lv_has ls 4 [(2, .int r1), (0, .ref (a 0)), (1, .int u1)] := hl
  refine lv_iload_n hx hb d_C_part_5 rfl (lv_at hl 0 rfl) ?_
  refine cc_calls (va_runS (As := [.int r1]) (rest := []) ⟨hx, hb, hml, hown, hts⟩ (k_C_isSmall l r1 _ rfl) (cw_S 1 hts mw_148 mw_149 mw_3 mw_150 rfl rfl hd_C_isSmall ⟨(show 0 + 1 ≤ (fI + 10) by omega), (show 8 + (1 + 11) + 0 ≤ (lI + 400) by omega)⟩) cc_preS rfl rfl hl.1 rfl (lv_room (Nat.le_of_ble_eq_true rfl)) d_C_part_6 ⟨Nat.zero_le _, Nat.zero_le _⟩) ?_
  refine lv_if_eq (tgt := 28) hx hb d_C_part_9 (by decide) (fun h9_2 => ?_) (fun h9_2 => ?_)
  · rw [if_pos h9_2] at hf
    refine lv_iload_n hx hb d_C_part_28 rfl (lv_at hl 2 rfl) ?_
    refine lv_iconst (v := 5) hx hb d_C_part_29 (by decide) ?_
    refine lv_icmp_lt (tgt := 35) hx hb d_C_part_30 (by decide) (fun h30_3 => ?_) (fun h30_3 => ?_)
    · rw [if_pos h30_3] at hf
      refine lv_aload_n hx hb d_C_part_35 rfl (lv_at hl 1 rfl) ?_
      refine lv_bipush (v := 40) hx hb d_C_part_36 (by decide) ?_
      have hP : va_P (dC, dI) vC (wC a cI cC F1 A1) H := hP
      have hD : va_D (va_A (wC a cI cC Fa Aa) s.heap.size) (wC a cI cC F1 A1) := hD
      obtain ⟨r4, F4, A4, hc, hf⟩ := ra_bi_some hf
      refine cc_calli (va_runV (As := [.int (40 : Int32)]) (rest := []) ⟨hx, hb, hml, hown, hts⟩ (k_C_takes l dC dI a cI cC H.size F1 A1 (40 : Int32) r4 F4 A4 hc) (cw_V 1 hts mw_177 mw_179 ms_C_takes mw_3 mw_180 rfl rfl rfl hd_C_takes ⟨(show 1 + 1 ≤ (fI + 10) by omega), (show 8 + (2 + 11) + 20 ≤ (lI + 400) by omega)⟩) (cc_preV hK hP hD rfl (q0 := 0) rfl) rfl rfl hl.1 rfl (lv_room (Nat.le_of_ble_eq_true rfl)) d_C_part_38 ⟨Nat.zero_le _, Nat.zero_le _⟩) hD hS hA (fun H locs hP hD hS => ?_)
      refine lv_if_eq (tgt := 55) hx hb d_C_part_41 (by decide) (fun h41_5 => ?_) (fun h41_5 => ?_)
      · rw [if_pos h41_5] at hf
        refine lv_aload_n hx hb d_C_part_55 rfl (lv_at hl 1 rfl) ?_
        refine lv_dup hx hb d_C_part_56 rfl ?_
        refine va_get (D := (dC, dI)) (ci := 1) (v := .int (F4 1)) (C := R_C) (T := T_C) (N := 5) hx hb hts in_C hown hK hP 0 rfl rfl 3 (by decide) (hts _ mw_78) (fun _ h9 => h9) rfl d_C_part_57 ?_
        refine lv_iconst (v := 1) hx hb d_C_part_60 (by decide) ?_
        refine lv_iadd hx hb d_C_part_61 ?_
        refine va_put (D := (dC, dI)) (ci := 1) (v := .int ((F4 1) + (1 : Int32))) (ty := .int) (C := R_C) (T := T_C) (N := 5) hx hb hts in_C ty_C ty_C_ok nm_C hown hK hP hD hS 0 rfl rfl 3 (by decide) (hts _ mw_78) (fun _ h9 => h9) rfl (by decide +kernel) rfl rfl (Nat.le_of_ble_eq_true rfl) d_C_part_62 (fun H locs hP hD hS => ?_)
        have hP : va_P (dC, dI) vC [((a 0), .inr (1, [.ref (a 1), .ref (a 2), .int (F4 0), .int ((F4 1) + (1 : Int32)), .ref (a 3)])), ((a 1), .inl (cI, 26, .inl (A4 0))), ((a 2), .inl (cC, 160, .inl (A4 1))), ((a 3), .inr (0, [.ref (a 4), .ref (a 5), .ref (a 6), .ref (a 7), .ref (a 8), .int (F4 2), .int (F4 3)])), ((a 4), .inl (cI, 100, .inl (A4 2))), ((a 5), .inl (cI, 100, .inl (A4 3))), ((a 6), .inl (cI, 100, .inl (A4 4))), ((a 7), .inl (cI, 3, .inl (A4 5))), ((a 8), .inl (cI, 26, .inl (A4 6)))] H := hP
        have hD : va_D (va_A (wC a cI cC Fa Aa) s.heap.size) [((a 0), .inr (1, [.ref (a 1), .ref (a 2), .int (F4 0), .int ((F4 1) + (1 : Int32)), .ref (a 3)])), ((a 1), .inl (cI, 26, .inl (A4 0))), ((a 2), .inl (cC, 160, .inl (A4 1))), ((a 3), .inr (0, [.ref (a 4), .ref (a 5), .ref (a 6), .ref (a 7), .ref (a 8), .int (F4 2), .int (F4 3)])), ((a 4), .inl (cI, 100, .inl (A4 2))), ((a 5), .inl (cI, 100, .inl (A4 3))), ((a 6), .inl (cI, 100, .inl (A4 4))), ((a 7), .inl (cI, 3, .inl (A4 5))), ((a 8), .inl (cI, 26, .inl (A4 6)))] := hD
        refine lv_aload_n hx hb d_C_part_65 rfl (lv_at hl 1 rfl) ?_
        refine lv_bipush (v := 40) hx hb d_C_part_66 (by decide) ?_
        have hP : va_P (dC, dI) vC (wC a cI cC (upd F4 1 ((F4 1) + (1 : Int32))) A4) H := hP
        have hD : va_D (va_A (wC a cI cC Fa Aa) s.heap.size) (wC a cI cC (upd F4 1 ((F4 1) + (1 : Int32))) A4) := hD
        obtain ⟨r6, F6, A6, hc, hf⟩ := ra_bi_some hf
        refine cc_calli (va_runV (As := [.int (40 : Int32)]) (rest := []) ⟨hx, hb, hml, hown, hts⟩ (k_C_takes l dC dI a cI cC H.size (upd F4 1 ((F4 1) + (1 : Int32))) A4 (40 : Int32) r6 F6 A6 hc) (cw_V 1 hts mw_177 mw_179 ms_C_takes mw_3 mw_180 rfl rfl rfl hd_C_takes ⟨(show 1 + 1 ≤ (fI + 10) by omega), (show 8 + (2 + 11) + 20 ≤ (lI + 400) by omega)⟩) (cc_preV hK hP hD rfl (q0 := 0) rfl) rfl rfl hl.1 rfl (lv_room (Nat.le_of_ble_eq_true rfl)) d_C_part_68 ⟨Nat.zero_le _, Nat.zero_le _⟩) hD hS hA (fun H locs hP hD hS => ?_)
        refine lv_if_eq (tgt := 85) hx hb d_C_part_71 (by decide) (fun h71_7 => ?_) (fun h71_7 => ?_)
        · rw [if_pos h71_7] at hf
          refine lv_iconst (v := -1) hx hb d_C_part_85 (by decide) ?_
          have hl : lv_has ls 4 [(0, .ref (a 0)), (1, .int u1), (2, .int r1)] := lv_sub hl [1, 2, 0] rfl
          exact J86 u1 r1 (-1 : Int32) F6 A6 _ _ _ hl hP hD hS hf
        · rw [if_neg h71_7] at hf
          refine lv_aload_n hx hb d_C_part_74 rfl (lv_at hl 1 rfl) ?_
          refine lv_iload_n hx hb d_C_part_75 rfl (lv_at hl 0 rfl) ?_
          refine lv_iload_n hx hb d_C_part_76 rfl (lv_at hl 2 rfl) ?_
          refine lv_iconst (v := 1) hx hb d_C_part_77 (by decide) ?_
          refine lv_iadd hx hb d_C_part_78 ?_
          have hP : va_P (dC, dI) vC (wC a cI cC F6 A6) H := hP
          have hD : va_D (va_A (wC a cI cC Fa Aa) s.heap.size) (wC a cI cC F6 A6) := hD
          obtain ⟨r10, F10, A10, hc, hf⟩ := ra_bi_some hf
          refine cc_calli (va_runV (As := [.int r1, .int (u1 + (1 : Int32))]) (rest := []) ⟨hx, hb, hml, hown, hts⟩ (k_C_function l dC dI a cI cC fI lI inner hin H.size F6 A6 r1 (u1 + (1 : Int32)) r10 F10 A10 hc) (cw_V 2 hts mw_215 mw_217 ms_C_function mw_3 mw_218 rfl rfl rfl hd_C_function ⟨(show (fI + 8) + 1 ≤ (fI + 10) by omega), (show 8 + (3 + 11) + (lI + 300) ≤ (lI + 400) by omega)⟩) (cc_preV hK hP hD rfl (q0 := 0) rfl) rfl rfl hl.1 rfl (lv_room (Nat.le_of_ble_eq_true rfl)) d_C_part_79 ⟨Nat.zero_le _, Nat.zero_le _⟩) hD hS hA (fun H locs hP hD hS => ?_)
          refine lv_goto (tgt := 86) hx hb d_C_part_82 (by decide) ?_
          have hl : lv_has ls 4 [(0, .ref (a 0)), (1, .int u1), (2, .int r1)] := lv_sub hl [1, 2, 0] rfl
          exact J86 u1 r1 r10 F10 A10 _ _ _ hl hP hD hS hf
      · rw [if_neg h41_5] at hf
        refine lv_aload_n hx hb d_C_part_44 rfl (lv_at hl 1 rfl) ?_
        refine lv_iload_n hx hb d_C_part_45 rfl (lv_at hl 2 rfl) ?_
        refine lv_iconst (v := 1) hx hb d_C_part_46 (by decide) ?_
        refine lv_iadd hx hb d_C_part_47 ?_
        have hP : va_P (dC, dI) vC (wC a cI cC F4 A4) H := hP
        have hD : va_D (va_A (wC a cI cC Fa Aa) s.heap.size) (wC a cI cC F4 A4) := hD
        obtain ⟨r11, F11, A11, hc, hf⟩ := ra_bi_some hf
        refine cc_calli (va_runV (As := [.int (u1 + (1 : Int32))]) (rest := []) ⟨hx, hb, hml, hown, hts⟩ (hin  H.size F4 A4 (u1 + (1 : Int32)) r11 F11 A11 hc) (cw_V 1 hts mw_165 mw_167 ms_C_sum mw_3 mw_168 rfl rfl rfl hd_C_sum ⟨(show fI + 1 ≤ (fI + 10) by omega), (show 8 + (4 + 11) + lI ≤ (lI + 400) by omega)⟩) (cc_preV hK hP hD rfl (q0 := 0) rfl) rfl rfl hl.1 rfl (lv_room (Nat.le_of_ble_eq_true rfl)) d_C_part_48 ⟨Nat.zero_le _, Nat.zero_le _⟩) hD hS hA (fun H locs hP hD hS => ?_)
        refine lv_istore_n hx hb d_C_part_51 rfl hl (by decide) rfl (fun ls hl => ?_)
        have hl : lv_has ls 4 [(3, .int r11), (2, .int r1), (0, .ref (a 0)), (1, .int u1)] := hl
        refine lv_goto (tgt := 87) hx hb d_C_part_52 (by decide) ?_
        have hl : lv_has ls 4 [(0, .ref (a 0)), (1, .int u1), (2, .int r1), (3, .int r11)] := lv_sub hl [2, 3, 1, 0] rfl
        exact J87 u1 r1 r11 F11 A11 _ _ _ hl hP hD hS hf
    · rw [if_neg h30_3] at hf
      refine lv_iconst (v := -1) hx hb d_C_part_33 (by decide) ?_
      cases hf
      exact W.iret hx hb hr (fun t ht hW => ⟨⟨_, (), rfl, rfl, by rw [ht]; exact hP, va_K.moved hW.alike hK, hD⟩, hS.F ht⟩) hS.2.2 d_C_part_34
  · rw [if_neg h9_2] at hf
    refine lv_aload_n hx hb d_C_part_12 rfl (lv_at hl 1 rfl) ?_
    refine lv_dup hx hb d_C_part_13 rfl ?_
    refine va_get (D := (dC, dI)) (ci := 1) (v := .int (F1 1)) (C := R_C) (T := T_C) (N := 5) hx hb hts in_C hown hK hP 0 rfl rfl 3 (by decide) (hts _ mw_78) (fun _ h9 => h9) rfl d_C_part_14 ?_
    refine lv_iconst (v := 1) hx hb d_C_part_17 (by decide) ?_
    refine lv_iadd hx hb d_C_part_18 ?_
    refine va_put (D := (dC, dI)) (ci := 1) (v := .int ((F1 1) + (1 : Int32))) (ty := .int) (C := R_C) (T := T_C) (N := 5) hx hb hts in_C ty_C ty_C_ok nm_C hown hK hP hD hS 0 rfl rfl 3 (by decide) (hts _ mw_78) (fun _ h9 => h9) rfl (by decide +kernel) rfl rfl (Nat.le_of_ble_eq_true rfl) d_C_part_19 (fun H locs hP hD hS => ?_)
    have hP : va_P (dC, dI) vC [((a 0), .inr (1, [.ref (a 1), .ref (a 2), .int (F1 0), .int ((F1 1) + (1 : Int32)), .ref (a 3)])), ((a 1), .inl (cI, 26, .inl (A1 0))), ((a 2), .inl (cC, 160, .inl (A1 1))), ((a 3), .inr (0, [.ref (a 4), .ref (a 5), .ref (a 6), .ref (a 7), .ref (a 8), .int (F1 2), .int (F1 3)])), ((a 4), .inl (cI, 100, .inl (A1 2))), ((a 5), .inl (cI, 100, .inl (A1 3))), ((a 6), .inl (cI, 100, .inl (A1 4))), ((a 7), .inl (cI, 3, .inl (A1 5))), ((a 8), .inl (cI, 26, .inl (A1 6)))] H := hP
    have hD : va_D (va_A (wC a cI cC Fa Aa) s.heap.size) [((a 0), .inr (1, [.ref (a 1), .ref (a 2), .int (F1 0), .int ((F1 1) + (1 : Int32)), .ref (a 3)])), ((a 1), .inl (cI, 26, .inl (A1 0))), ((a 2), .inl (cC, 160, .inl (A1 1))), ((a 3), .inr (0, [.ref (a 4), .ref (a 5), .ref (a 6), .ref (a 7), .ref (a 8), .int (F1 2), .int (F1 3)])), ((a 4), .inl (cI, 100, .inl (A1 2))), ((a 5), .inl (cI, 100, .inl (A1 3))), ((a 6), .inl (cI, 100, .inl (A1 4))), ((a 7), .inl (cI, 3, .inl (A1 5))), ((a 8), .inl (cI, 26, .inl (A1 6)))] := hD
    refine lv_aload_n hx hb d_C_part_22 rfl (lv_at hl 1 rfl) ?_
    refine lv_iload_n hx hb d_C_part_23 rfl (lv_at hl 0 rfl) ?_
    have hP : va_P (dC, dI) vC (wC a cI cC (upd F1 1 ((F1 1) + (1 : Int32))) A1) H := hP
    have hD : va_D (va_A (wC a cI cC Fa Aa) s.heap.size) (wC a cI cC (upd F1 1 ((F1 1) + (1 : Int32))) A1) := hD
    obtain ⟨r12, F12, A12, hc, hf⟩ := ra_bi_some hf
    refine cc_calli (va_runV (As := [.int r1]) (rest := []) ⟨hx, hb, hml, hown, hts⟩ (k_C_letter l dC dI a cI cC H.size (upd F1 1 ((F1 1) + (1 : Int32))) A1 r1 r12 F12 A12 hc) (cw_V 1 hts mw_207 mw_209 ms_C_letter mw_3 mw_210 rfl rfl rfl hd_C_letter ⟨(show 2 + 1 ≤ (fI + 10) by omega), (show 8 + (2 + 11) + 48 ≤ (lI + 400) by omega)⟩) (cc_preV hK hP hD rfl (q0 := 0) rfl) rfl rfl hl.1 rfl (lv_room (Nat.le_of_ble_eq_true rfl)) d_C_part_24 ⟨Nat.zero_le _, Nat.zero_le _⟩) hD hS hA (fun H locs hP hD hS => ?_)
    cases hf
    exact W.iret hx hb hr (fun t ht hW => ⟨⟨_, (), rfl, rfl, by rw [ht]; exact hP, va_K.moved hW.alike hK, hD⟩, hS.F ht⟩) hS.2.2 d_C_part_27
def f_C_unit_L54 (inner : Int32 → ST_F → ST_A → Option (Int32 × ST_F × ST_A)) : Nat → Int32 → Int32 → Int32 → Int32 → ST_F → ST_A → Option (Int32 × ST_F × ST_A)
  | 0, _, _, _, _, _, _ => none
  | n + 1, x1, x2, x3, x4, F, A => if x2 ≤ x4 then (some (x3, F, A)) else (ra_bi (f_C_each (9 : Int32) x3 F A) (fun r7 F7 A7 => f_C_unit_L54 inner n x1 x2 r7 (x4 + (1 : Int32)) F7 A7))
def f_C_unit_J24 (inner : Int32 → ST_F → ST_A → Option (Int32 × ST_F × ST_A)) (x1 : Int32) (x2 : Int32) (F : ST_F) (A : ST_A) : Option (Int32 × ST_F × ST_A) := ra_bi (f_C_next  F A) (fun r2 F2 A2 => if (f_C_isDigit r2) = 0 then (ra_bi (f_C_part inner x1 F2 A2) (fun r4 F4 A4 => ra_bi (f_C_picked r4 F4 A4) (fun r5 F5 A5 => f_C_unit_L54 inner 400 x1 x2 r5 (0 : Int32) F5 A5))) else (ra_bi (f_C_constant  F2 A2) (fun r8 F8 A8 => f_C_unit_L54 inner 400 x1 x2 r8 (0 : Int32) F8 A8)))
def f_C_unit_L2 (inner : Int32 → ST_F → ST_A → Option (Int32 × ST_F × ST_A)) : Nat → Int32 → Int32 → ST_F → ST_A → Option (Int32 × ST_F × ST_A)
  | 0, _, _, _, _ => none
  | n + 1, x1, x2, F, A => if (160 : Int32) ≤ x2 then (f_C_unit_J24 inner x1 x2 F A) else (ra_bi (f_C_takes (45 : Int32) F A) (fun r9 F9 A9 => if r9 = 0 then (f_C_unit_J24 inner x1 x2 F9 A9) else (f_C_unit_L2 inner n x1 (x2 + (1 : Int32)) F9 A9)))
def f_C_unit (inner : Int32 → ST_F → ST_A → Option (Int32 × ST_F × ST_A)) (u1 : Int32) (Fa : ST_F) (Aa : ST_A) : Option (Int32 × ST_F × ST_A) := f_C_unit_L2 inner 400 u1 (0 : Int32) Fa Aa
set_option maxHeartbeats 4000000 in
set_option maxRecDepth 100000 in
theorem k_C_unit (l : Launch) (dC : Nat → ClassId) (dI : Nat → Nat → Nat) (a : Nat → Nat) (cI cC : ClassId) (fI lI : Nat) (inner : Int32 → ST_F → ST_A → Option (Int32 × ST_F × ST_A)) (hin : ∀ (sz : Nat) (Fa : ST_F) (Aa : ST_A) (u1 r0 : Int32) (F9 : ST_F) (A9 : ST_A), inner u1 Fa Aa = some (r0, F9, A9) → cc_MetI l y_C_sum (Cond.code y_C_sum b_C_sum 4 (some .int) :: wA) ({ frames := fI, cells := 0, slots := 0, locals := lI } : Room) (dC, dI) vC [(cI, .int), (cC, .char)] ([.ref (a 0), .int u1] : List Value) (wC a cI cC Fa Aa) sz (wC a cI cC F9 A9) r0) (sz : Nat) (Fa : ST_F) (Aa : ST_A) (u1 : Int32) (r0 : Int32) (F9 : ST_F) (A9 : ST_A) (hf : f_C_unit inner u1 Fa Aa = some (r0, F9, A9)) : cc_MetI l y_C_unit (Cond.code y_C_unit b_C_unit 5 (some .int) :: wA) ({ frames := (fI + 12), cells := 0, slots := 0, locals := (lI + 500) } : Room) (dC, dI) vC [(cI, .int), (cC, .char)] ([.ref (a 0), .int u1] : List Value) (wC a cI cC Fa Aa) sz (wC a cI cC F9 A9) r0 := by
  refine Met.ofW (cc := b_C_unit) (maxL := 5) (ret := (some .int)) (by decide) rfl ?_
  intro p e s m args below meth c s₁ B hml hv
  obtain ⟨rfl, hsz, hP, hK, hD0⟩ := hv
  have hx := B.exec
  have hb := B.bytes
  have hr := B.returns
  have hts := fun w h => atoms_spec (ws := (Cond.code y_C_unit b_C_unit 5 (some .int) :: wA)) B.pre w (List.mem_cons_of_mem _ h)
  have hown : s.vm.findClass R_C = some m.cls := findClass_of_methodNamed B.named
  have hlocks := B.notSynchronized
  subst hsz
  have hD := hD0.self (sz := s.heap.size)
  have hA : ∀ q : Nat, s.heap.size ≤ q → va_A (wC a cI cC Fa Aa) s.heap.size q := fun q h => Or.inr h
  have hS : va_S (va_A (wC a cI cC Fa Aa) s.heap.size) s.heap s.heap [] := va_S.rf
  have hl := lv_entry (([.ref (a 0), .int u1] : List Value)) (n := 5) (Nat.le_of_ble_eq_true rfl)
  have L54 : ∀ (n : Nat) (x1 : Int32) (x2 : Int32) (x3 : Int32) (x4 : Int32) (F : ST_F) (A : ST_A) (H : Heap) (locs : List Loc) (ls : Array Slot), lv_has ls 5 [(0, .ref (a 0)), (1, .int x1), (2, .int x2), (3, .int x3), (4, .int x4)] → va_P (dC, dI) vC (wC a cI cC F A) H → va_D (va_A (wC a cI cC Fa Aa) s.heap.size) (wC a cI cC F A) → va_S (va_A (wC a cI cC Fa Aa) s.heap.size) s.heap H locs → f_C_unit_L54 inner n x1 x2 x3 x4 F A = some (r0, F9, A9) → W p l e (headSpec (Cond.code y_C_unit b_C_unit 5 (some .int) :: wA) ({ frames := (fI + 12), cells := 0, slots := 0, locals := (lI + 500) } : Room)).room s m ([.ref (a 0), .int u1] : List Value).toArray below meth c H locs 0 0 (MQ below (cc_Qi (dC, dI) vC [(cI, .int), (cC, .char)] (wC a cI cC Fa Aa) s.heap.size (wC a cI cC F9 A9) r0) ([.ref (a 0), .int u1] : List Value).toArray s 0 0 (va_A (wC a cI cC Fa Aa) s.heap.size)) (F0 m 54 ls []) := by
    intro n
    induction n with
    | zero => intro x1 x2 x3 x4 F A H locs ls hl hP hD hS hf; cases hf
    | succ n ih =>
      intro x1 x2 x3 x4 F A H locs ls hl hP hD hS hf
      rw [f_C_unit_L54] at hf
      refine lv_iload hx hb d_C_unit_54 (lv_at hl 4 rfl) ?_
      refine lv_iload_n hx hb d_C_unit_56 rfl (lv_at hl 2 rfl) ?_
      refine lv_icmp_ge (tgt := 74) hx hb d_C_unit_57 (by decide) (fun h57_6 => ?_) (fun h57_6 => ?_)
      · rw [if_pos h57_6] at hf
        refine lv_iload_n hx hb d_C_unit_74 rfl (lv_at hl 3 rfl) ?_
        cases hf
        exact W.iret hx hb hr (fun t ht hW => ⟨⟨_, (), rfl, rfl, by rw [ht]; exact hP, va_K.moved hW.alike hK, hD⟩, hS.F ht⟩) hS.2.2 d_C_unit_75
      · rw [if_neg h57_6] at hf
        refine lv_aload_n hx hb d_C_unit_60 rfl (lv_at hl 0 rfl) ?_
        refine lv_bipush (v := 9) hx hb d_C_unit_61 (by decide) ?_
        refine lv_iload_n hx hb d_C_unit_63 rfl (lv_at hl 3 rfl) ?_
        have hP : va_P (dC, dI) vC (wC a cI cC F A) H := hP
        have hD : va_D (va_A (wC a cI cC Fa Aa) s.heap.size) (wC a cI cC F A) := hD
        obtain ⟨r7, F7, A7, hc, hf⟩ := ra_bi_some hf
        refine cc_calli (va_runV (As := [.int (9 : Int32), .int x3]) (rest := []) ⟨hx, hb, hml, hown, hts⟩ (k_C_each l dC dI a cI cC H.size F A (9 : Int32) x3 r7 F7 A7 hc) (cw_V 2 hts mw_219 mw_221 ms_C_each mw_3 mw_222 rfl rfl rfl hd_C_each ⟨(show 1 + 1 ≤ (fI + 12) by omega), (show 8 + (5 + 11) + 24 ≤ (lI + 500) by omega)⟩) (cc_preV hK hP hD rfl (q0 := 0) rfl) rfl rfl hl.1 rfl (lv_room (Nat.le_of_ble_eq_true rfl)) d_C_unit_64 ⟨Nat.zero_le _, Nat.zero_le _⟩) hD hS hA (fun H locs hP hD hS => ?_)
        refine lv_istore_n hx hb d_C_unit_67 rfl hl (by decide) rfl (fun ls hl => ?_)
        have hl : lv_has ls 5 [(3, .int r7), (0, .ref (a 0)), (1, .int x1), (2, .int x2), (4, .int x4)] := hl
        refine lv_iinc (k := 4) (v := (x4 + (1 : Int32))) hx hb d_C_unit_68 hl rfl (by rfl) (by decide) rfl (fun ls hl => ?_)
        have hl : lv_has ls 5 [(4, .int (x4 + (1 : Int32))), (3, .int r7), (0, .ref (a 0)), (1, .int x1), (2, .int x2)] := hl
        refine lv_goto (tgt := 54) hx hb d_C_unit_71 (by decide) ?_
        have hl : lv_has ls 5 [(0, .ref (a 0)), (1, .int x1), (2, .int x2), (3, .int r7), (4, .int (x4 + (1 : Int32)))] := lv_sub hl [2, 3, 4, 1, 0] rfl
        exact ih x1 x2 r7 (x4 + (1 : Int32)) F7 A7 _ _ _ hl hP hD hS hf
  have J24 : ∀ (x1 : Int32) (x2 : Int32) (F : ST_F) (A : ST_A) (H : Heap) (locs : List Loc) (ls : Array Slot), lv_has ls 5 [(0, .ref (a 0)), (1, .int x1), (2, .int x2)] → va_P (dC, dI) vC (wC a cI cC F A) H → va_D (va_A (wC a cI cC Fa Aa) s.heap.size) (wC a cI cC F A) → va_S (va_A (wC a cI cC Fa Aa) s.heap.size) s.heap H locs → f_C_unit_J24 inner x1 x2 F A = some (r0, F9, A9) → W p l e (headSpec (Cond.code y_C_unit b_C_unit 5 (some .int) :: wA) ({ frames := (fI + 12), cells := 0, slots := 0, locals := (lI + 500) } : Room)).room s m ([.ref (a 0), .int u1] : List Value).toArray below meth c H locs 0 0 (MQ below (cc_Qi (dC, dI) vC [(cI, .int), (cC, .char)] (wC a cI cC Fa Aa) s.heap.size (wC a cI cC F9 A9) r0) ([.ref (a 0), .int u1] : List Value).toArray s 0 0 (va_A (wC a cI cC Fa Aa) s.heap.size)) (F0 m 24 ls []) := by
    intro x1 x2 F A H locs ls hl hP hD hS hf
    unfold f_C_unit_J24 at hf
    refine lv_aload_n hx hb d_C_unit_24 rfl (lv_at hl 0 rfl) ?_
    have hP : va_P (dC, dI) vC (wC a cI cC F A) H := hP
    have hD : va_D (va_A (wC a cI cC Fa Aa) s.heap.size) (wC a cI cC F A) := hD
    obtain ⟨r2, F2, A2, hc, hf⟩ := ra_bi_some hf
    refine cc_calli (va_runV (As := []) (rest := []) ⟨hx, hb, hml, hown, hts⟩ (k_C_next l dC dI a cI cC H.size F A  r2 F2 A2 hc) (cw_V 0 hts mw_155 mw_157 ms_C_next mw_3 mw_158 rfl rfl rfl hd_C_next ⟨(show 0 + 1 ≤ (fI + 12) by omega), (show 8 + (1 + 11) + 0 ≤ (lI + 500) by omega)⟩) (cc_preV hK hP hD rfl (q0 := 0) rfl) rfl rfl hl.1 rfl (lv_room (Nat.le_of_ble_eq_true rfl)) d_C_unit_25 ⟨Nat.zero_le _, Nat.zero_le _⟩) hD hS hA (fun H locs hP hD hS => ?_)
    refine cc_calls (va_runS (As := [.int r2]) (rest := []) ⟨hx, hb, hml, hown, hts⟩ (k_C_isDigit l r2 _ rfl) (cw_S 1 hts mw_181 mw_182 mw_3 mw_183 rfl rfl hd_C_isDigit ⟨(show 0 + 1 ≤ (fI + 12) by omega), (show 8 + (1 + 11) + 0 ≤ (lI + 500) by omega)⟩) cc_preS rfl rfl hl.1 rfl (lv_room (Nat.le_of_ble_eq_true rfl)) d_C_unit_28 ⟨Nat.zero_le _, Nat.zero_le _⟩) ?_
    refine lv_if_eq (tgt := 41) hx hb d_C_unit_31 (by decide) (fun h31_3 => ?_) (fun h31_3 => ?_)
    · rw [if_pos h31_3] at hf
      refine lv_aload_n hx hb d_C_unit_41 rfl (lv_at hl 0 rfl) ?_
      refine lv_aload_n hx hb d_C_unit_42 rfl (lv_at hl 0 rfl) ?_
      refine lv_iload_n hx hb d_C_unit_43 rfl (lv_at hl 1 rfl) ?_
      have hP : va_P (dC, dI) vC (wC a cI cC F2 A2) H := hP
      have hD : va_D (va_A (wC a cI cC Fa Aa) s.heap.size) (wC a cI cC F2 A2) := hD
      obtain ⟨r4, F4, A4, hc, hf⟩ := ra_bi_some hf
      refine cc_calli (va_runV (As := [.int x1]) (rest := [.ref (a 0)]) ⟨hx, hb, hml, hown, hts⟩ (k_C_part l dC dI a cI cC fI lI inner hin H.size F2 A2 x1 r4 F4 A4 hc) (cw_V 1 hts mw_203 mw_205 ms_C_part mw_3 mw_206 rfl rfl rfl hd_C_part ⟨(show (fI + 10) + 1 ≤ (fI + 12) by omega), (show 8 + (4 + 11) + (lI + 400) ≤ (lI + 500) by omega)⟩) (cc_preV hK hP hD rfl (q0 := 0) rfl) rfl rfl hl.1 rfl (lv_room (Nat.le_of_ble_eq_true rfl)) d_C_unit_44 ⟨Nat.zero_le _, Nat.zero_le _⟩) hD hS hA (fun H locs hP hD hS => ?_)
      have hP : va_P (dC, dI) vC (wC a cI cC F4 A4) H := hP
      have hD : va_D (va_A (wC a cI cC Fa Aa) s.heap.size) (wC a cI cC F4 A4) := hD
      obtain ⟨r5, F5, A5, hc, hf⟩ := ra_bi_some hf
      refine cc_calli (va_runV (As := [.int r4]) (rest := []) ⟨hx, hb, hml, hown, hts⟩ (k_C_picked l dC dI a cI cC H.size F4 A4 r4 r5 F5 A5 hc) (cw_V 1 hts mw_264 mw_266 ms_C_picked mw_3 mw_267 rfl rfl rfl hd_C_picked ⟨(show 2 + 1 ≤ (fI + 12) by omega), (show 8 + (6 + 11) + 41 ≤ (lI + 500) by omega)⟩) (cc_preV hK hP hD rfl (q0 := 0) rfl) rfl rfl hl.1 rfl (lv_room (Nat.le_of_ble_eq_true rfl)) d_C_unit_47 ⟨Nat.zero_le _, Nat.zero_le _⟩) hD hS hA (fun H locs hP hD hS => ?_)
      refine lv_istore_n hx hb d_C_unit_50 rfl hl (by decide) rfl (fun ls hl => ?_)
      have hl : lv_has ls 5 [(3, .int r5), (0, .ref (a 0)), (1, .int x1), (2, .int x2)] := hl
      refine lv_iconst (v := 0) hx hb d_C_unit_51 (by decide) ?_
      refine lv_istore hx hb d_C_unit_52 hl (by decide) rfl (fun ls hl => ?_)
      have hl : lv_has ls 5 [(4, .int (0 : Int32)), (3, .int r5), (0, .ref (a 0)), (1, .int x1), (2, .int x2)] := hl
      have hl : lv_has ls 5 [(0, .ref (a 0)), (1, .int x1), (2, .int x2), (3, .int r5), (4, .int (0 : Int32))] := lv_sub hl [2, 3, 4, 1, 0] rfl
      exact L54 400 x1 x2 r5 (0 : Int32) F5 A5 _ _ _ hl hP hD hS hf
    · rw [if_neg h31_3] at hf
      refine lv_aload_n hx hb d_C_unit_34 rfl (lv_at hl 0 rfl) ?_
      have hP : va_P (dC, dI) vC (wC a cI cC F2 A2) H := hP
      have hD : va_D (va_A (wC a cI cC Fa Aa) s.heap.size) (wC a cI cC F2 A2) := hD
      obtain ⟨r8, F8, A8, hc, hf⟩ := ra_bi_some hf
      refine cc_calli (va_runV (As := []) (rest := []) ⟨hx, hb, hml, hown, hts⟩ (k_C_constant l dC dI a cI cC H.size F2 A2  r8 F8 A8 hc) (cw_V 0 hts mw_184 mw_186 ms_C_constant mw_3 mw_187 rfl rfl rfl hd_C_constant ⟨(show 2 + 1 ≤ (fI + 12) by omega), (show 8 + (5 + 11) + 41 ≤ (lI + 500) by omega)⟩) (cc_preV hK hP hD rfl (q0 := 0) rfl) rfl rfl hl.1 rfl (lv_room (Nat.le_of_ble_eq_true rfl)) d_C_unit_35 ⟨Nat.zero_le _, Nat.zero_le _⟩) hD hS hA (fun H locs hP hD hS => ?_)
      refine lv_goto (tgt := 50) hx hb d_C_unit_38 (by decide) ?_
      refine lv_istore_n hx hb d_C_unit_50 rfl hl (by decide) rfl (fun ls hl => ?_)
      have hl : lv_has ls 5 [(3, .int r8), (0, .ref (a 0)), (1, .int x1), (2, .int x2)] := hl
      refine lv_iconst (v := 0) hx hb d_C_unit_51 (by decide) ?_
      refine lv_istore hx hb d_C_unit_52 hl (by decide) rfl (fun ls hl => ?_)
      have hl : lv_has ls 5 [(4, .int (0 : Int32)), (3, .int r8), (0, .ref (a 0)), (1, .int x1), (2, .int x2)] := hl
      have hl : lv_has ls 5 [(0, .ref (a 0)), (1, .int x1), (2, .int x2), (3, .int r8), (4, .int (0 : Int32))] := lv_sub hl [2, 3, 4, 1, 0] rfl
      exact L54 400 x1 x2 r8 (0 : Int32) F8 A8 _ _ _ hl hP hD hS hf
  have L2 : ∀ (n : Nat) (x1 : Int32) (x2 : Int32) (F : ST_F) (A : ST_A) (H : Heap) (locs : List Loc) (ls : Array Slot), lv_has ls 5 [(0, .ref (a 0)), (1, .int x1), (2, .int x2)] → va_P (dC, dI) vC (wC a cI cC F A) H → va_D (va_A (wC a cI cC Fa Aa) s.heap.size) (wC a cI cC F A) → va_S (va_A (wC a cI cC Fa Aa) s.heap.size) s.heap H locs → f_C_unit_L2 inner n x1 x2 F A = some (r0, F9, A9) → W p l e (headSpec (Cond.code y_C_unit b_C_unit 5 (some .int) :: wA) ({ frames := (fI + 12), cells := 0, slots := 0, locals := (lI + 500) } : Room)).room s m ([.ref (a 0), .int u1] : List Value).toArray below meth c H locs 0 0 (MQ below (cc_Qi (dC, dI) vC [(cI, .int), (cC, .char)] (wC a cI cC Fa Aa) s.heap.size (wC a cI cC F9 A9) r0) ([.ref (a 0), .int u1] : List Value).toArray s 0 0 (va_A (wC a cI cC Fa Aa) s.heap.size)) (F0 m 2 ls []) := by
    intro n
    induction n with
    | zero => intro x1 x2 F A H locs ls hl hP hD hS hf; cases hf
    | succ n ih =>
      intro x1 x2 F A H locs ls hl hP hD hS hf
      rw [f_C_unit_L2] at hf
      refine lv_iload_n hx hb d_C_unit_2 rfl (lv_at hl 2 rfl) ?_
      refine lv_sipush (v := 160) hx hb d_C_unit_3 (by decide) ?_
      refine lv_icmp_ge (tgt := 24) hx hb d_C_unit_6 (by decide) (fun h6_1 => ?_) (fun h6_1 => ?_)
      · rw [if_pos h6_1] at hf
        have hl : lv_has ls 5 [(0, .ref (a 0)), (1, .int x1), (2, .int x2)] := lv_sub hl [0, 1, 2] rfl
        exact J24 x1 x2 F A _ _ _ hl hP hD hS hf
      · rw [if_neg h6_1] at hf
        refine lv_aload_n hx hb d_C_unit_9 rfl (lv_at hl 0 rfl) ?_
        refine lv_bipush (v := 45) hx hb d_C_unit_10 (by decide) ?_
        have hP : va_P (dC, dI) vC (wC a cI cC F A) H := hP
        have hD : va_D (va_A (wC a cI cC Fa Aa) s.heap.size) (wC a cI cC F A) := hD
        obtain ⟨r9, F9, A9, hc, hf⟩ := ra_bi_some hf
        refine cc_calli (va_runV (As := [.int (45 : Int32)]) (rest := []) ⟨hx, hb, hml, hown, hts⟩ (k_C_takes l dC dI a cI cC H.size F A (45 : Int32) r9 F9 A9 hc) (cw_V 1 hts mw_177 mw_179 ms_C_takes mw_3 mw_180 rfl rfl rfl hd_C_takes ⟨(show 1 + 1 ≤ (fI + 12) by omega), (show 8 + (2 + 11) + 20 ≤ (lI + 500) by omega)⟩) (cc_preV hK hP hD rfl (q0 := 0) rfl) rfl rfl hl.1 rfl (lv_room (Nat.le_of_ble_eq_true rfl)) d_C_unit_12 ⟨Nat.zero_le _, Nat.zero_le _⟩) hD hS hA (fun H locs hP hD hS => ?_)
        refine lv_if_eq (tgt := 24) hx hb d_C_unit_15 (by decide) (fun h15_10 => ?_) (fun h15_10 => ?_)
        · rw [if_pos h15_10] at hf
          have hl : lv_has ls 5 [(0, .ref (a 0)), (1, .int x1), (2, .int x2)] := lv_sub hl [0, 1, 2] rfl
          exact J24 x1 x2 F9 A9 _ _ _ hl hP hD hS hf
        · rw [if_neg h15_10] at hf
          refine lv_iinc (k := 2) (v := (x2 + (1 : Int32))) hx hb d_C_unit_18 hl rfl (by rfl) (by decide) rfl (fun ls hl => ?_)
          have hl : lv_has ls 5 [(2, .int (x2 + (1 : Int32))), (0, .ref (a 0)), (1, .int x1)] := hl
          refine lv_goto (tgt := 2) hx hb d_C_unit_21 (by decide) ?_
          have hl : lv_has ls 5 [(0, .ref (a 0)), (1, .int x1), (2, .int (x2 + (1 : Int32)))] := lv_sub hl [1, 2, 0] rfl
          exact ih x1 (x2 + (1 : Int32)) F9 A9 _ _ _ hl hP hD hS hf
  rw [lg_entry_eq]
  generalize (lg_sl (([.ref (a 0), .int u1] : List Value)) ++ List.replicate (5 - (lg_sl (([.ref (a 0), .int u1] : List Value))).length) Slot.unset).toArray = ls at hl ⊢
  have hl : lv_has ls 5 [(0, .ref (a 0)), (1, .int u1)] := hl
  unfold f_C_unit at hf
  refine lv_iconst (v := 0) hx hb d_C_unit_0 (by decide) ?_
  refine lv_istore_n hx hb d_C_unit_1 rfl hl (by decide) rfl (fun ls hl => ?_)
  have hl : lv_has ls 5 [(2, .int (0 : Int32)), (0, .ref (a 0)), (1, .int u1)] := hl
  have hl : lv_has ls 5 [(0, .ref (a 0)), (1, .int u1), (2, .int (0 : Int32))] := lv_sub hl [1, 2, 0] rfl
  exact L2 400 u1 (0 : Int32) Fa Aa _ _ _ hl hP hD hS hf
def f_C_product_L8 (inner : Int32 → ST_F → ST_A → Option (Int32 × ST_F × ST_A)) : Nat → Int32 → Int32 → Int32 → ST_F → ST_A → Option (Int32 × ST_F × ST_A)
  | 0, _, _, _, _, _ => none
  | n + 1, x1, x2, x3, F, A => if (160 : Int32) ≤ x3 then (some ((-1 : Int32), F, A)) else (if x2 = (-1 : Int32) then (some ((-1 : Int32), F, A)) else (ra_bi (f_C_takes (42 : Int32) F A) (fun r4 F4 A4 => if r4 = 0 then (ra_bi (f_C_takes (47 : Int32) F4 A4) (fun r6 F6 A6 => if r6 = 0 then (some (x2, F6, A6)) else (ra_bi (f_C_unit inner x1 F6 A6) (fun r8 F8 A8 => ra_bi (f_C_dividedBy x2 r8 F8 A8) (fun r9 F9 A9 => f_C_product_L8 inner n x1 r9 (x3 + (1 : Int32)) F9 A9))))) else (ra_bi (f_C_unit inner x1 F4 A4) (fun r10 F10 A10 => ra_bi (f_C_times x2 r10 F10 A10) (fun r11 F11 A11 => f_C_product_L8 inner n x1 r11 (x3 + (1 : Int32)) F11 A11))))))
def f_C_product (inner : Int32 → ST_F → ST_A → Option (Int32 × ST_F × ST_A)) (u1 : Int32) (Fa : ST_F) (Aa : ST_A) : Option (Int32 × ST_F × ST_A) := ra_bi (f_C_unit inner u1 Fa Aa) (fun r1 F1 A1 => f_C_product_L8 inner 400 u1 r1 (0 : Int32) F1 A1)
set_option maxHeartbeats 4000000 in
set_option maxRecDepth 100000 in
theorem k_C_product (l : Launch) (dC : Nat → ClassId) (dI : Nat → Nat → Nat) (a : Nat → Nat) (cI cC : ClassId) (fI lI : Nat) (inner : Int32 → ST_F → ST_A → Option (Int32 × ST_F × ST_A)) (hin : ∀ (sz : Nat) (Fa : ST_F) (Aa : ST_A) (u1 r0 : Int32) (F9 : ST_F) (A9 : ST_A), inner u1 Fa Aa = some (r0, F9, A9) → cc_MetI l y_C_sum (Cond.code y_C_sum b_C_sum 4 (some .int) :: wA) ({ frames := fI, cells := 0, slots := 0, locals := lI } : Room) (dC, dI) vC [(cI, .int), (cC, .char)] ([.ref (a 0), .int u1] : List Value) (wC a cI cC Fa Aa) sz (wC a cI cC F9 A9) r0) (sz : Nat) (Fa : ST_F) (Aa : ST_A) (u1 : Int32) (r0 : Int32) (F9 : ST_F) (A9 : ST_A) (hf : f_C_product inner u1 Fa Aa = some (r0, F9, A9)) : cc_MetI l y_C_product (Cond.code y_C_product b_C_product 4 (some .int) :: wA) ({ frames := (fI + 14), cells := 0, slots := 0, locals := (lI + 600) } : Room) (dC, dI) vC [(cI, .int), (cC, .char)] ([.ref (a 0), .int u1] : List Value) (wC a cI cC Fa Aa) sz (wC a cI cC F9 A9) r0 := by
  refine Met.ofW (cc := b_C_product) (maxL := 4) (ret := (some .int)) (by decide) rfl ?_
  intro p e s m args below meth c s₁ B hml hv
  obtain ⟨rfl, hsz, hP, hK, hD0⟩ := hv
  have hx := B.exec
  have hb := B.bytes
  have hr := B.returns
  have hts := fun w h => atoms_spec (ws := (Cond.code y_C_product b_C_product 4 (some .int) :: wA)) B.pre w (List.mem_cons_of_mem _ h)
  have hown : s.vm.findClass R_C = some m.cls := findClass_of_methodNamed B.named
  have hlocks := B.notSynchronized
  subst hsz
  have hD := hD0.self (sz := s.heap.size)
  have hA : ∀ q : Nat, s.heap.size ≤ q → va_A (wC a cI cC Fa Aa) s.heap.size q := fun q h => Or.inr h
  have hS : va_S (va_A (wC a cI cC Fa Aa) s.heap.size) s.heap s.heap [] := va_S.rf
  have hl := lv_entry (([.ref (a 0), .int u1] : List Value)) (n := 4) (Nat.le_of_ble_eq_true rfl)
  have L8 : ∀ (n : Nat) (x1 : Int32) (x2 : Int32) (x3 : Int32) (F : ST_F) (A : ST_A) (H : Heap) (locs : List Loc) (ls : Array Slot), lv_has ls 4 [(0, .ref (a 0)), (1, .int x1), (2, .int x2), (3, .int x3)] → va_P (dC, dI) vC (wC a cI cC F A) H → va_D (va_A (wC a cI cC Fa Aa) s.heap.size) (wC a cI cC F A) → va_S (va_A (wC a cI cC Fa Aa) s.heap.size) s.heap H locs → f_C_product_L8 inner n x1 x2 x3 F A = some (r0, F9, A9) → W p l e (headSpec (Cond.code y_C_product b_C_product 4 (some .int) :: wA) ({ frames := (fI + 14), cells := 0, slots := 0, locals := (lI + 600) } : Room)).room s m ([.ref (a 0), .int u1] : List Value).toArray below meth c H locs 0 0 (MQ below (cc_Qi (dC, dI) vC [(cI, .int), (cC, .char)] (wC a cI cC Fa Aa) s.heap.size (wC a cI cC F9 A9) r0) ([.ref (a 0), .int u1] : List Value).toArray s 0 0 (va_A (wC a cI cC Fa Aa) s.heap.size)) (F0 m 8 ls []) := by
    intro n
    induction n with
    | zero => intro x1 x2 x3 F A H locs ls hl hP hD hS hf; cases hf
    | succ n ih =>
      intro x1 x2 x3 F A H locs ls hl hP hD hS hf
      rw [f_C_product_L8] at hf
      refine lv_iload_n hx hb d_C_product_8 rfl (lv_at hl 3 rfl) ?_
      refine lv_sipush (v := 160) hx hb d_C_product_9 (by decide) ?_
      refine lv_icmp_ge (tgt := 74) hx hb d_C_product_12 (by decide) (fun h12_2 => ?_) (fun h12_2 => ?_)
      · rw [if_pos h12_2] at hf
        refine lv_iconst (v := -1) hx hb d_C_product_74 (by decide) ?_
        cases hf
        exact W.iret hx hb hr (fun t ht hW => ⟨⟨_, (), rfl, rfl, by rw [ht]; exact hP, va_K.moved hW.alike hK, hD⟩, hS.F ht⟩) hS.2.2 d_C_product_75
      · rw [if_neg h12_2] at hf
        refine lv_iload_n hx hb d_C_product_15 rfl (lv_at hl 2 rfl) ?_
        refine lv_iconst (v := -1) hx hb d_C_product_16 (by decide) ?_
        refine lv_icmp_eq (tgt := 74) hx hb d_C_product_17 (by decide) (fun h17_3 => ?_) (fun h17_3 => ?_)
        · rw [if_pos h17_3] at hf
          refine lv_iconst (v := -1) hx hb d_C_product_74 (by decide) ?_
          cases hf
          exact W.iret hx hb hr (fun t ht hW => ⟨⟨_, (), rfl, rfl, by rw [ht]; exact hP, va_K.moved hW.alike hK, hD⟩, hS.F ht⟩) hS.2.2 d_C_product_75
        · rw [if_neg h17_3] at hf
          refine lv_aload_n hx hb d_C_product_20 rfl (lv_at hl 0 rfl) ?_
          refine lv_bipush (v := 42) hx hb d_C_product_21 (by decide) ?_
          have hP : va_P (dC, dI) vC (wC a cI cC F A) H := hP
          have hD : va_D (va_A (wC a cI cC Fa Aa) s.heap.size) (wC a cI cC F A) := hD
          obtain ⟨r4, F4, A4, hc, hf⟩ := ra_bi_some hf
          refine cc_calli (va_runV (As := [.int (42 : Int32)]) (rest := []) ⟨hx, hb, hml, hown, hts⟩ (k_C_takes l dC dI a cI cC H.size F A (42 : Int32) r4 F4 A4 hc) (cw_V 1 hts mw_177 mw_179 ms_C_takes mw_3 mw_180 rfl rfl rfl hd_C_takes ⟨(show 1 + 1 ≤ (fI + 14) by omega), (show 8 + (2 + 11) + 20 ≤ (lI + 600) by omega)⟩) (cc_preV hK hP hD rfl (q0 := 0) rfl) rfl rfl hl.1 rfl (lv_room (Nat.le_of_ble_eq_true rfl)) d_C_product_23 ⟨Nat.zero_le _, Nat.zero_le _⟩) hD hS hA (fun H locs hP hD hS => ?_)
          refine lv_if_eq (tgt := 43) hx hb d_C_product_26 (by decide) (fun h26_5 => ?_) (fun h26_5 => ?_)
          · rw [if_pos h26_5] at hf
            refine lv_aload_n hx hb d_C_product_43 rfl (lv_at hl 0 rfl) ?_
            refine lv_bipush (v := 47) hx hb d_C_product_44 (by decide) ?_
            have hP : va_P (dC, dI) vC (wC a cI cC F4 A4) H := hP
            have hD : va_D (va_A (wC a cI cC Fa Aa) s.heap.size) (wC a cI cC F4 A4) := hD
            obtain ⟨r6, F6, A6, hc, hf⟩ := ra_bi_some hf
            refine cc_calli (va_runV (As := [.int (47 : Int32)]) (rest := []) ⟨hx, hb, hml, hown, hts⟩ (k_C_takes l dC dI a cI cC H.size F4 A4 (47 : Int32) r6 F6 A6 hc) (cw_V 1 hts mw_177 mw_179 ms_C_takes mw_3 mw_180 rfl rfl rfl hd_C_takes ⟨(show 1 + 1 ≤ (fI + 14) by omega), (show 8 + (2 + 11) + 20 ≤ (lI + 600) by omega)⟩) (cc_preV hK hP hD rfl (q0 := 0) rfl) rfl rfl hl.1 rfl (lv_room (Nat.le_of_ble_eq_true rfl)) d_C_product_46 ⟨Nat.zero_le _, Nat.zero_le _⟩) hD hS hA (fun H locs hP hD hS => ?_)
            refine lv_if_eq (tgt := 66) hx hb d_C_product_49 (by decide) (fun h49_7 => ?_) (fun h49_7 => ?_)
            · rw [if_pos h49_7] at hf
              refine lv_iload_n hx hb d_C_product_66 rfl (lv_at hl 2 rfl) ?_
              cases hf
              exact W.iret hx hb hr (fun t ht hW => ⟨⟨_, (), rfl, rfl, by rw [ht]; exact hP, va_K.moved hW.alike hK, hD⟩, hS.F ht⟩) hS.2.2 d_C_product_67
            · rw [if_neg h49_7] at hf
              refine lv_aload_n hx hb d_C_product_52 rfl (lv_at hl 0 rfl) ?_
              refine lv_iload_n hx hb d_C_product_53 rfl (lv_at hl 2 rfl) ?_
              refine lv_aload_n hx hb d_C_product_54 rfl (lv_at hl 0 rfl) ?_
              refine lv_iload_n hx hb d_C_product_55 rfl (lv_at hl 1 rfl) ?_
              have hP : va_P (dC, dI) vC (wC a cI cC F6 A6) H := hP
              have hD : va_D (va_A (wC a cI cC Fa Aa) s.heap.size) (wC a cI cC F6 A6) := hD
              obtain ⟨r8, F8, A8, hc, hf⟩ := ra_bi_some hf
              refine cc_calli (va_runV (As := [.int x1]) (rest := [.int x2, .ref (a 0)]) ⟨hx, hb, hml, hown, hts⟩ (k_C_unit l dC dI a cI cC fI lI inner hin H.size F6 A6 x1 r8 F8 A8 hc) (cw_V 1 hts mw_173 mw_175 ms_C_unit mw_3 mw_176 rfl rfl rfl hd_C_unit ⟨(show (fI + 12) + 1 ≤ (fI + 14) by omega), (show 8 + (5 + 11) + (lI + 500) ≤ (lI + 600) by omega)⟩) (cc_preV hK hP hD rfl (q0 := 0) rfl) rfl rfl hl.1 rfl (lv_room (Nat.le_of_ble_eq_true rfl)) d_C_product_56 ⟨Nat.zero_le _, Nat.zero_le _⟩) hD hS hA (fun H locs hP hD hS => ?_)
              have hP : va_P (dC, dI) vC (wC a cI cC F8 A8) H := hP
              have hD : va_D (va_A (wC a cI cC Fa Aa) s.heap.size) (wC a cI cC F8 A8) := hD
              obtain ⟨r9, F9, A9, hc, hf⟩ := ra_bi_some hf
              refine cc_calli (va_runV (As := [.int x2, .int r8]) (rest := []) ⟨hx, hb, hml, hown, hts⟩ (k_C_dividedBy l dC dI a cI cC H.size F8 A8 x2 r8 r9 F9 A9 hc) (cw_V 2 hts mw_276 mw_278 ms_C_dividedBy mw_3 mw_279 rfl rfl rfl hd_C_dividedBy ⟨(show 3 + 1 ≤ (fI + 14) by omega), (show 8 + (3 + 11) + 71 ≤ (lI + 600) by omega)⟩) (cc_preV hK hP hD rfl (q0 := 0) rfl) rfl rfl hl.1 rfl (lv_room (Nat.le_of_ble_eq_true rfl)) d_C_product_59 ⟨Nat.zero_le _, Nat.zero_le _⟩) hD hS hA (fun H locs hP hD hS => ?_)
              refine lv_istore_n hx hb d_C_product_62 rfl hl (by decide) rfl (fun ls hl => ?_)
              have hl : lv_has ls 4 [(2, .int r9), (0, .ref (a 0)), (1, .int x1), (3, .int x3)] := hl
              refine lv_goto (tgt := 68) hx hb d_C_product_63 (by decide) ?_
              refine lv_iinc (k := 3) (v := (x3 + (1 : Int32))) hx hb d_C_product_68 hl rfl (by rfl) (by decide) rfl (fun ls hl => ?_)
              have hl : lv_has ls 4 [(3, .int (x3 + (1 : Int32))), (2, .int r9), (0, .ref (a 0)), (1, .int x1)] := hl
              refine lv_goto (tgt := 8) hx hb d_C_product_71 (by decide) ?_
              have hl : lv_has ls 4 [(0, .ref (a 0)), (1, .int x1), (2, .int r9), (3, .int (x3 + (1 : Int32)))] := lv_sub hl [2, 3, 1, 0] rfl
              exact ih x1 r9 (x3 + (1 : Int32)) F9 A9 _ _ _ hl hP hD hS hf
          · rw [if_neg h26_5] at hf
            refine lv_aload_n hx hb d_C_product_29 rfl (lv_at hl 0 rfl) ?_
            refine lv_iload_n hx hb d_C_product_30 rfl (lv_at hl 2 rfl) ?_
            refine lv_aload_n hx hb d_C_product_31 rfl (lv_at hl 0 rfl) ?_
            refine lv_iload_n hx hb d_C_product_32 rfl (lv_at hl 1 rfl) ?_
            have hP : va_P (dC, dI) vC (wC a cI cC F4 A4) H := hP
            have hD : va_D (va_A (wC a cI cC Fa Aa) s.heap.size) (wC a cI cC F4 A4) := hD
            obtain ⟨r10, F10, A10, hc, hf⟩ := ra_bi_some hf
            refine cc_calli (va_runV (As := [.int x1]) (rest := [.int x2, .ref (a 0)]) ⟨hx, hb, hml, hown, hts⟩ (k_C_unit l dC dI a cI cC fI lI inner hin H.size F4 A4 x1 r10 F10 A10 hc) (cw_V 1 hts mw_173 mw_175 ms_C_unit mw_3 mw_176 rfl rfl rfl hd_C_unit ⟨(show (fI + 12) + 1 ≤ (fI + 14) by omega), (show 8 + (5 + 11) + (lI + 500) ≤ (lI + 600) by omega)⟩) (cc_preV hK hP hD rfl (q0 := 0) rfl) rfl rfl hl.1 rfl (lv_room (Nat.le_of_ble_eq_true rfl)) d_C_product_33 ⟨Nat.zero_le _, Nat.zero_le _⟩) hD hS hA (fun H locs hP hD hS => ?_)
            have hP : va_P (dC, dI) vC (wC a cI cC F10 A10) H := hP
            have hD : va_D (va_A (wC a cI cC Fa Aa) s.heap.size) (wC a cI cC F10 A10) := hD
            obtain ⟨r11, F11, A11, hc, hf⟩ := ra_bi_some hf
            refine cc_calli (va_runV (As := [.int x2, .int r10]) (rest := []) ⟨hx, hb, hml, hown, hts⟩ (k_C_times l dC dI a cI cC H.size F10 A10 x2 r10 r11 F11 A11 hc) (cw_V 2 hts mw_268 mw_270 ms_C_times mw_3 mw_271 rfl rfl rfl hd_C_times ⟨(show 3 + 1 ≤ (fI + 14) by omega), (show 8 + (4 + 11) + 71 ≤ (lI + 600) by omega)⟩) (cc_preV hK hP hD rfl (q0 := 0) rfl) rfl rfl hl.1 rfl (lv_room (Nat.le_of_ble_eq_true rfl)) d_C_product_36 ⟨Nat.zero_le _, Nat.zero_le _⟩) hD hS hA (fun H locs hP hD hS => ?_)
            refine lv_istore_n hx hb d_C_product_39 rfl hl (by decide) rfl (fun ls hl => ?_)
            have hl : lv_has ls 4 [(2, .int r11), (0, .ref (a 0)), (1, .int x1), (3, .int x3)] := hl
            refine lv_goto (tgt := 68) hx hb d_C_product_40 (by decide) ?_
            refine lv_iinc (k := 3) (v := (x3 + (1 : Int32))) hx hb d_C_product_68 hl rfl (by rfl) (by decide) rfl (fun ls hl => ?_)
            have hl : lv_has ls 4 [(3, .int (x3 + (1 : Int32))), (2, .int r11), (0, .ref (a 0)), (1, .int x1)] := hl
            refine lv_goto (tgt := 8) hx hb d_C_product_71 (by decide) ?_
            have hl : lv_has ls 4 [(0, .ref (a 0)), (1, .int x1), (2, .int r11), (3, .int (x3 + (1 : Int32)))] := lv_sub hl [2, 3, 1, 0] rfl
            exact ih x1 r11 (x3 + (1 : Int32)) F11 A11 _ _ _ hl hP hD hS hf
  rw [lg_entry_eq]
  generalize (lg_sl (([.ref (a 0), .int u1] : List Value)) ++ List.replicate (4 - (lg_sl (([.ref (a 0), .int u1] : List Value))).length) Slot.unset).toArray = ls at hl ⊢
  have hl : lv_has ls 4 [(0, .ref (a 0)), (1, .int u1)] := hl
  unfold f_C_product at hf
  refine lv_aload_n hx hb d_C_product_0 rfl (lv_at hl 0 rfl) ?_
  refine lv_iload_n hx hb d_C_product_1 rfl (lv_at hl 1 rfl) ?_
  have hP : va_P (dC, dI) vC (wC a cI cC Fa Aa) s.heap := hP
  have hD : va_D (va_A (wC a cI cC Fa Aa) s.heap.size) (wC a cI cC Fa Aa) := hD
  obtain ⟨r1, F1, A1, hc, hf⟩ := ra_bi_some hf
  refine cc_calli (va_runV (As := [.int u1]) (rest := []) ⟨hx, hb, hml, hown, hts⟩ (k_C_unit l dC dI a cI cC fI lI inner hin s.heap.size Fa Aa u1 r1 F1 A1 hc) (cw_V 1 hts mw_173 mw_175 ms_C_unit mw_3 mw_176 rfl rfl rfl hd_C_unit ⟨(show (fI + 12) + 1 ≤ (fI + 14) by omega), (show 8 + (5 + 11) + (lI + 500) ≤ (lI + 600) by omega)⟩) (cc_preV hK hP hD rfl (q0 := 0) rfl) rfl rfl hl.1 rfl (lv_room (Nat.le_of_ble_eq_true rfl)) d_C_product_2 ⟨Nat.zero_le _, Nat.zero_le _⟩) hD hS hA (fun H locs hP hD hS => ?_)
  refine lv_istore_n hx hb d_C_product_5 rfl hl (by decide) rfl (fun ls hl => ?_)
  have hl : lv_has ls 4 [(2, .int r1), (0, .ref (a 0)), (1, .int u1)] := hl
  refine lv_iconst (v := 0) hx hb d_C_product_6 (by decide) ?_
  refine lv_istore_n hx hb d_C_product_7 rfl hl (by decide) rfl (fun ls hl => ?_)
  have hl : lv_has ls 4 [(3, .int (0 : Int32)), (2, .int r1), (0, .ref (a 0)), (1, .int u1)] := hl
  have hl : lv_has ls 4 [(0, .ref (a 0)), (1, .int u1), (2, .int r1), (3, .int (0 : Int32))] := lv_sub hl [2, 3, 1, 0] rfl
  exact L8 400 u1 r1 (0 : Int32) F1 A1 _ _ _ hl hP hD hS hf
def f_C_sum_L8 (inner : Int32 → ST_F → ST_A → Option (Int32 × ST_F × ST_A)) : Nat → Int32 → Int32 → Int32 → ST_F → ST_A → Option (Int32 × ST_F × ST_A)
  | 0, _, _, _, _, _ => none
  | n + 1, x1, x2, x3, F, A => if (160 : Int32) ≤ x3 then (some ((-1 : Int32), F, A)) else (if x2 = (-1 : Int32) then (some ((-1 : Int32), F, A)) else (ra_bi (f_C_takes (43 : Int32) F A) (fun r4 F4 A4 => if r4 = 0 then (ra_bi (f_C_takes (45 : Int32) F4 A4) (fun r6 F6 A6 => if r6 = 0 then (some (x2, F6, A6)) else (ra_bi (f_C_product inner x1 F6 A6) (fun r8 F8 A8 => ra_bi (f_C_pairwise (3 : Int32) x2 r8 F8 A8) (fun r9 F9 A9 => f_C_sum_L8 inner n x1 r9 (x3 + (1 : Int32)) F9 A9))))) else (ra_bi (f_C_product inner x1 F4 A4) (fun r10 F10 A10 => ra_bi (f_C_pairwise (2 : Int32) x2 r10 F10 A10) (fun r11 F11 A11 => f_C_sum_L8 inner n x1 r11 (x3 + (1 : Int32)) F11 A11))))))
def f_C_sum (inner : Int32 → ST_F → ST_A → Option (Int32 × ST_F × ST_A)) (u1 : Int32) (Fa : ST_F) (Aa : ST_A) : Option (Int32 × ST_F × ST_A) := ra_bi (f_C_product inner u1 Fa Aa) (fun r1 F1 A1 => f_C_sum_L8 inner 400 u1 r1 (0 : Int32) F1 A1)
set_option maxHeartbeats 4000000 in
set_option maxRecDepth 100000 in
theorem k_C_sum (l : Launch) (dC : Nat → ClassId) (dI : Nat → Nat → Nat) (a : Nat → Nat) (cI cC : ClassId) (fI lI : Nat) (inner : Int32 → ST_F → ST_A → Option (Int32 × ST_F × ST_A)) (hin : ∀ (sz : Nat) (Fa : ST_F) (Aa : ST_A) (u1 r0 : Int32) (F9 : ST_F) (A9 : ST_A), inner u1 Fa Aa = some (r0, F9, A9) → cc_MetI l y_C_sum (Cond.code y_C_sum b_C_sum 4 (some .int) :: wA) ({ frames := fI, cells := 0, slots := 0, locals := lI } : Room) (dC, dI) vC [(cI, .int), (cC, .char)] ([.ref (a 0), .int u1] : List Value) (wC a cI cC Fa Aa) sz (wC a cI cC F9 A9) r0) (sz : Nat) (Fa : ST_F) (Aa : ST_A) (u1 : Int32) (r0 : Int32) (F9 : ST_F) (A9 : ST_A) (hf : f_C_sum inner u1 Fa Aa = some (r0, F9, A9)) : cc_MetI l y_C_sum (Cond.code y_C_sum b_C_sum 4 (some .int) :: wA) ({ frames := (fI + 16), cells := 0, slots := 0, locals := (lI + 700) } : Room) (dC, dI) vC [(cI, .int), (cC, .char)] ([.ref (a 0), .int u1] : List Value) (wC a cI cC Fa Aa) sz (wC a cI cC F9 A9) r0 := by
  refine Met.ofW (cc := b_C_sum) (maxL := 4) (ret := (some .int)) (by decide) rfl ?_
  intro p e s m args below meth c s₁ B hml hv
  obtain ⟨rfl, hsz, hP, hK, hD0⟩ := hv
  have hx := B.exec
  have hb := B.bytes
  have hr := B.returns
  have hts := fun w h => atoms_spec (ws := (Cond.code y_C_sum b_C_sum 4 (some .int) :: wA)) B.pre w (List.mem_cons_of_mem _ h)
  have hown : s.vm.findClass R_C = some m.cls := findClass_of_methodNamed B.named
  have hlocks := B.notSynchronized
  subst hsz
  have hD := hD0.self (sz := s.heap.size)
  have hA : ∀ q : Nat, s.heap.size ≤ q → va_A (wC a cI cC Fa Aa) s.heap.size q := fun q h => Or.inr h
  have hS : va_S (va_A (wC a cI cC Fa Aa) s.heap.size) s.heap s.heap [] := va_S.rf
  have hl := lv_entry (([.ref (a 0), .int u1] : List Value)) (n := 4) (Nat.le_of_ble_eq_true rfl)
  have L8 : ∀ (n : Nat) (x1 : Int32) (x2 : Int32) (x3 : Int32) (F : ST_F) (A : ST_A) (H : Heap) (locs : List Loc) (ls : Array Slot), lv_has ls 4 [(0, .ref (a 0)), (1, .int x1), (2, .int x2), (3, .int x3)] → va_P (dC, dI) vC (wC a cI cC F A) H → va_D (va_A (wC a cI cC Fa Aa) s.heap.size) (wC a cI cC F A) → va_S (va_A (wC a cI cC Fa Aa) s.heap.size) s.heap H locs → f_C_sum_L8 inner n x1 x2 x3 F A = some (r0, F9, A9) → W p l e (headSpec (Cond.code y_C_sum b_C_sum 4 (some .int) :: wA) ({ frames := (fI + 16), cells := 0, slots := 0, locals := (lI + 700) } : Room)).room s m ([.ref (a 0), .int u1] : List Value).toArray below meth c H locs 0 0 (MQ below (cc_Qi (dC, dI) vC [(cI, .int), (cC, .char)] (wC a cI cC Fa Aa) s.heap.size (wC a cI cC F9 A9) r0) ([.ref (a 0), .int u1] : List Value).toArray s 0 0 (va_A (wC a cI cC Fa Aa) s.heap.size)) (F0 m 8 ls []) := by
    intro n
    induction n with
    | zero => intro x1 x2 x3 F A H locs ls hl hP hD hS hf; cases hf
    | succ n ih =>
      intro x1 x2 x3 F A H locs ls hl hP hD hS hf
      rw [f_C_sum_L8] at hf
      refine lv_iload_n hx hb d_C_sum_8 rfl (lv_at hl 3 rfl) ?_
      refine lv_sipush (v := 160) hx hb d_C_sum_9 (by decide) ?_
      refine lv_icmp_ge (tgt := 76) hx hb d_C_sum_12 (by decide) (fun h12_2 => ?_) (fun h12_2 => ?_)
      · rw [if_pos h12_2] at hf
        refine lv_iconst (v := -1) hx hb d_C_sum_76 (by decide) ?_
        cases hf
        exact W.iret hx hb hr (fun t ht hW => ⟨⟨_, (), rfl, rfl, by rw [ht]; exact hP, va_K.moved hW.alike hK, hD⟩, hS.F ht⟩) hS.2.2 d_C_sum_77
      · rw [if_neg h12_2] at hf
        refine lv_iload_n hx hb d_C_sum_15 rfl (lv_at hl 2 rfl) ?_
        refine lv_iconst (v := -1) hx hb d_C_sum_16 (by decide) ?_
        refine lv_icmp_eq (tgt := 76) hx hb d_C_sum_17 (by decide) (fun h17_3 => ?_) (fun h17_3 => ?_)
        · rw [if_pos h17_3] at hf
          refine lv_iconst (v := -1) hx hb d_C_sum_76 (by decide) ?_
          cases hf
          exact W.iret hx hb hr (fun t ht hW => ⟨⟨_, (), rfl, rfl, by rw [ht]; exact hP, va_K.moved hW.alike hK, hD⟩, hS.F ht⟩) hS.2.2 d_C_sum_77
        · rw [if_neg h17_3] at hf
          refine lv_aload_n hx hb d_C_sum_20 rfl (lv_at hl 0 rfl) ?_
          refine lv_bipush (v := 43) hx hb d_C_sum_21 (by decide) ?_
          have hP : va_P (dC, dI) vC (wC a cI cC F A) H := hP
          have hD : va_D (va_A (wC a cI cC Fa Aa) s.heap.size) (wC a cI cC F A) := hD
          obtain ⟨r4, F4, A4, hc, hf⟩ := ra_bi_some hf
          refine cc_calli (va_runV (As := [.int (43 : Int32)]) (rest := []) ⟨hx, hb, hml, hown, hts⟩ (k_C_takes l dC dI a cI cC H.size F A (43 : Int32) r4 F4 A4 hc) (cw_V 1 hts mw_177 mw_179 ms_C_takes mw_3 mw_180 rfl rfl rfl hd_C_takes ⟨(show 1 + 1 ≤ (fI + 16) by omega), (show 8 + (2 + 11) + 20 ≤ (lI + 700) by omega)⟩) (cc_preV hK hP hD rfl (q0 := 0) rfl) rfl rfl hl.1 rfl (lv_room (Nat.le_of_ble_eq_true rfl)) d_C_sum_23 ⟨Nat.zero_le _, Nat.zero_le _⟩) hD hS hA (fun H locs hP hD hS => ?_)
          refine lv_if_eq (tgt := 44) hx hb d_C_sum_26 (by decide) (fun h26_5 => ?_) (fun h26_5 => ?_)
          · rw [if_pos h26_5] at hf
            refine lv_aload_n hx hb d_C_sum_44 rfl (lv_at hl 0 rfl) ?_
            refine lv_bipush (v := 45) hx hb d_C_sum_45 (by decide) ?_
            have hP : va_P (dC, dI) vC (wC a cI cC F4 A4) H := hP
            have hD : va_D (va_A (wC a cI cC Fa Aa) s.heap.size) (wC a cI cC F4 A4) := hD
            obtain ⟨r6, F6, A6, hc, hf⟩ := ra_bi_some hf
            refine cc_calli (va_runV (As := [.int (45 : Int32)]) (rest := []) ⟨hx, hb, hml, hown, hts⟩ (k_C_takes l dC dI a cI cC H.size F4 A4 (45 : Int32) r6 F6 A6 hc) (cw_V 1 hts mw_177 mw_179 ms_C_takes mw_3 mw_180 rfl rfl rfl hd_C_takes ⟨(show 1 + 1 ≤ (fI + 16) by omega), (show 8 + (2 + 11) + 20 ≤ (lI + 700) by omega)⟩) (cc_preV hK hP hD rfl (q0 := 0) rfl) rfl rfl hl.1 rfl (lv_room (Nat.le_of_ble_eq_true rfl)) d_C_sum_47 ⟨Nat.zero_le _, Nat.zero_le _⟩) hD hS hA (fun H locs hP hD hS => ?_)
            refine lv_if_eq (tgt := 68) hx hb d_C_sum_50 (by decide) (fun h50_7 => ?_) (fun h50_7 => ?_)
            · rw [if_pos h50_7] at hf
              refine lv_iload_n hx hb d_C_sum_68 rfl (lv_at hl 2 rfl) ?_
              cases hf
              exact W.iret hx hb hr (fun t ht hW => ⟨⟨_, (), rfl, rfl, by rw [ht]; exact hP, va_K.moved hW.alike hK, hD⟩, hS.F ht⟩) hS.2.2 d_C_sum_69
            · rw [if_neg h50_7] at hf
              refine lv_aload_n hx hb d_C_sum_53 rfl (lv_at hl 0 rfl) ?_
              refine lv_iconst (v := 3) hx hb d_C_sum_54 (by decide) ?_
              refine lv_iload_n hx hb d_C_sum_55 rfl (lv_at hl 2 rfl) ?_
              refine lv_aload_n hx hb d_C_sum_56 rfl (lv_at hl 0 rfl) ?_
              refine lv_iload_n hx hb d_C_sum_57 rfl (lv_at hl 1 rfl) ?_
              have hP : va_P (dC, dI) vC (wC a cI cC F6 A6) H := hP
              have hD : va_D (va_A (wC a cI cC Fa Aa) s.heap.size) (wC a cI cC F6 A6) := hD
              obtain ⟨r8, F8, A8, hc, hf⟩ := ra_bi_some hf
              refine cc_calli (va_runV (As := [.int x1]) (rest := [.int x2, .int (3 : Int32), .ref (a 0)]) ⟨hx, hb, hml, hown, hts⟩ (k_C_product l dC dI a cI cC fI lI inner hin H.size F6 A6 x1 r8 F8 A8 hc) (cw_V 1 hts mw_169 mw_171 ms_C_product mw_3 mw_172 rfl rfl rfl hd_C_product ⟨(show (fI + 14) + 1 ≤ (fI + 16) by omega), (show 8 + (4 + 11) + (lI + 600) ≤ (lI + 700) by omega)⟩) (cc_preV hK hP hD rfl (q0 := 0) rfl) rfl rfl hl.1 rfl (lv_room (Nat.le_of_ble_eq_true rfl)) d_C_sum_58 ⟨Nat.zero_le _, Nat.zero_le _⟩) hD hS hA (fun H locs hP hD hS => ?_)
              have hP : va_P (dC, dI) vC (wC a cI cC F8 A8) H := hP
              have hD : va_D (va_A (wC a cI cC Fa Aa) s.heap.size) (wC a cI cC F8 A8) := hD
              obtain ⟨r9, F9, A9, hc, hf⟩ := ra_bi_some hf
              refine cc_calli (va_runV (As := [.int (3 : Int32), .int x2, .int r8]) (rest := []) ⟨hx, hb, hml, hown, hts⟩ (k_C_pairwise l dC dI a cI cC H.size F8 A8 (3 : Int32) x2 r8 r9 F9 A9 hc) (cw_V 3 hts mw_244 mw_246 ms_C_pairwise mw_3 mw_247 rfl rfl rfl hd_C_pairwise ⟨(show 2 + 1 ≤ (fI + 16) by omega), (show 8 + (10 + 11) + 42 ≤ (lI + 700) by omega)⟩) (cc_preV hK hP hD rfl (q0 := 0) rfl) rfl rfl hl.1 rfl (lv_room (Nat.le_of_ble_eq_true rfl)) d_C_sum_61 ⟨Nat.zero_le _, Nat.zero_le _⟩) hD hS hA (fun H locs hP hD hS => ?_)
              refine lv_istore_n hx hb d_C_sum_64 rfl hl (by decide) rfl (fun ls hl => ?_)
              have hl : lv_has ls 4 [(2, .int r9), (0, .ref (a 0)), (1, .int x1), (3, .int x3)] := hl
              refine lv_goto (tgt := 70) hx hb d_C_sum_65 (by decide) ?_
              refine lv_iinc (k := 3) (v := (x3 + (1 : Int32))) hx hb d_C_sum_70 hl rfl (by rfl) (by decide) rfl (fun ls hl => ?_)
              have hl : lv_has ls 4 [(3, .int (x3 + (1 : Int32))), (2, .int r9), (0, .ref (a 0)), (1, .int x1)] := hl
              refine lv_goto (tgt := 8) hx hb d_C_sum_73 (by decide) ?_
              have hl : lv_has ls 4 [(0, .ref (a 0)), (1, .int x1), (2, .int r9), (3, .int (x3 + (1 : Int32)))] := lv_sub hl [2, 3, 1, 0] rfl
              exact ih x1 r9 (x3 + (1 : Int32)) F9 A9 _ _ _ hl hP hD hS hf
          · rw [if_neg h26_5] at hf
            refine lv_aload_n hx hb d_C_sum_29 rfl (lv_at hl 0 rfl) ?_
            refine lv_iconst (v := 2) hx hb d_C_sum_30 (by decide) ?_
            refine lv_iload_n hx hb d_C_sum_31 rfl (lv_at hl 2 rfl) ?_
            refine lv_aload_n hx hb d_C_sum_32 rfl (lv_at hl 0 rfl) ?_
            refine lv_iload_n hx hb d_C_sum_33 rfl (lv_at hl 1 rfl) ?_
            have hP : va_P (dC, dI) vC (wC a cI cC F4 A4) H := hP
            have hD : va_D (va_A (wC a cI cC Fa Aa) s.heap.size) (wC a cI cC F4 A4) := hD
            obtain ⟨r10, F10, A10, hc, hf⟩ := ra_bi_some hf
            refine cc_calli (va_runV (As := [.int x1]) (rest := [.int x2, .int (2 : Int32), .ref (a 0)]) ⟨hx, hb, hml, hown, hts⟩ (k_C_product l dC dI a cI cC fI lI inner hin H.size F4 A4 x1 r10 F10 A10 hc) (cw_V 1 hts mw_169 mw_171 ms_C_product mw_3 mw_172 rfl rfl rfl hd_C_product ⟨(show (fI + 14) + 1 ≤ (fI + 16) by omega), (show 8 + (4 + 11) + (lI + 600) ≤ (lI + 700) by omega)⟩) (cc_preV hK hP hD rfl (q0 := 0) rfl) rfl rfl hl.1 rfl (lv_room (Nat.le_of_ble_eq_true rfl)) d_C_sum_34 ⟨Nat.zero_le _, Nat.zero_le _⟩) hD hS hA (fun H locs hP hD hS => ?_)
            have hP : va_P (dC, dI) vC (wC a cI cC F10 A10) H := hP
            have hD : va_D (va_A (wC a cI cC Fa Aa) s.heap.size) (wC a cI cC F10 A10) := hD
            obtain ⟨r11, F11, A11, hc, hf⟩ := ra_bi_some hf
            refine cc_calli (va_runV (As := [.int (2 : Int32), .int x2, .int r10]) (rest := []) ⟨hx, hb, hml, hown, hts⟩ (k_C_pairwise l dC dI a cI cC H.size F10 A10 (2 : Int32) x2 r10 r11 F11 A11 hc) (cw_V 3 hts mw_244 mw_246 ms_C_pairwise mw_3 mw_247 rfl rfl rfl hd_C_pairwise ⟨(show 2 + 1 ≤ (fI + 16) by omega), (show 8 + (10 + 11) + 42 ≤ (lI + 700) by omega)⟩) (cc_preV hK hP hD rfl (q0 := 0) rfl) rfl rfl hl.1 rfl (lv_room (Nat.le_of_ble_eq_true rfl)) d_C_sum_37 ⟨Nat.zero_le _, Nat.zero_le _⟩) hD hS hA (fun H locs hP hD hS => ?_)
            refine lv_istore_n hx hb d_C_sum_40 rfl hl (by decide) rfl (fun ls hl => ?_)
            have hl : lv_has ls 4 [(2, .int r11), (0, .ref (a 0)), (1, .int x1), (3, .int x3)] := hl
            refine lv_goto (tgt := 70) hx hb d_C_sum_41 (by decide) ?_
            refine lv_iinc (k := 3) (v := (x3 + (1 : Int32))) hx hb d_C_sum_70 hl rfl (by rfl) (by decide) rfl (fun ls hl => ?_)
            have hl : lv_has ls 4 [(3, .int (x3 + (1 : Int32))), (2, .int r11), (0, .ref (a 0)), (1, .int x1)] := hl
            refine lv_goto (tgt := 8) hx hb d_C_sum_73 (by decide) ?_
            have hl : lv_has ls 4 [(0, .ref (a 0)), (1, .int x1), (2, .int r11), (3, .int (x3 + (1 : Int32)))] := lv_sub hl [2, 3, 1, 0] rfl
            exact ih x1 r11 (x3 + (1 : Int32)) F11 A11 _ _ _ hl hP hD hS hf
  rw [lg_entry_eq]
  generalize (lg_sl (([.ref (a 0), .int u1] : List Value)) ++ List.replicate (4 - (lg_sl (([.ref (a 0), .int u1] : List Value))).length) Slot.unset).toArray = ls at hl ⊢
  have hl : lv_has ls 4 [(0, .ref (a 0)), (1, .int u1)] := hl
  unfold f_C_sum at hf
  refine lv_aload_n hx hb d_C_sum_0 rfl (lv_at hl 0 rfl) ?_
  refine lv_iload_n hx hb d_C_sum_1 rfl (lv_at hl 1 rfl) ?_
  have hP : va_P (dC, dI) vC (wC a cI cC Fa Aa) s.heap := hP
  have hD : va_D (va_A (wC a cI cC Fa Aa) s.heap.size) (wC a cI cC Fa Aa) := hD
  obtain ⟨r1, F1, A1, hc, hf⟩ := ra_bi_some hf
  refine cc_calli (va_runV (As := [.int u1]) (rest := []) ⟨hx, hb, hml, hown, hts⟩ (k_C_product l dC dI a cI cC fI lI inner hin s.heap.size Fa Aa u1 r1 F1 A1 hc) (cw_V 1 hts mw_169 mw_171 ms_C_product mw_3 mw_172 rfl rfl rfl hd_C_product ⟨(show (fI + 14) + 1 ≤ (fI + 16) by omega), (show 8 + (4 + 11) + (lI + 600) ≤ (lI + 700) by omega)⟩) (cc_preV hK hP hD rfl (q0 := 0) rfl) rfl rfl hl.1 rfl (lv_room (Nat.le_of_ble_eq_true rfl)) d_C_sum_2 ⟨Nat.zero_le _, Nat.zero_le _⟩) hD hS hA (fun H locs hP hD hS => ?_)
  refine lv_istore_n hx hb d_C_sum_5 rfl hl (by decide) rfl (fun ls hl => ?_)
  have hl : lv_has ls 4 [(2, .int r1), (0, .ref (a 0)), (1, .int u1)] := hl
  refine lv_iconst (v := 0) hx hb d_C_sum_6 (by decide) ?_
  refine lv_istore_n hx hb d_C_sum_7 rfl hl (by decide) rfl (fun ls hl => ?_)
  have hl : lv_has ls 4 [(3, .int (0 : Int32)), (2, .int r1), (0, .ref (a 0)), (1, .int u1)] := hl
  have hl : lv_has ls 4 [(0, .ref (a 0)), (1, .int u1), (2, .int r1), (3, .int (0 : Int32))] := lv_sub hl [2, 3, 1, 0] rfl
  exact L8 400 u1 r1 (0 : Int32) F1 A1 _ _ _ hl hP hD hS hf
/-- d more brackets may be opened -/
def f_C_sumD : Nat → Int32 → ST_F → ST_A → Option (Int32 × ST_F × ST_A)
  | 0 => f_C_sum (fun _ _ _ => none)
  | d + 1 => f_C_sum (f_C_sumD d)
theorem k_C_sumD (l : Launch) (dC : Nat → ClassId) (dI : Nat → Nat → Nat) (a : Nat → Nat) (cI cC : ClassId) : ∀ (d : Nat) (sz : Nat) (Fa : ST_F) (Aa : ST_A) (u1 r0 : Int32) (F9 : ST_F) (A9 : ST_A), f_C_sumD d u1 Fa Aa = some (r0, F9, A9) →
    cc_MetI l y_C_sum (Cond.code y_C_sum b_C_sum 4 (some .int) :: wA) ({ frames := 16 * (d + 1), cells := 0, slots := 0, locals := 700 * (d + 1) } : Room) (dC, dI) vC [(cI, .int), (cC, .char)] ([.ref (a 0), .int u1] : List Value) (wC a cI cC Fa Aa) sz (wC a cI cC F9 A9) r0 := by
  intro d
  induction d with
  | zero => intro sz Fa Aa u1 r0 F9 A9 hf; exact k_C_sum l dC dI a cI cC (16 * 0) (700 * 0) (fun _ _ _ => none) (fun _ _ _ _ _ _ _ h => by cases h) sz Fa Aa u1 r0 F9 A9 hf
  | succ d ih => intro sz Fa Aa u1 r0 F9 A9 hf; exact k_C_sum l dC dI a cI cC (16 * (d + 1)) (700 * (d + 1)) (f_C_sumD d) ih sz Fa Aa u1 r0 F9 A9 hf
end
section
abbrev wC0 (a : Nat → Nat) (cI cC : ClassId) (tx : Nat) (F : ST_F) (A : ST_A) : va_W := [((a 0), .inr (1, [.ref (a 1), .ref tx, .int (F 0), .int (F 1), .ref (a 3)])), ((a 1), .inl (cI, 26, .inl (A 0))), ((a 2), .inl (cC, 160, .inl (A 1))), ((a 3), .inr (0, [.ref (a 4), .ref (a 5), .ref (a 6), .ref (a 7), .ref (a 8), .int (F 2), .int (F 3)])), ((a 4), .inl (cI, 100, .inl (A 2))), ((a 5), .inl (cI, 100, .inl (A 3))), ((a 6), .inl (cI, 100, .inl (A 4))), ((a 7), .inl (cI, 3, .inl (A 5))), ((a 8), .inl (cI, 26, .inl (A 6)))]
def f_C_finish_L29 : Nat → Int32 → Int32 → ST_F → ST_A → Option (ST_F × ST_A)
  | 0, _, _, _, _ => none
  | n + 1, x1, x2, F, A => if (26 : Int32) ≤ x2 then (some (F, A)) else (ra_g x2 26 (if ((A 0) x2.toNatClampNeg) = (-1 : Int32) then (ra_g x2 26 (f_C_finish_L29 n x1 (x2 + (1 : Int32)) F (va_up A 6 (upd (A 6) x2.toNatClampNeg (0 : Int32))))) else (ra_g x2 26 (ra_g x2 26 (f_C_finish_L29 n x1 (x2 + (1 : Int32)) F (va_up A 6 (upd (A 6) x2.toNatClampNeg (f_V_typeIn ((A 0) x2.toNatClampNeg)))))))))
def f_C_finish_L2 : Nat → Int32 → Int32 → ST_F → ST_A → Option (ST_F × ST_A)
  | 0, _, _, _, _ => none
  | n + 1, x1, x2, F, A => if (3 : Int32) ≤ x2 then (f_C_finish_L29 400 x1 (0 : Int32) F A) else (ra_g x2 3 (f_C_finish_L2 n x1 (x2 + (1 : Int32)) F (va_up A 5 (upd (A 5) x2.toNatClampNeg (f_V_number x1 x2)))))
def f_C_finish (u1 : Int32) (Fa : ST_F) (Aa : ST_A) : Option (ST_F × ST_A) := f_C_finish_L2 400 u1 (0 : Int32) Fa Aa
set_option maxHeartbeats 4000000 in
set_option maxRecDepth 100000 in
theorem k_C_finish (l : Launch) (dC : Nat → ClassId) (dI : Nat → Nat → Nat) (a : Nat → Nat) (cI cC : ClassId) (sz : Nat) (Fa : ST_F) (Aa : ST_A) (u1 : Int32) (F9 : ST_F) (A9 : ST_A) (hf : f_C_finish u1 Fa Aa = some (F9, A9)) : cc_MetV l y_C_finish (Cond.code y_C_finish b_C_finish 3 none :: wA) ({ frames := 1, cells := 0, slots := 0, locals := 21 } : Room) (dC, dI) vC [(cI, .int), (cC, .char)] ([.ref (a 0), .int u1] : List Value) (wC a cI cC Fa Aa) sz (wC a cI cC F9 A9) := by
  refine Met.ofW (cc := b_C_finish) (maxL := 3) (ret := none) (by decide) rfl ?_
  intro p e s m args below meth c s₁ B hml hv
  obtain ⟨rfl, hsz, hP, hK, hD0⟩ := hv
  have hx := B.exec
  have hb := B.bytes
  have hr := B.returns
  have hts := fun w h => atoms_spec (ws := (Cond.code y_C_finish b_C_finish 3 none :: wA)) B.pre w (List.mem_cons_of_mem _ h)
  have hown : s.vm.findClass R_C = some m.cls := findClass_of_methodNamed B.named
  have hlocks := B.notSynchronized
  subst hsz
  have hD := hD0.self (sz := s.heap.size)
  have hA : ∀ q : Nat, s.heap.size ≤ q → va_A (wC a cI cC Fa Aa) s.heap.size q := fun q h => Or.inr h
  have hS : va_S (va_A (wC a cI cC Fa Aa) s.heap.size) s.heap s.heap [] := va_S.rf
  have hl := lv_entry (([.ref (a 0), .int u1] : List Value)) (n := 3) (Nat.le_of_ble_eq_true rfl)
  have L29 : ∀ (n : Nat) (x1 : Int32) (x2 : Int32) (F : ST_F) (A : ST_A) (H : Heap) (locs : List Loc) (ls : Array Slot), lv_has ls 3 [(0, .ref (a 0)), (1, .int x1), (2, .int x2)] → va_P (dC, dI) vC (wC a cI cC F A) H → va_D (va_A (wC a cI cC Fa Aa) s.heap.size) (wC a cI cC F A) → va_S (va_A (wC a cI cC Fa Aa) s.heap.size) s.heap H locs → f_C_finish_L29 n x1 x2 F A = some (F9, A9) → W p l e (headSpec (Cond.code y_C_finish b_C_finish 3 none :: wA) ({ frames := 1, cells := 0, slots := 0, locals := 21 } : Room)).room s m ([.ref (a 0), .int u1] : List Value).toArray below meth c H locs 0 0 (MQ below (cc_Qv (dC, dI) vC [(cI, .int), (cC, .char)] (wC a cI cC Fa Aa) s.heap.size (wC a cI cC F9 A9)) ([.ref (a 0), .int u1] : List Value).toArray s 0 0 (va_A (wC a cI cC Fa Aa) s.heap.size)) (F0 m 29 ls []) := by
    intro n
    induction n with
    | zero => intro x1 x2 F A H locs ls hl hP hD hS hf; cases hf
    | succ n ih =>
      intro x1 x2 F A H locs ls hl hP hD hS hf
      rw [f_C_finish_L29] at hf
      refine lv_iload_n hx hb d_C_finish_29 rfl (lv_at hl 2 rfl) ?_
      refine lv_bipush (v := 26) hx hb d_C_finish_30 (by decide) ?_
      refine lv_icmp_ge (tgt := 73) hx hb d_C_finish_32 (by decide) (fun h32_2 => ?_) (fun h32_2 => ?_)
      · rw [if_pos h32_2] at hf
        cases hf
        exact W.vret hx hb hr (fun t ht hW => ⟨⟨(), rfl, trivial, by rw [ht]; exact hP, va_K.moved hW.alike hK, hD⟩, hS.F ht⟩) hS.2.2 d_C_finish_73
      · rw [if_neg h32_2] at hf
        refine lv_aload_n hx hb d_C_finish_35 rfl (lv_at hl 0 rfl) ?_
        refine va_get (D := (dC, dI)) (ci := 1) (v := .ref (a 3)) (C := R_C) (T := T_C) (N := 5) hx hb hts in_C hown hK hP 0 rfl rfl 4 (by decide) (hts _ mw_79) (fun _ h9 => h9) rfl d_C_finish_36 ?_
        refine va_get (D := (dC, dI)) (ci := 0) (v := .ref (a 8)) (C := R_K) (T := T_K) (N := 7) hx hb hts in_K hown hK hP 3 rfl rfl 4 (by decide) (hts _ mw_43) (fun _ h9 => h9) rfl d_C_finish_39 ?_
        refine lv_iload_n hx hb d_C_finish_42 rfl (lv_at hl 2 rfl) ?_
        refine lv_aload_n hx hb d_C_finish_43 rfl (lv_at hl 0 rfl) ?_
        refine va_get (D := (dC, dI)) (ci := 1) (v := .ref (a 1)) (C := R_C) (T := T_C) (N := 5) hx hb hts in_C hown hK hP 0 rfl rfl 0 (by decide) (hts _ mw_75) (fun _ h9 => h9) rfl d_C_finish_44 ?_
        refine lv_iload_n hx hb d_C_finish_47 rfl (lv_at hl 2 rfl) ?_
        obtain ⟨hi, hf⟩ := ra_g_some hf
        refine va_iald hx hb hK hP 1 0 rfl rfl hi d_C_finish_48 ?_
        refine lv_iconst (v := -1) hx hb d_C_finish_49 (by decide) ?_
        refine lv_icmp_ne (tgt := 57) hx hb d_C_finish_50 (by decide) (fun h50_3 => ?_) (fun h50_3 => ?_)
        · rw [if_neg h50_3] at hf
          refine lv_aload_n hx hb d_C_finish_57 rfl (lv_at hl 0 rfl) ?_
          refine va_get (D := (dC, dI)) (ci := 1) (v := .ref (a 1)) (C := R_C) (T := T_C) (N := 5) hx hb hts in_C hown hK hP 0 rfl rfl 0 (by decide) (hts _ mw_75) (fun _ h9 => h9) rfl d_C_finish_58 ?_
          refine lv_iload_n hx hb d_C_finish_61 rfl (lv_at hl 2 rfl) ?_
          obtain ⟨hi, hf⟩ := ra_g_some hf
          refine va_iald hx hb hK hP 1 0 rfl rfl hi d_C_finish_62 ?_
          refine cc_calls (va_runS (As := [.int ((A 0) x2.toNatClampNeg)]) (rest := [.int x2, .ref (a 8)]) ⟨hx, hb, hml, hown, hts⟩ (k_V_typeIn l ((A 0) x2.toNatClampNeg) _ rfl) (cw_S 1 hts mw_223 mw_224 mw_11 mw_225 rfl rfl hd_V_typeIn ⟨Nat.le_of_ble_eq_true rfl, Nat.le_of_ble_eq_true rfl⟩) cc_preS rfl rfl hl.1 rfl (lv_room (Nat.le_of_ble_eq_true rfl)) d_C_finish_63 ⟨Nat.zero_le _, Nat.zero_le _⟩) ?_
          obtain ⟨hi, hf⟩ := ra_g_some hf
          refine va_iast hx hb hK hP hD hS 8 0 rfl rfl hi d_C_finish_66 (fun H locs hP hD hS => ?_)
          have hP : va_P (dC, dI) vC [((a 0), .inr (1, [.ref (a 1), .ref (a 2), .int (F 0), .int (F 1), .ref (a 3)])), ((a 1), .inl (cI, 26, .inl (A 0))), ((a 2), .inl (cC, 160, .inl (A 1))), ((a 3), .inr (0, [.ref (a 4), .ref (a 5), .ref (a 6), .ref (a 7), .ref (a 8), .int (F 2), .int (F 3)])), ((a 4), .inl (cI, 100, .inl (A 2))), ((a 5), .inl (cI, 100, .inl (A 3))), ((a 6), .inl (cI, 100, .inl (A 4))), ((a 7), .inl (cI, 3, .inl (A 5))), ((a 8), .inl (cI, 26, .inl (upd (A 6) x2.toNatClampNeg (f_V_typeIn ((A 0) x2.toNatClampNeg)))))] H := hP
          have hD : va_D (va_A (wC a cI cC Fa Aa) s.heap.size) [((a 0), .inr (1, [.ref (a 1), .ref (a 2), .int (F 0), .int (F 1), .ref (a 3)])), ((a 1), .inl (cI, 26, .inl (A 0))), ((a 2), .inl (cC, 160, .inl (A 1))), ((a 3), .inr (0, [.ref (a 4), .ref (a 5), .ref (a 6), .ref (a 7), .ref (a 8), .int (F 2), .int (F 3)])), ((a 4), .inl (cI, 100, .inl (A 2))), ((a 5), .inl (cI, 100, .inl (A 3))), ((a 6), .inl (cI, 100, .inl (A 4))), ((a 7), .inl (cI, 3, .inl (A 5))), ((a 8), .inl (cI, 26, .inl (upd (A 6) x2.toNatClampNeg (f_V_typeIn ((A 0) x2.toNatClampNeg)))))] := hD
          refine lv_iinc (k := 2) (v := (x2 + (1 : Int32))) hx hb d_C_finish_67 hl rfl (by rfl) (by decide) rfl (fun ls hl => ?_)
          have hl : lv_has ls 3 [(2, .int (x2 + (1 : Int32))), (0, .ref (a 0)), (1, .int x1)] := hl
          refine lv_goto (tgt := 29) hx hb d_C_finish_70 (by decide) ?_
          have hl : lv_has ls 3 [(0, .ref (a 0)), (1, .int x1), (2, .int (x2 + (1 : Int32)))] := lv_sub hl [1, 2, 0] rfl
          exact ih x1 (x2 + (1 : Int32)) F (va_up A 6 (upd (A 6) x2.toNatClampNeg (f_V_typeIn ((A 0) x2.toNatClampNeg)))) _ _ _ hl hP hD hS hf
        · rw [if_pos h50_3] at hf
          refine lv_iconst (v := 0) hx hb d_C_finish_53 (by decide) ?_
          refine lv_goto (tgt := 66) hx hb d_C_finish_54 (by decide) ?_
          obtain ⟨hi, hf⟩ := ra_g_some hf
          refine va_iast hx hb hK hP hD hS 8 0 rfl rfl hi d_C_finish_66 (fun H locs hP hD hS => ?_)
          have hP : va_P (dC, dI) vC [((a 0), .inr (1, [.ref (a 1), .ref (a 2), .int (F 0), .int (F 1), .ref (a 3)])), ((a 1), .inl (cI, 26, .inl (A 0))), ((a 2), .inl (cC, 160, .inl (A 1))), ((a 3), .inr (0, [.ref (a 4), .ref (a 5), .ref (a 6), .ref (a 7), .ref (a 8), .int (F 2), .int (F 3)])), ((a 4), .inl (cI, 100, .inl (A 2))), ((a 5), .inl (cI, 100, .inl (A 3))), ((a 6), .inl (cI, 100, .inl (A 4))), ((a 7), .inl (cI, 3, .inl (A 5))), ((a 8), .inl (cI, 26, .inl (upd (A 6) x2.toNatClampNeg (0 : Int32))))] H := hP
          have hD : va_D (va_A (wC a cI cC Fa Aa) s.heap.size) [((a 0), .inr (1, [.ref (a 1), .ref (a 2), .int (F 0), .int (F 1), .ref (a 3)])), ((a 1), .inl (cI, 26, .inl (A 0))), ((a 2), .inl (cC, 160, .inl (A 1))), ((a 3), .inr (0, [.ref (a 4), .ref (a 5), .ref (a 6), .ref (a 7), .ref (a 8), .int (F 2), .int (F 3)])), ((a 4), .inl (cI, 100, .inl (A 2))), ((a 5), .inl (cI, 100, .inl (A 3))), ((a 6), .inl (cI, 100, .inl (A 4))), ((a 7), .inl (cI, 3, .inl (A 5))), ((a 8), .inl (cI, 26, .inl (upd (A 6) x2.toNatClampNeg (0 : Int32))))] := hD
          refine lv_iinc (k := 2) (v := (x2 + (1 : Int32))) hx hb d_C_finish_67 hl rfl (by rfl) (by decide) rfl (fun ls hl => ?_)
          have hl : lv_has ls 3 [(2, .int (x2 + (1 : Int32))), (0, .ref (a 0)), (1, .int x1)] := hl
          refine lv_goto (tgt := 29) hx hb d_C_finish_70 (by decide) ?_
          have hl : lv_has ls 3 [(0, .ref (a 0)), (1, .int x1), (2, .int (x2 + (1 : Int32)))] := lv_sub hl [1, 2, 0] rfl
          exact ih x1 (x2 + (1 : Int32)) F (va_up A 6 (upd (A 6) x2.toNatClampNeg (0 : Int32))) _ _ _ hl hP hD hS hf
  have L2 : ∀ (n : Nat) (x1 : Int32) (x2 : Int32) (F : ST_F) (A : ST_A) (H : Heap) (locs : List Loc) (ls : Array Slot), lv_has ls 3 [(0, .ref (a 0)), (1, .int x1), (2, .int x2)] → va_P (dC, dI) vC (wC a cI cC F A) H → va_D (va_A (wC a cI cC Fa Aa) s.heap.size) (wC a cI cC F A) → va_S (va_A (wC a cI cC Fa Aa) s.heap.size) s.heap H locs → f_C_finish_L2 n x1 x2 F A = some (F9, A9) → W p l e (headSpec (Cond.code y_C_finish b_C_finish 3 none :: wA) ({ frames := 1, cells := 0, slots := 0, locals := 21 } : Room)).room s m ([.ref (a 0), .int u1] : List Value).toArray below meth c H locs 0 0 (MQ below (cc_Qv (dC, dI) vC [(cI, .int), (cC, .char)] (wC a cI cC Fa Aa) s.heap.size (wC a cI cC F9 A9)) ([.ref (a 0), .int u1] : List Value).toArray s 0 0 (va_A (wC a cI cC Fa Aa) s.heap.size)) (F0 m 2 ls []) := by
    intro n
    induction n with
    | zero => intro x1 x2 F A H locs ls hl hP hD hS hf; cases hf
    | succ n ih =>
      intro x1 x2 F A H locs ls hl hP hD hS hf
      rw [f_C_finish_L2] at hf
      refine lv_iload_n hx hb d_C_finish_2 rfl (lv_at hl 2 rfl) ?_
      refine lv_iconst (v := 3) hx hb d_C_finish_3 (by decide) ?_
      refine lv_icmp_ge (tgt := 27) hx hb d_C_finish_4 (by decide) (fun h4_1 => ?_) (fun h4_1 => ?_)
      · rw [if_pos h4_1] at hf
        refine lv_iconst (v := 0) hx hb d_C_finish_27 (by decide) ?_
        refine lv_istore_n hx hb d_C_finish_28 rfl hl (by decide) rfl (fun ls hl => ?_)
        have hl : lv_has ls 3 [(2, .int (0 : Int32)), (0, .ref (a 0)), (1, .int x1)] := hl
        have hl : lv_has ls 3 [(0, .ref (a 0)), (1, .int x1), (2, .int (0 : Int32))] := lv_sub hl [1, 2, 0] rfl
        exact L29 400 x1 (0 : Int32) F A _ _ _ hl hP hD hS hf
      · rw [if_neg h4_1] at hf
        refine lv_aload_n hx hb d_C_finish_7 rfl (lv_at hl 0 rfl) ?_
        refine va_get (D := (dC, dI)) (ci := 1) (v := .ref (a 3)) (C := R_C) (T := T_C) (N := 5) hx hb hts in_C hown hK hP 0 rfl rfl 4 (by decide) (hts _ mw_79) (fun _ h9 => h9) rfl d_C_finish_8 ?_
        refine va_get (D := (dC, dI)) (ci := 0) (v := .ref (a 7)) (C := R_K) (T := T_K) (N := 7) hx hb hts in_K hown hK hP 3 rfl rfl 3 (by decide) (hts _ mw_40) (fun _ h9 => h9) rfl d_C_finish_11 ?_
        refine lv_iload_n hx hb d_C_finish_14 rfl (lv_at hl 2 rfl) ?_
        refine lv_iload_n hx hb d_C_finish_15 rfl (lv_at hl 1 rfl) ?_
        refine lv_iload_n hx hb d_C_finish_16 rfl (lv_at hl 2 rfl) ?_
        refine cc_calls (va_runS (As := [.int x1, .int x2]) (rest := [.int x2, .ref (a 7)]) ⟨hx, hb, hml, hown, hts⟩ (k_V_number l x1 x2 _ rfl) (cw_S 2 hts mw_226 mw_227 mw_11 mw_228 rfl rfl hd_V_number ⟨Nat.le_of_ble_eq_true rfl, Nat.le_of_ble_eq_true rfl⟩) cc_preS rfl rfl hl.1 rfl (lv_room (Nat.le_of_ble_eq_true rfl)) d_C_finish_17 ⟨Nat.zero_le _, Nat.zero_le _⟩) ?_
        obtain ⟨hi, hf⟩ := ra_g_some hf
        refine va_iast hx hb hK hP hD hS 7 0 rfl rfl hi d_C_finish_20 (fun H locs hP hD hS => ?_)
        have hP : va_P (dC, dI) vC [((a 0), .inr (1, [.ref (a 1), .ref (a 2), .int (F 0), .int (F 1), .ref (a 3)])), ((a 1), .inl (cI, 26, .inl (A 0))), ((a 2), .inl (cC, 160, .inl (A 1))), ((a 3), .inr (0, [.ref (a 4), .ref (a 5), .ref (a 6), .ref (a 7), .ref (a 8), .int (F 2), .int (F 3)])), ((a 4), .inl (cI, 100, .inl (A 2))), ((a 5), .inl (cI, 100, .inl (A 3))), ((a 6), .inl (cI, 100, .inl (A 4))), ((a 7), .inl (cI, 3, .inl (upd (A 5) x2.toNatClampNeg (f_V_number x1 x2)))), ((a 8), .inl (cI, 26, .inl (A 6)))] H := hP
        have hD : va_D (va_A (wC a cI cC Fa Aa) s.heap.size) [((a 0), .inr (1, [.ref (a 1), .ref (a 2), .int (F 0), .int (F 1), .ref (a 3)])), ((a 1), .inl (cI, 26, .inl (A 0))), ((a 2), .inl (cC, 160, .inl (A 1))), ((a 3), .inr (0, [.ref (a 4), .ref (a 5), .ref (a 6), .ref (a 7), .ref (a 8), .int (F 2), .int (F 3)])), ((a 4), .inl (cI, 100, .inl (A 2))), ((a 5), .inl (cI, 100, .inl (A 3))), ((a 6), .inl (cI, 100, .inl (A 4))), ((a 7), .inl (cI, 3, .inl (upd (A 5) x2.toNatClampNeg (f_V_number x1 x2)))), ((a 8), .inl (cI, 26, .inl (A 6)))] := hD
        refine lv_iinc (k := 2) (v := (x2 + (1 : Int32))) hx hb d_C_finish_21 hl rfl (by rfl) (by decide) rfl (fun ls hl => ?_)
        have hl : lv_has ls 3 [(2, .int (x2 + (1 : Int32))), (0, .ref (a 0)), (1, .int x1)] := hl
        refine lv_goto (tgt := 2) hx hb d_C_finish_24 (by decide) ?_
        have hl : lv_has ls 3 [(0, .ref (a 0)), (1, .int x1), (2, .int (x2 + (1 : Int32)))] := lv_sub hl [1, 2, 0] rfl
        exact ih x1 (x2 + (1 : Int32)) F (va_up A 5 (upd (A 5) x2.toNatClampNeg (f_V_number x1 x2))) _ _ _ hl hP hD hS hf
  rw [lg_entry_eq]
  generalize (lg_sl (([.ref (a 0), .int u1] : List Value)) ++ List.replicate (3 - (lg_sl (([.ref (a 0), .int u1] : List Value))).length) Slot.unset).toArray = ls at hl ⊢
  have hl : lv_has ls 3 [(0, .ref (a 0)), (1, .int u1)] := hl
  unfold f_C_finish at hf
  refine lv_iconst (v := 0) hx hb d_C_finish_0 (by decide) ?_
  refine lv_istore_n hx hb d_C_finish_1 rfl hl (by decide) rfl (fun ls hl => ?_)
  have hl : lv_has ls 3 [(2, .int (0 : Int32)), (0, .ref (a 0)), (1, .int u1)] := hl
  have hl : lv_has ls 3 [(0, .ref (a 0)), (1, .int u1), (2, .int (0 : Int32))] := lv_sub hl [1, 2, 0] rfl
  exact L2 400 u1 (0 : Int32) Fa Aa _ _ _ hl hP hD hS hf
def f_C_assignment  (Fa : ST_F) (Aa : ST_A) : Option (Int32 × ST_F × ST_A) := ra_bi (f_C_next  Fa Aa) (fun r1 F1 A1 => if (f_C_isVariable r1) = 0 then (some ((0 : Int32), (upd F1 1 ((F1 1) + (2 : Int32))), A1)) else (ra_bi (f_C_sumD 5 (0 : Int32) (upd F1 1 ((F1 1) + (2 : Int32))) A1) (fun r3 F3 A3 => if r3 = (-1 : Int32) then (some ((0 : Int32), F3, A3)) else (ra_bi (f_C_takes (59 : Int32) F3 A3) (fun r5 F5 A5 => if r5 = 0 then (some ((0 : Int32), F5, A5)) else (ra_g (r1 - (97 : Int32)) 26 (some ((1 : Int32), F5, (va_up A5 0 (upd (A5 0) (r1 - (97 : Int32)).toNatClampNeg r3))))))))))
set_option maxHeartbeats 4000000 in
set_option maxRecDepth 100000 in
theorem k_C_assignment (l : Launch) (dC : Nat → ClassId) (dI : Nat → Nat → Nat) (a : Nat → Nat) (cI cC : ClassId) (sz : Nat) (Fa : ST_F) (Aa : ST_A)  (r0 : Int32) (F9 : ST_F) (A9 : ST_A) (hf : f_C_assignment  Fa Aa = some (r0, F9, A9)) : cc_MetI l y_C_assignment (Cond.code y_C_assignment b_C_assignment 3 (some .boolean) :: wA) ({ frames := 97, cells := 0, slots := 0, locals := 4223 } : Room) (dC, dI) vC [(cI, .int), (cC, .char)] ([.ref (a 0)] : List Value) (wC a cI cC Fa Aa) sz (wC a cI cC F9 A9) r0 := by
  refine Met.ofW (cc := b_C_assignment) (maxL := 3) (ret := (some .boolean)) (by decide) rfl ?_
  intro p e s m args below meth c s₁ B hml hv
  obtain ⟨rfl, hsz, hP, hK, hD0⟩ := hv
  have hx := B.exec
  have hb := B.bytes
  have hr := B.returns
  have hts := fun w h => atoms_spec (ws := (Cond.code y_C_assignment b_C_assignment 3 (some .boolean) :: wA)) B.pre w (List.mem_cons_of_mem _ h)
  have hown : s.vm.findClass R_C = some m.cls := findClass_of_methodNamed B.named
  have hlocks := B.notSynchronized
  subst hsz
  have hD := hD0.self (sz := s.heap.size)
  have hA : ∀ q : Nat, s.heap.size ≤ q → va_A (wC a cI cC Fa Aa) s.heap.size q := fun q h => Or.inr h
  have hS : va_S (va_A (wC a cI cC Fa Aa) s.heap.size) s.heap s.heap [] := va_S.rf
  have hl := lv_entry (([.ref (a 0)] : List Value)) (n := 3) (Nat.le_of_ble_eq_true rfl)
  rw [lg_entry_eq]
  generalize (lg_sl (([.ref (a 0)] : List Value)) ++ List.replicate (3 - (lg_sl (([.ref (a 0)] : List Value))).length) Slot.unset).toArray = ls at hl ⊢
  have hl : lv_has ls 3 [(0, .ref (a 0))] := hl
  unfold f_C_assignment at hf
  refine lv_aload_n hx hb d_C_assignment_0 rfl (lv_at hl 0 rfl) ?_
  have hP : va_P (dC, dI) vC (wC a cI cC Fa Aa) s.heap := hP
  have hD : va_D (va_A (wC a cI cC Fa Aa) s.heap.size) (wC a cI cC Fa Aa) := hD
  obtain ⟨r1, F1, A1, hc, hf⟩ := ra_bi_some hf
  refine cc_calli (va_runV (As := []) (rest := []) ⟨hx, hb, hml, hown, hts⟩ (k_C_next l dC dI a cI cC s.heap.size Fa Aa  r1 F1 A1 hc) (cw_V 0 hts mw_155 mw_157 ms_C_next mw_3 mw_158 rfl rfl rfl hd_C_next ⟨Nat.le_of_ble_eq_true rfl, Nat.le_of_ble_eq_true rfl⟩) (cc_preV hK hP hD rfl (q0 := 0) rfl) rfl rfl hl.1 rfl (lv_room (Nat.le_of_ble_eq_true rfl)) d_C_assignment_1 ⟨Nat.zero_le _, Nat.zero_le _⟩) hD hS hA (fun H locs hP hD hS => ?_)
  refine lv_istore_n hx hb d_C_assignment_4 rfl hl (by decide) rfl (fun ls hl => ?_)
  have hl : lv_has ls 3 [(1, .int r1), (0, .ref (a 0))] := hl
  refine lv_aload_n hx hb d_C_assignment_5 rfl (lv_at hl 1 rfl) ?_
  refine lv_dup hx hb d_C_assignment_6 rfl ?_
  refine va_get (D := (dC, dI)) (ci := 1) (v := .int (F1 1)) (C := R_C) (T := T_C) (N := 5) hx hb hts in_C hown hK hP 0 rfl rfl 3 (by decide) (hts _ mw_78) (fun _ h9 => h9) rfl d_C_assignment_7 ?_
  refine lv_iconst (v := 2) hx hb d_C_assignment_10 (by decide) ?_
  refine lv_iadd hx hb d_C_assignment_11 ?_
  refine va_put (D := (dC, dI)) (ci := 1) (v := .int ((F1 1) + (2 : Int32))) (ty := .int) (C := R_C) (T := T_C) (N := 5) hx hb hts in_C ty_C ty_C_ok nm_C hown hK hP hD hS 0 rfl rfl 3 (by decide) (hts _ mw_78) (fun _ h9 => h9) rfl (by decide +kernel) rfl rfl (Nat.le_of_ble_eq_true rfl) d_C_assignment_12 (fun H locs hP hD hS => ?_)
  have hP : va_P (dC, dI) vC [((a 0), .inr (1, [.ref (a 1), .ref (a 2), .int (F1 0), .int ((F1 1) + (2 : Int32)), .ref (a 3)])), ((a 1), .inl (cI, 26, .inl (A1 0))), ((a 2), .inl (cC, 160, .inl (A1 1))), ((a 3), .inr (0, [.ref (a 4), .ref (a 5), .ref (a 6), .ref (a 7), .ref (a 8), .int (F1 2), .int (F1 3)])), ((a 4), .inl (cI, 100, .inl (A1 2))), ((a 5), .inl (cI, 100, .inl (A1 3))), ((a 6), .inl (cI, 100, .inl (A1 4))), ((a 7), .inl (cI, 3, .inl (A1 5))), ((a 8), .inl (cI, 26, .inl (A1 6)))] H := hP
  have hD : va_D (va_A (wC a cI cC Fa Aa) s.heap.size) [((a 0), .inr (1, [.ref (a 1), .ref (a 2), .int (F1 0), .int ((F1 1) + (2 : Int32)), .ref (a 3)])), ((a 1), .inl (cI, 26, .inl (A1 0))), ((a 2), .inl (cC, 160, .inl (A1 1))), ((a 3), .inr (0, [.ref (a 4), .ref (a 5), .ref (a 6), .ref (a 7), .ref (a 8), .int (F1 2), .int (F1 3)])), ((a 4), .inl (cI, 100, .inl (A1 2))), ((a 5), .inl (cI, 100, .inl (A1 3))), ((a 6), .inl (cI, 100, .inl (A1 4))), ((a 7), .inl (cI, 3, .inl (A1 5))), ((a 8), .inl (cI, 26, .inl (A1 6)))] := hD
  refine lv_iload_n hx hb d_C_assignment_15 rfl (lv_at hl 0 rfl) ?_
  refine cc_calls (va_runS (As := [.int r1]) (rest := []) ⟨hx, hb, hml, hown, hts⟩ (k_C_isVariable l r1 _ rfl) (cw_S 1 hts mw_159 mw_160 mw_3 mw_161 rfl rfl hd_C_isVariable ⟨Nat.le_of_ble_eq_true rfl, Nat.le_of_ble_eq_true rfl⟩) cc_preS rfl rfl hl.1 rfl (lv_room (Nat.le_of_ble_eq_true rfl)) d_C_assignment_16 ⟨Nat.zero_le _, Nat.zero_le _⟩) ?_
  refine lv_if_ne (tgt := 24) hx hb d_C_assignment_19 (by decide) (fun h19_2 => ?_) (fun h19_2 => ?_)
  · rw [if_neg h19_2] at hf
    refine lv_aload_n hx hb d_C_assignment_24 rfl (lv_at hl 1 rfl) ?_
    refine lv_iconst (v := 0) hx hb d_C_assignment_25 (by decide) ?_
    have hP : va_P (dC, dI) vC (wC a cI cC (upd F1 1 ((F1 1) + (2 : Int32))) A1) H := hP
    have hD : va_D (va_A (wC a cI cC Fa Aa) s.heap.size) (wC a cI cC (upd F1 1 ((F1 1) + (2 : Int32))) A1) := hD
    obtain ⟨r3, F3, A3, hc, hf⟩ := ra_bi_some hf
    refine cc_calli (va_runV (As := [.int (0 : Int32)]) (rest := []) ⟨hx, hb, hml, hown, hts⟩ (k_C_sumD l dC dI a cI cC 5 H.size (upd F1 1 ((F1 1) + (2 : Int32))) A1 (0 : Int32) r3 F3 A3 hc) (cw_V 1 hts mw_165 mw_167 ms_C_sum mw_3 mw_168 rfl rfl rfl hd_C_sum ⟨Nat.le_of_ble_eq_true rfl, Nat.le_of_ble_eq_true rfl⟩) (cc_preV hK hP hD rfl (q0 := 0) rfl) rfl rfl hl.1 rfl (lv_room (Nat.le_of_ble_eq_true rfl)) d_C_assignment_26 ⟨Nat.zero_le _, Nat.zero_le _⟩) hD hS hA (fun H locs hP hD hS => ?_)
    refine lv_istore_n hx hb d_C_assignment_29 rfl hl (by decide) rfl (fun ls hl => ?_)
    have hl : lv_has ls 3 [(2, .int r3), (1, .int r1), (0, .ref (a 0))] := hl
    refine lv_iload_n hx hb d_C_assignment_30 rfl (lv_at hl 0 rfl) ?_
    refine lv_iconst (v := -1) hx hb d_C_assignment_31 (by decide) ?_
    refine lv_icmp_eq (tgt := 44) hx hb d_C_assignment_32 (by decide) (fun h32_4 => ?_) (fun h32_4 => ?_)
    · rw [if_pos h32_4] at hf
      refine lv_iconst (v := 0) hx hb d_C_assignment_44 (by decide) ?_
      cases hf
      exact W.zret hx hb hr (by rfl) (fun t ht hW => ⟨⟨_, (), rfl, rfl, by rw [ht]; exact hP, va_K.moved hW.alike hK, hD⟩, hS.F ht⟩) hS.2.2 d_C_assignment_45
    · rw [if_neg h32_4] at hf
      refine lv_aload_n hx hb d_C_assignment_35 rfl (lv_at hl 2 rfl) ?_
      refine lv_bipush (v := 59) hx hb d_C_assignment_36 (by decide) ?_
      have hP : va_P (dC, dI) vC (wC a cI cC F3 A3) H := hP
      have hD : va_D (va_A (wC a cI cC Fa Aa) s.heap.size) (wC a cI cC F3 A3) := hD
      obtain ⟨r5, F5, A5, hc, hf⟩ := ra_bi_some hf
      refine cc_calli (va_runV (As := [.int (59 : Int32)]) (rest := []) ⟨hx, hb, hml, hown, hts⟩ (k_C_takes l dC dI a cI cC H.size F3 A3 (59 : Int32) r5 F5 A5 hc) (cw_V 1 hts mw_177 mw_179 ms_C_takes mw_3 mw_180 rfl rfl rfl hd_C_takes ⟨Nat.le_of_ble_eq_true rfl, Nat.le_of_ble_eq_true rfl⟩) (cc_preV hK hP hD rfl (q0 := 0) rfl) rfl rfl hl.1 rfl (lv_room (Nat.le_of_ble_eq_true rfl)) d_C_assignment_38 ⟨Nat.zero_le _, Nat.zero_le _⟩) hD hS hA (fun H locs hP hD hS => ?_)
      refine lv_if_ne (tgt := 46) hx hb d_C_assignment_41 (by decide) (fun h41_6 => ?_) (fun h41_6 => ?_)
      · rw [if_neg h41_6] at hf
        refine lv_aload_n hx hb d_C_assignment_46 rfl (lv_at hl 2 rfl) ?_
        refine va_get (D := (dC, dI)) (ci := 1) (v := .ref (a 1)) (C := R_C) (T := T_C) (N := 5) hx hb hts in_C hown hK hP 0 rfl rfl 0 (by decide) (hts _ mw_75) (fun _ h9 => h9) rfl d_C_assignment_47 ?_
        refine lv_iload_n hx hb d_C_assignment_50 rfl (lv_at hl 1 rfl) ?_
        refine lv_bipush (v := 97) hx hb d_C_assignment_51 (by decide) ?_
        refine lv_isub hx hb d_C_assignment_53 ?_
        refine lv_iload_n hx hb d_C_assignment_54 rfl (lv_at hl 0 rfl) ?_
        obtain ⟨hi, hf⟩ := ra_g_some hf
        refine va_iast hx hb hK hP hD hS 1 0 rfl rfl hi d_C_assignment_55 (fun H locs hP hD hS => ?_)
        have hP : va_P (dC, dI) vC [((a 0), .inr (1, [.ref (a 1), .ref (a 2), .int (F5 0), .int (F5 1), .ref (a 3)])), ((a 1), .inl (cI, 26, .inl (upd (A5 0) (r1 - (97 : Int32)).toNatClampNeg r3))), ((a 2), .inl (cC, 160, .inl (A5 1))), ((a 3), .inr (0, [.ref (a 4), .ref (a 5), .ref (a 6), .ref (a 7), .ref (a 8), .int (F5 2), .int (F5 3)])), ((a 4), .inl (cI, 100, .inl (A5 2))), ((a 5), .inl (cI, 100, .inl (A5 3))), ((a 6), .inl (cI, 100, .inl (A5 4))), ((a 7), .inl (cI, 3, .inl (A5 5))), ((a 8), .inl (cI, 26, .inl (A5 6)))] H := hP
        have hD : va_D (va_A (wC a cI cC Fa Aa) s.heap.size) [((a 0), .inr (1, [.ref (a 1), .ref (a 2), .int (F5 0), .int (F5 1), .ref (a 3)])), ((a 1), .inl (cI, 26, .inl (upd (A5 0) (r1 - (97 : Int32)).toNatClampNeg r3))), ((a 2), .inl (cC, 160, .inl (A5 1))), ((a 3), .inr (0, [.ref (a 4), .ref (a 5), .ref (a 6), .ref (a 7), .ref (a 8), .int (F5 2), .int (F5 3)])), ((a 4), .inl (cI, 100, .inl (A5 2))), ((a 5), .inl (cI, 100, .inl (A5 3))), ((a 6), .inl (cI, 100, .inl (A5 4))), ((a 7), .inl (cI, 3, .inl (A5 5))), ((a 8), .inl (cI, 26, .inl (A5 6)))] := hD
        refine lv_iconst (v := 1) hx hb d_C_assignment_56 (by decide) ?_
        cases hf
        exact W.zret hx hb hr (by rfl) (fun t ht hW => ⟨⟨_, (), rfl, rfl, by rw [ht]; exact hP, va_K.moved hW.alike hK, hD⟩, hS.F ht⟩) hS.2.2 d_C_assignment_57
      · rw [if_pos h41_6] at hf
        refine lv_iconst (v := 0) hx hb d_C_assignment_44 (by decide) ?_
        cases hf
        exact W.zret hx hb hr (by rfl) (fun t ht hW => ⟨⟨_, (), rfl, rfl, by rw [ht]; exact hP, va_K.moved hW.alike hK, hD⟩, hS.F ht⟩) hS.2.2 d_C_assignment_45
  · rw [if_pos h19_2] at hf
    refine lv_iconst (v := 0) hx hb d_C_assignment_22 (by decide) ?_
    cases hf
    exact W.zret hx hb hr (by rfl) (fun t ht hW => ⟨⟨_, (), rfl, rfl, by rw [ht]; exact hP, va_K.moved hW.alike hK, hD⟩, hS.F ht⟩) hS.2.2 d_C_assignment_23
def f_C_start_L24 : Nat → Int32 → Int32 → ST_F → ST_A → Option (ST_F × ST_A)
  | 0, _, _, _, _ => none
  | n + 1, x2, x3, F, A => if (26 : Int32) ≤ x3 then (some (F, A)) else (ra_g x3 26 (f_C_start_L24 n x2 (x3 + (1 : Int32)) F (va_up A 0 (upd (A 0) x3.toNatClampNeg (-1 : Int32)))))
def f_C_start (u2 : Int32) (Fa : ST_F) (Aa : ST_A) : Option (ST_F × ST_A) := ra_bv (f_K_clear  (upd (upd Fa 0 u2) 1 (0 : Int32)) Aa) (fun F1 A1 => f_C_start_L24 400 u2 (0 : Int32) F1 A1)
set_option maxHeartbeats 4000000 in
set_option maxRecDepth 100000 in
theorem k_C_start (l : Launch) (dC : Nat → ClassId) (dI : Nat → Nat → Nat) (a : Nat → Nat) (cI cC : ClassId) (tx : Nat) (sz : Nat) (Fa : ST_F) (Aa : ST_A) (u2 : Int32) (F9 : ST_F) (A9 : ST_A) (hf : f_C_start u2 Fa Aa = some (F9, A9)) : cc_MetV l y_C_start (Cond.code y_C_start b_C_start 4 none :: wA) ({ frames := 1, cells := 0, slots := 0, locals := 20 } : Room) (dC, dI) vC [(cI, .int), (cC, .char)] ([.ref (a 0), .ref (a 2), .int u2] : List Value) (wC0 a cI cC tx Fa Aa) sz (wC a cI cC F9 A9) := by
  refine Met.ofW (cc := b_C_start) (maxL := 4) (ret := none) (by decide) rfl ?_
  intro p e s m args below meth c s₁ B hml hv
  obtain ⟨rfl, hsz, hP, hK, hD0⟩ := hv
  have hx := B.exec
  have hb := B.bytes
  have hr := B.returns
  have hts := fun w h => atoms_spec (ws := (Cond.code y_C_start b_C_start 4 none :: wA)) B.pre w (List.mem_cons_of_mem _ h)
  have hown : s.vm.findClass R_C = some m.cls := findClass_of_methodNamed B.named
  have hlocks := B.notSynchronized
  subst hsz
  have hD := hD0.self (sz := s.heap.size)
  have hA : ∀ q : Nat, s.heap.size ≤ q → va_A (wC0 a cI cC tx Fa Aa) s.heap.size q := fun q h => Or.inr h
  have hS : va_S (va_A (wC0 a cI cC tx Fa Aa) s.heap.size) s.heap s.heap [] := va_S.rf
  have hl := lv_entry (([.ref (a 0), .ref (a 2), .int u2] : List Value)) (n := 4) (Nat.le_of_ble_eq_true rfl)
  have L24 : ∀ (n : Nat) (x2 : Int32) (x3 : Int32) (F : ST_F) (A : ST_A) (H : Heap) (locs : List Loc) (ls : Array Slot), lv_has ls 4 [(0, .ref (a 0)), (1, .ref (a 2)), (2, .int x2), (3, .int x3)] → va_P (dC, dI) vC (wC a cI cC F A) H → va_D (va_A (wC0 a cI cC tx Fa Aa) s.heap.size) (wC a cI cC F A) → va_S (va_A (wC0 a cI cC tx Fa Aa) s.heap.size) s.heap H locs → f_C_start_L24 n x2 x3 F A = some (F9, A9) → W p l e (headSpec (Cond.code y_C_start b_C_start 4 none :: wA) ({ frames := 1, cells := 0, slots := 0, locals := 20 } : Room)).room s m ([.ref (a 0), .ref (a 2), .int u2] : List Value).toArray below meth c H locs 0 0 (MQ below (cc_Qv (dC, dI) vC [(cI, .int), (cC, .char)] (wC0 a cI cC tx Fa Aa) s.heap.size (wC a cI cC F9 A9)) ([.ref (a 0), .ref (a 2), .int u2] : List Value).toArray s 0 0 (va_A (wC0 a cI cC tx Fa Aa) s.heap.size)) (F0 m 24 ls []) := by
    intro n
    induction n with
    | zero => intro x2 x3 F A H locs ls hl hP hD hS hf; cases hf
    | succ n ih =>
      intro x2 x3 F A H locs ls hl hP hD hS hf
      rw [f_C_start_L24] at hf
      refine lv_iload_n hx hb d_C_start_24 rfl (lv_at hl 3 rfl) ?_
      refine lv_bipush (v := 26) hx hb d_C_start_25 (by decide) ?_
      refine lv_icmp_ge (tgt := 43) hx hb d_C_start_27 (by decide) (fun h27_2 => ?_) (fun h27_2 => ?_)
      · rw [if_pos h27_2] at hf
        cases hf
        exact W.vret hx hb hr (fun t ht hW => ⟨⟨(), rfl, trivial, by rw [ht]; exact hP, va_K.moved hW.alike hK, hD⟩, hS.F ht⟩) hS.2.2 d_C_start_43
      · rw [if_neg h27_2] at hf
        refine lv_aload_n hx hb d_C_start_30 rfl (lv_at hl 0 rfl) ?_
        refine va_get (D := (dC, dI)) (ci := 1) (v := .ref (a 1)) (C := R_C) (T := T_C) (N := 5) hx hb hts in_C hown hK hP 0 rfl rfl 0 (by decide) (hts _ mw_75) (fun _ h9 => h9) rfl d_C_start_31 ?_
        refine lv_iload_n hx hb d_C_start_34 rfl (lv_at hl 3 rfl) ?_
        refine lv_iconst (v := -1) hx hb d_C_start_35 (by decide) ?_
        obtain ⟨hi, hf⟩ := ra_g_some hf
        refine va_iast hx hb hK hP hD hS 1 0 rfl rfl hi d_C_start_36 (fun H locs hP hD hS => ?_)
        have hP : va_P (dC, dI) vC [((a 0), .inr (1, [.ref (a 1), .ref (a 2), .int (F 0), .int (F 1), .ref (a 3)])), ((a 1), .inl (cI, 26, .inl (upd (A 0) x3.toNatClampNeg (-1 : Int32)))), ((a 2), .inl (cC, 160, .inl (A 1))), ((a 3), .inr (0, [.ref (a 4), .ref (a 5), .ref (a 6), .ref (a 7), .ref (a 8), .int (F 2), .int (F 3)])), ((a 4), .inl (cI, 100, .inl (A 2))), ((a 5), .inl (cI, 100, .inl (A 3))), ((a 6), .inl (cI, 100, .inl (A 4))), ((a 7), .inl (cI, 3, .inl (A 5))), ((a 8), .inl (cI, 26, .inl (A 6)))] H := hP
        have hD : va_D (va_A (wC0 a cI cC tx Fa Aa) s.heap.size) [((a 0), .inr (1, [.ref (a 1), .ref (a 2), .int (F 0), .int (F 1), .ref (a 3)])), ((a 1), .inl (cI, 26, .inl (upd (A 0) x3.toNatClampNeg (-1 : Int32)))), ((a 2), .inl (cC, 160, .inl (A 1))), ((a 3), .inr (0, [.ref (a 4), .ref (a 5), .ref (a 6), .ref (a 7), .ref (a 8), .int (F 2), .int (F 3)])), ((a 4), .inl (cI, 100, .inl (A 2))), ((a 5), .inl (cI, 100, .inl (A 3))), ((a 6), .inl (cI, 100, .inl (A 4))), ((a 7), .inl (cI, 3, .inl (A 5))), ((a 8), .inl (cI, 26, .inl (A 6)))] := hD
        refine lv_iinc (k := 3) (v := (x3 + (1 : Int32))) hx hb d_C_start_37 hl rfl (by rfl) (by decide) rfl (fun ls hl => ?_)
        have hl : lv_has ls 4 [(3, .int (x3 + (1 : Int32))), (0, .ref (a 0)), (1, .ref (a 2)), (2, .int x2)] := hl
        refine lv_goto (tgt := 24) hx hb d_C_start_40 (by decide) ?_
        have hl : lv_has ls 4 [(0, .ref (a 0)), (1, .ref (a 2)), (2, .int x2), (3, .int (x3 + (1 : Int32)))] := lv_sub hl [1, 2, 3, 0] rfl
        exact ih x2 (x3 + (1 : Int32)) F (va_up A 0 (upd (A 0) x3.toNatClampNeg (-1 : Int32))) _ _ _ hl hP hD hS hf
  rw [lg_entry_eq]
  generalize (lg_sl (([.ref (a 0), .ref (a 2), .int u2] : List Value)) ++ List.replicate (4 - (lg_sl (([.ref (a 0), .ref (a 2), .int u2] : List Value))).length) Slot.unset).toArray = ls at hl ⊢
  have hl : lv_has ls 4 [(0, .ref (a 0)), (1, .ref (a 2)), (2, .int u2)] := hl
  unfold f_C_start at hf
  refine lv_aload_n hx hb d_C_start_0 rfl (lv_at hl 0 rfl) ?_
  refine lv_aload_n hx hb d_C_start_1 rfl (lv_at hl 1 rfl) ?_
  refine va_put (D := (dC, dI)) (ci := 1) (v := .ref (a 2)) (ty := (.array .char)) (C := R_C) (T := T_C) (N := 5) hx hb hts in_C ty_C ty_C_ok nm_C hown hK hP hD hS 0 rfl rfl 1 (by decide) (hts _ mw_76) (fun _ h9 => h9) rfl (by decide +kernel) rfl rfl (Nat.le_of_ble_eq_true rfl) d_C_start_2 (fun H locs hP hD hS => ?_)
  have hP : va_P (dC, dI) vC [((a 0), .inr (1, [.ref (a 1), .ref (a 2), .int (Fa 0), .int (Fa 1), .ref (a 3)])), ((a 1), .inl (cI, 26, .inl (Aa 0))), ((a 2), .inl (cC, 160, .inl (Aa 1))), ((a 3), .inr (0, [.ref (a 4), .ref (a 5), .ref (a 6), .ref (a 7), .ref (a 8), .int (Fa 2), .int (Fa 3)])), ((a 4), .inl (cI, 100, .inl (Aa 2))), ((a 5), .inl (cI, 100, .inl (Aa 3))), ((a 6), .inl (cI, 100, .inl (Aa 4))), ((a 7), .inl (cI, 3, .inl (Aa 5))), ((a 8), .inl (cI, 26, .inl (Aa 6)))] H := hP
  have hD : va_D (va_A (wC0 a cI cC tx Fa Aa) s.heap.size) [((a 0), .inr (1, [.ref (a 1), .ref (a 2), .int (Fa 0), .int (Fa 1), .ref (a 3)])), ((a 1), .inl (cI, 26, .inl (Aa 0))), ((a 2), .inl (cC, 160, .inl (Aa 1))), ((a 3), .inr (0, [.ref (a 4), .ref (a 5), .ref (a 6), .ref (a 7), .ref (a 8), .int (Fa 2), .int (Fa 3)])), ((a 4), .inl (cI, 100, .inl (Aa 2))), ((a 5), .inl (cI, 100, .inl (Aa 3))), ((a 6), .inl (cI, 100, .inl (Aa 4))), ((a 7), .inl (cI, 3, .inl (Aa 5))), ((a 8), .inl (cI, 26, .inl (Aa 6)))] := hD
  refine lv_aload_n hx hb d_C_start_5 rfl (lv_at hl 0 rfl) ?_
  refine lv_iload_n hx hb d_C_start_6 rfl (lv_at hl 2 rfl) ?_
  refine va_put (D := (dC, dI)) (ci := 1) (v := .int u2) (ty := .int) (C := R_C) (T := T_C) (N := 5) hx hb hts in_C ty_C ty_C_ok nm_C hown hK hP hD hS 0 rfl rfl 2 (by decide) (hts _ mw_77) (fun _ h9 => h9) rfl (by decide +kernel) rfl rfl (Nat.le_of_ble_eq_true rfl) d_C_start_7 (fun H locs hP hD hS => ?_)
  have hP : va_P (dC, dI) vC [((a 0), .inr (1, [.ref (a 1), .ref (a 2), .int u2, .int (Fa 1), .ref (a 3)])), ((a 1), .inl (cI, 26, .inl (Aa 0))), ((a 2), .inl (cC, 160, .inl (Aa 1))), ((a 3), .inr (0, [.ref (a 4), .ref (a 5), .ref (a 6), .ref (a 7), .ref (a 8), .int (Fa 2), .int (Fa 3)])), ((a 4), .inl (cI, 100, .inl (Aa 2))), ((a 5), .inl (cI, 100, .inl (Aa 3))), ((a 6), .inl (cI, 100, .inl (Aa 4))), ((a 7), .inl (cI, 3, .inl (Aa 5))), ((a 8), .inl (cI, 26, .inl (Aa 6)))] H := hP
  have hD : va_D (va_A (wC0 a cI cC tx Fa Aa) s.heap.size) [((a 0), .inr (1, [.ref (a 1), .ref (a 2), .int u2, .int (Fa 1), .ref (a 3)])), ((a 1), .inl (cI, 26, .inl (Aa 0))), ((a 2), .inl (cC, 160, .inl (Aa 1))), ((a 3), .inr (0, [.ref (a 4), .ref (a 5), .ref (a 6), .ref (a 7), .ref (a 8), .int (Fa 2), .int (Fa 3)])), ((a 4), .inl (cI, 100, .inl (Aa 2))), ((a 5), .inl (cI, 100, .inl (Aa 3))), ((a 6), .inl (cI, 100, .inl (Aa 4))), ((a 7), .inl (cI, 3, .inl (Aa 5))), ((a 8), .inl (cI, 26, .inl (Aa 6)))] := hD
  refine lv_aload_n hx hb d_C_start_10 rfl (lv_at hl 0 rfl) ?_
  refine lv_iconst (v := 0) hx hb d_C_start_11 (by decide) ?_
  refine va_put (D := (dC, dI)) (ci := 1) (v := .int (0 : Int32)) (ty := .int) (C := R_C) (T := T_C) (N := 5) hx hb hts in_C ty_C ty_C_ok nm_C hown hK hP hD hS 0 rfl rfl 3 (by decide) (hts _ mw_78) (fun _ h9 => h9) rfl (by decide +kernel) rfl rfl (Nat.le_of_ble_eq_true rfl) d_C_start_12 (fun H locs hP hD hS => ?_)
  have hP : va_P (dC, dI) vC [((a 0), .inr (1, [.ref (a 1), .ref (a 2), .int u2, .int (0 : Int32), .ref (a 3)])), ((a 1), .inl (cI, 26, .inl (Aa 0))), ((a 2), .inl (cC, 160, .inl (Aa 1))), ((a 3), .inr (0, [.ref (a 4), .ref (a 5), .ref (a 6), .ref (a 7), .ref (a 8), .int (Fa 2), .int (Fa 3)])), ((a 4), .inl (cI, 100, .inl (Aa 2))), ((a 5), .inl (cI, 100, .inl (Aa 3))), ((a 6), .inl (cI, 100, .inl (Aa 4))), ((a 7), .inl (cI, 3, .inl (Aa 5))), ((a 8), .inl (cI, 26, .inl (Aa 6)))] H := hP
  have hD : va_D (va_A (wC0 a cI cC tx Fa Aa) s.heap.size) [((a 0), .inr (1, [.ref (a 1), .ref (a 2), .int u2, .int (0 : Int32), .ref (a 3)])), ((a 1), .inl (cI, 26, .inl (Aa 0))), ((a 2), .inl (cC, 160, .inl (Aa 1))), ((a 3), .inr (0, [.ref (a 4), .ref (a 5), .ref (a 6), .ref (a 7), .ref (a 8), .int (Fa 2), .int (Fa 3)])), ((a 4), .inl (cI, 100, .inl (Aa 2))), ((a 5), .inl (cI, 100, .inl (Aa 3))), ((a 6), .inl (cI, 100, .inl (Aa 4))), ((a 7), .inl (cI, 3, .inl (Aa 5))), ((a 8), .inl (cI, 26, .inl (Aa 6)))] := hD
  refine lv_aload_n hx hb d_C_start_15 rfl (lv_at hl 0 rfl) ?_
  refine va_get (D := (dC, dI)) (ci := 1) (v := .ref (a 3)) (C := R_C) (T := T_C) (N := 5) hx hb hts in_C hown hK hP 0 rfl rfl 4 (by decide) (hts _ mw_79) (fun _ h9 => h9) rfl d_C_start_16 ?_
  have hP : va_P (dC, dI) vC (wC a cI cC (upd (upd Fa 0 u2) 1 (0 : Int32)) Aa) H := hP
  have hD : va_D (va_A (wC0 a cI cC tx Fa Aa) s.heap.size) (wC a cI cC (upd (upd Fa 0 u2) 1 (0 : Int32)) Aa) := hD
  obtain ⟨F1, A1, hc, hf⟩ := ra_bv_some hf
  refine cc_callv (va_runV (As := []) (rest := []) ⟨hx, hb, hml, hown, hts⟩ (k_K_clear l dC dI a cI cC H.size (upd (upd Fa 0 u2) 1 (0 : Int32)) Aa  F1 A1 hc) (cw_V 0 hts mw_140 mw_141 mw_142 mw_2 mw_143 rfl rfl rfl hd_K_clear ⟨Nat.le_of_ble_eq_true rfl, Nat.le_of_ble_eq_true rfl⟩) (cc_preV hK hP hD rfl (q0 := 3) rfl) rfl rfl hl.1 rfl (lv_room (Nat.le_of_ble_eq_true rfl)) d_C_start_19 ⟨Nat.zero_le _, Nat.zero_le _⟩) hD hS hA (fun H locs hP hD hS => ?_)
  refine lv_iconst (v := 0) hx hb d_C_start_22 (by decide) ?_
  refine lv_istore_n hx hb d_C_start_23 rfl hl (by decide) rfl (fun ls hl => ?_)
  have hl : lv_has ls 4 [(3, .int (0 : Int32)), (0, .ref (a 0)), (1, .ref (a 2)), (2, .int u2)] := hl
  have hl : lv_has ls 4 [(0, .ref (a 0)), (1, .ref (a 2)), (2, .int u2), (3, .int (0 : Int32))] := lv_sub hl [1, 2, 3, 0] rfl
  exact L24 400 u2 (0 : Int32) F1 A1 _ _ _ hl hP hD hS hf
def f_C_accepts_J37 (x2 : Int32) (x3 : Int32) (F : ST_F) (A : ST_A) : Option (Int32 × ST_F × ST_A) := ra_bi (f_C_sumD 5 (0 : Int32) F A) (fun r3 F3 A3 => if r3 = (-1 : Int32) then (some ((0 : Int32), F3, A3)) else (if (F3 1) = (F3 0) then (if (f_V_typeIn r3) = (3 : Int32) then (if (F3 3) = 0 then (ra_bv (f_C_finish r3 F3 A3) (fun F8 A8 => some ((1 : Int32), F8, A8))) else (some ((0 : Int32), F3, A3))) else (some ((0 : Int32), F3, A3))) else (some ((0 : Int32), F3, A3))))
def f_C_accepts_L8 : Nat → Int32 → Int32 → ST_F → ST_A → Option (Int32 × ST_F × ST_A)
  | 0, _, _, _, _ => none
  | n + 1, x2, x3, F, A => if (160 : Int32) ≤ x3 then (f_C_accepts_J37 x2 x3 F A) else (ra_bi (f_C_isAssignmentNext  F A) (fun r9 F9 A9 => if r9 = 0 then (f_C_accepts_J37 x2 x3 F9 A9) else (ra_bi (f_C_assignment  F9 A9) (fun r11 F11 A11 => if r11 = 0 then (some ((0 : Int32), F11, A11)) else (f_C_accepts_L8 n x2 (x3 + (1 : Int32)) F11 A11)))))
def f_C_accepts (u2 : Int32) (Fa : ST_F) (Aa : ST_A) : Option (Int32 × ST_F × ST_A) := ra_bv (f_C_start u2 Fa Aa) (fun F1 A1 => f_C_accepts_L8 400 u2 (0 : Int32) F1 A1)
set_option maxHeartbeats 4000000 in
set_option maxRecDepth 100000 in
theorem k_C_accepts (l : Launch) (dC : Nat → ClassId) (dI : Nat → Nat → Nat) (a : Nat → Nat) (cI cC : ClassId) (tx : Nat) (sz : Nat) (Fa : ST_F) (Aa : ST_A) (u2 : Int32) (r0 : Int32) (F9 : ST_F) (A9 : ST_A) (hf : f_C_accepts u2 Fa Aa = some (r0, F9, A9)) : cc_MetI l y_C_accepts (Cond.code y_C_accepts b_C_accepts 4 (some .boolean) :: wA) ({ frames := 98, cells := 0, slots := 0, locals := 4245 } : Room) (dC, dI) vC [(cI, .int), (cC, .char)] ([.ref (a 0), .ref (a 2), .int u2] : List Value) (wC0 a cI cC tx Fa Aa) sz (wC a cI cC F9 A9) r0 := by
  refine Met.ofW (cc := b_C_accepts) (maxL := 4) (ret := (some .boolean)) (by decide) rfl ?_
  intro p e s m args below meth c s₁ B hml hv
  obtain ⟨rfl, hsz, hP, hK, hD0⟩ := hv
  have hx := B.exec
  have hb := B.bytes
  have hr := B.returns
  have hts := fun w h => atoms_spec (ws := (Cond.code y_C_accepts b_C_accepts 4 (some .boolean) :: wA)) B.pre w (List.mem_cons_of_mem _ h)
  have hown : s.vm.findClass R_C = some m.cls := findClass_of_methodNamed B.named
  have hlocks := B.notSynchronized
  subst hsz
  have hD := hD0.self (sz := s.heap.size)
  have hA : ∀ q : Nat, s.heap.size ≤ q → va_A (wC0 a cI cC tx Fa Aa) s.heap.size q := fun q h => Or.inr h
  have hS : va_S (va_A (wC0 a cI cC tx Fa Aa) s.heap.size) s.heap s.heap [] := va_S.rf
  have hl := lv_entry (([.ref (a 0), .ref (a 2), .int u2] : List Value)) (n := 4) (Nat.le_of_ble_eq_true rfl)
  have J37 : ∀ (x2 : Int32) (x3 : Int32) (F : ST_F) (A : ST_A) (H : Heap) (locs : List Loc) (ls : Array Slot), lv_has ls 4 [(0, .ref (a 0)), (1, .ref (a 2)), (2, .int x2), (3, .int x3)] → va_P (dC, dI) vC (wC a cI cC F A) H → va_D (va_A (wC0 a cI cC tx Fa Aa) s.heap.size) (wC a cI cC F A) → va_S (va_A (wC0 a cI cC tx Fa Aa) s.heap.size) s.heap H locs → f_C_accepts_J37 x2 x3 F A = some (r0, F9, A9) → W p l e (headSpec (Cond.code y_C_accepts b_C_accepts 4 (some .boolean) :: wA) ({ frames := 98, cells := 0, slots := 0, locals := 4245 } : Room)).room s m ([.ref (a 0), .ref (a 2), .int u2] : List Value).toArray below meth c H locs 0 0 (MQ below (cc_Qi (dC, dI) vC [(cI, .int), (cC, .char)] (wC0 a cI cC tx Fa Aa) s.heap.size (wC a cI cC F9 A9) r0) ([.ref (a 0), .ref (a 2), .int u2] : List Value).toArray s 0 0 (va_A (wC0 a cI cC tx Fa Aa) s.heap.size)) (F0 m 37 ls []) := by
    intro x2 x3 F A H locs ls hl hP hD hS hf
    unfold f_C_accepts_J37 at hf
    refine lv_aload_n hx hb d_C_accepts_37 rfl (lv_at hl 0 rfl) ?_
    refine lv_iconst (v := 0) hx hb d_C_accepts_38 (by decide) ?_
    have hP : va_P (dC, dI) vC (wC a cI cC F A) H := hP
    have hD : va_D (va_A (wC0 a cI cC tx Fa Aa) s.heap.size) (wC a cI cC F A) := hD
    obtain ⟨r3, F3, A3, hc, hf⟩ := ra_bi_some hf
    refine cc_calli (va_runV (As := [.int (0 : Int32)]) (rest := []) ⟨hx, hb, hml, hown, hts⟩ (k_C_sumD l dC dI a cI cC 5 H.size F A (0 : Int32) r3 F3 A3 hc) (cw_V 1 hts mw_165 mw_167 ms_C_sum mw_3 mw_168 rfl rfl rfl hd_C_sum ⟨Nat.le_of_ble_eq_true rfl, Nat.le_of_ble_eq_true rfl⟩) (cc_preV hK hP hD rfl (q0 := 0) rfl) rfl rfl hl.1 rfl (lv_room (Nat.le_of_ble_eq_true rfl)) d_C_accepts_39 ⟨Nat.zero_le _, Nat.zero_le _⟩) hD hS hA (fun H locs hP hD hS => ?_)
    refine lv_istore_n hx hb d_C_accepts_42 rfl hl (by decide) rfl (fun ls hl => ?_)
    have hl : lv_has ls 4 [(3, .int r3), (0, .ref (a 0)), (1, .ref (a 2)), (2, .int x2)] := hl
    refine lv_iload_n hx hb d_C_accepts_43 rfl (lv_at hl 0 rfl) ?_
    refine lv_iconst (v := -1) hx hb d_C_accepts_44 (by decide) ?_
    refine lv_icmp_eq (tgt := 77) hx hb d_C_accepts_45 (by decide) (fun h45_4 => ?_) (fun h45_4 => ?_)
    · rw [if_pos h45_4] at hf
      refine lv_iconst (v := 0) hx hb d_C_accepts_77 (by decide) ?_
      cases hf
      exact W.zret hx hb hr (by rfl) (fun t ht hW => ⟨⟨_, (), rfl, rfl, by rw [ht]; exact hP, va_K.moved hW.alike hK, hD⟩, hS.F ht⟩) hS.2.2 d_C_accepts_78
    · rw [if_neg h45_4] at hf
      refine lv_aload_n hx hb d_C_accepts_48 rfl (lv_at hl 1 rfl) ?_
      refine va_get (D := (dC, dI)) (ci := 1) (v := .int (F3 1)) (C := R_C) (T := T_C) (N := 5) hx hb hts in_C hown hK hP 0 rfl rfl 3 (by decide) (hts _ mw_78) (fun _ h9 => h9) rfl d_C_accepts_49 ?_
      refine lv_aload_n hx hb d_C_accepts_52 rfl (lv_at hl 1 rfl) ?_
      refine va_get (D := (dC, dI)) (ci := 1) (v := .int (F3 0)) (C := R_C) (T := T_C) (N := 5) hx hb hts in_C hown hK hP 0 rfl rfl 2 (by decide) (hts _ mw_77) (fun _ h9 => h9) rfl d_C_accepts_53 ?_
      refine lv_icmp_ne (tgt := 77) hx hb d_C_accepts_56 (by decide) (fun h56_5 => ?_) (fun h56_5 => ?_)
      · rw [if_neg h56_5] at hf
        refine lv_iconst (v := 0) hx hb d_C_accepts_77 (by decide) ?_
        cases hf
        exact W.zret hx hb hr (by rfl) (fun t ht hW => ⟨⟨_, (), rfl, rfl, by rw [ht]; exact hP, va_K.moved hW.alike hK, hD⟩, hS.F ht⟩) hS.2.2 d_C_accepts_78
      · rw [if_pos h56_5] at hf
        refine lv_iload_n hx hb d_C_accepts_59 rfl (lv_at hl 0 rfl) ?_
        refine cc_calls (va_runS (As := [.int r3]) (rest := []) ⟨hx, hb, hml, hown, hts⟩ (k_V_typeIn l r3 _ rfl) (cw_S 1 hts mw_223 mw_224 mw_11 mw_225 rfl rfl hd_V_typeIn ⟨Nat.le_of_ble_eq_true rfl, Nat.le_of_ble_eq_true rfl⟩) cc_preS rfl rfl hl.1 rfl (lv_room (Nat.le_of_ble_eq_true rfl)) d_C_accepts_60 ⟨Nat.zero_le _, Nat.zero_le _⟩) ?_
        refine lv_iconst (v := 3) hx hb d_C_accepts_63 (by decide) ?_
        refine lv_icmp_ne (tgt := 77) hx hb d_C_accepts_64 (by decide) (fun h64_6 => ?_) (fun h64_6 => ?_)
        · rw [if_neg h64_6] at hf
          refine lv_iconst (v := 0) hx hb d_C_accepts_77 (by decide) ?_
          cases hf
          exact W.zret hx hb hr (by rfl) (fun t ht hW => ⟨⟨_, (), rfl, rfl, by rw [ht]; exact hP, va_K.moved hW.alike hK, hD⟩, hS.F ht⟩) hS.2.2 d_C_accepts_78
        · rw [if_pos h64_6] at hf
          refine lv_aload_n hx hb d_C_accepts_67 rfl (lv_at hl 1 rfl) ?_
          refine va_get (D := (dC, dI)) (ci := 1) (v := .ref (a 3)) (C := R_C) (T := T_C) (N := 5) hx hb hts in_C hown hK hP 0 rfl rfl 4 (by decide) (hts _ mw_79) (fun _ h9 => h9) rfl d_C_accepts_68 ?_
          refine va_get (D := (dC, dI)) (ci := 0) (v := .int (F3 3)) (C := R_K) (T := T_K) (N := 7) hx hb hts in_K hown hK hP 3 rfl rfl 6 (by decide) (hts _ mw_49) (fun _ h9 => h9) rfl d_C_accepts_71 ?_
          refine lv_if_eq (tgt := 79) hx hb d_C_accepts_74 (by decide) (fun h74_7 => ?_) (fun h74_7 => ?_)
          · rw [if_pos h74_7] at hf
            refine lv_aload_n hx hb d_C_accepts_79 rfl (lv_at hl 1 rfl) ?_
            refine lv_iload_n hx hb d_C_accepts_80 rfl (lv_at hl 0 rfl) ?_
            have hP : va_P (dC, dI) vC (wC a cI cC F3 A3) H := hP
            have hD : va_D (va_A (wC0 a cI cC tx Fa Aa) s.heap.size) (wC a cI cC F3 A3) := hD
            obtain ⟨F8, A8, hc, hf⟩ := ra_bv_some hf
            refine cc_callv (va_runV (As := [.int r3]) (rest := []) ⟨hx, hb, hml, hown, hts⟩ (k_C_finish l dC dI a cI cC H.size F3 A3 r3 F8 A8 hc) (cw_V 1 hts mw_280 mw_282 ms_C_finish mw_3 mw_283 rfl rfl rfl hd_C_finish ⟨Nat.le_of_ble_eq_true rfl, Nat.le_of_ble_eq_true rfl⟩) (cc_preV hK hP hD rfl (q0 := 0) rfl) rfl rfl hl.1 rfl (lv_room (Nat.le_of_ble_eq_true rfl)) d_C_accepts_81 ⟨Nat.zero_le _, Nat.zero_le _⟩) hD hS hA (fun H locs hP hD hS => ?_)
            refine lv_iconst (v := 1) hx hb d_C_accepts_84 (by decide) ?_
            cases hf
            exact W.zret hx hb hr (by rfl) (fun t ht hW => ⟨⟨_, (), rfl, rfl, by rw [ht]; exact hP, va_K.moved hW.alike hK, hD⟩, hS.F ht⟩) hS.2.2 d_C_accepts_85
          · rw [if_neg h74_7] at hf
            refine lv_iconst (v := 0) hx hb d_C_accepts_77 (by decide) ?_
            cases hf
            exact W.zret hx hb hr (by rfl) (fun t ht hW => ⟨⟨_, (), rfl, rfl, by rw [ht]; exact hP, va_K.moved hW.alike hK, hD⟩, hS.F ht⟩) hS.2.2 d_C_accepts_78
  have L8 : ∀ (n : Nat) (x2 : Int32) (x3 : Int32) (F : ST_F) (A : ST_A) (H : Heap) (locs : List Loc) (ls : Array Slot), lv_has ls 4 [(0, .ref (a 0)), (1, .ref (a 2)), (2, .int x2), (3, .int x3)] → va_P (dC, dI) vC (wC a cI cC F A) H → va_D (va_A (wC0 a cI cC tx Fa Aa) s.heap.size) (wC a cI cC F A) → va_S (va_A (wC0 a cI cC tx Fa Aa) s.heap.size) s.heap H locs → f_C_accepts_L8 n x2 x3 F A = some (r0, F9, A9) → W p l e (headSpec (Cond.code y_C_accepts b_C_accepts 4 (some .boolean) :: wA) ({ frames := 98, cells := 0, slots := 0, locals := 4245 } : Room)).room s m ([.ref (a 0), .ref (a 2), .int u2] : List Value).toArray below meth c H locs 0 0 (MQ below (cc_Qi (dC, dI) vC [(cI, .int), (cC, .char)] (wC0 a cI cC tx Fa Aa) s.heap.size (wC a cI cC F9 A9) r0) ([.ref (a 0), .ref (a 2), .int u2] : List Value).toArray s 0 0 (va_A (wC0 a cI cC tx Fa Aa) s.heap.size)) (F0 m 8 ls []) := by
    intro n
    induction n with
    | zero => intro x2 x3 F A H locs ls hl hP hD hS hf; cases hf
    | succ n ih =>
      intro x2 x3 F A H locs ls hl hP hD hS hf
      rw [f_C_accepts_L8] at hf
      refine lv_iload_n hx hb d_C_accepts_8 rfl (lv_at hl 3 rfl) ?_
      refine lv_sipush (v := 160) hx hb d_C_accepts_9 (by decide) ?_
      refine lv_icmp_ge (tgt := 37) hx hb d_C_accepts_12 (by decide) (fun h12_2 => ?_) (fun h12_2 => ?_)
      · rw [if_pos h12_2] at hf
        have hl : lv_has ls 4 [(0, .ref (a 0)), (1, .ref (a 2)), (2, .int x2), (3, .int x3)] := lv_sub hl [0, 1, 2, 3] rfl
        exact J37 x2 x3 F A _ _ _ hl hP hD hS hf
      · rw [if_neg h12_2] at hf
        refine lv_aload_n hx hb d_C_accepts_15 rfl (lv_at hl 0 rfl) ?_
        have hP : va_P (dC, dI) vC (wC a cI cC F A) H := hP
        have hD : va_D (va_A (wC0 a cI cC tx Fa Aa) s.heap.size) (wC a cI cC F A) := hD
        obtain ⟨r9, F9, A9, hc, hf⟩ := ra_bi_some hf
        refine cc_calli (va_runV (As := []) (rest := []) ⟨hx, hb, hml, hown, hts⟩ (k_C_isAssignmentNext l dC dI a cI cC H.size F A  r9 F9 A9 hc) (cw_V 0 hts mw_144 mw_146 ms_C_isAssignmentNext mw_3 mw_147 rfl rfl rfl hd_C_isAssignmentNext ⟨Nat.le_of_ble_eq_true rfl, Nat.le_of_ble_eq_true rfl⟩) (cc_preV hK hP hD rfl (q0 := 0) rfl) rfl rfl hl.1 rfl (lv_room (Nat.le_of_ble_eq_true rfl)) d_C_accepts_16 ⟨Nat.zero_le _, Nat.zero_le _⟩) hD hS hA (fun H locs hP hD hS => ?_)
        refine lv_if_eq (tgt := 37) hx hb d_C_accepts_19 (by decide) (fun h19_10 => ?_) (fun h19_10 => ?_)
        · rw [if_pos h19_10] at hf
          have hl : lv_has ls 4 [(0, .ref (a 0)), (1, .ref (a 2)), (2, .int x2), (3, .int x3)] := lv_sub hl [0, 1, 2, 3] rfl
          exact J37 x2 x3 F9 A9 _ _ _ hl hP hD hS hf
        · rw [if_neg h19_10] at hf
          refine lv_aload_n hx hb d_C_accepts_22 rfl (lv_at hl 0 rfl) ?_
          have hP : va_P (dC, dI) vC (wC a cI cC F9 A9) H := hP
          have hD : va_D (va_A (wC0 a cI cC tx Fa Aa) s.heap.size) (wC a cI cC F9 A9) := hD
          obtain ⟨r11, F11, A11, hc, hf⟩ := ra_bi_some hf
          refine cc_calli (va_runV (As := []) (rest := []) ⟨hx, hb, hml, hown, hts⟩ (k_C_assignment l dC dI a cI cC H.size F9 A9  r11 F11 A11 hc) (cw_V 0 hts mw_151 mw_153 ms_C_assignment mw_3 mw_154 rfl rfl rfl hd_C_assignment ⟨Nat.le_of_ble_eq_true rfl, Nat.le_of_ble_eq_true rfl⟩) (cc_preV hK hP hD rfl (q0 := 0) rfl) rfl rfl hl.1 rfl (lv_room (Nat.le_of_ble_eq_true rfl)) d_C_accepts_23 ⟨Nat.zero_le _, Nat.zero_le _⟩) hD hS hA (fun H locs hP hD hS => ?_)
          refine lv_if_ne (tgt := 31) hx hb d_C_accepts_26 (by decide) (fun h26_12 => ?_) (fun h26_12 => ?_)
          · rw [if_neg h26_12] at hf
            refine lv_iinc (k := 3) (v := (x3 + (1 : Int32))) hx hb d_C_accepts_31 hl rfl (by rfl) (by decide) rfl (fun ls hl => ?_)
            have hl : lv_has ls 4 [(3, .int (x3 + (1 : Int32))), (0, .ref (a 0)), (1, .ref (a 2)), (2, .int x2)] := hl
            refine lv_goto (tgt := 8) hx hb d_C_accepts_34 (by decide) ?_
            have hl : lv_has ls 4 [(0, .ref (a 0)), (1, .ref (a 2)), (2, .int x2), (3, .int (x3 + (1 : Int32)))] := lv_sub hl [1, 2, 3, 0] rfl
            exact ih x2 (x3 + (1 : Int32)) F11 A11 _ _ _ hl hP hD hS hf
          · rw [if_pos h26_12] at hf
            refine lv_iconst (v := 0) hx hb d_C_accepts_29 (by decide) ?_
            cases hf
            exact W.zret hx hb hr (by rfl) (fun t ht hW => ⟨⟨_, (), rfl, rfl, by rw [ht]; exact hP, va_K.moved hW.alike hK, hD⟩, hS.F ht⟩) hS.2.2 d_C_accepts_30
  rw [lg_entry_eq]
  generalize (lg_sl (([.ref (a 0), .ref (a 2), .int u2] : List Value)) ++ List.replicate (4 - (lg_sl (([.ref (a 0), .ref (a 2), .int u2] : List Value))).length) Slot.unset).toArray = ls at hl ⊢
  have hl : lv_has ls 4 [(0, .ref (a 0)), (1, .ref (a 2)), (2, .int u2)] := hl
  unfold f_C_accepts at hf
  refine lv_aload_n hx hb d_C_accepts_0 rfl (lv_at hl 0 rfl) ?_
  refine lv_aload_n hx hb d_C_accepts_1 rfl (lv_at hl 1 rfl) ?_
  refine lv_iload_n hx hb d_C_accepts_2 rfl (lv_at hl 2 rfl) ?_
  have hP : va_P (dC, dI) vC (wC0 a cI cC tx Fa Aa) s.heap := hP
  have hD : va_D (va_A (wC0 a cI cC tx Fa Aa) s.heap.size) (wC0 a cI cC tx Fa Aa) := hD
  obtain ⟨F1, A1, hc, hf⟩ := ra_bv_some hf
  refine cc_callv (va_runV (As := [.ref (a 2), .int u2]) (rest := []) ⟨hx, hb, hml, hown, hts⟩ (k_C_start l dC dI a cI cC tx s.heap.size Fa Aa u2 F1 A1 hc) (cw_V 2 hts mw_136 mw_138 ms_C_start mw_3 mw_139 rfl rfl rfl hd_C_start ⟨Nat.le_of_ble_eq_true rfl, Nat.le_of_ble_eq_true rfl⟩) (cc_preV hK hP hD rfl (q0 := 0) rfl) rfl rfl hl.1 rfl (lv_room (Nat.le_of_ble_eq_true rfl)) d_C_accepts_3 ⟨Nat.zero_le _, Nat.zero_le _⟩) hD hS hA (fun H locs hP hD hS => ?_)
  refine lv_iconst (v := 0) hx hb d_C_accepts_6 (by decide) ?_
  refine lv_istore_n hx hb d_C_accepts_7 rfl hl (by decide) rfl (fun ls hl => ?_)
  have hl : lv_has ls 4 [(3, .int (0 : Int32)), (0, .ref (a 0)), (1, .ref (a 2)), (2, .int u2)] := hl
  have hl : lv_has ls 4 [(0, .ref (a 0)), (1, .ref (a 2)), (2, .int u2), (3, .int (0 : Int32))] := lv_sub hl [1, 2, 3, 0] rfl
  exact L8 400 u2 (0 : Int32) F1 A1 _ _ _ hl hP hD hS hf
end
section
def f_N_saturate (u0 : Int64) : Int32 := if (lg_cmp u0 (2147483647 : Int64)) ≤ 0 then (if 0 ≤ (lg_cmp u0 (-2147483648 : Int64)) then ((u0.toInt32)) else ((-2147483648 : Int32))) else ((2147483647 : Int32))
set_option maxHeartbeats 4000000 in
set_option maxRecDepth 100000 in
theorem k_N_saturate (l : Launch) (u0 : Int64) (r0 : Int32) (hf : f_N_saturate u0 = r0) : cc_MetS l y_N_saturate (Cond.code y_N_saturate b_N_saturate 2 (some .int) :: wA) ({ frames := 0, cells := 0, slots := 0, locals := 0 } : Room) ([.long u0] : List Value) r0 := by
  refine Met.ofW (cc := b_N_saturate) (maxL := 2) (ret := (some .int)) (by decide) rfl ?_
  intro p e s m args below meth c s₁ B hml hv
  obtain rfl : args = ([.long u0] : List Value).toArray := hv
  have hx := B.exec
  have hb := B.bytes
  have hr := B.returns
  have hts := fun w h => atoms_spec (ws := (Cond.code y_N_saturate b_N_saturate 2 (some .int) :: wA)) B.pre w (List.mem_cons_of_mem _ h)
  have hown : s.vm.findClass R_N = some m.cls := findClass_of_methodNamed B.named
  have hlocks := B.notSynchronized
  have hl := lv_entry (([.long u0] : List Value)) (n := 2) (Nat.le_of_ble_eq_true rfl)
  rw [lg_entry_eq]
  generalize (lg_sl (([.long u0] : List Value)) ++ List.replicate (2 - (lg_sl (([.long u0] : List Value))).length) Slot.unset).toArray = ls at hl ⊢
  have hl : lv_has ls 2 [(0, .long u0)] := hl
  unfold f_N_saturate at hf
  refine lv_lload_n hx hb d_N_saturate_0 rfl (lv_at hl 0 rfl) ?_
  refine lv_ldc2 (v := 2147483647) hx hb hown (hts _ mw_449) d_N_saturate_1 ?_
  refine W.lcmp hx hb d_N_saturate_4 ?_
  refine lv_if_le (tgt := 11) hx hb d_N_saturate_5 (by decide) (fun h5_1 => ?_) (fun h5_1 => ?_)
  · rw [if_pos h5_1] at hf
    refine lv_lload_n hx hb d_N_saturate_11 rfl (lv_at hl 0 rfl) ?_
    refine lv_ldc2 (v := -2147483648) hx hb hown (hts _ mw_451) d_N_saturate_12 ?_
    refine W.lcmp hx hb d_N_saturate_15 ?_
    refine lv_if_ge (tgt := 24) hx hb d_N_saturate_16 (by decide) (fun h16_2 => ?_) (fun h16_2 => ?_)
    · rw [if_pos h16_2] at hf
      refine lv_lload_n hx hb d_N_saturate_24 rfl (lv_at hl 0 rfl) ?_
      refine lv_l2i hx hb d_N_saturate_25 rfl ?_
      exact W.iret (v := (u0.toInt32)) hx hb hr (fun t ht hW => ⟨_, rfl, hf, ht⟩) (fun q h => by cases h) d_N_saturate_26
    · rw [if_neg h16_2] at hf
      refine lv_ldc (v := -2147483648) hx hb hown (hts _ mw_452) d_N_saturate_19 ?_
      refine lv_goto (tgt := 26) hx hb d_N_saturate_21 (by decide) ?_
      exact W.iret (v := (-2147483648 : Int32)) hx hb hr (fun t ht hW => ⟨_, rfl, hf, ht⟩) (fun q h => by cases h) d_N_saturate_26
  · rw [if_neg h5_1] at hf
    refine lv_ldc (v := 2147483647) hx hb hown (hts _ mw_450) d_N_saturate_8 ?_
    exact W.iret (v := (2147483647 : Int32)) hx hb hr (fun t ht hW => ⟨_, rfl, hf, ht⟩) (fun q h => by cases h) d_N_saturate_10
def f_N_divide (u0 : Int32) (u1 : Int32) : Option Int32 := if u1 = 0 then (if u0 = 0 then (some (0 : Int32)) else (if u0 ≤ 0 then (some (-2147483648 : Int32)) else (some (2147483647 : Int32)))) else (ra_nzl (u1.toInt64) (some (f_N_saturate (((u0.toInt64) * (65536 : Int64)) / (u1.toInt64)))))
set_option maxHeartbeats 4000000 in
set_option maxRecDepth 100000 in
theorem k_N_divide (l : Launch) (u0 : Int32) (u1 : Int32) (r0 : Int32) (hf : f_N_divide u0 u1 = some r0) : cc_MetS l y_N_divide (Cond.code y_N_divide b_N_divide 2 (some .int) :: wA) ({ frames := 1, cells := 0, slots := 0, locals := 21 } : Room) ([.int u0, .int u1] : List Value) r0 := by
  refine Met.ofW (cc := b_N_divide) (maxL := 2) (ret := (some .int)) (by decide) rfl ?_
  intro p e s m args below meth c s₁ B hml hv
  obtain rfl : args = ([.int u0, .int u1] : List Value).toArray := hv
  have hx := B.exec
  have hb := B.bytes
  have hr := B.returns
  have hts := fun w h => atoms_spec (ws := (Cond.code y_N_divide b_N_divide 2 (some .int) :: wA)) B.pre w (List.mem_cons_of_mem _ h)
  have hown : s.vm.findClass R_N = some m.cls := findClass_of_methodNamed B.named
  have hlocks := B.notSynchronized
  have hl := lv_entry (([.int u0, .int u1] : List Value)) (n := 2) (Nat.le_of_ble_eq_true rfl)
  rw [lg_entry_eq]
  generalize (lg_sl (([.int u0, .int u1] : List Value)) ++ List.replicate (2 - (lg_sl (([.int u0, .int u1] : List Value))).length) Slot.unset).toArray = ls at hl ⊢
  have hl : lv_has ls 2 [(0, .int u0), (1, .int u1)] := hl
  unfold f_N_divide at hf
  refine lv_iload_n hx hb d_N_divide_0 rfl (lv_at hl 1 rfl) ?_
  refine lv_if_eq (tgt := 17) hx hb d_N_divide_1 (by decide) (fun h1_1 => ?_) (fun h1_1 => ?_)
  · rw [if_pos h1_1] at hf
    refine lv_iload_n hx hb d_N_divide_17 rfl (lv_at hl 0 rfl) ?_
    refine lv_if_ne (tgt := 23) hx hb d_N_divide_18 (by decide) (fun h18_2 => ?_) (fun h18_2 => ?_)
    · rw [if_neg h18_2] at hf
      refine lv_iload_n hx hb d_N_divide_23 rfl (lv_at hl 0 rfl) ?_
      refine lv_if_le (tgt := 32) hx hb d_N_divide_24 (by decide) (fun h24_3 => ?_) (fun h24_3 => ?_)
      · rw [if_pos h24_3] at hf
        refine lv_ldc (v := -2147483648) hx hb hown (hts _ mw_452) d_N_divide_32 ?_
        cases hf
        exact W.iret hx hb hr (fun t ht hW => ⟨_, rfl, rfl, ht⟩) (fun q h => by cases h) d_N_divide_34
      · rw [if_neg h24_3] at hf
        refine lv_ldc (v := 2147483647) hx hb hown (hts _ mw_450) d_N_divide_27 ?_
        refine lv_goto (tgt := 34) hx hb d_N_divide_29 (by decide) ?_
        cases hf
        exact W.iret hx hb hr (fun t ht hW => ⟨_, rfl, rfl, ht⟩) (fun q h => by cases h) d_N_divide_34
    · rw [if_pos h18_2] at hf
      refine lv_iconst (v := 0) hx hb d_N_divide_21 (by decide) ?_
      cases hf
      exact W.iret hx hb hr (fun t ht hW => ⟨_, rfl, rfl, ht⟩) (fun q h => by cases h) d_N_divide_22
  · rw [if_neg h1_1] at hf
    refine lv_iload_n hx hb d_N_divide_4 rfl (lv_at hl 0 rfl) ?_
    refine lv_i2l hx hb d_N_divide_5 rfl ?_
    refine lv_ldc2 (v := 65536) hx hb hown (hts _ mw_456) d_N_divide_6 ?_
    refine lv_lmul hx hb d_N_divide_9 ?_
    refine lv_iload_n hx hb d_N_divide_10 rfl (lv_at hl 1 rfl) ?_
    refine lv_i2l hx hb d_N_divide_11 rfl ?_
    obtain ⟨hn, hf⟩ := ra_nzl_some hf
    refine lv_ldiv hx hb d_N_divide_12 hn ?_
    refine cc_calls (va_runS (As := [.long (((u0.toInt64) * (65536 : Int64)) / (u1.toInt64))]) (rest := []) ⟨hx, hb, hml, hown, hts⟩ (k_N_saturate l (((u0.toInt64) * (65536 : Int64)) / (u1.toInt64)) _ rfl) (cw_S 1 hts mw_446 mw_447 mw_14 mw_448 rfl rfl hd_N_saturate ⟨Nat.le_of_ble_eq_true rfl, Nat.le_of_ble_eq_true rfl⟩) cc_preS rfl rfl hl.1 rfl (lv_room (Nat.le_of_ble_eq_true rfl)) d_N_divide_13 ⟨Nat.zero_le _, Nat.zero_le _⟩) ?_
    cases hf
    exact W.iret hx hb hr (fun t ht hW => ⟨_, rfl, rfl, ht⟩) (fun q h => by cases h) d_N_divide_16
def f_N_operate (u0 : Int32) (u1 : Int32) (u2 : Int32) : Option Int32 := if u0 = (2 : Int32) then (some (f_N_saturate ((u1.toInt64) + (u2.toInt64)))) else (if u0 = (3 : Int32) then (some (f_N_saturate ((u1.toInt64) - (u2.toInt64)))) else (if u0 = (4 : Int32) then (some (f_N_saturate (((u1.toInt64) * (u2.toInt64)) >>> ((16 : Int32).toInt64 &&& 63)))) else (if u0 = (5 : Int32) then ((f_N_divide u1 u2).bind (fun r5 => some r5)) else (if u0 = (6 : Int32) then (some (if u2 < u1 then u2 else u1)) else (if u0 = (7 : Int32) then (some (if u1 < u2 then u2 else u1)) else (if u0 = (8 : Int32) then (if u2 < u1 then (some (0 : Int32)) else (some (65536 : Int32))) else (if u0 = (9 : Int32) then (some (f_N_saturate (-(u1.toInt64)))) else (if u0 = (10 : Int32) then (some (f_N_saturate (if (0 : Int64) < (u1.toInt64) then (u1.toInt64) else -(u1.toInt64)))) else (if u0 = (11 : Int32) then (some (u1 &&& (-65536 : Int32))) else (some (0 : Int32)))))))))))
set_option maxHeartbeats 4000000 in
set_option maxRecDepth 100000 in
theorem k_N_operate (l : Launch) (u0 : Int32) (u1 : Int32) (u2 : Int32) (r0 : Int32) (hf : f_N_operate u0 u1 u2 = some r0) : cc_MetS l y_N_operate (Cond.code y_N_operate b_N_operate 3 (some .int) :: wA) ({ frames := 2, cells := 0, slots := 0, locals := 42 } : Room) ([.int u0, .int u1, .int u2] : List Value) r0 := by
  refine Met.ofW (cc := b_N_operate) (maxL := 3) (ret := (some .int)) (by decide) rfl ?_
  intro p e s m args below meth c s₁ B hml hv
  obtain rfl : args = ([.int u0, .int u1, .int u2] : List Value).toArray := hv
  have hx := B.exec
  have hb := B.bytes
  have hr := B.returns
  have hts := fun w h => atoms_spec (ws := (Cond.code y_N_operate b_N_operate 3 (some .int) :: wA)) B.pre w (List.mem_cons_of_mem _ h)
  have hown : s.vm.findClass R_N = some m.cls := findClass_of_methodNamed B.named
  have hlocks := B.notSynchronized
  have hl := lv_entry (([.int u0, .int u1, .int u2] : List Value)) (n := 3) (Nat.le_of_ble_eq_true rfl)
  rw [lg_entry_eq]
  generalize (lg_sl (([.int u0, .int u1, .int u2] : List Value)) ++ List.replicate (3 - (lg_sl (([.int u0, .int u1, .int u2] : List Value))).length) Slot.unset).toArray = ls at hl ⊢
  have hl : lv_has ls 3 [(0, .int u0), (1, .int u1), (2, .int u2)] := hl
  unfold f_N_operate at hf
  refine lv_iload_n hx hb d_N_operate_0 rfl (lv_at hl 0 rfl) ?_
  by_cases h1_1 : u0 = (2 : Int32)
  · rw [if_pos h1_1] at hf
    refine lv_tableIn (tgt := 56) (off := 55) hx hb d_N_operate_1 (by rw [h1_1]; decide) (by rw [h1_1]; decide) (by rw [h1_1]; decide) (by decide) ?_
    refine lv_iload_n hx hb d_N_operate_56 rfl (lv_at hl 1 rfl) ?_
    refine lv_i2l hx hb d_N_operate_57 rfl ?_
    refine lv_iload_n hx hb d_N_operate_58 rfl (lv_at hl 2 rfl) ?_
    refine lv_i2l hx hb d_N_operate_59 rfl ?_
    refine lv_ladd hx hb d_N_operate_60 ?_
    refine cc_calls (va_runS (As := [.long ((u1.toInt64) + (u2.toInt64))]) (rest := []) ⟨hx, hb, hml, hown, hts⟩ (k_N_saturate l ((u1.toInt64) + (u2.toInt64)) _ rfl) (cw_S 1 hts mw_446 mw_447 mw_14 mw_448 rfl rfl hd_N_saturate ⟨Nat.le_of_ble_eq_true rfl, Nat.le_of_ble_eq_true rfl⟩) cc_preS rfl rfl hl.1 rfl (lv_room (Nat.le_of_ble_eq_true rfl)) d_N_operate_61 ⟨Nat.zero_le _, Nat.zero_le _⟩) ?_
    cases hf
    exact W.iret hx hb hr (fun t ht hW => ⟨_, rfl, rfl, ht⟩) (fun q h => by cases h) d_N_operate_64
  · rw [if_neg h1_1] at hf
    by_cases h1_2 : u0 = (3 : Int32)
    · rw [if_pos h1_2] at hf
      refine lv_tableIn (tgt := 65) (off := 64) hx hb d_N_operate_1 (by rw [h1_2]; decide) (by rw [h1_2]; decide) (by rw [h1_2]; decide) (by decide) ?_
      refine lv_iload_n hx hb d_N_operate_65 rfl (lv_at hl 1 rfl) ?_
      refine lv_i2l hx hb d_N_operate_66 rfl ?_
      refine lv_iload_n hx hb d_N_operate_67 rfl (lv_at hl 2 rfl) ?_
      refine lv_i2l hx hb d_N_operate_68 rfl ?_
      refine lv_lsub hx hb d_N_operate_69 ?_
      refine cc_calls (va_runS (As := [.long ((u1.toInt64) - (u2.toInt64))]) (rest := []) ⟨hx, hb, hml, hown, hts⟩ (k_N_saturate l ((u1.toInt64) - (u2.toInt64)) _ rfl) (cw_S 1 hts mw_446 mw_447 mw_14 mw_448 rfl rfl hd_N_saturate ⟨Nat.le_of_ble_eq_true rfl, Nat.le_of_ble_eq_true rfl⟩) cc_preS rfl rfl hl.1 rfl (lv_room (Nat.le_of_ble_eq_true rfl)) d_N_operate_70 ⟨Nat.zero_le _, Nat.zero_le _⟩) ?_
      cases hf
      exact W.iret hx hb hr (fun t ht hW => ⟨_, rfl, rfl, ht⟩) (fun q h => by cases h) d_N_operate_73
    · rw [if_neg h1_2] at hf
      by_cases h1_3 : u0 = (4 : Int32)
      · rw [if_pos h1_3] at hf
        refine lv_tableIn (tgt := 74) (off := 73) hx hb d_N_operate_1 (by rw [h1_3]; decide) (by rw [h1_3]; decide) (by rw [h1_3]; decide) (by decide) ?_
        refine lv_iload_n hx hb d_N_operate_74 rfl (lv_at hl 1 rfl) ?_
        refine lv_i2l hx hb d_N_operate_75 rfl ?_
        refine lv_iload_n hx hb d_N_operate_76 rfl (lv_at hl 2 rfl) ?_
        refine lv_i2l hx hb d_N_operate_77 rfl ?_
        refine lv_lmul hx hb d_N_operate_78 ?_
        refine lv_bipush (v := 16) hx hb d_N_operate_79 (by decide) ?_
        refine lv_lshr hx hb d_N_operate_81 rfl ?_
        refine cc_calls (va_runS (As := [.long (((u1.toInt64) * (u2.toInt64)) >>> ((16 : Int32).toInt64 &&& 63))]) (rest := []) ⟨hx, hb, hml, hown, hts⟩ (k_N_saturate l (((u1.toInt64) * (u2.toInt64)) >>> ((16 : Int32).toInt64 &&& 63)) _ rfl) (cw_S 1 hts mw_446 mw_447 mw_14 mw_448 rfl rfl hd_N_saturate ⟨Nat.le_of_ble_eq_true rfl, Nat.le_of_ble_eq_true rfl⟩) cc_preS rfl rfl hl.1 rfl (lv_room (Nat.le_of_ble_eq_true rfl)) d_N_operate_82 ⟨Nat.zero_le _, Nat.zero_le _⟩) ?_
        cases hf
        exact W.iret hx hb hr (fun t ht hW => ⟨_, rfl, rfl, ht⟩) (fun q h => by cases h) d_N_operate_85
      · rw [if_neg h1_3] at hf
        by_cases h1_4 : u0 = (5 : Int32)
        · rw [if_pos h1_4] at hf
          refine lv_tableIn (tgt := 86) (off := 85) hx hb d_N_operate_1 (by rw [h1_4]; decide) (by rw [h1_4]; decide) (by rw [h1_4]; decide) (by decide) ?_
          refine lv_iload_n hx hb d_N_operate_86 rfl (lv_at hl 1 rfl) ?_
          refine lv_iload_n hx hb d_N_operate_87 rfl (lv_at hl 2 rfl) ?_
          obtain ⟨r5, hc, hf⟩ := Option.bind_eq_some_iff.mp hf
          refine cc_calls (va_runS (As := [.int u1, .int u2]) (rest := []) ⟨hx, hb, hml, hown, hts⟩ (k_N_divide l u1 u2 r5 hc) (cw_S 2 hts mw_453 mw_454 mw_14 mw_455 rfl rfl hd_N_divide ⟨Nat.le_of_ble_eq_true rfl, Nat.le_of_ble_eq_true rfl⟩) cc_preS rfl rfl hl.1 rfl (lv_room (Nat.le_of_ble_eq_true rfl)) d_N_operate_88 ⟨Nat.zero_le _, Nat.zero_le _⟩) ?_
          cases hf
          exact W.iret hx hb hr (fun t ht hW => ⟨_, rfl, rfl, ht⟩) (fun q h => by cases h) d_N_operate_91
        · rw [if_neg h1_4] at hf
          by_cases h1_6 : u0 = (6 : Int32)
          · rw [if_pos h1_6] at hf
            refine lv_tableIn (tgt := 92) (off := 91) hx hb d_N_operate_1 (by rw [h1_6]; decide) (by rw [h1_6]; decide) (by rw [h1_6]; decide) (by decide) ?_
            refine lv_iload_n hx hb d_N_operate_92 rfl (lv_at hl 1 rfl) ?_
            refine lv_iload_n hx hb d_N_operate_93 rfl (lv_at hl 2 rfl) ?_
            refine va_mmin hx hb (hml.trans hl.1.symm) hown (hts _ mw_457) (hts _ mw_458) (hts _ mw_12) (hts _ mw_459) (Nat.le_of_ble_eq_true rfl) (Nat.le_of_ble_eq_true rfl) (Nat.zero_le _) (Nat.zero_le _) d_N_operate_94 ?_
            cases hf
            exact W.iret hx hb hr (fun t ht hW => ⟨_, rfl, rfl, ht⟩) (fun q h => by cases h) d_N_operate_97
          · rw [if_neg h1_6] at hf
            by_cases h1_7 : u0 = (7 : Int32)
            · rw [if_pos h1_7] at hf
              refine lv_tableIn (tgt := 98) (off := 97) hx hb d_N_operate_1 (by rw [h1_7]; decide) (by rw [h1_7]; decide) (by rw [h1_7]; decide) (by decide) ?_
              refine lv_iload_n hx hb d_N_operate_98 rfl (lv_at hl 1 rfl) ?_
              refine lv_iload_n hx hb d_N_operate_99 rfl (lv_at hl 2 rfl) ?_
              refine va_mmax hx hb (hml.trans hl.1.symm) hown (hts _ mw_460) (hts _ mw_249) (hts _ mw_12) (hts _ mw_250) (Nat.le_of_ble_eq_true rfl) (Nat.le_of_ble_eq_true rfl) (Nat.zero_le _) (Nat.zero_le _) d_N_operate_100 ?_
              cases hf
              exact W.iret hx hb hr (fun t ht hW => ⟨_, rfl, rfl, ht⟩) (fun q h => by cases h) d_N_operate_103
            · rw [if_neg h1_7] at hf
              by_cases h1_8 : u0 = (8 : Int32)
              · rw [if_pos h1_8] at hf
                refine lv_tableIn (tgt := 104) (off := 103) hx hb d_N_operate_1 (by rw [h1_8]; decide) (by rw [h1_8]; decide) (by rw [h1_8]; decide) (by decide) ?_
                refine lv_iload_n hx hb d_N_operate_104 rfl (lv_at hl 1 rfl) ?_
                refine lv_iload_n hx hb d_N_operate_105 rfl (lv_at hl 2 rfl) ?_
                refine lv_icmp_gt (tgt := 114) hx hb d_N_operate_106 (by decide) (fun h106_9 => ?_) (fun h106_9 => ?_)
                · rw [if_pos h106_9] at hf
                  refine lv_iconst (v := 0) hx hb d_N_operate_114 (by decide) ?_
                  cases hf
                  exact W.iret hx hb hr (fun t ht hW => ⟨_, rfl, rfl, ht⟩) (fun q h => by cases h) d_N_operate_115
                · rw [if_neg h106_9] at hf
                  refine lv_ldc (v := 65536) hx hb hown (hts _ mw_461) d_N_operate_109 ?_
                  refine lv_goto (tgt := 115) hx hb d_N_operate_111 (by decide) ?_
                  cases hf
                  exact W.iret hx hb hr (fun t ht hW => ⟨_, rfl, rfl, ht⟩) (fun q h => by cases h) d_N_operate_115
              · rw [if_neg h1_8] at hf
                by_cases h1_10 : u0 = (9 : Int32)
                · rw [if_pos h1_10] at hf
                  refine lv_tableIn (tgt := 116) (off := 115) hx hb d_N_operate_1 (by rw [h1_10]; decide) (by rw [h1_10]; decide) (by rw [h1_10]; decide) (by decide) ?_
                  refine lv_iload_n hx hb d_N_operate_116 rfl (lv_at hl 1 rfl) ?_
                  refine lv_i2l hx hb d_N_operate_117 rfl ?_
                  refine lv_lneg hx hb d_N_operate_118 ?_
                  refine cc_calls (va_runS (As := [.long (-(u1.toInt64))]) (rest := []) ⟨hx, hb, hml, hown, hts⟩ (k_N_saturate l (-(u1.toInt64)) _ rfl) (cw_S 1 hts mw_446 mw_447 mw_14 mw_448 rfl rfl hd_N_saturate ⟨Nat.le_of_ble_eq_true rfl, Nat.le_of_ble_eq_true rfl⟩) cc_preS rfl rfl hl.1 rfl (lv_room (Nat.le_of_ble_eq_true rfl)) d_N_operate_119 ⟨Nat.zero_le _, Nat.zero_le _⟩) ?_
                  cases hf
                  exact W.iret hx hb hr (fun t ht hW => ⟨_, rfl, rfl, ht⟩) (fun q h => by cases h) d_N_operate_122
                · rw [if_neg h1_10] at hf
                  by_cases h1_11 : u0 = (10 : Int32)
                  · rw [if_pos h1_11] at hf
                    refine lv_tableIn (tgt := 123) (off := 122) hx hb d_N_operate_1 (by rw [h1_11]; decide) (by rw [h1_11]; decide) (by rw [h1_11]; decide) (by decide) ?_
                    refine lv_iload_n hx hb d_N_operate_123 rfl (lv_at hl 1 rfl) ?_
                    refine lv_i2l hx hb d_N_operate_124 rfl ?_
                    refine va_mabs_long hx hb (hml.trans hl.1.symm) hown (hts _ mw_462) (hts _ mw_463) (hts _ mw_12) (hts _ mw_464) (Nat.le_of_ble_eq_true rfl) (Nat.le_of_ble_eq_true rfl) (Nat.zero_le _) (Nat.zero_le _) d_N_operate_125 ?_
                    refine cc_calls (va_runS (As := [.long (if (0 : Int64) < (u1.toInt64) then (u1.toInt64) else -(u1.toInt64))]) (rest := []) ⟨hx, hb, hml, hown, hts⟩ (k_N_saturate l (if (0 : Int64) < (u1.toInt64) then (u1.toInt64) else -(u1.toInt64)) _ rfl) (cw_S 1 hts mw_446 mw_447 mw_14 mw_448 rfl rfl hd_N_saturate ⟨Nat.le_of_ble_eq_true rfl, Nat.le_of_ble_eq_true rfl⟩) cc_preS rfl rfl hl.1 rfl (lv_room (Nat.le_of_ble_eq_true rfl)) d_N_operate_128 ⟨Nat.zero_le _, Nat.zero_le _⟩) ?_
                    cases hf
                    exact W.iret hx hb hr (fun t ht hW => ⟨_, rfl, rfl, ht⟩) (fun q h => by cases h) d_N_operate_131
                  · rw [if_neg h1_11] at hf
                    by_cases h1_12 : u0 = (11 : Int32)
                    · rw [if_pos h1_12] at hf
                      refine lv_tableIn (tgt := 132) (off := 131) hx hb d_N_operate_1 (by rw [h1_12]; decide) (by rw [h1_12]; decide) (by rw [h1_12]; decide) (by decide) ?_
                      refine lv_iload_n hx hb d_N_operate_132 rfl (lv_at hl 1 rfl) ?_
                      refine lv_ldc (v := -65536) hx hb hown (hts _ mw_465) d_N_operate_133 ?_
                      refine lv_iand hx hb d_N_operate_135 ?_
                      cases hf
                      exact W.iret hx hb hr (fun t ht hW => ⟨_, rfl, rfl, ht⟩) (fun q h => by cases h) d_N_operate_136
                    · rw [if_neg h1_12] at hf
                      have hout : u0.toInt < 2 ∨ 11 < u0.toInt := by
                        have n2 := lv_neT (a := 2) h1_1 (by decide)
                        have n3 := lv_neT (a := 3) h1_2 (by decide)
                        have n4 := lv_neT (a := 4) h1_3 (by decide)
                        have n5 := lv_neT (a := 5) h1_4 (by decide)
                        have n6 := lv_neT (a := 6) h1_6 (by decide)
                        have n7 := lv_neT (a := 7) h1_7 (by decide)
                        have n8 := lv_neT (a := 8) h1_8 (by decide)
                        have n9 := lv_neT (a := 9) h1_10 (by decide)
                        have n10 := lv_neT (a := 10) h1_11 (by decide)
                        have n11 := lv_neT (a := 11) h1_12 (by decide)
                        omega
                      refine lv_tableOut (tgt := 137) hx hb d_N_operate_1 hout (by decide) ?_
                      refine lv_iconst (v := 0) hx hb d_N_operate_137 (by decide) ?_
                      cases hf
                      exact W.iret hx hb hr (fun t ht hW => ⟨_, rfl, rfl, ht⟩) (fun q h => by cases h) d_N_operate_138
end
section
abbrev wP (b : Nat → Nat) (cI cC : ClassId) (tx : Nat) (F : ST_F) (A : ST_A) : va_W := [((b 0), .inr (3, [.ref (b 1), .int (F 0), .ref (b 8), .ref (b 6), .ref (b 3), .ref (b 2)])), ((b 1), .inl (cC, 160, .inl (A 0))), ((b 2), .inl (cI, 32, .inl (A 1))), ((b 3), .inr (2, [.ref (b 4), .ref (b 5)])), ((b 4), .inl (cI, 100, .inl (A 2))), ((b 5), .inl (cI, 6, .inl (A 3))), ((b 6), .inr (1, [.ref (b 7), .ref tx, .int (F 1), .int (F 2), .ref (b 14)])), ((b 7), .inl (cI, 26, .inl (A 4))), ((b 8), .inr (0, [.ref (b 9), .ref (b 10), .ref (b 11), .ref (b 12), .ref (b 13), .int (F 3), .int (F 4)])), ((b 9), .inl (cI, 100, .inl (A 5))), ((b 10), .inl (cI, 100, .inl (A 6))), ((b 11), .inl (cI, 100, .inl (A 7))), ((b 12), .inl (cI, 3, .inl (A 8))), ((b 13), .inl (cI, 26, .inl (A 9))), ((b 14), .inr (0, [.ref (b 15), .ref (b 16), .ref (b 17), .ref (b 18), .ref (b 19), .int (F 5), .int (F 6)])), ((b 15), .inl (cI, 100, .inl (A 10))), ((b 16), .inl (cI, 100, .inl (A 11))), ((b 17), .inl (cI, 100, .inl (A 12))), ((b 18), .inl (cI, 3, .inl (A 13))), ((b 19), .inl (cI, 26, .inl (A 14)))]
def f_P_isPoint (u0 : Int32) (u1 : Int32) : Int32 := if u0 < 0 then ((0 : Int32)) else (if (8 : Int32) ≤ u0 then ((0 : Int32)) else (if u1 < 0 then ((0 : Int32)) else (if (4 : Int32) ≤ u1 then ((0 : Int32)) else ((1 : Int32)))))
set_option maxHeartbeats 4000000 in
set_option maxRecDepth 100000 in
theorem k_P_isPoint (l : Launch) (u0 : Int32) (u1 : Int32) (r0 : Int32) (hf : f_P_isPoint u0 u1 = r0) : cc_MetS l y_P_isPoint (Cond.code y_P_isPoint b_P_isPoint 2 (some .boolean) :: wA) ({ frames := 0, cells := 0, slots := 0, locals := 0 } : Room) ([.int u0, .int u1] : List Value) r0 := by
  refine Met.ofW (cc := b_P_isPoint) (maxL := 2) (ret := (some .boolean)) (by decide) rfl ?_
  intro p e s m args below meth c s₁ B hml hv
  obtain rfl : args = ([.int u0, .int u1] : List Value).toArray := hv
  have hx := B.exec
  have hb := B.bytes
  have hr := B.returns
  have hts := fun w h => atoms_spec (ws := (Cond.code y_P_isPoint b_P_isPoint 2 (some .boolean) :: wA)) B.pre w (List.mem_cons_of_mem _ h)
  have hown : s.vm.findClass R_P = some m.cls := findClass_of_methodNamed B.named
  have hlocks := B.notSynchronized
  have hl := lv_entry (([.int u0, .int u1] : List Value)) (n := 2) (Nat.le_of_ble_eq_true rfl)
  rw [lg_entry_eq]
  generalize (lg_sl (([.int u0, .int u1] : List Value)) ++ List.replicate (2 - (lg_sl (([.int u0, .int u1] : List Value))).length) Slot.unset).toArray = ls at hl ⊢
  have hl : lv_has ls 2 [(0, .int u0), (1, .int u1)] := hl
  unfold f_P_isPoint at hf
  refine lv_iload_n hx hb d_P_isPoint_0 rfl (lv_at hl 0 rfl) ?_
  refine lv_if_lt (tgt := 23) hx hb d_P_isPoint_1 (by decide) (fun h1_1 => ?_) (fun h1_1 => ?_)
  · rw [if_pos h1_1] at hf
    refine lv_iconst (v := 0) hx hb d_P_isPoint_23 (by decide) ?_
    exact W.zret (v := (0 : Int32)) hx hb hr (by rfl) (fun t ht hW => ⟨_, rfl, hf, ht⟩) (fun q h => by cases h) d_P_isPoint_24
  · rw [if_neg h1_1] at hf
    refine lv_iload_n hx hb d_P_isPoint_4 rfl (lv_at hl 0 rfl) ?_
    refine lv_bipush (v := 8) hx hb d_P_isPoint_5 (by decide) ?_
    refine lv_icmp_ge (tgt := 23) hx hb d_P_isPoint_7 (by decide) (fun h7_2 => ?_) (fun h7_2 => ?_)
    · rw [if_pos h7_2] at hf
      refine lv_iconst (v := 0) hx hb d_P_isPoint_23 (by decide) ?_
      exact W.zret (v := (0 : Int32)) hx hb hr (by rfl) (fun t ht hW => ⟨_, rfl, hf, ht⟩) (fun q h => by cases h) d_P_isPoint_24
    · rw [if_neg h7_2] at hf
      refine lv_iload_n hx hb d_P_isPoint_10 rfl (lv_at hl 1 rfl) ?_
      refine lv_if_lt (tgt := 23) hx hb d_P_isPoint_11 (by decide) (fun h11_3 => ?_) (fun h11_3 => ?_)
      · rw [if_pos h11_3] at hf
        refine lv_iconst (v := 0) hx hb d_P_isPoint_23 (by decide) ?_
        exact W.zret (v := (0 : Int32)) hx hb hr (by rfl) (fun t ht hW => ⟨_, rfl, hf, ht⟩) (fun q h => by cases h) d_P_isPoint_24
      · rw [if_neg h11_3] at hf
        refine lv_iload_n hx hb d_P_isPoint_14 rfl (lv_at hl 1 rfl) ?_
        refine lv_iconst (v := 4) hx hb d_P_isPoint_15 (by decide) ?_
        refine lv_icmp_ge (tgt := 23) hx hb d_P_isPoint_16 (by decide) (fun h16_4 => ?_) (fun h16_4 => ?_)
        · rw [if_pos h16_4] at hf
          refine lv_iconst (v := 0) hx hb d_P_isPoint_23 (by decide) ?_
          exact W.zret (v := (0 : Int32)) hx hb hr (by rfl) (fun t ht hW => ⟨_, rfl, hf, ht⟩) (fun q h => by cases h) d_P_isPoint_24
        · rw [if_neg h16_4] at hf
          refine lv_iconst (v := 1) hx hb d_P_isPoint_19 (by decide) ?_
          refine lv_goto (tgt := 24) hx hb d_P_isPoint_20 (by decide) ?_
          exact W.zret (v := (1 : Int32)) hx hb hr (by rfl) (fun t ht hW => ⟨_, rfl, hf, ht⟩) (fun q h => by cases h) d_P_isPoint_24
def f_P_isColor (u0 : Int32) : Int32 := if u0 < 0 then ((0 : Int32)) else (if (16777215 : Int32) < u0 then ((0 : Int32)) else ((1 : Int32)))
set_option maxHeartbeats 4000000 in
set_option maxRecDepth 100000 in
theorem k_P_isColor (l : Launch) (u0 : Int32) (r0 : Int32) (hf : f_P_isColor u0 = r0) : cc_MetS l y_P_isColor (Cond.code y_P_isColor b_P_isColor 1 (some .boolean) :: wA) ({ frames := 0, cells := 0, slots := 0, locals := 0 } : Room) ([.int u0] : List Value) r0 := by
  refine Met.ofW (cc := b_P_isColor) (maxL := 1) (ret := (some .boolean)) (by decide) rfl ?_
  intro p e s m args below meth c s₁ B hml hv
  obtain rfl : args = ([.int u0] : List Value).toArray := hv
  have hx := B.exec
  have hb := B.bytes
  have hr := B.returns
  have hts := fun w h => atoms_spec (ws := (Cond.code y_P_isColor b_P_isColor 1 (some .boolean) :: wA)) B.pre w (List.mem_cons_of_mem _ h)
  have hown : s.vm.findClass R_P = some m.cls := findClass_of_methodNamed B.named
  have hlocks := B.notSynchronized
  have hl := lv_entry (([.int u0] : List Value)) (n := 1) (Nat.le_of_ble_eq_true rfl)
  rw [lg_entry_eq]
  generalize (lg_sl (([.int u0] : List Value)) ++ List.replicate (1 - (lg_sl (([.int u0] : List Value))).length) Slot.unset).toArray = ls at hl ⊢
  have hl : lv_has ls 1 [(0, .int u0)] := hl
  unfold f_P_isColor at hf
  refine lv_iload_n hx hb d_P_isColor_0 rfl (lv_at hl 0 rfl) ?_
  refine lv_if_lt (tgt := 14) hx hb d_P_isColor_1 (by decide) (fun h1_1 => ?_) (fun h1_1 => ?_)
  · rw [if_pos h1_1] at hf
    refine lv_iconst (v := 0) hx hb d_P_isColor_14 (by decide) ?_
    exact W.zret (v := (0 : Int32)) hx hb hr (by rfl) (fun t ht hW => ⟨_, rfl, hf, ht⟩) (fun q h => by cases h) d_P_isColor_15
  · rw [if_neg h1_1] at hf
    refine lv_iload_n hx hb d_P_isColor_4 rfl (lv_at hl 0 rfl) ?_
    refine lv_ldc (v := 16777215) hx hb hown (hts _ mw_434) d_P_isColor_5 ?_
    refine lv_icmp_gt (tgt := 14) hx hb d_P_isColor_7 (by decide) (fun h7_2 => ?_) (fun h7_2 => ?_)
    · rw [if_pos h7_2] at hf
      refine lv_iconst (v := 0) hx hb d_P_isColor_14 (by decide) ?_
      exact W.zret (v := (0 : Int32)) hx hb hr (by rfl) (fun t ht hW => ⟨_, rfl, hf, ht⟩) (fun q h => by cases h) d_P_isColor_15
    · rw [if_neg h7_2] at hf
      refine lv_iconst (v := 1) hx hb d_P_isColor_10 (by decide) ?_
      refine lv_goto (tgt := 15) hx hb d_P_isColor_11 (by decide) ?_
      exact W.zret (v := (1 : Int32)) hx hb hr (by rfl) (fun t ht hW => ⟨_, rfl, hf, ht⟩) (fun q h => by cases h) d_P_isColor_15
def f_P_hasCode  (Fa : ST_F) (Aa : ST_A) : Option (Int32 × ST_F × ST_A) := if (Fa 3) ≤ 0 then (some ((0 : Int32), Fa, Aa)) else (some ((1 : Int32), Fa, Aa))
set_option maxHeartbeats 4000000 in
set_option maxRecDepth 100000 in
theorem k_P_hasCode (l : Launch) (dC : Nat → ClassId) (dI : Nat → Nat → Nat) (b : Nat → Nat) (cI cC : ClassId) (tx : Nat) (sz : Nat) (Fa : ST_F) (Aa : ST_A)  (r0 : Int32) (F9 : ST_F) (A9 : ST_A) (hf : f_P_hasCode  Fa Aa = some (r0, F9, A9)) : cc_MetI l y_P_hasCode (Cond.code y_P_hasCode b_P_hasCode 1 (some .boolean) :: wA) ({ frames := 0, cells := 0, slots := 0, locals := 0 } : Room) (dC, dI) vC [(cI, .int), (cC, .char)] ([.ref (b 0)] : List Value) (wP b cI cC tx Fa Aa) sz (wP b cI cC tx F9 A9) r0 := by
  refine Met.ofW (cc := b_P_hasCode) (maxL := 1) (ret := (some .boolean)) (by decide) rfl ?_
  intro p e s m args below meth c s₁ B hml hv
  obtain ⟨rfl, hsz, hP, hK, hD0⟩ := hv
  have hx := B.exec
  have hb := B.bytes
  have hr := B.returns
  have hts := fun w h => atoms_spec (ws := (Cond.code y_P_hasCode b_P_hasCode 1 (some .boolean) :: wA)) B.pre w (List.mem_cons_of_mem _ h)
  have hown : s.vm.findClass R_P = some m.cls := findClass_of_methodNamed B.named
  have hlocks := B.notSynchronized
  subst hsz
  have hD := hD0.self (sz := s.heap.size)
  have hA : ∀ q : Nat, s.heap.size ≤ q → va_A (wP b cI cC tx Fa Aa) s.heap.size q := fun q h => Or.inr h
  have hS : va_S (va_A (wP b cI cC tx Fa Aa) s.heap.size) s.heap s.heap [] := va_S.rf
  have hl := lv_entry (([.ref (b 0)] : List Value)) (n := 1) (Nat.le_of_ble_eq_true rfl)
  rw [lg_entry_eq]
  generalize (lg_sl (([.ref (b 0)] : List Value)) ++ List.replicate (1 - (lg_sl (([.ref (b 0)] : List Value))).length) Slot.unset).toArray = ls at hl ⊢
  have hl : lv_has ls 1 [(0, .ref (b 0))] := hl
  unfold f_P_hasCode at hf
  refine lv_aload_n hx hb d_P_hasCode_0 rfl (lv_at hl 0 rfl) ?_
  refine va_get (D := (dC, dI)) (ci := 3) (v := .ref (b 8)) (C := R_P) (T := T_P) (N := 6) hx hb hts in_P hown hK hP 0 rfl rfl 2 (by decide) (hts _ mw_107) (fun _ h9 => h9) rfl d_P_hasCode_1 ?_
  refine va_get (D := (dC, dI)) (ci := 0) (v := .int (Fa 3)) (C := R_K) (T := T_K) (N := 7) hx hb hts in_K hown hK hP 8 rfl rfl 5 (by decide) (hts _ mw_47) (fun _ h9 => h9) rfl d_P_hasCode_4 ?_
  refine lv_if_le (tgt := 14) hx hb d_P_hasCode_7 (by decide) (fun h7_1 => ?_) (fun h7_1 => ?_)
  · rw [if_pos h7_1] at hf
    refine lv_iconst (v := 0) hx hb d_P_hasCode_14 (by decide) ?_
    cases hf
    exact W.zret hx hb hr (by rfl) (fun t ht hW => ⟨⟨_, (), rfl, rfl, by rw [ht]; exact hP, va_K.moved hW.alike hK, hD⟩, hS.F ht⟩) hS.2.2 d_P_hasCode_15
  · rw [if_neg h7_1] at hf
    refine lv_iconst (v := 1) hx hb d_P_hasCode_10 (by decide) ?_
    refine lv_goto (tgt := 15) hx hb d_P_hasCode_11 (by decide) ?_
    cases hf
    exact W.zret hx hb hr (by rfl) (fun t ht hW => ⟨⟨_, (), rfl, rfl, by rw [ht]; exact hP, va_K.moved hW.alike hK, hD⟩, hS.F ht⟩) hS.2.2 d_P_hasCode_15
def f_P_isInstruction (u1 : Int32) (Fa : ST_F) (Aa : ST_A) : Option (Int32 × ST_F × ST_A) := if u1 < 0 then (some ((0 : Int32), Fa, Aa)) else (if (Fa 3) ≤ u1 then (some ((0 : Int32), Fa, Aa)) else (some ((1 : Int32), Fa, Aa)))
set_option maxHeartbeats 4000000 in
set_option maxRecDepth 100000 in
theorem k_P_isInstruction (l : Launch) (dC : Nat → ClassId) (dI : Nat → Nat → Nat) (b : Nat → Nat) (cI cC : ClassId) (tx : Nat) (sz : Nat) (Fa : ST_F) (Aa : ST_A) (u1 : Int32) (r0 : Int32) (F9 : ST_F) (A9 : ST_A) (hf : f_P_isInstruction u1 Fa Aa = some (r0, F9, A9)) : cc_MetI l y_P_isInstruction (Cond.code y_P_isInstruction b_P_isInstruction 2 (some .boolean) :: wA) ({ frames := 0, cells := 0, slots := 0, locals := 0 } : Room) (dC, dI) vC [(cI, .int), (cC, .char)] ([.ref (b 0), .int u1] : List Value) (wP b cI cC tx Fa Aa) sz (wP b cI cC tx F9 A9) r0 := by
  refine Met.ofW (cc := b_P_isInstruction) (maxL := 2) (ret := (some .boolean)) (by decide) rfl ?_
  intro p e s m args below meth c s₁ B hml hv
  obtain ⟨rfl, hsz, hP, hK, hD0⟩ := hv
  have hx := B.exec
  have hb := B.bytes
  have hr := B.returns
  have hts := fun w h => atoms_spec (ws := (Cond.code y_P_isInstruction b_P_isInstruction 2 (some .boolean) :: wA)) B.pre w (List.mem_cons_of_mem _ h)
  have hown : s.vm.findClass R_P = some m.cls := findClass_of_methodNamed B.named
  have hlocks := B.notSynchronized
  subst hsz
  have hD := hD0.self (sz := s.heap.size)
  have hA : ∀ q : Nat, s.heap.size ≤ q → va_A (wP b cI cC tx Fa Aa) s.heap.size q := fun q h => Or.inr h
  have hS : va_S (va_A (wP b cI cC tx Fa Aa) s.heap.size) s.heap s.heap [] := va_S.rf
  have hl := lv_entry (([.ref (b 0), .int u1] : List Value)) (n := 2) (Nat.le_of_ble_eq_true rfl)
  rw [lg_entry_eq]
  generalize (lg_sl (([.ref (b 0), .int u1] : List Value)) ++ List.replicate (2 - (lg_sl (([.ref (b 0), .int u1] : List Value))).length) Slot.unset).toArray = ls at hl ⊢
  have hl : lv_has ls 2 [(0, .ref (b 0)), (1, .int u1)] := hl
  unfold f_P_isInstruction at hf
  refine lv_iload_n hx hb d_P_isInstruction_0 rfl (lv_at hl 1 rfl) ?_
  refine lv_if_lt (tgt := 19) hx hb d_P_isInstruction_1 (by decide) (fun h1_1 => ?_) (fun h1_1 => ?_)
  · rw [if_pos h1_1] at hf
    refine lv_iconst (v := 0) hx hb d_P_isInstruction_19 (by decide) ?_
    cases hf
    exact W.zret hx hb hr (by rfl) (fun t ht hW => ⟨⟨_, (), rfl, rfl, by rw [ht]; exact hP, va_K.moved hW.alike hK, hD⟩, hS.F ht⟩) hS.2.2 d_P_isInstruction_20
  · rw [if_neg h1_1] at hf
    refine lv_iload_n hx hb d_P_isInstruction_4 rfl (lv_at hl 1 rfl) ?_
    refine lv_aload_n hx hb d_P_isInstruction_5 rfl (lv_at hl 0 rfl) ?_
    refine va_get (D := (dC, dI)) (ci := 3) (v := .ref (b 8)) (C := R_P) (T := T_P) (N := 6) hx hb hts in_P hown hK hP 0 rfl rfl 2 (by decide) (hts _ mw_107) (fun _ h9 => h9) rfl d_P_isInstruction_6 ?_
    refine va_get (D := (dC, dI)) (ci := 0) (v := .int (Fa 3)) (C := R_K) (T := T_K) (N := 7) hx hb hts in_K hown hK hP 8 rfl rfl 5 (by decide) (hts _ mw_47) (fun _ h9 => h9) rfl d_P_isInstruction_9 ?_
    refine lv_icmp_ge (tgt := 19) hx hb d_P_isInstruction_12 (by decide) (fun h12_2 => ?_) (fun h12_2 => ?_)
    · rw [if_pos h12_2] at hf
      refine lv_iconst (v := 0) hx hb d_P_isInstruction_19 (by decide) ?_
      cases hf
      exact W.zret hx hb hr (by rfl) (fun t ht hW => ⟨⟨_, (), rfl, rfl, by rw [ht]; exact hP, va_K.moved hW.alike hK, hD⟩, hS.F ht⟩) hS.2.2 d_P_isInstruction_20
    · rw [if_neg h12_2] at hf
      refine lv_iconst (v := 1) hx hb d_P_isInstruction_15 (by decide) ?_
      refine lv_goto (tgt := 20) hx hb d_P_isInstruction_16 (by decide) ?_
      cases hf
      exact W.zret hx hb hr (by rfl) (fun t ht hW => ⟨⟨_, (), rfl, rfl, by rw [ht]; exact hP, va_K.moved hW.alike hK, hD⟩, hS.F ht⟩) hS.2.2 d_P_isInstruction_20
def f_P_erase  (Fa : ST_F) (Aa : ST_A) : Option (ST_F × ST_A) := some ((upd Fa 0 (0 : Int32)), Aa)
set_option maxHeartbeats 4000000 in
set_option maxRecDepth 100000 in
theorem k_P_erase (l : Launch) (dC : Nat → ClassId) (dI : Nat → Nat → Nat) (b : Nat → Nat) (cI cC : ClassId) (tx : Nat) (sz : Nat) (Fa : ST_F) (Aa : ST_A)  (F9 : ST_F) (A9 : ST_A) (hf : f_P_erase  Fa Aa = some (F9, A9)) : cc_MetV l y_P_erase (Cond.code y_P_erase b_P_erase 1 none :: wA) ({ frames := 0, cells := 0, slots := 0, locals := 0 } : Room) (dC, dI) vC [(cI, .int), (cC, .char)] ([.ref (b 0)] : List Value) (wP b cI cC tx Fa Aa) sz (wP b cI cC tx F9 A9) := by
  refine Met.ofW (cc := b_P_erase) (maxL := 1) (ret := none) (by decide) rfl ?_
  intro p e s m args below meth c s₁ B hml hv
  obtain ⟨rfl, hsz, hP, hK, hD0⟩ := hv
  have hx := B.exec
  have hb := B.bytes
  have hr := B.returns
  have hts := fun w h => atoms_spec (ws := (Cond.code y_P_erase b_P_erase 1 none :: wA)) B.pre w (List.mem_cons_of_mem _ h)
  have hown : s.vm.findClass R_P = some m.cls := findClass_of_methodNamed B.named
  have hlocks := B.notSynchronized
  subst hsz
  have hD := hD0.self (sz := s.heap.size)
  have hA : ∀ q : Nat, s.heap.size ≤ q → va_A (wP b cI cC tx Fa Aa) s.heap.size q := fun q h => Or.inr h
  have hS : va_S (va_A (wP b cI cC tx Fa Aa) s.heap.size) s.heap s.heap [] := va_S.rf
  have hl := lv_entry (([.ref (b 0)] : List Value)) (n := 1) (Nat.le_of_ble_eq_true rfl)
  rw [lg_entry_eq]
  generalize (lg_sl (([.ref (b 0)] : List Value)) ++ List.replicate (1 - (lg_sl (([.ref (b 0)] : List Value))).length) Slot.unset).toArray = ls at hl ⊢
  have hl : lv_has ls 1 [(0, .ref (b 0))] := hl
  unfold f_P_erase at hf
  refine lv_aload_n hx hb d_P_erase_0 rfl (lv_at hl 0 rfl) ?_
  refine lv_iconst (v := 0) hx hb d_P_erase_1 (by decide) ?_
  refine va_put (D := (dC, dI)) (ci := 3) (v := .int (0 : Int32)) (ty := .int) (C := R_P) (T := T_P) (N := 6) hx hb hts in_P ty_P ty_P_ok nm_P hown hK hP hD hS 0 rfl rfl 1 (by decide) (hts _ mw_106) (fun _ h9 => h9) rfl (by decide +kernel) rfl rfl (Nat.le_of_ble_eq_true rfl) d_P_erase_2 (fun H locs hP hD hS => ?_)
  have hP : va_P (dC, dI) vC [((b 0), .inr (3, [.ref (b 1), .int (0 : Int32), .ref (b 8), .ref (b 6), .ref (b 3), .ref (b 2)])), ((b 1), .inl (cC, 160, .inl (Aa 0))), ((b 2), .inl (cI, 32, .inl (Aa 1))), ((b 3), .inr (2, [.ref (b 4), .ref (b 5)])), ((b 4), .inl (cI, 100, .inl (Aa 2))), ((b 5), .inl (cI, 6, .inl (Aa 3))), ((b 6), .inr (1, [.ref (b 7), .ref tx, .int (Fa 1), .int (Fa 2), .ref (b 14)])), ((b 7), .inl (cI, 26, .inl (Aa 4))), ((b 8), .inr (0, [.ref (b 9), .ref (b 10), .ref (b 11), .ref (b 12), .ref (b 13), .int (Fa 3), .int (Fa 4)])), ((b 9), .inl (cI, 100, .inl (Aa 5))), ((b 10), .inl (cI, 100, .inl (Aa 6))), ((b 11), .inl (cI, 100, .inl (Aa 7))), ((b 12), .inl (cI, 3, .inl (Aa 8))), ((b 13), .inl (cI, 26, .inl (Aa 9))), ((b 14), .inr (0, [.ref (b 15), .ref (b 16), .ref (b 17), .ref (b 18), .ref (b 19), .int (Fa 5), .int (Fa 6)])), ((b 15), .inl (cI, 100, .inl (Aa 10))), ((b 16), .inl (cI, 100, .inl (Aa 11))), ((b 17), .inl (cI, 100, .inl (Aa 12))), ((b 18), .inl (cI, 3, .inl (Aa 13))), ((b 19), .inl (cI, 26, .inl (Aa 14)))] H := hP
  have hD : va_D (va_A (wP b cI cC tx Fa Aa) s.heap.size) [((b 0), .inr (3, [.ref (b 1), .int (0 : Int32), .ref (b 8), .ref (b 6), .ref (b 3), .ref (b 2)])), ((b 1), .inl (cC, 160, .inl (Aa 0))), ((b 2), .inl (cI, 32, .inl (Aa 1))), ((b 3), .inr (2, [.ref (b 4), .ref (b 5)])), ((b 4), .inl (cI, 100, .inl (Aa 2))), ((b 5), .inl (cI, 6, .inl (Aa 3))), ((b 6), .inr (1, [.ref (b 7), .ref tx, .int (Fa 1), .int (Fa 2), .ref (b 14)])), ((b 7), .inl (cI, 26, .inl (Aa 4))), ((b 8), .inr (0, [.ref (b 9), .ref (b 10), .ref (b 11), .ref (b 12), .ref (b 13), .int (Fa 3), .int (Fa 4)])), ((b 9), .inl (cI, 100, .inl (Aa 5))), ((b 10), .inl (cI, 100, .inl (Aa 6))), ((b 11), .inl (cI, 100, .inl (Aa 7))), ((b 12), .inl (cI, 3, .inl (Aa 8))), ((b 13), .inl (cI, 26, .inl (Aa 9))), ((b 14), .inr (0, [.ref (b 15), .ref (b 16), .ref (b 17), .ref (b 18), .ref (b 19), .int (Fa 5), .int (Fa 6)])), ((b 15), .inl (cI, 100, .inl (Aa 10))), ((b 16), .inl (cI, 100, .inl (Aa 11))), ((b 17), .inl (cI, 100, .inl (Aa 12))), ((b 18), .inl (cI, 3, .inl (Aa 13))), ((b 19), .inl (cI, 26, .inl (Aa 14)))] := hD
  cases hf
  exact W.vret hx hb hr (fun t ht hW => ⟨⟨(), rfl, trivial, by rw [ht]; exact hP, va_K.moved hW.alike hK, hD⟩, hS.F ht⟩) hS.2.2 d_P_erase_5
def f_P_size  (Fa : ST_F) (Aa : ST_A) : Option (Int32 × ST_F × ST_A) := some ((Fa 3), Fa, Aa)
set_option maxHeartbeats 4000000 in
set_option maxRecDepth 100000 in
theorem k_P_size (l : Launch) (dC : Nat → ClassId) (dI : Nat → Nat → Nat) (b : Nat → Nat) (cI cC : ClassId) (tx : Nat) (sz : Nat) (Fa : ST_F) (Aa : ST_A)  (r0 : Int32) (F9 : ST_F) (A9 : ST_A) (hf : f_P_size  Fa Aa = some (r0, F9, A9)) : cc_MetI l y_P_size (Cond.code y_P_size b_P_size 1 (some .int) :: wA) ({ frames := 0, cells := 0, slots := 0, locals := 0 } : Room) (dC, dI) vC [(cI, .int), (cC, .char)] ([.ref (b 0)] : List Value) (wP b cI cC tx Fa Aa) sz (wP b cI cC tx F9 A9) r0 := by
  refine Met.ofW (cc := b_P_size) (maxL := 1) (ret := (some .int)) (by decide) rfl ?_
  intro p e s m args below meth c s₁ B hml hv
  obtain ⟨rfl, hsz, hP, hK, hD0⟩ := hv
  have hx := B.exec
  have hb := B.bytes
  have hr := B.returns
  have hts := fun w h => atoms_spec (ws := (Cond.code y_P_size b_P_size 1 (some .int) :: wA)) B.pre w (List.mem_cons_of_mem _ h)
  have hown : s.vm.findClass R_P = some m.cls := findClass_of_methodNamed B.named
  have hlocks := B.notSynchronized
  subst hsz
  have hD := hD0.self (sz := s.heap.size)
  have hA : ∀ q : Nat, s.heap.size ≤ q → va_A (wP b cI cC tx Fa Aa) s.heap.size q := fun q h => Or.inr h
  have hS : va_S (va_A (wP b cI cC tx Fa Aa) s.heap.size) s.heap s.heap [] := va_S.rf
  have hl := lv_entry (([.ref (b 0)] : List Value)) (n := 1) (Nat.le_of_ble_eq_true rfl)
  rw [lg_entry_eq]
  generalize (lg_sl (([.ref (b 0)] : List Value)) ++ List.replicate (1 - (lg_sl (([.ref (b 0)] : List Value))).length) Slot.unset).toArray = ls at hl ⊢
  have hl : lv_has ls 1 [(0, .ref (b 0))] := hl
  unfold f_P_size at hf
  refine lv_aload_n hx hb d_P_size_0 rfl (lv_at hl 0 rfl) ?_
  refine va_get (D := (dC, dI)) (ci := 3) (v := .ref (b 8)) (C := R_P) (T := T_P) (N := 6) hx hb hts in_P hown hK hP 0 rfl rfl 2 (by decide) (hts _ mw_107) (fun _ h9 => h9) rfl d_P_size_1 ?_
  refine va_get (D := (dC, dI)) (ci := 0) (v := .int (Fa 3)) (C := R_K) (T := T_K) (N := 7) hx hb hts in_K hown hK hP 8 rfl rfl 5 (by decide) (hts _ mw_47) (fun _ h9 => h9) rfl d_P_size_4 ?_
  cases hf
  exact W.iret hx hb hr (fun t ht hW => ⟨⟨_, (), rfl, rfl, by rw [ht]; exact hP, va_K.moved hW.alike hK, hD⟩, hS.F ht⟩) hS.2.2 d_P_size_7
def f_H_make (u1 : Int32) (u2 : Int32) (u3 : Int32) (Fa : ST_F) (Aa : ST_A) : Option (Int32 × ST_F × ST_A) := if u1 = 0 then (some (u2, Fa, Aa)) else (if u1 = (1 : Int32) then (ra_g u2 6 (some (((Aa 3) u2.toNatClampNeg), Fa, Aa))) else (ra_g u2 100 (ra_g u3 100 ((f_N_operate u1 ((Aa 2) u2.toNatClampNeg) ((Aa 2) u3.toNatClampNeg)).bind (fun r3 => some (r3, Fa, Aa))))))
set_option maxHeartbeats 4000000 in
set_option maxRecDepth 100000 in
theorem k_H_make (l : Launch) (dC : Nat → ClassId) (dI : Nat → Nat → Nat) (b : Nat → Nat) (cI cC : ClassId) (tx : Nat) (sz : Nat) (Fa : ST_F) (Aa : ST_A) (u1 : Int32) (u2 : Int32) (u3 : Int32) (r0 : Int32) (F9 : ST_F) (A9 : ST_A) (hf : f_H_make u1 u2 u3 Fa Aa = some (r0, F9, A9)) : cc_MetI l y_H_make (Cond.code y_H_make b_H_make 4 (some .int) :: wA) ({ frames := 3, cells := 0, slots := 0, locals := 64 } : Room) (dC, dI) vC [(cI, .int), (cC, .char)] ([.ref (b 3), .int u1, .int u2, .int u3] : List Value) (wP b cI cC tx Fa Aa) sz (wP b cI cC tx F9 A9) r0 := by
  refine Met.ofW (cc := b_H_make) (maxL := 4) (ret := (some .int)) (by decide) rfl ?_
  intro p e s m args below meth c s₁ B hml hv
  obtain ⟨rfl, hsz, hP, hK, hD0⟩ := hv
  have hx := B.exec
  have hb := B.bytes
  have hr := B.returns
  have hts := fun w h => atoms_spec (ws := (Cond.code y_H_make b_H_make 4 (some .int) :: wA)) B.pre w (List.mem_cons_of_mem _ h)
  have hown : s.vm.findClass R_H = some m.cls := findClass_of_methodNamed B.named
  have hlocks := B.notSynchronized
  subst hsz
  have hD := hD0.self (sz := s.heap.size)
  have hA : ∀ q : Nat, s.heap.size ≤ q → va_A (wP b cI cC tx Fa Aa) s.heap.size q := fun q h => Or.inr h
  have hS : va_S (va_A (wP b cI cC tx Fa Aa) s.heap.size) s.heap s.heap [] := va_S.rf
  have hl := lv_entry (([.ref (b 3), .int u1, .int u2, .int u3] : List Value)) (n := 4) (Nat.le_of_ble_eq_true rfl)
  rw [lg_entry_eq]
  generalize (lg_sl (([.ref (b 3), .int u1, .int u2, .int u3] : List Value)) ++ List.replicate (4 - (lg_sl (([.ref (b 3), .int u1, .int u2, .int u3] : List Value))).length) Slot.unset).toArray = ls at hl ⊢
  have hl : lv_has ls 4 [(0, .ref (b 3)), (1, .int u1), (2, .int u2), (3, .int u3)] := hl
  unfold f_H_make at hf
  refine lv_iload_n hx hb d_H_make_0 rfl (lv_at hl 1 rfl) ?_
  refine lv_if_ne (tgt := 6) hx hb d_H_make_1 (by decide) (fun h1_1 => ?_) (fun h1_1 => ?_)
  · rw [if_neg h1_1] at hf
    refine lv_iload_n hx hb d_H_make_6 rfl (lv_at hl 1 rfl) ?_
    refine lv_iconst (v := 1) hx hb d_H_make_7 (by decide) ?_
    refine lv_icmp_ne (tgt := 18) hx hb d_H_make_8 (by decide) (fun h8_2 => ?_) (fun h8_2 => ?_)
    · rw [if_neg h8_2] at hf
      refine lv_iload_n hx hb d_H_make_18 rfl (lv_at hl 1 rfl) ?_
      refine lv_aload_n hx hb d_H_make_19 rfl (lv_at hl 0 rfl) ?_
      refine va_get (D := (dC, dI)) (ci := 2) (v := .ref (b 4)) (C := R_H) (T := T_H) (N := 2) hx hb hts in_H hown hK hP 3 rfl rfl 0 (by decide) (hts _ mw_97) (fun _ h9 => h9) rfl d_H_make_20 ?_
      refine lv_iload_n hx hb d_H_make_23 rfl (lv_at hl 2 rfl) ?_
      obtain ⟨hi, hf⟩ := ra_g_some hf
      refine va_iald hx hb hK hP 4 0 rfl rfl hi d_H_make_24 ?_
      refine lv_aload_n hx hb d_H_make_25 rfl (lv_at hl 0 rfl) ?_
      refine va_get (D := (dC, dI)) (ci := 2) (v := .ref (b 4)) (C := R_H) (T := T_H) (N := 2) hx hb hts in_H hown hK hP 3 rfl rfl 0 (by decide) (hts _ mw_97) (fun _ h9 => h9) rfl d_H_make_26 ?_
      refine lv_iload_n hx hb d_H_make_29 rfl (lv_at hl 3 rfl) ?_
      obtain ⟨hi, hf⟩ := ra_g_some hf
      refine va_iald hx hb hK hP 4 0 rfl rfl hi d_H_make_30 ?_
      obtain ⟨r3, hc, hf⟩ := Option.bind_eq_some_iff.mp hf
      refine cc_calls (va_runS (As := [.int u1, .int ((Aa 2) u2.toNatClampNeg), .int ((Aa 2) u3.toNatClampNeg)]) (rest := []) ⟨hx, hb, hml, hown, hts⟩ (k_N_operate l u1 ((Aa 2) u2.toNatClampNeg) ((Aa 2) u3.toNatClampNeg) r3 hc) (cw_S 3 hts mw_443 mw_444 mw_14 mw_445 rfl rfl hd_N_operate ⟨Nat.le_of_ble_eq_true rfl, Nat.le_of_ble_eq_true rfl⟩) cc_preS rfl rfl hl.1 rfl (lv_room (Nat.le_of_ble_eq_true rfl)) d_H_make_31 ⟨Nat.zero_le _, Nat.zero_le _⟩) ?_
      cases hf
      exact W.iret hx hb hr (fun t ht hW => ⟨⟨_, (), rfl, rfl, by rw [ht]; exact hP, va_K.moved hW.alike hK, hD⟩, hS.F ht⟩) hS.2.2 d_H_make_34
    · rw [if_pos h8_2] at hf
      refine lv_aload_n hx hb d_H_make_11 rfl (lv_at hl 0 rfl) ?_
      refine va_get (D := (dC, dI)) (ci := 2) (v := .ref (b 5)) (C := R_H) (T := T_H) (N := 2) hx hb hts in_H hown hK hP 3 rfl rfl 1 (by decide) (hts _ mw_99) (fun _ h9 => h9) rfl d_H_make_12 ?_
      refine lv_iload_n hx hb d_H_make_15 rfl (lv_at hl 2 rfl) ?_
      obtain ⟨hi, hf⟩ := ra_g_some hf
      refine va_iald hx hb hK hP 5 0 rfl rfl hi d_H_make_16 ?_
      cases hf
      exact W.iret hx hb hr (fun t ht hW => ⟨⟨_, (), rfl, rfl, by rw [ht]; exact hP, va_K.moved hW.alike hK, hD⟩, hS.F ht⟩) hS.2.2 d_H_make_17
  · rw [if_pos h1_1] at hf
    refine lv_iload_n hx hb d_H_make_4 rfl (lv_at hl 2 rfl) ?_
    cases hf
    exact W.iret hx hb hr (fun t ht hW => ⟨⟨_, (), rfl, rfl, by rw [ht]; exact hP, va_K.moved hW.alike hK, hD⟩, hS.F ht⟩) hS.2.2 d_H_make_5
def f_H_work_L68 : Nat → Int32 → Int32 → Int32 → Int32 → Int32 → ST_F → ST_A → Option (ST_F × ST_A)
  | 0, _, _, _, _, _, _, _ => none
  | n + 1, x2, x3, x4, x5, x6, F, A => if (F 3) ≤ x6 then (some (F, A)) else (ra_g x6 100 (ra_g x6 100 (ra_g x6 100 (ra_bi (f_H_make ((A 5) x6.toNatClampNeg) ((A 6) x6.toNatClampNeg) ((A 7) x6.toNatClampNeg) F A) (fun r3 F3 A3 => ra_g x6 100 (f_H_work_L68 n x2 x3 x4 x5 (x6 + (1 : Int32)) F3 (va_up A3 2 (upd (A3 2) x6.toNatClampNeg r3))))))))
def f_H_work_L25 : Nat → Int32 → Int32 → Int32 → Int32 → Int32 → ST_F → ST_A → Option (ST_F × ST_A)
  | 0, _, _, _, _, _, _, _ => none
  | n + 1, x2, x3, x4, x5, x6, F, A => if (3 : Int32) ≤ x6 then (f_H_work_L68 400 x2 x3 x4 x5 (0 : Int32) F A) else (ra_g ((3 : Int32) + x6) 6 (f_H_work_L25 n x2 x3 x4 x5 (x6 + (1 : Int32)) F (va_up A 3 (upd (A 3) ((3 : Int32) + x6).toNatClampNeg (((x5 >>> (((16 : Int32) - ((8 : Int32) * x6)) &&& 31)) &&& (255 : Int32)) * (256 : Int32))))))
def f_H_work (u2 : Int32) (u3 : Int32) (u4 : Int32) (u5 : Int32) (Fa : ST_F) (Aa : ST_A) : Option (ST_F × ST_A) := ra_g (0 : Int32) 6 (ra_g (1 : Int32) 6 (ra_g (2 : Int32) 6 (f_H_work_L25 400 u2 u3 u4 u5 (0 : Int32) Fa (va_up Aa 3 (upd (upd (upd (Aa 3) (0 : Int32).toNatClampNeg u2) (1 : Int32).toNatClampNeg u3) (2 : Int32).toNatClampNeg u4)))))
set_option maxHeartbeats 4000000 in
set_option maxRecDepth 100000 in
theorem k_H_work (l : Launch) (dC : Nat → ClassId) (dI : Nat → Nat → Nat) (b : Nat → Nat) (cI cC : ClassId) (tx : Nat) (sz : Nat) (Fa : ST_F) (Aa : ST_A) (u2 : Int32) (u3 : Int32) (u4 : Int32) (u5 : Int32) (F9 : ST_F) (A9 : ST_A) (hf : f_H_work u2 u3 u4 u5 Fa Aa = some (F9, A9)) : cc_MetV l y_H_work (Cond.code y_H_work b_H_work 7 none :: wA) ({ frames := 4, cells := 0, slots := 0, locals := 87 } : Room) (dC, dI) vC [(cI, .int), (cC, .char)] ([.ref (b 3), .ref (b 8), .int u2, .int u3, .int u4, .int u5] : List Value) (wP b cI cC tx Fa Aa) sz (wP b cI cC tx F9 A9) := by
  refine Met.ofW (cc := b_H_work) (maxL := 7) (ret := none) (by decide) rfl ?_
  intro p e s m args below meth c s₁ B hml hv
  obtain ⟨rfl, hsz, hP, hK, hD0⟩ := hv
  have hx := B.exec
  have hb := B.bytes
  have hr := B.returns
  have hts := fun w h => atoms_spec (ws := (Cond.code y_H_work b_H_work 7 none :: wA)) B.pre w (List.mem_cons_of_mem _ h)
  have hown : s.vm.findClass R_H = some m.cls := findClass_of_methodNamed B.named
  have hlocks := B.notSynchronized
  subst hsz
  have hD := hD0.self (sz := s.heap.size)
  have hA : ∀ q : Nat, s.heap.size ≤ q → va_A (wP b cI cC tx Fa Aa) s.heap.size q := fun q h => Or.inr h
  have hS : va_S (va_A (wP b cI cC tx Fa Aa) s.heap.size) s.heap s.heap [] := va_S.rf
  have hl := lv_entry (([.ref (b 3), .ref (b 8), .int u2, .int u3, .int u4, .int u5] : List Value)) (n := 7) (Nat.le_of_ble_eq_true rfl)
  have L68 : ∀ (n : Nat) (x2 : Int32) (x3 : Int32) (x4 : Int32) (x5 : Int32) (x6 : Int32) (F : ST_F) (A : ST_A) (H : Heap) (locs : List Loc) (ls : Array Slot), lv_has ls 7 [(0, .ref (b 3)), (1, .ref (b 8)), (2, .int x2), (3, .int x3), (4, .int x4), (5, .int x5), (6, .int x6)] → va_P (dC, dI) vC (wP b cI cC tx F A) H → va_D (va_A (wP b cI cC tx Fa Aa) s.heap.size) (wP b cI cC tx F A) → va_S (va_A (wP b cI cC tx Fa Aa) s.heap.size) s.heap H locs → f_H_work_L68 n x2 x3 x4 x5 x6 F A = some (F9, A9) → W p l e (headSpec (Cond.code y_H_work b_H_work 7 none :: wA) ({ frames := 4, cells := 0, slots := 0, locals := 87 } : Room)).room s m ([.ref (b 3), .ref (b 8), .int u2, .int u3, .int u4, .int u5] : List Value).toArray below meth c H locs 0 0 (MQ below (cc_Qv (dC, dI) vC [(cI, .int), (cC, .char)] (wP b cI cC tx Fa Aa) s.heap.size (wP b cI cC tx F9 A9)) ([.ref (b 3), .ref (b 8), .int u2, .int u3, .int u4, .int u5] : List Value).toArray s 0 0 (va_A (wP b cI cC tx Fa Aa) s.heap.size)) (F0 m 68 ls []) := by
    intro n
    induction n with
    | zero => intro x2 x3 x4 x5 x6 F A H locs ls hl hP hD hS hf; cases hf
    | succ n ih =>
      intro x2 x3 x4 x5 x6 F A H locs ls hl hP hD hS hf
      rw [f_H_work_L68] at hf
      refine lv_iload hx hb d_H_work_68 (lv_at hl 6 rfl) ?_
      refine lv_aload_n hx hb d_H_work_70 rfl (lv_at hl 1 rfl) ?_
      refine va_get (D := (dC, dI)) (ci := 0) (v := .int (F 3)) (C := R_K) (T := T_K) (N := 7) hx hb hts in_K hown hK hP 8 rfl rfl 5 (by decide) (hts _ mw_46) (fun _ h9 => h9) rfl d_H_work_71 ?_
      refine lv_icmp_ge (tgt := 115) hx hb d_H_work_74 (by decide) (fun h74_2 => ?_) (fun h74_2 => ?_)
      · rw [if_pos h74_2] at hf
        cases hf
        exact W.vret hx hb hr (fun t ht hW => ⟨⟨(), rfl, trivial, by rw [ht]; exact hP, va_K.moved hW.alike hK, hD⟩, hS.F ht⟩) hS.2.2 d_H_work_115
      · rw [if_neg h74_2] at hf
        refine lv_aload_n hx hb d_H_work_77 rfl (lv_at hl 0 rfl) ?_
        refine va_get (D := (dC, dI)) (ci := 2) (v := .ref (b 4)) (C := R_H) (T := T_H) (N := 2) hx hb hts in_H hown hK hP 3 rfl rfl 0 (by decide) (hts _ mw_97) (fun _ h9 => h9) rfl d_H_work_78 ?_
        refine lv_iload hx hb d_H_work_81 (lv_at hl 6 rfl) ?_
        refine lv_aload_n hx hb d_H_work_83 rfl (lv_at hl 0 rfl) ?_
        refine lv_aload_n hx hb d_H_work_84 rfl (lv_at hl 1 rfl) ?_
        refine va_get (D := (dC, dI)) (ci := 0) (v := .ref (b 9)) (C := R_K) (T := T_K) (N := 7) hx hb hts in_K hown hK hP 8 rfl rfl 0 (by decide) (hts _ mw_30) (fun _ h9 => h9) rfl d_H_work_85 ?_
        refine lv_iload hx hb d_H_work_88 (lv_at hl 6 rfl) ?_
        obtain ⟨hi, hf⟩ := ra_g_some hf
        refine va_iald hx hb hK hP 9 0 rfl rfl hi d_H_work_90 ?_
        refine lv_aload_n hx hb d_H_work_91 rfl (lv_at hl 1 rfl) ?_
        refine va_get (D := (dC, dI)) (ci := 0) (v := .ref (b 10)) (C := R_K) (T := T_K) (N := 7) hx hb hts in_K hown hK hP 8 rfl rfl 1 (by decide) (hts _ mw_33) (fun _ h9 => h9) rfl d_H_work_92 ?_
        refine lv_iload hx hb d_H_work_95 (lv_at hl 6 rfl) ?_
        obtain ⟨hi, hf⟩ := ra_g_some hf
        refine va_iald hx hb hK hP 10 0 rfl rfl hi d_H_work_97 ?_
        refine lv_aload_n hx hb d_H_work_98 rfl (lv_at hl 1 rfl) ?_
        refine va_get (D := (dC, dI)) (ci := 0) (v := .ref (b 11)) (C := R_K) (T := T_K) (N := 7) hx hb hts in_K hown hK hP 8 rfl rfl 2 (by decide) (hts _ mw_36) (fun _ h9 => h9) rfl d_H_work_99 ?_
        refine lv_iload hx hb d_H_work_102 (lv_at hl 6 rfl) ?_
        obtain ⟨hi, hf⟩ := ra_g_some hf
        refine va_iald hx hb hK hP 11 0 rfl rfl hi d_H_work_104 ?_
        have hP : va_P (dC, dI) vC (wP b cI cC tx F A) H := hP
        have hD : va_D (va_A (wP b cI cC tx Fa Aa) s.heap.size) (wP b cI cC tx F A) := hD
        obtain ⟨r3, F3, A3, hc, hf⟩ := ra_bi_some hf
        refine cc_calli (va_runV (As := [.int ((A 5) x6.toNatClampNeg), .int ((A 6) x6.toNatClampNeg), .int ((A 7) x6.toNatClampNeg)]) (rest := [.int x6, .ref (b 4)]) ⟨hx, hb, hml, hown, hts⟩ (k_H_make l dC dI b cI cC tx H.size F A ((A 5) x6.toNatClampNeg) ((A 6) x6.toNatClampNeg) ((A 7) x6.toNatClampNeg) r3 F3 A3 hc) (cw_V 3 hts mw_439 mw_441 ms_H_make mw_4 mw_442 rfl rfl rfl hd_H_make ⟨Nat.le_of_ble_eq_true rfl, Nat.le_of_ble_eq_true rfl⟩) (cc_preV hK hP hD rfl (q0 := 3) rfl) rfl rfl hl.1 rfl (lv_room (Nat.le_of_ble_eq_true rfl)) d_H_work_105 ⟨Nat.zero_le _, Nat.zero_le _⟩) hD hS hA (fun H locs hP hD hS => ?_)
        obtain ⟨hi, hf⟩ := ra_g_some hf
        refine va_iast hx hb hK hP hD hS 4 0 rfl rfl hi d_H_work_108 (fun H locs hP hD hS => ?_)
        have hP : va_P (dC, dI) vC [((b 0), .inr (3, [.ref (b 1), .int (F3 0), .ref (b 8), .ref (b 6), .ref (b 3), .ref (b 2)])), ((b 1), .inl (cC, 160, .inl (A3 0))), ((b 2), .inl (cI, 32, .inl (A3 1))), ((b 3), .inr (2, [.ref (b 4), .ref (b 5)])), ((b 4), .inl (cI, 100, .inl (upd (A3 2) x6.toNatClampNeg r3))), ((b 5), .inl (cI, 6, .inl (A3 3))), ((b 6), .inr (1, [.ref (b 7), .ref tx, .int (F3 1), .int (F3 2), .ref (b 14)])), ((b 7), .inl (cI, 26, .inl (A3 4))), ((b 8), .inr (0, [.ref (b 9), .ref (b 10), .ref (b 11), .ref (b 12), .ref (b 13), .int (F3 3), .int (F3 4)])), ((b 9), .inl (cI, 100, .inl (A3 5))), ((b 10), .inl (cI, 100, .inl (A3 6))), ((b 11), .inl (cI, 100, .inl (A3 7))), ((b 12), .inl (cI, 3, .inl (A3 8))), ((b 13), .inl (cI, 26, .inl (A3 9))), ((b 14), .inr (0, [.ref (b 15), .ref (b 16), .ref (b 17), .ref (b 18), .ref (b 19), .int (F3 5), .int (F3 6)])), ((b 15), .inl (cI, 100, .inl (A3 10))), ((b 16), .inl (cI, 100, .inl (A3 11))), ((b 17), .inl (cI, 100, .inl (A3 12))), ((b 18), .inl (cI, 3, .inl (A3 13))), ((b 19), .inl (cI, 26, .inl (A3 14)))] H := hP
        have hD : va_D (va_A (wP b cI cC tx Fa Aa) s.heap.size) [((b 0), .inr (3, [.ref (b 1), .int (F3 0), .ref (b 8), .ref (b 6), .ref (b 3), .ref (b 2)])), ((b 1), .inl (cC, 160, .inl (A3 0))), ((b 2), .inl (cI, 32, .inl (A3 1))), ((b 3), .inr (2, [.ref (b 4), .ref (b 5)])), ((b 4), .inl (cI, 100, .inl (upd (A3 2) x6.toNatClampNeg r3))), ((b 5), .inl (cI, 6, .inl (A3 3))), ((b 6), .inr (1, [.ref (b 7), .ref tx, .int (F3 1), .int (F3 2), .ref (b 14)])), ((b 7), .inl (cI, 26, .inl (A3 4))), ((b 8), .inr (0, [.ref (b 9), .ref (b 10), .ref (b 11), .ref (b 12), .ref (b 13), .int (F3 3), .int (F3 4)])), ((b 9), .inl (cI, 100, .inl (A3 5))), ((b 10), .inl (cI, 100, .inl (A3 6))), ((b 11), .inl (cI, 100, .inl (A3 7))), ((b 12), .inl (cI, 3, .inl (A3 8))), ((b 13), .inl (cI, 26, .inl (A3 9))), ((b 14), .inr (0, [.ref (b 15), .ref (b 16), .ref (b 17), .ref (b 18), .ref (b 19), .int (F3 5), .int (F3 6)])), ((b 15), .inl (cI, 100, .inl (A3 10))), ((b 16), .inl (cI, 100, .inl (A3 11))), ((b 17), .inl (cI, 100, .inl (A3 12))), ((b 18), .inl (cI, 3, .inl (A3 13))), ((b 19), .inl (cI, 26, .inl (A3 14)))] := hD
        refine lv_iinc (k := 6) (v := (x6 + (1 : Int32))) hx hb d_H_work_109 hl rfl (by rfl) (by decide) rfl (fun ls hl => ?_)
        have hl : lv_has ls 7 [(6, .int (x6 + (1 : Int32))), (0, .ref (b 3)), (1, .ref (b 8)), (2, .int x2), (3, .int x3), (4, .int x4), (5, .int x5)] := hl
        refine lv_goto (tgt := 68) hx hb d_H_work_112 (by decide) ?_
        have hl : lv_has ls 7 [(0, .ref (b 3)), (1, .ref (b 8)), (2, .int x2), (3, .int x3), (4, .int x4), (5, .int x5), (6, .int (x6 + (1 : Int32)))] := lv_sub hl [1, 2, 3, 4, 5, 6, 0] rfl
        exact ih x2 x3 x4 x5 (x6 + (1 : Int32)) F3 (va_up A3 2 (upd (A3 2) x6.toNatClampNeg r3)) _ _ _ hl hP hD hS hf
  have L25 : ∀ (n : Nat) (x2 : Int32) (x3 : Int32) (x4 : Int32) (x5 : Int32) (x6 : Int32) (F : ST_F) (A : ST_A) (H : Heap) (locs : List Loc) (ls : Array Slot), lv_has ls 7 [(0, .ref (b 3)), (1, .ref (b 8)), (2, .int x2), (3, .int x3), (4, .int x4), (5, .int x5), (6, .int x6)] → va_P (dC, dI) vC (wP b cI cC tx F A) H → va_D (va_A (wP b cI cC tx Fa Aa) s.heap.size) (wP b cI cC tx F A) → va_S (va_A (wP b cI cC tx Fa Aa) s.heap.size) s.heap H locs → f_H_work_L25 n x2 x3 x4 x5 x6 F A = some (F9, A9) → W p l e (headSpec (Cond.code y_H_work b_H_work 7 none :: wA) ({ frames := 4, cells := 0, slots := 0, locals := 87 } : Room)).room s m ([.ref (b 3), .ref (b 8), .int u2, .int u3, .int u4, .int u5] : List Value).toArray below meth c H locs 0 0 (MQ below (cc_Qv (dC, dI) vC [(cI, .int), (cC, .char)] (wP b cI cC tx Fa Aa) s.heap.size (wP b cI cC tx F9 A9)) ([.ref (b 3), .ref (b 8), .int u2, .int u3, .int u4, .int u5] : List Value).toArray s 0 0 (va_A (wP b cI cC tx Fa Aa) s.heap.size)) (F0 m 25 ls []) := by
    intro n
    induction n with
    | zero => intro x2 x3 x4 x5 x6 F A H locs ls hl hP hD hS hf; cases hf
    | succ n ih =>
      intro x2 x3 x4 x5 x6 F A H locs ls hl hP hD hS hf
      rw [f_H_work_L25] at hf
      refine lv_iload hx hb d_H_work_25 (lv_at hl 6 rfl) ?_
      refine lv_iconst (v := 3) hx hb d_H_work_27 (by decide) ?_
      refine lv_icmp_ge (tgt := 65) hx hb d_H_work_28 (by decide) (fun h28_1 => ?_) (fun h28_1 => ?_)
      · rw [if_pos h28_1] at hf
        refine lv_iconst (v := 0) hx hb d_H_work_65 (by decide) ?_
        refine lv_istore hx hb d_H_work_66 hl (by decide) rfl (fun ls hl => ?_)
        have hl : lv_has ls 7 [(6, .int (0 : Int32)), (0, .ref (b 3)), (1, .ref (b 8)), (2, .int x2), (3, .int x3), (4, .int x4), (5, .int x5)] := hl
        have hl : lv_has ls 7 [(0, .ref (b 3)), (1, .ref (b 8)), (2, .int x2), (3, .int x3), (4, .int x4), (5, .int x5), (6, .int (0 : Int32))] := lv_sub hl [1, 2, 3, 4, 5, 6, 0] rfl
        exact L68 400 x2 x3 x4 x5 (0 : Int32) F A _ _ _ hl hP hD hS hf
      · rw [if_neg h28_1] at hf
        refine lv_aload_n hx hb d_H_work_31 rfl (lv_at hl 0 rfl) ?_
        refine va_get (D := (dC, dI)) (ci := 2) (v := .ref (b 5)) (C := R_H) (T := T_H) (N := 2) hx hb hts in_H hown hK hP 3 rfl rfl 1 (by decide) (hts _ mw_99) (fun _ h9 => h9) rfl d_H_work_32 ?_
        refine lv_iconst (v := 3) hx hb d_H_work_35 (by decide) ?_
        refine lv_iload hx hb d_H_work_36 (lv_at hl 6 rfl) ?_
        refine lv_iadd hx hb d_H_work_38 ?_
        refine lv_iload hx hb d_H_work_39 (lv_at hl 5 rfl) ?_
        refine lv_bipush (v := 16) hx hb d_H_work_41 (by decide) ?_
        refine lv_bipush (v := 8) hx hb d_H_work_43 (by decide) ?_
        refine lv_iload hx hb d_H_work_45 (lv_at hl 6 rfl) ?_
        refine lv_imul hx hb d_H_work_47 ?_
        refine lv_isub hx hb d_H_work_48 ?_
        refine lv_ishr hx hb d_H_work_49 ?_
        refine lv_sipush (v := 255) hx hb d_H_work_50 (by decide) ?_
        refine lv_iand hx hb d_H_work_53 ?_
        refine lv_sipush (v := 256) hx hb d_H_work_54 (by decide) ?_
        refine lv_imul hx hb d_H_work_57 ?_
        obtain ⟨hi, hf⟩ := ra_g_some hf
        refine va_iast hx hb hK hP hD hS 5 0 rfl rfl hi d_H_work_58 (fun H locs hP hD hS => ?_)
        have hP : va_P (dC, dI) vC [((b 0), .inr (3, [.ref (b 1), .int (F 0), .ref (b 8), .ref (b 6), .ref (b 3), .ref (b 2)])), ((b 1), .inl (cC, 160, .inl (A 0))), ((b 2), .inl (cI, 32, .inl (A 1))), ((b 3), .inr (2, [.ref (b 4), .ref (b 5)])), ((b 4), .inl (cI, 100, .inl (A 2))), ((b 5), .inl (cI, 6, .inl (upd (A 3) ((3 : Int32) + x6).toNatClampNeg (((x5 >>> (((16 : Int32) - ((8 : Int32) * x6)) &&& 31)) &&& (255 : Int32)) * (256 : Int32))))), ((b 6), .inr (1, [.ref (b 7), .ref tx, .int (F 1), .int (F 2), .ref (b 14)])), ((b 7), .inl (cI, 26, .inl (A 4))), ((b 8), .inr (0, [.ref (b 9), .ref (b 10), .ref (b 11), .ref (b 12), .ref (b 13), .int (F 3), .int (F 4)])), ((b 9), .inl (cI, 100, .inl (A 5))), ((b 10), .inl (cI, 100, .inl (A 6))), ((b 11), .inl (cI, 100, .inl (A 7))), ((b 12), .inl (cI, 3, .inl (A 8))), ((b 13), .inl (cI, 26, .inl (A 9))), ((b 14), .inr (0, [.ref (b 15), .ref (b 16), .ref (b 17), .ref (b 18), .ref (b 19), .int (F 5), .int (F 6)])), ((b 15), .inl (cI, 100, .inl (A 10))), ((b 16), .inl (cI, 100, .inl (A 11))), ((b 17), .inl (cI, 100, .inl (A 12))), ((b 18), .inl (cI, 3, .inl (A 13))), ((b 19), .inl (cI, 26, .inl (A 14)))] H := hP
        have hD : va_D (va_A (wP b cI cC tx Fa Aa) s.heap.size) [((b 0), .inr (3, [.ref (b 1), .int (F 0), .ref (b 8), .ref (b 6), .ref (b 3), .ref (b 2)])), ((b 1), .inl (cC, 160, .inl (A 0))), ((b 2), .inl (cI, 32, .inl (A 1))), ((b 3), .inr (2, [.ref (b 4), .ref (b 5)])), ((b 4), .inl (cI, 100, .inl (A 2))), ((b 5), .inl (cI, 6, .inl (upd (A 3) ((3 : Int32) + x6).toNatClampNeg (((x5 >>> (((16 : Int32) - ((8 : Int32) * x6)) &&& 31)) &&& (255 : Int32)) * (256 : Int32))))), ((b 6), .inr (1, [.ref (b 7), .ref tx, .int (F 1), .int (F 2), .ref (b 14)])), ((b 7), .inl (cI, 26, .inl (A 4))), ((b 8), .inr (0, [.ref (b 9), .ref (b 10), .ref (b 11), .ref (b 12), .ref (b 13), .int (F 3), .int (F 4)])), ((b 9), .inl (cI, 100, .inl (A 5))), ((b 10), .inl (cI, 100, .inl (A 6))), ((b 11), .inl (cI, 100, .inl (A 7))), ((b 12), .inl (cI, 3, .inl (A 8))), ((b 13), .inl (cI, 26, .inl (A 9))), ((b 14), .inr (0, [.ref (b 15), .ref (b 16), .ref (b 17), .ref (b 18), .ref (b 19), .int (F 5), .int (F 6)])), ((b 15), .inl (cI, 100, .inl (A 10))), ((b 16), .inl (cI, 100, .inl (A 11))), ((b 17), .inl (cI, 100, .inl (A 12))), ((b 18), .inl (cI, 3, .inl (A 13))), ((b 19), .inl (cI, 26, .inl (A 14)))] := hD
        refine lv_iinc (k := 6) (v := (x6 + (1 : Int32))) hx hb d_H_work_59 hl rfl (by rfl) (by decide) rfl (fun ls hl => ?_)
        have hl : lv_has ls 7 [(6, .int (x6 + (1 : Int32))), (0, .ref (b 3)), (1, .ref (b 8)), (2, .int x2), (3, .int x3), (4, .int x4), (5, .int x5)] := hl
        refine lv_goto (tgt := 25) hx hb d_H_work_62 (by decide) ?_
        have hl : lv_has ls 7 [(0, .ref (b 3)), (1, .ref (b 8)), (2, .int x2), (3, .int x3), (4, .int x4), (5, .int x5), (6, .int (x6 + (1 : Int32)))] := lv_sub hl [1, 2, 3, 4, 5, 6, 0] rfl
        exact ih x2 x3 x4 x5 (x6 + (1 : Int32)) F (va_up A 3 (upd (A 3) ((3 : Int32) + x6).toNatClampNeg (((x5 >>> (((16 : Int32) - ((8 : Int32) * x6)) &&& 31)) &&& (255 : Int32)) * (256 : Int32)))) _ _ _ hl hP hD hS hf
  rw [lg_entry_eq]
  generalize (lg_sl (([.ref (b 3), .ref (b 8), .int u2, .int u3, .int u4, .int u5] : List Value)) ++ List.replicate (7 - (lg_sl (([.ref (b 3), .ref (b 8), .int u2, .int u3, .int u4, .int u5] : List Value))).length) Slot.unset).toArray = ls at hl ⊢
  have hl : lv_has ls 7 [(0, .ref (b 3)), (1, .ref (b 8)), (2, .int u2), (3, .int u3), (4, .int u4), (5, .int u5)] := hl
  unfold f_H_work at hf
  refine lv_aload_n hx hb d_H_work_0 rfl (lv_at hl 0 rfl) ?_
  refine va_get (D := (dC, dI)) (ci := 2) (v := .ref (b 5)) (C := R_H) (T := T_H) (N := 2) hx hb hts in_H hown hK hP 3 rfl rfl 1 (by decide) (hts _ mw_99) (fun _ h9 => h9) rfl d_H_work_1 ?_
  refine lv_iconst (v := 0) hx hb d_H_work_4 (by decide) ?_
  refine lv_iload_n hx hb d_H_work_5 rfl (lv_at hl 2 rfl) ?_
  obtain ⟨hi, hf⟩ := ra_g_some hf
  refine va_iast hx hb hK hP hD hS 5 0 rfl rfl hi d_H_work_6 (fun H locs hP hD hS => ?_)
  have hP : va_P (dC, dI) vC [((b 0), .inr (3, [.ref (b 1), .int (Fa 0), .ref (b 8), .ref (b 6), .ref (b 3), .ref (b 2)])), ((b 1), .inl (cC, 160, .inl (Aa 0))), ((b 2), .inl (cI, 32, .inl (Aa 1))), ((b 3), .inr (2, [.ref (b 4), .ref (b 5)])), ((b 4), .inl (cI, 100, .inl (Aa 2))), ((b 5), .inl (cI, 6, .inl (upd (Aa 3) (0 : Int32).toNatClampNeg u2))), ((b 6), .inr (1, [.ref (b 7), .ref tx, .int (Fa 1), .int (Fa 2), .ref (b 14)])), ((b 7), .inl (cI, 26, .inl (Aa 4))), ((b 8), .inr (0, [.ref (b 9), .ref (b 10), .ref (b 11), .ref (b 12), .ref (b 13), .int (Fa 3), .int (Fa 4)])), ((b 9), .inl (cI, 100, .inl (Aa 5))), ((b 10), .inl (cI, 100, .inl (Aa 6))), ((b 11), .inl (cI, 100, .inl (Aa 7))), ((b 12), .inl (cI, 3, .inl (Aa 8))), ((b 13), .inl (cI, 26, .inl (Aa 9))), ((b 14), .inr (0, [.ref (b 15), .ref (b 16), .ref (b 17), .ref (b 18), .ref (b 19), .int (Fa 5), .int (Fa 6)])), ((b 15), .inl (cI, 100, .inl (Aa 10))), ((b 16), .inl (cI, 100, .inl (Aa 11))), ((b 17), .inl (cI, 100, .inl (Aa 12))), ((b 18), .inl (cI, 3, .inl (Aa 13))), ((b 19), .inl (cI, 26, .inl (Aa 14)))] H := hP
  have hD : va_D (va_A (wP b cI cC tx Fa Aa) s.heap.size) [((b 0), .inr (3, [.ref (b 1), .int (Fa 0), .ref (b 8), .ref (b 6), .ref (b 3), .ref (b 2)])), ((b 1), .inl (cC, 160, .inl (Aa 0))), ((b 2), .inl (cI, 32, .inl (Aa 1))), ((b 3), .inr (2, [.ref (b 4), .ref (b 5)])), ((b 4), .inl (cI, 100, .inl (Aa 2))), ((b 5), .inl (cI, 6, .inl (upd (Aa 3) (0 : Int32).toNatClampNeg u2))), ((b 6), .inr (1, [.ref (b 7), .ref tx, .int (Fa 1), .int (Fa 2), .ref (b 14)])), ((b 7), .inl (cI, 26, .inl (Aa 4))), ((b 8), .inr (0, [.ref (b 9), .ref (b 10), .ref (b 11), .ref (b 12), .ref (b 13), .int (Fa 3), .int (Fa 4)])), ((b 9), .inl (cI, 100, .inl (Aa 5))), ((b 10), .inl (cI, 100, .inl (Aa 6))), ((b 11), .inl (cI, 100, .inl (Aa 7))), ((b 12), .inl (cI, 3, .inl (Aa 8))), ((b 13), .inl (cI, 26, .inl (Aa 9))), ((b 14), .inr (0, [.ref (b 15), .ref (b 16), .ref (b 17), .ref (b 18), .ref (b 19), .int (Fa 5), .int (Fa 6)])), ((b 15), .inl (cI, 100, .inl (Aa 10))), ((b 16), .inl (cI, 100, .inl (Aa 11))), ((b 17), .inl (cI, 100, .inl (Aa 12))), ((b 18), .inl (cI, 3, .inl (Aa 13))), ((b 19), .inl (cI, 26, .inl (Aa 14)))] := hD
  refine lv_aload_n hx hb d_H_work_7 rfl (lv_at hl 0 rfl) ?_
  refine va_get (D := (dC, dI)) (ci := 2) (v := .ref (b 5)) (C := R_H) (T := T_H) (N := 2) hx hb hts in_H hown hK hP 3 rfl rfl 1 (by decide) (hts _ mw_99) (fun _ h9 => h9) rfl d_H_work_8 ?_
  refine lv_iconst (v := 1) hx hb d_H_work_11 (by decide) ?_
  refine lv_iload_n hx hb d_H_work_12 rfl (lv_at hl 3 rfl) ?_
  obtain ⟨hi, hf⟩ := ra_g_some hf
  refine va_iast hx hb hK hP hD hS 5 0 rfl rfl hi d_H_work_13 (fun H locs hP hD hS => ?_)
  have hP : va_P (dC, dI) vC [((b 0), .inr (3, [.ref (b 1), .int (Fa 0), .ref (b 8), .ref (b 6), .ref (b 3), .ref (b 2)])), ((b 1), .inl (cC, 160, .inl (Aa 0))), ((b 2), .inl (cI, 32, .inl (Aa 1))), ((b 3), .inr (2, [.ref (b 4), .ref (b 5)])), ((b 4), .inl (cI, 100, .inl (Aa 2))), ((b 5), .inl (cI, 6, .inl (upd (upd (Aa 3) (0 : Int32).toNatClampNeg u2) (1 : Int32).toNatClampNeg u3))), ((b 6), .inr (1, [.ref (b 7), .ref tx, .int (Fa 1), .int (Fa 2), .ref (b 14)])), ((b 7), .inl (cI, 26, .inl (Aa 4))), ((b 8), .inr (0, [.ref (b 9), .ref (b 10), .ref (b 11), .ref (b 12), .ref (b 13), .int (Fa 3), .int (Fa 4)])), ((b 9), .inl (cI, 100, .inl (Aa 5))), ((b 10), .inl (cI, 100, .inl (Aa 6))), ((b 11), .inl (cI, 100, .inl (Aa 7))), ((b 12), .inl (cI, 3, .inl (Aa 8))), ((b 13), .inl (cI, 26, .inl (Aa 9))), ((b 14), .inr (0, [.ref (b 15), .ref (b 16), .ref (b 17), .ref (b 18), .ref (b 19), .int (Fa 5), .int (Fa 6)])), ((b 15), .inl (cI, 100, .inl (Aa 10))), ((b 16), .inl (cI, 100, .inl (Aa 11))), ((b 17), .inl (cI, 100, .inl (Aa 12))), ((b 18), .inl (cI, 3, .inl (Aa 13))), ((b 19), .inl (cI, 26, .inl (Aa 14)))] H := hP
  have hD : va_D (va_A (wP b cI cC tx Fa Aa) s.heap.size) [((b 0), .inr (3, [.ref (b 1), .int (Fa 0), .ref (b 8), .ref (b 6), .ref (b 3), .ref (b 2)])), ((b 1), .inl (cC, 160, .inl (Aa 0))), ((b 2), .inl (cI, 32, .inl (Aa 1))), ((b 3), .inr (2, [.ref (b 4), .ref (b 5)])), ((b 4), .inl (cI, 100, .inl (Aa 2))), ((b 5), .inl (cI, 6, .inl (upd (upd (Aa 3) (0 : Int32).toNatClampNeg u2) (1 : Int32).toNatClampNeg u3))), ((b 6), .inr (1, [.ref (b 7), .ref tx, .int (Fa 1), .int (Fa 2), .ref (b 14)])), ((b 7), .inl (cI, 26, .inl (Aa 4))), ((b 8), .inr (0, [.ref (b 9), .ref (b 10), .ref (b 11), .ref (b 12), .ref (b 13), .int (Fa 3), .int (Fa 4)])), ((b 9), .inl (cI, 100, .inl (Aa 5))), ((b 10), .inl (cI, 100, .inl (Aa 6))), ((b 11), .inl (cI, 100, .inl (Aa 7))), ((b 12), .inl (cI, 3, .inl (Aa 8))), ((b 13), .inl (cI, 26, .inl (Aa 9))), ((b 14), .inr (0, [.ref (b 15), .ref (b 16), .ref (b 17), .ref (b 18), .ref (b 19), .int (Fa 5), .int (Fa 6)])), ((b 15), .inl (cI, 100, .inl (Aa 10))), ((b 16), .inl (cI, 100, .inl (Aa 11))), ((b 17), .inl (cI, 100, .inl (Aa 12))), ((b 18), .inl (cI, 3, .inl (Aa 13))), ((b 19), .inl (cI, 26, .inl (Aa 14)))] := hD
  refine lv_aload_n hx hb d_H_work_14 rfl (lv_at hl 0 rfl) ?_
  refine va_get (D := (dC, dI)) (ci := 2) (v := .ref (b 5)) (C := R_H) (T := T_H) (N := 2) hx hb hts in_H hown hK hP 3 rfl rfl 1 (by decide) (hts _ mw_99) (fun _ h9 => h9) rfl d_H_work_15 ?_
  refine lv_iconst (v := 2) hx hb d_H_work_18 (by decide) ?_
  refine lv_iload hx hb d_H_work_19 (lv_at hl 4 rfl) ?_
  obtain ⟨hi, hf⟩ := ra_g_some hf
  refine va_iast hx hb hK hP hD hS 5 0 rfl rfl hi d_H_work_21 (fun H locs hP hD hS => ?_)
  have hP : va_P (dC, dI) vC [((b 0), .inr (3, [.ref (b 1), .int (Fa 0), .ref (b 8), .ref (b 6), .ref (b 3), .ref (b 2)])), ((b 1), .inl (cC, 160, .inl (Aa 0))), ((b 2), .inl (cI, 32, .inl (Aa 1))), ((b 3), .inr (2, [.ref (b 4), .ref (b 5)])), ((b 4), .inl (cI, 100, .inl (Aa 2))), ((b 5), .inl (cI, 6, .inl (upd (upd (upd (Aa 3) (0 : Int32).toNatClampNeg u2) (1 : Int32).toNatClampNeg u3) (2 : Int32).toNatClampNeg u4))), ((b 6), .inr (1, [.ref (b 7), .ref tx, .int (Fa 1), .int (Fa 2), .ref (b 14)])), ((b 7), .inl (cI, 26, .inl (Aa 4))), ((b 8), .inr (0, [.ref (b 9), .ref (b 10), .ref (b 11), .ref (b 12), .ref (b 13), .int (Fa 3), .int (Fa 4)])), ((b 9), .inl (cI, 100, .inl (Aa 5))), ((b 10), .inl (cI, 100, .inl (Aa 6))), ((b 11), .inl (cI, 100, .inl (Aa 7))), ((b 12), .inl (cI, 3, .inl (Aa 8))), ((b 13), .inl (cI, 26, .inl (Aa 9))), ((b 14), .inr (0, [.ref (b 15), .ref (b 16), .ref (b 17), .ref (b 18), .ref (b 19), .int (Fa 5), .int (Fa 6)])), ((b 15), .inl (cI, 100, .inl (Aa 10))), ((b 16), .inl (cI, 100, .inl (Aa 11))), ((b 17), .inl (cI, 100, .inl (Aa 12))), ((b 18), .inl (cI, 3, .inl (Aa 13))), ((b 19), .inl (cI, 26, .inl (Aa 14)))] H := hP
  have hD : va_D (va_A (wP b cI cC tx Fa Aa) s.heap.size) [((b 0), .inr (3, [.ref (b 1), .int (Fa 0), .ref (b 8), .ref (b 6), .ref (b 3), .ref (b 2)])), ((b 1), .inl (cC, 160, .inl (Aa 0))), ((b 2), .inl (cI, 32, .inl (Aa 1))), ((b 3), .inr (2, [.ref (b 4), .ref (b 5)])), ((b 4), .inl (cI, 100, .inl (Aa 2))), ((b 5), .inl (cI, 6, .inl (upd (upd (upd (Aa 3) (0 : Int32).toNatClampNeg u2) (1 : Int32).toNatClampNeg u3) (2 : Int32).toNatClampNeg u4))), ((b 6), .inr (1, [.ref (b 7), .ref tx, .int (Fa 1), .int (Fa 2), .ref (b 14)])), ((b 7), .inl (cI, 26, .inl (Aa 4))), ((b 8), .inr (0, [.ref (b 9), .ref (b 10), .ref (b 11), .ref (b 12), .ref (b 13), .int (Fa 3), .int (Fa 4)])), ((b 9), .inl (cI, 100, .inl (Aa 5))), ((b 10), .inl (cI, 100, .inl (Aa 6))), ((b 11), .inl (cI, 100, .inl (Aa 7))), ((b 12), .inl (cI, 3, .inl (Aa 8))), ((b 13), .inl (cI, 26, .inl (Aa 9))), ((b 14), .inr (0, [.ref (b 15), .ref (b 16), .ref (b 17), .ref (b 18), .ref (b 19), .int (Fa 5), .int (Fa 6)])), ((b 15), .inl (cI, 100, .inl (Aa 10))), ((b 16), .inl (cI, 100, .inl (Aa 11))), ((b 17), .inl (cI, 100, .inl (Aa 12))), ((b 18), .inl (cI, 3, .inl (Aa 13))), ((b 19), .inl (cI, 26, .inl (Aa 14)))] := hD
  refine lv_iconst (v := 0) hx hb d_H_work_22 (by decide) ?_
  refine lv_istore hx hb d_H_work_23 hl (by decide) rfl (fun ls hl => ?_)
  have hl : lv_has ls 7 [(6, .int (0 : Int32)), (0, .ref (b 3)), (1, .ref (b 8)), (2, .int u2), (3, .int u3), (4, .int u4), (5, .int u5)] := hl
  have hl : lv_has ls 7 [(0, .ref (b 3)), (1, .ref (b 8)), (2, .int u2), (3, .int u3), (4, .int u4), (5, .int u5), (6, .int (0 : Int32))] := lv_sub hl [1, 2, 3, 4, 5, 6, 0] rfl
  exact L25 400 u2 u3 u4 u5 (0 : Int32) Fa (va_up Aa 3 (upd (upd (upd (Aa 3) (0 : Int32).toNatClampNeg u2) (1 : Int32).toNatClampNeg u3) (2 : Int32).toNatClampNeg u4)) _ _ _ hl hP hD hS hf
def f_H_colorOf_L4 : Nat → Int32 → Int32 → ST_F → ST_A → Option (Int32 × ST_F × ST_A)
  | 0, _, _, _, _ => none
  | n + 1, x2, x3, F, A => if (3 : Int32) ≤ x3 then (some (x2, F, A)) else (ra_g x3 3 (ra_g ((A 8) x3.toNatClampNeg) 100 (f_H_colorOf_L4 n ((x2 <<< ((8 : Int32) &&& 31)) ||| (if (0 : Int32) < (if (((A 2) ((A 8) x3.toNatClampNeg).toNatClampNeg) >>> ((8 : Int32) &&& 31)) < (255 : Int32) then (((A 2) ((A 8) x3.toNatClampNeg).toNatClampNeg) >>> ((8 : Int32) &&& 31)) else (255 : Int32)) then (if (((A 2) ((A 8) x3.toNatClampNeg).toNatClampNeg) >>> ((8 : Int32) &&& 31)) < (255 : Int32) then (((A 2) ((A 8) x3.toNatClampNeg).toNatClampNeg) >>> ((8 : Int32) &&& 31)) else (255 : Int32)) else (0 : Int32))) (x3 + (1 : Int32)) F A)))
def f_H_colorOf  (Fa : ST_F) (Aa : ST_A) : Option (Int32 × ST_F × ST_A) := f_H_colorOf_L4 400 (0 : Int32) (0 : Int32) Fa Aa
set_option maxHeartbeats 4000000 in
set_option maxRecDepth 100000 in
theorem k_H_colorOf (l : Launch) (dC : Nat → ClassId) (dI : Nat → Nat → Nat) (b : Nat → Nat) (cI cC : ClassId) (tx : Nat) (sz : Nat) (Fa : ST_F) (Aa : ST_A)  (r0 : Int32) (F9 : ST_F) (A9 : ST_A) (hf : f_H_colorOf  Fa Aa = some (r0, F9, A9)) : cc_MetI l y_H_colorOf (Cond.code y_H_colorOf b_H_colorOf 5 (some .int) :: wA) ({ frames := 1, cells := 0, slots := 0, locals := 21 } : Room) (dC, dI) vC [(cI, .int), (cC, .char)] ([.ref (b 3), .ref (b 8)] : List Value) (wP b cI cC tx Fa Aa) sz (wP b cI cC tx F9 A9) r0 := by
  refine Met.ofW (cc := b_H_colorOf) (maxL := 5) (ret := (some .int)) (by decide) rfl ?_
  intro p e s m args below meth c s₁ B hml hv
  obtain ⟨rfl, hsz, hP, hK, hD0⟩ := hv
  have hx := B.exec
  have hb := B.bytes
  have hr := B.returns
  have hts := fun w h => atoms_spec (ws := (Cond.code y_H_colorOf b_H_colorOf 5 (some .int) :: wA)) B.pre w (List.mem_cons_of_mem _ h)
  have hown : s.vm.findClass R_H = some m.cls := findClass_of_methodNamed B.named
  have hlocks := B.notSynchronized
  subst hsz
  have hD := hD0.self (sz := s.heap.size)
  have hA : ∀ q : Nat, s.heap.size ≤ q → va_A (wP b cI cC tx Fa Aa) s.heap.size q := fun q h => Or.inr h
  have hS : va_S (va_A (wP b cI cC tx Fa Aa) s.heap.size) s.heap s.heap [] := va_S.rf
  have hl := lv_entry (([.ref (b 3), .ref (b 8)] : List Value)) (n := 5) (Nat.le_of_ble_eq_true rfl)
  have L4 : ∀ (n : Nat) (x2 : Int32) (x3 : Int32) (F : ST_F) (A : ST_A) (H : Heap) (locs : List Loc) (ls : Array Slot), lv_has ls 5 [(0, .ref (b 3)), (1, .ref (b 8)), (2, .int x2), (3, .int x3)] → va_P (dC, dI) vC (wP b cI cC tx F A) H → va_D (va_A (wP b cI cC tx Fa Aa) s.heap.size) (wP b cI cC tx F A) → va_S (va_A (wP b cI cC tx Fa Aa) s.heap.size) s.heap H locs → f_H_colorOf_L4 n x2 x3 F A = some (r0, F9, A9) → W p l e (headSpec (Cond.code y_H_colorOf b_H_colorOf 5 (some .int) :: wA) ({ frames := 1, cells := 0, slots := 0, locals := 21 } : Room)).room s m ([.ref (b 3), .ref (b 8)] : List Value).toArray below meth c H locs 0 0 (MQ below (cc_Qi (dC, dI) vC [(cI, .int), (cC, .char)] (wP b cI cC tx Fa Aa) s.heap.size (wP b cI cC tx F9 A9) r0) ([.ref (b 3), .ref (b 8)] : List Value).toArray s 0 0 (va_A (wP b cI cC tx Fa Aa) s.heap.size)) (F0 m 4 ls []) := by
    intro n
    induction n with
    | zero => intro x2 x3 F A H locs ls hl hP hD hS hf; cases hf
    | succ n ih =>
      intro x2 x3 F A H locs ls hl hP hD hS hf
      rw [f_H_colorOf_L4] at hf
      refine lv_iload_n hx hb d_H_colorOf_4 rfl (lv_at hl 3 rfl) ?_
      refine lv_iconst (v := 3) hx hb d_H_colorOf_5 (by decide) ?_
      refine lv_icmp_ge (tgt := 49) hx hb d_H_colorOf_6 (by decide) (fun h6_1 => ?_) (fun h6_1 => ?_)
      · rw [if_pos h6_1] at hf
        refine lv_iload_n hx hb d_H_colorOf_49 rfl (lv_at hl 2 rfl) ?_
        cases hf
        exact W.iret hx hb hr (fun t ht hW => ⟨⟨_, (), rfl, rfl, by rw [ht]; exact hP, va_K.moved hW.alike hK, hD⟩, hS.F ht⟩) hS.2.2 d_H_colorOf_50
      · rw [if_neg h6_1] at hf
        refine lv_aload_n hx hb d_H_colorOf_9 rfl (lv_at hl 0 rfl) ?_
        refine va_get (D := (dC, dI)) (ci := 2) (v := .ref (b 4)) (C := R_H) (T := T_H) (N := 2) hx hb hts in_H hown hK hP 3 rfl rfl 0 (by decide) (hts _ mw_97) (fun _ h9 => h9) rfl d_H_colorOf_10 ?_
        refine lv_aload_n hx hb d_H_colorOf_13 rfl (lv_at hl 1 rfl) ?_
        refine va_get (D := (dC, dI)) (ci := 0) (v := .ref (b 12)) (C := R_K) (T := T_K) (N := 7) hx hb hts in_K hown hK hP 8 rfl rfl 3 (by decide) (hts _ mw_39) (fun _ h9 => h9) rfl d_H_colorOf_14 ?_
        refine lv_iload_n hx hb d_H_colorOf_17 rfl (lv_at hl 3 rfl) ?_
        obtain ⟨hi, hf⟩ := ra_g_some hf
        refine va_iald hx hb hK hP 12 0 rfl rfl hi d_H_colorOf_18 ?_
        obtain ⟨hi, hf⟩ := ra_g_some hf
        refine va_iald hx hb hK hP 4 0 rfl rfl hi d_H_colorOf_19 ?_
        refine lv_bipush (v := 8) hx hb d_H_colorOf_20 (by decide) ?_
        refine lv_ishr hx hb d_H_colorOf_22 ?_
        refine lv_istore hx hb d_H_colorOf_23 hl (by decide) rfl (fun ls hl => ?_)
        have hl : lv_has ls 5 [(4, .int (((A 2) ((A 8) x3.toNatClampNeg).toNatClampNeg) >>> ((8 : Int32) &&& 31))), (0, .ref (b 3)), (1, .ref (b 8)), (2, .int x2), (3, .int x3)] := hl
        refine lv_iload_n hx hb d_H_colorOf_25 rfl (lv_at hl 3 rfl) ?_
        refine lv_bipush (v := 8) hx hb d_H_colorOf_26 (by decide) ?_
        refine lv_ishl hx hb d_H_colorOf_28 ?_
        refine lv_iconst (v := 0) hx hb d_H_colorOf_29 (by decide) ?_
        refine lv_sipush (v := 255) hx hb d_H_colorOf_30 (by decide) ?_
        refine lv_iload hx hb d_H_colorOf_33 (lv_at hl 0 rfl) ?_
        refine va_mmin hx hb (hml.trans hl.1.symm) hown (hts _ mw_488) (hts _ mw_458) (hts _ mw_12) (hts _ mw_459) (Nat.le_of_ble_eq_true rfl) (Nat.le_of_ble_eq_true rfl) (Nat.zero_le _) (Nat.zero_le _) d_H_colorOf_35 ?_
        refine va_mmax hx hb (hml.trans hl.1.symm) hown (hts _ mw_489) (hts _ mw_249) (hts _ mw_12) (hts _ mw_250) (Nat.le_of_ble_eq_true rfl) (Nat.le_of_ble_eq_true rfl) (Nat.zero_le _) (Nat.zero_le _) d_H_colorOf_38 ?_
        refine lv_ior hx hb d_H_colorOf_41 ?_
        refine lv_istore_n hx hb d_H_colorOf_42 rfl hl (by decide) rfl (fun ls hl => ?_)
        have hl : lv_has ls 5 [(2, .int ((x2 <<< ((8 : Int32) &&& 31)) ||| (if (0 : Int32) < (if (((A 2) ((A 8) x3.toNatClampNeg).toNatClampNeg) >>> ((8 : Int32) &&& 31)) < (255 : Int32) then (((A 2) ((A 8) x3.toNatClampNeg).toNatClampNeg) >>> ((8 : Int32) &&& 31)) else (255 : Int32)) then (if (((A 2) ((A 8) x3.toNatClampNeg).toNatClampNeg) >>> ((8 : Int32) &&& 31)) < (255 : Int32) then (((A 2) ((A 8) x3.toNatClampNeg).toNatClampNeg) >>> ((8 : Int32) &&& 31)) else (255 : Int32)) else (0 : Int32)))), (4, .int (((A 2) ((A 8) x3.toNatClampNeg).toNatClampNeg) >>> ((8 : Int32) &&& 31))), (0, .ref (b 3)), (1, .ref (b 8)), (3, .int x3)] := hl
        refine lv_iinc (k := 4) (v := (x3 + (1 : Int32))) hx hb d_H_colorOf_43 hl rfl (by rfl) (by decide) rfl (fun ls hl => ?_)
        have hl : lv_has ls 5 [(3, .int (x3 + (1 : Int32))), (2, .int ((x2 <<< ((8 : Int32) &&& 31)) ||| (if (0 : Int32) < (if (((A 2) ((A 8) x3.toNatClampNeg).toNatClampNeg) >>> ((8 : Int32) &&& 31)) < (255 : Int32) then (((A 2) ((A 8) x3.toNatClampNeg).toNatClampNeg) >>> ((8 : Int32) &&& 31)) else (255 : Int32)) then (if (((A 2) ((A 8) x3.toNatClampNeg).toNatClampNeg) >>> ((8 : Int32) &&& 31)) < (255 : Int32) then (((A 2) ((A 8) x3.toNatClampNeg).toNatClampNeg) >>> ((8 : Int32) &&& 31)) else (255 : Int32)) else (0 : Int32)))), (4, .int (((A 2) ((A 8) x3.toNatClampNeg).toNatClampNeg) >>> ((8 : Int32) &&& 31))), (0, .ref (b 3)), (1, .ref (b 8))] := hl
        refine lv_goto (tgt := 4) hx hb d_H_colorOf_46 (by decide) ?_
        have hl : lv_has ls 5 [(0, .ref (b 3)), (1, .ref (b 8)), (2, .int ((x2 <<< ((8 : Int32) &&& 31)) ||| (if (0 : Int32) < (if (((A 2) ((A 8) x3.toNatClampNeg).toNatClampNeg) >>> ((8 : Int32) &&& 31)) < (255 : Int32) then (((A 2) ((A 8) x3.toNatClampNeg).toNatClampNeg) >>> ((8 : Int32) &&& 31)) else (255 : Int32)) then (if (((A 2) ((A 8) x3.toNatClampNeg).toNatClampNeg) >>> ((8 : Int32) &&& 31)) < (255 : Int32) then (((A 2) ((A 8) x3.toNatClampNeg).toNatClampNeg) >>> ((8 : Int32) &&& 31)) else (255 : Int32)) else (0 : Int32)))), (3, .int (x3 + (1 : Int32)))] := lv_sub hl [3, 4, 1, 0] rfl
        exact ih ((x2 <<< ((8 : Int32) &&& 31)) ||| (if (0 : Int32) < (if (((A 2) ((A 8) x3.toNatClampNeg).toNatClampNeg) >>> ((8 : Int32) &&& 31)) < (255 : Int32) then (((A 2) ((A 8) x3.toNatClampNeg).toNatClampNeg) >>> ((8 : Int32) &&& 31)) else (255 : Int32)) then (if (((A 2) ((A 8) x3.toNatClampNeg).toNatClampNeg) >>> ((8 : Int32) &&& 31)) < (255 : Int32) then (((A 2) ((A 8) x3.toNatClampNeg).toNatClampNeg) >>> ((8 : Int32) &&& 31)) else (255 : Int32)) else (0 : Int32))) (x3 + (1 : Int32)) F A _ _ _ hl hP hD hS hf
  rw [lg_entry_eq]
  generalize (lg_sl (([.ref (b 3), .ref (b 8)] : List Value)) ++ List.replicate (5 - (lg_sl (([.ref (b 3), .ref (b 8)] : List Value))).length) Slot.unset).toArray = ls at hl ⊢
  have hl : lv_has ls 5 [(0, .ref (b 3)), (1, .ref (b 8))] := hl
  unfold f_H_colorOf at hf
  refine lv_iconst (v := 0) hx hb d_H_colorOf_0 (by decide) ?_
  refine lv_istore_n hx hb d_H_colorOf_1 rfl hl (by decide) rfl (fun ls hl => ?_)
  have hl : lv_has ls 5 [(2, .int (0 : Int32)), (0, .ref (b 3)), (1, .ref (b 8))] := hl
  refine lv_iconst (v := 0) hx hb d_H_colorOf_2 (by decide) ?_
  refine lv_istore_n hx hb d_H_colorOf_3 rfl hl (by decide) rfl (fun ls hl => ?_)
  have hl : lv_has ls 5 [(3, .int (0 : Int32)), (2, .int (0 : Int32)), (0, .ref (b 3)), (1, .ref (b 8))] := hl
  have hl : lv_has ls 5 [(0, .ref (b 3)), (1, .ref (b 8)), (2, .int (0 : Int32)), (3, .int (0 : Int32))] := lv_sub hl [2, 3, 1, 0] rfl
  exact L4 400 (0 : Int32) (0 : Int32) Fa Aa _ _ _ hl hP hD hS hf
end
