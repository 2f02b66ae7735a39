def wA : List Cond := lw_tbl.filter goodWord
theorem wA_in {w : Cond} (h : w ∈ lw_tbl) (g : goodWord w = true) : w ∈ wA := List.mem_filter.mpr ⟨h, g⟩
theorem wA_good {w : Cond} (h : w ∈ wA) : goodWord w = true := (List.mem_filter.mp h).2
theorem wA_tbl {w : Cond} (h : w ∈ wA) : w ∈ lw_tbl := (List.mem_filter.mp h).1
theorem tb_in (i : Nat) {w : Cond} (h : tables_1[i]? = some w) (g : goodWord w = true) : w ∈ wA := wA_in (List.mem_append_right _ (List.mem_of_getElem? h)) g
theorem sl_in {w : Cond} (h : w ∈ k2_sels lw_privs) (g : goodWord w = true) : w ∈ wA := wA_in (List.mem_append_left _ h) g
theorem wA_V {own C : String} {index maxL : Nat} {y : MethodName} {bytes : ByteArray} {ret : Option FieldType} (h1 : Cond.methodLink own index y ∈ wA) (h2 : Cond.instanceMethod y ∈ wA) (h3 : Cond.selects C y y ∈ wA) (h4 : Cond.initialized C ∈ wA) (h5 : Cond.code y bytes maxL ret ∈ wA) : GoodIn wA (wsV own index C y (Cond.code y bytes maxL ret :: wA)) := by
  have key : ∀ w ∈ wsV own index C y (Cond.code y bytes maxL ret :: wA), w ∈ wA := by
    intro w hw
    unfold wsV at hw
    rcases List.mem_append.mp hw with hw | hw
    · simp only [List.mem_cons, List.not_mem_nil, or_false] at hw
      rcases hw with rfl | rfl | rfl | rfl <;> assumption
    · rcases List.mem_cons.mp hw with rfl | hw
      · exact h5
      · exact hw
  exact fun w hw => ⟨key w hw, good_of_word (wA_good (key w hw))⟩
theorem wA_S {own : String} {index maxL : Nat} {y : MethodName} {bytes : ByteArray} {ret : Option FieldType} (h1 : Cond.methodLink own index y ∈ wA) (h2 : Cond.static y ∈ wA) (h4 : Cond.initialized y.cls ∈ wA) (h5 : Cond.code y bytes maxL ret ∈ wA) : GoodIn wA (va_wsS own index y (Cond.code y bytes maxL ret :: wA)) := by
  have key : ∀ w ∈ va_wsS own index y (Cond.code y bytes maxL ret :: wA), w ∈ wA := by
    intro w hw
    unfold va_wsS at hw
    rcases List.mem_append.mp hw with hw | hw
    · simp only [List.mem_cons, List.not_mem_nil, or_false] at hw
      rcases hw with rfl | rfl | rfl <;> assumption
    · rcases List.mem_cons.mp hw with rfl | hw
      · exact h5
      · exact hw
  exact fun w hw => ⟨key w hw, good_of_word (wA_good (key w hw))⟩
theorem cw_V {R : Room} {s : State} {args : Array Value} {own C : String} {index maxL : Nat} {y : MethodName} {bytes : ByteArray} {ret : Option FieldType} {rm : Room} (n : Nat) (ht : ∀ w ∈ wA, w.before args s = true) (h1 : Cond.methodLink own index y ∈ wA) (h2 : Cond.instanceMethod y ∈ wA) (h3 : Cond.selects C y y ∈ wA) (h4 : Cond.initialized C ∈ wA) (h5 : Cond.code y bytes maxL ret ∈ wA) (hrc : rm.cells = 0) (hrs : rm.slots = 0) (hC : y.cls = C)
    (hd : y.cls ≠ "java/lang/invoke/MethodHandle" ∧ y.cls ≠ "java/lang/invoke/VarHandle" ∧ (parseMethodDescriptor y.desc).map (fun d => d.parameters.length) = some n) (hR : rm.frames + 1 ≤ R.frames ∧ 8 + (maxL + 11) + rm.locals ≤ R.locals) : CallW R s args own C index y bytes maxL ret (Cond.code y bytes maxL ret :: wA) rm 0 0 n :=
  cwV n ht (wA_V h1 h2 h3 h4 h5) rfl hrc hrs ⟨hC, hd⟩ hR
theorem cw_S {R : Room} {s : State} {args : Array Value} {own : String} {index maxL : Nat} {y : MethodName} {bytes : ByteArray} {ret : Option FieldType} {rm : Room} (n : Nat) (ht : ∀ w ∈ wA, w.before args s = true) (h1 : Cond.methodLink own index y ∈ wA) (h2 : Cond.static y ∈ wA) (h4 : Cond.initialized y.cls ∈ wA) (h5 : Cond.code y bytes maxL ret ∈ wA) (hrc : rm.cells = 0) (hrs : rm.slots = 0)
    (hd : y.cls ≠ "java/lang/invoke/MethodHandle" ∧ y.cls ≠ "java/lang/invoke/VarHandle" ∧ (parseMethodDescriptor y.desc).map (fun d => d.parameters.length) = some n) (hR : rm.frames + 1 ≤ R.frames ∧ 8 + (maxL + 11) + rm.locals ≤ R.locals) : CallB R s args own index y bytes maxL ret (Cond.code y bytes maxL ret :: wA) rm 0 0 n ∧ (Cond.static y).before args s = true :=
  va_cwS n ht (wA_S h1 h2 h4 h5) rfl hrc hrs hd hR
def R_K : String := "PixelFormula$Code"
def R_C : String := "PixelFormula$Compiler"
def R_H : String := "PixelFormula$Machine"
def R_N : String := "PixelFormula$Numbers"
def R_V : String := "PixelFormula$Value"
def R_P : String := "PixelFormula"
def R_M : String := "PixelFormulaModel"
def R_L : String := "PixelFormulaLaw"
def T_K : u_T := fun k => match k with
  | 0 => ("PixelFormula$Code", "kinds", "[I", true)
  | 1 => ("PixelFormula$Code", "firsts", "[I", true)
  | 2 => ("PixelFormula$Code", "seconds", "[I", true)
  | 3 => ("PixelFormula$Code", "results", "[I", true)
  | 4 => ("PixelFormula$Code", "variableTypes", "[I", true)
  | 5 => ("PixelFormula$Code", "count", "I", false)
  | _ => ("PixelFormula$Code", "isTooLong", "Z", false)
def ty_K : Nat → FieldType := fun k => match k with
  | 0 => .array .int
  | 1 => .array .int
  | 2 => .array .int
  | 3 => .array .int
  | 4 => .array .int
  | 5 => .int
  | _ => .boolean
theorem nm_K : ∀ a, a < 7 → ∀ b, b < 7 → a ≠ b → (T_K a).2.1 ≠ (T_K b).2.1 := by decide +kernel
theorem ty_K_ok : ∀ k, k < 7 → parseFieldDescriptor (T_K k).2.2.1 = some (ty_K k) := by decide +kernel
theorem in_K0 : ∀ w ∈ u_ws R_K T_K 7, w ∈ tables_1 ∧ goodWord w = true := by decide +kernel
theorem in_K : ∀ w ∈ u_ws R_K T_K 7, w ∈ wA := fun w h => wA_in (List.mem_append_right _ (in_K0 w h).1) (in_K0 w h).2
def T_C : u_T := fun k => match k with
  | 0 => ("PixelFormula$Compiler", "variables", "[I", true)
  | 1 => ("PixelFormula$Compiler", "text", "[C", false)
  | 2 => ("PixelFormula$Compiler", "length", "I", false)
  | 3 => ("PixelFormula$Compiler", "at", "I", false)
  | _ => ("PixelFormula$Compiler", "code", "LPixelFormula$Code;", false)
def ty_C : Nat → FieldType := fun k => match k with
  | 0 => .array .int
  | 1 => .array .char
  | 2 => .int
  | 3 => .int
  | _ => .object "PixelFormula$Code"
theorem nm_C : ∀ a, a < 5 → ∀ b, b < 5 → a ≠ b → (T_C a).2.1 ≠ (T_C b).2.1 := by decide +kernel
theorem ty_C_ok : ∀ k, k < 5 → parseFieldDescriptor (T_C k).2.2.1 = some (ty_C k) := by decide +kernel
theorem in_C0 : ∀ w ∈ u_ws R_C T_C 5, w ∈ tables_1 ∧ goodWord w = true := by decide +kernel
theorem in_C : ∀ w ∈ u_ws R_C T_C 5, w ∈ wA := fun w h => wA_in (List.mem_append_right _ (in_C0 w h).1) (in_C0 w h).2
def T_H : u_T := fun k => match k with
  | 0 => ("PixelFormula$Machine", "made", "[I", true)
  | _ => ("PixelFormula$Machine", "inputs", "[I", true)
def ty_H : Nat → FieldType := fun k => match k with
  | 0 => .array .int
  | _ => .array .int
theorem nm_H : ∀ a, a < 2 → ∀ b, b < 2 → a ≠ b → (T_H a).2.1 ≠ (T_H b).2.1 := by decide +kernel
theorem ty_H_ok : ∀ k, k < 2 → parseFieldDescriptor (T_H k).2.2.1 = some (ty_H k) := by decide +kernel
theorem in_H0 : ∀ w ∈ u_ws R_H T_H 2, w ∈ tables_1 ∧ goodWord w = true := by decide +kernel
theorem in_H : ∀ w ∈ u_ws R_H T_H 2, w ∈ wA := fun w h => wA_in (List.mem_append_right _ (in_H0 w h).1) (in_H0 w h).2
def T_P : u_T := fun k => match k with
  | 0 => ("PixelFormula", "text", "[C", true)
  | 1 => ("PixelFormula", "length", "I", false)
  | 2 => ("PixelFormula", "code", "LPixelFormula$Code;", false)
  | 3 => ("PixelFormula", "compiler", "LPixelFormula$Compiler;", true)
  | 4 => ("PixelFormula", "machine", "LPixelFormula$Machine;", true)
  | _ => ("PixelFormula", "picture", "[I", true)
def ty_P : Nat → FieldType := fun k => match k with
  | 0 => .array .char
  | 1 => .int
  | 2 => .object "PixelFormula$Code"
  | 3 => .object "PixelFormula$Compiler"
  | 4 => .object "PixelFormula$Machine"
  | _ => .array .int
theorem nm_P : ∀ a, a < 6 → ∀ b, b < 6 → a ≠ b → (T_P a).2.1 ≠ (T_P b).2.1 := by decide +kernel
theorem ty_P_ok : ∀ k, k < 6 → parseFieldDescriptor (T_P k).2.2.1 = some (ty_P k) := by decide +kernel
theorem in_P0 : ∀ w ∈ u_ws R_P T_P 6, w ∈ tables_1 ∧ goodWord w = true := by decide +kernel
theorem in_P : ∀ w ∈ u_ws R_P T_P 6, w ∈ wA := fun w h => wA_in (List.mem_append_right _ (in_P0 w h).1) (in_P0 w h).2
def T_M : u_T := fun k => match k with
  | 0 => ("PixelFormulaModel", "code", "I", false)
  | 1 => ("PixelFormulaModel", "length", "I", false)
  | 2 => ("PixelFormulaModel", "text", "[I", true)
  | 3 => ("PixelFormulaModel", "size", "I", false)
  | 4 => ("PixelFormulaModel", "kinds", "[I", true)
  | 5 => ("PixelFormulaModel", "firsts", "[I", true)
  | 6 => ("PixelFormulaModel", "seconds", "[I", true)
  | 7 => ("PixelFormulaModel", "results", "[I", true)
  | 8 => ("PixelFormulaModel", "types", "[I", true)
  | 9 => ("PixelFormulaModel", "draft", "I", false)
  | 10 => ("PixelFormulaModel", "draftKinds", "[I", true)
  | 11 => ("PixelFormulaModel", "draftFirsts", "[I", true)
  | 12 => ("PixelFormulaModel", "draftSeconds", "[I", true)
  | 13 => ("PixelFormulaModel", "draftTypes", "[I", true)
  | 14 => ("PixelFormulaModel", "variables", "[I", true)
  | 15 => ("PixelFormulaModel", "at", "I", false)
  | 16 => ("PixelFormulaModel", "wrong", "Z", false)
  | 17 => ("PixelFormulaModel", "values", "I", false)
  | 18 => ("PixelFormulaModel", "valueTypes", "[I", true)
  | 19 => ("PixelFormulaModel", "numbers", "[I", true)
  | 20 => ("PixelFormulaModel", "waiting", "I", false)
  | 21 => ("PixelFormulaModel", "waits", "[I", true)
  | 22 => ("PixelFormulaModel", "arguments", "[I", true)
  | 23 => ("PixelFormulaModel", "open", "I", false)
  | 24 => ("PixelFormulaModel", "target", "I", false)
  | 25 => ("PixelFormulaModel", "made", "[I", true)
  | 26 => ("PixelFormulaModel", "picture", "[I", true)
  | 27 => ("PixelFormulaModel", "next", "[I", true)
  | _ => ("PixelFormulaModel", "worth", "[I", true)
def ty_M : Nat → FieldType := fun k => match k with
  | 0 => .int
  | 1 => .int
  | 2 => .array .int
  | 3 => .int
  | 4 => .array .int
  | 5 => .array .int
  | 6 => .array .int
  | 7 => .array .int
  | 8 => .array .int
  | 9 => .int
  | 10 => .array .int
  | 11 => .array .int
  | 12 => .array .int
  | 13 => .array .int
  | 14 => .array .int
  | 15 => .int
  | 16 => .boolean
  | 17 => .int
  | 18 => .array .int
  | 19 => .array .int
  | 20 => .int
  | 21 => .array .int
  | 22 => .array .int
  | 23 => .int
  | 24 => .int
  | 25 => .array .int
  | 26 => .array .int
  | 27 => .array .int
  | _ => .array .int
theorem nm_M : ∀ a, a < 29 → ∀ b, b < 29 → a ≠ b → (T_M a).2.1 ≠ (T_M b).2.1 := by decide +kernel
theorem ty_M_ok : ∀ k, k < 29 → parseFieldDescriptor (T_M k).2.2.1 = some (ty_M k) := by decide +kernel
theorem in_M0 : ∀ w ∈ u_ws R_M T_M 29, w ∈ tables_1 ∧ goodWord w = true := by decide +kernel
theorem in_M : ∀ w ∈ u_ws R_M T_M 29, w ∈ wA := fun w h => wA_in (List.mem_append_right _ (in_M0 w h).1) (in_M0 w h).2
abbrev vC : List vw_C := [(R_K, T_K, 7), (R_C, T_C, 5), (R_H, T_H, 2), (R_P, T_P, 6), (R_M, T_M, 29)]
abbrev b_P_init : ByteArray := prog_1_method_1_code
def y_P_init : MethodName := ⟨R_P, "<init>", "()V"⟩
abbrev b_P_type : ByteArray := prog_1_method_2_code
def y_P_type : MethodName := ⟨R_P, "type", "(I)I"⟩
abbrev b_P_erase : ByteArray := prog_1_method_3_code
def y_P_erase : MethodName := ⟨R_P, "erase", "()V"⟩
abbrev b_P_compile : ByteArray := prog_1_method_4_code
def y_P_compile : MethodName := ⟨R_P, "compile", "()Z"⟩
abbrev b_P_size : ByteArray := prog_1_method_5_code
def y_P_size : MethodName := ⟨R_P, "size", "()I"⟩
abbrev b_P_instruction : ByteArray := prog_1_method_6_code
def y_P_instruction : MethodName := ⟨R_P, "instruction", "(II)I"⟩
abbrev b_P_result : ByteArray := prog_1_method_7_code
def y_P_result : MethodName := ⟨R_P, "result", "(I)I"⟩
abbrev b_P_typeOf : ByteArray := prog_1_method_8_code
def y_P_typeOf : MethodName := ⟨R_P, "typeOf", "(I)I"⟩
abbrev b_P_value : ByteArray := prog_1_method_9_code
def y_P_value : MethodName := ⟨R_P, "value", "(IIIII)I"⟩
abbrev b_P_paint : ByteArray := prog_1_method_10_code
def y_P_paint : MethodName := ⟨R_P, "paint", "(III)V"⟩
abbrev b_P_run : ByteArray := prog_1_method_11_code
def y_P_run : MethodName := ⟨R_P, "run", "(I)V"⟩
abbrev b_P_pixel : ByteArray := prog_1_method_12_code
def y_P_pixel : MethodName := ⟨R_P, "pixel", "(II)I"⟩
abbrev b_P_hasCode : ByteArray := prog_1_method_13_code
def y_P_hasCode : MethodName := ⟨R_P, "hasCode", "()Z"⟩
abbrev b_P_isInstruction : ByteArray := prog_1_method_14_code
def y_P_isInstruction : MethodName := ⟨R_P, "isInstruction", "(I)Z"⟩
abbrev b_P_isPoint : ByteArray := prog_1_method_15_code
def y_P_isPoint : MethodName := ⟨R_P, "isPoint", "(II)Z"⟩
abbrev b_P_isColor : ByteArray := prog_1_method_16_code
def y_P_isColor : MethodName := ⟨R_P, "isColor", "(I)Z"⟩
abbrev b_M_init : ByteArray := prog_8_method_1_code
def y_M_init : MethodName := ⟨R_M, "<init>", "()V"⟩
abbrev b_M_thrown : ByteArray := prog_8_method_2_code
def y_M_thrown : MethodName := ⟨R_M, "thrown", "()I"⟩
abbrev b_M_type : ByteArray := prog_8_method_3_code
def y_M_type : MethodName := ⟨R_M, "type", "(I)I"⟩
abbrev b_M_erase : ByteArray := prog_8_method_4_code
def y_M_erase : MethodName := ⟨R_M, "erase", "()V"⟩
abbrev b_M_look : ByteArray := prog_8_method_5_code
def y_M_look : MethodName := ⟨R_M, "look", "(I)I"⟩
abbrev b_M_put : ByteArray := prog_8_method_6_code
def y_M_put : MethodName := ⟨R_M, "put", "(III)I"⟩
abbrev b_M_push : ByteArray := prog_8_method_7_code
def y_M_push : MethodName := ⟨R_M, "push", "(I)V"⟩
abbrev b_M_pushMade : ByteArray := prog_8_method_8_code
def y_M_pushMade : MethodName := ⟨R_M, "pushMade", "(I)V"⟩
abbrev b_M_number : ByteArray := prog_8_method_9_code
def y_M_number : MethodName := ⟨R_M, "number", "(II)I"⟩
abbrev b_M_pairwise : ByteArray := prog_8_method_10_code
def y_M_pairwise : MethodName := ⟨R_M, "pairwise", "(III)V"⟩
abbrev b_M_columns : ByteArray := prog_8_method_11_code
def y_M_columns : MethodName := ⟨R_M, "columns", "(III)V"⟩
abbrev b_M_operate : ByteArray := prog_8_method_12_code
def y_M_operate : MethodName := ⟨R_M, "operate", "(I)V"⟩
abbrev b_M_isBinary : ByteArray := prog_8_method_13_code
def y_M_isBinary : MethodName := ⟨R_M, "isBinary", "(I)Z"⟩
abbrev b_M_top : ByteArray := prog_8_method_14_code
def y_M_top : MethodName := ⟨R_M, "top", "()I"⟩
abbrev b_M_settle : ByteArray := prog_8_method_15_code
def y_M_settle : MethodName := ⟨R_M, "settle", "(Z)V"⟩
abbrev b_M_each : ByteArray := prog_8_method_16_code
def y_M_each : MethodName := ⟨R_M, "each", "(I)V"⟩
abbrev b_M_dot : ByteArray := prog_8_method_17_code
def y_M_dot : MethodName := ⟨R_M, "dot", "(II)V"⟩
abbrev b_M_join : ByteArray := prog_8_method_18_code
def y_M_join : MethodName := ⟨R_M, "join", "(I)V"⟩
abbrev b_M_matrix : ByteArray := prog_8_method_19_code
def y_M_matrix : MethodName := ⟨R_M, "matrix", "(II)V"⟩
abbrev b_M_call : ByteArray := prog_8_method_20_code
def y_M_call : MethodName := ⟨R_M, "call", "(II)V"⟩
abbrev b_M_isDigit : ByteArray := prog_8_method_21_code
def y_M_isDigit : MethodName := ⟨R_M, "isDigit", "(I)Z"⟩
abbrev b_M_isSmall : ByteArray := prog_8_method_22_code
def y_M_isSmall : MethodName := ⟨R_M, "isSmall", "(I)Z"⟩
abbrev b_M_isFunction : ByteArray := prog_8_method_23_code
def y_M_isFunction : MethodName := ⟨R_M, "isFunction", "(I)Z"⟩
abbrev b_M_isGiven : ByteArray := prog_8_method_24_code
def y_M_isGiven : MethodName := ⟨R_M, "isGiven", "(I)Z"⟩
abbrev b_M_constant : ByteArray := prog_8_method_25_code
def y_M_constant : MethodName := ⟨R_M, "constant", "()V"⟩
abbrev b_M_letter : ByteArray := prog_8_method_26_code
def y_M_letter : MethodName := ⟨R_M, "letter", "()V"⟩
abbrev b_M_finish : ByteArray := prog_8_method_27_code
def y_M_finish : MethodName := ⟨R_M, "finish", "(Z)V"⟩
abbrev b_M_hold : ByteArray := prog_8_method_28_code
def y_M_hold : MethodName := ⟨R_M, "hold", "(I)V"⟩
abbrev b_M_bracket : ByteArray := prog_8_method_29_code
def y_M_bracket : MethodName := ⟨R_M, "bracket", "(I)V"⟩
abbrev b_M_operand : ByteArray := prog_8_method_30_code
def y_M_operand : MethodName := ⟨R_M, "operand", "()Z"⟩
abbrev b_M_close : ByteArray := prog_8_method_31_code
def y_M_close : MethodName := ⟨R_M, "close", "()V"⟩
abbrev b_M_operator : ByteArray := prog_8_method_32_code
def y_M_operator : MethodName := ⟨R_M, "operator", "()Z"⟩
abbrev b_M_assign : ByteArray := prog_8_method_33_code
def y_M_assign : MethodName := ⟨R_M, "assign", "()V"⟩
abbrev b_M_begin : ByteArray := prog_8_method_34_code
def y_M_begin : MethodName := ⟨R_M, "begin", "()V"⟩
abbrev b_M_keep : ByteArray := prog_8_method_35_code
def y_M_keep : MethodName := ⟨R_M, "keep", "()V"⟩
abbrev b_M_compile : ByteArray := prog_8_method_36_code
def y_M_compile : MethodName := ⟨R_M, "compile", "()Z"⟩
abbrev b_M_size : ByteArray := prog_8_method_37_code
def y_M_size : MethodName := ⟨R_M, "size", "()I"⟩
abbrev b_M_instruction : ByteArray := prog_8_method_38_code
def y_M_instruction : MethodName := ⟨R_M, "instruction", "(II)I"⟩
abbrev b_M_result : ByteArray := prog_8_method_39_code
def y_M_result : MethodName := ⟨R_M, "result", "(I)I"⟩
abbrev b_M_typeOf : ByteArray := prog_8_method_40_code
def y_M_typeOf : MethodName := ⟨R_M, "typeOf", "(I)I"⟩
abbrev b_M_saturated : ByteArray := prog_8_method_41_code
def y_M_saturated : MethodName := ⟨R_M, "saturated", "(J)I"⟩
abbrev b_M_divided : ByteArray := prog_8_method_42_code
def y_M_divided : MethodName := ⟨R_M, "divided", "(II)I"⟩
abbrev b_M_done : ByteArray := prog_8_method_43_code
def y_M_done : MethodName := ⟨R_M, "done", "(III)I"⟩
abbrev b_M_evaluate : ByteArray := prog_8_method_44_code
def y_M_evaluate : MethodName := ⟨R_M, "evaluate", "(IIIII)V"⟩
abbrev b_M_noColor : ByteArray := prog_8_method_45_code
def y_M_noColor : MethodName := ⟨R_M, "noColor", "(I)Z"⟩
abbrev b_M_value : ByteArray := prog_8_method_46_code
def y_M_value : MethodName := ⟨R_M, "value", "(IIIII)I"⟩
abbrev b_M_noPoint : ByteArray := prog_8_method_47_code
def y_M_noPoint : MethodName := ⟨R_M, "noPoint", "(II)Z"⟩
abbrev b_M_paint : ByteArray := prog_8_method_48_code
def y_M_paint : MethodName := ⟨R_M, "paint", "(III)V"⟩
abbrev b_M_channel : ByteArray := prog_8_method_49_code
def y_M_channel : MethodName := ⟨R_M, "channel", "(I)I"⟩
abbrev b_M_run : ByteArray := prog_8_method_50_code
def y_M_run : MethodName := ⟨R_M, "run", "(I)V"⟩
abbrev b_M_pixel : ByteArray := prog_8_method_51_code
def y_M_pixel : MethodName := ⟨R_M, "pixel", "(II)I"⟩
abbrev b_K_init : ByteArray := prog_2_method_1_code
def y_K_init : MethodName := ⟨R_K, "<init>", "()V"⟩
abbrev b_K_clear : ByteArray := prog_2_method_2_code
def y_K_clear : MethodName := ⟨R_K, "clear", "()V"⟩
abbrev b_K_put : ByteArray := prog_2_method_3_code
def y_K_put : MethodName := ⟨R_K, "put", "(III)I"⟩
abbrev b_C_init : ByteArray := prog_3_method_1_code
def y_C_init : MethodName := ⟨R_C, "<init>", "()V"⟩
abbrev b_C_exchange : ByteArray := prog_3_method_2_code
def y_C_exchange : MethodName := ⟨R_C, "exchange", "(LPixelFormula$Code;)LPixelFormula$Code;"⟩
abbrev b_C_accepts : ByteArray := prog_3_method_3_code
def y_C_accepts : MethodName := ⟨R_C, "accepts", "([CI)Z"⟩
abbrev b_C_start : ByteArray := prog_3_method_4_code
def y_C_start : MethodName := ⟨R_C, "start", "([CI)V"⟩
abbrev b_C_finish : ByteArray := prog_3_method_5_code
def y_C_finish : MethodName := ⟨R_C, "finish", "(I)V"⟩
abbrev b_C_next : ByteArray := prog_3_method_6_code
def y_C_next : MethodName := ⟨R_C, "next", "()C"⟩
abbrev b_C_takes : ByteArray := prog_3_method_7_code
def y_C_takes : MethodName := ⟨R_C, "takes", "(C)Z"⟩
abbrev b_C_isAssignmentNext : ByteArray := prog_3_method_8_code
def y_C_isAssignmentNext : MethodName := ⟨R_C, "isAssignmentNext", "()Z"⟩
abbrev b_C_assignment : ByteArray := prog_3_method_9_code
def y_C_assignment : MethodName := ⟨R_C, "assignment", "()Z"⟩
abbrev b_C_sum : ByteArray := prog_3_method_10_code
def y_C_sum : MethodName := ⟨R_C, "sum", "(I)I"⟩
abbrev b_C_product : ByteArray := prog_3_method_11_code
def y_C_product : MethodName := ⟨R_C, "product", "(I)I"⟩
abbrev b_C_unit : ByteArray := prog_3_method_12_code
def y_C_unit : MethodName := ⟨R_C, "unit", "(I)I"⟩
abbrev b_C_part : ByteArray := prog_3_method_13_code
def y_C_part : MethodName := ⟨R_C, "part", "(I)I"⟩
abbrev b_C_letter : ByteArray := prog_3_method_14_code
def y_C_letter : MethodName := ⟨R_C, "letter", "(C)I"⟩
abbrev b_C_input : ByteArray := prog_3_method_15_code
def y_C_input : MethodName := ⟨R_C, "input", "(II)I"⟩
abbrev b_C_constant : ByteArray := prog_3_method_16_code
def y_C_constant : MethodName := ⟨R_C, "constant", "()I"⟩
abbrev b_C_digit : ByteArray := prog_3_method_17_code
def y_C_digit : MethodName := ⟨R_C, "digit", "()I"⟩
abbrev b_C_picked : ByteArray := prog_3_method_18_code
def y_C_picked : MethodName := ⟨R_C, "picked", "(I)I"⟩
abbrev b_C_function : ByteArray := prog_3_method_19_code
def y_C_function : MethodName := ⟨R_C, "function", "(CI)I"⟩
abbrev b_C_functionOfTwo : ByteArray := prog_3_method_20_code
def y_C_functionOfTwo : MethodName := ⟨R_C, "functionOfTwo", "(CI)I"⟩
abbrev b_C_vector : ByteArray := prog_3_method_21_code
def y_C_vector : MethodName := ⟨R_C, "vector", "(I)I"⟩
abbrev b_C_matrix : ByteArray := prog_3_method_22_code
def y_C_matrix : MethodName := ⟨R_C, "matrix", "(II)I"⟩
abbrev b_C_joined : ByteArray := prog_3_method_23_code
def y_C_joined : MethodName := ⟨R_C, "joined", "(II)I"⟩
abbrev b_C_behindEachOther : ByteArray := prog_3_method_24_code
def y_C_behindEachOther : MethodName := ⟨R_C, "behindEachOther", "(II)I"⟩
abbrev b_C_each : ByteArray := prog_3_method_25_code
def y_C_each : MethodName := ⟨R_C, "each", "(II)I"⟩
abbrev b_C_pairwise : ByteArray := prog_3_method_26_code
def y_C_pairwise : MethodName := ⟨R_C, "pairwise", "(III)I"⟩
abbrev b_C_times : ByteArray := prog_3_method_27_code
def y_C_times : MethodName := ⟨R_C, "times", "(II)I"⟩
abbrev b_C_timesColumns : ByteArray := prog_3_method_28_code
def y_C_timesColumns : MethodName := ⟨R_C, "timesColumns", "(II)I"⟩
abbrev b_C_dividedBy : ByteArray := prog_3_method_29_code
def y_C_dividedBy : MethodName := ⟨R_C, "dividedBy", "(II)I"⟩
abbrev b_C_dotted : ByteArray := prog_3_method_30_code
def y_C_dotted : MethodName := ⟨R_C, "dotted", "(II)I"⟩
abbrev b_C_isDigit : ByteArray := prog_3_method_31_code
def y_C_isDigit : MethodName := ⟨R_C, "isDigit", "(C)Z"⟩
abbrev b_C_isSmall : ByteArray := prog_3_method_32_code
def y_C_isSmall : MethodName := ⟨R_C, "isSmall", "(C)Z"⟩
abbrev b_C_isPlace : ByteArray := prog_3_method_33_code
def y_C_isPlace : MethodName := ⟨R_C, "isPlace", "(C)Z"⟩
abbrev b_C_isVariable : ByteArray := prog_3_method_34_code
def y_C_isVariable : MethodName := ⟨R_C, "isVariable", "(C)Z"⟩
abbrev b_H_init : ByteArray := prog_4_method_1_code
def y_H_init : MethodName := ⟨R_H, "<init>", "()V"⟩
abbrev b_H_work : ByteArray := prog_4_method_2_code
def y_H_work : MethodName := ⟨R_H, "work", "(LPixelFormula$Code;IIII)V"⟩
abbrev b_H_make : ByteArray := prog_4_method_3_code
def y_H_make : MethodName := ⟨R_H, "make", "(III)I"⟩
abbrev b_H_colorOf : ByteArray := prog_4_method_4_code
def y_H_colorOf : MethodName := ⟨R_H, "colorOf", "(LPixelFormula$Code;)I"⟩
abbrev b_N_operate : ByteArray := prog_5_method_2_code
def y_N_operate : MethodName := ⟨R_N, "operate", "(III)I"⟩
abbrev b_N_divide : ByteArray := prog_5_method_3_code
def y_N_divide : MethodName := ⟨R_N, "divide", "(II)I"⟩
abbrev b_N_saturate : ByteArray := prog_5_method_4_code
def y_N_saturate : MethodName := ⟨R_N, "saturate", "(J)I"⟩
abbrev b_V_ofType : ByteArray := prog_6_method_2_code
def y_V_ofType : MethodName := ⟨R_V, "ofType", "(I)I"⟩
abbrev b_V_typeIn : ByteArray := prog_6_method_3_code
def y_V_typeIn : MethodName := ⟨R_V, "typeIn", "(I)I"⟩
abbrev b_V_withNumber : ByteArray := prog_6_method_4_code
def y_V_withNumber : MethodName := ⟨R_V, "withNumber", "(III)I"⟩
abbrev b_V_number : ByteArray := prog_6_method_5_code
def y_V_number : MethodName := ⟨R_V, "number", "(II)I"⟩
abbrev b_V_spread : ByteArray := prog_6_method_6_code
def y_V_spread : MethodName := ⟨R_V, "spread", "(II)I"⟩
abbrev b_L_type : ByteArray := method_3_code
def y_L_type : MethodName := ⟨R_L, "type", "(LPixelFormula;I[J)I"⟩
abbrev b_L_instruction : ByteArray := method_4_code
def y_L_instruction : MethodName := ⟨R_L, "instruction", "(LPixelFormula;II[J)I"⟩
abbrev b_L_result : ByteArray := method_5_code
def y_L_result : MethodName := ⟨R_L, "result", "(LPixelFormula;I[J)I"⟩
abbrev b_L_typeOf : ByteArray := method_6_code
def y_L_typeOf : MethodName := ⟨R_L, "typeOf", "(LPixelFormula;I[J)I"⟩
abbrev b_L_value : ByteArray := method_7_code
def y_L_value : MethodName := ⟨R_L, "value", "(LPixelFormula;IIIII[J)I"⟩
abbrev b_L_paint : ByteArray := method_8_code
def y_L_paint : MethodName := ⟨R_L, "paint", "(LPixelFormula;III)I"⟩
abbrev b_L_run : ByteArray := method_9_code
def y_L_run : MethodName := ⟨R_L, "run", "(LPixelFormula;I)I"⟩
abbrev b_L_pixel : ByteArray := method_10_code
def y_L_pixel : MethodName := ⟨R_L, "pixel", "(LPixelFormula;II[J)I"⟩
