theorem d_L_type_0 : decode b_L_type 0 = .ok (.aload_n 2, 1) := by decide +kernel
theorem d_L_type_1 : decode b_L_type 1 = .ok (.iconst 0, 1) := by decide +kernel
theorem d_L_type_2 : decode b_L_type 2 = .ok (.aload_n 0, 1) := by decide +kernel
theorem d_L_type_3 : decode b_L_type 3 = .ok (.iload_n 1, 1) := by decide +kernel
theorem d_L_type_4 : decode b_L_type 4 = .ok (.invokevirtual 7, 3) := by decide +kernel
theorem d_L_type_7 : decode b_L_type 7 = .ok (.i2l, 1) := by decide +kernel
theorem d_L_type_8 : decode b_L_type 8 = .ok (.lastore, 1) := by decide +kernel
theorem d_L_type_9 : decode b_L_type 9 = .ok (.goto 9, 3) := by decide +kernel
theorem d_L_type_12 : decode b_L_type 12 = .ok (.astore_n 3, 1) := by decide +kernel
theorem d_L_type_13 : decode b_L_type 13 = .ok (.iconst 1, 1) := by decide +kernel
theorem d_L_type_14 : decode b_L_type 14 = .ok (.ireturn, 1) := by decide +kernel
theorem d_L_type_15 : decode b_L_type 15 = .ok (.astore_n 3, 1) := by decide +kernel
theorem d_L_type_16 : decode b_L_type 16 = .ok (.iconst 2, 1) := by decide +kernel
theorem d_L_type_17 : decode b_L_type 17 = .ok (.ireturn, 1) := by decide +kernel
theorem d_L_type_18 : decode b_L_type 18 = .ok (.iconst 0, 1) := by decide +kernel
theorem d_L_type_19 : decode b_L_type 19 = .ok (.ireturn, 1) := by decide +kernel
theorem d_L_instruction_0 : decode b_L_instruction 0 = .ok (.aload_n 3, 1) := by decide +kernel
theorem d_L_instruction_1 : decode b_L_instruction 1 = .ok (.iconst 0, 1) := by decide +kernel
theorem d_L_instruction_2 : decode b_L_instruction 2 = .ok (.aload_n 0, 1) := by decide +kernel
theorem d_L_instruction_3 : decode b_L_instruction 3 = .ok (.iload_n 1, 1) := by decide +kernel
theorem d_L_instruction_4 : decode b_L_instruction 4 = .ok (.iload_n 2, 1) := by decide +kernel
theorem d_L_instruction_5 : decode b_L_instruction 5 = .ok (.invokevirtual 17, 3) := by decide +kernel
theorem d_L_instruction_8 : decode b_L_instruction 8 = .ok (.i2l, 1) := by decide +kernel
theorem d_L_instruction_9 : decode b_L_instruction 9 = .ok (.lastore, 1) := by decide +kernel
theorem d_L_instruction_10 : decode b_L_instruction 10 = .ok (.goto 7, 3) := by decide +kernel
theorem d_L_instruction_13 : decode b_L_instruction 13 = .ok (.astore 4, 2) := by decide +kernel
theorem d_L_instruction_15 : decode b_L_instruction 15 = .ok (.iconst 1, 1) := by decide +kernel
theorem d_L_instruction_16 : decode b_L_instruction 16 = .ok (.ireturn, 1) := by decide +kernel
theorem d_L_instruction_17 : decode b_L_instruction 17 = .ok (.iconst 0, 1) := by decide +kernel
theorem d_L_instruction_18 : decode b_L_instruction 18 = .ok (.ireturn, 1) := by decide +kernel
theorem d_L_result_0 : decode b_L_result 0 = .ok (.aload_n 2, 1) := by decide +kernel
theorem d_L_result_1 : decode b_L_result 1 = .ok (.iconst 0, 1) := by decide +kernel
theorem d_L_result_2 : decode b_L_result 2 = .ok (.aload_n 0, 1) := by decide +kernel
theorem d_L_result_3 : decode b_L_result 3 = .ok (.iload_n 1, 1) := by decide +kernel
theorem d_L_result_4 : decode b_L_result 4 = .ok (.invokevirtual 23, 3) := by decide +kernel
theorem d_L_result_7 : decode b_L_result 7 = .ok (.i2l, 1) := by decide +kernel
theorem d_L_result_8 : decode b_L_result 8 = .ok (.lastore, 1) := by decide +kernel
theorem d_L_result_9 : decode b_L_result 9 = .ok (.goto 9, 3) := by decide +kernel
theorem d_L_result_12 : decode b_L_result 12 = .ok (.astore_n 3, 1) := by decide +kernel
theorem d_L_result_13 : decode b_L_result 13 = .ok (.iconst 1, 1) := by decide +kernel
theorem d_L_result_14 : decode b_L_result 14 = .ok (.ireturn, 1) := by decide +kernel
theorem d_L_result_15 : decode b_L_result 15 = .ok (.astore_n 3, 1) := by decide +kernel
theorem d_L_result_16 : decode b_L_result 16 = .ok (.iconst 2, 1) := by decide +kernel
theorem d_L_result_17 : decode b_L_result 17 = .ok (.ireturn, 1) := by decide +kernel
theorem d_L_result_18 : decode b_L_result 18 = .ok (.iconst 0, 1) := by decide +kernel
theorem d_L_result_19 : decode b_L_result 19 = .ok (.ireturn, 1) := by decide +kernel
theorem d_L_typeOf_0 : decode b_L_typeOf 0 = .ok (.aload_n 2, 1) := by decide +kernel
theorem d_L_typeOf_1 : decode b_L_typeOf 1 = .ok (.iconst 0, 1) := by decide +kernel
theorem d_L_typeOf_2 : decode b_L_typeOf 2 = .ok (.aload_n 0, 1) := by decide +kernel
theorem d_L_typeOf_3 : decode b_L_typeOf 3 = .ok (.iload_n 1, 1) := by decide +kernel
theorem d_L_typeOf_4 : decode b_L_typeOf 4 = .ok (.invokevirtual 26, 3) := by decide +kernel
theorem d_L_typeOf_7 : decode b_L_typeOf 7 = .ok (.i2l, 1) := by decide +kernel
theorem d_L_typeOf_8 : decode b_L_typeOf 8 = .ok (.lastore, 1) := by decide +kernel
theorem d_L_typeOf_9 : decode b_L_typeOf 9 = .ok (.goto 6, 3) := by decide +kernel
theorem d_L_typeOf_12 : decode b_L_typeOf 12 = .ok (.astore_n 3, 1) := by decide +kernel
theorem d_L_typeOf_13 : decode b_L_typeOf 13 = .ok (.iconst 1, 1) := by decide +kernel
theorem d_L_typeOf_14 : decode b_L_typeOf 14 = .ok (.ireturn, 1) := by decide +kernel
theorem d_L_typeOf_15 : decode b_L_typeOf 15 = .ok (.iconst 0, 1) := by decide +kernel
theorem d_L_typeOf_16 : decode b_L_typeOf 16 = .ok (.ireturn, 1) := by decide +kernel
theorem d_L_value_0 : decode b_L_value 0 = .ok (.aload 6, 2) := by decide +kernel
theorem d_L_value_2 : decode b_L_value 2 = .ok (.iconst 0, 1) := by decide +kernel
theorem d_L_value_3 : decode b_L_value 3 = .ok (.aload_n 0, 1) := by decide +kernel
theorem d_L_value_4 : decode b_L_value 4 = .ok (.iload_n 1, 1) := by decide +kernel
theorem d_L_value_5 : decode b_L_value 5 = .ok (.iload_n 2, 1) := by decide +kernel
theorem d_L_value_6 : decode b_L_value 6 = .ok (.iload_n 3, 1) := by decide +kernel
theorem d_L_value_7 : decode b_L_value 7 = .ok (.iload 4, 2) := by decide +kernel
theorem d_L_value_9 : decode b_L_value 9 = .ok (.iload 5, 2) := by decide +kernel
theorem d_L_value_11 : decode b_L_value 11 = .ok (.invokevirtual 29, 3) := by decide +kernel
theorem d_L_value_14 : decode b_L_value 14 = .ok (.i2l, 1) := by decide +kernel
theorem d_L_value_15 : decode b_L_value 15 = .ok (.lastore, 1) := by decide +kernel
theorem d_L_value_16 : decode b_L_value 16 = .ok (.goto 11, 3) := by decide +kernel
theorem d_L_value_19 : decode b_L_value 19 = .ok (.astore 7, 2) := by decide +kernel
theorem d_L_value_21 : decode b_L_value 21 = .ok (.iconst 1, 1) := by decide +kernel
theorem d_L_value_22 : decode b_L_value 22 = .ok (.ireturn, 1) := by decide +kernel
theorem d_L_value_23 : decode b_L_value 23 = .ok (.astore 7, 2) := by decide +kernel
theorem d_L_value_25 : decode b_L_value 25 = .ok (.iconst 2, 1) := by decide +kernel
theorem d_L_value_26 : decode b_L_value 26 = .ok (.ireturn, 1) := by decide +kernel
theorem d_L_value_27 : decode b_L_value 27 = .ok (.iconst 0, 1) := by decide +kernel
theorem d_L_value_28 : decode b_L_value 28 = .ok (.ireturn, 1) := by decide +kernel
theorem d_L_paint_0 : decode b_L_paint 0 = .ok (.aload_n 0, 1) := by decide +kernel
theorem d_L_paint_1 : decode b_L_paint 1 = .ok (.iload_n 1, 1) := by decide +kernel
theorem d_L_paint_2 : decode b_L_paint 2 = .ok (.iload_n 2, 1) := by decide +kernel
theorem d_L_paint_3 : decode b_L_paint 3 = .ok (.iload_n 3, 1) := by decide +kernel
theorem d_L_paint_4 : decode b_L_paint 4 = .ok (.invokevirtual 33, 3) := by decide +kernel
theorem d_L_paint_7 : decode b_L_paint 7 = .ok (.goto 11, 3) := by decide +kernel
theorem d_L_paint_10 : decode b_L_paint 10 = .ok (.astore 4, 2) := by decide +kernel
theorem d_L_paint_12 : decode b_L_paint 12 = .ok (.iconst 1, 1) := by decide +kernel
theorem d_L_paint_13 : decode b_L_paint 13 = .ok (.ireturn, 1) := by decide +kernel
theorem d_L_paint_14 : decode b_L_paint 14 = .ok (.astore 4, 2) := by decide +kernel
theorem d_L_paint_16 : decode b_L_paint 16 = .ok (.iconst 2, 1) := by decide +kernel
theorem d_L_paint_17 : decode b_L_paint 17 = .ok (.ireturn, 1) := by decide +kernel
theorem d_L_paint_18 : decode b_L_paint 18 = .ok (.iconst 0, 1) := by decide +kernel
theorem d_L_paint_19 : decode b_L_paint 19 = .ok (.ireturn, 1) := by decide +kernel
theorem d_L_run_0 : decode b_L_run 0 = .ok (.aload_n 0, 1) := by decide +kernel
theorem d_L_run_1 : decode b_L_run 1 = .ok (.iload_n 1, 1) := by decide +kernel
theorem d_L_run_2 : decode b_L_run 2 = .ok (.invokevirtual 37, 3) := by decide +kernel
theorem d_L_run_5 : decode b_L_run 5 = .ok (.goto 6, 3) := by decide +kernel
theorem d_L_run_8 : decode b_L_run 8 = .ok (.astore_n 2, 1) := by decide +kernel
theorem d_L_run_9 : decode b_L_run 9 = .ok (.iconst 1, 1) := by decide +kernel
theorem d_L_run_10 : decode b_L_run 10 = .ok (.ireturn, 1) := by decide +kernel
theorem d_L_run_11 : decode b_L_run 11 = .ok (.iconst 0, 1) := by decide +kernel
theorem d_L_run_12 : decode b_L_run 12 = .ok (.ireturn, 1) := by decide +kernel
theorem d_L_pixel_0 : decode b_L_pixel 0 = .ok (.aload_n 3, 1) := by decide +kernel
theorem d_L_pixel_1 : decode b_L_pixel 1 = .ok (.iconst 0, 1) := by decide +kernel
theorem d_L_pixel_2 : decode b_L_pixel 2 = .ok (.aload_n 0, 1) := by decide +kernel
theorem d_L_pixel_3 : decode b_L_pixel 3 = .ok (.iload_n 1, 1) := by decide +kernel
theorem d_L_pixel_4 : decode b_L_pixel 4 = .ok (.iload_n 2, 1) := by decide +kernel
theorem d_L_pixel_5 : decode b_L_pixel 5 = .ok (.invokevirtual 41, 3) := by decide +kernel
theorem d_L_pixel_8 : decode b_L_pixel 8 = .ok (.i2l, 1) := by decide +kernel
theorem d_L_pixel_9 : decode b_L_pixel 9 = .ok (.lastore, 1) := by decide +kernel
theorem d_L_pixel_10 : decode b_L_pixel 10 = .ok (.goto 7, 3) := by decide +kernel
theorem d_L_pixel_13 : decode b_L_pixel 13 = .ok (.astore 4, 2) := by decide +kernel
theorem d_L_pixel_15 : decode b_L_pixel 15 = .ok (.iconst 1, 1) := by decide +kernel
theorem d_L_pixel_16 : decode b_L_pixel 16 = .ok (.ireturn, 1) := by decide +kernel
theorem d_L_pixel_17 : decode b_L_pixel 17 = .ok (.iconst 0, 1) := by decide +kernel
theorem d_L_pixel_18 : decode b_L_pixel 18 = .ok (.ireturn, 1) := by decide +kernel
theorem hd_L_type : y_L_type.cls ≠ "java/lang/invoke/MethodHandle" ∧ y_L_type.cls ≠ "java/lang/invoke/VarHandle" ∧ (parseMethodDescriptor y_L_type.desc).map (fun d => d.parameters.length) = some 3 := by decide +kernel
theorem hd_L_instruction : y_L_instruction.cls ≠ "java/lang/invoke/MethodHandle" ∧ y_L_instruction.cls ≠ "java/lang/invoke/VarHandle" ∧ (parseMethodDescriptor y_L_instruction.desc).map (fun d => d.parameters.length) = some 4 := by decide +kernel
theorem hd_L_result : y_L_result.cls ≠ "java/lang/invoke/MethodHandle" ∧ y_L_result.cls ≠ "java/lang/invoke/VarHandle" ∧ (parseMethodDescriptor y_L_result.desc).map (fun d => d.parameters.length) = some 3 := by decide +kernel
theorem hd_L_typeOf : y_L_typeOf.cls ≠ "java/lang/invoke/MethodHandle" ∧ y_L_typeOf.cls ≠ "java/lang/invoke/VarHandle" ∧ (parseMethodDescriptor y_L_typeOf.desc).map (fun d => d.parameters.length) = some 3 := by decide +kernel
theorem hd_L_value : y_L_value.cls ≠ "java/lang/invoke/MethodHandle" ∧ y_L_value.cls ≠ "java/lang/invoke/VarHandle" ∧ (parseMethodDescriptor y_L_value.desc).map (fun d => d.parameters.length) = some 7 := by decide +kernel
theorem hd_L_paint : y_L_paint.cls ≠ "java/lang/invoke/MethodHandle" ∧ y_L_paint.cls ≠ "java/lang/invoke/VarHandle" ∧ (parseMethodDescriptor y_L_paint.desc).map (fun d => d.parameters.length) = some 4 := by decide +kernel
theorem hd_L_run : y_L_run.cls ≠ "java/lang/invoke/MethodHandle" ∧ y_L_run.cls ≠ "java/lang/invoke/VarHandle" ∧ (parseMethodDescriptor y_L_run.desc).map (fun d => d.parameters.length) = some 2 := by decide +kernel
theorem hd_L_pixel : y_L_pixel.cls ≠ "java/lang/invoke/MethodHandle" ∧ y_L_pixel.cls ≠ "java/lang/invoke/VarHandle" ∧ (parseMethodDescriptor y_L_pixel.desc).map (fun d => d.parameters.length) = some 4 := by decide +kernel
theorem mw_294 : (Cond.codeWith ({ cls := "PixelFormulaLaw", name := "type", desc := "(LPixelFormula;I[J)I" } : MethodName) method_3_code (4 : Nat) (Option.some FieldType.int) [((0 : Nat), (9 : Nat), (12 : Nat), (13 : Nat)), ((0 : Nat), (9 : Nat), (15 : Nat), (15 : Nat))]) ∈ wA := tb_in 294 (by decide +kernel) (by decide +kernel)
theorem mw_381 : (Cond.codeWith ({ cls := "PixelFormulaLaw", name := "instruction", desc := "(LPixelFormula;II[J)I" } : MethodName) method_4_code (5 : Nat) (Option.some FieldType.int) [((0 : Nat), (10 : Nat), (13 : Nat), (21 : Nat))]) ∈ wA := tb_in 381 (by decide +kernel) (by decide +kernel)
theorem mw_408 : (Cond.codeWith ({ cls := "PixelFormulaLaw", name := "result", desc := "(LPixelFormula;I[J)I" } : MethodName) method_5_code (4 : Nat) (Option.some FieldType.int) [((0 : Nat), (9 : Nat), (12 : Nat), (15 : Nat)), ((0 : Nat), (9 : Nat), (15 : Nat), (21 : Nat))]) ∈ wA := tb_in 408 (by decide +kernel) (by decide +kernel)
theorem mw_419 : (Cond.codeWith ({ cls := "PixelFormulaLaw", name := "typeOf", desc := "(LPixelFormula;I[J)I" } : MethodName) method_6_code (4 : Nat) (Option.some FieldType.int) [((0 : Nat), (9 : Nat), (12 : Nat), (21 : Nat))]) ∈ wA := tb_in 419 (by decide +kernel) (by decide +kernel)
theorem mw_426 : (Cond.codeWith ({ cls := "PixelFormulaLaw", name := "value", desc := "(LPixelFormula;IIIII[J)I" } : MethodName) method_7_code (8 : Nat) (Option.some FieldType.int) [((0 : Nat), (16 : Nat), (19 : Nat), (21 : Nat)), ((0 : Nat), (16 : Nat), (23 : Nat), (13 : Nat))]) ∈ wA := tb_in 426 (by decide +kernel) (by decide +kernel)
theorem mw_468 : (Cond.codeWith ({ cls := "PixelFormulaLaw", name := "paint", desc := "(LPixelFormula;III)I" } : MethodName) method_8_code (5 : Nat) (Option.some FieldType.int) [((0 : Nat), (7 : Nat), (10 : Nat), (21 : Nat)), ((0 : Nat), (7 : Nat), (14 : Nat), (13 : Nat))]) ∈ wA := tb_in 468 (by decide +kernel) (by decide +kernel)
theorem mw_478 : (Cond.codeWith ({ cls := "PixelFormulaLaw", name := "run", desc := "(LPixelFormula;I)I" } : MethodName) method_9_code (3 : Nat) (Option.some FieldType.int) [((0 : Nat), (5 : Nat), (8 : Nat), (15 : Nat))]) ∈ wA := tb_in 478 (by decide +kernel) (by decide +kernel)
theorem mw_492 : (Cond.codeWith ({ cls := "PixelFormulaLaw", name := "pixel", desc := "(LPixelFormula;II[J)I" } : MethodName) method_10_code (5 : Nat) (Option.some FieldType.int) [((0 : Nat), (10 : Nat), (13 : Nat), (21 : Nat))]) ∈ wA := tb_in 492 (by decide +kernel) (by decide +kernel)
