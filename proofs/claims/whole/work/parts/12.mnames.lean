abbrev zy_M_thrown : MethodName := ⟨"DeclareFormsModel", "thrown", "()I"⟩
abbrev zb_M_thrown : ByteArray := prog_7_method_2_code
theorem zh_M_thrown : zy_M_thrown.cls ≠ "java/lang/invoke/MethodHandle" ∧ zy_M_thrown.cls ≠ "java/lang/invoke/VarHandle" ∧ (parseMethodDescriptor zy_M_thrown.desc).map (fun d => d.parameters.length) = some 0 := by decide +kernel
theorem zd_M_thrown_0 : decode zb_M_thrown 0 = .ok (.aload_n 0, 1) := by decide +kernel
theorem zd_M_thrown_1 : decode zb_M_thrown 1 = .ok (.getfield 39, 3) := by decide +kernel
theorem zd_M_thrown_4 : decode zb_M_thrown 4 = .ok (.ireturn, 1) := by decide +kernel
abbrev zy_M_refuse : MethodName := ⟨"DeclareFormsModel", "refuse", "(I)I"⟩
abbrev zb_M_refuse : ByteArray := prog_7_method_3_code
theorem zh_M_refuse : zy_M_refuse.cls ≠ "java/lang/invoke/MethodHandle" ∧ zy_M_refuse.cls ≠ "java/lang/invoke/VarHandle" ∧ (parseMethodDescriptor zy_M_refuse.desc).map (fun d => d.parameters.length) = some 1 := by decide +kernel
theorem zd_M_refuse_0 : decode zb_M_refuse 0 = .ok (.aload_n 0, 1) := by decide +kernel
theorem zd_M_refuse_1 : decode zb_M_refuse 1 = .ok (.iload_n 1, 1) := by decide +kernel
theorem zd_M_refuse_2 : decode zb_M_refuse 2 = .ok (.putfield 39, 3) := by decide +kernel
theorem zd_M_refuse_5 : decode zb_M_refuse 5 = .ok (.iconst 0, 1) := by decide +kernel
theorem zd_M_refuse_6 : decode zb_M_refuse 6 = .ok (.ireturn, 1) := by decide +kernel
abbrev zy_M_in : MethodName := ⟨"DeclareFormsModel", "in", "(JJJ)Z"⟩
abbrev zb_M_in : ByteArray := prog_7_method_4_code
theorem zh_M_in : zy_M_in.cls ≠ "java/lang/invoke/MethodHandle" ∧ zy_M_in.cls ≠ "java/lang/invoke/VarHandle" ∧ (parseMethodDescriptor zy_M_in.desc).map (fun d => d.parameters.length) = some 3 := by decide +kernel
theorem zd_M_in_0 : decode zb_M_in 0 = .ok (.lload_n 0, 1) := by decide +kernel
theorem zd_M_in_1 : decode zb_M_in 1 = .ok (.lload_n 2, 1) := by decide +kernel
theorem zd_M_in_2 : decode zb_M_in 2 = .ok (.lcmp, 1) := by decide +kernel
theorem zd_M_in_3 : decode zb_M_in 3 = .ok (.ifCond .lt 14, 3) := by decide +kernel
theorem zd_M_in_6 : decode zb_M_in 6 = .ok (.lload_n 0, 1) := by decide +kernel
theorem zd_M_in_7 : decode zb_M_in 7 = .ok (.lload 4, 2) := by decide +kernel
theorem zd_M_in_9 : decode zb_M_in 9 = .ok (.lcmp, 1) := by decide +kernel
theorem zd_M_in_10 : decode zb_M_in 10 = .ok (.ifCond .gt 7, 3) := by decide +kernel
theorem zd_M_in_13 : decode zb_M_in 13 = .ok (.iconst 1, 1) := by decide +kernel
theorem zd_M_in_14 : decode zb_M_in 14 = .ok (.goto 4, 3) := by decide +kernel
theorem zd_M_in_17 : decode zb_M_in 17 = .ok (.iconst 0, 1) := by decide +kernel
theorem zd_M_in_18 : decode zb_M_in 18 = .ok (.ireturn, 1) := by decide +kernel
abbrev zy_M_isLine : MethodName := ⟨"DeclareFormsModel", "isLine", "(I)Z"⟩
abbrev zb_M_isLine : ByteArray := prog_7_method_5_code
theorem zh_M_isLine : zy_M_isLine.cls ≠ "java/lang/invoke/MethodHandle" ∧ zy_M_isLine.cls ≠ "java/lang/invoke/VarHandle" ∧ (parseMethodDescriptor zy_M_isLine.desc).map (fun d => d.parameters.length) = some 1 := by decide +kernel
theorem zd_M_isLine_0 : decode zb_M_isLine 0 = .ok (.iload_n 1, 1) := by decide +kernel
theorem zd_M_isLine_1 : decode zb_M_isLine 1 = .ok (.iconst 1, 1) := by decide +kernel
theorem zd_M_isLine_2 : decode zb_M_isLine 2 = .ok (.if_icmp .lt 41, 3) := by decide +kernel
theorem zd_M_isLine_5 : decode zb_M_isLine 5 = .ok (.iload_n 1, 1) := by decide +kernel
theorem zd_M_isLine_6 : decode zb_M_isLine 6 = .ok (.aload_n 0, 1) := by decide +kernel
theorem zd_M_isLine_7 : decode zb_M_isLine 7 = .ok (.getfield 42, 3) := by decide +kernel
theorem zd_M_isLine_10 : decode zb_M_isLine 10 = .ok (.if_icmp .gt 33, 3) := by decide +kernel
theorem zd_M_isLine_13 : decode zb_M_isLine 13 = .ok (.aload_n 0, 1) := by decide +kernel
theorem zd_M_isLine_14 : decode zb_M_isLine 14 = .ok (.getfield 7, 3) := by decide +kernel
theorem zd_M_isLine_17 : decode zb_M_isLine 17 = .ok (.iload_n 1, 1) := by decide +kernel
theorem zd_M_isLine_18 : decode zb_M_isLine 18 = .ok (.iconst 1, 1) := by decide +kernel
theorem zd_M_isLine_19 : decode zb_M_isLine 19 = .ok (.if_icmp .lt 15, 3) := by decide +kernel
theorem zd_M_isLine_22 : decode zb_M_isLine 22 = .ok (.iload_n 1, 1) := by decide +kernel
theorem zd_M_isLine_23 : decode zb_M_isLine 23 = .ok (.aload_n 0, 1) := by decide +kernel
theorem zd_M_isLine_24 : decode zb_M_isLine 24 = .ok (.getfield 42, 3) := by decide +kernel
theorem zd_M_isLine_27 : decode zb_M_isLine 27 = .ok (.if_icmp .gt 7, 3) := by decide +kernel
theorem zd_M_isLine_30 : decode zb_M_isLine 30 = .ok (.iload_n 1, 1) := by decide +kernel
theorem zd_M_isLine_31 : decode zb_M_isLine 31 = .ok (.goto 4, 3) := by decide +kernel
theorem zd_M_isLine_35 : decode zb_M_isLine 35 = .ok (.baload, 1) := by decide +kernel
theorem zd_M_isLine_36 : decode zb_M_isLine 36 = .ok (.ifCond .ne 7, 3) := by decide +kernel
theorem zd_M_isLine_39 : decode zb_M_isLine 39 = .ok (.iconst 1, 1) := by decide +kernel
theorem zd_M_isLine_40 : decode zb_M_isLine 40 = .ok (.goto 4, 3) := by decide +kernel
theorem zd_M_isLine_43 : decode zb_M_isLine 43 = .ok (.iconst 0, 1) := by decide +kernel
theorem zd_M_isLine_44 : decode zb_M_isLine 44 = .ok (.ireturn, 1) := by decide +kernel
abbrev zy_M_isPlace : MethodName := ⟨"DeclareFormsModel", "isPlace", "(II)Z"⟩
abbrev zb_M_isPlace : ByteArray := prog_7_method_6_code
theorem zh_M_isPlace : zy_M_isPlace.cls ≠ "java/lang/invoke/MethodHandle" ∧ zy_M_isPlace.cls ≠ "java/lang/invoke/VarHandle" ∧ (parseMethodDescriptor zy_M_isPlace.desc).map (fun d => d.parameters.length) = some 2 := by decide +kernel
theorem zd_M_isPlace_0 : decode zb_M_isPlace 0 = .ok (.iload_n 2, 1) := by decide +kernel
theorem zd_M_isPlace_1 : decode zb_M_isPlace 1 = .ok (.ifCond .ne 15, 3) := by decide +kernel
theorem zd_M_isPlace_4 : decode zb_M_isPlace 4 = .ok (.iload_n 1, 1) := by decide +kernel
theorem zd_M_isPlace_5 : decode zb_M_isPlace 5 = .ok (.i2l, 1) := by decide +kernel
theorem zd_M_isPlace_6 : decode zb_M_isPlace 6 = .ok (.lconst 0, 1) := by decide +kernel
theorem zd_M_isPlace_7 : decode zb_M_isPlace 7 = .ok (.ldc2_w 45, 3) := by decide +kernel
theorem zd_M_isPlace_10 : decode zb_M_isPlace 10 = .ok (.invokestatic 47, 3) := by decide +kernel
theorem zd_M_isPlace_13 : decode zb_M_isPlace 13 = .ok (.goto 30, 3) := by decide +kernel
theorem zd_M_isPlace_16 : decode zb_M_isPlace 16 = .ok (.iload_n 1, 1) := by decide +kernel
theorem zd_M_isPlace_17 : decode zb_M_isPlace 17 = .ok (.i2l, 1) := by decide +kernel
theorem zd_M_isPlace_18 : decode zb_M_isPlace 18 = .ok (.ldc2_w 51, 3) := by decide +kernel
theorem zd_M_isPlace_21 : decode zb_M_isPlace 21 = .ok (.ldc2_w 53, 3) := by decide +kernel
theorem zd_M_isPlace_24 : decode zb_M_isPlace 24 = .ok (.invokestatic 47, 3) := by decide +kernel
theorem zd_M_isPlace_27 : decode zb_M_isPlace 27 = .ok (.ifCond .eq 15, 3) := by decide +kernel
theorem zd_M_isPlace_30 : decode zb_M_isPlace 30 = .ok (.aload_n 0, 1) := by decide +kernel
theorem zd_M_isPlace_31 : decode zb_M_isPlace 31 = .ok (.iload_n 2, 1) := by decide +kernel
theorem zd_M_isPlace_32 : decode zb_M_isPlace 32 = .ok (.invokevirtual 55, 3) := by decide +kernel
theorem zd_M_isPlace_35 : decode zb_M_isPlace 35 = .ok (.ifCond .eq 7, 3) := by decide +kernel
theorem zd_M_isPlace_38 : decode zb_M_isPlace 38 = .ok (.iconst 1, 1) := by decide +kernel
theorem zd_M_isPlace_39 : decode zb_M_isPlace 39 = .ok (.goto 4, 3) := by decide +kernel
theorem zd_M_isPlace_42 : decode zb_M_isPlace 42 = .ok (.iconst 0, 1) := by decide +kernel
theorem zd_M_isPlace_43 : decode zb_M_isPlace 43 = .ok (.ireturn, 1) := by decide +kernel
abbrev zy_M_at : MethodName := ⟨"DeclareFormsModel", "at", "(II)I"⟩
abbrev zb_M_at : ByteArray := prog_7_method_7_code
theorem zh_M_at : zy_M_at.cls ≠ "java/lang/invoke/MethodHandle" ∧ zy_M_at.cls ≠ "java/lang/invoke/VarHandle" ∧ (parseMethodDescriptor zy_M_at.desc).map (fun d => d.parameters.length) = some 2 := by decide +kernel
theorem zd_M_at_0 : decode zb_M_at 0 = .ok (.bipush 10, 2) := by decide +kernel
theorem zd_M_at_2 : decode zb_M_at 2 = .ok (.iload_n 1, 1) := by decide +kernel
theorem zd_M_at_3 : decode zb_M_at 3 = .ok (.imul, 1) := by decide +kernel
theorem zd_M_at_4 : decode zb_M_at 4 = .ok (.iload_n 0, 1) := by decide +kernel
theorem zd_M_at_5 : decode zb_M_at 5 = .ok (.bipush 10, 2) := by decide +kernel
theorem zd_M_at_7 : decode zb_M_at 7 = .ok (.irem, 1) := by decide +kernel
theorem zd_M_at_8 : decode zb_M_at 8 = .ok (.iadd, 1) := by decide +kernel
theorem zd_M_at_9 : decode zb_M_at 9 = .ok (.ireturn, 1) := by decide +kernel
abbrev zy_M_needOf : MethodName := ⟨"DeclareFormsModel", "needOf", "(II)I"⟩
abbrev zb_M_needOf : ByteArray := prog_7_method_8_code
theorem zh_M_needOf : zy_M_needOf.cls ≠ "java/lang/invoke/MethodHandle" ∧ zy_M_needOf.cls ≠ "java/lang/invoke/VarHandle" ∧ (parseMethodDescriptor zy_M_needOf.desc).map (fun d => d.parameters.length) = some 2 := by decide +kernel
theorem zd_M_needOf_0 : decode zb_M_needOf 0 = .ok (.iconst 3, 1) := by decide +kernel
theorem zd_M_needOf_1 : decode zb_M_needOf 1 = .ok (.iload_n 0, 1) := by decide +kernel
theorem zd_M_needOf_2 : decode zb_M_needOf 2 = .ok (.imul, 1) := by decide +kernel
theorem zd_M_needOf_3 : decode zb_M_needOf 3 = .ok (.iconst 5, 1) := by decide +kernel
theorem zd_M_needOf_4 : decode zb_M_needOf 4 = .ok (.iload_n 1, 1) := by decide +kernel
theorem zd_M_needOf_5 : decode zb_M_needOf 5 = .ok (.imul, 1) := by decide +kernel
theorem zd_M_needOf_6 : decode zb_M_needOf 6 = .ok (.iadd, 1) := by decide +kernel
theorem zd_M_needOf_7 : decode zb_M_needOf 7 = .ok (.iconst 4, 1) := by decide +kernel
theorem zd_M_needOf_8 : decode zb_M_needOf 8 = .ok (.irem, 1) := by decide +kernel
theorem zd_M_needOf_9 : decode zb_M_needOf 9 = .ok (.ireturn, 1) := by decide +kernel
abbrev zy_M_line : MethodName := ⟨"DeclareFormsModel", "line", "()I"⟩
abbrev zb_M_line : ByteArray := prog_7_method_9_code
theorem zh_M_line : zy_M_line.cls ≠ "java/lang/invoke/MethodHandle" ∧ zy_M_line.cls ≠ "java/lang/invoke/VarHandle" ∧ (parseMethodDescriptor zy_M_line.desc).map (fun d => d.parameters.length) = some 0 := by decide +kernel
theorem zd_M_line_0 : decode zb_M_line 0 = .ok (.aload_n 0, 1) := by decide +kernel
theorem zd_M_line_1 : decode zb_M_line 1 = .ok (.getfield 42, 3) := by decide +kernel
theorem zd_M_line_4 : decode zb_M_line 4 = .ok (.bipush 30, 2) := by decide +kernel
theorem zd_M_line_6 : decode zb_M_line 6 = .ok (.if_icmp .eq 10, 3) := by decide +kernel
theorem zd_M_line_9 : decode zb_M_line 9 = .ok (.aload_n 0, 1) := by decide +kernel
theorem zd_M_line_10 : decode zb_M_line 10 = .ok (.getfield 59, 3) := by decide +kernel
theorem zd_M_line_13 : decode zb_M_line 13 = .ok (.ifCond .eq 9, 3) := by decide +kernel
theorem zd_M_line_16 : decode zb_M_line 16 = .ok (.aload_n 0, 1) := by decide +kernel
theorem zd_M_line_17 : decode zb_M_line 17 = .ok (.iconst 1, 1) := by decide +kernel
theorem zd_M_line_18 : decode zb_M_line 18 = .ok (.invokevirtual 63, 3) := by decide +kernel
theorem zd_M_line_21 : decode zb_M_line 21 = .ok (.ireturn, 1) := by decide +kernel
theorem zd_M_line_22 : decode zb_M_line 22 = .ok (.aload_n 0, 1) := by decide +kernel
theorem zd_M_line_23 : decode zb_M_line 23 = .ok (.iconst 0, 1) := by decide +kernel
theorem zd_M_line_24 : decode zb_M_line 24 = .ok (.putfield 39, 3) := by decide +kernel
theorem zd_M_line_27 : decode zb_M_line 27 = .ok (.aload_n 0, 1) := by decide +kernel
theorem zd_M_line_28 : decode zb_M_line 28 = .ok (.dup, 1) := by decide +kernel
theorem zd_M_line_29 : decode zb_M_line 29 = .ok (.getfield 42, 3) := by decide +kernel
theorem zd_M_line_32 : decode zb_M_line 32 = .ok (.iconst 1, 1) := by decide +kernel
theorem zd_M_line_33 : decode zb_M_line 33 = .ok (.iadd, 1) := by decide +kernel
theorem zd_M_line_34 : decode zb_M_line 34 = .ok (.putfield 42, 3) := by decide +kernel
theorem zd_M_line_37 : decode zb_M_line 37 = .ok (.aload_n 0, 1) := by decide +kernel
theorem zd_M_line_38 : decode zb_M_line 38 = .ok (.getfield 42, 3) := by decide +kernel
theorem zd_M_line_41 : decode zb_M_line 41 = .ok (.ireturn, 1) := by decide +kernel
abbrev zy_M_setIn : MethodName := ⟨"DeclareFormsModel", "setIn", "(I)I"⟩
abbrev zb_M_setIn : ByteArray := prog_7_method_10_code
theorem zh_M_setIn : zy_M_setIn.cls ≠ "java/lang/invoke/MethodHandle" ∧ zy_M_setIn.cls ≠ "java/lang/invoke/VarHandle" ∧ (parseMethodDescriptor zy_M_setIn.desc).map (fun d => d.parameters.length) = some 1 := by decide +kernel
theorem zd_M_setIn_0 : decode zb_M_setIn 0 = .ok (.iconst 0, 1) := by decide +kernel
theorem zd_M_setIn_1 : decode zb_M_setIn 1 = .ok (.istore_n 2, 1) := by decide +kernel
theorem zd_M_setIn_2 : decode zb_M_setIn 2 = .ok (.bipush 10, 2) := by decide +kernel
theorem zd_M_setIn_4 : decode zb_M_setIn 4 = .ok (.iload_n 1, 1) := by decide +kernel
theorem zd_M_setIn_5 : decode zb_M_setIn 5 = .ok (.imul, 1) := by decide +kernel
theorem zd_M_setIn_6 : decode zb_M_setIn 6 = .ok (.istore_n 3, 1) := by decide +kernel
theorem zd_M_setIn_7 : decode zb_M_setIn 7 = .ok (.iload_n 3, 1) := by decide +kernel
theorem zd_M_setIn_8 : decode zb_M_setIn 8 = .ok (.bipush 10, 2) := by decide +kernel
theorem zd_M_setIn_10 : decode zb_M_setIn 10 = .ok (.iload_n 1, 1) := by decide +kernel
theorem zd_M_setIn_11 : decode zb_M_setIn 11 = .ok (.imul, 1) := by decide +kernel
theorem zd_M_setIn_12 : decode zb_M_setIn 12 = .ok (.bipush 10, 2) := by decide +kernel
theorem zd_M_setIn_14 : decode zb_M_setIn 14 = .ok (.iadd, 1) := by decide +kernel
theorem zd_M_setIn_15 : decode zb_M_setIn 15 = .ok (.if_icmp .ge 30, 3) := by decide +kernel
theorem zd_M_setIn_18 : decode zb_M_setIn 18 = .ok (.iload_n 2, 1) := by decide +kernel
theorem zd_M_setIn_19 : decode zb_M_setIn 19 = .ok (.aload_n 0, 1) := by decide +kernel
theorem zd_M_setIn_20 : decode zb_M_setIn 20 = .ok (.getfield 13, 3) := by decide +kernel
theorem zd_M_setIn_23 : decode zb_M_setIn 23 = .ok (.iload_n 3, 1) := by decide +kernel
theorem zd_M_setIn_24 : decode zb_M_setIn 24 = .ok (.laload, 1) := by decide +kernel
theorem zd_M_setIn_25 : decode zb_M_setIn 25 = .ok (.ldc2_w 37, 3) := by decide +kernel
theorem zd_M_setIn_28 : decode zb_M_setIn 28 = .ok (.lcmp, 1) := by decide +kernel
theorem zd_M_setIn_29 : decode zb_M_setIn 29 = .ok (.ifCond .ne 7, 3) := by decide +kernel
theorem zd_M_setIn_32 : decode zb_M_setIn 32 = .ok (.iconst 0, 1) := by decide +kernel
theorem zd_M_setIn_33 : decode zb_M_setIn 33 = .ok (.goto 4, 3) := by decide +kernel
theorem zd_M_setIn_36 : decode zb_M_setIn 36 = .ok (.iconst 1, 1) := by decide +kernel
theorem zd_M_setIn_37 : decode zb_M_setIn 37 = .ok (.iadd, 1) := by decide +kernel
theorem zd_M_setIn_38 : decode zb_M_setIn 38 = .ok (.istore_n 2, 1) := by decide +kernel
theorem zd_M_setIn_39 : decode zb_M_setIn 39 = .ok (.iinc 3 1, 3) := by decide +kernel
theorem zd_M_setIn_42 : decode zb_M_setIn 42 = .ok (.goto (-35), 3) := by decide +kernel
theorem zd_M_setIn_45 : decode zb_M_setIn 45 = .ok (.iload_n 2, 1) := by decide +kernel
theorem zd_M_setIn_46 : decode zb_M_setIn 46 = .ok (.ireturn, 1) := by decide +kernel
abbrev zy_M_remove : MethodName := ⟨"DeclareFormsModel", "remove", "(I)I"⟩
abbrev zb_M_remove : ByteArray := prog_7_method_11_code
theorem zh_M_remove : zy_M_remove.cls ≠ "java/lang/invoke/MethodHandle" ∧ zy_M_remove.cls ≠ "java/lang/invoke/VarHandle" ∧ (parseMethodDescriptor zy_M_remove.desc).map (fun d => d.parameters.length) = some 1 := by decide +kernel
theorem zd_M_remove_0 : decode zb_M_remove 0 = .ok (.aload_n 0, 1) := by decide +kernel
theorem zd_M_remove_1 : decode zb_M_remove 1 = .ok (.iconst 0, 1) := by decide +kernel
theorem zd_M_remove_2 : decode zb_M_remove 2 = .ok (.putfield 39, 3) := by decide +kernel
theorem zd_M_remove_5 : decode zb_M_remove 5 = .ok (.aload_n 0, 1) := by decide +kernel
theorem zd_M_remove_6 : decode zb_M_remove 6 = .ok (.iload_n 1, 1) := by decide +kernel
theorem zd_M_remove_7 : decode zb_M_remove 7 = .ok (.invokevirtual 55, 3) := by decide +kernel
theorem zd_M_remove_10 : decode zb_M_remove 10 = .ok (.ifCond .eq 10, 3) := by decide +kernel
theorem zd_M_remove_13 : decode zb_M_remove 13 = .ok (.aload_n 0, 1) := by decide +kernel
theorem zd_M_remove_14 : decode zb_M_remove 14 = .ok (.getfield 59, 3) := by decide +kernel
theorem zd_M_remove_17 : decode zb_M_remove 17 = .ok (.ifCond .eq 5, 3) := by decide +kernel
theorem zd_M_remove_20 : decode zb_M_remove 20 = .ok (.iconst (-1), 1) := by decide +kernel
theorem zd_M_remove_21 : decode zb_M_remove 21 = .ok (.ireturn, 1) := by decide +kernel
theorem zd_M_remove_22 : decode zb_M_remove 22 = .ok (.aload_n 0, 1) := by decide +kernel
theorem zd_M_remove_23 : decode zb_M_remove 23 = .ok (.iload_n 1, 1) := by decide +kernel
theorem zd_M_remove_24 : decode zb_M_remove 24 = .ok (.invokevirtual 67, 3) := by decide +kernel
theorem zd_M_remove_27 : decode zb_M_remove 27 = .ok (.istore_n 2, 1) := by decide +kernel
theorem zd_M_remove_28 : decode zb_M_remove 28 = .ok (.aload_n 0, 1) := by decide +kernel
theorem zd_M_remove_29 : decode zb_M_remove 29 = .ok (.getfield 7, 3) := by decide +kernel
theorem zd_M_remove_32 : decode zb_M_remove 32 = .ok (.iload_n 1, 1) := by decide +kernel
theorem zd_M_remove_33 : decode zb_M_remove 33 = .ok (.iconst 1, 1) := by decide +kernel
theorem zd_M_remove_34 : decode zb_M_remove 34 = .ok (.bastore, 1) := by decide +kernel
theorem zd_M_remove_35 : decode zb_M_remove 35 = .ok (.bipush 10, 2) := by decide +kernel
theorem zd_M_remove_37 : decode zb_M_remove 37 = .ok (.iload_n 1, 1) := by decide +kernel
theorem zd_M_remove_38 : decode zb_M_remove 38 = .ok (.imul, 1) := by decide +kernel
theorem zd_M_remove_39 : decode zb_M_remove 39 = .ok (.istore_n 3, 1) := by decide +kernel
theorem zd_M_remove_40 : decode zb_M_remove 40 = .ok (.iload_n 3, 1) := by decide +kernel
theorem zd_M_remove_41 : decode zb_M_remove 41 = .ok (.bipush 10, 2) := by decide +kernel
theorem zd_M_remove_43 : decode zb_M_remove 43 = .ok (.iload_n 1, 1) := by decide +kernel
theorem zd_M_remove_44 : decode zb_M_remove 44 = .ok (.imul, 1) := by decide +kernel
theorem zd_M_remove_45 : decode zb_M_remove 45 = .ok (.bipush 10, 2) := by decide +kernel
theorem zd_M_remove_47 : decode zb_M_remove 47 = .ok (.iadd, 1) := by decide +kernel
theorem zd_M_remove_48 : decode zb_M_remove 48 = .ok (.if_icmp .ge 18, 3) := by decide +kernel
theorem zd_M_remove_51 : decode zb_M_remove 51 = .ok (.aload_n 0, 1) := by decide +kernel
theorem zd_M_remove_52 : decode zb_M_remove 52 = .ok (.getfield 13, 3) := by decide +kernel
theorem zd_M_remove_55 : decode zb_M_remove 55 = .ok (.iload_n 3, 1) := by decide +kernel
theorem zd_M_remove_56 : decode zb_M_remove 56 = .ok (.ldc2_w 37, 3) := by decide +kernel
theorem zd_M_remove_59 : decode zb_M_remove 59 = .ok (.lastore, 1) := by decide +kernel
theorem zd_M_remove_60 : decode zb_M_remove 60 = .ok (.iinc 3 1, 3) := by decide +kernel
theorem zd_M_remove_63 : decode zb_M_remove 63 = .ok (.goto (-23), 3) := by decide +kernel
theorem zd_M_remove_66 : decode zb_M_remove 66 = .ok (.iconst 0, 1) := by decide +kernel
theorem zd_M_remove_67 : decode zb_M_remove 67 = .ok (.istore_n 3, 1) := by decide +kernel
theorem zd_M_remove_68 : decode zb_M_remove 68 = .ok (.iload_n 3, 1) := by decide +kernel
theorem zd_M_remove_69 : decode zb_M_remove 69 = .ok (.aload_n 0, 1) := by decide +kernel
theorem zd_M_remove_70 : decode zb_M_remove 70 = .ok (.getfield 70, 3) := by decide +kernel
theorem zd_M_remove_73 : decode zb_M_remove 73 = .ok (.if_icmp .ge 41, 3) := by decide +kernel
theorem zd_M_remove_76 : decode zb_M_remove 76 = .ok (.aload_n 0, 1) := by decide +kernel
theorem zd_M_remove_77 : decode zb_M_remove 77 = .ok (.getfield 27, 3) := by decide +kernel
theorem zd_M_remove_80 : decode zb_M_remove 80 = .ok (.iload_n 3, 1) := by decide +kernel
theorem zd_M_remove_81 : decode zb_M_remove 81 = .ok (.dup2, 1) := by decide +kernel
theorem zd_M_remove_82 : decode zb_M_remove 82 = .ok (.iaload, 1) := by decide +kernel
theorem zd_M_remove_83 : decode zb_M_remove 83 = .ok (.aload_n 0, 1) := by decide +kernel
theorem zd_M_remove_84 : decode zb_M_remove 84 = .ok (.getfield 30, 3) := by decide +kernel
theorem zd_M_remove_87 : decode zb_M_remove 87 = .ok (.bipush 20, 2) := by decide +kernel
theorem zd_M_remove_89 : decode zb_M_remove 89 = .ok (.iload_n 1, 1) := by decide +kernel
theorem zd_M_remove_90 : decode zb_M_remove 90 = .ok (.imul, 1) := by decide +kernel
theorem zd_M_remove_91 : decode zb_M_remove 91 = .ok (.iload_n 3, 1) := by decide +kernel
theorem zd_M_remove_92 : decode zb_M_remove 92 = .ok (.iadd, 1) := by decide +kernel
theorem zd_M_remove_93 : decode zb_M_remove 93 = .ok (.iaload, 1) := by decide +kernel
theorem zd_M_remove_94 : decode zb_M_remove 94 = .ok (.iadd, 1) := by decide +kernel
theorem zd_M_remove_95 : decode zb_M_remove 95 = .ok (.iastore, 1) := by decide +kernel
theorem zd_M_remove_96 : decode zb_M_remove 96 = .ok (.aload_n 0, 1) := by decide +kernel
theorem zd_M_remove_97 : decode zb_M_remove 97 = .ok (.getfield 30, 3) := by decide +kernel
theorem zd_M_remove_100 : decode zb_M_remove 100 = .ok (.bipush 20, 2) := by decide +kernel
theorem zd_M_remove_102 : decode zb_M_remove 102 = .ok (.iload_n 1, 1) := by decide +kernel
theorem zd_M_remove_103 : decode zb_M_remove 103 = .ok (.imul, 1) := by decide +kernel
theorem zd_M_remove_104 : decode zb_M_remove 104 = .ok (.iload_n 3, 1) := by decide +kernel
theorem zd_M_remove_105 : decode zb_M_remove 105 = .ok (.iadd, 1) := by decide +kernel
theorem zd_M_remove_106 : decode zb_M_remove 106 = .ok (.iconst 0, 1) := by decide +kernel
theorem zd_M_remove_107 : decode zb_M_remove 107 = .ok (.iastore, 1) := by decide +kernel
theorem zd_M_remove_108 : decode zb_M_remove 108 = .ok (.iinc 3 1, 3) := by decide +kernel
theorem zd_M_remove_111 : decode zb_M_remove 111 = .ok (.goto (-43), 3) := by decide +kernel
theorem zd_M_remove_114 : decode zb_M_remove 114 = .ok (.iload_n 2, 1) := by decide +kernel
theorem zd_M_remove_115 : decode zb_M_remove 115 = .ok (.ireturn, 1) := by decide +kernel
abbrev zy_M_field : MethodName := ⟨"DeclareFormsModel", "field", "(IIJ)I"⟩
abbrev zb_M_field : ByteArray := prog_7_method_12_code
theorem zh_M_field : zy_M_field.cls ≠ "java/lang/invoke/MethodHandle" ∧ zy_M_field.cls ≠ "java/lang/invoke/VarHandle" ∧ (parseMethodDescriptor zy_M_field.desc).map (fun d => d.parameters.length) = some 3 := by decide +kernel
theorem zd_M_field_0 : decode zb_M_field 0 = .ok (.aload_n 0, 1) := by decide +kernel
theorem zd_M_field_1 : decode zb_M_field 1 = .ok (.iload_n 1, 1) := by decide +kernel
theorem zd_M_field_2 : decode zb_M_field 2 = .ok (.iload_n 2, 1) := by decide +kernel
theorem zd_M_field_3 : decode zb_M_field 3 = .ok (.invokevirtual 73, 3) := by decide +kernel
theorem zd_M_field_6 : decode zb_M_field 6 = .ok (.ifCond .eq 14, 3) := by decide +kernel
theorem zd_M_field_9 : decode zb_M_field 9 = .ok (.lload_n 3, 1) := by decide +kernel
theorem zd_M_field_10 : decode zb_M_field 10 = .ok (.lconst 0, 1) := by decide +kernel
theorem zd_M_field_11 : decode zb_M_field 11 = .ok (.ldc2_w 77, 3) := by decide +kernel
theorem zd_M_field_14 : decode zb_M_field 14 = .ok (.invokestatic 47, 3) := by decide +kernel
theorem zd_M_field_17 : decode zb_M_field 17 = .ok (.ifCond .ne 9, 3) := by decide +kernel
theorem zd_M_field_20 : decode zb_M_field 20 = .ok (.aload_n 0, 1) := by decide +kernel
theorem zd_M_field_21 : decode zb_M_field 21 = .ok (.iconst 1, 1) := by decide +kernel
theorem zd_M_field_22 : decode zb_M_field 22 = .ok (.invokevirtual 63, 3) := by decide +kernel
theorem zd_M_field_25 : decode zb_M_field 25 = .ok (.ireturn, 1) := by decide +kernel
theorem zd_M_field_26 : decode zb_M_field 26 = .ok (.aload_n 0, 1) := by decide +kernel
theorem zd_M_field_27 : decode zb_M_field 27 = .ok (.iconst 0, 1) := by decide +kernel
theorem zd_M_field_28 : decode zb_M_field 28 = .ok (.putfield 39, 3) := by decide +kernel
theorem zd_M_field_31 : decode zb_M_field 31 = .ok (.iload_n 1, 1) := by decide +kernel
theorem zd_M_field_32 : decode zb_M_field 32 = .ok (.aload_n 0, 1) := by decide +kernel
theorem zd_M_field_33 : decode zb_M_field 33 = .ok (.getfield 33, 3) := by decide +kernel
theorem zd_M_field_36 : decode zb_M_field 36 = .ok (.invokestatic 79, 3) := by decide +kernel
theorem zd_M_field_39 : decode zb_M_field 39 = .ok (.iconst 3, 1) := by decide +kernel
theorem zd_M_field_40 : decode zb_M_field 40 = .ok (.if_icmp .eq 10, 3) := by decide +kernel
theorem zd_M_field_43 : decode zb_M_field 43 = .ok (.aload_n 0, 1) := by decide +kernel
theorem zd_M_field_44 : decode zb_M_field 44 = .ok (.getfield 59, 3) := by decide +kernel
theorem zd_M_field_47 : decode zb_M_field 47 = .ok (.ifCond .eq 5, 3) := by decide +kernel
theorem zd_M_field_50 : decode zb_M_field 50 = .ok (.iconst 0, 1) := by decide +kernel
theorem zd_M_field_51 : decode zb_M_field 51 = .ok (.ireturn, 1) := by decide +kernel
theorem zd_M_field_52 : decode zb_M_field 52 = .ok (.aload_n 0, 1) := by decide +kernel
theorem zd_M_field_53 : decode zb_M_field 53 = .ok (.getfield 13, 3) := by decide +kernel
theorem zd_M_field_56 : decode zb_M_field 56 = .ok (.iload_n 1, 1) := by decide +kernel
theorem zd_M_field_57 : decode zb_M_field 57 = .ok (.iload_n 2, 1) := by decide +kernel
theorem zd_M_field_58 : decode zb_M_field 58 = .ok (.invokestatic 83, 3) := by decide +kernel
theorem zd_M_field_61 : decode zb_M_field 61 = .ok (.lload_n 3, 1) := by decide +kernel
theorem zd_M_field_62 : decode zb_M_field 62 = .ok (.lastore, 1) := by decide +kernel
theorem zd_M_field_63 : decode zb_M_field 63 = .ok (.iconst 1, 1) := by decide +kernel
theorem zd_M_field_64 : decode zb_M_field 64 = .ok (.ireturn, 1) := by decide +kernel
abbrev zy_M_clear : MethodName := ⟨"DeclareFormsModel", "clear", "(II)Z"⟩
abbrev zb_M_clear : ByteArray := prog_7_method_13_code
theorem zh_M_clear : zy_M_clear.cls ≠ "java/lang/invoke/MethodHandle" ∧ zy_M_clear.cls ≠ "java/lang/invoke/VarHandle" ∧ (parseMethodDescriptor zy_M_clear.desc).map (fun d => d.parameters.length) = some 2 := by decide +kernel
theorem zd_M_clear_0 : decode zb_M_clear 0 = .ok (.aload_n 0, 1) := by decide +kernel
theorem zd_M_clear_1 : decode zb_M_clear 1 = .ok (.iconst 0, 1) := by decide +kernel
theorem zd_M_clear_2 : decode zb_M_clear 2 = .ok (.putfield 39, 3) := by decide +kernel
theorem zd_M_clear_5 : decode zb_M_clear 5 = .ok (.aload_n 0, 1) := by decide +kernel
theorem zd_M_clear_6 : decode zb_M_clear 6 = .ok (.iload_n 1, 1) := by decide +kernel
theorem zd_M_clear_7 : decode zb_M_clear 7 = .ok (.iload_n 2, 1) := by decide +kernel
theorem zd_M_clear_8 : decode zb_M_clear 8 = .ok (.invokevirtual 73, 3) := by decide +kernel
theorem zd_M_clear_11 : decode zb_M_clear 11 = .ok (.ifCond .eq 40, 3) := by decide +kernel
theorem zd_M_clear_14 : decode zb_M_clear 14 = .ok (.aload_n 0, 1) := by decide +kernel
theorem zd_M_clear_15 : decode zb_M_clear 15 = .ok (.getfield 59, 3) := by decide +kernel
theorem zd_M_clear_18 : decode zb_M_clear 18 = .ok (.ifCond .ne 33, 3) := by decide +kernel
theorem zd_M_clear_21 : decode zb_M_clear 21 = .ok (.aload_n 0, 1) := by decide +kernel
theorem zd_M_clear_22 : decode zb_M_clear 22 = .ok (.getfield 13, 3) := by decide +kernel
theorem zd_M_clear_25 : decode zb_M_clear 25 = .ok (.aload_n 0, 1) := by decide +kernel
theorem zd_M_clear_26 : decode zb_M_clear 26 = .ok (.iload_n 1, 1) := by decide +kernel
theorem zd_M_clear_27 : decode zb_M_clear 27 = .ok (.iload_n 2, 1) := by decide +kernel
theorem zd_M_clear_28 : decode zb_M_clear 28 = .ok (.invokevirtual 73, 3) := by decide +kernel
theorem zd_M_clear_31 : decode zb_M_clear 31 = .ok (.ifCond .eq 11, 3) := by decide +kernel
theorem zd_M_clear_34 : decode zb_M_clear 34 = .ok (.iload_n 1, 1) := by decide +kernel
theorem zd_M_clear_35 : decode zb_M_clear 35 = .ok (.iload_n 2, 1) := by decide +kernel
theorem zd_M_clear_36 : decode zb_M_clear 36 = .ok (.invokestatic 83, 3) := by decide +kernel
theorem zd_M_clear_39 : decode zb_M_clear 39 = .ok (.goto 4, 3) := by decide +kernel
theorem zd_M_clear_43 : decode zb_M_clear 43 = .ok (.laload, 1) := by decide +kernel
theorem zd_M_clear_44 : decode zb_M_clear 44 = .ok (.ldc2_w 37, 3) := by decide +kernel
theorem zd_M_clear_47 : decode zb_M_clear 47 = .ok (.lcmp, 1) := by decide +kernel
theorem zd_M_clear_48 : decode zb_M_clear 48 = .ok (.ifCond .ne 5, 3) := by decide +kernel
theorem zd_M_clear_51 : decode zb_M_clear 51 = .ok (.iconst 0, 1) := by decide +kernel
theorem zd_M_clear_52 : decode zb_M_clear 52 = .ok (.ireturn, 1) := by decide +kernel
theorem zd_M_clear_53 : decode zb_M_clear 53 = .ok (.aload_n 0, 1) := by decide +kernel
theorem zd_M_clear_54 : decode zb_M_clear 54 = .ok (.getfield 13, 3) := by decide +kernel
theorem zd_M_clear_57 : decode zb_M_clear 57 = .ok (.iload_n 1, 1) := by decide +kernel
theorem zd_M_clear_58 : decode zb_M_clear 58 = .ok (.iload_n 2, 1) := by decide +kernel
theorem zd_M_clear_59 : decode zb_M_clear 59 = .ok (.invokestatic 83, 3) := by decide +kernel
theorem zd_M_clear_62 : decode zb_M_clear 62 = .ok (.ldc2_w 37, 3) := by decide +kernel
theorem zd_M_clear_65 : decode zb_M_clear 65 = .ok (.lastore, 1) := by decide +kernel
theorem zd_M_clear_66 : decode zb_M_clear 66 = .ok (.iconst 1, 1) := by decide +kernel
theorem zd_M_clear_67 : decode zb_M_clear 67 = .ok (.ireturn, 1) := by decide +kernel
abbrev zy_M_value : MethodName := ⟨"DeclareFormsModel", "value", "(II)J"⟩
abbrev zb_M_value : ByteArray := prog_7_method_14_code
theorem zh_M_value : zy_M_value.cls ≠ "java/lang/invoke/MethodHandle" ∧ zy_M_value.cls ≠ "java/lang/invoke/VarHandle" ∧ (parseMethodDescriptor zy_M_value.desc).map (fun d => d.parameters.length) = some 2 := by decide +kernel
theorem zd_M_value_0 : decode zb_M_value 0 = .ok (.aload_n 0, 1) := by decide +kernel
theorem zd_M_value_1 : decode zb_M_value 1 = .ok (.aload_n 0, 1) := by decide +kernel
theorem zd_M_value_2 : decode zb_M_value 2 = .ok (.iload_n 1, 1) := by decide +kernel
theorem zd_M_value_3 : decode zb_M_value 3 = .ok (.iload_n 2, 1) := by decide +kernel
theorem zd_M_value_4 : decode zb_M_value 4 = .ok (.invokevirtual 73, 3) := by decide +kernel
theorem zd_M_value_7 : decode zb_M_value 7 = .ok (.ifCond .eq 7, 3) := by decide +kernel
theorem zd_M_value_10 : decode zb_M_value 10 = .ok (.iconst 0, 1) := by decide +kernel
theorem zd_M_value_11 : decode zb_M_value 11 = .ok (.goto 4, 3) := by decide +kernel
theorem zd_M_value_14 : decode zb_M_value 14 = .ok (.iconst 1, 1) := by decide +kernel
theorem zd_M_value_15 : decode zb_M_value 15 = .ok (.putfield 39, 3) := by decide +kernel
theorem zd_M_value_18 : decode zb_M_value 18 = .ok (.aload_n 0, 1) := by decide +kernel
theorem zd_M_value_19 : decode zb_M_value 19 = .ok (.getfield 39, 3) := by decide +kernel
theorem zd_M_value_22 : decode zb_M_value 22 = .ok (.ifCond .le 7, 3) := by decide +kernel
theorem zd_M_value_25 : decode zb_M_value 25 = .ok (.lconst 0, 1) := by decide +kernel
theorem zd_M_value_26 : decode zb_M_value 26 = .ok (.goto 13, 3) := by decide +kernel
theorem zd_M_value_29 : decode zb_M_value 29 = .ok (.aload_n 0, 1) := by decide +kernel
theorem zd_M_value_30 : decode zb_M_value 30 = .ok (.getfield 13, 3) := by decide +kernel
theorem zd_M_value_33 : decode zb_M_value 33 = .ok (.iload_n 1, 1) := by decide +kernel
theorem zd_M_value_34 : decode zb_M_value 34 = .ok (.iload_n 2, 1) := by decide +kernel
theorem zd_M_value_35 : decode zb_M_value 35 = .ok (.invokestatic 83, 3) := by decide +kernel
theorem zd_M_value_38 : decode zb_M_value 38 = .ok (.laload, 1) := by decide +kernel
theorem zd_M_value_39 : decode zb_M_value 39 = .ok (.lreturn, 1) := by decide +kernel
abbrev zy_M_need : MethodName := ⟨"DeclareFormsModel", "need", "(I)I"⟩
abbrev zb_M_need : ByteArray := prog_7_method_15_code
theorem zh_M_need : zy_M_need.cls ≠ "java/lang/invoke/MethodHandle" ∧ zy_M_need.cls ≠ "java/lang/invoke/VarHandle" ∧ (parseMethodDescriptor zy_M_need.desc).map (fun d => d.parameters.length) = some 1 := by decide +kernel
theorem zd_M_need_0 : decode zb_M_need 0 = .ok (.aload_n 0, 1) := by decide +kernel
theorem zd_M_need_1 : decode zb_M_need 1 = .ok (.iload_n 1, 1) := by decide +kernel
theorem zd_M_need_2 : decode zb_M_need 2 = .ok (.i2l, 1) := by decide +kernel
theorem zd_M_need_3 : decode zb_M_need 3 = .ok (.lconst 0, 1) := by decide +kernel
theorem zd_M_need_4 : decode zb_M_need 4 = .ok (.ldc2_w 53, 3) := by decide +kernel
theorem zd_M_need_7 : decode zb_M_need 7 = .ok (.invokestatic 47, 3) := by decide +kernel
theorem zd_M_need_10 : decode zb_M_need 10 = .ok (.ifCond .eq 7, 3) := by decide +kernel
theorem zd_M_need_13 : decode zb_M_need 13 = .ok (.iconst 0, 1) := by decide +kernel
theorem zd_M_need_14 : decode zb_M_need 14 = .ok (.goto 4, 3) := by decide +kernel
theorem zd_M_need_17 : decode zb_M_need 17 = .ok (.iconst 1, 1) := by decide +kernel
theorem zd_M_need_18 : decode zb_M_need 18 = .ok (.putfield 39, 3) := by decide +kernel
theorem zd_M_need_21 : decode zb_M_need 21 = .ok (.aload_n 0, 1) := by decide +kernel
theorem zd_M_need_22 : decode zb_M_need 22 = .ok (.getfield 39, 3) := by decide +kernel
theorem zd_M_need_25 : decode zb_M_need 25 = .ok (.ifCond .le 7, 3) := by decide +kernel
theorem zd_M_need_28 : decode zb_M_need 28 = .ok (.iconst 0, 1) := by decide +kernel
theorem zd_M_need_29 : decode zb_M_need 29 = .ok (.goto 11, 3) := by decide +kernel
theorem zd_M_need_32 : decode zb_M_need 32 = .ok (.iload_n 1, 1) := by decide +kernel
theorem zd_M_need_33 : decode zb_M_need 33 = .ok (.aload_n 0, 1) := by decide +kernel
theorem zd_M_need_34 : decode zb_M_need 34 = .ok (.getfield 33, 3) := by decide +kernel
theorem zd_M_need_37 : decode zb_M_need 37 = .ok (.invokestatic 79, 3) := by decide +kernel
theorem zd_M_need_40 : decode zb_M_need 40 = .ok (.ireturn, 1) := by decide +kernel
abbrev zy_M_code : MethodName := ⟨"DeclareFormsModel", "code", "(JI)Z"⟩
abbrev zb_M_code : ByteArray := prog_7_method_16_code
theorem zh_M_code : zy_M_code.cls ≠ "java/lang/invoke/MethodHandle" ∧ zy_M_code.cls ≠ "java/lang/invoke/VarHandle" ∧ (parseMethodDescriptor zy_M_code.desc).map (fun d => d.parameters.length) = some 2 := by decide +kernel
theorem zd_M_code_0 : decode zb_M_code 0 = .ok (.aload_n 0, 1) := by decide +kernel
theorem zd_M_code_1 : decode zb_M_code 1 = .ok (.iconst 0, 1) := by decide +kernel
theorem zd_M_code_2 : decode zb_M_code 2 = .ok (.putfield 39, 3) := by decide +kernel
theorem zd_M_code_5 : decode zb_M_code 5 = .ok (.lload_n 1, 1) := by decide +kernel
theorem zd_M_code_6 : decode zb_M_code 6 = .ok (.lconst 0, 1) := by decide +kernel
theorem zd_M_code_7 : decode zb_M_code 7 = .ok (.ldc2_w 77, 3) := by decide +kernel
theorem zd_M_code_10 : decode zb_M_code 10 = .ok (.invokestatic 47, 3) := by decide +kernel
theorem zd_M_code_13 : decode zb_M_code 13 = .ok (.ifCond .eq 15, 3) := by decide +kernel
theorem zd_M_code_16 : decode zb_M_code 16 = .ok (.iload_n 3, 1) := by decide +kernel
theorem zd_M_code_17 : decode zb_M_code 17 = .ok (.i2l, 1) := by decide +kernel
theorem zd_M_code_18 : decode zb_M_code 18 = .ok (.lconst 0, 1) := by decide +kernel
theorem zd_M_code_19 : decode zb_M_code 19 = .ok (.ldc2_w 86, 3) := by decide +kernel
theorem zd_M_code_22 : decode zb_M_code 22 = .ok (.invokestatic 47, 3) := by decide +kernel
theorem zd_M_code_25 : decode zb_M_code 25 = .ok (.ifCond .ne 5, 3) := by decide +kernel
theorem zd_M_code_28 : decode zb_M_code 28 = .ok (.iconst 0, 1) := by decide +kernel
theorem zd_M_code_29 : decode zb_M_code 29 = .ok (.ireturn, 1) := by decide +kernel
theorem zd_M_code_30 : decode zb_M_code 30 = .ok (.iconst 0, 1) := by decide +kernel
theorem zd_M_code_31 : decode zb_M_code 31 = .ok (.istore 4, 2) := by decide +kernel
theorem zd_M_code_33 : decode zb_M_code 33 = .ok (.iload 4, 2) := by decide +kernel
theorem zd_M_code_35 : decode zb_M_code 35 = .ok (.aload_n 0, 1) := by decide +kernel
theorem zd_M_code_36 : decode zb_M_code 36 = .ok (.getfield 88, 3) := by decide +kernel
theorem zd_M_code_39 : decode zb_M_code 39 = .ok (.if_icmp .ge 31, 3) := by decide +kernel
theorem zd_M_code_42 : decode zb_M_code 42 = .ok (.aload_n 0, 1) := by decide +kernel
theorem zd_M_code_43 : decode zb_M_code 43 = .ok (.getfield 17, 3) := by decide +kernel
theorem zd_M_code_46 : decode zb_M_code 46 = .ok (.iload 4, 2) := by decide +kernel
theorem zd_M_code_48 : decode zb_M_code 48 = .ok (.laload, 1) := by decide +kernel
theorem zd_M_code_49 : decode zb_M_code 49 = .ok (.lload_n 1, 1) := by decide +kernel
theorem zd_M_code_50 : decode zb_M_code 50 = .ok (.lcmp, 1) := by decide +kernel
theorem zd_M_code_51 : decode zb_M_code 51 = .ok (.ifCond .ne 13, 3) := by decide +kernel
theorem zd_M_code_54 : decode zb_M_code 54 = .ok (.aload_n 0, 1) := by decide +kernel
theorem zd_M_code_55 : decode zb_M_code 55 = .ok (.getfield 20, 3) := by decide +kernel
theorem zd_M_code_58 : decode zb_M_code 58 = .ok (.iload 4, 2) := by decide +kernel
theorem zd_M_code_60 : decode zb_M_code 60 = .ok (.iload_n 3, 1) := by decide +kernel
theorem zd_M_code_61 : decode zb_M_code 61 = .ok (.iastore, 1) := by decide +kernel
theorem zd_M_code_62 : decode zb_M_code 62 = .ok (.iconst 1, 1) := by decide +kernel
theorem zd_M_code_63 : decode zb_M_code 63 = .ok (.ireturn, 1) := by decide +kernel
theorem zd_M_code_64 : decode zb_M_code 64 = .ok (.iinc 4 1, 3) := by decide +kernel
theorem zd_M_code_67 : decode zb_M_code 67 = .ok (.goto (-34), 3) := by decide +kernel
theorem zd_M_code_70 : decode zb_M_code 70 = .ok (.aload_n 0, 1) := by decide +kernel
theorem zd_M_code_71 : decode zb_M_code 71 = .ok (.getfield 88, 3) := by decide +kernel
theorem zd_M_code_74 : decode zb_M_code 74 = .ok (.bipush 20, 2) := by decide +kernel
theorem zd_M_code_76 : decode zb_M_code 76 = .ok (.if_icmp .ne 5, 3) := by decide +kernel
theorem zd_M_code_79 : decode zb_M_code 79 = .ok (.iconst 0, 1) := by decide +kernel
theorem zd_M_code_80 : decode zb_M_code 80 = .ok (.ireturn, 1) := by decide +kernel
theorem zd_M_code_81 : decode zb_M_code 81 = .ok (.aload_n 0, 1) := by decide +kernel
theorem zd_M_code_82 : decode zb_M_code 82 = .ok (.getfield 17, 3) := by decide +kernel
theorem zd_M_code_85 : decode zb_M_code 85 = .ok (.aload_n 0, 1) := by decide +kernel
theorem zd_M_code_86 : decode zb_M_code 86 = .ok (.getfield 88, 3) := by decide +kernel
theorem zd_M_code_89 : decode zb_M_code 89 = .ok (.lload_n 1, 1) := by decide +kernel
theorem zd_M_code_90 : decode zb_M_code 90 = .ok (.lastore, 1) := by decide +kernel
theorem zd_M_code_91 : decode zb_M_code 91 = .ok (.aload_n 0, 1) := by decide +kernel
theorem zd_M_code_92 : decode zb_M_code 92 = .ok (.getfield 20, 3) := by decide +kernel
theorem zd_M_code_95 : decode zb_M_code 95 = .ok (.aload_n 0, 1) := by decide +kernel
theorem zd_M_code_96 : decode zb_M_code 96 = .ok (.getfield 88, 3) := by decide +kernel
theorem zd_M_code_99 : decode zb_M_code 99 = .ok (.iload_n 3, 1) := by decide +kernel
theorem zd_M_code_100 : decode zb_M_code 100 = .ok (.iastore, 1) := by decide +kernel
theorem zd_M_code_101 : decode zb_M_code 101 = .ok (.aload_n 0, 1) := by decide +kernel
theorem zd_M_code_102 : decode zb_M_code 102 = .ok (.dup, 1) := by decide +kernel
theorem zd_M_code_103 : decode zb_M_code 103 = .ok (.getfield 88, 3) := by decide +kernel
theorem zd_M_code_106 : decode zb_M_code 106 = .ok (.iconst 1, 1) := by decide +kernel
theorem zd_M_code_107 : decode zb_M_code 107 = .ok (.iadd, 1) := by decide +kernel
theorem zd_M_code_108 : decode zb_M_code 108 = .ok (.putfield 88, 3) := by decide +kernel
theorem zd_M_code_111 : decode zb_M_code 111 = .ok (.iconst 1, 1) := by decide +kernel
theorem zd_M_code_112 : decode zb_M_code 112 = .ok (.ireturn, 1) := by decide +kernel
abbrev zy_M_day : MethodName := ⟨"DeclareFormsModel", "day", "(I)Z"⟩
abbrev zb_M_day : ByteArray := prog_7_method_17_code
theorem zh_M_day : zy_M_day.cls ≠ "java/lang/invoke/MethodHandle" ∧ zy_M_day.cls ≠ "java/lang/invoke/VarHandle" ∧ (parseMethodDescriptor zy_M_day.desc).map (fun d => d.parameters.length) = some 1 := by decide +kernel
theorem zd_M_day_0 : decode zb_M_day 0 = .ok (.aload_n 0, 1) := by decide +kernel
theorem zd_M_day_1 : decode zb_M_day 1 = .ok (.iconst 0, 1) := by decide +kernel
theorem zd_M_day_2 : decode zb_M_day 2 = .ok (.putfield 39, 3) := by decide +kernel
theorem zd_M_day_5 : decode zb_M_day 5 = .ok (.iload_n 1, 1) := by decide +kernel
theorem zd_M_day_6 : decode zb_M_day 6 = .ok (.i2l, 1) := by decide +kernel
theorem zd_M_day_7 : decode zb_M_day 7 = .ok (.aload_n 0, 1) := by decide +kernel
theorem zd_M_day_8 : decode zb_M_day 8 = .ok (.getfield 91, 3) := by decide +kernel
theorem zd_M_day_11 : decode zb_M_day 11 = .ok (.i2l, 1) := by decide +kernel
theorem zd_M_day_12 : decode zb_M_day 12 = .ok (.ldc2_w 86, 3) := by decide +kernel
theorem zd_M_day_15 : decode zb_M_day 15 = .ok (.invokestatic 47, 3) := by decide +kernel
theorem zd_M_day_18 : decode zb_M_day 18 = .ok (.ifCond .ne 5, 3) := by decide +kernel
theorem zd_M_day_21 : decode zb_M_day 21 = .ok (.iconst 0, 1) := by decide +kernel
theorem zd_M_day_22 : decode zb_M_day 22 = .ok (.ireturn, 1) := by decide +kernel
theorem zd_M_day_23 : decode zb_M_day 23 = .ok (.aload_n 0, 1) := by decide +kernel
theorem zd_M_day_24 : decode zb_M_day 24 = .ok (.iload_n 1, 1) := by decide +kernel
theorem zd_M_day_25 : decode zb_M_day 25 = .ok (.putfield 91, 3) := by decide +kernel
theorem zd_M_day_28 : decode zb_M_day 28 = .ok (.iconst 1, 1) := by decide +kernel
theorem zd_M_day_29 : decode zb_M_day 29 = .ok (.ireturn, 1) := by decide +kernel
abbrev zy_M_sumOf : MethodName := ⟨"DeclareFormsModel", "sumOf", "(I)J"⟩
abbrev zb_M_sumOf : ByteArray := prog_7_method_18_code
theorem zh_M_sumOf : zy_M_sumOf.cls ≠ "java/lang/invoke/MethodHandle" ∧ zy_M_sumOf.cls ≠ "java/lang/invoke/VarHandle" ∧ (parseMethodDescriptor zy_M_sumOf.desc).map (fun d => d.parameters.length) = some 1 := by decide +kernel
theorem zd_M_sumOf_0 : decode zb_M_sumOf 0 = .ok (.lconst 0, 1) := by decide +kernel
theorem zd_M_sumOf_1 : decode zb_M_sumOf 1 = .ok (.lstore_n 2, 1) := by decide +kernel
theorem zd_M_sumOf_2 : decode zb_M_sumOf 2 = .ok (.iconst 1, 1) := by decide +kernel
theorem zd_M_sumOf_3 : decode zb_M_sumOf 3 = .ok (.istore 4, 2) := by decide +kernel
theorem zd_M_sumOf_5 : decode zb_M_sumOf 5 = .ok (.iload 4, 2) := by decide +kernel
theorem zd_M_sumOf_7 : decode zb_M_sumOf 7 = .ok (.aload_n 0, 1) := by decide +kernel
theorem zd_M_sumOf_8 : decode zb_M_sumOf 8 = .ok (.getfield 42, 3) := by decide +kernel
theorem zd_M_sumOf_11 : decode zb_M_sumOf 11 = .ok (.if_icmp .gt 45, 3) := by decide +kernel
theorem zd_M_sumOf_14 : decode zb_M_sumOf 14 = .ok (.lload_n 2, 1) := by decide +kernel
theorem zd_M_sumOf_15 : decode zb_M_sumOf 15 = .ok (.aload_n 0, 1) := by decide +kernel
theorem zd_M_sumOf_16 : decode zb_M_sumOf 16 = .ok (.getfield 13, 3) := by decide +kernel
theorem zd_M_sumOf_19 : decode zb_M_sumOf 19 = .ok (.iload_n 1, 1) := by decide +kernel
theorem zd_M_sumOf_20 : decode zb_M_sumOf 20 = .ok (.iload 4, 2) := by decide +kernel
theorem zd_M_sumOf_22 : decode zb_M_sumOf 22 = .ok (.invokestatic 83, 3) := by decide +kernel
theorem zd_M_sumOf_25 : decode zb_M_sumOf 25 = .ok (.laload, 1) := by decide +kernel
theorem zd_M_sumOf_26 : decode zb_M_sumOf 26 = .ok (.ldc2_w 37, 3) := by decide +kernel
theorem zd_M_sumOf_29 : decode zb_M_sumOf 29 = .ok (.lcmp, 1) := by decide +kernel
theorem zd_M_sumOf_30 : decode zb_M_sumOf 30 = .ok (.ifCond .ne 7, 3) := by decide +kernel
theorem zd_M_sumOf_33 : decode zb_M_sumOf 33 = .ok (.lconst 0, 1) := by decide +kernel
theorem zd_M_sumOf_34 : decode zb_M_sumOf 34 = .ok (.goto 14, 3) := by decide +kernel
theorem zd_M_sumOf_37 : decode zb_M_sumOf 37 = .ok (.aload_n 0, 1) := by decide +kernel
theorem zd_M_sumOf_38 : decode zb_M_sumOf 38 = .ok (.getfield 13, 3) := by decide +kernel
theorem zd_M_sumOf_41 : decode zb_M_sumOf 41 = .ok (.iload_n 1, 1) := by decide +kernel
theorem zd_M_sumOf_42 : decode zb_M_sumOf 42 = .ok (.iload 4, 2) := by decide +kernel
theorem zd_M_sumOf_44 : decode zb_M_sumOf 44 = .ok (.invokestatic 83, 3) := by decide +kernel
theorem zd_M_sumOf_47 : decode zb_M_sumOf 47 = .ok (.laload, 1) := by decide +kernel
theorem zd_M_sumOf_48 : decode zb_M_sumOf 48 = .ok (.ladd, 1) := by decide +kernel
theorem zd_M_sumOf_49 : decode zb_M_sumOf 49 = .ok (.lstore_n 2, 1) := by decide +kernel
theorem zd_M_sumOf_50 : decode zb_M_sumOf 50 = .ok (.iinc 4 1, 3) := by decide +kernel
theorem zd_M_sumOf_53 : decode zb_M_sumOf 53 = .ok (.goto (-48), 3) := by decide +kernel
theorem zd_M_sumOf_56 : decode zb_M_sumOf 56 = .ok (.lload_n 2, 1) := by decide +kernel
theorem zd_M_sumOf_57 : decode zb_M_sumOf 57 = .ok (.lreturn, 1) := by decide +kernel
abbrev zy_M_isGood : MethodName := ⟨"DeclareFormsModel", "isGood", "(J)Z"⟩
abbrev zb_M_isGood : ByteArray := prog_7_method_19_code
theorem zh_M_isGood : zy_M_isGood.cls ≠ "java/lang/invoke/MethodHandle" ∧ zy_M_isGood.cls ≠ "java/lang/invoke/VarHandle" ∧ (parseMethodDescriptor zy_M_isGood.desc).map (fun d => d.parameters.length) = some 1 := by decide +kernel
theorem zd_M_isGood_0 : decode zb_M_isGood 0 = .ok (.iconst 0, 1) := by decide +kernel
theorem zd_M_isGood_1 : decode zb_M_isGood 1 = .ok (.istore_n 3, 1) := by decide +kernel
theorem zd_M_isGood_2 : decode zb_M_isGood 2 = .ok (.iconst 0, 1) := by decide +kernel
theorem zd_M_isGood_3 : decode zb_M_isGood 3 = .ok (.istore 4, 2) := by decide +kernel
theorem zd_M_isGood_5 : decode zb_M_isGood 5 = .ok (.iload 4, 2) := by decide +kernel
theorem zd_M_isGood_7 : decode zb_M_isGood 7 = .ok (.aload_n 0, 1) := by decide +kernel
theorem zd_M_isGood_8 : decode zb_M_isGood 8 = .ok (.getfield 88, 3) := by decide +kernel
theorem zd_M_isGood_11 : decode zb_M_isGood 11 = .ok (.if_icmp .ge 45, 3) := by decide +kernel
theorem zd_M_isGood_14 : decode zb_M_isGood 14 = .ok (.iload_n 3, 1) := by decide +kernel
theorem zd_M_isGood_15 : decode zb_M_isGood 15 = .ok (.ifCond .ne 29, 3) := by decide +kernel
theorem zd_M_isGood_18 : decode zb_M_isGood 18 = .ok (.aload_n 0, 1) := by decide +kernel
theorem zd_M_isGood_19 : decode zb_M_isGood 19 = .ok (.getfield 17, 3) := by decide +kernel
theorem zd_M_isGood_22 : decode zb_M_isGood 22 = .ok (.iload 4, 2) := by decide +kernel
theorem zd_M_isGood_24 : decode zb_M_isGood 24 = .ok (.laload, 1) := by decide +kernel
theorem zd_M_isGood_25 : decode zb_M_isGood 25 = .ok (.lload_n 1, 1) := by decide +kernel
theorem zd_M_isGood_26 : decode zb_M_isGood 26 = .ok (.lcmp, 1) := by decide +kernel
theorem zd_M_isGood_27 : decode zb_M_isGood 27 = .ok (.ifCond .ne 21, 3) := by decide +kernel
theorem zd_M_isGood_30 : decode zb_M_isGood 30 = .ok (.aload_n 0, 1) := by decide +kernel
theorem zd_M_isGood_31 : decode zb_M_isGood 31 = .ok (.getfield 20, 3) := by decide +kernel
theorem zd_M_isGood_34 : decode zb_M_isGood 34 = .ok (.iload 4, 2) := by decide +kernel
theorem zd_M_isGood_36 : decode zb_M_isGood 36 = .ok (.iaload, 1) := by decide +kernel
theorem zd_M_isGood_37 : decode zb_M_isGood 37 = .ok (.aload_n 0, 1) := by decide +kernel
theorem zd_M_isGood_38 : decode zb_M_isGood 38 = .ok (.getfield 91, 3) := by decide +kernel
theorem zd_M_isGood_41 : decode zb_M_isGood 41 = .ok (.if_icmp .lt 7, 3) := by decide +kernel
theorem zd_M_isGood_44 : decode zb_M_isGood 44 = .ok (.iconst 1, 1) := by decide +kernel
theorem zd_M_isGood_45 : decode zb_M_isGood 45 = .ok (.goto 4, 3) := by decide +kernel
theorem zd_M_isGood_48 : decode zb_M_isGood 48 = .ok (.iconst 0, 1) := by decide +kernel
theorem zd_M_isGood_49 : decode zb_M_isGood 49 = .ok (.istore_n 3, 1) := by decide +kernel
theorem zd_M_isGood_50 : decode zb_M_isGood 50 = .ok (.iinc 4 1, 3) := by decide +kernel
theorem zd_M_isGood_53 : decode zb_M_isGood 53 = .ok (.goto (-48), 3) := by decide +kernel
theorem zd_M_isGood_56 : decode zb_M_isGood 56 = .ok (.iload_n 3, 1) := by decide +kernel
theorem zd_M_isGood_57 : decode zb_M_isGood 57 = .ok (.ireturn, 1) := by decide +kernel
abbrev zy_M_isSum : MethodName := ⟨"DeclareFormsModel", "isSum", "(I)Z"⟩
abbrev zb_M_isSum : ByteArray := prog_7_method_20_code
theorem zh_M_isSum : zy_M_isSum.cls ≠ "java/lang/invoke/MethodHandle" ∧ zy_M_isSum.cls ≠ "java/lang/invoke/VarHandle" ∧ (parseMethodDescriptor zy_M_isSum.desc).map (fun d => d.parameters.length) = some 1 := by decide +kernel
theorem zd_M_isSum_0 : decode zb_M_isSum 0 = .ok (.aload_n 0, 1) := by decide +kernel
theorem zd_M_isSum_1 : decode zb_M_isSum 1 = .ok (.getfield 13, 3) := by decide +kernel
theorem zd_M_isSum_4 : decode zb_M_isSum 4 = .ok (.iload_n 1, 1) := by decide +kernel
theorem zd_M_isSum_5 : decode zb_M_isSum 5 = .ok (.laload, 1) := by decide +kernel
theorem zd_M_isSum_6 : decode zb_M_isSum 6 = .ok (.ldc2_w 37, 3) := by decide +kernel
theorem zd_M_isSum_9 : decode zb_M_isSum 9 = .ok (.lcmp, 1) := by decide +kernel
theorem zd_M_isSum_10 : decode zb_M_isSum 10 = .ok (.ifCond .eq 21, 3) := by decide +kernel
theorem zd_M_isSum_13 : decode zb_M_isSum 13 = .ok (.aload_n 0, 1) := by decide +kernel
theorem zd_M_isSum_14 : decode zb_M_isSum 14 = .ok (.getfield 13, 3) := by decide +kernel
theorem zd_M_isSum_17 : decode zb_M_isSum 17 = .ok (.iload_n 1, 1) := by decide +kernel
theorem zd_M_isSum_18 : decode zb_M_isSum 18 = .ok (.laload, 1) := by decide +kernel
theorem zd_M_isSum_19 : decode zb_M_isSum 19 = .ok (.aload_n 0, 1) := by decide +kernel
theorem zd_M_isSum_20 : decode zb_M_isSum 20 = .ok (.iload_n 1, 1) := by decide +kernel
theorem zd_M_isSum_21 : decode zb_M_isSum 21 = .ok (.bipush 10, 2) := by decide +kernel
theorem zd_M_isSum_23 : decode zb_M_isSum 23 = .ok (.iadd, 1) := by decide +kernel
theorem zd_M_isSum_24 : decode zb_M_isSum 24 = .ok (.invokevirtual 94, 3) := by decide +kernel
theorem zd_M_isSum_27 : decode zb_M_isSum 27 = .ok (.lcmp, 1) := by decide +kernel
theorem zd_M_isSum_28 : decode zb_M_isSum 28 = .ok (.ifCond .ne 7, 3) := by decide +kernel
theorem zd_M_isSum_31 : decode zb_M_isSum 31 = .ok (.iconst 1, 1) := by decide +kernel
theorem zd_M_isSum_32 : decode zb_M_isSum 32 = .ok (.goto 4, 3) := by decide +kernel
theorem zd_M_isSum_35 : decode zb_M_isSum 35 = .ok (.iconst 0, 1) := by decide +kernel
theorem zd_M_isSum_36 : decode zb_M_isSum 36 = .ok (.ireturn, 1) := by decide +kernel
abbrev zy_M_broken : MethodName := ⟨"DeclareFormsModel", "broken", "()I"⟩
abbrev zb_M_broken : ByteArray := prog_7_method_21_code
theorem zh_M_broken : zy_M_broken.cls ≠ "java/lang/invoke/MethodHandle" ∧ zy_M_broken.cls ≠ "java/lang/invoke/VarHandle" ∧ (parseMethodDescriptor zy_M_broken.desc).map (fun d => d.parameters.length) = some 0 := by decide +kernel
theorem zd_M_broken_0 : decode zb_M_broken 0 = .ok (.iconst 0, 1) := by decide +kernel
theorem zd_M_broken_1 : decode zb_M_broken 1 = .ok (.istore_n 1, 1) := by decide +kernel
theorem zd_M_broken_2 : decode zb_M_broken 2 = .ok (.iconst 0, 1) := by decide +kernel
theorem zd_M_broken_3 : decode zb_M_broken 3 = .ok (.istore_n 2, 1) := by decide +kernel
theorem zd_M_broken_4 : decode zb_M_broken 4 = .ok (.iload_n 2, 1) := by decide +kernel
theorem zd_M_broken_5 : decode zb_M_broken 5 = .ok (.aload_n 0, 1) := by decide +kernel
theorem zd_M_broken_6 : decode zb_M_broken 6 = .ok (.getfield 42, 3) := by decide +kernel
theorem zd_M_broken_9 : decode zb_M_broken 9 = .ok (.if_icmp .gt 121, 3) := by decide +kernel
theorem zd_M_broken_12 : decode zb_M_broken 12 = .ok (.iload_n 2, 1) := by decide +kernel
theorem zd_M_broken_13 : decode zb_M_broken 13 = .ok (.ifCond .eq 11, 3) := by decide +kernel
theorem zd_M_broken_16 : decode zb_M_broken 16 = .ok (.aload_n 0, 1) := by decide +kernel
theorem zd_M_broken_17 : decode zb_M_broken 17 = .ok (.iload_n 2, 1) := by decide +kernel
theorem zd_M_broken_18 : decode zb_M_broken 18 = .ok (.invokevirtual 55, 3) := by decide +kernel
theorem zd_M_broken_21 : decode zb_M_broken 21 = .ok (.ifCond .eq 7, 3) := by decide +kernel
theorem zd_M_broken_24 : decode zb_M_broken 24 = .ok (.iconst 1, 1) := by decide +kernel
theorem zd_M_broken_25 : decode zb_M_broken 25 = .ok (.goto 4, 3) := by decide +kernel
theorem zd_M_broken_28 : decode zb_M_broken 28 = .ok (.iconst 0, 1) := by decide +kernel
theorem zd_M_broken_29 : decode zb_M_broken 29 = .ok (.istore_n 3, 1) := by decide +kernel
theorem zd_M_broken_30 : decode zb_M_broken 30 = .ok (.iconst 0, 1) := by decide +kernel
theorem zd_M_broken_31 : decode zb_M_broken 31 = .ok (.istore 4, 2) := by decide +kernel
theorem zd_M_broken_33 : decode zb_M_broken 33 = .ok (.iload 4, 2) := by decide +kernel
theorem zd_M_broken_35 : decode zb_M_broken 35 = .ok (.bipush 10, 2) := by decide +kernel
theorem zd_M_broken_37 : decode zb_M_broken 37 = .ok (.if_icmp .ge 71, 3) := by decide +kernel
theorem zd_M_broken_40 : decode zb_M_broken 40 = .ok (.iload_n 3, 1) := by decide +kernel
theorem zd_M_broken_41 : decode zb_M_broken 41 = .ok (.ifCond .eq 67, 3) := by decide +kernel
theorem zd_M_broken_44 : decode zb_M_broken 44 = .ok (.iload_n 2, 1) := by decide +kernel
theorem zd_M_broken_45 : decode zb_M_broken 45 = .ok (.ifCond .ne 8, 3) := by decide +kernel
theorem zd_M_broken_48 : decode zb_M_broken 48 = .ok (.iload 4, 2) := by decide +kernel
theorem zd_M_broken_50 : decode zb_M_broken 50 = .ok (.goto 8, 3) := by decide +kernel
theorem zd_M_broken_53 : decode zb_M_broken 53 = .ok (.bipush 10, 2) := by decide +kernel
theorem zd_M_broken_55 : decode zb_M_broken 55 = .ok (.iload 4, 2) := by decide +kernel
theorem zd_M_broken_57 : decode zb_M_broken 57 = .ok (.iadd, 1) := by decide +kernel
theorem zd_M_broken_58 : decode zb_M_broken 58 = .ok (.istore 5, 2) := by decide +kernel
theorem zd_M_broken_60 : decode zb_M_broken 60 = .ok (.iload 5, 2) := by decide +kernel
theorem zd_M_broken_62 : decode zb_M_broken 62 = .ok (.aload_n 0, 1) := by decide +kernel
theorem zd_M_broken_63 : decode zb_M_broken 63 = .ok (.getfield 33, 3) := by decide +kernel
theorem zd_M_broken_66 : decode zb_M_broken 66 = .ok (.invokestatic 79, 3) := by decide +kernel
theorem zd_M_broken_69 : decode zb_M_broken 69 = .ok (.ifCond .ne 33, 3) := by decide +kernel
theorem zd_M_broken_72 : decode zb_M_broken 72 = .ok (.aload_n 0, 1) := by decide +kernel
theorem zd_M_broken_73 : decode zb_M_broken 73 = .ok (.getfield 13, 3) := by decide +kernel
theorem zd_M_broken_76 : decode zb_M_broken 76 = .ok (.bipush 10, 2) := by decide +kernel
theorem zd_M_broken_78 : decode zb_M_broken 78 = .ok (.iload_n 2, 1) := by decide +kernel
theorem zd_M_broken_79 : decode zb_M_broken 79 = .ok (.imul, 1) := by decide +kernel
theorem zd_M_broken_80 : decode zb_M_broken 80 = .ok (.iload 4, 2) := by decide +kernel
theorem zd_M_broken_82 : decode zb_M_broken 82 = .ok (.iadd, 1) := by decide +kernel
theorem zd_M_broken_83 : decode zb_M_broken 83 = .ok (.laload, 1) := by decide +kernel
theorem zd_M_broken_84 : decode zb_M_broken 84 = .ok (.ldc2_w 37, 3) := by decide +kernel
theorem zd_M_broken_87 : decode zb_M_broken 87 = .ok (.lcmp, 1) := by decide +kernel
theorem zd_M_broken_88 : decode zb_M_broken 88 = .ok (.ifCond .ne 14, 3) := by decide +kernel
theorem zd_M_broken_91 : decode zb_M_broken 91 = .ok (.ldc 98, 2) := by decide +kernel
theorem zd_M_broken_93 : decode zb_M_broken 93 = .ok (.bipush 100, 2) := by decide +kernel
theorem zd_M_broken_95 : decode zb_M_broken 95 = .ok (.iload_n 2, 1) := by decide +kernel
theorem zd_M_broken_96 : decode zb_M_broken 96 = .ok (.imul, 1) := by decide +kernel
theorem zd_M_broken_97 : decode zb_M_broken 97 = .ok (.iadd, 1) := by decide +kernel
theorem zd_M_broken_98 : decode zb_M_broken 98 = .ok (.iload 5, 2) := by decide +kernel
theorem zd_M_broken_100 : decode zb_M_broken 100 = .ok (.iadd, 1) := by decide +kernel
theorem zd_M_broken_101 : decode zb_M_broken 101 = .ok (.ireturn, 1) := by decide +kernel
theorem zd_M_broken_102 : decode zb_M_broken 102 = .ok (.iinc 4 1, 3) := by decide +kernel
theorem zd_M_broken_105 : decode zb_M_broken 105 = .ok (.goto (-72), 3) := by decide +kernel
theorem zd_M_broken_108 : decode zb_M_broken 108 = .ok (.iload_n 1, 1) := by decide +kernel
theorem zd_M_broken_109 : decode zb_M_broken 109 = .ok (.iload_n 2, 1) := by decide +kernel
theorem zd_M_broken_110 : decode zb_M_broken 110 = .ok (.ifCond .le 11, 3) := by decide +kernel
theorem zd_M_broken_113 : decode zb_M_broken 113 = .ok (.iload_n 3, 1) := by decide +kernel
theorem zd_M_broken_114 : decode zb_M_broken 114 = .ok (.ifCond .eq 7, 3) := by decide +kernel
theorem zd_M_broken_117 : decode zb_M_broken 117 = .ok (.iconst 1, 1) := by decide +kernel
theorem zd_M_broken_118 : decode zb_M_broken 118 = .ok (.goto 4, 3) := by decide +kernel
theorem zd_M_broken_121 : decode zb_M_broken 121 = .ok (.iconst 0, 1) := by decide +kernel
theorem zd_M_broken_122 : decode zb_M_broken 122 = .ok (.iadd, 1) := by decide +kernel
theorem zd_M_broken_123 : decode zb_M_broken 123 = .ok (.istore_n 1, 1) := by decide +kernel
theorem zd_M_broken_124 : decode zb_M_broken 124 = .ok (.iinc 2 1, 3) := by decide +kernel
theorem zd_M_broken_127 : decode zb_M_broken 127 = .ok (.goto (-123), 3) := by decide +kernel
theorem zd_M_broken_130 : decode zb_M_broken 130 = .ok (.aload_n 0, 1) := by decide +kernel
theorem zd_M_broken_131 : decode zb_M_broken 131 = .ok (.iconst 2, 1) := by decide +kernel
theorem zd_M_broken_132 : decode zb_M_broken 132 = .ok (.invokevirtual 99, 3) := by decide +kernel
theorem zd_M_broken_135 : decode zb_M_broken 135 = .ok (.ifCond .eq 11, 3) := by decide +kernel
theorem zd_M_broken_138 : decode zb_M_broken 138 = .ok (.aload_n 0, 1) := by decide +kernel
theorem zd_M_broken_139 : decode zb_M_broken 139 = .ok (.iconst 3, 1) := by decide +kernel
theorem zd_M_broken_140 : decode zb_M_broken 140 = .ok (.invokevirtual 99, 3) := by decide +kernel
theorem zd_M_broken_143 : decode zb_M_broken 143 = .ok (.ifCond .ne 19, 3) := by decide +kernel
theorem zd_M_broken_146 : decode zb_M_broken 146 = .ok (.aload_n 0, 1) := by decide +kernel
theorem zd_M_broken_147 : decode zb_M_broken 147 = .ok (.iconst 2, 1) := by decide +kernel
theorem zd_M_broken_148 : decode zb_M_broken 148 = .ok (.invokevirtual 99, 3) := by decide +kernel
theorem zd_M_broken_151 : decode zb_M_broken 151 = .ok (.ifCond .eq 8, 3) := by decide +kernel
theorem zd_M_broken_154 : decode zb_M_broken 154 = .ok (.ldc 102, 2) := by decide +kernel
theorem zd_M_broken_156 : decode zb_M_broken 156 = .ok (.goto 5, 3) := by decide +kernel
theorem zd_M_broken_159 : decode zb_M_broken 159 = .ok (.ldc 103, 2) := by decide +kernel
theorem zd_M_broken_161 : decode zb_M_broken 161 = .ok (.ireturn, 1) := by decide +kernel
theorem zd_M_broken_162 : decode zb_M_broken 162 = .ok (.iconst 1, 1) := by decide +kernel
theorem zd_M_broken_163 : decode zb_M_broken 163 = .ok (.istore_n 2, 1) := by decide +kernel
theorem zd_M_broken_164 : decode zb_M_broken 164 = .ok (.iload_n 2, 1) := by decide +kernel
theorem zd_M_broken_165 : decode zb_M_broken 165 = .ok (.aload_n 0, 1) := by decide +kernel
theorem zd_M_broken_166 : decode zb_M_broken 166 = .ok (.getfield 42, 3) := by decide +kernel
theorem zd_M_broken_169 : decode zb_M_broken 169 = .ok (.if_icmp .gt 52, 3) := by decide +kernel
theorem zd_M_broken_172 : decode zb_M_broken 172 = .ok (.aload_n 0, 1) := by decide +kernel
theorem zd_M_broken_173 : decode zb_M_broken 173 = .ok (.getfield 13, 3) := by decide +kernel
theorem zd_M_broken_176 : decode zb_M_broken 176 = .ok (.bipush 10, 2) := by decide +kernel
theorem zd_M_broken_178 : decode zb_M_broken 178 = .ok (.iload_n 2, 1) := by decide +kernel
theorem zd_M_broken_179 : decode zb_M_broken 179 = .ok (.imul, 1) := by decide +kernel
theorem zd_M_broken_180 : decode zb_M_broken 180 = .ok (.laload, 1) := by decide +kernel
theorem zd_M_broken_181 : decode zb_M_broken 181 = .ok (.ldc2_w 37, 3) := by decide +kernel
theorem zd_M_broken_184 : decode zb_M_broken 184 = .ok (.lcmp, 1) := by decide +kernel
theorem zd_M_broken_185 : decode zb_M_broken 185 = .ok (.ifCond .eq 30, 3) := by decide +kernel
theorem zd_M_broken_188 : decode zb_M_broken 188 = .ok (.aload_n 0, 1) := by decide +kernel
theorem zd_M_broken_189 : decode zb_M_broken 189 = .ok (.aload_n 0, 1) := by decide +kernel
theorem zd_M_broken_190 : decode zb_M_broken 190 = .ok (.getfield 13, 3) := by decide +kernel
theorem zd_M_broken_193 : decode zb_M_broken 193 = .ok (.bipush 10, 2) := by decide +kernel
theorem zd_M_broken_195 : decode zb_M_broken 195 = .ok (.iload_n 2, 1) := by decide +kernel
theorem zd_M_broken_196 : decode zb_M_broken 196 = .ok (.imul, 1) := by decide +kernel
theorem zd_M_broken_197 : decode zb_M_broken 197 = .ok (.laload, 1) := by decide +kernel
theorem zd_M_broken_198 : decode zb_M_broken 198 = .ok (.invokevirtual 104, 3) := by decide +kernel
theorem zd_M_broken_201 : decode zb_M_broken 201 = .ok (.ifCond .ne 14, 3) := by decide +kernel
theorem zd_M_broken_204 : decode zb_M_broken 204 = .ok (.ldc 108, 2) := by decide +kernel
theorem zd_M_broken_206 : decode zb_M_broken 206 = .ok (.bipush 100, 2) := by decide +kernel
theorem zd_M_broken_208 : decode zb_M_broken 208 = .ok (.iload_n 2, 1) := by decide +kernel
theorem zd_M_broken_209 : decode zb_M_broken 209 = .ok (.imul, 1) := by decide +kernel
theorem zd_M_broken_210 : decode zb_M_broken 210 = .ok (.iadd, 1) := by decide +kernel
theorem zd_M_broken_211 : decode zb_M_broken 211 = .ok (.bipush 10, 2) := by decide +kernel
theorem zd_M_broken_213 : decode zb_M_broken 213 = .ok (.iadd, 1) := by decide +kernel
theorem zd_M_broken_214 : decode zb_M_broken 214 = .ok (.ireturn, 1) := by decide +kernel
theorem zd_M_broken_215 : decode zb_M_broken 215 = .ok (.iinc 2 1, 3) := by decide +kernel
theorem zd_M_broken_218 : decode zb_M_broken 218 = .ok (.goto (-54), 3) := by decide +kernel
theorem zd_M_broken_221 : decode zb_M_broken 221 = .ok (.iload_n 1, 1) := by decide +kernel
theorem zd_M_broken_222 : decode zb_M_broken 222 = .ok (.ifCond .ne 8, 3) := by decide +kernel
theorem zd_M_broken_225 : decode zb_M_broken 225 = .ok (.ldc 109, 2) := by decide +kernel
theorem zd_M_broken_227 : decode zb_M_broken 227 = .ok (.goto 4, 3) := by decide +kernel
theorem zd_M_broken_230 : decode zb_M_broken 230 = .ok (.iconst 0, 1) := by decide +kernel
theorem zd_M_broken_231 : decode zb_M_broken 231 = .ok (.ireturn, 1) := by decide +kernel
abbrev zy_M_check : MethodName := ⟨"DeclareFormsModel", "check", "()I"⟩
abbrev zb_M_check : ByteArray := prog_7_method_22_code
theorem zh_M_check : zy_M_check.cls ≠ "java/lang/invoke/MethodHandle" ∧ zy_M_check.cls ≠ "java/lang/invoke/VarHandle" ∧ (parseMethodDescriptor zy_M_check.desc).map (fun d => d.parameters.length) = some 0 := by decide +kernel
theorem zd_M_check_0 : decode zb_M_check 0 = .ok (.aload_n 0, 1) := by decide +kernel
theorem zd_M_check_1 : decode zb_M_check 1 = .ok (.iconst 0, 1) := by decide +kernel
theorem zd_M_check_2 : decode zb_M_check 2 = .ok (.putfield 39, 3) := by decide +kernel
theorem zd_M_check_5 : decode zb_M_check 5 = .ok (.aload_n 0, 1) := by decide +kernel
theorem zd_M_check_6 : decode zb_M_check 6 = .ok (.invokevirtual 110, 3) := by decide +kernel
theorem zd_M_check_9 : decode zb_M_check 9 = .ok (.ireturn, 1) := by decide +kernel
abbrev zy_M_lodge : MethodName := ⟨"DeclareFormsModel", "lodge", "()I"⟩
abbrev zb_M_lodge : ByteArray := prog_7_method_23_code
theorem zh_M_lodge : zy_M_lodge.cls ≠ "java/lang/invoke/MethodHandle" ∧ zy_M_lodge.cls ≠ "java/lang/invoke/VarHandle" ∧ (parseMethodDescriptor zy_M_lodge.desc).map (fun d => d.parameters.length) = some 0 := by decide +kernel
theorem zd_M_lodge_0 : decode zb_M_lodge 0 = .ok (.aload_n 0, 1) := by decide +kernel
theorem zd_M_lodge_1 : decode zb_M_lodge 1 = .ok (.iconst 0, 1) := by decide +kernel
theorem zd_M_lodge_2 : decode zb_M_lodge 2 = .ok (.putfield 39, 3) := by decide +kernel
theorem zd_M_lodge_5 : decode zb_M_lodge 5 = .ok (.aload_n 0, 1) := by decide +kernel
theorem zd_M_lodge_6 : decode zb_M_lodge 6 = .ok (.getfield 59, 3) := by decide +kernel
theorem zd_M_lodge_9 : decode zb_M_lodge 9 = .ok (.ifCond .ne 10, 3) := by decide +kernel
theorem zd_M_lodge_12 : decode zb_M_lodge 12 = .ok (.aload_n 0, 1) := by decide +kernel
theorem zd_M_lodge_13 : decode zb_M_lodge 13 = .ok (.invokevirtual 110, 3) := by decide +kernel
theorem zd_M_lodge_16 : decode zb_M_lodge 16 = .ok (.ifCond .eq 5, 3) := by decide +kernel
theorem zd_M_lodge_19 : decode zb_M_lodge 19 = .ok (.iconst 0, 1) := by decide +kernel
theorem zd_M_lodge_20 : decode zb_M_lodge 20 = .ok (.ireturn, 1) := by decide +kernel
theorem zd_M_lodge_21 : decode zb_M_lodge 21 = .ok (.aload_n 0, 1) := by decide +kernel
theorem zd_M_lodge_22 : decode zb_M_lodge 22 = .ok (.iconst 1, 1) := by decide +kernel
theorem zd_M_lodge_23 : decode zb_M_lodge 23 = .ok (.putfield 59, 3) := by decide +kernel
theorem zd_M_lodge_26 : decode zb_M_lodge 26 = .ok (.iconst 1, 1) := by decide +kernel
theorem zd_M_lodge_27 : decode zb_M_lodge 27 = .ok (.ireturn, 1) := by decide +kernel
abbrev zy_M_amend : MethodName := ⟨"DeclareFormsModel", "amend", "(IIJ)I"⟩
abbrev zb_M_amend : ByteArray := prog_7_method_24_code
theorem zh_M_amend : zy_M_amend.cls ≠ "java/lang/invoke/MethodHandle" ∧ zy_M_amend.cls ≠ "java/lang/invoke/VarHandle" ∧ (parseMethodDescriptor zy_M_amend.desc).map (fun d => d.parameters.length) = some 3 := by decide +kernel
theorem zd_M_amend_0 : decode zb_M_amend 0 = .ok (.aload_n 0, 1) := by decide +kernel
theorem zd_M_amend_1 : decode zb_M_amend 1 = .ok (.iload_n 1, 1) := by decide +kernel
theorem zd_M_amend_2 : decode zb_M_amend 2 = .ok (.iload_n 2, 1) := by decide +kernel
theorem zd_M_amend_3 : decode zb_M_amend 3 = .ok (.invokevirtual 73, 3) := by decide +kernel
theorem zd_M_amend_6 : decode zb_M_amend 6 = .ok (.ifCond .eq 14, 3) := by decide +kernel
theorem zd_M_amend_9 : decode zb_M_amend 9 = .ok (.lload_n 3, 1) := by decide +kernel
theorem zd_M_amend_10 : decode zb_M_amend 10 = .ok (.lconst 0, 1) := by decide +kernel
theorem zd_M_amend_11 : decode zb_M_amend 11 = .ok (.ldc2_w 77, 3) := by decide +kernel
theorem zd_M_amend_14 : decode zb_M_amend 14 = .ok (.invokestatic 47, 3) := by decide +kernel
theorem zd_M_amend_17 : decode zb_M_amend 17 = .ok (.ifCond .ne 9, 3) := by decide +kernel
theorem zd_M_amend_20 : decode zb_M_amend 20 = .ok (.aload_n 0, 1) := by decide +kernel
theorem zd_M_amend_21 : decode zb_M_amend 21 = .ok (.iconst 1, 1) := by decide +kernel
theorem zd_M_amend_22 : decode zb_M_amend 22 = .ok (.invokevirtual 63, 3) := by decide +kernel
theorem zd_M_amend_25 : decode zb_M_amend 25 = .ok (.ireturn, 1) := by decide +kernel
theorem zd_M_amend_26 : decode zb_M_amend 26 = .ok (.aload_n 0, 1) := by decide +kernel
theorem zd_M_amend_27 : decode zb_M_amend 27 = .ok (.getfield 59, 3) := by decide +kernel
theorem zd_M_amend_30 : decode zb_M_amend 30 = .ok (.ifCond .ne 9, 3) := by decide +kernel
theorem zd_M_amend_33 : decode zb_M_amend 33 = .ok (.aload_n 0, 1) := by decide +kernel
theorem zd_M_amend_34 : decode zb_M_amend 34 = .ok (.iconst 2, 1) := by decide +kernel
theorem zd_M_amend_35 : decode zb_M_amend 35 = .ok (.invokevirtual 63, 3) := by decide +kernel
theorem zd_M_amend_38 : decode zb_M_amend 38 = .ok (.ireturn, 1) := by decide +kernel
theorem zd_M_amend_39 : decode zb_M_amend 39 = .ok (.aload_n 0, 1) := by decide +kernel
theorem zd_M_amend_40 : decode zb_M_amend 40 = .ok (.iconst 0, 1) := by decide +kernel
theorem zd_M_amend_41 : decode zb_M_amend 41 = .ok (.putfield 39, 3) := by decide +kernel
theorem zd_M_amend_44 : decode zb_M_amend 44 = .ok (.iload_n 1, 1) := by decide +kernel
theorem zd_M_amend_45 : decode zb_M_amend 45 = .ok (.iconst 3, 1) := by decide +kernel
theorem zd_M_amend_46 : decode zb_M_amend 46 = .ok (.irem, 1) := by decide +kernel
theorem zd_M_amend_47 : decode zb_M_amend 47 = .ok (.ifCond .eq 15, 3) := by decide +kernel
theorem zd_M_amend_50 : decode zb_M_amend 50 = .ok (.iload_n 1, 1) := by decide +kernel
theorem zd_M_amend_51 : decode zb_M_amend 51 = .ok (.aload_n 0, 1) := by decide +kernel
theorem zd_M_amend_52 : decode zb_M_amend 52 = .ok (.getfield 33, 3) := by decide +kernel
theorem zd_M_amend_55 : decode zb_M_amend 55 = .ok (.invokestatic 79, 3) := by decide +kernel
theorem zd_M_amend_58 : decode zb_M_amend 58 = .ok (.iconst 3, 1) := by decide +kernel
theorem zd_M_amend_59 : decode zb_M_amend 59 = .ok (.if_icmp .ne 5, 3) := by decide +kernel
theorem zd_M_amend_62 : decode zb_M_amend 62 = .ok (.iconst 0, 1) := by decide +kernel
theorem zd_M_amend_63 : decode zb_M_amend 63 = .ok (.ireturn, 1) := by decide +kernel
theorem zd_M_amend_64 : decode zb_M_amend 64 = .ok (.aload_n 0, 1) := by decide +kernel
theorem zd_M_amend_65 : decode zb_M_amend 65 = .ok (.getfield 13, 3) := by decide +kernel
theorem zd_M_amend_68 : decode zb_M_amend 68 = .ok (.iload_n 1, 1) := by decide +kernel
theorem zd_M_amend_69 : decode zb_M_amend 69 = .ok (.iload_n 2, 1) := by decide +kernel
theorem zd_M_amend_70 : decode zb_M_amend 70 = .ok (.invokestatic 83, 3) := by decide +kernel
theorem zd_M_amend_73 : decode zb_M_amend 73 = .ok (.laload, 1) := by decide +kernel
theorem zd_M_amend_74 : decode zb_M_amend 74 = .ok (.lstore 5, 2) := by decide +kernel
theorem zd_M_amend_76 : decode zb_M_amend 76 = .ok (.aload_n 0, 1) := by decide +kernel
theorem zd_M_amend_77 : decode zb_M_amend 77 = .ok (.getfield 13, 3) := by decide +kernel
theorem zd_M_amend_80 : decode zb_M_amend 80 = .ok (.iload_n 1, 1) := by decide +kernel
theorem zd_M_amend_81 : decode zb_M_amend 81 = .ok (.iload_n 2, 1) := by decide +kernel
theorem zd_M_amend_82 : decode zb_M_amend 82 = .ok (.invokestatic 83, 3) := by decide +kernel
theorem zd_M_amend_85 : decode zb_M_amend 85 = .ok (.lload_n 3, 1) := by decide +kernel
theorem zd_M_amend_86 : decode zb_M_amend 86 = .ok (.lastore, 1) := by decide +kernel
theorem zd_M_amend_87 : decode zb_M_amend 87 = .ok (.aload_n 0, 1) := by decide +kernel
theorem zd_M_amend_88 : decode zb_M_amend 88 = .ok (.invokevirtual 110, 3) := by decide +kernel
theorem zd_M_amend_91 : decode zb_M_amend 91 = .ok (.ifCond .eq 17, 3) := by decide +kernel
theorem zd_M_amend_94 : decode zb_M_amend 94 = .ok (.aload_n 0, 1) := by decide +kernel
theorem zd_M_amend_95 : decode zb_M_amend 95 = .ok (.getfield 13, 3) := by decide +kernel
theorem zd_M_amend_98 : decode zb_M_amend 98 = .ok (.iload_n 1, 1) := by decide +kernel
theorem zd_M_amend_99 : decode zb_M_amend 99 = .ok (.iload_n 2, 1) := by decide +kernel
theorem zd_M_amend_100 : decode zb_M_amend 100 = .ok (.invokestatic 83, 3) := by decide +kernel
theorem zd_M_amend_103 : decode zb_M_amend 103 = .ok (.lload 5, 2) := by decide +kernel
theorem zd_M_amend_105 : decode zb_M_amend 105 = .ok (.lastore, 1) := by decide +kernel
theorem zd_M_amend_106 : decode zb_M_amend 106 = .ok (.iconst 0, 1) := by decide +kernel
theorem zd_M_amend_107 : decode zb_M_amend 107 = .ok (.ireturn, 1) := by decide +kernel
theorem zd_M_amend_108 : decode zb_M_amend 108 = .ok (.iconst 1, 1) := by decide +kernel
theorem zd_M_amend_109 : decode zb_M_amend 109 = .ok (.ireturn, 1) := by decide +kernel
abbrev zy_M_paperOf : MethodName := ⟨"DeclareFormsModel", "paperOf", "(I)I"⟩
abbrev zb_M_paperOf : ByteArray := prog_7_method_25_code
theorem zh_M_paperOf : zy_M_paperOf.cls ≠ "java/lang/invoke/MethodHandle" ∧ zy_M_paperOf.cls ≠ "java/lang/invoke/VarHandle" ∧ (parseMethodDescriptor zy_M_paperOf.desc).map (fun d => d.parameters.length) = some 1 := by decide +kernel
theorem zd_M_paperOf_0 : decode zb_M_paperOf 0 = .ok (.iconst (-1), 1) := by decide +kernel
theorem zd_M_paperOf_1 : decode zb_M_paperOf 1 = .ok (.istore_n 2, 1) := by decide +kernel
theorem zd_M_paperOf_2 : decode zb_M_paperOf 2 = .ok (.iconst 0, 1) := by decide +kernel
theorem zd_M_paperOf_3 : decode zb_M_paperOf 3 = .ok (.istore_n 3, 1) := by decide +kernel
theorem zd_M_paperOf_4 : decode zb_M_paperOf 4 = .ok (.iload_n 3, 1) := by decide +kernel
theorem zd_M_paperOf_5 : decode zb_M_paperOf 5 = .ok (.aload_n 0, 1) := by decide +kernel
theorem zd_M_paperOf_6 : decode zb_M_paperOf 6 = .ok (.getfield 70, 3) := by decide +kernel
theorem zd_M_paperOf_9 : decode zb_M_paperOf 9 = .ok (.if_icmp .ge 25, 3) := by decide +kernel
theorem zd_M_paperOf_12 : decode zb_M_paperOf 12 = .ok (.aload_n 0, 1) := by decide +kernel
theorem zd_M_paperOf_13 : decode zb_M_paperOf 13 = .ok (.getfield 24, 3) := by decide +kernel
theorem zd_M_paperOf_16 : decode zb_M_paperOf 16 = .ok (.iload_n 3, 1) := by decide +kernel
theorem zd_M_paperOf_17 : decode zb_M_paperOf 17 = .ok (.iaload, 1) := by decide +kernel
theorem zd_M_paperOf_18 : decode zb_M_paperOf 18 = .ok (.iload_n 1, 1) := by decide +kernel
theorem zd_M_paperOf_19 : decode zb_M_paperOf 19 = .ok (.if_icmp .ne 7, 3) := by decide +kernel
theorem zd_M_paperOf_22 : decode zb_M_paperOf 22 = .ok (.iload_n 3, 1) := by decide +kernel
theorem zd_M_paperOf_23 : decode zb_M_paperOf 23 = .ok (.goto 4, 3) := by decide +kernel
theorem zd_M_paperOf_26 : decode zb_M_paperOf 26 = .ok (.iload_n 2, 1) := by decide +kernel
theorem zd_M_paperOf_27 : decode zb_M_paperOf 27 = .ok (.istore_n 2, 1) := by decide +kernel
theorem zd_M_paperOf_28 : decode zb_M_paperOf 28 = .ok (.iinc 3 1, 3) := by decide +kernel
theorem zd_M_paperOf_31 : decode zb_M_paperOf 31 = .ok (.goto (-27), 3) := by decide +kernel
theorem zd_M_paperOf_34 : decode zb_M_paperOf 34 = .ok (.iload_n 2, 1) := by decide +kernel
theorem zd_M_paperOf_35 : decode zb_M_paperOf 35 = .ok (.ireturn, 1) := by decide +kernel
abbrev zy_M_paper : MethodName := ⟨"DeclareFormsModel", "paper", "(II)Z"⟩
abbrev zb_M_paper : ByteArray := prog_7_method_26_code
theorem zh_M_paper : zy_M_paper.cls ≠ "java/lang/invoke/MethodHandle" ∧ zy_M_paper.cls ≠ "java/lang/invoke/VarHandle" ∧ (parseMethodDescriptor zy_M_paper.desc).map (fun d => d.parameters.length) = some 2 := by decide +kernel
theorem zd_M_paper_0 : decode zb_M_paper 0 = .ok (.aload_n 0, 1) := by decide +kernel
theorem zd_M_paper_1 : decode zb_M_paper 1 = .ok (.iconst 0, 1) := by decide +kernel
theorem zd_M_paper_2 : decode zb_M_paper 2 = .ok (.putfield 39, 3) := by decide +kernel
theorem zd_M_paper_5 : decode zb_M_paper 5 = .ok (.iload_n 1, 1) := by decide +kernel
theorem zd_M_paper_6 : decode zb_M_paper 6 = .ok (.i2l, 1) := by decide +kernel
theorem zd_M_paper_7 : decode zb_M_paper 7 = .ok (.lconst 1, 1) := by decide +kernel
theorem zd_M_paper_8 : decode zb_M_paper 8 = .ok (.ldc2_w 114, 3) := by decide +kernel
theorem zd_M_paper_11 : decode zb_M_paper 11 = .ok (.invokestatic 47, 3) := by decide +kernel
theorem zd_M_paper_14 : decode zb_M_paper 14 = .ok (.ifCond .eq 32, 3) := by decide +kernel
theorem zd_M_paper_17 : decode zb_M_paper 17 = .ok (.iload_n 2, 1) := by decide +kernel
theorem zd_M_paper_18 : decode zb_M_paper 18 = .ok (.i2l, 1) := by decide +kernel
theorem zd_M_paper_19 : decode zb_M_paper 19 = .ok (.lconst 0, 1) := by decide +kernel
theorem zd_M_paper_20 : decode zb_M_paper 20 = .ok (.ldc2_w 114, 3) := by decide +kernel
theorem zd_M_paper_23 : decode zb_M_paper 23 = .ok (.invokestatic 47, 3) := by decide +kernel
theorem zd_M_paper_26 : decode zb_M_paper 26 = .ok (.ifCond .eq 20, 3) := by decide +kernel
theorem zd_M_paper_29 : decode zb_M_paper 29 = .ok (.aload_n 0, 1) := by decide +kernel
theorem zd_M_paper_30 : decode zb_M_paper 30 = .ok (.iload_n 1, 1) := by decide +kernel
theorem zd_M_paper_31 : decode zb_M_paper 31 = .ok (.invokevirtual 116, 3) := by decide +kernel
theorem zd_M_paper_34 : decode zb_M_paper 34 = .ok (.ifCond .ge 12, 3) := by decide +kernel
theorem zd_M_paper_37 : decode zb_M_paper 37 = .ok (.aload_n 0, 1) := by decide +kernel
theorem zd_M_paper_38 : decode zb_M_paper 38 = .ok (.getfield 70, 3) := by decide +kernel
theorem zd_M_paper_41 : decode zb_M_paper 41 = .ok (.bipush 20, 2) := by decide +kernel
theorem zd_M_paper_43 : decode zb_M_paper 43 = .ok (.if_icmp .ne 5, 3) := by decide +kernel
theorem zd_M_paper_46 : decode zb_M_paper 46 = .ok (.iconst 0, 1) := by decide +kernel
theorem zd_M_paper_47 : decode zb_M_paper 47 = .ok (.ireturn, 1) := by decide +kernel
theorem zd_M_paper_48 : decode zb_M_paper 48 = .ok (.aload_n 0, 1) := by decide +kernel
theorem zd_M_paper_49 : decode zb_M_paper 49 = .ok (.getfield 24, 3) := by decide +kernel
theorem zd_M_paper_52 : decode zb_M_paper 52 = .ok (.aload_n 0, 1) := by decide +kernel
theorem zd_M_paper_53 : decode zb_M_paper 53 = .ok (.getfield 70, 3) := by decide +kernel
theorem zd_M_paper_56 : decode zb_M_paper 56 = .ok (.iload_n 1, 1) := by decide +kernel
theorem zd_M_paper_57 : decode zb_M_paper 57 = .ok (.iastore, 1) := by decide +kernel
theorem zd_M_paper_58 : decode zb_M_paper 58 = .ok (.aload_n 0, 1) := by decide +kernel
theorem zd_M_paper_59 : decode zb_M_paper 59 = .ok (.getfield 27, 3) := by decide +kernel
theorem zd_M_paper_62 : decode zb_M_paper 62 = .ok (.aload_n 0, 1) := by decide +kernel
theorem zd_M_paper_63 : decode zb_M_paper 63 = .ok (.getfield 70, 3) := by decide +kernel
theorem zd_M_paper_66 : decode zb_M_paper 66 = .ok (.iload_n 2, 1) := by decide +kernel
theorem zd_M_paper_67 : decode zb_M_paper 67 = .ok (.iastore, 1) := by decide +kernel
theorem zd_M_paper_68 : decode zb_M_paper 68 = .ok (.aload_n 0, 1) := by decide +kernel
theorem zd_M_paper_69 : decode zb_M_paper 69 = .ok (.dup, 1) := by decide +kernel
theorem zd_M_paper_70 : decode zb_M_paper 70 = .ok (.getfield 70, 3) := by decide +kernel
theorem zd_M_paper_73 : decode zb_M_paper 73 = .ok (.iconst 1, 1) := by decide +kernel
theorem zd_M_paper_74 : decode zb_M_paper 74 = .ok (.iadd, 1) := by decide +kernel
theorem zd_M_paper_75 : decode zb_M_paper 75 = .ok (.putfield 70, 3) := by decide +kernel
theorem zd_M_paper_78 : decode zb_M_paper 78 = .ok (.iconst 1, 1) := by decide +kernel
theorem zd_M_paper_79 : decode zb_M_paper 79 = .ok (.ireturn, 1) := by decide +kernel
abbrev zy_M_draw : MethodName := ⟨"DeclareFormsModel", "draw", "(III)I"⟩
abbrev zb_M_draw : ByteArray := prog_7_method_27_code
theorem zh_M_draw : zy_M_draw.cls ≠ "java/lang/invoke/MethodHandle" ∧ zy_M_draw.cls ≠ "java/lang/invoke/VarHandle" ∧ (parseMethodDescriptor zy_M_draw.desc).map (fun d => d.parameters.length) = some 3 := by decide +kernel
theorem zd_M_draw_0 : decode zb_M_draw 0 = .ok (.aload_n 0, 1) := by decide +kernel
theorem zd_M_draw_1 : decode zb_M_draw 1 = .ok (.iload_n 1, 1) := by decide +kernel
theorem zd_M_draw_2 : decode zb_M_draw 2 = .ok (.invokevirtual 55, 3) := by decide +kernel
theorem zd_M_draw_5 : decode zb_M_draw 5 = .ok (.ifCond .eq 23, 3) := by decide +kernel
theorem zd_M_draw_8 : decode zb_M_draw 8 = .ok (.aload_n 0, 1) := by decide +kernel
theorem zd_M_draw_9 : decode zb_M_draw 9 = .ok (.iload_n 2, 1) := by decide +kernel
theorem zd_M_draw_10 : decode zb_M_draw 10 = .ok (.invokevirtual 116, 3) := by decide +kernel
theorem zd_M_draw_13 : decode zb_M_draw 13 = .ok (.ifCond .lt 15, 3) := by decide +kernel
theorem zd_M_draw_16 : decode zb_M_draw 16 = .ok (.iload_n 3, 1) := by decide +kernel
theorem zd_M_draw_17 : decode zb_M_draw 17 = .ok (.i2l, 1) := by decide +kernel
theorem zd_M_draw_18 : decode zb_M_draw 18 = .ok (.lconst 1, 1) := by decide +kernel
theorem zd_M_draw_19 : decode zb_M_draw 19 = .ok (.ldc2_w 114, 3) := by decide +kernel
theorem zd_M_draw_22 : decode zb_M_draw 22 = .ok (.invokestatic 47, 3) := by decide +kernel
theorem zd_M_draw_25 : decode zb_M_draw 25 = .ok (.ifCond .ne 9, 3) := by decide +kernel
theorem zd_M_draw_28 : decode zb_M_draw 28 = .ok (.aload_n 0, 1) := by decide +kernel
theorem zd_M_draw_29 : decode zb_M_draw 29 = .ok (.iconst 1, 1) := by decide +kernel
theorem zd_M_draw_30 : decode zb_M_draw 30 = .ok (.invokevirtual 63, 3) := by decide +kernel
theorem zd_M_draw_33 : decode zb_M_draw 33 = .ok (.ireturn, 1) := by decide +kernel
theorem zd_M_draw_34 : decode zb_M_draw 34 = .ok (.aload_n 0, 1) := by decide +kernel
theorem zd_M_draw_35 : decode zb_M_draw 35 = .ok (.iconst 0, 1) := by decide +kernel
theorem zd_M_draw_36 : decode zb_M_draw 36 = .ok (.putfield 39, 3) := by decide +kernel
theorem zd_M_draw_39 : decode zb_M_draw 39 = .ok (.aload_n 0, 1) := by decide +kernel
theorem zd_M_draw_40 : decode zb_M_draw 40 = .ok (.iload_n 2, 1) := by decide +kernel
theorem zd_M_draw_41 : decode zb_M_draw 41 = .ok (.invokevirtual 116, 3) := by decide +kernel
theorem zd_M_draw_44 : decode zb_M_draw 44 = .ok (.istore 4, 2) := by decide +kernel
theorem zd_M_draw_46 : decode zb_M_draw 46 = .ok (.aload_n 0, 1) := by decide +kernel
theorem zd_M_draw_47 : decode zb_M_draw 47 = .ok (.getfield 59, 3) := by decide +kernel
theorem zd_M_draw_50 : decode zb_M_draw 50 = .ok (.ifCond .ne 14, 3) := by decide +kernel
theorem zd_M_draw_53 : decode zb_M_draw 53 = .ok (.aload_n 0, 1) := by decide +kernel
theorem zd_M_draw_54 : decode zb_M_draw 54 = .ok (.getfield 27, 3) := by decide +kernel
theorem zd_M_draw_57 : decode zb_M_draw 57 = .ok (.iload 4, 2) := by decide +kernel
theorem zd_M_draw_59 : decode zb_M_draw 59 = .ok (.iaload, 1) := by decide +kernel
theorem zd_M_draw_60 : decode zb_M_draw 60 = .ok (.iload_n 3, 1) := by decide +kernel
theorem zd_M_draw_61 : decode zb_M_draw 61 = .ok (.if_icmp .ge 5, 3) := by decide +kernel
theorem zd_M_draw_64 : decode zb_M_draw 64 = .ok (.iconst (-1), 1) := by decide +kernel
theorem zd_M_draw_65 : decode zb_M_draw 65 = .ok (.ireturn, 1) := by decide +kernel
theorem zd_M_draw_66 : decode zb_M_draw 66 = .ok (.aload_n 0, 1) := by decide +kernel
theorem zd_M_draw_67 : decode zb_M_draw 67 = .ok (.getfield 27, 3) := by decide +kernel
theorem zd_M_draw_70 : decode zb_M_draw 70 = .ok (.iload 4, 2) := by decide +kernel
theorem zd_M_draw_72 : decode zb_M_draw 72 = .ok (.dup2, 1) := by decide +kernel
theorem zd_M_draw_73 : decode zb_M_draw 73 = .ok (.iaload, 1) := by decide +kernel
theorem zd_M_draw_74 : decode zb_M_draw 74 = .ok (.iload_n 3, 1) := by decide +kernel
theorem zd_M_draw_75 : decode zb_M_draw 75 = .ok (.isub, 1) := by decide +kernel
theorem zd_M_draw_76 : decode zb_M_draw 76 = .ok (.iastore, 1) := by decide +kernel
theorem zd_M_draw_77 : decode zb_M_draw 77 = .ok (.aload_n 0, 1) := by decide +kernel
theorem zd_M_draw_78 : decode zb_M_draw 78 = .ok (.getfield 30, 3) := by decide +kernel
theorem zd_M_draw_81 : decode zb_M_draw 81 = .ok (.bipush 20, 2) := by decide +kernel
theorem zd_M_draw_83 : decode zb_M_draw 83 = .ok (.iload_n 1, 1) := by decide +kernel
theorem zd_M_draw_84 : decode zb_M_draw 84 = .ok (.imul, 1) := by decide +kernel
theorem zd_M_draw_85 : decode zb_M_draw 85 = .ok (.iload 4, 2) := by decide +kernel
theorem zd_M_draw_87 : decode zb_M_draw 87 = .ok (.iadd, 1) := by decide +kernel
theorem zd_M_draw_88 : decode zb_M_draw 88 = .ok (.dup2, 1) := by decide +kernel
theorem zd_M_draw_89 : decode zb_M_draw 89 = .ok (.iaload, 1) := by decide +kernel
theorem zd_M_draw_90 : decode zb_M_draw 90 = .ok (.iload_n 3, 1) := by decide +kernel
theorem zd_M_draw_91 : decode zb_M_draw 91 = .ok (.iadd, 1) := by decide +kernel
theorem zd_M_draw_92 : decode zb_M_draw 92 = .ok (.iastore, 1) := by decide +kernel
theorem zd_M_draw_93 : decode zb_M_draw 93 = .ok (.aload_n 0, 1) := by decide +kernel
theorem zd_M_draw_94 : decode zb_M_draw 94 = .ok (.getfield 27, 3) := by decide +kernel
theorem zd_M_draw_97 : decode zb_M_draw 97 = .ok (.iload 4, 2) := by decide +kernel
theorem zd_M_draw_99 : decode zb_M_draw 99 = .ok (.iaload, 1) := by decide +kernel
theorem zd_M_draw_100 : decode zb_M_draw 100 = .ok (.ireturn, 1) := by decide +kernel
abbrev zy_M_sum : MethodName := ⟨"DeclareFormsModel", "sum", "(I)J"⟩
abbrev zb_M_sum : ByteArray := prog_7_method_28_code
theorem zh_M_sum : zy_M_sum.cls ≠ "java/lang/invoke/MethodHandle" ∧ zy_M_sum.cls ≠ "java/lang/invoke/VarHandle" ∧ (parseMethodDescriptor zy_M_sum.desc).map (fun d => d.parameters.length) = some 1 := by decide +kernel
theorem zd_M_sum_0 : decode zb_M_sum 0 = .ok (.aload_n 0, 1) := by decide +kernel
theorem zd_M_sum_1 : decode zb_M_sum 1 = .ok (.iload_n 1, 1) := by decide +kernel
theorem zd_M_sum_2 : decode zb_M_sum 2 = .ok (.i2l, 1) := by decide +kernel
theorem zd_M_sum_3 : decode zb_M_sum 3 = .ok (.ldc2_w 51, 3) := by decide +kernel
theorem zd_M_sum_6 : decode zb_M_sum 6 = .ok (.ldc2_w 53, 3) := by decide +kernel
theorem zd_M_sum_9 : decode zb_M_sum 9 = .ok (.invokestatic 47, 3) := by decide +kernel
theorem zd_M_sum_12 : decode zb_M_sum 12 = .ok (.ifCond .eq 7, 3) := by decide +kernel
theorem zd_M_sum_15 : decode zb_M_sum 15 = .ok (.iconst 0, 1) := by decide +kernel
theorem zd_M_sum_16 : decode zb_M_sum 16 = .ok (.goto 4, 3) := by decide +kernel
theorem zd_M_sum_19 : decode zb_M_sum 19 = .ok (.iconst 1, 1) := by decide +kernel
theorem zd_M_sum_20 : decode zb_M_sum 20 = .ok (.putfield 39, 3) := by decide +kernel
theorem zd_M_sum_23 : decode zb_M_sum 23 = .ok (.aload_n 0, 1) := by decide +kernel
theorem zd_M_sum_24 : decode zb_M_sum 24 = .ok (.getfield 39, 3) := by decide +kernel
theorem zd_M_sum_27 : decode zb_M_sum 27 = .ok (.ifCond .le 7, 3) := by decide +kernel
theorem zd_M_sum_30 : decode zb_M_sum 30 = .ok (.lconst 0, 1) := by decide +kernel
theorem zd_M_sum_31 : decode zb_M_sum 31 = .ok (.goto 8, 3) := by decide +kernel
theorem zd_M_sum_34 : decode zb_M_sum 34 = .ok (.aload_n 0, 1) := by decide +kernel
theorem zd_M_sum_35 : decode zb_M_sum 35 = .ok (.iload_n 1, 1) := by decide +kernel
theorem zd_M_sum_36 : decode zb_M_sum 36 = .ok (.invokevirtual 94, 3) := by decide +kernel
theorem zd_M_sum_39 : decode zb_M_sum 39 = .ok (.lreturn, 1) := by decide +kernel
abbrev zy_M_set : MethodName := ⟨"DeclareFormsModel", "set", "()I"⟩
abbrev zb_M_set : ByteArray := prog_7_method_29_code
theorem zh_M_set : zy_M_set.cls ≠ "java/lang/invoke/MethodHandle" ∧ zy_M_set.cls ≠ "java/lang/invoke/VarHandle" ∧ (parseMethodDescriptor zy_M_set.desc).map (fun d => d.parameters.length) = some 0 := by decide +kernel
theorem zd_M_set_0 : decode zb_M_set 0 = .ok (.iconst 0, 1) := by decide +kernel
theorem zd_M_set_1 : decode zb_M_set 1 = .ok (.istore_n 1, 1) := by decide +kernel
theorem zd_M_set_2 : decode zb_M_set 2 = .ok (.iconst 0, 1) := by decide +kernel
theorem zd_M_set_3 : decode zb_M_set 3 = .ok (.istore_n 2, 1) := by decide +kernel
theorem zd_M_set_4 : decode zb_M_set 4 = .ok (.iload_n 2, 1) := by decide +kernel
theorem zd_M_set_5 : decode zb_M_set 5 = .ok (.aload_n 0, 1) := by decide +kernel
theorem zd_M_set_6 : decode zb_M_set 6 = .ok (.getfield 42, 3) := by decide +kernel
theorem zd_M_set_9 : decode zb_M_set 9 = .ok (.if_icmp .gt 17, 3) := by decide +kernel
theorem zd_M_set_12 : decode zb_M_set 12 = .ok (.iload_n 1, 1) := by decide +kernel
theorem zd_M_set_13 : decode zb_M_set 13 = .ok (.aload_n 0, 1) := by decide +kernel
theorem zd_M_set_14 : decode zb_M_set 14 = .ok (.iload_n 2, 1) := by decide +kernel
theorem zd_M_set_15 : decode zb_M_set 15 = .ok (.invokevirtual 67, 3) := by decide +kernel
theorem zd_M_set_18 : decode zb_M_set 18 = .ok (.iadd, 1) := by decide +kernel
theorem zd_M_set_19 : decode zb_M_set 19 = .ok (.istore_n 1, 1) := by decide +kernel
theorem zd_M_set_20 : decode zb_M_set 20 = .ok (.iinc 2 1, 3) := by decide +kernel
theorem zd_M_set_23 : decode zb_M_set 23 = .ok (.goto (-19), 3) := by decide +kernel
theorem zd_M_set_26 : decode zb_M_set 26 = .ok (.iload_n 1, 1) := by decide +kernel
theorem zd_M_set_27 : decode zb_M_set 27 = .ok (.ireturn, 1) := by decide +kernel
abbrev zy_M_pack : MethodName := ⟨"DeclareFormsModel", "pack", "()I"⟩
abbrev zb_M_pack : ByteArray := prog_7_method_30_code
theorem zh_M_pack : zy_M_pack.cls ≠ "java/lang/invoke/MethodHandle" ∧ zy_M_pack.cls ≠ "java/lang/invoke/VarHandle" ∧ (parseMethodDescriptor zy_M_pack.desc).map (fun d => d.parameters.length) = some 0 := by decide +kernel
theorem zd_M_pack_0 : decode zb_M_pack 0 = .ok (.aload_n 0, 1) := by decide +kernel
theorem zd_M_pack_1 : decode zb_M_pack 1 = .ok (.iconst 0, 1) := by decide +kernel
theorem zd_M_pack_2 : decode zb_M_pack 2 = .ok (.putfield 39, 3) := by decide +kernel
theorem zd_M_pack_5 : decode zb_M_pack 5 = .ok (.iconst 3, 1) := by decide +kernel
theorem zd_M_pack_6 : decode zb_M_pack 6 = .ok (.bipush 6, 2) := by decide +kernel
theorem zd_M_pack_8 : decode zb_M_pack 8 = .ok (.aload_n 0, 1) := by decide +kernel
theorem zd_M_pack_9 : decode zb_M_pack 9 = .ok (.invokevirtual 119, 3) := by decide +kernel
theorem zd_M_pack_12 : decode zb_M_pack 12 = .ok (.imul, 1) := by decide +kernel
theorem zd_M_pack_13 : decode zb_M_pack 13 = .ok (.iadd, 1) := by decide +kernel
theorem zd_M_pack_14 : decode zb_M_pack 14 = .ok (.ireturn, 1) := by decide +kernel
abbrev zy_M_placeOf : MethodName := ⟨"DeclareFormsModel", "placeOf", "(I)I"⟩
abbrev zb_M_placeOf : ByteArray := prog_7_method_31_code
theorem zh_M_placeOf : zy_M_placeOf.cls ≠ "java/lang/invoke/MethodHandle" ∧ zy_M_placeOf.cls ≠ "java/lang/invoke/VarHandle" ∧ (parseMethodDescriptor zy_M_placeOf.desc).map (fun d => d.parameters.length) = some 1 := by decide +kernel
theorem zd_M_placeOf_0 : decode zb_M_placeOf 0 = .ok (.iload_n 1, 1) := by decide +kernel
theorem zd_M_placeOf_1 : decode zb_M_placeOf 1 = .ok (.istore_n 2, 1) := by decide +kernel
theorem zd_M_placeOf_2 : decode zb_M_placeOf 2 = .ok (.iconst 0, 1) := by decide +kernel
theorem zd_M_placeOf_3 : decode zb_M_placeOf 3 = .ok (.istore_n 3, 1) := by decide +kernel
theorem zd_M_placeOf_4 : decode zb_M_placeOf 4 = .ok (.aload_n 0, 1) := by decide +kernel
theorem zd_M_placeOf_5 : decode zb_M_placeOf 5 = .ok (.getfield 13, 3) := by decide +kernel
theorem zd_M_placeOf_8 : decode zb_M_placeOf 8 = .ok (.iload_n 3, 1) := by decide +kernel
theorem zd_M_placeOf_9 : decode zb_M_placeOf 9 = .ok (.laload, 1) := by decide +kernel
theorem zd_M_placeOf_10 : decode zb_M_placeOf 10 = .ok (.ldc2_w 37, 3) := by decide +kernel
theorem zd_M_placeOf_13 : decode zb_M_placeOf 13 = .ok (.lcmp, 1) := by decide +kernel
theorem zd_M_placeOf_14 : decode zb_M_placeOf 14 = .ok (.ifCond .eq 7, 3) := by decide +kernel
theorem zd_M_placeOf_17 : decode zb_M_placeOf 17 = .ok (.iload_n 2, 1) := by decide +kernel
theorem zd_M_placeOf_18 : decode zb_M_placeOf 18 = .ok (.ifCond .le 30, 3) := by decide +kernel
theorem zd_M_placeOf_21 : decode zb_M_placeOf 21 = .ok (.iload_n 2, 1) := by decide +kernel
theorem zd_M_placeOf_22 : decode zb_M_placeOf 22 = .ok (.aload_n 0, 1) := by decide +kernel
theorem zd_M_placeOf_23 : decode zb_M_placeOf 23 = .ok (.getfield 13, 3) := by decide +kernel
theorem zd_M_placeOf_26 : decode zb_M_placeOf 26 = .ok (.iload_n 3, 1) := by decide +kernel
theorem zd_M_placeOf_27 : decode zb_M_placeOf 27 = .ok (.laload, 1) := by decide +kernel
theorem zd_M_placeOf_28 : decode zb_M_placeOf 28 = .ok (.ldc2_w 37, 3) := by decide +kernel
theorem zd_M_placeOf_31 : decode zb_M_placeOf 31 = .ok (.lcmp, 1) := by decide +kernel
theorem zd_M_placeOf_32 : decode zb_M_placeOf 32 = .ok (.ifCond .ne 7, 3) := by decide +kernel
theorem zd_M_placeOf_35 : decode zb_M_placeOf 35 = .ok (.iconst 0, 1) := by decide +kernel
theorem zd_M_placeOf_36 : decode zb_M_placeOf 36 = .ok (.goto 4, 3) := by decide +kernel
theorem zd_M_placeOf_39 : decode zb_M_placeOf 39 = .ok (.iconst 1, 1) := by decide +kernel
theorem zd_M_placeOf_40 : decode zb_M_placeOf 40 = .ok (.isub, 1) := by decide +kernel
theorem zd_M_placeOf_41 : decode zb_M_placeOf 41 = .ok (.istore_n 2, 1) := by decide +kernel
theorem zd_M_placeOf_42 : decode zb_M_placeOf 42 = .ok (.iinc 3 1, 3) := by decide +kernel
theorem zd_M_placeOf_45 : decode zb_M_placeOf 45 = .ok (.goto (-41), 3) := by decide +kernel
theorem zd_M_placeOf_48 : decode zb_M_placeOf 48 = .ok (.iload_n 3, 1) := by decide +kernel
theorem zd_M_placeOf_49 : decode zb_M_placeOf 49 = .ok (.ireturn, 1) := by decide +kernel
abbrev zy_M_octet : MethodName := ⟨"DeclareFormsModel", "octet", "(I)B"⟩
abbrev zb_M_octet : ByteArray := prog_7_method_32_code
theorem zh_M_octet : zy_M_octet.cls ≠ "java/lang/invoke/MethodHandle" ∧ zy_M_octet.cls ≠ "java/lang/invoke/VarHandle" ∧ (parseMethodDescriptor zy_M_octet.desc).map (fun d => d.parameters.length) = some 1 := by decide +kernel
theorem zd_M_octet_0 : decode zb_M_octet 0 = .ok (.aload_n 0, 1) := by decide +kernel
theorem zd_M_octet_1 : decode zb_M_octet 1 = .ok (.invokevirtual 119, 3) := by decide +kernel
theorem zd_M_octet_4 : decode zb_M_octet 4 = .ok (.istore_n 2, 1) := by decide +kernel
theorem zd_M_octet_5 : decode zb_M_octet 5 = .ok (.iload_n 1, 1) := by decide +kernel
theorem zd_M_octet_6 : decode zb_M_octet 6 = .ok (.ifCond .lt 13, 3) := by decide +kernel
theorem zd_M_octet_9 : decode zb_M_octet 9 = .ok (.iload_n 1, 1) := by decide +kernel
theorem zd_M_octet_10 : decode zb_M_octet 10 = .ok (.iconst 3, 1) := by decide +kernel
theorem zd_M_octet_11 : decode zb_M_octet 11 = .ok (.bipush 6, 2) := by decide +kernel
theorem zd_M_octet_13 : decode zb_M_octet 13 = .ok (.iload_n 2, 1) := by decide +kernel
theorem zd_M_octet_14 : decode zb_M_octet 14 = .ok (.imul, 1) := by decide +kernel
theorem zd_M_octet_15 : decode zb_M_octet 15 = .ok (.iadd, 1) := by decide +kernel
theorem zd_M_octet_16 : decode zb_M_octet 16 = .ok (.if_icmp .lt 10, 3) := by decide +kernel
theorem zd_M_octet_19 : decode zb_M_octet 19 = .ok (.aload_n 0, 1) := by decide +kernel
theorem zd_M_octet_20 : decode zb_M_octet 20 = .ok (.iconst 1, 1) := by decide +kernel
theorem zd_M_octet_21 : decode zb_M_octet 21 = .ok (.putfield 39, 3) := by decide +kernel
theorem zd_M_octet_24 : decode zb_M_octet 24 = .ok (.iconst 0, 1) := by decide +kernel
theorem zd_M_octet_25 : decode zb_M_octet 25 = .ok (.ireturn, 1) := by decide +kernel
theorem zd_M_octet_26 : decode zb_M_octet 26 = .ok (.aload_n 0, 1) := by decide +kernel
theorem zd_M_octet_27 : decode zb_M_octet 27 = .ok (.iconst 0, 1) := by decide +kernel
theorem zd_M_octet_28 : decode zb_M_octet 28 = .ok (.putfield 39, 3) := by decide +kernel
theorem zd_M_octet_31 : decode zb_M_octet 31 = .ok (.iload_n 1, 1) := by decide +kernel
theorem zd_M_octet_32 : decode zb_M_octet 32 = .ok (.iconst 3, 1) := by decide +kernel
theorem zd_M_octet_33 : decode zb_M_octet 33 = .ok (.if_icmp .ge 29, 3) := by decide +kernel
theorem zd_M_octet_36 : decode zb_M_octet 36 = .ok (.iload_n 1, 1) := by decide +kernel
theorem zd_M_octet_37 : decode zb_M_octet 37 = .ok (.ifCond .ne 10, 3) := by decide +kernel
theorem zd_M_octet_40 : decode zb_M_octet 40 = .ok (.aload_n 0, 1) := by decide +kernel
theorem zd_M_octet_41 : decode zb_M_octet 41 = .ok (.getfield 33, 3) := by decide +kernel
theorem zd_M_octet_44 : decode zb_M_octet 44 = .ok (.goto 16, 3) := by decide +kernel
theorem zd_M_octet_47 : decode zb_M_octet 47 = .ok (.iload_n 1, 1) := by decide +kernel
theorem zd_M_octet_48 : decode zb_M_octet 48 = .ok (.iconst 1, 1) := by decide +kernel
theorem zd_M_octet_49 : decode zb_M_octet 49 = .ok (.if_icmp .ne 10, 3) := by decide +kernel
theorem zd_M_octet_52 : decode zb_M_octet 52 = .ok (.iload_n 2, 1) := by decide +kernel
theorem zd_M_octet_53 : decode zb_M_octet 53 = .ok (.bipush 8, 2) := by decide +kernel
theorem zd_M_octet_55 : decode zb_M_octet 55 = .ok (.ishr, 1) := by decide +kernel
theorem zd_M_octet_56 : decode zb_M_octet 56 = .ok (.goto 4, 3) := by decide +kernel
theorem zd_M_octet_59 : decode zb_M_octet 59 = .ok (.iload_n 2, 1) := by decide +kernel
theorem zd_M_octet_60 : decode zb_M_octet 60 = .ok (.i2b, 1) := by decide +kernel
theorem zd_M_octet_61 : decode zb_M_octet 61 = .ok (.ireturn, 1) := by decide +kernel
theorem zd_M_octet_62 : decode zb_M_octet 62 = .ok (.aload_n 0, 1) := by decide +kernel
theorem zd_M_octet_63 : decode zb_M_octet 63 = .ok (.iload_n 1, 1) := by decide +kernel
theorem zd_M_octet_64 : decode zb_M_octet 64 = .ok (.iconst 3, 1) := by decide +kernel
theorem zd_M_octet_65 : decode zb_M_octet 65 = .ok (.isub, 1) := by decide +kernel
theorem zd_M_octet_66 : decode zb_M_octet 66 = .ok (.bipush 6, 2) := by decide +kernel
theorem zd_M_octet_68 : decode zb_M_octet 68 = .ok (.idiv, 1) := by decide +kernel
theorem zd_M_octet_69 : decode zb_M_octet 69 = .ok (.invokevirtual 122, 3) := by decide +kernel
theorem zd_M_octet_72 : decode zb_M_octet 72 = .ok (.istore_n 3, 1) := by decide +kernel
theorem zd_M_octet_73 : decode zb_M_octet 73 = .ok (.iload_n 1, 1) := by decide +kernel
theorem zd_M_octet_74 : decode zb_M_octet 74 = .ok (.iconst 3, 1) := by decide +kernel
theorem zd_M_octet_75 : decode zb_M_octet 75 = .ok (.isub, 1) := by decide +kernel
theorem zd_M_octet_76 : decode zb_M_octet 76 = .ok (.bipush 6, 2) := by decide +kernel
theorem zd_M_octet_78 : decode zb_M_octet 78 = .ok (.irem, 1) := by decide +kernel
theorem zd_M_octet_79 : decode zb_M_octet 79 = .ok (.istore 4, 2) := by decide +kernel
theorem zd_M_octet_81 : decode zb_M_octet 81 = .ok (.iload_n 3, 1) := by decide +kernel
theorem zd_M_octet_82 : decode zb_M_octet 82 = .ok (.bipush 10, 2) := by decide +kernel
theorem zd_M_octet_84 : decode zb_M_octet 84 = .ok (.idiv, 1) := by decide +kernel
theorem zd_M_octet_85 : decode zb_M_octet 85 = .ok (.istore 5, 2) := by decide +kernel
theorem zd_M_octet_87 : decode zb_M_octet 87 = .ok (.iload 4, 2) := by decide +kernel
theorem zd_M_octet_89 : decode zb_M_octet 89 = .ok (.ifCond .ne 24, 3) := by decide +kernel
theorem zd_M_octet_92 : decode zb_M_octet 92 = .ok (.iload 5, 2) := by decide +kernel
theorem zd_M_octet_94 : decode zb_M_octet 94 = .ok (.ifCond .ne 8, 3) := by decide +kernel
theorem zd_M_octet_97 : decode zb_M_octet 97 = .ok (.iload_n 3, 1) := by decide +kernel
theorem zd_M_octet_98 : decode zb_M_octet 98 = .ok (.i2l, 1) := by decide +kernel
theorem zd_M_octet_99 : decode zb_M_octet 99 = .ok (.goto 40, 3) := by decide +kernel
theorem zd_M_octet_102 : decode zb_M_octet 102 = .ok (.bipush 10, 2) := by decide +kernel
theorem zd_M_octet_104 : decode zb_M_octet 104 = .ok (.iload_n 3, 1) := by decide +kernel
theorem zd_M_octet_105 : decode zb_M_octet 105 = .ok (.bipush 10, 2) := by decide +kernel
theorem zd_M_octet_107 : decode zb_M_octet 107 = .ok (.irem, 1) := by decide +kernel
theorem zd_M_octet_108 : decode zb_M_octet 108 = .ok (.iadd, 1) := by decide +kernel
theorem zd_M_octet_109 : decode zb_M_octet 109 = .ok (.i2l, 1) := by decide +kernel
theorem zd_M_octet_110 : decode zb_M_octet 110 = .ok (.goto 29, 3) := by decide +kernel
theorem zd_M_octet_113 : decode zb_M_octet 113 = .ok (.iload 4, 2) := by decide +kernel
theorem zd_M_octet_115 : decode zb_M_octet 115 = .ok (.iconst 1, 1) := by decide +kernel
theorem zd_M_octet_116 : decode zb_M_octet 116 = .ok (.if_icmp .ne 9, 3) := by decide +kernel
theorem zd_M_octet_119 : decode zb_M_octet 119 = .ok (.iload 5, 2) := by decide +kernel
theorem zd_M_octet_121 : decode zb_M_octet 121 = .ok (.i2l, 1) := by decide +kernel
theorem zd_M_octet_122 : decode zb_M_octet 122 = .ok (.goto 17, 3) := by decide +kernel
theorem zd_M_octet_125 : decode zb_M_octet 125 = .ok (.aload_n 0, 1) := by decide +kernel
theorem zd_M_octet_126 : decode zb_M_octet 126 = .ok (.getfield 13, 3) := by decide +kernel
theorem zd_M_octet_129 : decode zb_M_octet 129 = .ok (.iload_n 3, 1) := by decide +kernel
theorem zd_M_octet_130 : decode zb_M_octet 130 = .ok (.laload, 1) := by decide +kernel
theorem zd_M_octet_131 : decode zb_M_octet 131 = .ok (.bipush 8, 2) := by decide +kernel
theorem zd_M_octet_133 : decode zb_M_octet 133 = .ok (.iconst 5, 1) := by decide +kernel
theorem zd_M_octet_134 : decode zb_M_octet 134 = .ok (.iload 4, 2) := by decide +kernel
theorem zd_M_octet_136 : decode zb_M_octet 136 = .ok (.isub, 1) := by decide +kernel
theorem zd_M_octet_137 : decode zb_M_octet 137 = .ok (.imul, 1) := by decide +kernel
theorem zd_M_octet_138 : decode zb_M_octet 138 = .ok (.lshr, 1) := by decide +kernel
theorem zd_M_octet_139 : decode zb_M_octet 139 = .ok (.l2i, 1) := by decide +kernel
theorem zd_M_octet_140 : decode zb_M_octet 140 = .ok (.i2b, 1) := by decide +kernel
theorem zd_M_octet_141 : decode zb_M_octet 141 = .ok (.ireturn, 1) := by decide +kernel
abbrev zy_M_ends : MethodName := ⟨"DeclareFormsModel", "ends", "(I)I"⟩
abbrev zb_M_ends : ByteArray := prog_7_method_33_code
theorem zh_M_ends : zy_M_ends.cls ≠ "java/lang/invoke/MethodHandle" ∧ zy_M_ends.cls ≠ "java/lang/invoke/VarHandle" ∧ (parseMethodDescriptor zy_M_ends.desc).map (fun d => d.parameters.length) = some 1 := by decide +kernel
theorem zd_M_ends_0 : decode zb_M_ends 0 = .ok (.aload_n 0, 1) := by decide +kernel
theorem zd_M_ends_1 : decode zb_M_ends 1 = .ok (.iconst 0, 1) := by decide +kernel
theorem zd_M_ends_2 : decode zb_M_ends 2 = .ok (.putfield 125, 3) := by decide +kernel
theorem zd_M_ends_5 : decode zb_M_ends 5 = .ok (.iload_n 1, 1) := by decide +kernel
theorem zd_M_ends_6 : decode zb_M_ends 6 = .ok (.ireturn, 1) := by decide +kernel
abbrev zy_M_whole : MethodName := ⟨"DeclareFormsModel", "whole", "()I"⟩
abbrev zb_M_whole : ByteArray := prog_7_method_35_code
theorem zh_M_whole : zy_M_whole.cls ≠ "java/lang/invoke/MethodHandle" ∧ zy_M_whole.cls ≠ "java/lang/invoke/VarHandle" ∧ (parseMethodDescriptor zy_M_whole.desc).map (fun d => d.parameters.length) = some 0 := by decide +kernel
theorem zd_M_whole_0 : decode zb_M_whole 0 = .ok (.aload_n 0, 1) := by decide +kernel
theorem zd_M_whole_1 : decode zb_M_whole 1 = .ok (.dup, 1) := by decide +kernel
theorem zd_M_whole_2 : decode zb_M_whole 2 = .ok (.getfield 143, 3) := by decide +kernel
theorem zd_M_whole_5 : decode zb_M_whole 5 = .ok (.iconst 1, 1) := by decide +kernel
theorem zd_M_whole_6 : decode zb_M_whole 6 = .ok (.iadd, 1) := by decide +kernel
theorem zd_M_whole_7 : decode zb_M_whole 7 = .ok (.putfield 143, 3) := by decide +kernel
theorem zd_M_whole_10 : decode zb_M_whole 10 = .ok (.aload_n 0, 1) := by decide +kernel
theorem zd_M_whole_11 : decode zb_M_whole 11 = .ok (.aload_n 0, 1) := by decide +kernel
theorem zd_M_whole_12 : decode zb_M_whole 12 = .ok (.getfield 134, 3) := by decide +kernel
theorem zd_M_whole_15 : decode zb_M_whole 15 = .ok (.putfield 146, 3) := by decide +kernel
theorem zd_M_whole_18 : decode zb_M_whole 18 = .ok (.aload_n 0, 1) := by decide +kernel
theorem zd_M_whole_19 : decode zb_M_whole 19 = .ok (.iconst 1, 1) := by decide +kernel
theorem zd_M_whole_20 : decode zb_M_whole 20 = .ok (.invokevirtual 131, 3) := by decide +kernel
theorem zd_M_whole_23 : decode zb_M_whole 23 = .ok (.ireturn, 1) := by decide +kernel
abbrev zy_M_begins : MethodName := ⟨"DeclareFormsModel", "begins", "(I)I"⟩
abbrev zb_M_begins : ByteArray := prog_7_method_34_code
theorem zh_M_begins : zy_M_begins.cls ≠ "java/lang/invoke/MethodHandle" ∧ zy_M_begins.cls ≠ "java/lang/invoke/VarHandle" ∧ (parseMethodDescriptor zy_M_begins.desc).map (fun d => d.parameters.length) = some 1 := by decide +kernel
theorem zd_M_begins_0 : decode zb_M_begins 0 = .ok (.aload_n 0, 1) := by decide +kernel
theorem zd_M_begins_1 : decode zb_M_begins 1 = .ok (.getfield 125, 3) := by decide +kernel
theorem zd_M_begins_4 : decode zb_M_begins 4 = .ok (.ifCond .ne 28, 3) := by decide +kernel
theorem zd_M_begins_7 : decode zb_M_begins 7 = .ok (.aload_n 0, 1) := by decide +kernel
theorem zd_M_begins_8 : decode zb_M_begins 8 = .ok (.iload_n 1, 1) := by decide +kernel
theorem zd_M_begins_9 : decode zb_M_begins 9 = .ok (.putfield 128, 3) := by decide +kernel
theorem zd_M_begins_12 : decode zb_M_begins 12 = .ok (.aload_n 0, 1) := by decide +kernel
theorem zd_M_begins_13 : decode zb_M_begins 13 = .ok (.iconst 1, 1) := by decide +kernel
theorem zd_M_begins_14 : decode zb_M_begins 14 = .ok (.putfield 125, 3) := by decide +kernel
theorem zd_M_begins_17 : decode zb_M_begins 17 = .ok (.iload_n 1, 1) := by decide +kernel
theorem zd_M_begins_18 : decode zb_M_begins 18 = .ok (.iconst 3, 1) := by decide +kernel
theorem zd_M_begins_19 : decode zb_M_begins 19 = .ok (.if_icmp .le 11, 3) := by decide +kernel
theorem zd_M_begins_22 : decode zb_M_begins 22 = .ok (.aload_n 0, 1) := by decide +kernel
theorem zd_M_begins_23 : decode zb_M_begins 23 = .ok (.iconst (-1), 1) := by decide +kernel
theorem zd_M_begins_24 : decode zb_M_begins 24 = .ok (.invokevirtual 131, 3) := by decide +kernel
theorem zd_M_begins_27 : decode zb_M_begins 27 = .ok (.goto 4, 3) := by decide +kernel
theorem zd_M_begins_30 : decode zb_M_begins 30 = .ok (.iconst 0, 1) := by decide +kernel
theorem zd_M_begins_31 : decode zb_M_begins 31 = .ok (.ireturn, 1) := by decide +kernel
theorem zd_M_begins_32 : decode zb_M_begins 32 = .ok (.aload_n 0, 1) := by decide +kernel
theorem zd_M_begins_33 : decode zb_M_begins 33 = .ok (.getfield 125, 3) := by decide +kernel
theorem zd_M_begins_36 : decode zb_M_begins 36 = .ok (.iconst 1, 1) := by decide +kernel
theorem zd_M_begins_37 : decode zb_M_begins 37 = .ok (.if_icmp .ne 37, 3) := by decide +kernel
theorem zd_M_begins_40 : decode zb_M_begins 40 = .ok (.aload_n 0, 1) := by decide +kernel
theorem zd_M_begins_41 : decode zb_M_begins 41 = .ok (.sipush 256, 3) := by decide +kernel
theorem zd_M_begins_44 : decode zb_M_begins 44 = .ok (.iload_n 1, 1) := by decide +kernel
theorem zd_M_begins_45 : decode zb_M_begins 45 = .ok (.imul, 1) := by decide +kernel
theorem zd_M_begins_46 : decode zb_M_begins 46 = .ok (.putfield 134, 3) := by decide +kernel
theorem zd_M_begins_49 : decode zb_M_begins 49 = .ok (.aload_n 0, 1) := by decide +kernel
theorem zd_M_begins_50 : decode zb_M_begins 50 = .ok (.iconst 2, 1) := by decide +kernel
theorem zd_M_begins_51 : decode zb_M_begins 51 = .ok (.putfield 125, 3) := by decide +kernel
theorem zd_M_begins_54 : decode zb_M_begins 54 = .ok (.aload_n 0, 1) := by decide +kernel
theorem zd_M_begins_55 : decode zb_M_begins 55 = .ok (.getfield 134, 3) := by decide +kernel
theorem zd_M_begins_58 : decode zb_M_begins 58 = .ok (.sipush 610, 3) := by decide +kernel
theorem zd_M_begins_61 : decode zb_M_begins 61 = .ok (.if_icmp .le 11, 3) := by decide +kernel
theorem zd_M_begins_64 : decode zb_M_begins 64 = .ok (.aload_n 0, 1) := by decide +kernel
theorem zd_M_begins_65 : decode zb_M_begins 65 = .ok (.iconst (-1), 1) := by decide +kernel
theorem zd_M_begins_66 : decode zb_M_begins 66 = .ok (.invokevirtual 131, 3) := by decide +kernel
theorem zd_M_begins_69 : decode zb_M_begins 69 = .ok (.goto 4, 3) := by decide +kernel
theorem zd_M_begins_72 : decode zb_M_begins 72 = .ok (.iconst 0, 1) := by decide +kernel
theorem zd_M_begins_73 : decode zb_M_begins 73 = .ok (.ireturn, 1) := by decide +kernel
theorem zd_M_begins_74 : decode zb_M_begins 74 = .ok (.aload_n 0, 1) := by decide +kernel
theorem zd_M_begins_75 : decode zb_M_begins 75 = .ok (.dup, 1) := by decide +kernel
theorem zd_M_begins_76 : decode zb_M_begins 76 = .ok (.getfield 134, 3) := by decide +kernel
theorem zd_M_begins_79 : decode zb_M_begins 79 = .ok (.iload_n 1, 1) := by decide +kernel
theorem zd_M_begins_80 : decode zb_M_begins 80 = .ok (.iadd, 1) := by decide +kernel
theorem zd_M_begins_81 : decode zb_M_begins 81 = .ok (.putfield 134, 3) := by decide +kernel
theorem zd_M_begins_84 : decode zb_M_begins 84 = .ok (.aload_n 0, 1) := by decide +kernel
theorem zd_M_begins_85 : decode zb_M_begins 85 = .ok (.iconst (-1), 1) := by decide +kernel
theorem zd_M_begins_86 : decode zb_M_begins 86 = .ok (.putfield 137, 3) := by decide +kernel
theorem zd_M_begins_89 : decode zb_M_begins 89 = .ok (.aload_n 0, 1) := by decide +kernel
theorem zd_M_begins_90 : decode zb_M_begins 90 = .ok (.iconst 3, 1) := by decide +kernel
theorem zd_M_begins_91 : decode zb_M_begins 91 = .ok (.putfield 125, 3) := by decide +kernel
theorem zd_M_begins_94 : decode zb_M_begins 94 = .ok (.aload_n 0, 1) := by decide +kernel
theorem zd_M_begins_95 : decode zb_M_begins 95 = .ok (.getfield 134, 3) := by decide +kernel
theorem zd_M_begins_98 : decode zb_M_begins 98 = .ok (.sipush 610, 3) := by decide +kernel
theorem zd_M_begins_101 : decode zb_M_begins 101 = .ok (.if_icmp .le 11, 3) := by decide +kernel
theorem zd_M_begins_104 : decode zb_M_begins 104 = .ok (.aload_n 0, 1) := by decide +kernel
theorem zd_M_begins_105 : decode zb_M_begins 105 = .ok (.iconst (-1), 1) := by decide +kernel
theorem zd_M_begins_106 : decode zb_M_begins 106 = .ok (.invokevirtual 131, 3) := by decide +kernel
theorem zd_M_begins_109 : decode zb_M_begins 109 = .ok (.goto 18, 3) := by decide +kernel
theorem zd_M_begins_112 : decode zb_M_begins 112 = .ok (.aload_n 0, 1) := by decide +kernel
theorem zd_M_begins_113 : decode zb_M_begins 113 = .ok (.getfield 134, 3) := by decide +kernel
theorem zd_M_begins_116 : decode zb_M_begins 116 = .ok (.ifCond .ne 10, 3) := by decide +kernel
theorem zd_M_begins_119 : decode zb_M_begins 119 = .ok (.aload_n 0, 1) := by decide +kernel
theorem zd_M_begins_120 : decode zb_M_begins 120 = .ok (.invokevirtual 140, 3) := by decide +kernel
theorem zd_M_begins_123 : decode zb_M_begins 123 = .ok (.goto 4, 3) := by decide +kernel
theorem zd_M_begins_126 : decode zb_M_begins 126 = .ok (.iconst 0, 1) := by decide +kernel
theorem zd_M_begins_127 : decode zb_M_begins 127 = .ok (.ireturn, 1) := by decide +kernel
abbrev zy_M_read : MethodName := ⟨"DeclareFormsModel", "read", "(B)I"⟩
abbrev zb_M_read : ByteArray := prog_7_method_36_code
theorem zh_M_read : zy_M_read.cls ≠ "java/lang/invoke/MethodHandle" ∧ zy_M_read.cls ≠ "java/lang/invoke/VarHandle" ∧ (parseMethodDescriptor zy_M_read.desc).map (fun d => d.parameters.length) = some 1 := by decide +kernel
theorem zd_M_read_0 : decode zb_M_read 0 = .ok (.aload_n 0, 1) := by decide +kernel
theorem zd_M_read_1 : decode zb_M_read 1 = .ok (.iconst 0, 1) := by decide +kernel
theorem zd_M_read_2 : decode zb_M_read 2 = .ok (.putfield 39, 3) := by decide +kernel
theorem zd_M_read_5 : decode zb_M_read 5 = .ok (.iload_n 1, 1) := by decide +kernel
theorem zd_M_read_6 : decode zb_M_read 6 = .ok (.sipush 255, 3) := by decide +kernel
theorem zd_M_read_9 : decode zb_M_read 9 = .ok (.iand, 1) := by decide +kernel
theorem zd_M_read_10 : decode zb_M_read 10 = .ok (.istore_n 2, 1) := by decide +kernel
theorem zd_M_read_11 : decode zb_M_read 11 = .ok (.aload_n 0, 1) := by decide +kernel
theorem zd_M_read_12 : decode zb_M_read 12 = .ok (.getfield 125, 3) := by decide +kernel
theorem zd_M_read_15 : decode zb_M_read 15 = .ok (.iconst 3, 1) := by decide +kernel
theorem zd_M_read_16 : decode zb_M_read 16 = .ok (.if_icmp .ge 9, 3) := by decide +kernel
theorem zd_M_read_19 : decode zb_M_read 19 = .ok (.aload_n 0, 1) := by decide +kernel
theorem zd_M_read_20 : decode zb_M_read 20 = .ok (.iload_n 2, 1) := by decide +kernel
theorem zd_M_read_21 : decode zb_M_read 21 = .ok (.invokevirtual 149, 3) := by decide +kernel
theorem zd_M_read_24 : decode zb_M_read 24 = .ok (.ireturn, 1) := by decide +kernel
theorem zd_M_read_25 : decode zb_M_read 25 = .ok (.aload_n 0, 1) := by decide +kernel
theorem zd_M_read_26 : decode zb_M_read 26 = .ok (.getfield 125, 3) := by decide +kernel
theorem zd_M_read_29 : decode zb_M_read 29 = .ok (.iconst 3, 1) := by decide +kernel
theorem zd_M_read_30 : decode zb_M_read 30 = .ok (.isub, 1) := by decide +kernel
theorem zd_M_read_31 : decode zb_M_read 31 = .ok (.bipush 6, 2) := by decide +kernel
theorem zd_M_read_33 : decode zb_M_read 33 = .ok (.irem, 1) := by decide +kernel
theorem zd_M_read_34 : decode zb_M_read 34 = .ok (.istore_n 3, 1) := by decide +kernel
theorem zd_M_read_35 : decode zb_M_read 35 = .ok (.aload_n 0, 1) := by decide +kernel
theorem zd_M_read_36 : decode zb_M_read 36 = .ok (.dup, 1) := by decide +kernel
theorem zd_M_read_37 : decode zb_M_read 37 = .ok (.getfield 125, 3) := by decide +kernel
theorem zd_M_read_40 : decode zb_M_read 40 = .ok (.iconst 1, 1) := by decide +kernel
theorem zd_M_read_41 : decode zb_M_read 41 = .ok (.iadd, 1) := by decide +kernel
theorem zd_M_read_42 : decode zb_M_read 42 = .ok (.putfield 125, 3) := by decide +kernel
theorem zd_M_read_45 : decode zb_M_read 45 = .ok (.iload_n 3, 1) := by decide +kernel
theorem zd_M_read_46 : decode zb_M_read 46 = .ok (.ifCond .ne 36, 3) := by decide +kernel
theorem zd_M_read_49 : decode zb_M_read 49 = .ok (.aload_n 0, 1) := by decide +kernel
theorem zd_M_read_50 : decode zb_M_read 50 = .ok (.iload_n 2, 1) := by decide +kernel
theorem zd_M_read_51 : decode zb_M_read 51 = .ok (.putfield 152, 3) := by decide +kernel
theorem zd_M_read_54 : decode zb_M_read 54 = .ok (.iload_n 2, 1) := by decide +kernel
theorem zd_M_read_55 : decode zb_M_read 55 = .ok (.bipush 19, 2) := by decide +kernel
theorem zd_M_read_57 : decode zb_M_read 57 = .ok (.if_icmp .gt 15, 3) := by decide +kernel
theorem zd_M_read_60 : decode zb_M_read 60 = .ok (.iload_n 2, 1) := by decide +kernel
theorem zd_M_read_61 : decode zb_M_read 61 = .ok (.aload_n 0, 1) := by decide +kernel
theorem zd_M_read_62 : decode zb_M_read 62 = .ok (.getfield 128, 3) := by decide +kernel
theorem zd_M_read_65 : decode zb_M_read 65 = .ok (.invokestatic 79, 3) := by decide +kernel
theorem zd_M_read_68 : decode zb_M_read 68 = .ok (.iconst 3, 1) := by decide +kernel
theorem zd_M_read_69 : decode zb_M_read 69 = .ok (.if_icmp .ne 11, 3) := by decide +kernel
theorem zd_M_read_72 : decode zb_M_read 72 = .ok (.aload_n 0, 1) := by decide +kernel
theorem zd_M_read_73 : decode zb_M_read 73 = .ok (.iconst (-1), 1) := by decide +kernel
theorem zd_M_read_74 : decode zb_M_read 74 = .ok (.invokevirtual 131, 3) := by decide +kernel
theorem zd_M_read_77 : decode zb_M_read 77 = .ok (.goto 4, 3) := by decide +kernel
theorem zd_M_read_80 : decode zb_M_read 80 = .ok (.iconst 0, 1) := by decide +kernel
theorem zd_M_read_81 : decode zb_M_read 81 = .ok (.ireturn, 1) := by decide +kernel
theorem zd_M_read_82 : decode zb_M_read 82 = .ok (.iload_n 3, 1) := by decide +kernel
theorem zd_M_read_83 : decode zb_M_read 83 = .ok (.iconst 1, 1) := by decide +kernel
theorem zd_M_read_84 : decode zb_M_read 84 = .ok (.if_icmp .ne 96, 3) := by decide +kernel
theorem zd_M_read_87 : decode zb_M_read 87 = .ok (.aload_n 0, 1) := by decide +kernel
theorem zd_M_read_88 : decode zb_M_read 88 = .ok (.getfield 152, 3) := by decide +kernel
theorem zd_M_read_91 : decode zb_M_read 91 = .ok (.bipush 10, 2) := by decide +kernel
theorem zd_M_read_93 : decode zb_M_read 93 = .ok (.if_icmp .ge 15, 3) := by decide +kernel
theorem zd_M_read_96 : decode zb_M_read 96 = .ok (.iload_n 2, 1) := by decide +kernel
theorem zd_M_read_97 : decode zb_M_read 97 = .ok (.ifCond .ne 7, 3) := by decide +kernel
theorem zd_M_read_100 : decode zb_M_read 100 = .ok (.iconst 1, 1) := by decide +kernel
theorem zd_M_read_101 : decode zb_M_read 101 = .ok (.goto 16, 3) := by decide +kernel
theorem zd_M_read_104 : decode zb_M_read 104 = .ok (.iconst 0, 1) := by decide +kernel
theorem zd_M_read_105 : decode zb_M_read 105 = .ok (.goto 12, 3) := by decide +kernel
theorem zd_M_read_108 : decode zb_M_read 108 = .ok (.iload_n 2, 1) := by decide +kernel
theorem zd_M_read_109 : decode zb_M_read 109 = .ok (.i2l, 1) := by decide +kernel
theorem zd_M_read_110 : decode zb_M_read 110 = .ok (.lconst 1, 1) := by decide +kernel
theorem zd_M_read_111 : decode zb_M_read 111 = .ok (.ldc2_w 155, 3) := by decide +kernel
theorem zd_M_read_114 : decode zb_M_read 114 = .ok (.invokestatic 47, 3) := by decide +kernel
theorem zd_M_read_117 : decode zb_M_read 117 = .ok (.istore 4, 2) := by decide +kernel
theorem zd_M_read_119 : decode zb_M_read 119 = .ok (.bipush 10, 2) := by decide +kernel
theorem zd_M_read_121 : decode zb_M_read 121 = .ok (.iload_n 2, 1) := by decide +kernel
theorem zd_M_read_122 : decode zb_M_read 122 = .ok (.imul, 1) := by decide +kernel
theorem zd_M_read_123 : decode zb_M_read 123 = .ok (.aload_n 0, 1) := by decide +kernel
theorem zd_M_read_124 : decode zb_M_read 124 = .ok (.getfield 152, 3) := by decide +kernel
theorem zd_M_read_127 : decode zb_M_read 127 = .ok (.bipush 10, 2) := by decide +kernel
theorem zd_M_read_129 : decode zb_M_read 129 = .ok (.irem, 1) := by decide +kernel
theorem zd_M_read_130 : decode zb_M_read 130 = .ok (.iadd, 1) := by decide +kernel
theorem zd_M_read_131 : decode zb_M_read 131 = .ok (.istore 5, 2) := by decide +kernel
theorem zd_M_read_133 : decode zb_M_read 133 = .ok (.iload 5, 2) := by decide +kernel
theorem zd_M_read_135 : decode zb_M_read 135 = .ok (.aload_n 0, 1) := by decide +kernel
theorem zd_M_read_136 : decode zb_M_read 136 = .ok (.getfield 137, 3) := by decide +kernel
theorem zd_M_read_139 : decode zb_M_read 139 = .ok (.if_icmp .le 7, 3) := by decide +kernel
theorem zd_M_read_142 : decode zb_M_read 142 = .ok (.iconst 1, 1) := by decide +kernel
theorem zd_M_read_143 : decode zb_M_read 143 = .ok (.goto 4, 3) := by decide +kernel
theorem zd_M_read_146 : decode zb_M_read 146 = .ok (.iconst 0, 1) := by decide +kernel
theorem zd_M_read_147 : decode zb_M_read 147 = .ok (.istore 6, 2) := by decide +kernel
theorem zd_M_read_149 : decode zb_M_read 149 = .ok (.aload_n 0, 1) := by decide +kernel
theorem zd_M_read_150 : decode zb_M_read 150 = .ok (.iload 5, 2) := by decide +kernel
theorem zd_M_read_152 : decode zb_M_read 152 = .ok (.putfield 137, 3) := by decide +kernel
theorem zd_M_read_155 : decode zb_M_read 155 = .ok (.aload_n 0, 1) := by decide +kernel
theorem zd_M_read_156 : decode zb_M_read 156 = .ok (.lconst 0, 1) := by decide +kernel
theorem zd_M_read_157 : decode zb_M_read 157 = .ok (.putfield 157, 3) := by decide +kernel
theorem zd_M_read_160 : decode zb_M_read 160 = .ok (.iload 4, 2) := by decide +kernel
theorem zd_M_read_162 : decode zb_M_read 162 = .ok (.ifCond .eq 12, 3) := by decide +kernel
theorem zd_M_read_165 : decode zb_M_read 165 = .ok (.iload 6, 2) := by decide +kernel
theorem zd_M_read_167 : decode zb_M_read 167 = .ok (.ifCond .eq 7, 3) := by decide +kernel
theorem zd_M_read_170 : decode zb_M_read 170 = .ok (.iconst 0, 1) := by decide +kernel
theorem zd_M_read_171 : decode zb_M_read 171 = .ok (.goto 8, 3) := by decide +kernel
theorem zd_M_read_174 : decode zb_M_read 174 = .ok (.aload_n 0, 1) := by decide +kernel
theorem zd_M_read_175 : decode zb_M_read 175 = .ok (.iconst (-1), 1) := by decide +kernel
theorem zd_M_read_176 : decode zb_M_read 176 = .ok (.invokevirtual 131, 3) := by decide +kernel
theorem zd_M_read_179 : decode zb_M_read 179 = .ok (.ireturn, 1) := by decide +kernel
theorem zd_M_read_180 : decode zb_M_read 180 = .ok (.aload_n 0, 1) := by decide +kernel
theorem zd_M_read_181 : decode zb_M_read 181 = .ok (.ldc2_w 161, 3) := by decide +kernel
theorem zd_M_read_184 : decode zb_M_read 184 = .ok (.aload_n 0, 1) := by decide +kernel
theorem zd_M_read_185 : decode zb_M_read 185 = .ok (.getfield 157, 3) := by decide +kernel
theorem zd_M_read_188 : decode zb_M_read 188 = .ok (.lmul, 1) := by decide +kernel
theorem zd_M_read_189 : decode zb_M_read 189 = .ok (.iload_n 2, 1) := by decide +kernel
theorem zd_M_read_190 : decode zb_M_read 190 = .ok (.i2l, 1) := by decide +kernel
theorem zd_M_read_191 : decode zb_M_read 191 = .ok (.ladd, 1) := by decide +kernel
theorem zd_M_read_192 : decode zb_M_read 192 = .ok (.putfield 157, 3) := by decide +kernel
theorem zd_M_read_195 : decode zb_M_read 195 = .ok (.iload_n 3, 1) := by decide +kernel
theorem zd_M_read_196 : decode zb_M_read 196 = .ok (.iconst 5, 1) := by decide +kernel
theorem zd_M_read_197 : decode zb_M_read 197 = .ok (.if_icmp .ge 5, 3) := by decide +kernel
theorem zd_M_read_200 : decode zb_M_read 200 = .ok (.iconst 0, 1) := by decide +kernel
theorem zd_M_read_201 : decode zb_M_read 201 = .ok (.ireturn, 1) := by decide +kernel
theorem zd_M_read_202 : decode zb_M_read 202 = .ok (.aload_n 0, 1) := by decide +kernel
theorem zd_M_read_203 : decode zb_M_read 203 = .ok (.getfield 157, 3) := by decide +kernel
theorem zd_M_read_206 : decode zb_M_read 206 = .ok (.ldc2_w 77, 3) := by decide +kernel
theorem zd_M_read_209 : decode zb_M_read 209 = .ok (.lcmp, 1) := by decide +kernel
theorem zd_M_read_210 : decode zb_M_read 210 = .ok (.ifCond .le 9, 3) := by decide +kernel
theorem zd_M_read_213 : decode zb_M_read 213 = .ok (.aload_n 0, 1) := by decide +kernel
theorem zd_M_read_214 : decode zb_M_read 214 = .ok (.iconst (-1), 1) := by decide +kernel
theorem zd_M_read_215 : decode zb_M_read 215 = .ok (.invokevirtual 131, 3) := by decide +kernel
theorem zd_M_read_218 : decode zb_M_read 218 = .ok (.ireturn, 1) := by decide +kernel
theorem zd_M_read_219 : decode zb_M_read 219 = .ok (.aload_n 0, 1) := by decide +kernel
theorem zd_M_read_220 : decode zb_M_read 220 = .ok (.getfield 125, 3) := by decide +kernel
theorem zd_M_read_223 : decode zb_M_read 223 = .ok (.iconst 3, 1) := by decide +kernel
theorem zd_M_read_224 : decode zb_M_read 224 = .ok (.bipush 6, 2) := by decide +kernel
theorem zd_M_read_226 : decode zb_M_read 226 = .ok (.aload_n 0, 1) := by decide +kernel
theorem zd_M_read_227 : decode zb_M_read 227 = .ok (.getfield 134, 3) := by decide +kernel
theorem zd_M_read_230 : decode zb_M_read 230 = .ok (.imul, 1) := by decide +kernel
theorem zd_M_read_231 : decode zb_M_read 231 = .ok (.iadd, 1) := by decide +kernel
theorem zd_M_read_232 : decode zb_M_read 232 = .ok (.if_icmp .ne 10, 3) := by decide +kernel
theorem zd_M_read_235 : decode zb_M_read 235 = .ok (.aload_n 0, 1) := by decide +kernel
theorem zd_M_read_236 : decode zb_M_read 236 = .ok (.invokevirtual 140, 3) := by decide +kernel
theorem zd_M_read_239 : decode zb_M_read 239 = .ok (.goto 4, 3) := by decide +kernel
theorem zd_M_read_242 : decode zb_M_read 242 = .ok (.iconst 0, 1) := by decide +kernel
theorem zd_M_read_243 : decode zb_M_read 243 = .ok (.ireturn, 1) := by decide +kernel
abbrev zy_M_count : MethodName := ⟨"DeclareFormsModel", "count", "(I)I"⟩
abbrev zb_M_count : ByteArray := prog_7_method_37_code
theorem zh_M_count : zy_M_count.cls ≠ "java/lang/invoke/MethodHandle" ∧ zy_M_count.cls ≠ "java/lang/invoke/VarHandle" ∧ (parseMethodDescriptor zy_M_count.desc).map (fun d => d.parameters.length) = some 1 := by decide +kernel
theorem zd_M_count_0 : decode zb_M_count 0 = .ok (.aload_n 0, 1) := by decide +kernel
theorem zd_M_count_1 : decode zb_M_count 1 = .ok (.iconst 0, 1) := by decide +kernel
theorem zd_M_count_2 : decode zb_M_count 2 = .ok (.putfield 39, 3) := by decide +kernel
theorem zd_M_count_5 : decode zb_M_count 5 = .ok (.iload_n 1, 1) := by decide +kernel
theorem zd_M_count_6 : decode zb_M_count 6 = .ok (.bipush 100, 2) := by decide +kernel
theorem zd_M_count_8 : decode zb_M_count 8 = .ok (.if_icmp .lt 27, 3) := by decide +kernel
theorem zd_M_count_11 : decode zb_M_count 11 = .ok (.aload_n 0, 1) := by decide +kernel
theorem zd_M_count_12 : decode zb_M_count 12 = .ok (.iload_n 1, 1) := by decide +kernel
theorem zd_M_count_13 : decode zb_M_count 13 = .ok (.bipush 100, 2) := by decide +kernel
theorem zd_M_count_15 : decode zb_M_count 15 = .ok (.isub, 1) := by decide +kernel
theorem zd_M_count_16 : decode zb_M_count 16 = .ok (.invokevirtual 116, 3) := by decide +kernel
theorem zd_M_count_19 : decode zb_M_count 19 = .ok (.istore_n 2, 1) := by decide +kernel
theorem zd_M_count_20 : decode zb_M_count 20 = .ok (.iload_n 2, 1) := by decide +kernel
theorem zd_M_count_21 : decode zb_M_count 21 = .ok (.ifCond .ge 7, 3) := by decide +kernel
theorem zd_M_count_24 : decode zb_M_count 24 = .ok (.iconst (-1), 1) := by decide +kernel
theorem zd_M_count_25 : decode zb_M_count 25 = .ok (.goto 9, 3) := by decide +kernel
theorem zd_M_count_28 : decode zb_M_count 28 = .ok (.aload_n 0, 1) := by decide +kernel
theorem zd_M_count_29 : decode zb_M_count 29 = .ok (.getfield 27, 3) := by decide +kernel
theorem zd_M_count_32 : decode zb_M_count 32 = .ok (.iload_n 2, 1) := by decide +kernel
theorem zd_M_count_33 : decode zb_M_count 33 = .ok (.iaload, 1) := by decide +kernel
theorem zd_M_count_34 : decode zb_M_count 34 = .ok (.ireturn, 1) := by decide +kernel
theorem zd_M_count_35 : decode zb_M_count 35 = .ok (.iconst 0, 1) := by decide +kernel
theorem zd_M_count_36 : decode zb_M_count 36 = .ok (.istore_n 2, 1) := by decide +kernel
theorem zd_M_count_37 : decode zb_M_count 37 = .ok (.iconst 1, 1) := by decide +kernel
theorem zd_M_count_38 : decode zb_M_count 38 = .ok (.istore_n 3, 1) := by decide +kernel
theorem zd_M_count_39 : decode zb_M_count 39 = .ok (.iload_n 3, 1) := by decide +kernel
theorem zd_M_count_40 : decode zb_M_count 40 = .ok (.aload_n 0, 1) := by decide +kernel
theorem zd_M_count_41 : decode zb_M_count 41 = .ok (.getfield 42, 3) := by decide +kernel
theorem zd_M_count_44 : decode zb_M_count 44 = .ok (.if_icmp .gt 25, 3) := by decide +kernel
theorem zd_M_count_47 : decode zb_M_count 47 = .ok (.iload_n 2, 1) := by decide +kernel
theorem zd_M_count_48 : decode zb_M_count 48 = .ok (.aload_n 0, 1) := by decide +kernel
theorem zd_M_count_49 : decode zb_M_count 49 = .ok (.iload_n 3, 1) := by decide +kernel
theorem zd_M_count_50 : decode zb_M_count 50 = .ok (.invokevirtual 55, 3) := by decide +kernel
theorem zd_M_count_53 : decode zb_M_count 53 = .ok (.ifCond .eq 7, 3) := by decide +kernel
theorem zd_M_count_56 : decode zb_M_count 56 = .ok (.iconst 1, 1) := by decide +kernel
theorem zd_M_count_57 : decode zb_M_count 57 = .ok (.goto 4, 3) := by decide +kernel
theorem zd_M_count_60 : decode zb_M_count 60 = .ok (.iconst 0, 1) := by decide +kernel
theorem zd_M_count_61 : decode zb_M_count 61 = .ok (.iadd, 1) := by decide +kernel
theorem zd_M_count_62 : decode zb_M_count 62 = .ok (.istore_n 2, 1) := by decide +kernel
theorem zd_M_count_63 : decode zb_M_count 63 = .ok (.iinc 3 1, 3) := by decide +kernel
theorem zd_M_count_66 : decode zb_M_count 66 = .ok (.goto (-27), 3) := by decide +kernel
theorem zd_M_count_69 : decode zb_M_count 69 = .ok (.iconst 0, 1) := by decide +kernel
theorem zd_M_count_70 : decode zb_M_count 70 = .ok (.istore_n 3, 1) := by decide +kernel
theorem zd_M_count_71 : decode zb_M_count 71 = .ok (.iconst 0, 1) := by decide +kernel
theorem zd_M_count_72 : decode zb_M_count 72 = .ok (.istore 4, 2) := by decide +kernel
theorem zd_M_count_74 : decode zb_M_count 74 = .ok (.iload 4, 2) := by decide +kernel
theorem zd_M_count_76 : decode zb_M_count 76 = .ok (.aload_n 0, 1) := by decide +kernel
theorem zd_M_count_77 : decode zb_M_count 77 = .ok (.getfield 88, 3) := by decide +kernel
theorem zd_M_count_80 : decode zb_M_count 80 = .ok (.if_icmp .ge 31, 3) := by decide +kernel
theorem zd_M_count_83 : decode zb_M_count 83 = .ok (.iload_n 3, 1) := by decide +kernel
theorem zd_M_count_84 : decode zb_M_count 84 = .ok (.aload_n 0, 1) := by decide +kernel
theorem zd_M_count_85 : decode zb_M_count 85 = .ok (.getfield 20, 3) := by decide +kernel
theorem zd_M_count_88 : decode zb_M_count 88 = .ok (.iload 4, 2) := by decide +kernel
theorem zd_M_count_90 : decode zb_M_count 90 = .ok (.iaload, 1) := by decide +kernel
theorem zd_M_count_91 : decode zb_M_count 91 = .ok (.aload_n 0, 1) := by decide +kernel
theorem zd_M_count_92 : decode zb_M_count 92 = .ok (.getfield 91, 3) := by decide +kernel
theorem zd_M_count_95 : decode zb_M_count 95 = .ok (.if_icmp .lt 7, 3) := by decide +kernel
theorem zd_M_count_98 : decode zb_M_count 98 = .ok (.iconst 1, 1) := by decide +kernel
theorem zd_M_count_99 : decode zb_M_count 99 = .ok (.goto 4, 3) := by decide +kernel
theorem zd_M_count_102 : decode zb_M_count 102 = .ok (.iconst 0, 1) := by decide +kernel
theorem zd_M_count_103 : decode zb_M_count 103 = .ok (.iadd, 1) := by decide +kernel
theorem zd_M_count_104 : decode zb_M_count 104 = .ok (.istore_n 3, 1) := by decide +kernel
theorem zd_M_count_105 : decode zb_M_count 105 = .ok (.iinc 4 1, 3) := by decide +kernel
theorem zd_M_count_108 : decode zb_M_count 108 = .ok (.goto (-34), 3) := by decide +kernel
theorem zd_M_count_111 : decode zb_M_count 111 = .ok (.iload_n 1, 1) := by decide +kernel
theorem zd_M_count_112 : decode zb_M_count 112 = .ok (.tableswitch 99 0 8 #[52, 54, 59, 72, 74, 79, 84, 89, 94], 52) := by decide +kernel
theorem zd_M_count_164 : decode zb_M_count 164 = .ok (.iload_n 2, 1) := by decide +kernel
theorem zd_M_count_165 : decode zb_M_count 165 = .ok (.ireturn, 1) := by decide +kernel
theorem zd_M_count_166 : decode zb_M_count 166 = .ok (.aload_n 0, 1) := by decide +kernel
theorem zd_M_count_167 : decode zb_M_count 167 = .ok (.invokevirtual 119, 3) := by decide +kernel
theorem zd_M_count_170 : decode zb_M_count 170 = .ok (.ireturn, 1) := by decide +kernel
theorem zd_M_count_171 : decode zb_M_count 171 = .ok (.aload_n 0, 1) := by decide +kernel
theorem zd_M_count_172 : decode zb_M_count 172 = .ok (.getfield 59, 3) := by decide +kernel
theorem zd_M_count_175 : decode zb_M_count 175 = .ok (.ifCond .eq 7, 3) := by decide +kernel
theorem zd_M_count_178 : decode zb_M_count 178 = .ok (.iconst 1, 1) := by decide +kernel
theorem zd_M_count_179 : decode zb_M_count 179 = .ok (.goto 4, 3) := by decide +kernel
theorem zd_M_count_182 : decode zb_M_count 182 = .ok (.iconst 0, 1) := by decide +kernel
theorem zd_M_count_183 : decode zb_M_count 183 = .ok (.ireturn, 1) := by decide +kernel
theorem zd_M_count_184 : decode zb_M_count 184 = .ok (.iload_n 3, 1) := by decide +kernel
theorem zd_M_count_185 : decode zb_M_count 185 = .ok (.ireturn, 1) := by decide +kernel
theorem zd_M_count_186 : decode zb_M_count 186 = .ok (.aload_n 0, 1) := by decide +kernel
theorem zd_M_count_187 : decode zb_M_count 187 = .ok (.getfield 70, 3) := by decide +kernel
theorem zd_M_count_190 : decode zb_M_count 190 = .ok (.ireturn, 1) := by decide +kernel
theorem zd_M_count_191 : decode zb_M_count 191 = .ok (.aload_n 0, 1) := by decide +kernel
theorem zd_M_count_192 : decode zb_M_count 192 = .ok (.getfield 91, 3) := by decide +kernel
theorem zd_M_count_195 : decode zb_M_count 195 = .ok (.ireturn, 1) := by decide +kernel
theorem zd_M_count_196 : decode zb_M_count 196 = .ok (.aload_n 0, 1) := by decide +kernel
theorem zd_M_count_197 : decode zb_M_count 197 = .ok (.getfield 33, 3) := by decide +kernel
theorem zd_M_count_200 : decode zb_M_count 200 = .ok (.ireturn, 1) := by decide +kernel
theorem zd_M_count_201 : decode zb_M_count 201 = .ok (.aload_n 0, 1) := by decide +kernel
theorem zd_M_count_202 : decode zb_M_count 202 = .ok (.getfield 143, 3) := by decide +kernel
theorem zd_M_count_205 : decode zb_M_count 205 = .ok (.ireturn, 1) := by decide +kernel
theorem zd_M_count_206 : decode zb_M_count 206 = .ok (.aload_n 0, 1) := by decide +kernel
theorem zd_M_count_207 : decode zb_M_count 207 = .ok (.getfield 146, 3) := by decide +kernel
theorem zd_M_count_210 : decode zb_M_count 210 = .ok (.ireturn, 1) := by decide +kernel
theorem zd_M_count_211 : decode zb_M_count 211 = .ok (.iconst (-1), 1) := by decide +kernel
theorem zd_M_count_212 : decode zb_M_count 212 = .ok (.ireturn, 1) := by decide +kernel
abbrev zy_M_init : MethodName := ⟨"DeclareFormsModel", "<init>", "(I)V"⟩
abbrev zb_M_init : ByteArray := prog_7_method_1_code
theorem zh_M_init : zy_M_init.cls ≠ "java/lang/invoke/MethodHandle" ∧ zy_M_init.cls ≠ "java/lang/invoke/VarHandle" ∧ (parseMethodDescriptor zy_M_init.desc).map (fun d => d.parameters.length) = some 1 := by decide +kernel
theorem zd_M_init_0 : decode zb_M_init 0 = .ok (.aload_n 0, 1) := by decide +kernel
theorem zd_M_init_1 : decode zb_M_init 1 = .ok (.invokespecial 1, 3) := by decide +kernel
theorem zd_M_init_4 : decode zb_M_init 4 = .ok (.aload_n 0, 1) := by decide +kernel
theorem zd_M_init_5 : decode zb_M_init 5 = .ok (.bipush 31, 2) := by decide +kernel
theorem zd_M_init_7 : decode zb_M_init 7 = .ok (.newarray .boolean, 2) := by decide +kernel
theorem zd_M_init_9 : decode zb_M_init 9 = .ok (.putfield 7, 3) := by decide +kernel
theorem zd_M_init_12 : decode zb_M_init 12 = .ok (.aload_n 0, 1) := by decide +kernel
theorem zd_M_init_13 : decode zb_M_init 13 = .ok (.sipush 310, 3) := by decide +kernel
theorem zd_M_init_16 : decode zb_M_init 16 = .ok (.newarray .long, 2) := by decide +kernel
theorem zd_M_init_18 : decode zb_M_init 18 = .ok (.putfield 13, 3) := by decide +kernel
theorem zd_M_init_21 : decode zb_M_init 21 = .ok (.aload_n 0, 1) := by decide +kernel
theorem zd_M_init_22 : decode zb_M_init 22 = .ok (.bipush 20, 2) := by decide +kernel
theorem zd_M_init_24 : decode zb_M_init 24 = .ok (.newarray .long, 2) := by decide +kernel
theorem zd_M_init_26 : decode zb_M_init 26 = .ok (.putfield 17, 3) := by decide +kernel
theorem zd_M_init_29 : decode zb_M_init 29 = .ok (.aload_n 0, 1) := by decide +kernel
theorem zd_M_init_30 : decode zb_M_init 30 = .ok (.bipush 20, 2) := by decide +kernel
theorem zd_M_init_32 : decode zb_M_init 32 = .ok (.newarray .int, 2) := by decide +kernel
theorem zd_M_init_34 : decode zb_M_init 34 = .ok (.putfield 20, 3) := by decide +kernel
theorem zd_M_init_37 : decode zb_M_init 37 = .ok (.aload_n 0, 1) := by decide +kernel
theorem zd_M_init_38 : decode zb_M_init 38 = .ok (.bipush 20, 2) := by decide +kernel
theorem zd_M_init_40 : decode zb_M_init 40 = .ok (.newarray .int, 2) := by decide +kernel
theorem zd_M_init_42 : decode zb_M_init 42 = .ok (.putfield 24, 3) := by decide +kernel
theorem zd_M_init_45 : decode zb_M_init 45 = .ok (.aload_n 0, 1) := by decide +kernel
theorem zd_M_init_46 : decode zb_M_init 46 = .ok (.bipush 20, 2) := by decide +kernel
theorem zd_M_init_48 : decode zb_M_init 48 = .ok (.newarray .int, 2) := by decide +kernel
theorem zd_M_init_50 : decode zb_M_init 50 = .ok (.putfield 27, 3) := by decide +kernel
theorem zd_M_init_53 : decode zb_M_init 53 = .ok (.aload_n 0, 1) := by decide +kernel
theorem zd_M_init_54 : decode zb_M_init 54 = .ok (.sipush 620, 3) := by decide +kernel
theorem zd_M_init_57 : decode zb_M_init 57 = .ok (.newarray .int, 2) := by decide +kernel
theorem zd_M_init_59 : decode zb_M_init 59 = .ok (.putfield 30, 3) := by decide +kernel
theorem zd_M_init_62 : decode zb_M_init 62 = .ok (.aload_n 0, 1) := by decide +kernel
theorem zd_M_init_63 : decode zb_M_init 63 = .ok (.iload_n 1, 1) := by decide +kernel
theorem zd_M_init_64 : decode zb_M_init 64 = .ok (.ifCond .ge 7, 3) := by decide +kernel
theorem zd_M_init_67 : decode zb_M_init 67 = .ok (.iconst 0, 1) := by decide +kernel
theorem zd_M_init_68 : decode zb_M_init 68 = .ok (.goto 13, 3) := by decide +kernel
theorem zd_M_init_71 : decode zb_M_init 71 = .ok (.iload_n 1, 1) := by decide +kernel
theorem zd_M_init_72 : decode zb_M_init 72 = .ok (.iconst 3, 1) := by decide +kernel
theorem zd_M_init_73 : decode zb_M_init 73 = .ok (.if_icmp .le 7, 3) := by decide +kernel
theorem zd_M_init_76 : decode zb_M_init 76 = .ok (.iconst 3, 1) := by decide +kernel
theorem zd_M_init_77 : decode zb_M_init 77 = .ok (.goto 4, 3) := by decide +kernel
theorem zd_M_init_80 : decode zb_M_init 80 = .ok (.iload_n 1, 1) := by decide +kernel
theorem zd_M_init_81 : decode zb_M_init 81 = .ok (.putfield 33, 3) := by decide +kernel
theorem zd_M_init_84 : decode zb_M_init 84 = .ok (.iconst 0, 1) := by decide +kernel
theorem zd_M_init_85 : decode zb_M_init 85 = .ok (.istore_n 2, 1) := by decide +kernel
theorem zd_M_init_86 : decode zb_M_init 86 = .ok (.iload_n 2, 1) := by decide +kernel
theorem zd_M_init_87 : decode zb_M_init 87 = .ok (.sipush 310, 3) := by decide +kernel
theorem zd_M_init_90 : decode zb_M_init 90 = .ok (.if_icmp .ge 18, 3) := by decide +kernel
theorem zd_M_init_93 : decode zb_M_init 93 = .ok (.aload_n 0, 1) := by decide +kernel
theorem zd_M_init_94 : decode zb_M_init 94 = .ok (.getfield 13, 3) := by decide +kernel
theorem zd_M_init_97 : decode zb_M_init 97 = .ok (.iload_n 2, 1) := by decide +kernel
theorem zd_M_init_98 : decode zb_M_init 98 = .ok (.ldc2_w 37, 3) := by decide +kernel
theorem zd_M_init_101 : decode zb_M_init 101 = .ok (.lastore, 1) := by decide +kernel
theorem zd_M_init_102 : decode zb_M_init 102 = .ok (.iinc 2 1, 3) := by decide +kernel
theorem zd_M_init_105 : decode zb_M_init 105 = .ok (.goto (-19), 3) := by decide +kernel
theorem zd_M_init_108 : decode zb_M_init 108 = .ok (.return_, 1) := by decide +kernel
