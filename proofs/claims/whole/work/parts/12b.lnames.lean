abbrev zy_H_line : MethodName := ⟨"DeclareFormsLaw", "line", "(LDeclareForms;[J)I"⟩
abbrev zb_H_line : ByteArray := method_3_code
theorem zh_H_line : zy_H_line.cls ≠ "java/lang/invoke/MethodHandle" ∧ zy_H_line.cls ≠ "java/lang/invoke/VarHandle" ∧ (parseMethodDescriptor zy_H_line.desc).map (fun d => d.parameters.length) = some 2 := by decide +kernel
theorem zd_H_line_0 : decode zb_H_line 0 = .ok (.aload_n 1, 1) := by decide +kernel
theorem zd_H_line_1 : decode zb_H_line 1 = .ok (.iconst 0, 1) := by decide +kernel
theorem zd_H_line_2 : decode zb_H_line 2 = .ok (.aload_n 0, 1) := by decide +kernel
theorem zd_H_line_3 : decode zb_H_line 3 = .ok (.invokevirtual 7, 3) := by decide +kernel
theorem zd_H_line_6 : decode zb_H_line 6 = .ok (.i2l, 1) := by decide +kernel
theorem zd_H_line_7 : decode zb_H_line 7 = .ok (.lastore, 1) := by decide +kernel
theorem zd_H_line_8 : decode zb_H_line 8 = .ok (.goto 6, 3) := by decide +kernel
theorem zd_H_line_11 : decode zb_H_line 11 = .ok (.astore_n 2, 1) := by decide +kernel
theorem zd_H_line_12 : decode zb_H_line 12 = .ok (.iconst 1, 1) := by decide +kernel
theorem zd_H_line_13 : decode zb_H_line 13 = .ok (.ireturn, 1) := by decide +kernel
theorem zd_H_line_14 : decode zb_H_line 14 = .ok (.iconst 0, 1) := by decide +kernel
theorem zd_H_line_15 : decode zb_H_line 15 = .ok (.ireturn, 1) := by decide +kernel
abbrev zy_H_field : MethodName := ⟨"DeclareFormsLaw", "field", "(LDeclareForms;IIJ[J)I"⟩
abbrev zb_H_field : ByteArray := method_4_code
theorem zh_H_field : zy_H_field.cls ≠ "java/lang/invoke/MethodHandle" ∧ zy_H_field.cls ≠ "java/lang/invoke/VarHandle" ∧ (parseMethodDescriptor zy_H_field.desc).map (fun d => d.parameters.length) = some 5 := by decide +kernel
theorem zd_H_field_0 : decode zb_H_field 0 = .ok (.aload 5, 2) := by decide +kernel
theorem zd_H_field_2 : decode zb_H_field 2 = .ok (.iconst 0, 1) := by decide +kernel
theorem zd_H_field_3 : decode zb_H_field 3 = .ok (.aload_n 0, 1) := by decide +kernel
theorem zd_H_field_4 : decode zb_H_field 4 = .ok (.iload_n 1, 1) := by decide +kernel
theorem zd_H_field_5 : decode zb_H_field 5 = .ok (.iload_n 2, 1) := by decide +kernel
theorem zd_H_field_6 : decode zb_H_field 6 = .ok (.lload_n 3, 1) := by decide +kernel
theorem zd_H_field_7 : decode zb_H_field 7 = .ok (.invokevirtual 15, 3) := by decide +kernel
theorem zd_H_field_10 : decode zb_H_field 10 = .ok (.i2l, 1) := by decide +kernel
theorem zd_H_field_11 : decode zb_H_field 11 = .ok (.lastore, 1) := by decide +kernel
theorem zd_H_field_12 : decode zb_H_field 12 = .ok (.goto 7, 3) := by decide +kernel
theorem zd_H_field_15 : decode zb_H_field 15 = .ok (.astore 6, 2) := by decide +kernel
theorem zd_H_field_17 : decode zb_H_field 17 = .ok (.iconst 1, 1) := by decide +kernel
theorem zd_H_field_18 : decode zb_H_field 18 = .ok (.ireturn, 1) := by decide +kernel
theorem zd_H_field_19 : decode zb_H_field 19 = .ok (.iconst 0, 1) := by decide +kernel
theorem zd_H_field_20 : decode zb_H_field 20 = .ok (.ireturn, 1) := by decide +kernel
abbrev zy_H_value : MethodName := ⟨"DeclareFormsLaw", "value", "(LDeclareForms;II[J)I"⟩
abbrev zb_H_value : ByteArray := method_5_code
theorem zh_H_value : zy_H_value.cls ≠ "java/lang/invoke/MethodHandle" ∧ zy_H_value.cls ≠ "java/lang/invoke/VarHandle" ∧ (parseMethodDescriptor zy_H_value.desc).map (fun d => d.parameters.length) = some 4 := by decide +kernel
theorem zd_H_value_0 : decode zb_H_value 0 = .ok (.aload_n 3, 1) := by decide +kernel
theorem zd_H_value_1 : decode zb_H_value 1 = .ok (.iconst 0, 1) := by decide +kernel
theorem zd_H_value_2 : decode zb_H_value 2 = .ok (.aload_n 0, 1) := by decide +kernel
theorem zd_H_value_3 : decode zb_H_value 3 = .ok (.iload_n 1, 1) := by decide +kernel
theorem zd_H_value_4 : decode zb_H_value 4 = .ok (.iload_n 2, 1) := by decide +kernel
theorem zd_H_value_5 : decode zb_H_value 5 = .ok (.invokevirtual 21, 3) := by decide +kernel
theorem zd_H_value_8 : decode zb_H_value 8 = .ok (.lastore, 1) := by decide +kernel
theorem zd_H_value_9 : decode zb_H_value 9 = .ok (.goto 7, 3) := by decide +kernel
theorem zd_H_value_12 : decode zb_H_value 12 = .ok (.astore 4, 2) := by decide +kernel
theorem zd_H_value_14 : decode zb_H_value 14 = .ok (.iconst 1, 1) := by decide +kernel
theorem zd_H_value_15 : decode zb_H_value 15 = .ok (.ireturn, 1) := by decide +kernel
theorem zd_H_value_16 : decode zb_H_value 16 = .ok (.iconst 0, 1) := by decide +kernel
theorem zd_H_value_17 : decode zb_H_value 17 = .ok (.ireturn, 1) := by decide +kernel
abbrev zy_H_need : MethodName := ⟨"DeclareFormsLaw", "need", "(LDeclareForms;I[J)I"⟩
abbrev zb_H_need : ByteArray := method_6_code
theorem zh_H_need : zy_H_need.cls ≠ "java/lang/invoke/MethodHandle" ∧ zy_H_need.cls ≠ "java/lang/invoke/VarHandle" ∧ (parseMethodDescriptor zy_H_need.desc).map (fun d => d.parameters.length) = some 3 := by decide +kernel
theorem zd_H_need_0 : decode zb_H_need 0 = .ok (.aload_n 2, 1) := by decide +kernel
theorem zd_H_need_1 : decode zb_H_need 1 = .ok (.iconst 0, 1) := by decide +kernel
theorem zd_H_need_2 : decode zb_H_need 2 = .ok (.aload_n 0, 1) := by decide +kernel
theorem zd_H_need_3 : decode zb_H_need 3 = .ok (.iload_n 1, 1) := by decide +kernel
theorem zd_H_need_4 : decode zb_H_need 4 = .ok (.invokevirtual 25, 3) := by decide +kernel
theorem zd_H_need_7 : decode zb_H_need 7 = .ok (.i2l, 1) := by decide +kernel
theorem zd_H_need_8 : decode zb_H_need 8 = .ok (.lastore, 1) := by decide +kernel
theorem zd_H_need_9 : decode zb_H_need 9 = .ok (.goto 6, 3) := by decide +kernel
theorem zd_H_need_12 : decode zb_H_need 12 = .ok (.astore_n 3, 1) := by decide +kernel
theorem zd_H_need_13 : decode zb_H_need 13 = .ok (.iconst 1, 1) := by decide +kernel
theorem zd_H_need_14 : decode zb_H_need 14 = .ok (.ireturn, 1) := by decide +kernel
theorem zd_H_need_15 : decode zb_H_need 15 = .ok (.iconst 0, 1) := by decide +kernel
theorem zd_H_need_16 : decode zb_H_need 16 = .ok (.ireturn, 1) := by decide +kernel
abbrev zy_H_amend : MethodName := ⟨"DeclareFormsLaw", "amend", "(LDeclareForms;IIJ[J)I"⟩
abbrev zb_H_amend : ByteArray := method_7_code
theorem zh_H_amend : zy_H_amend.cls ≠ "java/lang/invoke/MethodHandle" ∧ zy_H_amend.cls ≠ "java/lang/invoke/VarHandle" ∧ (parseMethodDescriptor zy_H_amend.desc).map (fun d => d.parameters.length) = some 5 := by decide +kernel
theorem zd_H_amend_0 : decode zb_H_amend 0 = .ok (.aload 5, 2) := by decide +kernel
theorem zd_H_amend_2 : decode zb_H_amend 2 = .ok (.iconst 0, 1) := by decide +kernel
theorem zd_H_amend_3 : decode zb_H_amend 3 = .ok (.aload_n 0, 1) := by decide +kernel
theorem zd_H_amend_4 : decode zb_H_amend 4 = .ok (.iload_n 1, 1) := by decide +kernel
theorem zd_H_amend_5 : decode zb_H_amend 5 = .ok (.iload_n 2, 1) := by decide +kernel
theorem zd_H_amend_6 : decode zb_H_amend 6 = .ok (.lload_n 3, 1) := by decide +kernel
theorem zd_H_amend_7 : decode zb_H_amend 7 = .ok (.invokevirtual 29, 3) := by decide +kernel
theorem zd_H_amend_10 : decode zb_H_amend 10 = .ok (.i2l, 1) := by decide +kernel
theorem zd_H_amend_11 : decode zb_H_amend 11 = .ok (.lastore, 1) := by decide +kernel
theorem zd_H_amend_12 : decode zb_H_amend 12 = .ok (.goto 11, 3) := by decide +kernel
theorem zd_H_amend_15 : decode zb_H_amend 15 = .ok (.astore 6, 2) := by decide +kernel
theorem zd_H_amend_17 : decode zb_H_amend 17 = .ok (.iconst 1, 1) := by decide +kernel
theorem zd_H_amend_18 : decode zb_H_amend 18 = .ok (.ireturn, 1) := by decide +kernel
theorem zd_H_amend_19 : decode zb_H_amend 19 = .ok (.astore 6, 2) := by decide +kernel
theorem zd_H_amend_21 : decode zb_H_amend 21 = .ok (.iconst 2, 1) := by decide +kernel
theorem zd_H_amend_22 : decode zb_H_amend 22 = .ok (.ireturn, 1) := by decide +kernel
theorem zd_H_amend_23 : decode zb_H_amend 23 = .ok (.iconst 0, 1) := by decide +kernel
theorem zd_H_amend_24 : decode zb_H_amend 24 = .ok (.ireturn, 1) := by decide +kernel
abbrev zy_H_draw : MethodName := ⟨"DeclareFormsLaw", "draw", "(LDeclareForms;III[J)I"⟩
abbrev zb_H_draw : ByteArray := method_8_code
theorem zh_H_draw : zy_H_draw.cls ≠ "java/lang/invoke/MethodHandle" ∧ zy_H_draw.cls ≠ "java/lang/invoke/VarHandle" ∧ (parseMethodDescriptor zy_H_draw.desc).map (fun d => d.parameters.length) = some 5 := by decide +kernel
theorem zd_H_draw_0 : decode zb_H_draw 0 = .ok (.aload 4, 2) := by decide +kernel
theorem zd_H_draw_2 : decode zb_H_draw 2 = .ok (.iconst 0, 1) := by decide +kernel
theorem zd_H_draw_3 : decode zb_H_draw 3 = .ok (.aload_n 0, 1) := by decide +kernel
theorem zd_H_draw_4 : decode zb_H_draw 4 = .ok (.iload_n 1, 1) := by decide +kernel
theorem zd_H_draw_5 : decode zb_H_draw 5 = .ok (.iload_n 2, 1) := by decide +kernel
theorem zd_H_draw_6 : decode zb_H_draw 6 = .ok (.iload_n 3, 1) := by decide +kernel
theorem zd_H_draw_7 : decode zb_H_draw 7 = .ok (.invokevirtual 32, 3) := by decide +kernel
theorem zd_H_draw_10 : decode zb_H_draw 10 = .ok (.i2l, 1) := by decide +kernel
theorem zd_H_draw_11 : decode zb_H_draw 11 = .ok (.lastore, 1) := by decide +kernel
theorem zd_H_draw_12 : decode zb_H_draw 12 = .ok (.goto 7, 3) := by decide +kernel
theorem zd_H_draw_15 : decode zb_H_draw 15 = .ok (.astore 5, 2) := by decide +kernel
theorem zd_H_draw_17 : decode zb_H_draw 17 = .ok (.iconst 1, 1) := by decide +kernel
theorem zd_H_draw_18 : decode zb_H_draw 18 = .ok (.ireturn, 1) := by decide +kernel
theorem zd_H_draw_19 : decode zb_H_draw 19 = .ok (.iconst 0, 1) := by decide +kernel
theorem zd_H_draw_20 : decode zb_H_draw 20 = .ok (.ireturn, 1) := by decide +kernel
abbrev zy_H_sum : MethodName := ⟨"DeclareFormsLaw", "sum", "(LDeclareForms;I[J)I"⟩
abbrev zb_H_sum : ByteArray := method_9_code
theorem zh_H_sum : zy_H_sum.cls ≠ "java/lang/invoke/MethodHandle" ∧ zy_H_sum.cls ≠ "java/lang/invoke/VarHandle" ∧ (parseMethodDescriptor zy_H_sum.desc).map (fun d => d.parameters.length) = some 3 := by decide +kernel
theorem zd_H_sum_0 : decode zb_H_sum 0 = .ok (.aload_n 2, 1) := by decide +kernel
theorem zd_H_sum_1 : decode zb_H_sum 1 = .ok (.iconst 0, 1) := by decide +kernel
theorem zd_H_sum_2 : decode zb_H_sum 2 = .ok (.aload_n 0, 1) := by decide +kernel
theorem zd_H_sum_3 : decode zb_H_sum 3 = .ok (.iload_n 1, 1) := by decide +kernel
theorem zd_H_sum_4 : decode zb_H_sum 4 = .ok (.invokevirtual 36, 3) := by decide +kernel
theorem zd_H_sum_7 : decode zb_H_sum 7 = .ok (.lastore, 1) := by decide +kernel
theorem zd_H_sum_8 : decode zb_H_sum 8 = .ok (.goto 6, 3) := by decide +kernel
theorem zd_H_sum_11 : decode zb_H_sum 11 = .ok (.astore_n 3, 1) := by decide +kernel
theorem zd_H_sum_12 : decode zb_H_sum 12 = .ok (.iconst 1, 1) := by decide +kernel
theorem zd_H_sum_13 : decode zb_H_sum 13 = .ok (.ireturn, 1) := by decide +kernel
theorem zd_H_sum_14 : decode zb_H_sum 14 = .ok (.iconst 0, 1) := by decide +kernel
theorem zd_H_sum_15 : decode zb_H_sum 15 = .ok (.ireturn, 1) := by decide +kernel
abbrev zy_H_octet : MethodName := ⟨"DeclareFormsLaw", "octet", "(LDeclareForms;I[J)I"⟩
abbrev zb_H_octet : ByteArray := method_10_code
theorem zh_H_octet : zy_H_octet.cls ≠ "java/lang/invoke/MethodHandle" ∧ zy_H_octet.cls ≠ "java/lang/invoke/VarHandle" ∧ (parseMethodDescriptor zy_H_octet.desc).map (fun d => d.parameters.length) = some 3 := by decide +kernel
theorem zd_H_octet_0 : decode zb_H_octet 0 = .ok (.aload_n 2, 1) := by decide +kernel
theorem zd_H_octet_1 : decode zb_H_octet 1 = .ok (.iconst 0, 1) := by decide +kernel
theorem zd_H_octet_2 : decode zb_H_octet 2 = .ok (.aload_n 0, 1) := by decide +kernel
theorem zd_H_octet_3 : decode zb_H_octet 3 = .ok (.iload_n 1, 1) := by decide +kernel
theorem zd_H_octet_4 : decode zb_H_octet 4 = .ok (.invokevirtual 40, 3) := by decide +kernel
theorem zd_H_octet_7 : decode zb_H_octet 7 = .ok (.i2l, 1) := by decide +kernel
theorem zd_H_octet_8 : decode zb_H_octet 8 = .ok (.lastore, 1) := by decide +kernel
theorem zd_H_octet_9 : decode zb_H_octet 9 = .ok (.goto 6, 3) := by decide +kernel
theorem zd_H_octet_12 : decode zb_H_octet 12 = .ok (.astore_n 3, 1) := by decide +kernel
theorem zd_H_octet_13 : decode zb_H_octet 13 = .ok (.iconst 1, 1) := by decide +kernel
theorem zd_H_octet_14 : decode zb_H_octet 14 = .ok (.ireturn, 1) := by decide +kernel
theorem zd_H_octet_15 : decode zb_H_octet 15 = .ok (.iconst 0, 1) := by decide +kernel
theorem zd_H_octet_16 : decode zb_H_octet 16 = .ok (.ireturn, 1) := by decide +kernel
abbrev zy_cell : MethodName := ⟨"DeclareFormsLaw", "cell", "([II)I"⟩
abbrev zb_cell : ByteArray := method_2_code
theorem zh_cell : zy_cell.cls ≠ "java/lang/invoke/MethodHandle" ∧ zy_cell.cls ≠ "java/lang/invoke/VarHandle" ∧ (parseMethodDescriptor zy_cell.desc).map (fun d => d.parameters.length) = some 2 := by decide +kernel
theorem zd_cell_0 : decode zb_cell 0 = .ok (.iload_n 1, 1) := by decide +kernel
theorem zd_cell_1 : decode zb_cell 1 = .ok (.aload_n 0, 1) := by decide +kernel
theorem zd_cell_2 : decode zb_cell 2 = .ok (.arraylength, 1) := by decide +kernel
theorem zd_cell_3 : decode zb_cell 3 = .ok (.if_icmp .ge 9, 3) := by decide +kernel
theorem zd_cell_6 : decode zb_cell 6 = .ok (.aload_n 0, 1) := by decide +kernel
theorem zd_cell_7 : decode zb_cell 7 = .ok (.iload_n 1, 1) := by decide +kernel
theorem zd_cell_8 : decode zb_cell 8 = .ok (.iaload, 1) := by decide +kernel
theorem zd_cell_9 : decode zb_cell 9 = .ok (.goto 4, 3) := by decide +kernel
theorem zd_cell_12 : decode zb_cell 12 = .ok (.iconst 0, 1) := by decide +kernel
theorem zd_cell_13 : decode zb_cell 13 = .ok (.ireturn, 1) := by decide +kernel
theorem zd_law_0 : decode code 0 = .ok (.new 8, 3) := by decide +kernel
theorem zd_law_3 : decode code 3 = .ok (.dup, 1) := by decide +kernel
theorem zd_law_4 : decode code 4 = .ok (.aload_n 0, 1) := by decide +kernel
theorem zd_law_5 : decode code 5 = .ok (.iconst 0, 1) := by decide +kernel
theorem zd_law_6 : decode code 6 = .ok (.invokestatic 46, 3) := by decide +kernel
theorem zd_law_9 : decode code 9 = .ok (.invokespecial 52, 3) := by decide +kernel
theorem zd_law_12 : decode code 12 = .ok (.astore_n 1, 1) := by decide +kernel
theorem zd_law_13 : decode code 13 = .ok (.new 55, 3) := by decide +kernel
theorem zd_law_16 : decode code 16 = .ok (.dup, 1) := by decide +kernel
theorem zd_law_17 : decode code 17 = .ok (.aload_n 0, 1) := by decide +kernel
theorem zd_law_18 : decode code 18 = .ok (.iconst 0, 1) := by decide +kernel
theorem zd_law_19 : decode code 19 = .ok (.invokestatic 46, 3) := by decide +kernel
theorem zd_law_22 : decode code 22 = .ok (.invokespecial 57, 3) := by decide +kernel
theorem zd_law_25 : decode code 25 = .ok (.astore_n 2, 1) := by decide +kernel
theorem zd_law_26 : decode code 26 = .ok (.iconst 1, 1) := by decide +kernel
theorem zd_law_27 : decode code 27 = .ok (.newarray .long, 2) := by decide +kernel
theorem zd_law_29 : decode code 29 = .ok (.astore_n 3, 1) := by decide +kernel
theorem zd_law_30 : decode code 30 = .ok (.iconst 1, 1) := by decide +kernel
theorem zd_law_31 : decode code 31 = .ok (.istore 4, 2) := by decide +kernel
theorem zd_law_33 : decode code 33 = .ok (.iload 4, 2) := by decide +kernel
theorem zd_law_35 : decode code 35 = .ok (.aload_n 0, 1) := by decide +kernel
theorem zd_law_36 : decode code 36 = .ok (.arraylength, 1) := by decide +kernel
theorem zd_law_37 : decode code 37 = .ok (.iconst 5, 1) := by decide +kernel
theorem zd_law_38 : decode code 38 = .ok (.isub, 1) := by decide +kernel
theorem zd_law_39 : decode code 39 = .ok (.if_icmp .gt 969, 3) := by decide +kernel
theorem zd_law_42 : decode code 42 = .ok (.aload_n 0, 1) := by decide +kernel
theorem zd_law_43 : decode code 43 = .ok (.iload 4, 2) := by decide +kernel
theorem zd_law_45 : decode code 45 = .ok (.iaload, 1) := by decide +kernel
theorem zd_law_46 : decode code 46 = .ok (.bipush 31, 2) := by decide +kernel
theorem zd_law_48 : decode code 48 = .ok (.iand, 1) := by decide +kernel
theorem zd_law_49 : decode code 49 = .ok (.tableswitch 953 0 17 #[87, 131, 156, 268, 305, 372, 428, 497, 522, 535, 548, 660, 697, 777, 832, 845, 901, 928], 87) := by decide +kernel
theorem zd_law_136 : decode code 136 = .ok (.aload_n 1, 1) := by decide +kernel
theorem zd_law_137 : decode code 137 = .ok (.aload_n 3, 1) := by decide +kernel
theorem zd_law_138 : decode code 138 = .ok (.invokestatic 58, 3) := by decide +kernel
theorem zd_law_141 : decode code 141 = .ok (.istore 5, 2) := by decide +kernel
theorem zd_law_143 : decode code 143 = .ok (.aload_n 2, 1) := by decide +kernel
theorem zd_law_144 : decode code 144 = .ok (.invokevirtual 61, 3) := by decide +kernel
theorem zd_law_147 : decode code 147 = .ok (.istore 6, 2) := by decide +kernel
theorem zd_law_149 : decode code 149 = .ok (.aload_n 2, 1) := by decide +kernel
theorem zd_law_150 : decode code 150 = .ok (.invokevirtual 62, 3) := by decide +kernel
theorem zd_law_153 : decode code 153 = .ok (.iload 5, 2) := by decide +kernel
theorem zd_law_155 : decode code 155 = .ok (.if_icmp .eq 5, 3) := by decide +kernel
theorem zd_law_160 : decode code 160 = .ok (.iload 5, 2) := by decide +kernel
theorem zd_law_162 : decode code 162 = .ok (.ifCond .ne 15, 3) := by decide +kernel
theorem zd_law_165 : decode code 165 = .ok (.aload_n 3, 1) := by decide +kernel
theorem zd_law_166 : decode code 166 = .ok (.iconst 0, 1) := by decide +kernel
theorem zd_law_167 : decode code 167 = .ok (.laload, 1) := by decide +kernel
theorem zd_law_168 : decode code 168 = .ok (.iload 6, 2) := by decide +kernel
theorem zd_law_170 : decode code 170 = .ok (.i2l, 1) := by decide +kernel
theorem zd_law_171 : decode code 171 = .ok (.lcmp, 1) := by decide +kernel
theorem zd_law_172 : decode code 172 = .ok (.ifCond .eq 5, 3) := by decide +kernel
theorem zd_law_177 : decode code 177 = .ok (.goto 825, 3) := by decide +kernel
theorem zd_law_180 : decode code 180 = .ok (.aload_n 1, 1) := by decide +kernel
theorem zd_law_181 : decode code 181 = .ok (.aload_n 0, 1) := by decide +kernel
theorem zd_law_182 : decode code 182 = .ok (.iload 4, 2) := by decide +kernel
theorem zd_law_184 : decode code 184 = .ok (.iconst 1, 1) := by decide +kernel
theorem zd_law_185 : decode code 185 = .ok (.iadd, 1) := by decide +kernel
theorem zd_law_186 : decode code 186 = .ok (.iaload, 1) := by decide +kernel
theorem zd_law_187 : decode code 187 = .ok (.invokevirtual 65, 3) := by decide +kernel
theorem zd_law_190 : decode code 190 = .ok (.aload_n 2, 1) := by decide +kernel
theorem zd_law_191 : decode code 191 = .ok (.aload_n 0, 1) := by decide +kernel
theorem zd_law_192 : decode code 192 = .ok (.iload 4, 2) := by decide +kernel
theorem zd_law_194 : decode code 194 = .ok (.iconst 1, 1) := by decide +kernel
theorem zd_law_195 : decode code 195 = .ok (.iadd, 1) := by decide +kernel
theorem zd_law_196 : decode code 196 = .ok (.iaload, 1) := by decide +kernel
theorem zd_law_197 : decode code 197 = .ok (.invokevirtual 68, 3) := by decide +kernel
theorem zd_law_200 : decode code 200 = .ok (.if_icmp .eq 802, 3) := by decide +kernel
theorem zd_law_205 : decode code 205 = .ok (.aload_n 1, 1) := by decide +kernel
theorem zd_law_206 : decode code 206 = .ok (.aload_n 0, 1) := by decide +kernel
theorem zd_law_207 : decode code 207 = .ok (.iload 4, 2) := by decide +kernel
theorem zd_law_209 : decode code 209 = .ok (.iconst 1, 1) := by decide +kernel
theorem zd_law_210 : decode code 210 = .ok (.iadd, 1) := by decide +kernel
theorem zd_law_211 : decode code 211 = .ok (.iaload, 1) := by decide +kernel
theorem zd_law_212 : decode code 212 = .ok (.aload_n 0, 1) := by decide +kernel
theorem zd_law_213 : decode code 213 = .ok (.iload 4, 2) := by decide +kernel
theorem zd_law_215 : decode code 215 = .ok (.iconst 2, 1) := by decide +kernel
theorem zd_law_216 : decode code 216 = .ok (.iadd, 1) := by decide +kernel
theorem zd_law_217 : decode code 217 = .ok (.iaload, 1) := by decide +kernel
theorem zd_law_218 : decode code 218 = .ok (.aload_n 0, 1) := by decide +kernel
theorem zd_law_219 : decode code 219 = .ok (.iload 4, 2) := by decide +kernel
theorem zd_law_221 : decode code 221 = .ok (.iconst 3, 1) := by decide +kernel
theorem zd_law_222 : decode code 222 = .ok (.iadd, 1) := by decide +kernel
theorem zd_law_223 : decode code 223 = .ok (.iaload, 1) := by decide +kernel
theorem zd_law_224 : decode code 224 = .ok (.i2l, 1) := by decide +kernel
theorem zd_law_225 : decode code 225 = .ok (.bipush 32, 2) := by decide +kernel
theorem zd_law_227 : decode code 227 = .ok (.lshl, 1) := by decide +kernel
theorem zd_law_228 : decode code 228 = .ok (.aload_n 0, 1) := by decide +kernel
theorem zd_law_229 : decode code 229 = .ok (.iload 4, 2) := by decide +kernel
theorem zd_law_231 : decode code 231 = .ok (.iconst 4, 1) := by decide +kernel
theorem zd_law_232 : decode code 232 = .ok (.iadd, 1) := by decide +kernel
theorem zd_law_233 : decode code 233 = .ok (.iaload, 1) := by decide +kernel
theorem zd_law_234 : decode code 234 = .ok (.i2l, 1) := by decide +kernel
theorem zd_law_235 : decode code 235 = .ok (.ldc2_w 69, 3) := by decide +kernel
theorem zd_law_238 : decode code 238 = .ok (.land, 1) := by decide +kernel
theorem zd_law_239 : decode code 239 = .ok (.lor, 1) := by decide +kernel
theorem zd_law_240 : decode code 240 = .ok (.aload_n 3, 1) := by decide +kernel
theorem zd_law_241 : decode code 241 = .ok (.invokestatic 71, 3) := by decide +kernel
theorem zd_law_244 : decode code 244 = .ok (.istore 5, 2) := by decide +kernel
theorem zd_law_246 : decode code 246 = .ok (.aload_n 2, 1) := by decide +kernel
theorem zd_law_247 : decode code 247 = .ok (.aload_n 0, 1) := by decide +kernel
theorem zd_law_248 : decode code 248 = .ok (.iload 4, 2) := by decide +kernel
theorem zd_law_250 : decode code 250 = .ok (.iconst 1, 1) := by decide +kernel
theorem zd_law_251 : decode code 251 = .ok (.iadd, 1) := by decide +kernel
theorem zd_law_252 : decode code 252 = .ok (.iaload, 1) := by decide +kernel
theorem zd_law_253 : decode code 253 = .ok (.aload_n 0, 1) := by decide +kernel
theorem zd_law_254 : decode code 254 = .ok (.iload 4, 2) := by decide +kernel
theorem zd_law_256 : decode code 256 = .ok (.iconst 2, 1) := by decide +kernel
theorem zd_law_257 : decode code 257 = .ok (.iadd, 1) := by decide +kernel
theorem zd_law_258 : decode code 258 = .ok (.iaload, 1) := by decide +kernel
theorem zd_law_259 : decode code 259 = .ok (.aload_n 0, 1) := by decide +kernel
theorem zd_law_260 : decode code 260 = .ok (.iload 4, 2) := by decide +kernel
theorem zd_law_262 : decode code 262 = .ok (.iconst 3, 1) := by decide +kernel
theorem zd_law_263 : decode code 263 = .ok (.iadd, 1) := by decide +kernel
theorem zd_law_264 : decode code 264 = .ok (.iaload, 1) := by decide +kernel
theorem zd_law_265 : decode code 265 = .ok (.i2l, 1) := by decide +kernel
theorem zd_law_266 : decode code 266 = .ok (.bipush 32, 2) := by decide +kernel
theorem zd_law_268 : decode code 268 = .ok (.lshl, 1) := by decide +kernel
theorem zd_law_269 : decode code 269 = .ok (.aload_n 0, 1) := by decide +kernel
theorem zd_law_270 : decode code 270 = .ok (.iload 4, 2) := by decide +kernel
theorem zd_law_272 : decode code 272 = .ok (.iconst 4, 1) := by decide +kernel
theorem zd_law_273 : decode code 273 = .ok (.iadd, 1) := by decide +kernel
theorem zd_law_274 : decode code 274 = .ok (.iaload, 1) := by decide +kernel
theorem zd_law_275 : decode code 275 = .ok (.i2l, 1) := by decide +kernel
theorem zd_law_276 : decode code 276 = .ok (.ldc2_w 69, 3) := by decide +kernel
theorem zd_law_279 : decode code 279 = .ok (.land, 1) := by decide +kernel
theorem zd_law_280 : decode code 280 = .ok (.lor, 1) := by decide +kernel
theorem zd_law_281 : decode code 281 = .ok (.invokevirtual 74, 3) := by decide +kernel
theorem zd_law_284 : decode code 284 = .ok (.istore 6, 2) := by decide +kernel
theorem zd_law_286 : decode code 286 = .ok (.aload_n 2, 1) := by decide +kernel
theorem zd_law_287 : decode code 287 = .ok (.invokevirtual 62, 3) := by decide +kernel
theorem zd_law_290 : decode code 290 = .ok (.iload 5, 2) := by decide +kernel
theorem zd_law_292 : decode code 292 = .ok (.if_icmp .eq 5, 3) := by decide +kernel
theorem zd_law_297 : decode code 297 = .ok (.iload 5, 2) := by decide +kernel
theorem zd_law_299 : decode code 299 = .ok (.ifCond .ne 15, 3) := by decide +kernel
theorem zd_law_302 : decode code 302 = .ok (.aload_n 3, 1) := by decide +kernel
theorem zd_law_303 : decode code 303 = .ok (.iconst 0, 1) := by decide +kernel
theorem zd_law_304 : decode code 304 = .ok (.laload, 1) := by decide +kernel
theorem zd_law_305 : decode code 305 = .ok (.iload 6, 2) := by decide +kernel
theorem zd_law_307 : decode code 307 = .ok (.i2l, 1) := by decide +kernel
theorem zd_law_308 : decode code 308 = .ok (.lcmp, 1) := by decide +kernel
theorem zd_law_309 : decode code 309 = .ok (.ifCond .eq 5, 3) := by decide +kernel
theorem zd_law_314 : decode code 314 = .ok (.goto 688, 3) := by decide +kernel
theorem zd_law_317 : decode code 317 = .ok (.aload_n 1, 1) := by decide +kernel
theorem zd_law_318 : decode code 318 = .ok (.aload_n 0, 1) := by decide +kernel
theorem zd_law_319 : decode code 319 = .ok (.iload 4, 2) := by decide +kernel
theorem zd_law_321 : decode code 321 = .ok (.iconst 1, 1) := by decide +kernel
theorem zd_law_322 : decode code 322 = .ok (.iadd, 1) := by decide +kernel
theorem zd_law_323 : decode code 323 = .ok (.iaload, 1) := by decide +kernel
theorem zd_law_324 : decode code 324 = .ok (.aload_n 0, 1) := by decide +kernel
theorem zd_law_325 : decode code 325 = .ok (.iload 4, 2) := by decide +kernel
theorem zd_law_327 : decode code 327 = .ok (.iconst 2, 1) := by decide +kernel
theorem zd_law_328 : decode code 328 = .ok (.iadd, 1) := by decide +kernel
theorem zd_law_329 : decode code 329 = .ok (.iaload, 1) := by decide +kernel
theorem zd_law_330 : decode code 330 = .ok (.invokevirtual 75, 3) := by decide +kernel
theorem zd_law_333 : decode code 333 = .ok (.aload_n 2, 1) := by decide +kernel
theorem zd_law_334 : decode code 334 = .ok (.aload_n 0, 1) := by decide +kernel
theorem zd_law_335 : decode code 335 = .ok (.iload 4, 2) := by decide +kernel
theorem zd_law_337 : decode code 337 = .ok (.iconst 1, 1) := by decide +kernel
theorem zd_law_338 : decode code 338 = .ok (.iadd, 1) := by decide +kernel
theorem zd_law_339 : decode code 339 = .ok (.iaload, 1) := by decide +kernel
theorem zd_law_340 : decode code 340 = .ok (.aload_n 0, 1) := by decide +kernel
theorem zd_law_341 : decode code 341 = .ok (.iload 4, 2) := by decide +kernel
theorem zd_law_343 : decode code 343 = .ok (.iconst 2, 1) := by decide +kernel
theorem zd_law_344 : decode code 344 = .ok (.iadd, 1) := by decide +kernel
theorem zd_law_345 : decode code 345 = .ok (.iaload, 1) := by decide +kernel
theorem zd_law_346 : decode code 346 = .ok (.invokevirtual 79, 3) := by decide +kernel
theorem zd_law_349 : decode code 349 = .ok (.if_icmp .eq 653, 3) := by decide +kernel
theorem zd_law_354 : decode code 354 = .ok (.aload_n 1, 1) := by decide +kernel
theorem zd_law_355 : decode code 355 = .ok (.aload_n 0, 1) := by decide +kernel
theorem zd_law_356 : decode code 356 = .ok (.iload 4, 2) := by decide +kernel
theorem zd_law_358 : decode code 358 = .ok (.iconst 1, 1) := by decide +kernel
theorem zd_law_359 : decode code 359 = .ok (.iadd, 1) := by decide +kernel
theorem zd_law_360 : decode code 360 = .ok (.iaload, 1) := by decide +kernel
theorem zd_law_361 : decode code 361 = .ok (.aload_n 0, 1) := by decide +kernel
theorem zd_law_362 : decode code 362 = .ok (.iload 4, 2) := by decide +kernel
theorem zd_law_364 : decode code 364 = .ok (.iconst 2, 1) := by decide +kernel
theorem zd_law_365 : decode code 365 = .ok (.iadd, 1) := by decide +kernel
theorem zd_law_366 : decode code 366 = .ok (.iaload, 1) := by decide +kernel
theorem zd_law_367 : decode code 367 = .ok (.aload_n 3, 1) := by decide +kernel
theorem zd_law_368 : decode code 368 = .ok (.invokestatic 80, 3) := by decide +kernel
theorem zd_law_371 : decode code 371 = .ok (.istore 5, 2) := by decide +kernel
theorem zd_law_373 : decode code 373 = .ok (.aload_n 2, 1) := by decide +kernel
theorem zd_law_374 : decode code 374 = .ok (.aload_n 0, 1) := by decide +kernel
theorem zd_law_375 : decode code 375 = .ok (.iload 4, 2) := by decide +kernel
theorem zd_law_377 : decode code 377 = .ok (.iconst 1, 1) := by decide +kernel
theorem zd_law_378 : decode code 378 = .ok (.iadd, 1) := by decide +kernel
theorem zd_law_379 : decode code 379 = .ok (.iaload, 1) := by decide +kernel
theorem zd_law_380 : decode code 380 = .ok (.aload_n 0, 1) := by decide +kernel
theorem zd_law_381 : decode code 381 = .ok (.iload 4, 2) := by decide +kernel
theorem zd_law_383 : decode code 383 = .ok (.iconst 2, 1) := by decide +kernel
theorem zd_law_384 : decode code 384 = .ok (.iadd, 1) := by decide +kernel
theorem zd_law_385 : decode code 385 = .ok (.iaload, 1) := by decide +kernel
theorem zd_law_386 : decode code 386 = .ok (.invokevirtual 83, 3) := by decide +kernel
theorem zd_law_389 : decode code 389 = .ok (.lstore 6, 2) := by decide +kernel
theorem zd_law_391 : decode code 391 = .ok (.aload_n 2, 1) := by decide +kernel
theorem zd_law_392 : decode code 392 = .ok (.invokevirtual 62, 3) := by decide +kernel
theorem zd_law_395 : decode code 395 = .ok (.iload 5, 2) := by decide +kernel
theorem zd_law_397 : decode code 397 = .ok (.if_icmp .eq 5, 3) := by decide +kernel
theorem zd_law_402 : decode code 402 = .ok (.iload 5, 2) := by decide +kernel
theorem zd_law_404 : decode code 404 = .ok (.ifCond .ne 14, 3) := by decide +kernel
theorem zd_law_407 : decode code 407 = .ok (.aload_n 3, 1) := by decide +kernel
theorem zd_law_408 : decode code 408 = .ok (.iconst 0, 1) := by decide +kernel
theorem zd_law_409 : decode code 409 = .ok (.laload, 1) := by decide +kernel
theorem zd_law_410 : decode code 410 = .ok (.lload 6, 2) := by decide +kernel
theorem zd_law_412 : decode code 412 = .ok (.lcmp, 1) := by decide +kernel
theorem zd_law_413 : decode code 413 = .ok (.ifCond .eq 5, 3) := by decide +kernel
theorem zd_law_418 : decode code 418 = .ok (.goto 584, 3) := by decide +kernel
theorem zd_law_421 : decode code 421 = .ok (.aload_n 1, 1) := by decide +kernel
theorem zd_law_422 : decode code 422 = .ok (.aload_n 0, 1) := by decide +kernel
theorem zd_law_423 : decode code 423 = .ok (.iload 4, 2) := by decide +kernel
theorem zd_law_425 : decode code 425 = .ok (.iconst 1, 1) := by decide +kernel
theorem zd_law_426 : decode code 426 = .ok (.iadd, 1) := by decide +kernel
theorem zd_law_427 : decode code 427 = .ok (.iaload, 1) := by decide +kernel
theorem zd_law_428 : decode code 428 = .ok (.aload_n 3, 1) := by decide +kernel
theorem zd_law_429 : decode code 429 = .ok (.invokestatic 84, 3) := by decide +kernel
theorem zd_law_432 : decode code 432 = .ok (.istore 5, 2) := by decide +kernel
theorem zd_law_434 : decode code 434 = .ok (.aload_n 2, 1) := by decide +kernel
theorem zd_law_435 : decode code 435 = .ok (.aload_n 0, 1) := by decide +kernel
theorem zd_law_436 : decode code 436 = .ok (.iload 4, 2) := by decide +kernel
theorem zd_law_438 : decode code 438 = .ok (.iconst 1, 1) := by decide +kernel
theorem zd_law_439 : decode code 439 = .ok (.iadd, 1) := by decide +kernel
theorem zd_law_440 : decode code 440 = .ok (.iaload, 1) := by decide +kernel
theorem zd_law_441 : decode code 441 = .ok (.invokevirtual 87, 3) := by decide +kernel
theorem zd_law_444 : decode code 444 = .ok (.istore 6, 2) := by decide +kernel
theorem zd_law_446 : decode code 446 = .ok (.aload_n 2, 1) := by decide +kernel
theorem zd_law_447 : decode code 447 = .ok (.invokevirtual 62, 3) := by decide +kernel
theorem zd_law_450 : decode code 450 = .ok (.iload 5, 2) := by decide +kernel
theorem zd_law_452 : decode code 452 = .ok (.if_icmp .eq 5, 3) := by decide +kernel
theorem zd_law_457 : decode code 457 = .ok (.iload 5, 2) := by decide +kernel
theorem zd_law_459 : decode code 459 = .ok (.ifCond .ne 15, 3) := by decide +kernel
theorem zd_law_462 : decode code 462 = .ok (.aload_n 3, 1) := by decide +kernel
theorem zd_law_463 : decode code 463 = .ok (.iconst 0, 1) := by decide +kernel
theorem zd_law_464 : decode code 464 = .ok (.laload, 1) := by decide +kernel
theorem zd_law_465 : decode code 465 = .ok (.iload 6, 2) := by decide +kernel
theorem zd_law_467 : decode code 467 = .ok (.i2l, 1) := by decide +kernel
theorem zd_law_468 : decode code 468 = .ok (.lcmp, 1) := by decide +kernel
theorem zd_law_469 : decode code 469 = .ok (.ifCond .eq 5, 3) := by decide +kernel
theorem zd_law_474 : decode code 474 = .ok (.goto 528, 3) := by decide +kernel
theorem zd_law_477 : decode code 477 = .ok (.aload_n 1, 1) := by decide +kernel
theorem zd_law_478 : decode code 478 = .ok (.aload_n 0, 1) := by decide +kernel
theorem zd_law_479 : decode code 479 = .ok (.iload 4, 2) := by decide +kernel
theorem zd_law_481 : decode code 481 = .ok (.iconst 1, 1) := by decide +kernel
theorem zd_law_482 : decode code 482 = .ok (.iadd, 1) := by decide +kernel
theorem zd_law_483 : decode code 483 = .ok (.iaload, 1) := by decide +kernel
theorem zd_law_484 : decode code 484 = .ok (.i2l, 1) := by decide +kernel
theorem zd_law_485 : decode code 485 = .ok (.bipush 32, 2) := by decide +kernel
theorem zd_law_487 : decode code 487 = .ok (.lshl, 1) := by decide +kernel
theorem zd_law_488 : decode code 488 = .ok (.aload_n 0, 1) := by decide +kernel
theorem zd_law_489 : decode code 489 = .ok (.iload 4, 2) := by decide +kernel
theorem zd_law_491 : decode code 491 = .ok (.iconst 2, 1) := by decide +kernel
theorem zd_law_492 : decode code 492 = .ok (.iadd, 1) := by decide +kernel
theorem zd_law_493 : decode code 493 = .ok (.iaload, 1) := by decide +kernel
theorem zd_law_494 : decode code 494 = .ok (.i2l, 1) := by decide +kernel
theorem zd_law_495 : decode code 495 = .ok (.ldc2_w 69, 3) := by decide +kernel
theorem zd_law_498 : decode code 498 = .ok (.land, 1) := by decide +kernel
theorem zd_law_499 : decode code 499 = .ok (.lor, 1) := by decide +kernel
theorem zd_law_500 : decode code 500 = .ok (.aload_n 0, 1) := by decide +kernel
theorem zd_law_501 : decode code 501 = .ok (.iload 4, 2) := by decide +kernel
theorem zd_law_503 : decode code 503 = .ok (.iconst 3, 1) := by decide +kernel
theorem zd_law_504 : decode code 504 = .ok (.iadd, 1) := by decide +kernel
theorem zd_law_505 : decode code 505 = .ok (.iaload, 1) := by decide +kernel
theorem zd_law_506 : decode code 506 = .ok (.invokevirtual 88, 3) := by decide +kernel
theorem zd_law_509 : decode code 509 = .ok (.aload_n 2, 1) := by decide +kernel
theorem zd_law_510 : decode code 510 = .ok (.aload_n 0, 1) := by decide +kernel
theorem zd_law_511 : decode code 511 = .ok (.iload 4, 2) := by decide +kernel
theorem zd_law_513 : decode code 513 = .ok (.iconst 1, 1) := by decide +kernel
theorem zd_law_514 : decode code 514 = .ok (.iadd, 1) := by decide +kernel
theorem zd_law_515 : decode code 515 = .ok (.iaload, 1) := by decide +kernel
theorem zd_law_516 : decode code 516 = .ok (.i2l, 1) := by decide +kernel
theorem zd_law_517 : decode code 517 = .ok (.bipush 32, 2) := by decide +kernel
theorem zd_law_519 : decode code 519 = .ok (.lshl, 1) := by decide +kernel
theorem zd_law_520 : decode code 520 = .ok (.aload_n 0, 1) := by decide +kernel
theorem zd_law_521 : decode code 521 = .ok (.iload 4, 2) := by decide +kernel
theorem zd_law_523 : decode code 523 = .ok (.iconst 2, 1) := by decide +kernel
theorem zd_law_524 : decode code 524 = .ok (.iadd, 1) := by decide +kernel
theorem zd_law_525 : decode code 525 = .ok (.iaload, 1) := by decide +kernel
theorem zd_law_526 : decode code 526 = .ok (.i2l, 1) := by decide +kernel
theorem zd_law_527 : decode code 527 = .ok (.ldc2_w 69, 3) := by decide +kernel
theorem zd_law_530 : decode code 530 = .ok (.land, 1) := by decide +kernel
theorem zd_law_531 : decode code 531 = .ok (.lor, 1) := by decide +kernel
theorem zd_law_532 : decode code 532 = .ok (.aload_n 0, 1) := by decide +kernel
theorem zd_law_533 : decode code 533 = .ok (.iload 4, 2) := by decide +kernel
theorem zd_law_535 : decode code 535 = .ok (.iconst 3, 1) := by decide +kernel
theorem zd_law_536 : decode code 536 = .ok (.iadd, 1) := by decide +kernel
theorem zd_law_537 : decode code 537 = .ok (.iaload, 1) := by decide +kernel
theorem zd_law_538 : decode code 538 = .ok (.invokevirtual 92, 3) := by decide +kernel
theorem zd_law_541 : decode code 541 = .ok (.if_icmp .eq 461, 3) := by decide +kernel
theorem zd_law_546 : decode code 546 = .ok (.aload_n 1, 1) := by decide +kernel
theorem zd_law_547 : decode code 547 = .ok (.aload_n 0, 1) := by decide +kernel
theorem zd_law_548 : decode code 548 = .ok (.iload 4, 2) := by decide +kernel
theorem zd_law_550 : decode code 550 = .ok (.iconst 1, 1) := by decide +kernel
theorem zd_law_551 : decode code 551 = .ok (.iadd, 1) := by decide +kernel
theorem zd_law_552 : decode code 552 = .ok (.iaload, 1) := by decide +kernel
theorem zd_law_553 : decode code 553 = .ok (.invokevirtual 93, 3) := by decide +kernel
theorem zd_law_556 : decode code 556 = .ok (.aload_n 2, 1) := by decide +kernel
theorem zd_law_557 : decode code 557 = .ok (.aload_n 0, 1) := by decide +kernel
theorem zd_law_558 : decode code 558 = .ok (.iload 4, 2) := by decide +kernel
theorem zd_law_560 : decode code 560 = .ok (.iconst 1, 1) := by decide +kernel
theorem zd_law_561 : decode code 561 = .ok (.iadd, 1) := by decide +kernel
theorem zd_law_562 : decode code 562 = .ok (.iaload, 1) := by decide +kernel
theorem zd_law_563 : decode code 563 = .ok (.invokevirtual 97, 3) := by decide +kernel
theorem zd_law_566 : decode code 566 = .ok (.if_icmp .eq 436, 3) := by decide +kernel
theorem zd_law_571 : decode code 571 = .ok (.aload_n 1, 1) := by decide +kernel
theorem zd_law_572 : decode code 572 = .ok (.invokevirtual 98, 3) := by decide +kernel
theorem zd_law_575 : decode code 575 = .ok (.aload_n 2, 1) := by decide +kernel
theorem zd_law_576 : decode code 576 = .ok (.invokevirtual 101, 3) := by decide +kernel
theorem zd_law_579 : decode code 579 = .ok (.if_icmp .eq 423, 3) := by decide +kernel
theorem zd_law_584 : decode code 584 = .ok (.aload_n 1, 1) := by decide +kernel
theorem zd_law_585 : decode code 585 = .ok (.invokevirtual 102, 3) := by decide +kernel
theorem zd_law_588 : decode code 588 = .ok (.aload_n 2, 1) := by decide +kernel
theorem zd_law_589 : decode code 589 = .ok (.invokevirtual 105, 3) := by decide +kernel
theorem zd_law_592 : decode code 592 = .ok (.if_icmp .eq 410, 3) := by decide +kernel
theorem zd_law_597 : decode code 597 = .ok (.aload_n 1, 1) := by decide +kernel
theorem zd_law_598 : decode code 598 = .ok (.aload_n 0, 1) := by decide +kernel
theorem zd_law_599 : decode code 599 = .ok (.iload 4, 2) := by decide +kernel
theorem zd_law_601 : decode code 601 = .ok (.iconst 1, 1) := by decide +kernel
theorem zd_law_602 : decode code 602 = .ok (.iadd, 1) := by decide +kernel
theorem zd_law_603 : decode code 603 = .ok (.iaload, 1) := by decide +kernel
theorem zd_law_604 : decode code 604 = .ok (.aload_n 0, 1) := by decide +kernel
theorem zd_law_605 : decode code 605 = .ok (.iload 4, 2) := by decide +kernel
theorem zd_law_607 : decode code 607 = .ok (.iconst 2, 1) := by decide +kernel
theorem zd_law_608 : decode code 608 = .ok (.iadd, 1) := by decide +kernel
theorem zd_law_609 : decode code 609 = .ok (.iaload, 1) := by decide +kernel
theorem zd_law_610 : decode code 610 = .ok (.aload_n 0, 1) := by decide +kernel
theorem zd_law_611 : decode code 611 = .ok (.iload 4, 2) := by decide +kernel
theorem zd_law_613 : decode code 613 = .ok (.iconst 3, 1) := by decide +kernel
theorem zd_law_614 : decode code 614 = .ok (.iadd, 1) := by decide +kernel
theorem zd_law_615 : decode code 615 = .ok (.iaload, 1) := by decide +kernel
theorem zd_law_616 : decode code 616 = .ok (.i2l, 1) := by decide +kernel
theorem zd_law_617 : decode code 617 = .ok (.bipush 32, 2) := by decide +kernel
theorem zd_law_619 : decode code 619 = .ok (.lshl, 1) := by decide +kernel
theorem zd_law_620 : decode code 620 = .ok (.aload_n 0, 1) := by decide +kernel
theorem zd_law_621 : decode code 621 = .ok (.iload 4, 2) := by decide +kernel
theorem zd_law_623 : decode code 623 = .ok (.iconst 4, 1) := by decide +kernel
theorem zd_law_624 : decode code 624 = .ok (.iadd, 1) := by decide +kernel
theorem zd_law_625 : decode code 625 = .ok (.iaload, 1) := by decide +kernel
theorem zd_law_626 : decode code 626 = .ok (.i2l, 1) := by decide +kernel
theorem zd_law_627 : decode code 627 = .ok (.ldc2_w 69, 3) := by decide +kernel
theorem zd_law_630 : decode code 630 = .ok (.land, 1) := by decide +kernel
theorem zd_law_631 : decode code 631 = .ok (.lor, 1) := by decide +kernel
theorem zd_law_632 : decode code 632 = .ok (.aload_n 3, 1) := by decide +kernel
theorem zd_law_633 : decode code 633 = .ok (.invokestatic 106, 3) := by decide +kernel
theorem zd_law_636 : decode code 636 = .ok (.istore 5, 2) := by decide +kernel
theorem zd_law_638 : decode code 638 = .ok (.aload_n 2, 1) := by decide +kernel
theorem zd_law_639 : decode code 639 = .ok (.aload_n 0, 1) := by decide +kernel
theorem zd_law_640 : decode code 640 = .ok (.iload 4, 2) := by decide +kernel
theorem zd_law_642 : decode code 642 = .ok (.iconst 1, 1) := by decide +kernel
theorem zd_law_643 : decode code 643 = .ok (.iadd, 1) := by decide +kernel
theorem zd_law_644 : decode code 644 = .ok (.iaload, 1) := by decide +kernel
theorem zd_law_645 : decode code 645 = .ok (.aload_n 0, 1) := by decide +kernel
theorem zd_law_646 : decode code 646 = .ok (.iload 4, 2) := by decide +kernel
theorem zd_law_648 : decode code 648 = .ok (.iconst 2, 1) := by decide +kernel
theorem zd_law_649 : decode code 649 = .ok (.iadd, 1) := by decide +kernel
theorem zd_law_650 : decode code 650 = .ok (.iaload, 1) := by decide +kernel
theorem zd_law_651 : decode code 651 = .ok (.aload_n 0, 1) := by decide +kernel
theorem zd_law_652 : decode code 652 = .ok (.iload 4, 2) := by decide +kernel
theorem zd_law_654 : decode code 654 = .ok (.iconst 3, 1) := by decide +kernel
theorem zd_law_655 : decode code 655 = .ok (.iadd, 1) := by decide +kernel
theorem zd_law_656 : decode code 656 = .ok (.iaload, 1) := by decide +kernel
theorem zd_law_657 : decode code 657 = .ok (.i2l, 1) := by decide +kernel
theorem zd_law_658 : decode code 658 = .ok (.bipush 32, 2) := by decide +kernel
theorem zd_law_660 : decode code 660 = .ok (.lshl, 1) := by decide +kernel
theorem zd_law_661 : decode code 661 = .ok (.aload_n 0, 1) := by decide +kernel
theorem zd_law_662 : decode code 662 = .ok (.iload 4, 2) := by decide +kernel
theorem zd_law_664 : decode code 664 = .ok (.iconst 4, 1) := by decide +kernel
theorem zd_law_665 : decode code 665 = .ok (.iadd, 1) := by decide +kernel
theorem zd_law_666 : decode code 666 = .ok (.iaload, 1) := by decide +kernel
theorem zd_law_667 : decode code 667 = .ok (.i2l, 1) := by decide +kernel
theorem zd_law_668 : decode code 668 = .ok (.ldc2_w 69, 3) := by decide +kernel
theorem zd_law_671 : decode code 671 = .ok (.land, 1) := by decide +kernel
theorem zd_law_672 : decode code 672 = .ok (.lor, 1) := by decide +kernel
theorem zd_law_673 : decode code 673 = .ok (.invokevirtual 108, 3) := by decide +kernel
theorem zd_law_676 : decode code 676 = .ok (.istore 6, 2) := by decide +kernel
theorem zd_law_678 : decode code 678 = .ok (.aload_n 2, 1) := by decide +kernel
theorem zd_law_679 : decode code 679 = .ok (.invokevirtual 62, 3) := by decide +kernel
theorem zd_law_682 : decode code 682 = .ok (.iload 5, 2) := by decide +kernel
theorem zd_law_684 : decode code 684 = .ok (.if_icmp .eq 5, 3) := by decide +kernel
theorem zd_law_689 : decode code 689 = .ok (.iload 5, 2) := by decide +kernel
theorem zd_law_691 : decode code 691 = .ok (.ifCond .ne 15, 3) := by decide +kernel
theorem zd_law_694 : decode code 694 = .ok (.aload_n 3, 1) := by decide +kernel
theorem zd_law_695 : decode code 695 = .ok (.iconst 0, 1) := by decide +kernel
theorem zd_law_696 : decode code 696 = .ok (.laload, 1) := by decide +kernel
theorem zd_law_697 : decode code 697 = .ok (.iload 6, 2) := by decide +kernel
theorem zd_law_699 : decode code 699 = .ok (.i2l, 1) := by decide +kernel
theorem zd_law_700 : decode code 700 = .ok (.lcmp, 1) := by decide +kernel
theorem zd_law_701 : decode code 701 = .ok (.ifCond .eq 5, 3) := by decide +kernel
theorem zd_law_706 : decode code 706 = .ok (.goto 296, 3) := by decide +kernel
theorem zd_law_709 : decode code 709 = .ok (.aload_n 1, 1) := by decide +kernel
theorem zd_law_710 : decode code 710 = .ok (.aload_n 0, 1) := by decide +kernel
theorem zd_law_711 : decode code 711 = .ok (.iload 4, 2) := by decide +kernel
theorem zd_law_713 : decode code 713 = .ok (.iconst 1, 1) := by decide +kernel
theorem zd_law_714 : decode code 714 = .ok (.iadd, 1) := by decide +kernel
theorem zd_law_715 : decode code 715 = .ok (.iaload, 1) := by decide +kernel
theorem zd_law_716 : decode code 716 = .ok (.aload_n 0, 1) := by decide +kernel
theorem zd_law_717 : decode code 717 = .ok (.iload 4, 2) := by decide +kernel
theorem zd_law_719 : decode code 719 = .ok (.iconst 2, 1) := by decide +kernel
theorem zd_law_720 : decode code 720 = .ok (.iadd, 1) := by decide +kernel
theorem zd_law_721 : decode code 721 = .ok (.iaload, 1) := by decide +kernel
theorem zd_law_722 : decode code 722 = .ok (.invokevirtual 109, 3) := by decide +kernel
theorem zd_law_725 : decode code 725 = .ok (.aload_n 2, 1) := by decide +kernel
theorem zd_law_726 : decode code 726 = .ok (.aload_n 0, 1) := by decide +kernel
theorem zd_law_727 : decode code 727 = .ok (.iload 4, 2) := by decide +kernel
theorem zd_law_729 : decode code 729 = .ok (.iconst 1, 1) := by decide +kernel
theorem zd_law_730 : decode code 730 = .ok (.iadd, 1) := by decide +kernel
theorem zd_law_731 : decode code 731 = .ok (.iaload, 1) := by decide +kernel
theorem zd_law_732 : decode code 732 = .ok (.aload_n 0, 1) := by decide +kernel
theorem zd_law_733 : decode code 733 = .ok (.iload 4, 2) := by decide +kernel
theorem zd_law_735 : decode code 735 = .ok (.iconst 2, 1) := by decide +kernel
theorem zd_law_736 : decode code 736 = .ok (.iadd, 1) := by decide +kernel
theorem zd_law_737 : decode code 737 = .ok (.iaload, 1) := by decide +kernel
theorem zd_law_738 : decode code 738 = .ok (.invokevirtual 112, 3) := by decide +kernel
theorem zd_law_741 : decode code 741 = .ok (.if_icmp .eq 261, 3) := by decide +kernel
theorem zd_law_746 : decode code 746 = .ok (.aload_n 1, 1) := by decide +kernel
theorem zd_law_747 : decode code 747 = .ok (.aload_n 0, 1) := by decide +kernel
theorem zd_law_748 : decode code 748 = .ok (.iload 4, 2) := by decide +kernel
theorem zd_law_750 : decode code 750 = .ok (.iconst 1, 1) := by decide +kernel
theorem zd_law_751 : decode code 751 = .ok (.iadd, 1) := by decide +kernel
theorem zd_law_752 : decode code 752 = .ok (.iaload, 1) := by decide +kernel
theorem zd_law_753 : decode code 753 = .ok (.aload_n 0, 1) := by decide +kernel
theorem zd_law_754 : decode code 754 = .ok (.iload 4, 2) := by decide +kernel
theorem zd_law_756 : decode code 756 = .ok (.iconst 2, 1) := by decide +kernel
theorem zd_law_757 : decode code 757 = .ok (.iadd, 1) := by decide +kernel
theorem zd_law_758 : decode code 758 = .ok (.iaload, 1) := by decide +kernel
theorem zd_law_759 : decode code 759 = .ok (.aload_n 0, 1) := by decide +kernel
theorem zd_law_760 : decode code 760 = .ok (.iload 4, 2) := by decide +kernel
theorem zd_law_762 : decode code 762 = .ok (.iconst 3, 1) := by decide +kernel
theorem zd_law_763 : decode code 763 = .ok (.iadd, 1) := by decide +kernel
theorem zd_law_764 : decode code 764 = .ok (.iaload, 1) := by decide +kernel
theorem zd_law_765 : decode code 765 = .ok (.aload_n 3, 1) := by decide +kernel
theorem zd_law_766 : decode code 766 = .ok (.invokestatic 113, 3) := by decide +kernel
theorem zd_law_769 : decode code 769 = .ok (.istore 5, 2) := by decide +kernel
theorem zd_law_771 : decode code 771 = .ok (.aload_n 2, 1) := by decide +kernel
theorem zd_law_772 : decode code 772 = .ok (.aload_n 0, 1) := by decide +kernel
theorem zd_law_773 : decode code 773 = .ok (.iload 4, 2) := by decide +kernel
theorem zd_law_775 : decode code 775 = .ok (.iconst 1, 1) := by decide +kernel
theorem zd_law_776 : decode code 776 = .ok (.iadd, 1) := by decide +kernel
theorem zd_law_777 : decode code 777 = .ok (.iaload, 1) := by decide +kernel
theorem zd_law_778 : decode code 778 = .ok (.aload_n 0, 1) := by decide +kernel
theorem zd_law_779 : decode code 779 = .ok (.iload 4, 2) := by decide +kernel
theorem zd_law_781 : decode code 781 = .ok (.iconst 2, 1) := by decide +kernel
theorem zd_law_782 : decode code 782 = .ok (.iadd, 1) := by decide +kernel
theorem zd_law_783 : decode code 783 = .ok (.iaload, 1) := by decide +kernel
theorem zd_law_784 : decode code 784 = .ok (.aload_n 0, 1) := by decide +kernel
theorem zd_law_785 : decode code 785 = .ok (.iload 4, 2) := by decide +kernel
theorem zd_law_787 : decode code 787 = .ok (.iconst 3, 1) := by decide +kernel
theorem zd_law_788 : decode code 788 = .ok (.iadd, 1) := by decide +kernel
theorem zd_law_789 : decode code 789 = .ok (.iaload, 1) := by decide +kernel
theorem zd_law_790 : decode code 790 = .ok (.invokevirtual 116, 3) := by decide +kernel
theorem zd_law_793 : decode code 793 = .ok (.istore 6, 2) := by decide +kernel
theorem zd_law_795 : decode code 795 = .ok (.aload_n 2, 1) := by decide +kernel
theorem zd_law_796 : decode code 796 = .ok (.invokevirtual 62, 3) := by decide +kernel
theorem zd_law_799 : decode code 799 = .ok (.iload 5, 2) := by decide +kernel
theorem zd_law_801 : decode code 801 = .ok (.if_icmp .eq 5, 3) := by decide +kernel
theorem zd_law_806 : decode code 806 = .ok (.iload 5, 2) := by decide +kernel
theorem zd_law_808 : decode code 808 = .ok (.ifCond .ne 15, 3) := by decide +kernel
theorem zd_law_811 : decode code 811 = .ok (.aload_n 3, 1) := by decide +kernel
theorem zd_law_812 : decode code 812 = .ok (.iconst 0, 1) := by decide +kernel
theorem zd_law_813 : decode code 813 = .ok (.laload, 1) := by decide +kernel
theorem zd_law_814 : decode code 814 = .ok (.iload 6, 2) := by decide +kernel
theorem zd_law_816 : decode code 816 = .ok (.i2l, 1) := by decide +kernel
theorem zd_law_817 : decode code 817 = .ok (.lcmp, 1) := by decide +kernel
theorem zd_law_818 : decode code 818 = .ok (.ifCond .eq 5, 3) := by decide +kernel
theorem zd_law_823 : decode code 823 = .ok (.goto 179, 3) := by decide +kernel
theorem zd_law_826 : decode code 826 = .ok (.aload_n 1, 1) := by decide +kernel
theorem zd_law_827 : decode code 827 = .ok (.aload_n 0, 1) := by decide +kernel
theorem zd_law_828 : decode code 828 = .ok (.iload 4, 2) := by decide +kernel
theorem zd_law_830 : decode code 830 = .ok (.iconst 1, 1) := by decide +kernel
theorem zd_law_831 : decode code 831 = .ok (.iadd, 1) := by decide +kernel
theorem zd_law_832 : decode code 832 = .ok (.iaload, 1) := by decide +kernel
theorem zd_law_833 : decode code 833 = .ok (.aload_n 3, 1) := by decide +kernel
theorem zd_law_834 : decode code 834 = .ok (.invokestatic 117, 3) := by decide +kernel
theorem zd_law_837 : decode code 837 = .ok (.istore 5, 2) := by decide +kernel
theorem zd_law_839 : decode code 839 = .ok (.aload_n 2, 1) := by decide +kernel
theorem zd_law_840 : decode code 840 = .ok (.aload_n 0, 1) := by decide +kernel
theorem zd_law_841 : decode code 841 = .ok (.iload 4, 2) := by decide +kernel
theorem zd_law_843 : decode code 843 = .ok (.iconst 1, 1) := by decide +kernel
theorem zd_law_844 : decode code 844 = .ok (.iadd, 1) := by decide +kernel
theorem zd_law_845 : decode code 845 = .ok (.iaload, 1) := by decide +kernel
theorem zd_law_846 : decode code 846 = .ok (.invokevirtual 119, 3) := by decide +kernel
theorem zd_law_849 : decode code 849 = .ok (.lstore 6, 2) := by decide +kernel
theorem zd_law_851 : decode code 851 = .ok (.aload_n 2, 1) := by decide +kernel
theorem zd_law_852 : decode code 852 = .ok (.invokevirtual 62, 3) := by decide +kernel
theorem zd_law_855 : decode code 855 = .ok (.iload 5, 2) := by decide +kernel
theorem zd_law_857 : decode code 857 = .ok (.if_icmp .eq 5, 3) := by decide +kernel
theorem zd_law_862 : decode code 862 = .ok (.iload 5, 2) := by decide +kernel
theorem zd_law_864 : decode code 864 = .ok (.ifCond .ne 14, 3) := by decide +kernel
theorem zd_law_867 : decode code 867 = .ok (.aload_n 3, 1) := by decide +kernel
theorem zd_law_868 : decode code 868 = .ok (.iconst 0, 1) := by decide +kernel
theorem zd_law_869 : decode code 869 = .ok (.laload, 1) := by decide +kernel
theorem zd_law_870 : decode code 870 = .ok (.lload 6, 2) := by decide +kernel
theorem zd_law_872 : decode code 872 = .ok (.lcmp, 1) := by decide +kernel
theorem zd_law_873 : decode code 873 = .ok (.ifCond .eq 5, 3) := by decide +kernel
theorem zd_law_878 : decode code 878 = .ok (.goto 124, 3) := by decide +kernel
theorem zd_law_881 : decode code 881 = .ok (.aload_n 1, 1) := by decide +kernel
theorem zd_law_882 : decode code 882 = .ok (.invokevirtual 120, 3) := by decide +kernel
theorem zd_law_885 : decode code 885 = .ok (.aload_n 2, 1) := by decide +kernel
theorem zd_law_886 : decode code 886 = .ok (.invokevirtual 123, 3) := by decide +kernel
theorem zd_law_889 : decode code 889 = .ok (.if_icmp .eq 113, 3) := by decide +kernel
theorem zd_law_894 : decode code 894 = .ok (.aload_n 1, 1) := by decide +kernel
theorem zd_law_895 : decode code 895 = .ok (.aload_n 0, 1) := by decide +kernel
theorem zd_law_896 : decode code 896 = .ok (.iload 4, 2) := by decide +kernel
theorem zd_law_898 : decode code 898 = .ok (.iconst 1, 1) := by decide +kernel
theorem zd_law_899 : decode code 899 = .ok (.iadd, 1) := by decide +kernel
theorem zd_law_900 : decode code 900 = .ok (.iaload, 1) := by decide +kernel
theorem zd_law_901 : decode code 901 = .ok (.aload_n 3, 1) := by decide +kernel
theorem zd_law_902 : decode code 902 = .ok (.invokestatic 124, 3) := by decide +kernel
theorem zd_law_905 : decode code 905 = .ok (.istore 5, 2) := by decide +kernel
theorem zd_law_907 : decode code 907 = .ok (.aload_n 2, 1) := by decide +kernel
theorem zd_law_908 : decode code 908 = .ok (.aload_n 0, 1) := by decide +kernel
theorem zd_law_909 : decode code 909 = .ok (.iload 4, 2) := by decide +kernel
theorem zd_law_911 : decode code 911 = .ok (.iconst 1, 1) := by decide +kernel
theorem zd_law_912 : decode code 912 = .ok (.iadd, 1) := by decide +kernel
theorem zd_law_913 : decode code 913 = .ok (.iaload, 1) := by decide +kernel
theorem zd_law_914 : decode code 914 = .ok (.invokevirtual 126, 3) := by decide +kernel
theorem zd_law_917 : decode code 917 = .ok (.istore 6, 2) := by decide +kernel
theorem zd_law_919 : decode code 919 = .ok (.aload_n 2, 1) := by decide +kernel
theorem zd_law_920 : decode code 920 = .ok (.invokevirtual 62, 3) := by decide +kernel
theorem zd_law_923 : decode code 923 = .ok (.iload 5, 2) := by decide +kernel
theorem zd_law_925 : decode code 925 = .ok (.if_icmp .eq 5, 3) := by decide +kernel
theorem zd_law_930 : decode code 930 = .ok (.iload 5, 2) := by decide +kernel
theorem zd_law_932 : decode code 932 = .ok (.ifCond .ne 15, 3) := by decide +kernel
theorem zd_law_935 : decode code 935 = .ok (.aload_n 3, 1) := by decide +kernel
theorem zd_law_936 : decode code 936 = .ok (.iconst 0, 1) := by decide +kernel
theorem zd_law_937 : decode code 937 = .ok (.laload, 1) := by decide +kernel
theorem zd_law_938 : decode code 938 = .ok (.iload 6, 2) := by decide +kernel
theorem zd_law_940 : decode code 940 = .ok (.i2l, 1) := by decide +kernel
theorem zd_law_941 : decode code 941 = .ok (.lcmp, 1) := by decide +kernel
theorem zd_law_942 : decode code 942 = .ok (.ifCond .eq 5, 3) := by decide +kernel
theorem zd_law_947 : decode code 947 = .ok (.goto 55, 3) := by decide +kernel
theorem zd_law_950 : decode code 950 = .ok (.aload_n 1, 1) := by decide +kernel
theorem zd_law_951 : decode code 951 = .ok (.aload_n 0, 1) := by decide +kernel
theorem zd_law_952 : decode code 952 = .ok (.iload 4, 2) := by decide +kernel
theorem zd_law_954 : decode code 954 = .ok (.iconst 1, 1) := by decide +kernel
theorem zd_law_955 : decode code 955 = .ok (.iadd, 1) := by decide +kernel
theorem zd_law_956 : decode code 956 = .ok (.iaload, 1) := by decide +kernel
theorem zd_law_957 : decode code 957 = .ok (.i2b, 1) := by decide +kernel
theorem zd_law_958 : decode code 958 = .ok (.invokevirtual 127, 3) := by decide +kernel
theorem zd_law_961 : decode code 961 = .ok (.aload_n 2, 1) := by decide +kernel
theorem zd_law_962 : decode code 962 = .ok (.aload_n 0, 1) := by decide +kernel
theorem zd_law_963 : decode code 963 = .ok (.iload 4, 2) := by decide +kernel
theorem zd_law_965 : decode code 965 = .ok (.iconst 1, 1) := by decide +kernel
theorem zd_law_966 : decode code 966 = .ok (.iadd, 1) := by decide +kernel
theorem zd_law_967 : decode code 967 = .ok (.iaload, 1) := by decide +kernel
theorem zd_law_968 : decode code 968 = .ok (.i2b, 1) := by decide +kernel
theorem zd_law_969 : decode code 969 = .ok (.invokevirtual 131, 3) := by decide +kernel
theorem zd_law_972 : decode code 972 = .ok (.if_icmp .eq 30, 3) := by decide +kernel
theorem zd_law_977 : decode code 977 = .ok (.aload_n 1, 1) := by decide +kernel
theorem zd_law_978 : decode code 978 = .ok (.aload_n 0, 1) := by decide +kernel
theorem zd_law_979 : decode code 979 = .ok (.iload 4, 2) := by decide +kernel
theorem zd_law_981 : decode code 981 = .ok (.iconst 1, 1) := by decide +kernel
theorem zd_law_982 : decode code 982 = .ok (.iadd, 1) := by decide +kernel
theorem zd_law_983 : decode code 983 = .ok (.iaload, 1) := by decide +kernel
theorem zd_law_984 : decode code 984 = .ok (.invokevirtual 132, 3) := by decide +kernel
theorem zd_law_987 : decode code 987 = .ok (.aload_n 2, 1) := by decide +kernel
theorem zd_law_988 : decode code 988 = .ok (.aload_n 0, 1) := by decide +kernel
theorem zd_law_989 : decode code 989 = .ok (.iload 4, 2) := by decide +kernel
theorem zd_law_991 : decode code 991 = .ok (.iconst 1, 1) := by decide +kernel
theorem zd_law_992 : decode code 992 = .ok (.iadd, 1) := by decide +kernel
theorem zd_law_993 : decode code 993 = .ok (.iaload, 1) := by decide +kernel
theorem zd_law_994 : decode code 994 = .ok (.invokevirtual 135, 3) := by decide +kernel
theorem zd_law_997 : decode code 997 = .ok (.if_icmp .eq 5, 3) := by decide +kernel
theorem zd_law_1002 : decode code 1002 = .ok (.iinc 4 5, 3) := by decide +kernel
theorem zd_law_1005 : decode code 1005 = .ok (.goto (-972), 3) := by decide +kernel
theorem zd_law_1008 : decode code 1008 = .ok (.iconst 1, 1) := by decide +kernel
theorem zd_law_1009 : decode code 1009 = .ok (.ireturn, 1) := by decide +kernel
