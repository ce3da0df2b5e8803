set_option maxRecDepth 100000 in
theorem zk_51b6b441 : (Jvm.Cond.constantLong "DeclareForms" (197 : Nat) (1000000000 : Int64)) ∈ zz_big := zz_in 213 rfl rfl
set_option maxRecDepth 100000 in
theorem zk_7540bdb8 : (Jvm.Cond.code ({ cls := "DeclareForms", name := "lineOf", desc := "(I)I" } : Jvm.MethodName) prog_1_method_22_code (1 : Nat) (Option.some Jvm.ClassFile.FieldType.int)) ∈ zz_big := zz_in 237 rfl rfl
set_option maxRecDepth 100000 in
theorem zk_fcb9702c : (Jvm.Cond.methodLink "DeclareForms" (199 : Nat) ({ cls := "DeclareForms", name := "lineOf", desc := "(I)I" } : Jvm.MethodName)) ∈ zz_big := zz_in 248 rfl rfl
set_option maxRecDepth 100000 in
theorem zk_bd1d2622 : (Jvm.Cond.static ({ cls := "DeclareForms", name := "lineOf", desc := "(I)I" } : Jvm.MethodName)) ∈ zz_big := zz_in 236 rfl rfl
set_option maxRecDepth 100000 in
theorem zk_cfe38e2e : (Jvm.Cond.initialized "DeclareForms") ∈ zz_big := zz_in 26 rfl rfl
set_option maxRecDepth 100000 in
theorem zk_1944e685 : (Jvm.Cond.code ({ cls := "DeclareForms", name := "fieldOf", desc := "(I)I" } : Jvm.MethodName) prog_1_method_23_code (1 : Nat) (Option.some Jvm.ClassFile.FieldType.int)) ∈ zz_big := zz_in 240 rfl rfl
set_option maxRecDepth 100000 in
theorem zk_a091db21 : (Jvm.Cond.methodLink "DeclareForms" (202 : Nat) ({ cls := "DeclareForms", name := "fieldOf", desc := "(I)I" } : Jvm.MethodName)) ∈ zz_big := zz_in 249 rfl rfl
set_option maxRecDepth 100000 in
theorem zk_82f2c4f0 : (Jvm.Cond.static ({ cls := "DeclareForms", name := "fieldOf", desc := "(I)I" } : Jvm.MethodName)) ∈ zz_big := zz_in 239 rfl rfl
set_option maxRecDepth 100000 in
theorem zk_a32d7426 : (Jvm.Cond.fieldLink "DeclareForms$Sheet" (25 : Nat) "DeclareForms$Sheet" "made" "I") ∈ zz_big := zz_in 65 rfl rfl
set_option maxRecDepth 100000 in
theorem zk_641e4f57 : (Jvm.Cond.fieldLink "DeclareForms$Sheet" (15 : Nat) "DeclareForms$Sheet" "open" "[Z") ∈ zz_big := zz_in 64 rfl rfl
set_option maxRecDepth 100000 in
theorem zk_69f5fb79 : (Jvm.Cond.fieldLink "DeclareForms$Sheet" (29 : Nat) "DeclareForms$Sheet" "opened" "I") ∈ zz_big := zz_in 66 rfl rfl
set_option maxRecDepth 100000 in
theorem zk_93636338 : (Jvm.Cond.fieldLink "DeclareForms$Sheet" (32 : Nat) "DeclareForms$Sheet" "filled" "I") ∈ zz_big := zz_in 67 rfl rfl
set_option maxRecDepth 100000 in
theorem zk_bb1301ba : (Jvm.Cond.code ({ cls := "DeclareForms$Sheet", name := "isFull", desc := "()Z" } : Jvm.MethodName) prog_5_method_2_code (1 : Nat) (Option.some Jvm.ClassFile.FieldType.boolean)) ∈ zz_big := zz_in 379 rfl rfl
set_option maxRecDepth 100000 in
theorem zk_0b4b3340 : (Jvm.Cond.methodLink "DeclareForms$Sheet" (35 : Nat) ({ cls := "DeclareForms$Sheet", name := "isFull", desc := "()Z" } : Jvm.MethodName)) ∈ zz_big := zz_in 452 rfl rfl
set_option maxRecDepth 100000 in
theorem zk_5ea10dbf : (Jvm.Cond.instanceMethod ({ cls := "DeclareForms$Sheet", name := "isFull", desc := "()Z" } : Jvm.MethodName)) ∈ zz_big := zz_in 377 rfl rfl
set_option maxRecDepth 100000 in
theorem zk_5f4fa963 : (Jvm.Cond.selects "DeclareForms$Sheet" ({ cls := "DeclareForms$Sheet", name := "isFull", desc := "()Z" } : Jvm.MethodName) ({ cls := "DeclareForms$Sheet", name := "isFull", desc := "()Z" } : Jvm.MethodName)) ∈ zz_big := zz_in 378 rfl rfl
set_option maxRecDepth 100000 in
theorem zk_f1a23aa7 : (Jvm.Cond.initialized "DeclareForms$Sheet") ∈ zz_big := zz_in 28 rfl rfl
set_option maxRecDepth 100000 in
theorem zk_33cddec9 : (Jvm.Cond.code ({ cls := "DeclareForms$Sheet", name := "hasLine", desc := "(I)Z" } : Jvm.MethodName) prog_5_method_3_code (2 : Nat) (Option.some Jvm.ClassFile.FieldType.boolean)) ∈ zz_big := zz_in 179 rfl rfl
set_option maxRecDepth 100000 in
theorem zk_935946c6 : (Jvm.Cond.methodLink "DeclareForms$Sheet" (39 : Nat) ({ cls := "DeclareForms$Sheet", name := "hasLine", desc := "(I)Z" } : Jvm.MethodName)) ∈ zz_big := zz_in 188 rfl rfl
set_option maxRecDepth 100000 in
theorem zk_3871fc92 : (Jvm.Cond.instanceMethod ({ cls := "DeclareForms$Sheet", name := "hasLine", desc := "(I)Z" } : Jvm.MethodName)) ∈ zz_big := zz_in 177 rfl rfl
set_option maxRecDepth 100000 in
theorem zk_c72ec03e : (Jvm.Cond.selects "DeclareForms$Sheet" ({ cls := "DeclareForms$Sheet", name := "hasLine", desc := "(I)Z" } : Jvm.MethodName) ({ cls := "DeclareForms$Sheet", name := "hasLine", desc := "(I)Z" } : Jvm.MethodName)) ∈ zz_big := zz_in 178 rfl rfl
set_option maxRecDepth 100000 in
theorem zk_58041e5d : (Jvm.Cond.fieldLink "DeclareForms$Sheet" (9 : Nat) "DeclareForms$Sheet" "values" "[I") ∈ zz_big := zz_in 63 rfl rfl
set_option maxRecDepth 100000 in
theorem zk_29ef983f : (Jvm.Cond.code ({ cls := "DeclareForms$Sheet", name := "put", desc := "(II)V" } : Jvm.MethodName) prog_5_method_10_code (3 : Nat) (Option.none : Option Jvm.ClassFile.FieldType)) ∈ zz_big := zz_in 192 rfl rfl
set_option maxRecDepth 100000 in
theorem zk_46e13ae2 : (Jvm.Cond.methodLink "DeclareForms$Sheet" (43 : Nat) ({ cls := "DeclareForms$Sheet", name := "put", desc := "(II)V" } : Jvm.MethodName)) ∈ zz_big := zz_in 189 rfl rfl
set_option maxRecDepth 100000 in
theorem zk_7151ae50 : (Jvm.Cond.instanceMethod ({ cls := "DeclareForms$Sheet", name := "put", desc := "(II)V" } : Jvm.MethodName)) ∈ zz_big := zz_in 190 rfl rfl
set_option maxRecDepth 100000 in
theorem zk_2e2e7b1b : (Jvm.Cond.selects "DeclareForms$Sheet" ({ cls := "DeclareForms$Sheet", name := "put", desc := "(II)V" } : Jvm.MethodName) ({ cls := "DeclareForms$Sheet", name := "put", desc := "(II)V" } : Jvm.MethodName)) ∈ zz_big := zz_in 191 rfl rfl
set_option maxRecDepth 100000 in
theorem zk_dd814726 : (Jvm.Cond.code ({ cls := "DeclareForms", name := "needBy", desc := "(II)I" } : Jvm.MethodName) prog_1_method_21_code (2 : Nat) (Option.some Jvm.ClassFile.FieldType.int)) ∈ zz_big := zz_in 243 rfl rfl
set_option maxRecDepth 100000 in
theorem zk_e14187d6 : (Jvm.Cond.static ({ cls := "DeclareForms", name := "needBy", desc := "(II)I" } : Jvm.MethodName)) ∈ zz_big := zz_in 242 rfl rfl
set_option maxRecDepth 100000 in
theorem zk_e4817253 : (Jvm.Cond.code ({ cls := "DeclareForms$Sheet", name := "slotOf", desc := "(II)I" } : Jvm.MethodName) prog_5_method_8_code (3 : Nat) (Option.some Jvm.ClassFile.FieldType.int)) ∈ zz_big := zz_in 200 rfl rfl
set_option maxRecDepth 100000 in
theorem zk_c343ab2c : (Jvm.Cond.methodLink "DeclareForms$Sheet" (58 : Nat) ({ cls := "DeclareForms$Sheet", name := "slotOf", desc := "(II)I" } : Jvm.MethodName)) ∈ zz_big := zz_in 254 rfl rfl
set_option maxRecDepth 100000 in
theorem zk_13757a2f : (Jvm.Cond.instanceMethod ({ cls := "DeclareForms$Sheet", name := "slotOf", desc := "(II)I" } : Jvm.MethodName)) ∈ zz_big := zz_in 198 rfl rfl
set_option maxRecDepth 100000 in
theorem zk_9f779419 : (Jvm.Cond.selects "DeclareForms$Sheet" ({ cls := "DeclareForms$Sheet", name := "slotOf", desc := "(II)I" } : Jvm.MethodName) ({ cls := "DeclareForms$Sheet", name := "slotOf", desc := "(II)I" } : Jvm.MethodName)) ∈ zz_big := zz_in 199 rfl rfl
set_option maxRecDepth 100000 in
theorem zk_fdbb5e96 : (Jvm.Cond.code ({ cls := "DeclareForms$Sheet", name := "valueAt", desc := "(I)I" } : Jvm.MethodName) prog_5_method_9_code (2 : Nat) (Option.some Jvm.ClassFile.FieldType.int)) ∈ zz_big := zz_in 204 rfl rfl
set_option maxRecDepth 100000 in
theorem zk_9b9c69cb : (Jvm.Cond.methodLink "DeclareForms$Sheet" (61 : Nat) ({ cls := "DeclareForms$Sheet", name := "valueAt", desc := "(I)I" } : Jvm.MethodName)) ∈ zz_big := zz_in 255 rfl rfl
set_option maxRecDepth 100000 in
theorem zk_1fa0ab90 : (Jvm.Cond.instanceMethod ({ cls := "DeclareForms$Sheet", name := "valueAt", desc := "(I)I" } : Jvm.MethodName)) ∈ zz_big := zz_in 202 rfl rfl
set_option maxRecDepth 100000 in
theorem zk_4c70df44 : (Jvm.Cond.selects "DeclareForms$Sheet" ({ cls := "DeclareForms$Sheet", name := "valueAt", desc := "(I)I" } : Jvm.MethodName) ({ cls := "DeclareForms$Sheet", name := "valueAt", desc := "(I)I" } : Jvm.MethodName)) ∈ zz_big := zz_in 203 rfl rfl
set_option maxRecDepth 100000 in
theorem zk_c90df990 : (Jvm.Cond.methodLink "DeclareForms$Sheet" (68 : Nat) ({ cls := "java/lang/Math", name := "max", desc := "(II)I" } : Jvm.MethodName)) ∈ zz_big := zz_in 260 rfl rfl
set_option maxRecDepth 100000 in
theorem zk_0bcac700 : (Jvm.Cond.static ({ cls := "java/lang/Math", name := "max", desc := "(II)I" } : Jvm.MethodName)) ∈ zz_big := zz_in 52 rfl rfl
set_option maxRecDepth 100000 in
theorem zk_7b6e1f6d : (Jvm.Cond.initialized "java/lang/Math") ∈ zz_big := zz_in 27 rfl rfl
set_option maxRecDepth 100000 in
theorem zk_c583aea8 : (Jvm.Cond.code ({ cls := "java/lang/Math", name := "max", desc := "(II)I" } : Jvm.MethodName) prog_12_method_65_code (2 : Nat) (Option.some Jvm.ClassFile.FieldType.int)) ∈ zz_big := zz_in 53 rfl rfl
set_option maxRecDepth 100000 in
theorem zk_efd9ded9 : (Jvm.Cond.code ({ cls := "DeclareForms$Sheet", name := "total", desc := "(I)J" } : Jvm.MethodName) prog_5_method_13_code (5 : Nat) (Option.some Jvm.ClassFile.FieldType.long)) ∈ zz_big := zz_in 259 rfl rfl
set_option maxRecDepth 100000 in
theorem zk_bdd994ac : (Jvm.Cond.methodLink "DeclareForms$Sheet" (64 : Nat) ({ cls := "DeclareForms$Sheet", name := "total", desc := "(I)J" } : Jvm.MethodName)) ∈ zz_big := zz_in 256 rfl rfl
set_option maxRecDepth 100000 in
theorem zk_b3219529 : (Jvm.Cond.instanceMethod ({ cls := "DeclareForms$Sheet", name := "total", desc := "(I)J" } : Jvm.MethodName)) ∈ zz_big := zz_in 257 rfl rfl
set_option maxRecDepth 100000 in
theorem zk_106e6e6c : (Jvm.Cond.selects "DeclareForms$Sheet" ({ cls := "DeclareForms$Sheet", name := "total", desc := "(I)J" } : Jvm.MethodName) ({ cls := "DeclareForms$Sheet", name := "total", desc := "(I)J" } : Jvm.MethodName)) ∈ zz_big := zz_in 258 rfl rfl
set_option maxRecDepth 100000 in
theorem zk_e0fac5f1 : (Jvm.Cond.fieldLink "DeclareForms$Codes" (22 : Nat) "DeclareForms$Codes" "held" "I") ∈ zz_big := zz_in 89 rfl rfl
set_option maxRecDepth 100000 in
theorem zk_a8e5cdbb : (Jvm.Cond.fieldLink "DeclareForms$Codes" (9 : Nat) "DeclareForms$Codes" "values" "[I") ∈ zz_big := zz_in 87 rfl rfl
set_option maxRecDepth 100000 in
theorem zk_09d76f48 : (Jvm.Cond.code ({ cls := "DeclareForms$Codes", name := "find", desc := "(I)I" } : Jvm.MethodName) prog_2_method_5_code (3 : Nat) (Option.some Jvm.ClassFile.FieldType.int)) ∈ zz_big := zz_in 222 rfl rfl
set_option maxRecDepth 100000 in
theorem zk_6aa25b7b : (Jvm.Cond.methodLink "DeclareForms$Codes" (18 : Nat) ({ cls := "DeclareForms$Codes", name := "find", desc := "(I)I" } : Jvm.MethodName)) ∈ zz_big := zz_in 219 rfl rfl
set_option maxRecDepth 100000 in
theorem zk_c68528a2 : (Jvm.Cond.instanceMethod ({ cls := "DeclareForms$Codes", name := "find", desc := "(I)I" } : Jvm.MethodName)) ∈ zz_big := zz_in 221 rfl rfl
set_option maxRecDepth 100000 in
theorem zk_cb222ee4 : Cond.selects "DeclareForms$Codes" ⟨"DeclareForms$Codes", "find", "(I)I"⟩ ⟨"DeclareForms$Codes", "find", "(I)I"⟩ ∈ zz_big := zz_in 0 rfl rfl
set_option maxRecDepth 100000 in
theorem zk_e143c677 : (Jvm.Cond.initialized "DeclareForms$Codes") ∈ zz_big := zz_in 30 rfl rfl
set_option maxRecDepth 100000 in
theorem zk_ca3ffb47 : (Jvm.Cond.fieldLink "DeclareForms$Codes" (15 : Nat) "DeclareForms$Codes" "lastDays" "[I") ∈ zz_big := zz_in 88 rfl rfl
set_option maxRecDepth 100000 in
theorem zk_3b4f7965 : (Jvm.Cond.fieldLink "DeclareForms$Papers" (21 : Nat) "DeclareForms$Papers" "held" "I") ∈ zz_big := zz_in 106 rfl rfl
set_option maxRecDepth 100000 in
theorem zk_9516c5fd : (Jvm.Cond.fieldLink "DeclareForms$Papers" (9 : Nat) "DeclareForms$Papers" "numbers" "[I") ∈ zz_big := zz_in 103 rfl rfl
set_option maxRecDepth 100000 in
theorem zk_94b92128 : (Jvm.Cond.code ({ cls := "DeclareForms$Papers", name := "find", desc := "(I)I" } : Jvm.MethodName) prog_3_method_4_code (3 : Nat) (Option.some Jvm.ClassFile.FieldType.int)) ∈ zz_big := zz_in 293 rfl rfl
set_option maxRecDepth 100000 in
theorem zk_ae2cc950 : (Jvm.Cond.methodLink "DeclareForms$Papers" (25 : Nat) ({ cls := "DeclareForms$Papers", name := "find", desc := "(I)I" } : Jvm.MethodName)) ∈ zz_big := zz_in 290 rfl rfl
set_option maxRecDepth 100000 in
theorem zk_260dcf75 : (Jvm.Cond.instanceMethod ({ cls := "DeclareForms$Papers", name := "find", desc := "(I)I" } : Jvm.MethodName)) ∈ zz_big := zz_in 291 rfl rfl
set_option maxRecDepth 100000 in
theorem zk_9eb9dfdc : (Jvm.Cond.selects "DeclareForms$Papers" ({ cls := "DeclareForms$Papers", name := "find", desc := "(I)I" } : Jvm.MethodName) ({ cls := "DeclareForms$Papers", name := "find", desc := "(I)I" } : Jvm.MethodName)) ∈ zz_big := zz_in 292 rfl rfl
set_option maxRecDepth 100000 in
theorem zk_f301a5bc : (Jvm.Cond.initialized "DeclareForms$Papers") ∈ zz_big := zz_in 31 rfl rfl
set_option maxRecDepth 100000 in
theorem zk_39cf8cfd : (Jvm.Cond.fieldLink "DeclareForms$Papers" (15 : Nat) "DeclareForms$Papers" "balances" "[I") ∈ zz_big := zz_in 104 rfl rfl
set_option maxRecDepth 100000 in
theorem zk_7cfd8f23 : (Jvm.Cond.fieldLink "DeclareForms$Papers" (18 : Nat) "DeclareForms$Papers" "drawn" "[I") ∈ zz_big := zz_in 105 rfl rfl
set_option maxRecDepth 100000 in
theorem zk_e7cbea07 : (Jvm.Cond.fieldLink "DeclareForms$Reader" (9 : Nat) "DeclareForms$Reader" "whole" "I") ∈ zz_big := zz_in 129 rfl rfl
set_option maxRecDepth 100000 in
theorem zk_8c4f15a9 : (Jvm.Cond.fieldLink "DeclareForms$Reader" (15 : Nat) "DeclareForms$Reader" "latest" "I") ∈ zz_big := zz_in 130 rfl rfl
set_option maxRecDepth 100000 in
theorem zk_04fa654a : (Jvm.Cond.fieldLink "DeclareForms$Reader" (49 : Nat) "DeclareForms$Reader" "rowKind" "I") ∈ zz_big := zz_in 123 rfl rfl
set_option maxRecDepth 100000 in
theorem zk_5d4512b9 : (Jvm.Cond.fieldLink "DeclareForms$Reader" (52 : Nat) "DeclareForms$Reader" "lastSlot" "I") ∈ zz_big := zz_in 127 rfl rfl
set_option maxRecDepth 100000 in
theorem zk_64a6c42c : (Jvm.Cond.fieldLink "DeclareForms$Reader" (28 : Nat) "DeclareForms$Reader" "fields" "I") ∈ zz_big := zz_in 124 rfl rfl
set_option maxRecDepth 100000 in
theorem zk_19b26606 : (Jvm.Cond.fieldLink "DeclareForms$Reader" (25 : Nat) "DeclareForms$Reader" "fieldsLeft" "I") ∈ zz_big := zz_in 125 rfl rfl
set_option maxRecDepth 100000 in
theorem zk_38af8887 : (Jvm.Cond.fieldLink "DeclareForms$Reader" (55 : Nat) "DeclareForms$Reader" "rowField" "I") ∈ zz_big := zz_in 126 rfl rfl
set_option maxRecDepth 100000 in
theorem zk_d4c3bc94 : (Jvm.Cond.fieldLink "DeclareForms$Reader" (62 : Nat) "DeclareForms$Reader" "rowValue" "J") ∈ zz_big := zz_in 128 rfl rfl
set_option maxRecDepth 100000 in
theorem zk_145c8149 : (Jvm.Cond.constantLong "DeclareForms$Reader" (66 : Nat) (256 : Int64)) ∈ zz_big := zz_in 339 rfl rfl
set_option maxRecDepth 100000 in
theorem zk_b8a9b261 : (Jvm.Cond.fieldLink "DeclareForms$Reader" (22 : Nat) "DeclareForms$Reader" "place" "I") ∈ zz_big := zz_in 122 rfl rfl
set_option maxRecDepth 100000 in
theorem zk_1a63ba43 : (Jvm.Cond.constantLong "DeclareForms$Reader" (68 : Nat) (1000000000 : Int64)) ∈ zz_big := zz_in 340 rfl rfl
set_option maxRecDepth 100000 in
theorem zk_614f5db7 : (Jvm.Cond.code ({ cls := "DeclareForms$Reader", name := "takeKind", desc := "(I)Z" } : Jvm.MethodName) prog_4_method_6_code (2 : Nat) (Option.some Jvm.ClassFile.FieldType.boolean)) ∈ zz_big := zz_in 317 rfl rfl
set_option maxRecDepth 100000 in
theorem zk_5035b69c : (Jvm.Cond.methodLink "DeclareForms$Reader" (31 : Nat) ({ cls := "DeclareForms$Reader", name := "takeKind", desc := "(I)Z" } : Jvm.MethodName)) ∈ zz_big := zz_in 314 rfl rfl
set_option maxRecDepth 100000 in
theorem zk_4915e962 : (Jvm.Cond.instanceMethod ({ cls := "DeclareForms$Reader", name := "takeKind", desc := "(I)Z" } : Jvm.MethodName)) ∈ zz_big := zz_in 316 rfl rfl
set_option maxRecDepth 100000 in
theorem zk_f37331cd : Cond.selects "DeclareForms$Reader" ⟨"DeclareForms$Reader", "takeKind", "(I)Z"⟩ ⟨"DeclareForms$Reader", "takeKind", "(I)Z"⟩ ∈ zz_big := zz_in 3 rfl rfl
set_option maxRecDepth 100000 in
theorem zk_136d7407 : (Jvm.Cond.initialized "DeclareForms$Reader") ∈ zz_big := zz_in 32 rfl rfl
set_option maxRecDepth 100000 in
theorem zk_f4d57b21 : (Jvm.Cond.code ({ cls := "DeclareForms$Reader", name := "takeHigher", desc := "(I)Z" } : Jvm.MethodName) prog_4_method_7_code (2 : Nat) (Option.some Jvm.ClassFile.FieldType.boolean)) ∈ zz_big := zz_in 321 rfl rfl
set_option maxRecDepth 100000 in
theorem zk_7f1a353c : (Jvm.Cond.methodLink "DeclareForms$Reader" (34 : Nat) ({ cls := "DeclareForms$Reader", name := "takeHigher", desc := "(I)Z" } : Jvm.MethodName)) ∈ zz_big := zz_in 318 rfl rfl
set_option maxRecDepth 100000 in
theorem zk_0e9f7475 : (Jvm.Cond.instanceMethod ({ cls := "DeclareForms$Reader", name := "takeHigher", desc := "(I)Z" } : Jvm.MethodName)) ∈ zz_big := zz_in 320 rfl rfl
set_option maxRecDepth 100000 in
theorem zk_6d04e37b : Cond.selects "DeclareForms$Reader" ⟨"DeclareForms$Reader", "takeHigher", "(I)Z"⟩ ⟨"DeclareForms$Reader", "takeHigher", "(I)Z"⟩ ∈ zz_big := zz_in 4 rfl rfl
set_option maxRecDepth 100000 in
theorem zk_3bf2a372 : (Jvm.Cond.code ({ cls := "DeclareForms$Reader", name := "takeLower", desc := "(I)Z" } : Jvm.MethodName) prog_4_method_8_code (2 : Nat) (Option.some Jvm.ClassFile.FieldType.boolean)) ∈ zz_big := zz_in 325 rfl rfl
set_option maxRecDepth 100000 in
theorem zk_c3b75ea1 : (Jvm.Cond.methodLink "DeclareForms$Reader" (37 : Nat) ({ cls := "DeclareForms$Reader", name := "takeLower", desc := "(I)Z" } : Jvm.MethodName)) ∈ zz_big := zz_in 322 rfl rfl
set_option maxRecDepth 100000 in
theorem zk_12bcf610 : (Jvm.Cond.instanceMethod ({ cls := "DeclareForms$Reader", name := "takeLower", desc := "(I)Z" } : Jvm.MethodName)) ∈ zz_big := zz_in 324 rfl rfl
set_option maxRecDepth 100000 in
theorem zk_e48d9ff2 : Cond.selects "DeclareForms$Reader" ⟨"DeclareForms$Reader", "takeLower", "(I)Z"⟩ ⟨"DeclareForms$Reader", "takeLower", "(I)Z"⟩ ∈ zz_big := zz_in 5 rfl rfl
set_option maxRecDepth 100000 in
theorem zk_0b6e1656 : (Jvm.Cond.code ({ cls := "DeclareForms$Reader", name := "takeField", desc := "(I)Z" } : Jvm.MethodName) prog_4_method_9_code (2 : Nat) (Option.some Jvm.ClassFile.FieldType.boolean)) ∈ zz_big := zz_in 329 rfl rfl
set_option maxRecDepth 100000 in
theorem zk_c22db35c : (Jvm.Cond.methodLink "DeclareForms$Reader" (40 : Nat) ({ cls := "DeclareForms$Reader", name := "takeField", desc := "(I)Z" } : Jvm.MethodName)) ∈ zz_big := zz_in 326 rfl rfl
set_option maxRecDepth 100000 in
theorem zk_934369ad : (Jvm.Cond.instanceMethod ({ cls := "DeclareForms$Reader", name := "takeField", desc := "(I)Z" } : Jvm.MethodName)) ∈ zz_big := zz_in 328 rfl rfl
set_option maxRecDepth 100000 in
theorem zk_a14f995b : Cond.selects "DeclareForms$Reader" ⟨"DeclareForms$Reader", "takeField", "(I)Z"⟩ ⟨"DeclareForms$Reader", "takeField", "(I)Z"⟩ ∈ zz_big := zz_in 6 rfl rfl
set_option maxRecDepth 100000 in
theorem zk_8bbbc545 : (Jvm.Cond.code ({ cls := "DeclareForms$Reader", name := "takeLine", desc := "(I)Z" } : Jvm.MethodName) prog_4_method_10_code (5 : Nat) (Option.some Jvm.ClassFile.FieldType.boolean)) ∈ zz_big := zz_in 334 rfl rfl
set_option maxRecDepth 100000 in
theorem zk_76bb2fce : (Jvm.Cond.methodLink "DeclareForms$Reader" (43 : Nat) ({ cls := "DeclareForms$Reader", name := "takeLine", desc := "(I)Z" } : Jvm.MethodName)) ∈ zz_big := zz_in 331 rfl rfl
set_option maxRecDepth 100000 in
theorem zk_f84625d5 : (Jvm.Cond.instanceMethod ({ cls := "DeclareForms$Reader", name := "takeLine", desc := "(I)Z" } : Jvm.MethodName)) ∈ zz_big := zz_in 333 rfl rfl
set_option maxRecDepth 100000 in
theorem zk_975b5658 : Cond.selects "DeclareForms$Reader" ⟨"DeclareForms$Reader", "takeLine", "(I)Z"⟩ ⟨"DeclareForms$Reader", "takeLine", "(I)Z"⟩ ∈ zz_big := zz_in 7 rfl rfl
set_option maxRecDepth 100000 in
theorem zk_ba187e4f : (Jvm.Cond.code ({ cls := "DeclareForms$Reader", name := "takeValue", desc := "(I)Z" } : Jvm.MethodName) prog_4_method_11_code (2 : Nat) (Option.some Jvm.ClassFile.FieldType.boolean)) ∈ zz_big := zz_in 338 rfl rfl
set_option maxRecDepth 100000 in
theorem zk_0ec6c850 : (Jvm.Cond.methodLink "DeclareForms$Reader" (46 : Nat) ({ cls := "DeclareForms$Reader", name := "takeValue", desc := "(I)Z" } : Jvm.MethodName)) ∈ zz_big := zz_in 335 rfl rfl
set_option maxRecDepth 100000 in
theorem zk_69ba10b9 : (Jvm.Cond.instanceMethod ({ cls := "DeclareForms$Reader", name := "takeValue", desc := "(I)Z" } : Jvm.MethodName)) ∈ zz_big := zz_in 337 rfl rfl
set_option maxRecDepth 100000 in
theorem zk_9ba1f689 : Cond.selects "DeclareForms$Reader" ⟨"DeclareForms$Reader", "takeValue", "(I)Z"⟩ ⟨"DeclareForms$Reader", "takeValue", "(I)Z"⟩ ∈ zz_big := zz_in 8 rfl rfl
set_option maxRecDepth 100000 in
theorem zk_3daecf7f : (Jvm.Cond.code ({ cls := "DeclareForms$Reader", name := "stands", desc := "(I)Z" } : Jvm.MethodName) prog_4_method_5_code (2 : Nat) (Option.some Jvm.ClassFile.FieldType.boolean)) ∈ zz_big := zz_in 313 rfl rfl
set_option maxRecDepth 100000 in
theorem zk_2e9dfa34 : (Jvm.Cond.methodLink "DeclareForms$Reader" (18 : Nat) ({ cls := "DeclareForms$Reader", name := "stands", desc := "(I)Z" } : Jvm.MethodName)) ∈ zz_big := zz_in 310 rfl rfl
set_option maxRecDepth 100000 in
theorem zk_07adda86 : (Jvm.Cond.instanceMethod ({ cls := "DeclareForms$Reader", name := "stands", desc := "(I)Z" } : Jvm.MethodName)) ∈ zz_big := zz_in 312 rfl rfl
set_option maxRecDepth 100000 in
theorem zk_059ede22 : Cond.selects "DeclareForms$Reader" ⟨"DeclareForms$Reader", "stands", "(I)Z"⟩ ⟨"DeclareForms$Reader", "stands", "(I)Z"⟩ ∈ zz_big := zz_in 2 rfl rfl
set_option maxRecDepth 100000 in
theorem zk_ac6f5f75 : (Jvm.Cond.fieldLink "DeclareForms" (25 : Nat) "DeclareForms" "sheet" "LDeclareForms$Sheet;") ∈ zz_big := zz_in 151 rfl rfl
set_option maxRecDepth 100000 in
theorem zk_3749943e : (Jvm.Cond.methodLink "DeclareForms" (84 : Nat) ({ cls := "DeclareForms$Sheet", name := "slotOf", desc := "(II)I" } : Jvm.MethodName)) ∈ zz_big := zz_in 197 rfl rfl
set_option maxRecDepth 100000 in
theorem zk_79454776 : (Jvm.Cond.methodLink "DeclareForms" (103 : Nat) ({ cls := "DeclareForms$Sheet", name := "valueAt", desc := "(I)I" } : Jvm.MethodName)) ∈ zz_big := zz_in 201 rfl rfl
set_option maxRecDepth 100000 in
theorem zk_92bcf320 : (Jvm.Cond.fieldLink "DeclareForms" (32 : Nat) "DeclareForms" "codes" "LDeclareForms$Codes;") ∈ zz_big := zz_in 152 rfl rfl
set_option maxRecDepth 100000 in
theorem zk_be002196 : (Jvm.Cond.fieldLink "DeclareForms" (50 : Nat) "DeclareForms" "today" "I") ∈ zz_big := zz_in 155 rfl rfl
set_option maxRecDepth 100000 in
theorem zk_16132e5e : (Jvm.Cond.code ({ cls := "DeclareForms$Codes", name := "isGood", desc := "(II)Z" } : Jvm.MethodName) prog_2_method_3_code (4 : Nat) (Option.some Jvm.ClassFile.FieldType.boolean)) ∈ zz_big := zz_in 270 rfl rfl
set_option maxRecDepth 100000 in
theorem zk_c4308639 : (Jvm.Cond.methodLink "DeclareForms" (205 : Nat) ({ cls := "DeclareForms$Codes", name := "isGood", desc := "(II)Z" } : Jvm.MethodName)) ∈ zz_big := zz_in 267 rfl rfl
set_option maxRecDepth 100000 in
theorem zk_a0a2078d : (Jvm.Cond.instanceMethod ({ cls := "DeclareForms$Codes", name := "isGood", desc := "(II)Z" } : Jvm.MethodName)) ∈ zz_big := zz_in 268 rfl rfl
set_option maxRecDepth 100000 in
theorem zk_1368934a : (Jvm.Cond.selects "DeclareForms$Codes" ({ cls := "DeclareForms$Codes", name := "isGood", desc := "(II)Z" } : Jvm.MethodName) ({ cls := "DeclareForms$Codes", name := "isGood", desc := "(II)Z" } : Jvm.MethodName)) ∈ zz_big := zz_in 269 rfl rfl
set_option maxRecDepth 100000 in
theorem zk_26e1908c : (Jvm.Cond.fieldLink "DeclareForms" (18 : Nat) "DeclareForms" "kind" "I") ∈ zz_big := zz_in 150 rfl rfl
set_option maxRecDepth 100000 in
theorem zk_866be72d : (Jvm.Cond.code ({ cls := "DeclareForms$Sheet", name := "firstMissing", desc := "(I)I" } : Jvm.MethodName) prog_5_method_11_code (4 : Nat) (Option.some Jvm.ClassFile.FieldType.int)) ∈ zz_big := zz_in 234 rfl rfl
set_option maxRecDepth 100000 in
theorem zk_02a77f53 : (Jvm.Cond.methodLink "DeclareForms" (115 : Nat) ({ cls := "DeclareForms$Sheet", name := "firstMissing", desc := "(I)I" } : Jvm.MethodName)) ∈ zz_big := zz_in 231 rfl rfl
set_option maxRecDepth 100000 in
theorem zk_96eb0eaf : (Jvm.Cond.instanceMethod ({ cls := "DeclareForms$Sheet", name := "firstMissing", desc := "(I)I" } : Jvm.MethodName)) ∈ zz_big := zz_in 232 rfl rfl
set_option maxRecDepth 100000 in
theorem zk_1b88eb0a : (Jvm.Cond.selects "DeclareForms$Sheet" ({ cls := "DeclareForms$Sheet", name := "firstMissing", desc := "(I)I" } : Jvm.MethodName) ({ cls := "DeclareForms$Sheet", name := "firstMissing", desc := "(I)I" } : Jvm.MethodName)) ∈ zz_big := zz_in 233 rfl rfl
set_option maxRecDepth 100000 in
theorem zk_bd36635a : (Jvm.Cond.code ({ cls := "DeclareForms$Sheet", name := "sumIsWrong", desc := "(II)Z" } : Jvm.MethodName) prog_5_method_12_code (4 : Nat) (Option.some Jvm.ClassFile.FieldType.boolean)) ∈ zz_big := zz_in 253 rfl rfl
set_option maxRecDepth 100000 in
theorem zk_173b95b6 : (Jvm.Cond.methodLink "DeclareForms" (122 : Nat) ({ cls := "DeclareForms$Sheet", name := "sumIsWrong", desc := "(II)Z" } : Jvm.MethodName)) ∈ zz_big := zz_in 250 rfl rfl
set_option maxRecDepth 100000 in
theorem zk_46869219 : (Jvm.Cond.instanceMethod ({ cls := "DeclareForms$Sheet", name := "sumIsWrong", desc := "(II)Z" } : Jvm.MethodName)) ∈ zz_big := zz_in 251 rfl rfl
set_option maxRecDepth 100000 in
theorem zk_bca93d4d : (Jvm.Cond.selects "DeclareForms$Sheet" ({ cls := "DeclareForms$Sheet", name := "sumIsWrong", desc := "(II)Z" } : Jvm.MethodName) ({ cls := "DeclareForms$Sheet", name := "sumIsWrong", desc := "(II)Z" } : Jvm.MethodName)) ∈ zz_big := zz_in 252 rfl rfl
set_option maxRecDepth 100000 in
theorem zk_e400f6cc : (Jvm.Cond.code ({ cls := "DeclareForms", name := "firstWithoutGoodCode", desc := "()I" } : Jvm.MethodName) prog_1_method_27_code (4 : Nat) (Option.some Jvm.ClassFile.FieldType.int)) ∈ zz_big := zz_in 266 rfl rfl
set_option maxRecDepth 100000 in
theorem zk_90086960 : (Jvm.Cond.methodLink "DeclareForms" (127 : Nat) ({ cls := "DeclareForms", name := "firstWithoutGoodCode", desc := "()I" } : Jvm.MethodName)) ∈ zz_big := zz_in 263 rfl rfl
set_option maxRecDepth 100000 in
theorem zk_c31cd9ed : (Jvm.Cond.instanceMethod ({ cls := "DeclareForms", name := "firstWithoutGoodCode", desc := "()I" } : Jvm.MethodName)) ∈ zz_big := zz_in 265 rfl rfl
set_option maxRecDepth 100000 in
theorem zk_3a8f734f : Cond.selects "DeclareForms" ⟨"DeclareForms", "firstWithoutGoodCode", "()I"⟩ ⟨"DeclareForms", "firstWithoutGoodCode", "()I"⟩ ∈ zz_big := zz_in 1 rfl rfl
set_option maxRecDepth 100000 in
theorem zk_fcd24361 : (Jvm.Cond.code ({ cls := "DeclareForms$Sheet", name := "lineCount", desc := "()I" } : Jvm.MethodName) prog_5_method_4_code (1 : Nat) (Option.some Jvm.ClassFile.FieldType.int)) ∈ zz_big := zz_in 275 rfl rfl
set_option maxRecDepth 100000 in
theorem zk_879c9a59 : (Jvm.Cond.methodLink "DeclareForms" (131 : Nat) ({ cls := "DeclareForms$Sheet", name := "lineCount", desc := "()I" } : Jvm.MethodName)) ∈ zz_big := zz_in 272 rfl rfl
set_option maxRecDepth 100000 in
theorem zk_79c9d9e2 : (Jvm.Cond.instanceMethod ({ cls := "DeclareForms$Sheet", name := "lineCount", desc := "()I" } : Jvm.MethodName)) ∈ zz_big := zz_in 273 rfl rfl
set_option maxRecDepth 100000 in
theorem zk_0aad96cc : (Jvm.Cond.selects "DeclareForms$Sheet" ({ cls := "DeclareForms$Sheet", name := "lineCount", desc := "()I" } : Jvm.MethodName) ({ cls := "DeclareForms$Sheet", name := "lineCount", desc := "()I" } : Jvm.MethodName)) ∈ zz_big := zz_in 274 rfl rfl
set_option maxRecDepth 100000 in
theorem zk_eb727f7f : (Jvm.Cond.constant "DeclareForms" (134 : Nat) (5000000 : Int32)) ∈ zz_big := zz_in 276 rfl rfl
set_option maxRecDepth 100000 in
theorem zk_981629e6 : (Jvm.Cond.constant "DeclareForms" (130 : Nat) (4000000 : Int32)) ∈ zz_big := zz_in 271 rfl rfl
set_option maxRecDepth 100000 in
theorem zk_ab1eecd8 : (Jvm.Cond.code ({ cls := "DeclareForms", name := "placeOf", desc := "(I)I" } : Jvm.MethodName) prog_1_method_24_code (1 : Nat) (Option.some Jvm.ClassFile.FieldType.int)) ∈ zz_big := zz_in 247 rfl rfl
set_option maxRecDepth 100000 in
theorem zk_137ff889 : (Jvm.Cond.methodLink "DeclareForms" (119 : Nat) ({ cls := "DeclareForms", name := "placeOf", desc := "(I)I" } : Jvm.MethodName)) ∈ zz_big := zz_in 245 rfl rfl
set_option maxRecDepth 100000 in
theorem zk_79ac290e : (Jvm.Cond.static ({ cls := "DeclareForms", name := "placeOf", desc := "(I)I" } : Jvm.MethodName)) ∈ zz_big := zz_in 246 rfl rfl
set_option maxRecDepth 100000 in
theorem zk_94733b41 : (Jvm.Cond.constant "DeclareForms" (126 : Nat) (3000000 : Int32)) ∈ zz_big := zz_in 262 rfl rfl
set_option maxRecDepth 100000 in
theorem zk_430cae2a : (Jvm.Cond.constant "DeclareForms" (125 : Nat) (2000000 : Int32)) ∈ zz_big := zz_in 261 rfl rfl
set_option maxRecDepth 100000 in
theorem zk_2f026ba4 : (Jvm.Cond.constant "DeclareForms" (118 : Nat) (1000000 : Int32)) ∈ zz_big := zz_in 244 rfl rfl
set_option maxRecDepth 100000 in
theorem zk_8b4375f5 : (Jvm.Cond.code ({ cls := "DeclareForms$Sheet", name := "setCount", desc := "()I" } : Jvm.MethodName) prog_5_method_5_code (1 : Nat) (Option.some Jvm.ClassFile.FieldType.int)) ∈ zz_big := zz_in 301 rfl rfl
set_option maxRecDepth 100000 in
theorem zk_d51b3908 : (Jvm.Cond.methodLink "DeclareForms" (158 : Nat) ({ cls := "DeclareForms$Sheet", name := "setCount", desc := "()I" } : Jvm.MethodName)) ∈ zz_big := zz_in 298 rfl rfl
set_option maxRecDepth 100000 in
theorem zk_460a5c0b : (Jvm.Cond.instanceMethod ({ cls := "DeclareForms$Sheet", name := "setCount", desc := "()I" } : Jvm.MethodName)) ∈ zz_big := zz_in 299 rfl rfl
set_option maxRecDepth 100000 in
theorem zk_dbc3e6b2 : (Jvm.Cond.selects "DeclareForms$Sheet" ({ cls := "DeclareForms$Sheet", name := "setCount", desc := "()I" } : Jvm.MethodName) ({ cls := "DeclareForms$Sheet", name := "setCount", desc := "()I" } : Jvm.MethodName)) ∈ zz_big := zz_in 300 rfl rfl
set_option maxRecDepth 100000 in
theorem zk_ad544a45 : (Jvm.Cond.code ({ cls := "DeclareForms", name := "byteOf", desc := "(II)B" } : Jvm.MethodName) prog_1_method_25_code (2 : Nat) (Option.some Jvm.ClassFile.FieldType.byte)) ∈ zz_big := zz_in 551 rfl rfl
set_option maxRecDepth 100000 in
theorem zk_fadbfa6c : (Jvm.Cond.methodLink "DeclareForms" (169 : Nat) ({ cls := "DeclareForms", name := "byteOf", desc := "(II)B" } : Jvm.MethodName)) ∈ zz_big := zz_in 549 rfl rfl
set_option maxRecDepth 100000 in
theorem zk_700bf3ab : (Jvm.Cond.static ({ cls := "DeclareForms", name := "byteOf", desc := "(II)B" } : Jvm.MethodName)) ∈ zz_big := zz_in 550 rfl rfl
set_option maxRecDepth 100000 in
theorem zk_a72d337f : (Jvm.Cond.fieldLink "DeclareForms" (53 : Nat) "DeclareForms" "lodged" "Z") ∈ zz_big := zz_in 156 rfl rfl
set_option maxRecDepth 100000 in
theorem zk_e942dd41 : (Jvm.Cond.methodLink "DeclareForms" (72 : Nat) ({ cls := "DeclareForms$Sheet", name := "hasLine", desc := "(I)Z" } : Jvm.MethodName)) ∈ zz_big := zz_in 176 rfl rfl
set_option maxRecDepth 100000 in
theorem zk_4f9de2f5 : (Jvm.Cond.fieldLink "DeclareForms" (39 : Nat) "DeclareForms" "papers" "LDeclareForms$Papers;") ∈ zz_big := zz_in 153 rfl rfl
set_option maxRecDepth 100000 in
theorem zk_9da3a71d : (Jvm.Cond.code ({ cls := "DeclareForms$Papers", name := "giveBack", desc := "(I)V" } : Jvm.MethodName) prog_3_method_7_code (3 : Nat) (Option.none : Option Jvm.ClassFile.FieldType)) ∈ zz_big := zz_in 183 rfl rfl
set_option maxRecDepth 100000 in
theorem zk_53df6765 : (Jvm.Cond.methodLink "DeclareForms" (76 : Nat) ({ cls := "DeclareForms$Papers", name := "giveBack", desc := "(I)V" } : Jvm.MethodName)) ∈ zz_big := zz_in 180 rfl rfl
set_option maxRecDepth 100000 in
theorem zk_388ab2dc : (Jvm.Cond.instanceMethod ({ cls := "DeclareForms$Papers", name := "giveBack", desc := "(I)V" } : Jvm.MethodName)) ∈ zz_big := zz_in 181 rfl rfl
set_option maxRecDepth 100000 in
theorem zk_a048ec62 : (Jvm.Cond.selects "DeclareForms$Papers" ({ cls := "DeclareForms$Papers", name := "giveBack", desc := "(I)V" } : Jvm.MethodName) ({ cls := "DeclareForms$Papers", name := "giveBack", desc := "(I)V" } : Jvm.MethodName)) ∈ zz_big := zz_in 182 rfl rfl
set_option maxRecDepth 100000 in
theorem zk_8171e81f : (Jvm.Cond.code ({ cls := "DeclareForms$Sheet", name := "dropLine", desc := "(I)I" } : Jvm.MethodName) prog_5_method_7_code (4 : Nat) (Option.some Jvm.ClassFile.FieldType.int)) ∈ zz_big := zz_in 187 rfl rfl
set_option maxRecDepth 100000 in
theorem zk_c5885611 : (Jvm.Cond.methodLink "DeclareForms" (80 : Nat) ({ cls := "DeclareForms$Sheet", name := "dropLine", desc := "(I)I" } : Jvm.MethodName)) ∈ zz_big := zz_in 184 rfl rfl
set_option maxRecDepth 100000 in
theorem zk_4b7e294d : (Jvm.Cond.instanceMethod ({ cls := "DeclareForms$Sheet", name := "dropLine", desc := "(I)I" } : Jvm.MethodName)) ∈ zz_big := zz_in 185 rfl rfl
set_option maxRecDepth 100000 in
theorem zk_6f360118 : (Jvm.Cond.selects "DeclareForms$Sheet" ({ cls := "DeclareForms$Sheet", name := "dropLine", desc := "(I)I" } : Jvm.MethodName) ({ cls := "DeclareForms$Sheet", name := "dropLine", desc := "(I)I" } : Jvm.MethodName)) ∈ zz_big := zz_in 186 rfl rfl
set_option maxRecDepth 100000 in
theorem zk_f54cd352 : (Jvm.Cond.methodLink "DeclareForms" (99 : Nat) ({ cls := "DeclareForms$Sheet", name := "put", desc := "(II)V" } : Jvm.MethodName)) ∈ zz_big := zz_in 205 rfl rfl
set_option maxRecDepth 100000 in
theorem zk_39170c80 : (Jvm.Cond.code ({ cls := "DeclareForms", name := "isValue", desc := "(J)Z" } : Jvm.MethodName) prog_1_method_20_code (2 : Nat) (Option.some Jvm.ClassFile.FieldType.boolean)) ∈ zz_big := zz_in 212 rfl rfl
set_option maxRecDepth 100000 in
theorem zk_a4e11230 : (Jvm.Cond.methodLink "DeclareForms" (87 : Nat) ({ cls := "DeclareForms", name := "isValue", desc := "(J)Z" } : Jvm.MethodName)) ∈ zz_big := zz_in 210 rfl rfl
set_option maxRecDepth 100000 in
theorem zk_aa84806c : (Jvm.Cond.static ({ cls := "DeclareForms", name := "isValue", desc := "(J)Z" } : Jvm.MethodName)) ∈ zz_big := zz_in 211 rfl rfl
set_option maxRecDepth 100000 in
theorem zk_fe2527bb : (Jvm.Cond.constant "DeclareForms" (110 : Nat) (100000 : Int32)) ∈ zz_big := zz_in 214 rfl rfl
set_option maxRecDepth 100000 in
theorem zk_46e44973 : (Jvm.Cond.code ({ cls := "DeclareForms$Codes", name := "tell", desc := "(II)Z" } : Jvm.MethodName) prog_2_method_2_code (4 : Nat) (Option.some Jvm.ClassFile.FieldType.boolean)) ∈ zz_big := zz_in 218 rfl rfl
set_option maxRecDepth 100000 in
theorem zk_42930984 : (Jvm.Cond.methodLink "DeclareForms" (111 : Nat) ({ cls := "DeclareForms$Codes", name := "tell", desc := "(II)Z" } : Jvm.MethodName)) ∈ zz_big := zz_in 215 rfl rfl
set_option maxRecDepth 100000 in
theorem zk_48dda302 : (Jvm.Cond.instanceMethod ({ cls := "DeclareForms$Codes", name := "tell", desc := "(II)Z" } : Jvm.MethodName)) ∈ zz_big := zz_in 216 rfl rfl
set_option maxRecDepth 100000 in
theorem zk_12cf4ec3 : (Jvm.Cond.selects "DeclareForms$Codes" ({ cls := "DeclareForms$Codes", name := "tell", desc := "(II)Z" } : Jvm.MethodName) ({ cls := "DeclareForms$Codes", name := "tell", desc := "(II)Z" } : Jvm.MethodName)) ∈ zz_big := zz_in 217 rfl rfl
set_option maxRecDepth 100000 in
theorem zk_dd3f9fec : (Jvm.Cond.code ({ cls := "DeclareForms", name := "check", desc := "()I" } : Jvm.MethodName) prog_1_method_10_code (3 : Nat) (Option.some Jvm.ClassFile.FieldType.int)) ∈ zz_big := zz_in 230 rfl rfl
set_option maxRecDepth 100000 in
theorem zk_2055cd9b : (Jvm.Cond.methodLink "DeclareForms" (135 : Nat) ({ cls := "DeclareForms", name := "check", desc := "()I" } : Jvm.MethodName)) ∈ zz_big := zz_in 281 rfl rfl
set_option maxRecDepth 100000 in
theorem zk_f6b6f3c5 : (Jvm.Cond.instanceMethod ({ cls := "DeclareForms", name := "check", desc := "()I" } : Jvm.MethodName)) ∈ zz_big := zz_in 228 rfl rfl
set_option maxRecDepth 100000 in
theorem zk_7115eaaf : (Jvm.Cond.selects "DeclareForms" ({ cls := "DeclareForms", name := "check", desc := "()I" } : Jvm.MethodName) ({ cls := "DeclareForms", name := "check", desc := "()I" } : Jvm.MethodName)) ∈ zz_big := zz_in 229 rfl rfl
set_option maxRecDepth 100000 in
theorem zk_fb1d459a : (Jvm.Cond.code ({ cls := "DeclareForms$Papers", name := "register", desc := "(II)Z" } : Jvm.MethodName) prog_3_method_3_code (3 : Nat) (Option.some Jvm.ClassFile.FieldType.boolean)) ∈ zz_big := zz_in 289 rfl rfl
set_option maxRecDepth 100000 in
theorem zk_7e19198c : (Jvm.Cond.methodLink "DeclareForms" (140 : Nat) ({ cls := "DeclareForms$Papers", name := "register", desc := "(II)Z" } : Jvm.MethodName)) ∈ zz_big := zz_in 286 rfl rfl
set_option maxRecDepth 100000 in
theorem zk_fdae3f7d : (Jvm.Cond.instanceMethod ({ cls := "DeclareForms$Papers", name := "register", desc := "(II)Z" } : Jvm.MethodName)) ∈ zz_big := zz_in 287 rfl rfl
set_option maxRecDepth 100000 in
theorem zk_7d854696 : (Jvm.Cond.selects "DeclareForms$Papers" ({ cls := "DeclareForms$Papers", name := "register", desc := "(II)Z" } : Jvm.MethodName) ({ cls := "DeclareForms$Papers", name := "register", desc := "(II)Z" } : Jvm.MethodName)) ∈ zz_big := zz_in 288 rfl rfl
set_option maxRecDepth 100000 in
theorem zk_84f3c67c : (Jvm.Cond.fieldLink "DeclareForms" (46 : Nat) "DeclareForms" "reader" "LDeclareForms$Reader;") ∈ zz_big := zz_in 154 rfl rfl
set_option maxRecDepth 100000 in
theorem zk_ce99025e : (Jvm.Cond.code ({ cls := "DeclareForms$Reader", name := "accept", desc := "(I)I" } : Jvm.MethodName) prog_4_method_4_code (2 : Nat) (Option.some Jvm.ClassFile.FieldType.int)) ∈ zz_big := zz_in 309 rfl rfl
set_option maxRecDepth 100000 in
theorem zk_ebd94e33 : (Jvm.Cond.methodLink "DeclareForms" (179 : Nat) ({ cls := "DeclareForms$Reader", name := "accept", desc := "(I)I" } : Jvm.MethodName)) ∈ zz_big := zz_in 306 rfl rfl
set_option maxRecDepth 100000 in
theorem zk_1b0d4895 : (Jvm.Cond.instanceMethod ({ cls := "DeclareForms$Reader", name := "accept", desc := "(I)I" } : Jvm.MethodName)) ∈ zz_big := zz_in 307 rfl rfl
set_option maxRecDepth 100000 in
theorem zk_bb028677 : (Jvm.Cond.selects "DeclareForms$Reader" ({ cls := "DeclareForms$Reader", name := "accept", desc := "(I)I" } : Jvm.MethodName) ({ cls := "DeclareForms$Reader", name := "accept", desc := "(I)I" } : Jvm.MethodName)) ∈ zz_big := zz_in 308 rfl rfl
set_option maxRecDepth 100000 in
theorem zk_9bbffd41 : (Jvm.Cond.code ({ cls := "DeclareForms$Codes", name := "goodCount", desc := "(I)I" } : Jvm.MethodName) prog_2_method_4_code (4 : Nat) (Option.some Jvm.ClassFile.FieldType.int)) ∈ zz_big := zz_in 348 rfl rfl
set_option maxRecDepth 100000 in
theorem zk_3d151568 : (Jvm.Cond.methodLink "DeclareForms" (182 : Nat) ({ cls := "DeclareForms$Codes", name := "goodCount", desc := "(I)I" } : Jvm.MethodName)) ∈ zz_big := zz_in 345 rfl rfl
set_option maxRecDepth 100000 in
theorem zk_a00f8f37 : (Jvm.Cond.instanceMethod ({ cls := "DeclareForms$Codes", name := "goodCount", desc := "(I)I" } : Jvm.MethodName)) ∈ zz_big := zz_in 346 rfl rfl
set_option maxRecDepth 100000 in
theorem zk_f023d959 : (Jvm.Cond.selects "DeclareForms$Codes" ({ cls := "DeclareForms$Codes", name := "goodCount", desc := "(I)I" } : Jvm.MethodName) ({ cls := "DeclareForms$Codes", name := "goodCount", desc := "(I)I" } : Jvm.MethodName)) ∈ zz_big := zz_in 347 rfl rfl
set_option maxRecDepth 100000 in
theorem zk_f2dbcaa8 : (Jvm.Cond.code ({ cls := "DeclareForms$Papers", name := "size", desc := "()I" } : Jvm.MethodName) prog_3_method_2_code (1 : Nat) (Option.some Jvm.ClassFile.FieldType.int)) ∈ zz_big := zz_in 352 rfl rfl
set_option maxRecDepth 100000 in
theorem zk_37c0246d : (Jvm.Cond.methodLink "DeclareForms" (185 : Nat) ({ cls := "DeclareForms$Papers", name := "size", desc := "()I" } : Jvm.MethodName)) ∈ zz_big := zz_in 349 rfl rfl
set_option maxRecDepth 100000 in
theorem zk_a344ebc1 : (Jvm.Cond.instanceMethod ({ cls := "DeclareForms$Papers", name := "size", desc := "()I" } : Jvm.MethodName)) ∈ zz_big := zz_in 350 rfl rfl
set_option maxRecDepth 100000 in
theorem zk_f7bcf776 : (Jvm.Cond.selects "DeclareForms$Papers" ({ cls := "DeclareForms$Papers", name := "size", desc := "()I" } : Jvm.MethodName) ({ cls := "DeclareForms$Papers", name := "size", desc := "()I" } : Jvm.MethodName)) ∈ zz_big := zz_in 351 rfl rfl
set_option maxRecDepth 100000 in
theorem zk_2362f403 : (Jvm.Cond.code ({ cls := "DeclareForms$Reader", name := "wholeRows", desc := "()I" } : Jvm.MethodName) prog_4_method_2_code (1 : Nat) (Option.some Jvm.ClassFile.FieldType.int)) ∈ zz_big := zz_in 356 rfl rfl
set_option maxRecDepth 100000 in
theorem zk_12ec970f : (Jvm.Cond.methodLink "DeclareForms" (188 : Nat) ({ cls := "DeclareForms$Reader", name := "wholeRows", desc := "()I" } : Jvm.MethodName)) ∈ zz_big := zz_in 353 rfl rfl
set_option maxRecDepth 100000 in
theorem zk_7dd5f14a : (Jvm.Cond.instanceMethod ({ cls := "DeclareForms$Reader", name := "wholeRows", desc := "()I" } : Jvm.MethodName)) ∈ zz_big := zz_in 354 rfl rfl
set_option maxRecDepth 100000 in
theorem zk_32e2b4e8 : (Jvm.Cond.selects "DeclareForms$Reader" ({ cls := "DeclareForms$Reader", name := "wholeRows", desc := "()I" } : Jvm.MethodName) ({ cls := "DeclareForms$Reader", name := "wholeRows", desc := "()I" } : Jvm.MethodName)) ∈ zz_big := zz_in 355 rfl rfl
set_option maxRecDepth 100000 in
theorem zk_ba062628 : (Jvm.Cond.code ({ cls := "DeclareForms$Reader", name := "latestFields", desc := "()I" } : Jvm.MethodName) prog_4_method_3_code (1 : Nat) (Option.some Jvm.ClassFile.FieldType.int)) ∈ zz_big := zz_in 360 rfl rfl
set_option maxRecDepth 100000 in
theorem zk_f58d715e : (Jvm.Cond.methodLink "DeclareForms" (191 : Nat) ({ cls := "DeclareForms$Reader", name := "latestFields", desc := "()I" } : Jvm.MethodName)) ∈ zz_big := zz_in 357 rfl rfl
set_option maxRecDepth 100000 in
theorem zk_1f59c27a : (Jvm.Cond.instanceMethod ({ cls := "DeclareForms$Reader", name := "latestFields", desc := "()I" } : Jvm.MethodName)) ∈ zz_big := zz_in 358 rfl rfl
set_option maxRecDepth 100000 in
theorem zk_5ba6d848 : (Jvm.Cond.selects "DeclareForms$Reader" ({ cls := "DeclareForms$Reader", name := "latestFields", desc := "()I" } : Jvm.MethodName) ({ cls := "DeclareForms$Reader", name := "latestFields", desc := "()I" } : Jvm.MethodName)) ∈ zz_big := zz_in 359 rfl rfl
set_option maxRecDepth 100000 in
theorem zk_4890c725 : (Jvm.Cond.code ({ cls := "DeclareForms$Papers", name := "balanceOf", desc := "(I)I" } : Jvm.MethodName) prog_3_method_5_code (3 : Nat) (Option.some Jvm.ClassFile.FieldType.int)) ∈ zz_big := zz_in 364 rfl rfl
set_option maxRecDepth 100000 in
theorem zk_4b0ca567 : (Jvm.Cond.methodLink "DeclareForms" (194 : Nat) ({ cls := "DeclareForms$Papers", name := "balanceOf", desc := "(I)I" } : Jvm.MethodName)) ∈ zz_big := zz_in 361 rfl rfl
set_option maxRecDepth 100000 in
theorem zk_5620dc61 : (Jvm.Cond.instanceMethod ({ cls := "DeclareForms$Papers", name := "balanceOf", desc := "(I)I" } : Jvm.MethodName)) ∈ zz_big := zz_in 362 rfl rfl
set_option maxRecDepth 100000 in
theorem zk_119f247c : (Jvm.Cond.selects "DeclareForms$Papers" ({ cls := "DeclareForms$Papers", name := "balanceOf", desc := "(I)I" } : Jvm.MethodName) ({ cls := "DeclareForms$Papers", name := "balanceOf", desc := "(I)I" } : Jvm.MethodName)) ∈ zz_big := zz_in 363 rfl rfl
set_option maxRecDepth 100000 in
theorem zk_97987d2d : (Jvm.Cond.methodLink "DeclareForms" (57 : Nat) ({ cls := "DeclareForms$Sheet", name := "isFull", desc := "()Z" } : Jvm.MethodName)) ∈ zz_big := zz_in 376 rfl rfl
set_option maxRecDepth 100000 in
theorem zk_a71217dc : (Jvm.Cond.code ({ cls := "DeclareForms$Sheet", name := "openLine", desc := "()I" } : Jvm.MethodName) prog_5_method_6_code (1 : Nat) (Option.some Jvm.ClassFile.FieldType.int)) ∈ zz_big := zz_in 451 rfl rfl
set_option maxRecDepth 100000 in
theorem zk_ab432be1 : (Jvm.Cond.methodLink "DeclareForms" (68 : Nat) ({ cls := "DeclareForms$Sheet", name := "openLine", desc := "()I" } : Jvm.MethodName)) ∈ zz_big := zz_in 448 rfl rfl
set_option maxRecDepth 100000 in
theorem zk_01534751 : (Jvm.Cond.instanceMethod ({ cls := "DeclareForms$Sheet", name := "openLine", desc := "()I" } : Jvm.MethodName)) ∈ zz_big := zz_in 449 rfl rfl
set_option maxRecDepth 100000 in
theorem zk_f8f3f2f9 : (Jvm.Cond.selects "DeclareForms$Sheet" ({ cls := "DeclareForms$Sheet", name := "openLine", desc := "()I" } : Jvm.MethodName) ({ cls := "DeclareForms$Sheet", name := "openLine", desc := "()I" } : Jvm.MethodName)) ∈ zz_big := zz_in 450 rfl rfl
set_option maxRecDepth 100000 in
theorem zk_f0307824 : (Jvm.Cond.classLink "DeclareForms" (61 : Nat) "java/lang/IllegalStateException") ∈ zz_big := zz_in 380 rfl rfl
set_option maxRecDepth 100000 in
theorem zk_0493ccc5 : (Jvm.Cond.instantiable "java/lang/IllegalStateException" (6 : Nat)) ∈ zz_big := zz_in 381 rfl rfl
set_option maxRecDepth 100000 in
theorem zk_03932cc4 : (Jvm.Cond.initialized "java/lang/IllegalStateException") ∈ zz_big := zz_in 37 rfl rfl
set_option maxRecDepth 100000 in
theorem zk_36bd0bf1 : (Jvm.Cond.methodLink "DeclareForms" (96 : Nat) ({ cls := "DeclareForms", name := "needBy", desc := "(II)I" } : Jvm.MethodName)) ∈ zz_big := zz_in 477 rfl rfl
set_option maxRecDepth 100000 in
theorem zk_c1982f07 : (Jvm.Cond.classLink "DeclareForms" (91 : Nat) "java/lang/IllegalArgumentException") ∈ zz_big := zz_in 461 rfl rfl
set_option maxRecDepth 100000 in
theorem zk_04fc2812 : (Jvm.Cond.instantiable "java/lang/IllegalArgumentException" (6 : Nat)) ∈ zz_big := zz_in 462 rfl rfl
set_option maxRecDepth 100000 in
theorem zk_9ce9d120 : (Jvm.Cond.initialized "java/lang/IllegalArgumentException") ∈ zz_big := zz_in 38 rfl rfl
set_option maxRecDepth 100000 in
theorem zk_b6b2fcd7 : (Jvm.Cond.methodLink "DeclareForms" (143 : Nat) ({ cls := "DeclareForms$Papers", name := "find", desc := "(I)I" } : Jvm.MethodName)) ∈ zz_big := zz_in 509 rfl rfl
set_option maxRecDepth 100000 in
theorem zk_2194c2f1 : (Jvm.Cond.code ({ cls := "DeclareForms$Papers", name := "take", desc := "(III)I" } : Jvm.MethodName) prog_3_method_6_code (4 : Nat) (Option.some Jvm.ClassFile.FieldType.int)) ∈ zz_big := zz_in 514 rfl rfl
set_option maxRecDepth 100000 in
theorem zk_4e8e7760 : (Jvm.Cond.methodLink "DeclareForms" (148 : Nat) ({ cls := "DeclareForms$Papers", name := "take", desc := "(III)I" } : Jvm.MethodName)) ∈ zz_big := zz_in 511 rfl rfl
set_option maxRecDepth 100000 in
theorem zk_5d820aaa : (Jvm.Cond.instanceMethod ({ cls := "DeclareForms$Papers", name := "take", desc := "(III)I" } : Jvm.MethodName)) ∈ zz_big := zz_in 512 rfl rfl
set_option maxRecDepth 100000 in
theorem zk_86b951e4 : (Jvm.Cond.selects "DeclareForms$Papers" ({ cls := "DeclareForms$Papers", name := "take", desc := "(III)I" } : Jvm.MethodName) ({ cls := "DeclareForms$Papers", name := "take", desc := "(III)I" } : Jvm.MethodName)) ∈ zz_big := zz_in 513 rfl rfl
set_option maxRecDepth 100000 in
theorem zk_6662f93d : (Jvm.Cond.methodLink "DeclareForms" (154 : Nat) ({ cls := "DeclareForms$Sheet", name := "total", desc := "(I)J" } : Jvm.MethodName)) ∈ zz_big := zz_in 523 rfl rfl
set_option maxRecDepth 100000 in
theorem zk_27dc7096 : (Jvm.Cond.code ({ cls := "DeclareForms", name := "pack", desc := "()I" } : Jvm.MethodName) prog_1_method_16_code (1 : Nat) (Option.some Jvm.ClassFile.FieldType.int)) ∈ zz_big := zz_in 297 rfl rfl
set_option maxRecDepth 100000 in
theorem zk_d9996226 : (Jvm.Cond.methodLink "DeclareForms" (161 : Nat) ({ cls := "DeclareForms", name := "pack", desc := "()I" } : Jvm.MethodName)) ∈ zz_big := zz_in 532 rfl rfl
set_option maxRecDepth 100000 in
theorem zk_15c98730 : (Jvm.Cond.instanceMethod ({ cls := "DeclareForms", name := "pack", desc := "()I" } : Jvm.MethodName)) ∈ zz_big := zz_in 295 rfl rfl
set_option maxRecDepth 100000 in
theorem zk_fcfdfd39 : (Jvm.Cond.selects "DeclareForms" ({ cls := "DeclareForms", name := "pack", desc := "()I" } : Jvm.MethodName) ({ cls := "DeclareForms", name := "pack", desc := "()I" } : Jvm.MethodName)) ∈ zz_big := zz_in 296 rfl rfl
set_option maxRecDepth 100000 in
theorem zk_df600e1d : (Jvm.Cond.code ({ cls := "DeclareForms$Sheet", name := "setSlot", desc := "(I)I" } : Jvm.MethodName) prog_5_method_14_code (4 : Nat) (Option.some Jvm.ClassFile.FieldType.int)) ∈ zz_big := zz_in 555 rfl rfl
set_option maxRecDepth 100000 in
theorem zk_a0e93d66 : (Jvm.Cond.methodLink "DeclareForms" (173 : Nat) ({ cls := "DeclareForms$Sheet", name := "setSlot", desc := "(I)I" } : Jvm.MethodName)) ∈ zz_big := zz_in 552 rfl rfl
set_option maxRecDepth 100000 in
theorem zk_27d8dca4 : (Jvm.Cond.instanceMethod ({ cls := "DeclareForms$Sheet", name := "setSlot", desc := "(I)I" } : Jvm.MethodName)) ∈ zz_big := zz_in 553 rfl rfl
set_option maxRecDepth 100000 in
theorem zk_b2a7dedc : (Jvm.Cond.selects "DeclareForms$Sheet" ({ cls := "DeclareForms$Sheet", name := "setSlot", desc := "(I)I" } : Jvm.MethodName) ({ cls := "DeclareForms$Sheet", name := "setSlot", desc := "(I)I" } : Jvm.MethodName)) ∈ zz_big := zz_in 554 rfl rfl
set_option maxRecDepth 100000 in
theorem zk_86bf3162 : (Jvm.Cond.code ({ cls := "DeclareForms", name := "packedByte", desc := "(II)B" } : Jvm.MethodName) prog_1_method_26_code (3 : Nat) (Option.some Jvm.ClassFile.FieldType.byte)) ∈ zz_big := zz_in 559 rfl rfl
set_option maxRecDepth 100000 in
theorem zk_0c73a672 : (Jvm.Cond.methodLink "DeclareForms" (176 : Nat) ({ cls := "DeclareForms", name := "packedByte", desc := "(II)B" } : Jvm.MethodName)) ∈ zz_big := zz_in 556 rfl rfl
set_option maxRecDepth 100000 in
theorem zk_9572301c : (Jvm.Cond.instanceMethod ({ cls := "DeclareForms", name := "packedByte", desc := "(II)B" } : Jvm.MethodName)) ∈ zz_big := zz_in 558 rfl rfl
set_option maxRecDepth 100000 in
theorem zk_d6819786 : Cond.selects "DeclareForms" ⟨"DeclareForms", "packedByte", "(II)B"⟩ ⟨"DeclareForms", "packedByte", "(II)B"⟩ ∈ zz_big := zz_in 10 rfl rfl
set_option maxRecDepth 100000 in
theorem zk_5e3a1e0d : (Jvm.Cond.classLink "DeclareForms" (164 : Nat) "java/lang/IndexOutOfBoundsException") ∈ zz_big := zz_in 533 rfl rfl
set_option maxRecDepth 100000 in
theorem zk_fcc34f65 : (Jvm.Cond.instantiable "java/lang/IndexOutOfBoundsException" (6 : Nat)) ∈ zz_big := zz_in 534 rfl rfl
set_option maxRecDepth 100000 in
theorem zk_8f54f0b8 : (Jvm.Cond.initialized "java/lang/IndexOutOfBoundsException") ∈ zz_big := zz_in 39 rfl rfl
set_option maxRecDepth 100000 in
theorem zk_e10822c6 : (Jvm.Cond.methodLink "DeclareForms$Sheet" (3 : Nat) ({ cls := "java/lang/Object", name := "<init>", desc := "()V" } : Jvm.MethodName)) ∈ zz_big := zz_in 59 rfl rfl
set_option maxRecDepth 100000 in
theorem zk_e5db7b8b : (Jvm.Cond.instanceMethod ({ cls := "java/lang/Object", name := "<init>", desc := "()V" } : Jvm.MethodName)) ∈ zz_big := zz_in 46 rfl rfl
set_option maxRecDepth 100000 in
theorem zk_2e240a33 : (Jvm.Cond.code ({ cls := "java/lang/Object", name := "<init>", desc := "()V" } : Jvm.MethodName) object_method_1_code (1 : Nat) (Option.none : Option Jvm.ClassFile.FieldType)) ∈ zz_big := zz_in 47 rfl rfl
set_option maxRecDepth 100000 in
theorem zk_13eacad5 : (Jvm.Cond.arrayClass Jvm.ClassFile.FieldType.int) ∈ zz_big := zz_in 79 rfl rfl
set_option maxRecDepth 100000 in
theorem zk_3be23d36 : (Jvm.Cond.arrayClass Jvm.ClassFile.FieldType.boolean) ∈ zz_big := zz_in 80 rfl rfl
set_option maxRecDepth 100000 in
theorem zk_329d1fb4 : (Jvm.Cond.methodLink "DeclareForms$Sheet" (19 : Nat) ({ cls := "java/util/Arrays", name := "fill", desc := "([II)V" } : Jvm.MethodName)) ∈ zz_big := zz_in 60 rfl rfl
set_option maxRecDepth 100000 in
theorem zk_13e9cc8e : (Jvm.Cond.static ({ cls := "java/util/Arrays", name := "fill", desc := "([II)V" } : Jvm.MethodName)) ∈ zz_big := zz_in 61 rfl rfl
set_option maxRecDepth 100000 in
theorem zk_da22ca91 : (Jvm.Cond.initialized "java/util/Arrays") ∈ zz_big := zz_in 29 rfl rfl
set_option maxRecDepth 100000 in
theorem zk_c25042f3 : (Jvm.Cond.code ({ cls := "java/util/Arrays", name := "fill", desc := "([II)V" } : Jvm.MethodName) prog_16_method_103_code (4 : Nat) (Option.none : Option Jvm.ClassFile.FieldType)) ∈ zz_big := zz_in 62 rfl rfl
set_option maxRecDepth 100000 in
theorem zk_2e119070 : (Jvm.Cond.methodLink "DeclareForms$Codes" (3 : Nat) ({ cls := "java/lang/Object", name := "<init>", desc := "()V" } : Jvm.MethodName)) ∈ zz_big := zz_in 86 rfl rfl
set_option maxRecDepth 100000 in
theorem zk_e962722d : (Jvm.Cond.methodLink "DeclareForms$Papers" (3 : Nat) ({ cls := "java/lang/Object", name := "<init>", desc := "()V" } : Jvm.MethodName)) ∈ zz_big := zz_in 102 rfl rfl
set_option maxRecDepth 100000 in
theorem zk_4991e548 : (Jvm.Cond.methodLink "DeclareForms$Reader" (3 : Nat) ({ cls := "java/lang/Object", name := "<init>", desc := "()V" } : Jvm.MethodName)) ∈ zz_big := zz_in 121 rfl rfl
set_option maxRecDepth 100000 in
theorem zk_df947653 : (Jvm.Cond.methodLink "DeclareForms" (1 : Nat) ({ cls := "java/lang/Object", name := "<init>", desc := "()V" } : Jvm.MethodName)) ∈ zz_big := zz_in 45 rfl rfl
set_option maxRecDepth 100000 in
theorem zk_a0397f07 : (Jvm.Cond.methodLink "DeclareForms" (9 : Nat) ({ cls := "java/lang/Math", name := "min", desc := "(II)I" } : Jvm.MethodName)) ∈ zz_big := zz_in 48 rfl rfl
set_option maxRecDepth 100000 in
theorem zk_3e7adeb2 : (Jvm.Cond.static ({ cls := "java/lang/Math", name := "min", desc := "(II)I" } : Jvm.MethodName)) ∈ zz_big := zz_in 49 rfl rfl
set_option maxRecDepth 100000 in
theorem zk_281c46dd : (Jvm.Cond.code ({ cls := "java/lang/Math", name := "min", desc := "(II)I" } : Jvm.MethodName) prog_12_method_69_code (2 : Nat) (Option.some Jvm.ClassFile.FieldType.int)) ∈ zz_big := zz_in 50 rfl rfl
set_option maxRecDepth 100000 in
theorem zk_cd699fb6 : (Jvm.Cond.methodLink "DeclareForms" (15 : Nat) ({ cls := "java/lang/Math", name := "max", desc := "(II)I" } : Jvm.MethodName)) ∈ zz_big := zz_in 51 rfl rfl
set_option maxRecDepth 100000 in
theorem zk_af3351a0 : (Jvm.Cond.classLink "DeclareForms" (22 : Nat) "DeclareForms$Sheet") ∈ zz_big := zz_in 54 rfl rfl
set_option maxRecDepth 100000 in
theorem zk_930ee45b : (Jvm.Cond.instantiable "DeclareForms$Sheet" (5 : Nat)) ∈ zz_big := zz_in 55 rfl rfl
set_option maxRecDepth 100000 in
theorem zk_3092ee89 : (Jvm.Cond.code ({ cls := "DeclareForms$Sheet", name := "<init>", desc := "()V" } : Jvm.MethodName) prog_5_method_1_code (1 : Nat) (Option.none : Option Jvm.ClassFile.FieldType)) ∈ zz_big := zz_in 58 rfl rfl
set_option maxRecDepth 100000 in
theorem zk_29ad7562 : (Jvm.Cond.methodLink "DeclareForms" (24 : Nat) ({ cls := "DeclareForms$Sheet", name := "<init>", desc := "()V" } : Jvm.MethodName)) ∈ zz_big := zz_in 56 rfl rfl
set_option maxRecDepth 100000 in
theorem zk_c88da668 : (Jvm.Cond.instanceMethod ({ cls := "DeclareForms$Sheet", name := "<init>", desc := "()V" } : Jvm.MethodName)) ∈ zz_big := zz_in 57 rfl rfl
set_option maxRecDepth 100000 in
theorem zk_c2b61d8d : (Jvm.Cond.classLink "DeclareForms" (29 : Nat) "DeclareForms$Codes") ∈ zz_big := zz_in 81 rfl rfl
set_option maxRecDepth 100000 in
theorem zk_56915c68 : (Jvm.Cond.instantiable "DeclareForms$Codes" (3 : Nat)) ∈ zz_big := zz_in 82 rfl rfl
set_option maxRecDepth 100000 in
theorem zk_e11a494f : (Jvm.Cond.code ({ cls := "DeclareForms$Codes", name := "<init>", desc := "()V" } : Jvm.MethodName) prog_2_method_1_code (1 : Nat) (Option.none : Option Jvm.ClassFile.FieldType)) ∈ zz_big := zz_in 85 rfl rfl
set_option maxRecDepth 100000 in
theorem zk_091531bf : (Jvm.Cond.instanceMethod ({ cls := "DeclareForms$Codes", name := "<init>", desc := "()V" } : Jvm.MethodName)) ∈ zz_big := zz_in 84 rfl rfl
set_option maxRecDepth 100000 in
theorem zk_159f5ac1 : (Jvm.Cond.classLink "DeclareForms" (36 : Nat) "DeclareForms$Papers") ∈ zz_big := zz_in 97 rfl rfl
set_option maxRecDepth 100000 in
theorem zk_6090c1cf : (Jvm.Cond.instantiable "DeclareForms$Papers" (4 : Nat)) ∈ zz_big := zz_in 98 rfl rfl
set_option maxRecDepth 100000 in
theorem zk_ade49cb5 : (Jvm.Cond.code ({ cls := "DeclareForms$Papers", name := "<init>", desc := "()V" } : Jvm.MethodName) prog_3_method_1_code (1 : Nat) (Option.none : Option Jvm.ClassFile.FieldType)) ∈ zz_big := zz_in 101 rfl rfl
set_option maxRecDepth 100000 in
theorem zk_396234eb : (Jvm.Cond.instanceMethod ({ cls := "DeclareForms$Papers", name := "<init>", desc := "()V" } : Jvm.MethodName)) ∈ zz_big := zz_in 100 rfl rfl
set_option maxRecDepth 100000 in
theorem zk_a0bc87e0 : (Jvm.Cond.classLink "DeclareForms" (43 : Nat) "DeclareForms$Reader") ∈ zz_big := zz_in 116 rfl rfl
set_option maxRecDepth 100000 in
theorem zk_596c5848 : (Jvm.Cond.instantiable "DeclareForms$Reader" (9 : Nat)) ∈ zz_big := zz_in 117 rfl rfl
set_option maxRecDepth 100000 in
theorem zk_ece91417 : (Jvm.Cond.code ({ cls := "DeclareForms$Reader", name := "<init>", desc := "()V" } : Jvm.MethodName) prog_4_method_1_code (1 : Nat) (Option.none : Option Jvm.ClassFile.FieldType)) ∈ zz_big := zz_in 120 rfl rfl
set_option maxRecDepth 100000 in
theorem zk_6041b6ef : (Jvm.Cond.instanceMethod ({ cls := "DeclareForms$Reader", name := "<init>", desc := "()V" } : Jvm.MethodName)) ∈ zz_big := zz_in 119 rfl rfl
set_option maxRecDepth 100000 in
theorem zk_fa4d36ba : (Jvm.Cond.initialized "java/lang/Throwable") ∈ zz_big := zz_in 34 rfl rfl
set_option maxRecDepth 100000 in
theorem zk_67869b7e : (Jvm.Cond.superclass "java/lang/Throwable" "java/lang/Object") ∈ zz_big := zz_in 402 rfl rfl
set_option maxRecDepth 100000 in
theorem zk_5f08ecec : (Jvm.Cond.instanceMethod ({ cls := "java/lang/Throwable", name := "fillInStackTrace", desc := "()Ljava/lang/Throwable;" } : Jvm.MethodName)) ∈ zz_big := zz_in 411 rfl rfl
set_option maxRecDepth 100000 in
theorem zk_98a875a3 : (Jvm.Cond.codeSync ({ cls := "java/lang/Throwable", name := "fillInStackTrace", desc := "()Ljava/lang/Throwable;" } : Jvm.MethodName) prog_15_method_18_code (1 : Nat) (Option.some (Jvm.ClassFile.FieldType.object "java/lang/Throwable"))) ∈ zz_big := zz_in 415 rfl rfl
set_option maxRecDepth 100000 in
theorem zk_55bd7dd7 : (Jvm.Cond.instanceMethod ({ cls := "java/lang/Throwable", name := "fillInStackTrace", desc := "(I)Ljava/lang/Throwable;" } : Jvm.MethodName)) ∈ zz_big := zz_in 418 rfl rfl
set_option maxRecDepth 100000 in
theorem zk_fec20eaa : (Jvm.Cond.native ({ cls := "java/lang/Throwable", name := "fillInStackTrace", desc := "(I)Ljava/lang/Throwable;" } : Jvm.MethodName)) ∈ zz_big := zz_in 420 rfl rfl
set_option maxRecDepth 100000 in
theorem zk_db32a18a : (Jvm.Cond.instanceMethod ({ cls := "java/lang/Throwable", name := "<init>", desc := "()V" } : Jvm.MethodName)) ∈ zz_big := zz_in 403 rfl rfl
set_option maxRecDepth 100000 in
theorem zk_cec878a6 : (Jvm.Cond.code ({ cls := "java/lang/Throwable", name := "<init>", desc := "()V" } : Jvm.MethodName) prog_15_method_1_code (1 : Nat) (Option.none : Option Jvm.ClassFile.FieldType)) ∈ zz_big := zz_in 404 rfl rfl
set_option maxRecDepth 100000 in
theorem zk_1ac054b0 : (Jvm.Cond.methodLink "java/lang/Throwable" (1 : Nat) ({ cls := "java/lang/Object", name := "<init>", desc := "()V" } : Jvm.MethodName)) ∈ zz_big := zz_in 405 rfl rfl
set_option maxRecDepth 100000 in
theorem zk_7122e558 : (Jvm.Cond.methodLink "java/lang/Throwable" (27 : Nat) ({ cls := "java/lang/Throwable", name := "fillInStackTrace", desc := "()Ljava/lang/Throwable;" } : Jvm.MethodName)) ∈ zz_big := zz_in 410 rfl rfl
set_option maxRecDepth 100000 in
theorem zk_20e9bda3 : (Jvm.Cond.methodLink "java/lang/Throwable" (202 : Nat) ({ cls := "java/lang/Throwable", name := "fillInStackTrace", desc := "(I)Ljava/lang/Throwable;" } : Jvm.MethodName)) ∈ zz_big := zz_in 416 rfl rfl
set_option maxRecDepth 100000 in
theorem zk_4e284375 : (Jvm.Cond.fieldLink "java/lang/Throwable" (7 : Nat) "java/lang/Throwable" "cause" "Ljava/lang/Throwable;") ∈ zz_big := zz_in 436 rfl rfl
set_option maxRecDepth 100000 in
theorem zk_59f03ea9 : (Jvm.Cond.lays "java/lang/Throwable" "java/lang/Throwable" "cause" "Ljava/lang/Throwable;") ∈ zz_big := zz_in 392 rfl rfl
set_option maxRecDepth 100000 in
theorem zk_489246be : (Jvm.Cond.fieldLink "java/lang/Throwable" (17 : Nat) "java/lang/Throwable" "stackTrace" "[Ljava/lang/StackTraceElement;") ∈ zz_big := zz_in 437 rfl rfl
set_option maxRecDepth 100000 in
theorem zk_b414dc93 : (Jvm.Cond.lays "java/lang/Throwable" "java/lang/Throwable" "stackTrace" "[Ljava/lang/StackTraceElement;") ∈ zz_big := zz_in 394 rfl rfl
set_option maxRecDepth 100000 in
theorem zk_be5591f1 : (Jvm.Cond.fieldLink "java/lang/Throwable" (24 : Nat) "java/lang/Throwable" "suppressedExceptions" "Ljava/util/List;") ∈ zz_big := zz_in 438 rfl rfl
set_option maxRecDepth 100000 in
theorem zk_36886d9b : (Jvm.Cond.lays "java/lang/Throwable" "java/lang/Throwable" "suppressedExceptions" "Ljava/util/List;") ∈ zz_big := zz_in 396 rfl rfl
set_option maxRecDepth 100000 in
theorem zk_01226b2e : (Jvm.Cond.fieldLink "java/lang/Throwable" (13 : Nat) "java/lang/Throwable" "UNASSIGNED_STACK" "[Ljava/lang/StackTraceElement;") ∈ zz_big := zz_in 406 rfl rfl
set_option maxRecDepth 100000 in
theorem zk_0dd78bc2 : (Jvm.Cond.fieldLink "java/lang/Throwable" (20 : Nat) "java/lang/Throwable" "SUPPRESSED_SENTINEL" "Ljava/util/List;") ∈ zz_big := zz_in 408 rfl rfl
set_option maxRecDepth 100000 in
theorem zk_fdd6928d : (Jvm.Cond.lays "java/lang/Throwable" "java/lang/Throwable" "detailMessage" "Ljava/lang/String;") ∈ zz_big := zz_in 398 rfl rfl
set_option maxRecDepth 100000 in
theorem zk_6af9b992 : (Jvm.Cond.instanceMethod ({ cls := "java/lang/Throwable", name := "<init>", desc := "(Ljava/lang/String;)V" } : Jvm.MethodName)) ∈ zz_big := zz_in 432 rfl rfl
set_option maxRecDepth 100000 in
theorem zk_409dbf62 : (Jvm.Cond.code ({ cls := "java/lang/Throwable", name := "<init>", desc := "(Ljava/lang/String;)V" } : Jvm.MethodName) prog_15_method_2_code (2 : Nat) (Option.none : Option Jvm.ClassFile.FieldType)) ∈ zz_big := zz_in 433 rfl rfl
set_option maxRecDepth 100000 in
theorem zk_5cc98183 : (Jvm.Cond.fieldLink "java/lang/Throwable" (31 : Nat) "java/lang/Throwable" "detailMessage" "Ljava/lang/String;") ∈ zz_big := zz_in 435 rfl rfl
set_option maxRecDepth 100000 in
theorem zk_7a0dbe2d : (Jvm.Cond.instanceMethod ({ cls := "java/lang/IllegalStateException", name := "<init>", desc := "(Ljava/lang/String;)V" } : Jvm.MethodName)) ∈ zz_big := zz_in 423 rfl rfl
set_option maxRecDepth 100000 in
theorem zk_6c43f3ab : (Jvm.Cond.code ({ cls := "java/lang/IllegalStateException", name := "<init>", desc := "(Ljava/lang/String;)V" } : Jvm.MethodName) prog_10_method_2_code (2 : Nat) (Option.none : Option Jvm.ClassFile.FieldType)) ∈ zz_big := zz_in 424 rfl rfl
set_option maxRecDepth 100000 in
theorem zk_3176fd44 : (Jvm.Cond.methodLink "java/lang/IllegalStateException" (7 : Nat) ({ cls := "java/lang/RuntimeException", name := "<init>", desc := "(Ljava/lang/String;)V" } : Jvm.MethodName)) ∈ zz_big := zz_in 425 rfl rfl
set_option maxRecDepth 100000 in
theorem zk_7779c007 : (Jvm.Cond.instanceMethod ({ cls := "java/lang/RuntimeException", name := "<init>", desc := "(Ljava/lang/String;)V" } : Jvm.MethodName)) ∈ zz_big := zz_in 426 rfl rfl
set_option maxRecDepth 100000 in
theorem zk_f7de83b8 : (Jvm.Cond.code ({ cls := "java/lang/RuntimeException", name := "<init>", desc := "(Ljava/lang/String;)V" } : Jvm.MethodName) prog_13_method_2_code (2 : Nat) (Option.none : Option Jvm.ClassFile.FieldType)) ∈ zz_big := zz_in 427 rfl rfl
set_option maxRecDepth 100000 in
theorem zk_f74e98ca : (Jvm.Cond.methodLink "java/lang/RuntimeException" (7 : Nat) ({ cls := "java/lang/Exception", name := "<init>", desc := "(Ljava/lang/String;)V" } : Jvm.MethodName)) ∈ zz_big := zz_in 428 rfl rfl
set_option maxRecDepth 100000 in
theorem zk_cf70a5fd : (Jvm.Cond.instanceMethod ({ cls := "java/lang/Exception", name := "<init>", desc := "(Ljava/lang/String;)V" } : Jvm.MethodName)) ∈ zz_big := zz_in 429 rfl rfl
set_option maxRecDepth 100000 in
theorem zk_77cfe5a2 : (Jvm.Cond.code ({ cls := "java/lang/Exception", name := "<init>", desc := "(Ljava/lang/String;)V" } : Jvm.MethodName) prog_8_method_2_code (2 : Nat) (Option.none : Option Jvm.ClassFile.FieldType)) ∈ zz_big := zz_in 430 rfl rfl
set_option maxRecDepth 100000 in
theorem zk_761f0bc2 : (Jvm.Cond.methodLink "java/lang/Exception" (7 : Nat) ({ cls := "java/lang/Throwable", name := "<init>", desc := "(Ljava/lang/String;)V" } : Jvm.MethodName)) ∈ zz_big := zz_in 431 rfl rfl
set_option maxRecDepth 100000 in
theorem zk_fafbd06d : (Jvm.Cond.methodLink "DeclareForms" (65 : Nat) ({ cls := "java/lang/IllegalStateException", name := "<init>", desc := "(Ljava/lang/String;)V" } : Jvm.MethodName)) ∈ zz_big := zz_in 422 rfl rfl
set_option maxRecDepth 100000 in
theorem zk_bf666684 : (Jvm.Cond.selects "java/lang/IllegalStateException" ({ cls := "java/lang/Throwable", name := "fillInStackTrace", desc := "(I)Ljava/lang/Throwable;" } : Jvm.MethodName) ({ cls := "java/lang/Throwable", name := "fillInStackTrace", desc := "(I)Ljava/lang/Throwable;" } : Jvm.MethodName)) ∈ zz_big := zz_in 389 rfl rfl
set_option maxRecDepth 100000 in
theorem zk_ed1b9d47 : (Jvm.Cond.selects "java/lang/IllegalStateException" ({ cls := "java/lang/Throwable", name := "fillInStackTrace", desc := "()Ljava/lang/Throwable;" } : Jvm.MethodName) ({ cls := "java/lang/Throwable", name := "fillInStackTrace", desc := "()Ljava/lang/Throwable;" } : Jvm.MethodName)) ∈ zz_big := zz_in 390 rfl rfl
set_option maxRecDepth 100000 in
theorem zk_91251f19 : (Jvm.Cond.lays "java/lang/IllegalStateException" "java/lang/Throwable" "cause" "Ljava/lang/Throwable;") ∈ zz_big := zz_in 391 rfl rfl
set_option maxRecDepth 100000 in
theorem zk_1171eac0 : (Jvm.Cond.lays "java/lang/IllegalStateException" "java/lang/Throwable" "stackTrace" "[Ljava/lang/StackTraceElement;") ∈ zz_big := zz_in 393 rfl rfl
set_option maxRecDepth 100000 in
theorem zk_a8bd36be : (Jvm.Cond.lays "java/lang/IllegalStateException" "java/lang/Throwable" "suppressedExceptions" "Ljava/util/List;") ∈ zz_big := zz_in 395 rfl rfl
set_option maxRecDepth 100000 in
theorem zk_8f7a7a90 : (Jvm.Cond.lays "java/lang/IllegalStateException" "java/lang/Throwable" "detailMessage" "Ljava/lang/String;") ∈ zz_big := zz_in 397 rfl rfl
set_option maxRecDepth 100000 in
theorem zk_78eb55a6 : (Jvm.Cond.fieldLink "java/lang/Throwable" (198 : Nat) "java/lang/Throwable" "backtrace" "Ljava/lang/Object;") ∈ zz_big := zz_in 401 rfl rfl
set_option maxRecDepth 100000 in
theorem zk_fd8db062 : (Jvm.Cond.lays "java/lang/Throwable" "java/lang/Throwable" "backtrace" "Ljava/lang/Object;") ∈ zz_big := zz_in 400 rfl rfl
set_option maxRecDepth 100000 in
theorem zk_64fd3870 : (Jvm.Cond.lays "java/lang/IllegalStateException" "java/lang/Throwable" "backtrace" "Ljava/lang/Object;") ∈ zz_big := zz_in 399 rfl rfl
set_option maxRecDepth 100000 in
theorem zk_3c33913c : (Jvm.Cond.instanceMethod ({ cls := "java/lang/IllegalArgumentException", name := "<init>", desc := "(Ljava/lang/String;)V" } : Jvm.MethodName)) ∈ zz_big := zz_in 472 rfl rfl
set_option maxRecDepth 100000 in
theorem zk_cf3ecd54 : (Jvm.Cond.code ({ cls := "java/lang/IllegalArgumentException", name := "<init>", desc := "(Ljava/lang/String;)V" } : Jvm.MethodName) prog_9_method_2_code (2 : Nat) (Option.none : Option Jvm.ClassFile.FieldType)) ∈ zz_big := zz_in 473 rfl rfl
set_option maxRecDepth 100000 in
theorem zk_d84c2dea : (Jvm.Cond.methodLink "java/lang/IllegalArgumentException" (7 : Nat) ({ cls := "java/lang/RuntimeException", name := "<init>", desc := "(Ljava/lang/String;)V" } : Jvm.MethodName)) ∈ zz_big := zz_in 474 rfl rfl
set_option maxRecDepth 100000 in
theorem zk_2d5e6c73 : (Jvm.Cond.methodLink "DeclareForms" (95 : Nat) ({ cls := "java/lang/IllegalArgumentException", name := "<init>", desc := "(Ljava/lang/String;)V" } : Jvm.MethodName)) ∈ zz_big := zz_in 471 rfl rfl
set_option maxRecDepth 100000 in
theorem zk_51313916 : (Jvm.Cond.selects "java/lang/IllegalArgumentException" ({ cls := "java/lang/Throwable", name := "fillInStackTrace", desc := "(I)Ljava/lang/Throwable;" } : Jvm.MethodName) ({ cls := "java/lang/Throwable", name := "fillInStackTrace", desc := "(I)Ljava/lang/Throwable;" } : Jvm.MethodName)) ∈ zz_big := zz_in 464 rfl rfl
set_option maxRecDepth 100000 in
theorem zk_979e11e0 : (Jvm.Cond.selects "java/lang/IllegalArgumentException" ({ cls := "java/lang/Throwable", name := "fillInStackTrace", desc := "()Ljava/lang/Throwable;" } : Jvm.MethodName) ({ cls := "java/lang/Throwable", name := "fillInStackTrace", desc := "()Ljava/lang/Throwable;" } : Jvm.MethodName)) ∈ zz_big := zz_in 413 rfl rfl
set_option maxRecDepth 100000 in
theorem zk_60e1f411 : (Jvm.Cond.lays "java/lang/IllegalArgumentException" "java/lang/Throwable" "cause" "Ljava/lang/Throwable;") ∈ zz_big := zz_in 465 rfl rfl
set_option maxRecDepth 100000 in
theorem zk_55945a8f : (Jvm.Cond.lays "java/lang/IllegalArgumentException" "java/lang/Throwable" "stackTrace" "[Ljava/lang/StackTraceElement;") ∈ zz_big := zz_in 466 rfl rfl
set_option maxRecDepth 100000 in
theorem zk_2f4c39a4 : (Jvm.Cond.lays "java/lang/IllegalArgumentException" "java/lang/Throwable" "suppressedExceptions" "Ljava/util/List;") ∈ zz_big := zz_in 467 rfl rfl
set_option maxRecDepth 100000 in
theorem zk_1c388891 : (Jvm.Cond.lays "java/lang/IllegalArgumentException" "java/lang/Throwable" "detailMessage" "Ljava/lang/String;") ∈ zz_big := zz_in 468 rfl rfl
set_option maxRecDepth 100000 in
theorem zk_67a92c4c : (Jvm.Cond.lays "java/lang/IllegalArgumentException" "java/lang/Throwable" "backtrace" "Ljava/lang/Object;") ∈ zz_big := zz_in 469 rfl rfl
set_option maxRecDepth 100000 in
theorem zk_586448f6 : (Jvm.Cond.instanceMethod ({ cls := "java/lang/IndexOutOfBoundsException", name := "<init>", desc := "(Ljava/lang/String;)V" } : Jvm.MethodName)) ∈ zz_big := zz_in 544 rfl rfl
set_option maxRecDepth 100000 in
theorem zk_d26cbdf1 : (Jvm.Cond.code ({ cls := "java/lang/IndexOutOfBoundsException", name := "<init>", desc := "(Ljava/lang/String;)V" } : Jvm.MethodName) prog_11_method_2_code (2 : Nat) (Option.none : Option Jvm.ClassFile.FieldType)) ∈ zz_big := zz_in 545 rfl rfl
set_option maxRecDepth 100000 in
theorem zk_889b29b4 : (Jvm.Cond.methodLink "java/lang/IndexOutOfBoundsException" (7 : Nat) ({ cls := "java/lang/RuntimeException", name := "<init>", desc := "(Ljava/lang/String;)V" } : Jvm.MethodName)) ∈ zz_big := zz_in 546 rfl rfl
set_option maxRecDepth 100000 in
theorem zk_290fe378 : (Jvm.Cond.methodLink "DeclareForms" (168 : Nat) ({ cls := "java/lang/IndexOutOfBoundsException", name := "<init>", desc := "(Ljava/lang/String;)V" } : Jvm.MethodName)) ∈ zz_big := zz_in 543 rfl rfl
set_option maxRecDepth 100000 in
theorem zk_185c5a3b : (Jvm.Cond.selects "java/lang/IndexOutOfBoundsException" ({ cls := "java/lang/Throwable", name := "fillInStackTrace", desc := "(I)Ljava/lang/Throwable;" } : Jvm.MethodName) ({ cls := "java/lang/Throwable", name := "fillInStackTrace", desc := "(I)Ljava/lang/Throwable;" } : Jvm.MethodName)) ∈ zz_big := zz_in 536 rfl rfl
set_option maxRecDepth 100000 in
theorem zk_02fcbcfa : (Jvm.Cond.selects "java/lang/IndexOutOfBoundsException" ({ cls := "java/lang/Throwable", name := "fillInStackTrace", desc := "()Ljava/lang/Throwable;" } : Jvm.MethodName) ({ cls := "java/lang/Throwable", name := "fillInStackTrace", desc := "()Ljava/lang/Throwable;" } : Jvm.MethodName)) ∈ zz_big := zz_in 414 rfl rfl
set_option maxRecDepth 100000 in
theorem zk_06218b88 : (Jvm.Cond.lays "java/lang/IndexOutOfBoundsException" "java/lang/Throwable" "cause" "Ljava/lang/Throwable;") ∈ zz_big := zz_in 537 rfl rfl
set_option maxRecDepth 100000 in
theorem zk_f2b89a5e : (Jvm.Cond.lays "java/lang/IndexOutOfBoundsException" "java/lang/Throwable" "stackTrace" "[Ljava/lang/StackTraceElement;") ∈ zz_big := zz_in 538 rfl rfl
set_option maxRecDepth 100000 in
theorem zk_3cd493df : (Jvm.Cond.lays "java/lang/IndexOutOfBoundsException" "java/lang/Throwable" "suppressedExceptions" "Ljava/util/List;") ∈ zz_big := zz_in 539 rfl rfl
set_option maxRecDepth 100000 in
theorem zk_b94e71c8 : (Jvm.Cond.lays "java/lang/IndexOutOfBoundsException" "java/lang/Throwable" "detailMessage" "Ljava/lang/String;") ∈ zz_big := zz_in 540 rfl rfl
set_option maxRecDepth 100000 in
theorem zk_4101127f : (Jvm.Cond.lays "java/lang/IndexOutOfBoundsException" "java/lang/Throwable" "backtrace" "Ljava/lang/Object;") ∈ zz_big := zz_in 541 rfl rfl
set_option maxRecDepth 100000 in
theorem zk_e13bd24a : (Jvm.Cond.laysFinal "DeclareForms$Sheet" "DeclareForms$Sheet" "values" "[I") ∈ zz_big := zz_in 68 rfl rfl
set_option maxRecDepth 100000 in
theorem zk_742744d2 : (Jvm.Cond.laysFinal "DeclareForms$Sheet" "DeclareForms$Sheet" "open" "[Z") ∈ zz_big := zz_in 70 rfl rfl
set_option maxRecDepth 100000 in
theorem zk_387b9420 : (Jvm.Cond.lays "DeclareForms$Sheet" "DeclareForms$Sheet" "made" "I") ∈ zz_big := zz_in 72 rfl rfl
set_option maxRecDepth 100000 in
theorem zk_21aad43b : (Jvm.Cond.lays "DeclareForms$Sheet" "DeclareForms$Sheet" "opened" "I") ∈ zz_big := zz_in 74 rfl rfl
set_option maxRecDepth 100000 in
theorem zk_eae34320 : (Jvm.Cond.lays "DeclareForms$Sheet" "DeclareForms$Sheet" "filled" "I") ∈ zz_big := zz_in 76 rfl rfl
set_option maxRecDepth 100000 in
theorem zk_0877a309 : (Jvm.Cond.laysFinal "DeclareForms$Codes" "DeclareForms$Codes" "values" "[I") ∈ zz_big := zz_in 90 rfl rfl
set_option maxRecDepth 100000 in
theorem zk_c1ec5e45 : (Jvm.Cond.laysFinal "DeclareForms$Codes" "DeclareForms$Codes" "lastDays" "[I") ∈ zz_big := zz_in 92 rfl rfl
set_option maxRecDepth 100000 in
theorem zk_af4afb6e : (Jvm.Cond.lays "DeclareForms$Codes" "DeclareForms$Codes" "held" "I") ∈ zz_big := zz_in 94 rfl rfl
set_option maxRecDepth 100000 in
theorem zk_663a187a : (Jvm.Cond.laysFinal "DeclareForms$Papers" "DeclareForms$Papers" "numbers" "[I") ∈ zz_big := zz_in 107 rfl rfl
set_option maxRecDepth 100000 in
theorem zk_033d4683 : (Jvm.Cond.laysFinal "DeclareForms$Papers" "DeclareForms$Papers" "balances" "[I") ∈ zz_big := zz_in 109 rfl rfl
set_option maxRecDepth 100000 in
theorem zk_5f0772fe : (Jvm.Cond.laysFinal "DeclareForms$Papers" "DeclareForms$Papers" "drawn" "[I") ∈ zz_big := zz_in 111 rfl rfl
set_option maxRecDepth 100000 in
theorem zk_0f7e5384 : (Jvm.Cond.lays "DeclareForms$Papers" "DeclareForms$Papers" "held" "I") ∈ zz_big := zz_in 113 rfl rfl
set_option maxRecDepth 100000 in
theorem zk_9215b0e2 : (Jvm.Cond.lays "DeclareForms$Reader" "DeclareForms$Reader" "place" "I") ∈ zz_big := zz_in 131 rfl rfl
set_option maxRecDepth 100000 in
theorem zk_db6f4b54 : (Jvm.Cond.lays "DeclareForms$Reader" "DeclareForms$Reader" "rowKind" "I") ∈ zz_big := zz_in 133 rfl rfl
set_option maxRecDepth 100000 in
theorem zk_47b3c243 : (Jvm.Cond.lays "DeclareForms$Reader" "DeclareForms$Reader" "fields" "I") ∈ zz_big := zz_in 135 rfl rfl
set_option maxRecDepth 100000 in
theorem zk_ce9eea49 : (Jvm.Cond.lays "DeclareForms$Reader" "DeclareForms$Reader" "fieldsLeft" "I") ∈ zz_big := zz_in 137 rfl rfl
set_option maxRecDepth 100000 in
theorem zk_f9025a3e : (Jvm.Cond.lays "DeclareForms$Reader" "DeclareForms$Reader" "rowField" "I") ∈ zz_big := zz_in 139 rfl rfl
set_option maxRecDepth 100000 in
theorem zk_0dce1584 : (Jvm.Cond.lays "DeclareForms$Reader" "DeclareForms$Reader" "lastSlot" "I") ∈ zz_big := zz_in 141 rfl rfl
set_option maxRecDepth 100000 in
theorem zk_fefec9c4 : (Jvm.Cond.lays "DeclareForms$Reader" "DeclareForms$Reader" "rowValue" "J") ∈ zz_big := zz_in 143 rfl rfl
set_option maxRecDepth 100000 in
theorem zk_219d4711 : (Jvm.Cond.lays "DeclareForms$Reader" "DeclareForms$Reader" "whole" "I") ∈ zz_big := zz_in 145 rfl rfl
set_option maxRecDepth 100000 in
theorem zk_75b5fd40 : (Jvm.Cond.lays "DeclareForms$Reader" "DeclareForms$Reader" "latest" "I") ∈ zz_big := zz_in 147 rfl rfl
set_option maxRecDepth 100000 in
theorem zk_7099d0a8 : (Jvm.Cond.laysFinal "DeclareForms" "DeclareForms" "kind" "I") ∈ zz_big := zz_in 157 rfl rfl
set_option maxRecDepth 100000 in
theorem zk_9c092f20 : (Jvm.Cond.laysFinal "DeclareForms" "DeclareForms" "sheet" "LDeclareForms$Sheet;") ∈ zz_big := zz_in 159 rfl rfl
set_option maxRecDepth 100000 in
theorem zk_6cf9c086 : (Jvm.Cond.laysFinal "DeclareForms" "DeclareForms" "codes" "LDeclareForms$Codes;") ∈ zz_big := zz_in 161 rfl rfl
set_option maxRecDepth 100000 in
theorem zk_aad5e34d : (Jvm.Cond.laysFinal "DeclareForms" "DeclareForms" "papers" "LDeclareForms$Papers;") ∈ zz_big := zz_in 163 rfl rfl
set_option maxRecDepth 100000 in
theorem zk_3c55d43e : (Jvm.Cond.laysFinal "DeclareForms" "DeclareForms" "reader" "LDeclareForms$Reader;") ∈ zz_big := zz_in 165 rfl rfl
set_option maxRecDepth 100000 in
theorem zk_5de0e94a : (Jvm.Cond.lays "DeclareForms" "DeclareForms" "today" "I") ∈ zz_big := zz_in 167 rfl rfl
set_option maxRecDepth 100000 in
theorem zk_a5d6db1f : (Jvm.Cond.lays "DeclareForms" "DeclareForms" "lodged" "Z") ∈ zz_big := zz_in 169 rfl rfl
theorem zi_S : ∀ w ∈ u_ws zr_S zF_S 5, w ∈ zz_big := by
  intro w hw
  obtain ⟨k, hk, rfl⟩ := List.mem_map.mp hw
  have hk := List.mem_range.mp hk
  match k, hk with
  | 0, _ => exact zk_e13bd24a
  | 1, _ => exact zk_742744d2
  | 2, _ => exact zk_387b9420
  | 3, _ => exact zk_21aad43b
  | 4, _ => exact zk_eae34320
  | (j + 5), h => omega
theorem zi_C : ∀ w ∈ u_ws zr_C zF_C 3, w ∈ zz_big := by
  intro w hw
  obtain ⟨k, hk, rfl⟩ := List.mem_map.mp hw
  have hk := List.mem_range.mp hk
  match k, hk with
  | 0, _ => exact zk_0877a309
  | 1, _ => exact zk_c1ec5e45
  | 2, _ => exact zk_af4afb6e
  | (j + 3), h => omega
theorem zi_P : ∀ w ∈ u_ws zr_P zF_P 4, w ∈ zz_big := by
  intro w hw
  obtain ⟨k, hk, rfl⟩ := List.mem_map.mp hw
  have hk := List.mem_range.mp hk
  match k, hk with
  | 0, _ => exact zk_663a187a
  | 1, _ => exact zk_033d4683
  | 2, _ => exact zk_5f0772fe
  | 3, _ => exact zk_0f7e5384
  | (j + 4), h => omega
theorem zi_R : ∀ w ∈ u_ws zr_R zF_R 9, w ∈ zz_big := by
  intro w hw
  obtain ⟨k, hk, rfl⟩ := List.mem_map.mp hw
  have hk := List.mem_range.mp hk
  match k, hk with
  | 0, _ => exact zk_9215b0e2
  | 1, _ => exact zk_db6f4b54
  | 2, _ => exact zk_47b3c243
  | 3, _ => exact zk_ce9eea49
  | 4, _ => exact zk_f9025a3e
  | 5, _ => exact zk_0dce1584
  | 6, _ => exact zk_fefec9c4
  | 7, _ => exact zk_219d4711
  | 8, _ => exact zk_75b5fd40
  | (j + 9), h => omega
theorem zi_X : ∀ w ∈ u_ws zr_X zF_X 7, w ∈ zz_big := by
  intro w hw
  obtain ⟨k, hk, rfl⟩ := List.mem_map.mp hw
  have hk := List.mem_range.mp hk
  match k, hk with
  | 0, _ => exact zk_7099d0a8
  | 1, _ => exact zk_9c092f20
  | 2, _ => exact zk_6cf9c086
  | 3, _ => exact zk_aad5e34d
  | 4, _ => exact zk_3c55d43e
  | 5, _ => exact zk_5de0e94a
  | 6, _ => exact zk_a5d6db1f
  | (j + 7), h => omega
