set_option maxRecDepth 100000 in
theorem zk_d62d4141 : (Jvm.Cond.fieldLink "DeclareFormsModel" (39 : Nat) "DeclareFormsModel" "thrown" "I") ∈ zz_big := zz_in 567 rfl rfl
set_option maxRecDepth 100000 in
theorem zk_d4ba64b0 : (Jvm.Cond.fieldLink "DeclareFormsModel" (42 : Nat) "DeclareFormsModel" "lines" "I") ∈ zz_big := zz_in 569 rfl rfl
set_option maxRecDepth 100000 in
theorem zk_a9873276 : (Jvm.Cond.fieldLink "DeclareFormsModel" (7 : Nat) "DeclareFormsModel" "gone" "[Z") ∈ zz_big := zz_in 570 rfl rfl
set_option maxRecDepth 100000 in
theorem zk_7987f3f8 : (Jvm.Cond.constantLong "DeclareFormsModel" (51 : Nat) (10 : Int64)) ∈ zz_big := zz_in 671 rfl rfl
set_option maxRecDepth 100000 in
theorem zk_ff0c3da7 : (Jvm.Cond.constantLong "DeclareFormsModel" (53 : Nat) (19 : Int64)) ∈ zz_big := zz_in 672 rfl rfl
set_option maxRecDepth 100000 in
theorem zk_d5048d4e : (Jvm.Cond.code ({ cls := "DeclareFormsModel", name := "in", desc := "(JJJ)Z" } : Jvm.MethodName) prog_7_method_4_code (6 : Nat) (Option.some Jvm.ClassFile.FieldType.boolean)) ∈ zz_big := zz_in 670 rfl rfl
set_option maxRecDepth 100000 in
theorem zk_3b1d8f54 : (Jvm.Cond.methodLink "DeclareFormsModel" (47 : Nat) ({ cls := "DeclareFormsModel", name := "in", desc := "(JJJ)Z" } : Jvm.MethodName)) ∈ zz_big := zz_in 668 rfl rfl
set_option maxRecDepth 100000 in
theorem zk_5de93d87 : (Jvm.Cond.static ({ cls := "DeclareFormsModel", name := "in", desc := "(JJJ)Z" } : Jvm.MethodName)) ∈ zz_big := zz_in 669 rfl rfl
set_option maxRecDepth 100000 in
theorem zk_91cc3b19 : (Jvm.Cond.initialized "DeclareFormsModel") ∈ zz_big := zz_in 33 rfl rfl
set_option maxRecDepth 100000 in
theorem zk_8cffb020 : (Jvm.Cond.code ({ cls := "DeclareFormsModel", name := "isLine", desc := "(I)Z" } : Jvm.MethodName) prog_7_method_5_code (2 : Nat) (Option.some Jvm.ClassFile.FieldType.boolean)) ∈ zz_big := zz_in 654 rfl rfl
set_option maxRecDepth 100000 in
theorem zk_42c4ccab : (Jvm.Cond.methodLink "DeclareFormsModel" (55 : Nat) ({ cls := "DeclareFormsModel", name := "isLine", desc := "(I)Z" } : Jvm.MethodName)) ∈ zz_big := zz_in 651 rfl rfl
set_option maxRecDepth 100000 in
theorem zk_0528e464 : (Jvm.Cond.instanceMethod ({ cls := "DeclareFormsModel", name := "isLine", desc := "(I)Z" } : Jvm.MethodName)) ∈ zz_big := zz_in 653 rfl rfl
set_option maxRecDepth 100000 in
theorem zk_1a6dee55 : Cond.selects "DeclareFormsModel" ⟨"DeclareFormsModel", "isLine", "(I)Z"⟩ ⟨"DeclareFormsModel", "isLine", "(I)Z"⟩ ∈ zz_big := zz_in 12 rfl rfl
set_option maxRecDepth 100000 in
theorem zk_c16f9ca1 : (Jvm.Cond.constantLong "DeclareFormsModel" (45 : Nat) (9 : Int64)) ∈ zz_big := zz_in 667 rfl rfl
set_option maxRecDepth 100000 in
theorem zk_5f584b7b : (Jvm.Cond.code ({ cls := "DeclareFormsModel", name := "refuse", desc := "(I)I" } : Jvm.MethodName) prog_7_method_3_code (2 : Nat) (Option.some Jvm.ClassFile.FieldType.int)) ∈ zz_big := zz_in 646 rfl rfl
set_option maxRecDepth 100000 in
theorem zk_05b1c230 : (Jvm.Cond.methodLink "DeclareFormsModel" (63 : Nat) ({ cls := "DeclareFormsModel", name := "refuse", desc := "(I)I" } : Jvm.MethodName)) ∈ zz_big := zz_in 643 rfl rfl
set_option maxRecDepth 100000 in
theorem zk_32615e0d : (Jvm.Cond.instanceMethod ({ cls := "DeclareFormsModel", name := "refuse", desc := "(I)I" } : Jvm.MethodName)) ∈ zz_big := zz_in 645 rfl rfl
set_option maxRecDepth 100000 in
theorem zk_05b898fc : Cond.selects "DeclareFormsModel" ⟨"DeclareFormsModel", "refuse", "(I)I"⟩ ⟨"DeclareFormsModel", "refuse", "(I)I"⟩ ∈ zz_big := zz_in 11 rfl rfl
set_option maxRecDepth 100000 in
theorem zk_ceae0b21 : (Jvm.Cond.fieldLink "DeclareFormsModel" (59 : Nat) "DeclareFormsModel" "lodged" "Z") ∈ zz_big := zz_in 572 rfl rfl
set_option maxRecDepth 100000 in
theorem zk_8e1cf9a2 : (Jvm.Cond.fieldLink "DeclareFormsModel" (13 : Nat) "DeclareFormsModel" "value" "[J") ∈ zz_big := zz_in 571 rfl rfl
set_option maxRecDepth 100000 in
theorem zk_1ad41f20 : (Jvm.Cond.constantLong "DeclareFormsModel" (37 : Nat) (-1 : Int64)) ∈ zz_big := zz_in 566 rfl rfl
set_option maxRecDepth 100000 in
theorem zk_b8d6ae4f : (Jvm.Cond.fieldLink "DeclareFormsModel" (70 : Nat) "DeclareFormsModel" "papers" "I") ∈ zz_big := zz_in 577 rfl rfl
set_option maxRecDepth 100000 in
theorem zk_efdf3cf0 : (Jvm.Cond.fieldLink "DeclareFormsModel" (27 : Nat) "DeclareFormsModel" "balance" "[I") ∈ zz_big := zz_in 579 rfl rfl
set_option maxRecDepth 100000 in
theorem zk_590f42cd : (Jvm.Cond.fieldLink "DeclareFormsModel" (30 : Nat) "DeclareFormsModel" "drawn" "[I") ∈ zz_big := zz_in 580 rfl rfl
set_option maxRecDepth 100000 in
theorem zk_4a85deba : (Jvm.Cond.code ({ cls := "DeclareFormsModel", name := "setIn", desc := "(I)I" } : Jvm.MethodName) prog_7_method_10_code (4 : Nat) (Option.some Jvm.ClassFile.FieldType.int)) ∈ zz_big := zz_in 658 rfl rfl
set_option maxRecDepth 100000 in
theorem zk_542d7788 : (Jvm.Cond.methodLink "DeclareFormsModel" (67 : Nat) ({ cls := "DeclareFormsModel", name := "setIn", desc := "(I)I" } : Jvm.MethodName)) ∈ zz_big := zz_in 655 rfl rfl
set_option maxRecDepth 100000 in
theorem zk_a39ede8e : (Jvm.Cond.instanceMethod ({ cls := "DeclareFormsModel", name := "setIn", desc := "(I)I" } : Jvm.MethodName)) ∈ zz_big := zz_in 657 rfl rfl
set_option maxRecDepth 100000 in
theorem zk_4cca81b9 : Cond.selects "DeclareFormsModel" ⟨"DeclareFormsModel", "setIn", "(I)I"⟩ ⟨"DeclareFormsModel", "setIn", "(I)I"⟩ ∈ zz_big := zz_in 13 rfl rfl
set_option maxRecDepth 100000 in
theorem zk_1add32c5 : (Jvm.Cond.code ({ cls := "DeclareFormsModel", name := "isPlace", desc := "(II)Z" } : Jvm.MethodName) prog_7_method_6_code (3 : Nat) (Option.some Jvm.ClassFile.FieldType.boolean)) ∈ zz_big := zz_in 666 rfl rfl
set_option maxRecDepth 100000 in
theorem zk_a0f7a764 : (Jvm.Cond.methodLink "DeclareFormsModel" (73 : Nat) ({ cls := "DeclareFormsModel", name := "isPlace", desc := "(II)Z" } : Jvm.MethodName)) ∈ zz_big := zz_in 663 rfl rfl
set_option maxRecDepth 100000 in
theorem zk_92fa40ee : (Jvm.Cond.instanceMethod ({ cls := "DeclareFormsModel", name := "isPlace", desc := "(II)Z" } : Jvm.MethodName)) ∈ zz_big := zz_in 665 rfl rfl
set_option maxRecDepth 100000 in
theorem zk_546771c0 : Cond.selects "DeclareFormsModel" ⟨"DeclareFormsModel", "isPlace", "(II)Z"⟩ ⟨"DeclareFormsModel", "isPlace", "(II)Z"⟩ ∈ zz_big := zz_in 14 rfl rfl
set_option maxRecDepth 100000 in
theorem zk_37a5971a : (Jvm.Cond.constantLong "DeclareFormsModel" (77 : Nat) (1000000000 : Int64)) ∈ zz_big := zz_in 673 rfl rfl
set_option maxRecDepth 100000 in
theorem zk_cf183326 : (Jvm.Cond.fieldLink "DeclareFormsModel" (33 : Nat) "DeclareFormsModel" "kind" "I") ∈ zz_big := zz_in 568 rfl rfl
set_option maxRecDepth 100000 in
theorem zk_57c855ba : (Jvm.Cond.code ({ cls := "DeclareFormsModel", name := "needOf", desc := "(II)I" } : Jvm.MethodName) prog_7_method_8_code (2 : Nat) (Option.some Jvm.ClassFile.FieldType.int)) ∈ zz_big := zz_in 676 rfl rfl
set_option maxRecDepth 100000 in
theorem zk_69d8a7dc : (Jvm.Cond.methodLink "DeclareFormsModel" (79 : Nat) ({ cls := "DeclareFormsModel", name := "needOf", desc := "(II)I" } : Jvm.MethodName)) ∈ zz_big := zz_in 674 rfl rfl
set_option maxRecDepth 100000 in
theorem zk_8aca10f0 : (Jvm.Cond.static ({ cls := "DeclareFormsModel", name := "needOf", desc := "(II)I" } : Jvm.MethodName)) ∈ zz_big := zz_in 675 rfl rfl
set_option maxRecDepth 100000 in
theorem zk_3702f9eb : (Jvm.Cond.code ({ cls := "DeclareFormsModel", name := "at", desc := "(II)I" } : Jvm.MethodName) prog_7_method_7_code (2 : Nat) (Option.some Jvm.ClassFile.FieldType.int)) ∈ zz_big := zz_in 679 rfl rfl
set_option maxRecDepth 100000 in
theorem zk_15927651 : (Jvm.Cond.methodLink "DeclareFormsModel" (83 : Nat) ({ cls := "DeclareFormsModel", name := "at", desc := "(II)I" } : Jvm.MethodName)) ∈ zz_big := zz_in 677 rfl rfl
set_option maxRecDepth 100000 in
theorem zk_e84089c4 : (Jvm.Cond.static ({ cls := "DeclareFormsModel", name := "at", desc := "(II)I" } : Jvm.MethodName)) ∈ zz_big := zz_in 678 rfl rfl
set_option maxRecDepth 100000 in
theorem zk_62906f57 : (Jvm.Cond.fieldLink "DeclareFormsModel" (88 : Nat) "DeclareFormsModel" "codes" "I") ∈ zz_big := zz_in 574 rfl rfl
set_option maxRecDepth 100000 in
theorem zk_ce2632af : (Jvm.Cond.fieldLink "DeclareFormsModel" (17 : Nat) "DeclareFormsModel" "codeOf" "[J") ∈ zz_big := zz_in 575 rfl rfl
set_option maxRecDepth 100000 in
theorem zk_0faba23a : (Jvm.Cond.fieldLink "DeclareFormsModel" (20 : Nat) "DeclareFormsModel" "until" "[I") ∈ zz_big := zz_in 576 rfl rfl
set_option maxRecDepth 100000 in
theorem zk_8470fb61 : (Jvm.Cond.constantLong "DeclareFormsModel" (86 : Nat) (100000 : Int64)) ∈ zz_big := zz_in 696 rfl rfl
set_option maxRecDepth 100000 in
theorem zk_edcb0cfe : (Jvm.Cond.fieldLink "DeclareFormsModel" (91 : Nat) "DeclareFormsModel" "today" "I") ∈ zz_big := zz_in 573 rfl rfl
set_option maxRecDepth 100000 in
theorem zk_c94fa12d : (Jvm.Cond.code ({ cls := "DeclareFormsModel", name := "sumOf", desc := "(I)J" } : Jvm.MethodName) prog_7_method_18_code (5 : Nat) (Option.some Jvm.ClassFile.FieldType.long)) ∈ zz_big := zz_in 717 rfl rfl
set_option maxRecDepth 100000 in
theorem zk_fe3892f0 : (Jvm.Cond.methodLink "DeclareFormsModel" (94 : Nat) ({ cls := "DeclareFormsModel", name := "sumOf", desc := "(I)J" } : Jvm.MethodName)) ∈ zz_big := zz_in 714 rfl rfl
set_option maxRecDepth 100000 in
theorem zk_fb867ac0 : (Jvm.Cond.instanceMethod ({ cls := "DeclareFormsModel", name := "sumOf", desc := "(I)J" } : Jvm.MethodName)) ∈ zz_big := zz_in 716 rfl rfl
set_option maxRecDepth 100000 in
theorem zk_2ca8367b : Cond.selects "DeclareFormsModel" ⟨"DeclareFormsModel", "sumOf", "(I)J"⟩ ⟨"DeclareFormsModel", "sumOf", "(I)J"⟩ ∈ zz_big := zz_in 17 rfl rfl
set_option maxRecDepth 100000 in
theorem zk_704f1844 : (Jvm.Cond.code ({ cls := "DeclareFormsModel", name := "isSum", desc := "(I)Z" } : Jvm.MethodName) prog_7_method_20_code (2 : Nat) (Option.some Jvm.ClassFile.FieldType.boolean)) ∈ zz_big := zz_in 713 rfl rfl
set_option maxRecDepth 100000 in
theorem zk_1568d0e3 : (Jvm.Cond.methodLink "DeclareFormsModel" (99 : Nat) ({ cls := "DeclareFormsModel", name := "isSum", desc := "(I)Z" } : Jvm.MethodName)) ∈ zz_big := zz_in 710 rfl rfl
set_option maxRecDepth 100000 in
theorem zk_51d61e9b : (Jvm.Cond.instanceMethod ({ cls := "DeclareFormsModel", name := "isSum", desc := "(I)Z" } : Jvm.MethodName)) ∈ zz_big := zz_in 712 rfl rfl
set_option maxRecDepth 100000 in
theorem zk_d335ebf9 : Cond.selects "DeclareFormsModel" ⟨"DeclareFormsModel", "isSum", "(I)Z"⟩ ⟨"DeclareFormsModel", "isSum", "(I)Z"⟩ ∈ zz_big := zz_in 16 rfl rfl
set_option maxRecDepth 100000 in
theorem zk_14044799 : (Jvm.Cond.constant "DeclareFormsModel" (103 : Nat) (2000000 : Int32)) ∈ zz_big := zz_in 719 rfl rfl
set_option maxRecDepth 100000 in
theorem zk_20bf4c48 : (Jvm.Cond.constant "DeclareFormsModel" (102 : Nat) (3000000 : Int32)) ∈ zz_big := zz_in 718 rfl rfl
set_option maxRecDepth 100000 in
theorem zk_a44b4990 : (Jvm.Cond.constant "DeclareFormsModel" (98 : Nat) (1000000 : Int32)) ∈ zz_big := zz_in 709 rfl rfl
set_option maxRecDepth 100000 in
theorem zk_0d2910b4 : (Jvm.Cond.constant "DeclareFormsModel" (109 : Nat) (5000000 : Int32)) ∈ zz_big := zz_in 725 rfl rfl
set_option maxRecDepth 100000 in
theorem zk_5fed207e : (Jvm.Cond.code ({ cls := "DeclareFormsModel", name := "isGood", desc := "(J)Z" } : Jvm.MethodName) prog_7_method_19_code (5 : Nat) (Option.some Jvm.ClassFile.FieldType.boolean)) ∈ zz_big := zz_in 723 rfl rfl
set_option maxRecDepth 100000 in
theorem zk_ec62feb0 : (Jvm.Cond.methodLink "DeclareFormsModel" (104 : Nat) ({ cls := "DeclareFormsModel", name := "isGood", desc := "(J)Z" } : Jvm.MethodName)) ∈ zz_big := zz_in 720 rfl rfl
set_option maxRecDepth 100000 in
theorem zk_f09c5fb4 : (Jvm.Cond.instanceMethod ({ cls := "DeclareFormsModel", name := "isGood", desc := "(J)Z" } : Jvm.MethodName)) ∈ zz_big := zz_in 722 rfl rfl
set_option maxRecDepth 100000 in
theorem zk_8b825918 : Cond.selects "DeclareFormsModel" ⟨"DeclareFormsModel", "isGood", "(J)Z"⟩ ⟨"DeclareFormsModel", "isGood", "(J)Z"⟩ ∈ zz_big := zz_in 18 rfl rfl
set_option maxRecDepth 100000 in
theorem zk_b8ae9228 : (Jvm.Cond.constant "DeclareFormsModel" (108 : Nat) (4000000 : Int32)) ∈ zz_big := zz_in 724 rfl rfl
set_option maxRecDepth 100000 in
theorem zk_89144701 : (Jvm.Cond.code ({ cls := "DeclareFormsModel", name := "broken", desc := "()I" } : Jvm.MethodName) prog_7_method_21_code (6 : Nat) (Option.some Jvm.ClassFile.FieldType.int)) ∈ zz_big := zz_in 708 rfl rfl
set_option maxRecDepth 100000 in
theorem zk_b502ed03 : (Jvm.Cond.methodLink "DeclareFormsModel" (110 : Nat) ({ cls := "DeclareFormsModel", name := "broken", desc := "()I" } : Jvm.MethodName)) ∈ zz_big := zz_in 705 rfl rfl
set_option maxRecDepth 100000 in
theorem zk_8983c4a1 : (Jvm.Cond.instanceMethod ({ cls := "DeclareFormsModel", name := "broken", desc := "()I" } : Jvm.MethodName)) ∈ zz_big := zz_in 707 rfl rfl
set_option maxRecDepth 100000 in
theorem zk_b7637070 : Cond.selects "DeclareFormsModel" ⟨"DeclareFormsModel", "broken", "()I"⟩ ⟨"DeclareFormsModel", "broken", "()I"⟩ ∈ zz_big := zz_in 15 rfl rfl
set_option maxRecDepth 100000 in
theorem zk_706ec683 : (Jvm.Cond.fieldLink "DeclareFormsModel" (24 : Nat) "DeclareFormsModel" "paperNumber" "[I") ∈ zz_big := zz_in 578 rfl rfl
set_option maxRecDepth 100000 in
theorem zk_06ddfe93 : (Jvm.Cond.constantLong "DeclareFormsModel" (114 : Nat) (1000000 : Int64)) ∈ zz_big := zz_in 738 rfl rfl
set_option maxRecDepth 100000 in
theorem zk_d550abbc : (Jvm.Cond.code ({ cls := "DeclareFormsModel", name := "paperOf", desc := "(I)I" } : Jvm.MethodName) prog_7_method_25_code (4 : Nat) (Option.some Jvm.ClassFile.FieldType.int)) ∈ zz_big := zz_in 742 rfl rfl
set_option maxRecDepth 100000 in
theorem zk_5b5c84fc : (Jvm.Cond.methodLink "DeclareFormsModel" (116 : Nat) ({ cls := "DeclareFormsModel", name := "paperOf", desc := "(I)I" } : Jvm.MethodName)) ∈ zz_big := zz_in 739 rfl rfl
set_option maxRecDepth 100000 in
theorem zk_6fdb838a : (Jvm.Cond.instanceMethod ({ cls := "DeclareFormsModel", name := "paperOf", desc := "(I)I" } : Jvm.MethodName)) ∈ zz_big := zz_in 741 rfl rfl
set_option maxRecDepth 100000 in
theorem zk_5e10595c : Cond.selects "DeclareFormsModel" ⟨"DeclareFormsModel", "paperOf", "(I)I"⟩ ⟨"DeclareFormsModel", "paperOf", "(I)I"⟩ ∈ zz_big := zz_in 19 rfl rfl
set_option maxRecDepth 100000 in
theorem zk_2c5958d7 : (Jvm.Cond.code ({ cls := "DeclareFormsModel", name := "set", desc := "()I" } : Jvm.MethodName) prog_7_method_29_code (3 : Nat) (Option.some Jvm.ClassFile.FieldType.int)) ∈ zz_big := zz_in 758 rfl rfl
set_option maxRecDepth 100000 in
theorem zk_4db78f98 : (Jvm.Cond.methodLink "DeclareFormsModel" (119 : Nat) ({ cls := "DeclareFormsModel", name := "set", desc := "()I" } : Jvm.MethodName)) ∈ zz_big := zz_in 755 rfl rfl
set_option maxRecDepth 100000 in
theorem zk_3de2aec0 : (Jvm.Cond.instanceMethod ({ cls := "DeclareFormsModel", name := "set", desc := "()I" } : Jvm.MethodName)) ∈ zz_big := zz_in 757 rfl rfl
set_option maxRecDepth 100000 in
theorem zk_d43b7762 : Cond.selects "DeclareFormsModel" ⟨"DeclareFormsModel", "set", "()I"⟩ ⟨"DeclareFormsModel", "set", "()I"⟩ ∈ zz_big := zz_in 20 rfl rfl
set_option maxRecDepth 100000 in
theorem zk_ee44fc34 : (Jvm.Cond.code ({ cls := "DeclareFormsModel", name := "placeOf", desc := "(I)I" } : Jvm.MethodName) prog_7_method_31_code (4 : Nat) (Option.some Jvm.ClassFile.FieldType.int)) ∈ zz_big := zz_in 766 rfl rfl
set_option maxRecDepth 100000 in
theorem zk_67892ef0 : (Jvm.Cond.methodLink "DeclareFormsModel" (122 : Nat) ({ cls := "DeclareFormsModel", name := "placeOf", desc := "(I)I" } : Jvm.MethodName)) ∈ zz_big := zz_in 763 rfl rfl
set_option maxRecDepth 100000 in
theorem zk_145211a7 : (Jvm.Cond.instanceMethod ({ cls := "DeclareFormsModel", name := "placeOf", desc := "(I)I" } : Jvm.MethodName)) ∈ zz_big := zz_in 765 rfl rfl
set_option maxRecDepth 100000 in
theorem zk_1993e099 : Cond.selects "DeclareFormsModel" ⟨"DeclareFormsModel", "placeOf", "(I)I"⟩ ⟨"DeclareFormsModel", "placeOf", "(I)I"⟩ ∈ zz_big := zz_in 21 rfl rfl
set_option maxRecDepth 100000 in
theorem zk_6f7d9b7a : (Jvm.Cond.fieldLink "DeclareFormsModel" (125 : Nat) "DeclareFormsModel" "came" "I") ∈ zz_big := zz_in 581 rfl rfl
set_option maxRecDepth 100000 in
theorem zk_4b3fcbca : (Jvm.Cond.fieldLink "DeclareFormsModel" (143 : Nat) "DeclareFormsModel" "rowsRead" "I") ∈ zz_big := zz_in 587 rfl rfl
set_option maxRecDepth 100000 in
theorem zk_9faaf25a : (Jvm.Cond.fieldLink "DeclareFormsModel" (134 : Nat) "DeclareFormsModel" "rowCount" "I") ∈ zz_big := zz_in 583 rfl rfl
set_option maxRecDepth 100000 in
theorem zk_adfa104d : (Jvm.Cond.fieldLink "DeclareFormsModel" (146 : Nat) "DeclareFormsModel" "latest" "I") ∈ zz_big := zz_in 588 rfl rfl
set_option maxRecDepth 100000 in
theorem zk_feda7793 : (Jvm.Cond.code ({ cls := "DeclareFormsModel", name := "ends", desc := "(I)I" } : Jvm.MethodName) prog_7_method_33_code (2 : Nat) (Option.some Jvm.ClassFile.FieldType.int)) ∈ zz_big := zz_in 778 rfl rfl
set_option maxRecDepth 100000 in
theorem zk_2d30793a : (Jvm.Cond.methodLink "DeclareFormsModel" (131 : Nat) ({ cls := "DeclareFormsModel", name := "ends", desc := "(I)I" } : Jvm.MethodName)) ∈ zz_big := zz_in 775 rfl rfl
set_option maxRecDepth 100000 in
theorem zk_fed514dc : (Jvm.Cond.instanceMethod ({ cls := "DeclareFormsModel", name := "ends", desc := "(I)I" } : Jvm.MethodName)) ∈ zz_big := zz_in 777 rfl rfl
set_option maxRecDepth 100000 in
theorem zk_ec145e2c : Cond.selects "DeclareFormsModel" ⟨"DeclareFormsModel", "ends", "(I)I"⟩ ⟨"DeclareFormsModel", "ends", "(I)I"⟩ ∈ zz_big := zz_in 23 rfl rfl
set_option maxRecDepth 100000 in
theorem zk_6ea1be67 : (Jvm.Cond.fieldLink "DeclareFormsModel" (137 : Nat) "DeclareFormsModel" "before" "I") ∈ zz_big := zz_in 584 rfl rfl
set_option maxRecDepth 100000 in
theorem zk_534b3ca9 : (Jvm.Cond.code ({ cls := "DeclareFormsModel", name := "whole", desc := "()I" } : Jvm.MethodName) prog_7_method_35_code (1 : Nat) (Option.some Jvm.ClassFile.FieldType.int)) ∈ zz_big := zz_in 782 rfl rfl
set_option maxRecDepth 100000 in
theorem zk_1aa1ae7f : (Jvm.Cond.methodLink "DeclareFormsModel" (140 : Nat) ({ cls := "DeclareFormsModel", name := "whole", desc := "()I" } : Jvm.MethodName)) ∈ zz_big := zz_in 779 rfl rfl
set_option maxRecDepth 100000 in
theorem zk_9452f99b : (Jvm.Cond.instanceMethod ({ cls := "DeclareFormsModel", name := "whole", desc := "()I" } : Jvm.MethodName)) ∈ zz_big := zz_in 781 rfl rfl
set_option maxRecDepth 100000 in
theorem zk_d745f0f1 : Cond.selects "DeclareFormsModel" ⟨"DeclareFormsModel", "whole", "()I"⟩ ⟨"DeclareFormsModel", "whole", "()I"⟩ ∈ zz_big := zz_in 24 rfl rfl
set_option maxRecDepth 100000 in
theorem zk_c63d8cf7 : (Jvm.Cond.fieldLink "DeclareFormsModel" (128 : Nat) "DeclareFormsModel" "rowKind" "I") ∈ zz_big := zz_in 582 rfl rfl
set_option maxRecDepth 100000 in
theorem zk_6f20385e : (Jvm.Cond.constantLong "DeclareFormsModel" (161 : Nat) (256 : Int64)) ∈ zz_big := zz_in 784 rfl rfl
set_option maxRecDepth 100000 in
theorem zk_d4862d65 : (Jvm.Cond.fieldLink "DeclareFormsModel" (157 : Nat) "DeclareFormsModel" "valueThere" "J") ∈ zz_big := zz_in 586 rfl rfl
set_option maxRecDepth 100000 in
theorem zk_54963032 : (Jvm.Cond.fieldLink "DeclareFormsModel" (152 : Nat) "DeclareFormsModel" "fieldThere" "I") ∈ zz_big := zz_in 585 rfl rfl
set_option maxRecDepth 100000 in
theorem zk_a61128bd : (Jvm.Cond.constantLong "DeclareFormsModel" (155 : Nat) (30 : Int64)) ∈ zz_big := zz_in 783 rfl rfl
set_option maxRecDepth 100000 in
theorem zk_224f6728 : (Jvm.Cond.code ({ cls := "DeclareFormsModel", name := "begins", desc := "(I)I" } : Jvm.MethodName) prog_7_method_34_code (2 : Nat) (Option.some Jvm.ClassFile.FieldType.int)) ∈ zz_big := zz_in 774 rfl rfl
set_option maxRecDepth 100000 in
theorem zk_fdd4a7ac : (Jvm.Cond.methodLink "DeclareFormsModel" (149 : Nat) ({ cls := "DeclareFormsModel", name := "begins", desc := "(I)I" } : Jvm.MethodName)) ∈ zz_big := zz_in 771 rfl rfl
set_option maxRecDepth 100000 in
theorem zk_1139924d : (Jvm.Cond.instanceMethod ({ cls := "DeclareFormsModel", name := "begins", desc := "(I)I" } : Jvm.MethodName)) ∈ zz_big := zz_in 773 rfl rfl
set_option maxRecDepth 100000 in
theorem zk_20a5d643 : Cond.selects "DeclareFormsModel" ⟨"DeclareFormsModel", "begins", "(I)I"⟩ ⟨"DeclareFormsModel", "begins", "(I)I"⟩ ∈ zz_big := zz_in 22 rfl rfl
set_option maxRecDepth 100000 in
theorem zk_d8c600c4 : (Jvm.Cond.methodLink "DeclareFormsModel" (1 : Nat) ({ cls := "java/lang/Object", name := "<init>", desc := "()V" } : Jvm.MethodName)) ∈ zz_big := zz_in 565 rfl rfl
set_option maxRecDepth 100000 in
theorem zk_c86e6365 : (Jvm.Cond.arrayClass Jvm.ClassFile.FieldType.long) ∈ zz_big := zz_in 634 rfl rfl
set_option maxRecDepth 100000 in
theorem zk_40750095 : (Jvm.Cond.code ({ cls := "DeclareForms", name := "line", desc := "()I" } : Jvm.MethodName) prog_1_method_2_code (1 : Nat) (Option.some Jvm.ClassFile.FieldType.int)) ∈ zz_big := zz_in 375 rfl rfl
set_option maxRecDepth 100000 in
theorem zk_c955415f : (Jvm.Cond.methodLink "DeclareFormsLaw" (7 : Nat) ({ cls := "DeclareForms", name := "line", desc := "()I" } : Jvm.MethodName)) ∈ zz_big := zz_in 372 rfl rfl
set_option maxRecDepth 100000 in
theorem zk_118de276 : (Jvm.Cond.instanceMethod ({ cls := "DeclareForms", name := "line", desc := "()I" } : Jvm.MethodName)) ∈ zz_big := zz_in 373 rfl rfl
set_option maxRecDepth 100000 in
theorem zk_bf6685bd : (Jvm.Cond.selects "DeclareForms" ({ cls := "DeclareForms", name := "line", desc := "()I" } : Jvm.MethodName) ({ cls := "DeclareForms", name := "line", desc := "()I" } : Jvm.MethodName)) ∈ zz_big := zz_in 374 rfl rfl
set_option maxRecDepth 100000 in
theorem zk_85373c90 : (Jvm.Cond.classLink "DeclareFormsLaw" (13 : Nat) "java/lang/IllegalStateException") ∈ zz_big := zz_in 371 rfl rfl
set_option maxRecDepth 100000 in
theorem zk_0b6edfcf : (Jvm.Cond.code ({ cls := "DeclareForms", name := "field", desc := "(IIJ)I" } : Jvm.MethodName) prog_1_method_4_code (6 : Nat) (Option.some Jvm.ClassFile.FieldType.int)) ∈ zz_big := zz_in 460 rfl rfl
set_option maxRecDepth 100000 in
theorem zk_1f439bb0 : (Jvm.Cond.methodLink "DeclareFormsLaw" (15 : Nat) ({ cls := "DeclareForms", name := "field", desc := "(IIJ)I" } : Jvm.MethodName)) ∈ zz_big := zz_in 457 rfl rfl
set_option maxRecDepth 100000 in
theorem zk_7c5e73ee : (Jvm.Cond.instanceMethod ({ cls := "DeclareForms", name := "field", desc := "(IIJ)I" } : Jvm.MethodName)) ∈ zz_big := zz_in 458 rfl rfl
set_option maxRecDepth 100000 in
theorem zk_0c5421d8 : (Jvm.Cond.selects "DeclareForms" ({ cls := "DeclareForms", name := "field", desc := "(IIJ)I" } : Jvm.MethodName) ({ cls := "DeclareForms", name := "field", desc := "(IIJ)I" } : Jvm.MethodName)) ∈ zz_big := zz_in 459 rfl rfl
set_option maxRecDepth 100000 in
theorem zk_42c792c8 : (Jvm.Cond.classLink "DeclareFormsLaw" (19 : Nat) "java/lang/IllegalArgumentException") ∈ zz_big := zz_in 456 rfl rfl
set_option maxRecDepth 100000 in
theorem zk_99504f30 : (Jvm.Cond.code ({ cls := "DeclareForms", name := "value", desc := "(II)J" } : Jvm.MethodName) prog_1_method_6_code (4 : Nat) (Option.some Jvm.ClassFile.FieldType.long)) ∈ zz_big := zz_in 484 rfl rfl
set_option maxRecDepth 100000 in
theorem zk_8de25bdb : (Jvm.Cond.methodLink "DeclareFormsLaw" (21 : Nat) ({ cls := "DeclareForms", name := "value", desc := "(II)J" } : Jvm.MethodName)) ∈ zz_big := zz_in 481 rfl rfl
set_option maxRecDepth 100000 in
theorem zk_fb611bcc : (Jvm.Cond.instanceMethod ({ cls := "DeclareForms", name := "value", desc := "(II)J" } : Jvm.MethodName)) ∈ zz_big := zz_in 482 rfl rfl
set_option maxRecDepth 100000 in
theorem zk_7afbf215 : (Jvm.Cond.selects "DeclareForms" ({ cls := "DeclareForms", name := "value", desc := "(II)J" } : Jvm.MethodName) ({ cls := "DeclareForms", name := "value", desc := "(II)J" } : Jvm.MethodName)) ∈ zz_big := zz_in 483 rfl rfl
set_option maxRecDepth 100000 in
theorem zk_3fef39be : (Jvm.Cond.code ({ cls := "DeclareForms", name := "need", desc := "(I)I" } : Jvm.MethodName) prog_1_method_7_code (2 : Nat) (Option.some Jvm.ClassFile.FieldType.int)) ∈ zz_big := zz_in 492 rfl rfl
set_option maxRecDepth 100000 in
theorem zk_e8d1f5b9 : (Jvm.Cond.methodLink "DeclareFormsLaw" (25 : Nat) ({ cls := "DeclareForms", name := "need", desc := "(I)I" } : Jvm.MethodName)) ∈ zz_big := zz_in 489 rfl rfl
set_option maxRecDepth 100000 in
theorem zk_4da4d9c1 : (Jvm.Cond.instanceMethod ({ cls := "DeclareForms", name := "need", desc := "(I)I" } : Jvm.MethodName)) ∈ zz_big := zz_in 490 rfl rfl
set_option maxRecDepth 100000 in
theorem zk_df849dec : (Jvm.Cond.selects "DeclareForms" ({ cls := "DeclareForms", name := "need", desc := "(I)I" } : Jvm.MethodName) ({ cls := "DeclareForms", name := "need", desc := "(I)I" } : Jvm.MethodName)) ∈ zz_big := zz_in 491 rfl rfl
set_option maxRecDepth 100000 in
theorem zk_02992475 : (Jvm.Cond.code ({ cls := "DeclareForms", name := "amend", desc := "(IIJ)I" } : Jvm.MethodName) prog_1_method_12_code (7 : Nat) (Option.some Jvm.ClassFile.FieldType.int)) ∈ zz_big := zz_in 500 rfl rfl
set_option maxRecDepth 100000 in
theorem zk_33ba2509 : (Jvm.Cond.methodLink "DeclareFormsLaw" (29 : Nat) ({ cls := "DeclareForms", name := "amend", desc := "(IIJ)I" } : Jvm.MethodName)) ∈ zz_big := zz_in 497 rfl rfl
set_option maxRecDepth 100000 in
theorem zk_a73b2c73 : (Jvm.Cond.instanceMethod ({ cls := "DeclareForms", name := "amend", desc := "(IIJ)I" } : Jvm.MethodName)) ∈ zz_big := zz_in 498 rfl rfl
set_option maxRecDepth 100000 in
theorem zk_1e9cbac7 : (Jvm.Cond.selects "DeclareForms" ({ cls := "DeclareForms", name := "amend", desc := "(IIJ)I" } : Jvm.MethodName) ({ cls := "DeclareForms", name := "amend", desc := "(IIJ)I" } : Jvm.MethodName)) ∈ zz_big := zz_in 499 rfl rfl
set_option maxRecDepth 100000 in
theorem zk_ad4a2b8f : (Jvm.Cond.code ({ cls := "DeclareForms", name := "draw", desc := "(III)I" } : Jvm.MethodName) prog_1_method_14_code (5 : Nat) (Option.some Jvm.ClassFile.FieldType.int)) ∈ zz_big := zz_in 508 rfl rfl
set_option maxRecDepth 100000 in
theorem zk_df27687e : (Jvm.Cond.methodLink "DeclareFormsLaw" (32 : Nat) ({ cls := "DeclareForms", name := "draw", desc := "(III)I" } : Jvm.MethodName)) ∈ zz_big := zz_in 505 rfl rfl
set_option maxRecDepth 100000 in
theorem zk_098b0bad : (Jvm.Cond.instanceMethod ({ cls := "DeclareForms", name := "draw", desc := "(III)I" } : Jvm.MethodName)) ∈ zz_big := zz_in 506 rfl rfl
set_option maxRecDepth 100000 in
theorem zk_53444e25 : (Jvm.Cond.selects "DeclareForms" ({ cls := "DeclareForms", name := "draw", desc := "(III)I" } : Jvm.MethodName) ({ cls := "DeclareForms", name := "draw", desc := "(III)I" } : Jvm.MethodName)) ∈ zz_big := zz_in 507 rfl rfl
set_option maxRecDepth 100000 in
theorem zk_bf9796d8 : (Jvm.Cond.code ({ cls := "DeclareForms", name := "sum", desc := "(I)J" } : Jvm.MethodName) prog_1_method_15_code (2 : Nat) (Option.some Jvm.ClassFile.FieldType.long)) ∈ zz_big := zz_in 521 rfl rfl
set_option maxRecDepth 100000 in
theorem zk_e7a7d754 : (Jvm.Cond.methodLink "DeclareFormsLaw" (36 : Nat) ({ cls := "DeclareForms", name := "sum", desc := "(I)J" } : Jvm.MethodName)) ∈ zz_big := zz_in 518 rfl rfl
set_option maxRecDepth 100000 in
theorem zk_048e5180 : (Jvm.Cond.instanceMethod ({ cls := "DeclareForms", name := "sum", desc := "(I)J" } : Jvm.MethodName)) ∈ zz_big := zz_in 519 rfl rfl
set_option maxRecDepth 100000 in
theorem zk_27b90e57 : (Jvm.Cond.selects "DeclareForms" ({ cls := "DeclareForms", name := "sum", desc := "(I)J" } : Jvm.MethodName) ({ cls := "DeclareForms", name := "sum", desc := "(I)J" } : Jvm.MethodName)) ∈ zz_big := zz_in 520 rfl rfl
set_option maxRecDepth 100000 in
theorem zk_fe0c0aa4 : (Jvm.Cond.code ({ cls := "DeclareForms", name := "octet", desc := "(I)B" } : Jvm.MethodName) prog_1_method_17_code (3 : Nat) (Option.some Jvm.ClassFile.FieldType.byte)) ∈ zz_big := zz_in 531 rfl rfl
set_option maxRecDepth 100000 in
theorem zk_abb9bd0b : (Jvm.Cond.methodLink "DeclareFormsLaw" (40 : Nat) ({ cls := "DeclareForms", name := "octet", desc := "(I)B" } : Jvm.MethodName)) ∈ zz_big := zz_in 528 rfl rfl
set_option maxRecDepth 100000 in
theorem zk_ac2a6685 : (Jvm.Cond.instanceMethod ({ cls := "DeclareForms", name := "octet", desc := "(I)B" } : Jvm.MethodName)) ∈ zz_big := zz_in 529 rfl rfl
set_option maxRecDepth 100000 in
theorem zk_ade47d99 : (Jvm.Cond.selects "DeclareForms" ({ cls := "DeclareForms", name := "octet", desc := "(I)B" } : Jvm.MethodName) ({ cls := "DeclareForms", name := "octet", desc := "(I)B" } : Jvm.MethodName)) ∈ zz_big := zz_in 530 rfl rfl
set_option maxRecDepth 100000 in
theorem zk_6139b0cd : (Jvm.Cond.classLink "DeclareFormsLaw" (44 : Nat) "java/lang/IndexOutOfBoundsException") ∈ zz_big := zz_in 527 rfl rfl
set_option maxRecDepth 100000 in
theorem zk_cb54bce8 : (Jvm.Cond.codeWith ({ cls := "DeclareFormsLaw", name := "line", desc := "(LDeclareForms;[J)I" } : Jvm.MethodName) method_3_code (3 : Nat) (Option.some Jvm.ClassFile.FieldType.int) [((0 : Nat), (8 : Nat), (11 : Nat), (13 : Nat))]) ∈ zz_big := zz_in 370 rfl rfl
set_option maxRecDepth 100000 in
theorem zk_94fff9e0 : (Jvm.Cond.methodLink "DeclareFormsLaw" (58 : Nat) ({ cls := "DeclareFormsLaw", name := "line", desc := "(LDeclareForms;[J)I" } : Jvm.MethodName)) ∈ zz_big := zz_in 368 rfl rfl
set_option maxRecDepth 100000 in
theorem zk_3679f5b5 : (Jvm.Cond.static ({ cls := "DeclareFormsLaw", name := "line", desc := "(LDeclareForms;[J)I" } : Jvm.MethodName)) ∈ zz_big := zz_in 369 rfl rfl
set_option maxRecDepth 100000 in
theorem zk_47055d91 : (Jvm.Cond.initialized "DeclareFormsLaw") ∈ zz_big := zz_in 25 rfl rfl
set_option maxRecDepth 100000 in
theorem zk_01911349 : (Jvm.Cond.code ({ cls := "DeclareFormsModel", name := "line", desc := "()I" } : Jvm.MethodName) prog_7_method_9_code (1 : Nat) (Option.some Jvm.ClassFile.FieldType.int)) ∈ zz_big := zz_in 642 rfl rfl
set_option maxRecDepth 100000 in
theorem zk_93f4e0a1 : (Jvm.Cond.methodLink "DeclareFormsLaw" (61 : Nat) ({ cls := "DeclareFormsModel", name := "line", desc := "()I" } : Jvm.MethodName)) ∈ zz_big := zz_in 639 rfl rfl
set_option maxRecDepth 100000 in
theorem zk_007c3e4e : (Jvm.Cond.instanceMethod ({ cls := "DeclareFormsModel", name := "line", desc := "()I" } : Jvm.MethodName)) ∈ zz_big := zz_in 640 rfl rfl
set_option maxRecDepth 100000 in
theorem zk_3df1215d : (Jvm.Cond.selects "DeclareFormsModel" ({ cls := "DeclareFormsModel", name := "line", desc := "()I" } : Jvm.MethodName) ({ cls := "DeclareFormsModel", name := "line", desc := "()I" } : Jvm.MethodName)) ∈ zz_big := zz_in 641 rfl rfl
set_option maxRecDepth 100000 in
theorem zk_b51a64f9 : (Jvm.Cond.code ({ cls := "DeclareFormsModel", name := "thrown", desc := "()I" } : Jvm.MethodName) prog_7_method_2_code (1 : Nat) (Option.some Jvm.ClassFile.FieldType.int)) ∈ zz_big := zz_in 638 rfl rfl
set_option maxRecDepth 100000 in
theorem zk_8e32f3ef : (Jvm.Cond.methodLink "DeclareFormsLaw" (62 : Nat) ({ cls := "DeclareFormsModel", name := "thrown", desc := "()I" } : Jvm.MethodName)) ∈ zz_big := zz_in 635 rfl rfl
set_option maxRecDepth 100000 in
theorem zk_7bff8b59 : (Jvm.Cond.instanceMethod ({ cls := "DeclareFormsModel", name := "thrown", desc := "()I" } : Jvm.MethodName)) ∈ zz_big := zz_in 636 rfl rfl
set_option maxRecDepth 100000 in
theorem zk_098c063e : (Jvm.Cond.selects "DeclareFormsModel" ({ cls := "DeclareFormsModel", name := "thrown", desc := "()I" } : Jvm.MethodName) ({ cls := "DeclareFormsModel", name := "thrown", desc := "()I" } : Jvm.MethodName)) ∈ zz_big := zz_in 637 rfl rfl
set_option maxRecDepth 100000 in
theorem zk_b06640dd : (Jvm.Cond.code ({ cls := "DeclareForms", name := "remove", desc := "(I)I" } : Jvm.MethodName) prog_1_method_3_code (2 : Nat) (Option.some Jvm.ClassFile.FieldType.int)) ∈ zz_big := zz_in 175 rfl rfl
set_option maxRecDepth 100000 in
theorem zk_0d398bf9 : (Jvm.Cond.methodLink "DeclareFormsLaw" (65 : Nat) ({ cls := "DeclareForms", name := "remove", desc := "(I)I" } : Jvm.MethodName)) ∈ zz_big := zz_in 172 rfl rfl
set_option maxRecDepth 100000 in
theorem zk_9e8672f5 : (Jvm.Cond.instanceMethod ({ cls := "DeclareForms", name := "remove", desc := "(I)I" } : Jvm.MethodName)) ∈ zz_big := zz_in 173 rfl rfl
set_option maxRecDepth 100000 in
theorem zk_5fd7c625 : (Jvm.Cond.selects "DeclareForms" ({ cls := "DeclareForms", name := "remove", desc := "(I)I" } : Jvm.MethodName) ({ cls := "DeclareForms", name := "remove", desc := "(I)I" } : Jvm.MethodName)) ∈ zz_big := zz_in 174 rfl rfl
set_option maxRecDepth 100000 in
theorem zk_963768a7 : (Jvm.Cond.code ({ cls := "DeclareFormsModel", name := "remove", desc := "(I)I" } : Jvm.MethodName) prog_7_method_11_code (4 : Nat) (Option.some Jvm.ClassFile.FieldType.int)) ∈ zz_big := zz_in 650 rfl rfl
set_option maxRecDepth 100000 in
theorem zk_f2002a45 : (Jvm.Cond.methodLink "DeclareFormsLaw" (68 : Nat) ({ cls := "DeclareFormsModel", name := "remove", desc := "(I)I" } : Jvm.MethodName)) ∈ zz_big := zz_in 647 rfl rfl
set_option maxRecDepth 100000 in
theorem zk_1ef5340a : (Jvm.Cond.instanceMethod ({ cls := "DeclareFormsModel", name := "remove", desc := "(I)I" } : Jvm.MethodName)) ∈ zz_big := zz_in 648 rfl rfl
set_option maxRecDepth 100000 in
theorem zk_f8c56a04 : (Jvm.Cond.selects "DeclareFormsModel" ({ cls := "DeclareFormsModel", name := "remove", desc := "(I)I" } : Jvm.MethodName) ({ cls := "DeclareFormsModel", name := "remove", desc := "(I)I" } : Jvm.MethodName)) ∈ zz_big := zz_in 649 rfl rfl
set_option maxRecDepth 100000 in
theorem zk_f7ae233a : (Jvm.Cond.constantLong "DeclareFormsLaw" (69 : Nat) (4294967295 : Int64)) ∈ zz_big := zz_in 789 rfl rfl
set_option maxRecDepth 100000 in
theorem zk_ea52f7ff : (Jvm.Cond.codeWith ({ cls := "DeclareFormsLaw", name := "field", desc := "(LDeclareForms;IIJ[J)I" } : Jvm.MethodName) method_4_code (7 : Nat) (Option.some Jvm.ClassFile.FieldType.int) [((0 : Nat), (12 : Nat), (15 : Nat), (19 : Nat))]) ∈ zz_big := zz_in 455 rfl rfl
set_option maxRecDepth 100000 in
theorem zk_940434a7 : (Jvm.Cond.methodLink "DeclareFormsLaw" (71 : Nat) ({ cls := "DeclareFormsLaw", name := "field", desc := "(LDeclareForms;IIJ[J)I" } : Jvm.MethodName)) ∈ zz_big := zz_in 453 rfl rfl
set_option maxRecDepth 100000 in
theorem zk_60b94bbd : (Jvm.Cond.static ({ cls := "DeclareFormsLaw", name := "field", desc := "(LDeclareForms;IIJ[J)I" } : Jvm.MethodName)) ∈ zz_big := zz_in 454 rfl rfl
set_option maxRecDepth 100000 in
theorem zk_a01bc32c : (Jvm.Cond.code ({ cls := "DeclareFormsModel", name := "field", desc := "(IIJ)I" } : Jvm.MethodName) prog_7_method_12_code (5 : Nat) (Option.some Jvm.ClassFile.FieldType.int)) ∈ zz_big := zz_in 662 rfl rfl
set_option maxRecDepth 100000 in
theorem zk_053a1a0b : (Jvm.Cond.methodLink "DeclareFormsLaw" (74 : Nat) ({ cls := "DeclareFormsModel", name := "field", desc := "(IIJ)I" } : Jvm.MethodName)) ∈ zz_big := zz_in 659 rfl rfl
set_option maxRecDepth 100000 in
theorem zk_ee5f5e8f : (Jvm.Cond.instanceMethod ({ cls := "DeclareFormsModel", name := "field", desc := "(IIJ)I" } : Jvm.MethodName)) ∈ zz_big := zz_in 660 rfl rfl
set_option maxRecDepth 100000 in
theorem zk_8a3e6b07 : (Jvm.Cond.selects "DeclareFormsModel" ({ cls := "DeclareFormsModel", name := "field", desc := "(IIJ)I" } : Jvm.MethodName) ({ cls := "DeclareFormsModel", name := "field", desc := "(IIJ)I" } : Jvm.MethodName)) ∈ zz_big := zz_in 661 rfl rfl
set_option maxRecDepth 100000 in
theorem zk_a8a6e650 : (Jvm.Cond.code ({ cls := "DeclareForms", name := "clear", desc := "(II)Z" } : Jvm.MethodName) prog_1_method_5_code (4 : Nat) (Option.some Jvm.ClassFile.FieldType.boolean)) ∈ zz_big := zz_in 196 rfl rfl
set_option maxRecDepth 100000 in
theorem zk_f77ec794 : (Jvm.Cond.methodLink "DeclareFormsLaw" (75 : Nat) ({ cls := "DeclareForms", name := "clear", desc := "(II)Z" } : Jvm.MethodName)) ∈ zz_big := zz_in 193 rfl rfl
set_option maxRecDepth 100000 in
theorem zk_fe40a642 : (Jvm.Cond.instanceMethod ({ cls := "DeclareForms", name := "clear", desc := "(II)Z" } : Jvm.MethodName)) ∈ zz_big := zz_in 194 rfl rfl
set_option maxRecDepth 100000 in
theorem zk_dc8e959a : (Jvm.Cond.selects "DeclareForms" ({ cls := "DeclareForms", name := "clear", desc := "(II)Z" } : Jvm.MethodName) ({ cls := "DeclareForms", name := "clear", desc := "(II)Z" } : Jvm.MethodName)) ∈ zz_big := zz_in 195 rfl rfl
set_option maxRecDepth 100000 in
theorem zk_50374150 : (Jvm.Cond.code ({ cls := "DeclareFormsModel", name := "clear", desc := "(II)Z" } : Jvm.MethodName) prog_7_method_13_code (3 : Nat) (Option.some Jvm.ClassFile.FieldType.boolean)) ∈ zz_big := zz_in 683 rfl rfl
set_option maxRecDepth 100000 in
theorem zk_1011f2c3 : (Jvm.Cond.methodLink "DeclareFormsLaw" (79 : Nat) ({ cls := "DeclareFormsModel", name := "clear", desc := "(II)Z" } : Jvm.MethodName)) ∈ zz_big := zz_in 680 rfl rfl
set_option maxRecDepth 100000 in
theorem zk_016ba175 : (Jvm.Cond.instanceMethod ({ cls := "DeclareFormsModel", name := "clear", desc := "(II)Z" } : Jvm.MethodName)) ∈ zz_big := zz_in 681 rfl rfl
set_option maxRecDepth 100000 in
theorem zk_bbbaffe4 : (Jvm.Cond.selects "DeclareFormsModel" ({ cls := "DeclareFormsModel", name := "clear", desc := "(II)Z" } : Jvm.MethodName) ({ cls := "DeclareFormsModel", name := "clear", desc := "(II)Z" } : Jvm.MethodName)) ∈ zz_big := zz_in 682 rfl rfl
set_option maxRecDepth 100000 in
theorem zk_39c7477b : (Jvm.Cond.codeWith ({ cls := "DeclareFormsLaw", name := "value", desc := "(LDeclareForms;II[J)I" } : Jvm.MethodName) method_5_code (5 : Nat) (Option.some Jvm.ClassFile.FieldType.int) [((0 : Nat), (9 : Nat), (12 : Nat), (19 : Nat))]) ∈ zz_big := zz_in 480 rfl rfl
set_option maxRecDepth 100000 in
theorem zk_5df28a83 : (Jvm.Cond.methodLink "DeclareFormsLaw" (80 : Nat) ({ cls := "DeclareFormsLaw", name := "value", desc := "(LDeclareForms;II[J)I" } : Jvm.MethodName)) ∈ zz_big := zz_in 478 rfl rfl
set_option maxRecDepth 100000 in
theorem zk_bb2d0854 : (Jvm.Cond.static ({ cls := "DeclareFormsLaw", name := "value", desc := "(LDeclareForms;II[J)I" } : Jvm.MethodName)) ∈ zz_big := zz_in 479 rfl rfl
set_option maxRecDepth 100000 in
theorem zk_a8389942 : (Jvm.Cond.code ({ cls := "DeclareFormsModel", name := "value", desc := "(II)J" } : Jvm.MethodName) prog_7_method_14_code (3 : Nat) (Option.some Jvm.ClassFile.FieldType.long)) ∈ zz_big := zz_in 687 rfl rfl
set_option maxRecDepth 100000 in
theorem zk_f51337e1 : (Jvm.Cond.methodLink "DeclareFormsLaw" (83 : Nat) ({ cls := "DeclareFormsModel", name := "value", desc := "(II)J" } : Jvm.MethodName)) ∈ zz_big := zz_in 684 rfl rfl
set_option maxRecDepth 100000 in
theorem zk_b88f4ebb : (Jvm.Cond.instanceMethod ({ cls := "DeclareFormsModel", name := "value", desc := "(II)J" } : Jvm.MethodName)) ∈ zz_big := zz_in 685 rfl rfl
set_option maxRecDepth 100000 in
theorem zk_ae380b03 : (Jvm.Cond.selects "DeclareFormsModel" ({ cls := "DeclareFormsModel", name := "value", desc := "(II)J" } : Jvm.MethodName) ({ cls := "DeclareFormsModel", name := "value", desc := "(II)J" } : Jvm.MethodName)) ∈ zz_big := zz_in 686 rfl rfl
set_option maxRecDepth 100000 in
theorem zk_7be1e2ec : (Jvm.Cond.codeWith ({ cls := "DeclareFormsLaw", name := "need", desc := "(LDeclareForms;I[J)I" } : Jvm.MethodName) method_6_code (4 : Nat) (Option.some Jvm.ClassFile.FieldType.int) [((0 : Nat), (9 : Nat), (12 : Nat), (19 : Nat))]) ∈ zz_big := zz_in 488 rfl rfl
set_option maxRecDepth 100000 in
theorem zk_d8170f5b : (Jvm.Cond.methodLink "DeclareFormsLaw" (84 : Nat) ({ cls := "DeclareFormsLaw", name := "need", desc := "(LDeclareForms;I[J)I" } : Jvm.MethodName)) ∈ zz_big := zz_in 486 rfl rfl
set_option maxRecDepth 100000 in
theorem zk_356f9e4e : (Jvm.Cond.static ({ cls := "DeclareFormsLaw", name := "need", desc := "(LDeclareForms;I[J)I" } : Jvm.MethodName)) ∈ zz_big := zz_in 487 rfl rfl
set_option maxRecDepth 100000 in
theorem zk_20eee6bc : (Jvm.Cond.code ({ cls := "DeclareFormsModel", name := "need", desc := "(I)I" } : Jvm.MethodName) prog_7_method_15_code (2 : Nat) (Option.some Jvm.ClassFile.FieldType.int)) ∈ zz_big := zz_in 691 rfl rfl
set_option maxRecDepth 100000 in
theorem zk_5468035a : (Jvm.Cond.methodLink "DeclareFormsLaw" (87 : Nat) ({ cls := "DeclareFormsModel", name := "need", desc := "(I)I" } : Jvm.MethodName)) ∈ zz_big := zz_in 688 rfl rfl
set_option maxRecDepth 100000 in
theorem zk_27a69a21 : (Jvm.Cond.instanceMethod ({ cls := "DeclareFormsModel", name := "need", desc := "(I)I" } : Jvm.MethodName)) ∈ zz_big := zz_in 689 rfl rfl
set_option maxRecDepth 100000 in
theorem zk_82402b6b : (Jvm.Cond.selects "DeclareFormsModel" ({ cls := "DeclareFormsModel", name := "need", desc := "(I)I" } : Jvm.MethodName) ({ cls := "DeclareFormsModel", name := "need", desc := "(I)I" } : Jvm.MethodName)) ∈ zz_big := zz_in 690 rfl rfl
set_option maxRecDepth 100000 in
theorem zk_ac7b168d : (Jvm.Cond.code ({ cls := "DeclareForms", name := "code", desc := "(JI)Z" } : Jvm.MethodName) prog_1_method_8_code (4 : Nat) (Option.some Jvm.ClassFile.FieldType.boolean)) ∈ zz_big := zz_in 209 rfl rfl
set_option maxRecDepth 100000 in
theorem zk_a8389fd3 : (Jvm.Cond.methodLink "DeclareFormsLaw" (88 : Nat) ({ cls := "DeclareForms", name := "code", desc := "(JI)Z" } : Jvm.MethodName)) ∈ zz_big := zz_in 206 rfl rfl
set_option maxRecDepth 100000 in
theorem zk_6a378520 : (Jvm.Cond.instanceMethod ({ cls := "DeclareForms", name := "code", desc := "(JI)Z" } : Jvm.MethodName)) ∈ zz_big := zz_in 207 rfl rfl
set_option maxRecDepth 100000 in
theorem zk_1480e4cb : (Jvm.Cond.selects "DeclareForms" ({ cls := "DeclareForms", name := "code", desc := "(JI)Z" } : Jvm.MethodName) ({ cls := "DeclareForms", name := "code", desc := "(JI)Z" } : Jvm.MethodName)) ∈ zz_big := zz_in 208 rfl rfl
set_option maxRecDepth 100000 in
theorem zk_4179caae : (Jvm.Cond.code ({ cls := "DeclareFormsModel", name := "code", desc := "(JI)Z" } : Jvm.MethodName) prog_7_method_16_code (5 : Nat) (Option.some Jvm.ClassFile.FieldType.boolean)) ∈ zz_big := zz_in 695 rfl rfl
set_option maxRecDepth 100000 in
theorem zk_3458d7a6 : (Jvm.Cond.methodLink "DeclareFormsLaw" (92 : Nat) ({ cls := "DeclareFormsModel", name := "code", desc := "(JI)Z" } : Jvm.MethodName)) ∈ zz_big := zz_in 692 rfl rfl
set_option maxRecDepth 100000 in
theorem zk_e9204c8c : (Jvm.Cond.instanceMethod ({ cls := "DeclareFormsModel", name := "code", desc := "(JI)Z" } : Jvm.MethodName)) ∈ zz_big := zz_in 693 rfl rfl
set_option maxRecDepth 100000 in
theorem zk_69eb73ee : (Jvm.Cond.selects "DeclareFormsModel" ({ cls := "DeclareFormsModel", name := "code", desc := "(JI)Z" } : Jvm.MethodName) ({ cls := "DeclareFormsModel", name := "code", desc := "(JI)Z" } : Jvm.MethodName)) ∈ zz_big := zz_in 694 rfl rfl
set_option maxRecDepth 100000 in
theorem zk_f0cfdb23 : (Jvm.Cond.code ({ cls := "DeclareForms", name := "day", desc := "(I)Z" } : Jvm.MethodName) prog_1_method_9_code (2 : Nat) (Option.some Jvm.ClassFile.FieldType.boolean)) ∈ zz_big := zz_in 226 rfl rfl
set_option maxRecDepth 100000 in
theorem zk_4c7878c0 : (Jvm.Cond.methodLink "DeclareFormsLaw" (93 : Nat) ({ cls := "DeclareForms", name := "day", desc := "(I)Z" } : Jvm.MethodName)) ∈ zz_big := zz_in 223 rfl rfl
set_option maxRecDepth 100000 in
theorem zk_8e95dda3 : (Jvm.Cond.instanceMethod ({ cls := "DeclareForms", name := "day", desc := "(I)Z" } : Jvm.MethodName)) ∈ zz_big := zz_in 224 rfl rfl
set_option maxRecDepth 100000 in
theorem zk_ce3c0243 : (Jvm.Cond.selects "DeclareForms" ({ cls := "DeclareForms", name := "day", desc := "(I)Z" } : Jvm.MethodName) ({ cls := "DeclareForms", name := "day", desc := "(I)Z" } : Jvm.MethodName)) ∈ zz_big := zz_in 225 rfl rfl
set_option maxRecDepth 100000 in
theorem zk_176d6d1e : (Jvm.Cond.code ({ cls := "DeclareFormsModel", name := "day", desc := "(I)Z" } : Jvm.MethodName) prog_7_method_17_code (2 : Nat) (Option.some Jvm.ClassFile.FieldType.boolean)) ∈ zz_big := zz_in 700 rfl rfl
set_option maxRecDepth 100000 in
theorem zk_bb869da4 : (Jvm.Cond.methodLink "DeclareFormsLaw" (97 : Nat) ({ cls := "DeclareFormsModel", name := "day", desc := "(I)Z" } : Jvm.MethodName)) ∈ zz_big := zz_in 697 rfl rfl
set_option maxRecDepth 100000 in
theorem zk_578d7969 : (Jvm.Cond.instanceMethod ({ cls := "DeclareFormsModel", name := "day", desc := "(I)Z" } : Jvm.MethodName)) ∈ zz_big := zz_in 698 rfl rfl
set_option maxRecDepth 100000 in
theorem zk_4927891a : (Jvm.Cond.selects "DeclareFormsModel" ({ cls := "DeclareFormsModel", name := "day", desc := "(I)Z" } : Jvm.MethodName) ({ cls := "DeclareFormsModel", name := "day", desc := "(I)Z" } : Jvm.MethodName)) ∈ zz_big := zz_in 699 rfl rfl
set_option maxRecDepth 100000 in
theorem zk_32786506 : (Jvm.Cond.methodLink "DeclareFormsLaw" (98 : Nat) ({ cls := "DeclareForms", name := "check", desc := "()I" } : Jvm.MethodName)) ∈ zz_big := zz_in 227 rfl rfl
set_option maxRecDepth 100000 in
theorem zk_c8f53340 : (Jvm.Cond.code ({ cls := "DeclareFormsModel", name := "check", desc := "()I" } : Jvm.MethodName) prog_7_method_22_code (1 : Nat) (Option.some Jvm.ClassFile.FieldType.int)) ∈ zz_big := zz_in 704 rfl rfl
set_option maxRecDepth 100000 in
theorem zk_1e42d0d0 : (Jvm.Cond.methodLink "DeclareFormsLaw" (101 : Nat) ({ cls := "DeclareFormsModel", name := "check", desc := "()I" } : Jvm.MethodName)) ∈ zz_big := zz_in 701 rfl rfl
set_option maxRecDepth 100000 in
theorem zk_28e6573c : (Jvm.Cond.instanceMethod ({ cls := "DeclareFormsModel", name := "check", desc := "()I" } : Jvm.MethodName)) ∈ zz_big := zz_in 702 rfl rfl
set_option maxRecDepth 100000 in
theorem zk_0eebee04 : (Jvm.Cond.selects "DeclareFormsModel" ({ cls := "DeclareFormsModel", name := "check", desc := "()I" } : Jvm.MethodName) ({ cls := "DeclareFormsModel", name := "check", desc := "()I" } : Jvm.MethodName)) ∈ zz_big := zz_in 703 rfl rfl
set_option maxRecDepth 100000 in
theorem zk_dabce10c : (Jvm.Cond.code ({ cls := "DeclareForms", name := "lodge", desc := "()I" } : Jvm.MethodName) prog_1_method_11_code (1 : Nat) (Option.some Jvm.ClassFile.FieldType.int)) ∈ zz_big := zz_in 280 rfl rfl
set_option maxRecDepth 100000 in
theorem zk_a65e49f3 : (Jvm.Cond.methodLink "DeclareFormsLaw" (102 : Nat) ({ cls := "DeclareForms", name := "lodge", desc := "()I" } : Jvm.MethodName)) ∈ zz_big := zz_in 277 rfl rfl
set_option maxRecDepth 100000 in
theorem zk_e4e634d6 : (Jvm.Cond.instanceMethod ({ cls := "DeclareForms", name := "lodge", desc := "()I" } : Jvm.MethodName)) ∈ zz_big := zz_in 278 rfl rfl
set_option maxRecDepth 100000 in
theorem zk_6e57d6ff : (Jvm.Cond.selects "DeclareForms" ({ cls := "DeclareForms", name := "lodge", desc := "()I" } : Jvm.MethodName) ({ cls := "DeclareForms", name := "lodge", desc := "()I" } : Jvm.MethodName)) ∈ zz_big := zz_in 279 rfl rfl
set_option maxRecDepth 100000 in
theorem zk_8b1b51f7 : (Jvm.Cond.code ({ cls := "DeclareFormsModel", name := "lodge", desc := "()I" } : Jvm.MethodName) prog_7_method_23_code (1 : Nat) (Option.some Jvm.ClassFile.FieldType.int)) ∈ zz_big := zz_in 729 rfl rfl
set_option maxRecDepth 100000 in
theorem zk_e68587bf : (Jvm.Cond.methodLink "DeclareFormsLaw" (105 : Nat) ({ cls := "DeclareFormsModel", name := "lodge", desc := "()I" } : Jvm.MethodName)) ∈ zz_big := zz_in 726 rfl rfl
set_option maxRecDepth 100000 in
theorem zk_a93e4e19 : (Jvm.Cond.instanceMethod ({ cls := "DeclareFormsModel", name := "lodge", desc := "()I" } : Jvm.MethodName)) ∈ zz_big := zz_in 727 rfl rfl
set_option maxRecDepth 100000 in
theorem zk_b13e7c89 : (Jvm.Cond.selects "DeclareFormsModel" ({ cls := "DeclareFormsModel", name := "lodge", desc := "()I" } : Jvm.MethodName) ({ cls := "DeclareFormsModel", name := "lodge", desc := "()I" } : Jvm.MethodName)) ∈ zz_big := zz_in 728 rfl rfl
set_option maxRecDepth 100000 in
theorem zk_53adebf8 : (Jvm.Cond.codeWith ({ cls := "DeclareFormsLaw", name := "amend", desc := "(LDeclareForms;IIJ[J)I" } : Jvm.MethodName) method_7_code (7 : Nat) (Option.some Jvm.ClassFile.FieldType.int) [((0 : Nat), (12 : Nat), (15 : Nat), (19 : Nat)), ((0 : Nat), (12 : Nat), (19 : Nat), (13 : Nat))]) ∈ zz_big := zz_in 496 rfl rfl
set_option maxRecDepth 100000 in
theorem zk_e66c1ea9 : (Jvm.Cond.methodLink "DeclareFormsLaw" (106 : Nat) ({ cls := "DeclareFormsLaw", name := "amend", desc := "(LDeclareForms;IIJ[J)I" } : Jvm.MethodName)) ∈ zz_big := zz_in 494 rfl rfl
set_option maxRecDepth 100000 in
theorem zk_c8a09942 : (Jvm.Cond.static ({ cls := "DeclareFormsLaw", name := "amend", desc := "(LDeclareForms;IIJ[J)I" } : Jvm.MethodName)) ∈ zz_big := zz_in 495 rfl rfl
set_option maxRecDepth 100000 in
theorem zk_4573c7fc : (Jvm.Cond.code ({ cls := "DeclareFormsModel", name := "amend", desc := "(IIJ)I" } : Jvm.MethodName) prog_7_method_24_code (7 : Nat) (Option.some Jvm.ClassFile.FieldType.int)) ∈ zz_big := zz_in 733 rfl rfl
set_option maxRecDepth 100000 in
theorem zk_30c964a0 : (Jvm.Cond.methodLink "DeclareFormsLaw" (108 : Nat) ({ cls := "DeclareFormsModel", name := "amend", desc := "(IIJ)I" } : Jvm.MethodName)) ∈ zz_big := zz_in 730 rfl rfl
set_option maxRecDepth 100000 in
theorem zk_8aec31e8 : (Jvm.Cond.instanceMethod ({ cls := "DeclareFormsModel", name := "amend", desc := "(IIJ)I" } : Jvm.MethodName)) ∈ zz_big := zz_in 731 rfl rfl
set_option maxRecDepth 100000 in
theorem zk_70e0b51b : (Jvm.Cond.selects "DeclareFormsModel" ({ cls := "DeclareFormsModel", name := "amend", desc := "(IIJ)I" } : Jvm.MethodName) ({ cls := "DeclareFormsModel", name := "amend", desc := "(IIJ)I" } : Jvm.MethodName)) ∈ zz_big := zz_in 732 rfl rfl
set_option maxRecDepth 100000 in
theorem zk_8865d7e8 : (Jvm.Cond.code ({ cls := "DeclareForms", name := "paper", desc := "(II)Z" } : Jvm.MethodName) prog_1_method_13_code (3 : Nat) (Option.some Jvm.ClassFile.FieldType.boolean)) ∈ zz_big := zz_in 285 rfl rfl
set_option maxRecDepth 100000 in
theorem zk_c832b7eb : (Jvm.Cond.methodLink "DeclareFormsLaw" (109 : Nat) ({ cls := "DeclareForms", name := "paper", desc := "(II)Z" } : Jvm.MethodName)) ∈ zz_big := zz_in 282 rfl rfl
set_option maxRecDepth 100000 in
theorem zk_3b764f8c : (Jvm.Cond.instanceMethod ({ cls := "DeclareForms", name := "paper", desc := "(II)Z" } : Jvm.MethodName)) ∈ zz_big := zz_in 283 rfl rfl
set_option maxRecDepth 100000 in
theorem zk_7401595b : (Jvm.Cond.selects "DeclareForms" ({ cls := "DeclareForms", name := "paper", desc := "(II)Z" } : Jvm.MethodName) ({ cls := "DeclareForms", name := "paper", desc := "(II)Z" } : Jvm.MethodName)) ∈ zz_big := zz_in 284 rfl rfl
set_option maxRecDepth 100000 in
theorem zk_0941bab0 : (Jvm.Cond.code ({ cls := "DeclareFormsModel", name := "paper", desc := "(II)Z" } : Jvm.MethodName) prog_7_method_26_code (3 : Nat) (Option.some Jvm.ClassFile.FieldType.boolean)) ∈ zz_big := zz_in 737 rfl rfl
set_option maxRecDepth 100000 in
theorem zk_3bf42102 : (Jvm.Cond.methodLink "DeclareFormsLaw" (112 : Nat) ({ cls := "DeclareFormsModel", name := "paper", desc := "(II)Z" } : Jvm.MethodName)) ∈ zz_big := zz_in 734 rfl rfl
set_option maxRecDepth 100000 in
theorem zk_e98e7ce8 : (Jvm.Cond.instanceMethod ({ cls := "DeclareFormsModel", name := "paper", desc := "(II)Z" } : Jvm.MethodName)) ∈ zz_big := zz_in 735 rfl rfl
set_option maxRecDepth 100000 in
theorem zk_0e9483fc : (Jvm.Cond.selects "DeclareFormsModel" ({ cls := "DeclareFormsModel", name := "paper", desc := "(II)Z" } : Jvm.MethodName) ({ cls := "DeclareFormsModel", name := "paper", desc := "(II)Z" } : Jvm.MethodName)) ∈ zz_big := zz_in 736 rfl rfl
set_option maxRecDepth 100000 in
theorem zk_d2cd05b2 : (Jvm.Cond.codeWith ({ cls := "DeclareFormsLaw", name := "draw", desc := "(LDeclareForms;III[J)I" } : Jvm.MethodName) method_8_code (6 : Nat) (Option.some Jvm.ClassFile.FieldType.int) [((0 : Nat), (12 : Nat), (15 : Nat), (19 : Nat))]) ∈ zz_big := zz_in 504 rfl rfl
set_option maxRecDepth 100000 in
theorem zk_54c3973b : (Jvm.Cond.methodLink "DeclareFormsLaw" (113 : Nat) ({ cls := "DeclareFormsLaw", name := "draw", desc := "(LDeclareForms;III[J)I" } : Jvm.MethodName)) ∈ zz_big := zz_in 502 rfl rfl
set_option maxRecDepth 100000 in
theorem zk_3d61b6f5 : (Jvm.Cond.static ({ cls := "DeclareFormsLaw", name := "draw", desc := "(LDeclareForms;III[J)I" } : Jvm.MethodName)) ∈ zz_big := zz_in 503 rfl rfl
set_option maxRecDepth 100000 in
theorem zk_b3ea1c1c : (Jvm.Cond.code ({ cls := "DeclareFormsModel", name := "draw", desc := "(III)I" } : Jvm.MethodName) prog_7_method_27_code (5 : Nat) (Option.some Jvm.ClassFile.FieldType.int)) ∈ zz_big := zz_in 746 rfl rfl
set_option maxRecDepth 100000 in
theorem zk_cf7d141f : (Jvm.Cond.methodLink "DeclareFormsLaw" (116 : Nat) ({ cls := "DeclareFormsModel", name := "draw", desc := "(III)I" } : Jvm.MethodName)) ∈ zz_big := zz_in 743 rfl rfl
set_option maxRecDepth 100000 in
theorem zk_61036efd : (Jvm.Cond.instanceMethod ({ cls := "DeclareFormsModel", name := "draw", desc := "(III)I" } : Jvm.MethodName)) ∈ zz_big := zz_in 744 rfl rfl
set_option maxRecDepth 100000 in
theorem zk_f7397c42 : (Jvm.Cond.selects "DeclareFormsModel" ({ cls := "DeclareFormsModel", name := "draw", desc := "(III)I" } : Jvm.MethodName) ({ cls := "DeclareFormsModel", name := "draw", desc := "(III)I" } : Jvm.MethodName)) ∈ zz_big := zz_in 745 rfl rfl
set_option maxRecDepth 100000 in
theorem zk_211c376e : (Jvm.Cond.codeWith ({ cls := "DeclareFormsLaw", name := "sum", desc := "(LDeclareForms;I[J)I" } : Jvm.MethodName) method_9_code (4 : Nat) (Option.some Jvm.ClassFile.FieldType.int) [((0 : Nat), (8 : Nat), (11 : Nat), (19 : Nat))]) ∈ zz_big := zz_in 517 rfl rfl
set_option maxRecDepth 100000 in
theorem zk_b7a26965 : (Jvm.Cond.methodLink "DeclareFormsLaw" (117 : Nat) ({ cls := "DeclareFormsLaw", name := "sum", desc := "(LDeclareForms;I[J)I" } : Jvm.MethodName)) ∈ zz_big := zz_in 515 rfl rfl
set_option maxRecDepth 100000 in
theorem zk_b843a36d : (Jvm.Cond.static ({ cls := "DeclareFormsLaw", name := "sum", desc := "(LDeclareForms;I[J)I" } : Jvm.MethodName)) ∈ zz_big := zz_in 516 rfl rfl
set_option maxRecDepth 100000 in
theorem zk_61edd241 : (Jvm.Cond.code ({ cls := "DeclareFormsModel", name := "sum", desc := "(I)J" } : Jvm.MethodName) prog_7_method_28_code (2 : Nat) (Option.some Jvm.ClassFile.FieldType.long)) ∈ zz_big := zz_in 750 rfl rfl
set_option maxRecDepth 100000 in
theorem zk_df95e78c : (Jvm.Cond.methodLink "DeclareFormsLaw" (119 : Nat) ({ cls := "DeclareFormsModel", name := "sum", desc := "(I)J" } : Jvm.MethodName)) ∈ zz_big := zz_in 747 rfl rfl
set_option maxRecDepth 100000 in
theorem zk_7b4d31b1 : (Jvm.Cond.instanceMethod ({ cls := "DeclareFormsModel", name := "sum", desc := "(I)J" } : Jvm.MethodName)) ∈ zz_big := zz_in 748 rfl rfl
set_option maxRecDepth 100000 in
theorem zk_6b98f931 : (Jvm.Cond.selects "DeclareFormsModel" ({ cls := "DeclareFormsModel", name := "sum", desc := "(I)J" } : Jvm.MethodName) ({ cls := "DeclareFormsModel", name := "sum", desc := "(I)J" } : Jvm.MethodName)) ∈ zz_big := zz_in 749 rfl rfl
set_option maxRecDepth 100000 in
theorem zk_e5c98e88 : (Jvm.Cond.methodLink "DeclareFormsLaw" (120 : Nat) ({ cls := "DeclareForms", name := "pack", desc := "()I" } : Jvm.MethodName)) ∈ zz_big := zz_in 294 rfl rfl
set_option maxRecDepth 100000 in
theorem zk_60c63fd1 : (Jvm.Cond.code ({ cls := "DeclareFormsModel", name := "pack", desc := "()I" } : Jvm.MethodName) prog_7_method_30_code (1 : Nat) (Option.some Jvm.ClassFile.FieldType.int)) ∈ zz_big := zz_in 754 rfl rfl
set_option maxRecDepth 100000 in
theorem zk_fc1b1166 : (Jvm.Cond.methodLink "DeclareFormsLaw" (123 : Nat) ({ cls := "DeclareFormsModel", name := "pack", desc := "()I" } : Jvm.MethodName)) ∈ zz_big := zz_in 751 rfl rfl
set_option maxRecDepth 100000 in
theorem zk_b759ff55 : (Jvm.Cond.instanceMethod ({ cls := "DeclareFormsModel", name := "pack", desc := "()I" } : Jvm.MethodName)) ∈ zz_big := zz_in 752 rfl rfl
set_option maxRecDepth 100000 in
theorem zk_902eefe9 : (Jvm.Cond.selects "DeclareFormsModel" ({ cls := "DeclareFormsModel", name := "pack", desc := "()I" } : Jvm.MethodName) ({ cls := "DeclareFormsModel", name := "pack", desc := "()I" } : Jvm.MethodName)) ∈ zz_big := zz_in 753 rfl rfl
set_option maxRecDepth 100000 in
theorem zk_db2f9799 : (Jvm.Cond.codeWith ({ cls := "DeclareFormsLaw", name := "octet", desc := "(LDeclareForms;I[J)I" } : Jvm.MethodName) method_10_code (4 : Nat) (Option.some Jvm.ClassFile.FieldType.int) [((0 : Nat), (9 : Nat), (12 : Nat), (44 : Nat))]) ∈ zz_big := zz_in 526 rfl rfl
set_option maxRecDepth 100000 in
theorem zk_3371e754 : (Jvm.Cond.methodLink "DeclareFormsLaw" (124 : Nat) ({ cls := "DeclareFormsLaw", name := "octet", desc := "(LDeclareForms;I[J)I" } : Jvm.MethodName)) ∈ zz_big := zz_in 524 rfl rfl
set_option maxRecDepth 100000 in
theorem zk_8d34c0e7 : (Jvm.Cond.static ({ cls := "DeclareFormsLaw", name := "octet", desc := "(LDeclareForms;I[J)I" } : Jvm.MethodName)) ∈ zz_big := zz_in 525 rfl rfl
set_option maxRecDepth 100000 in
theorem zk_d8995f75 : (Jvm.Cond.code ({ cls := "DeclareFormsModel", name := "octet", desc := "(I)B" } : Jvm.MethodName) prog_7_method_32_code (6 : Nat) (Option.some Jvm.ClassFile.FieldType.byte)) ∈ zz_big := zz_in 762 rfl rfl
set_option maxRecDepth 100000 in
theorem zk_545e9a28 : (Jvm.Cond.methodLink "DeclareFormsLaw" (126 : Nat) ({ cls := "DeclareFormsModel", name := "octet", desc := "(I)B" } : Jvm.MethodName)) ∈ zz_big := zz_in 759 rfl rfl
set_option maxRecDepth 100000 in
theorem zk_ac38c6c4 : (Jvm.Cond.instanceMethod ({ cls := "DeclareFormsModel", name := "octet", desc := "(I)B" } : Jvm.MethodName)) ∈ zz_big := zz_in 760 rfl rfl
set_option maxRecDepth 100000 in
theorem zk_28f647fe : (Jvm.Cond.selects "DeclareFormsModel" ({ cls := "DeclareFormsModel", name := "octet", desc := "(I)B" } : Jvm.MethodName) ({ cls := "DeclareFormsModel", name := "octet", desc := "(I)B" } : Jvm.MethodName)) ∈ zz_big := zz_in 761 rfl rfl
set_option maxRecDepth 100000 in
theorem zk_20b1a5d6 : (Jvm.Cond.code ({ cls := "DeclareForms", name := "read", desc := "(B)I" } : Jvm.MethodName) prog_1_method_18_code (2 : Nat) (Option.some Jvm.ClassFile.FieldType.int)) ∈ zz_big := zz_in 305 rfl rfl
set_option maxRecDepth 100000 in
theorem zk_4bb4b6f4 : (Jvm.Cond.methodLink "DeclareFormsLaw" (127 : Nat) ({ cls := "DeclareForms", name := "read", desc := "(B)I" } : Jvm.MethodName)) ∈ zz_big := zz_in 302 rfl rfl
set_option maxRecDepth 100000 in
theorem zk_d5b2c901 : (Jvm.Cond.instanceMethod ({ cls := "DeclareForms", name := "read", desc := "(B)I" } : Jvm.MethodName)) ∈ zz_big := zz_in 303 rfl rfl
set_option maxRecDepth 100000 in
theorem zk_b3b756c2 : (Jvm.Cond.selects "DeclareForms" ({ cls := "DeclareForms", name := "read", desc := "(B)I" } : Jvm.MethodName) ({ cls := "DeclareForms", name := "read", desc := "(B)I" } : Jvm.MethodName)) ∈ zz_big := zz_in 304 rfl rfl
set_option maxRecDepth 100000 in
theorem zk_3c5bab38 : (Jvm.Cond.code ({ cls := "DeclareFormsModel", name := "read", desc := "(B)I" } : Jvm.MethodName) prog_7_method_36_code (7 : Nat) (Option.some Jvm.ClassFile.FieldType.int)) ∈ zz_big := zz_in 770 rfl rfl
set_option maxRecDepth 100000 in
theorem zk_0706d42f : (Jvm.Cond.methodLink "DeclareFormsLaw" (131 : Nat) ({ cls := "DeclareFormsModel", name := "read", desc := "(B)I" } : Jvm.MethodName)) ∈ zz_big := zz_in 767 rfl rfl
set_option maxRecDepth 100000 in
theorem zk_b54a9c7a : (Jvm.Cond.instanceMethod ({ cls := "DeclareFormsModel", name := "read", desc := "(B)I" } : Jvm.MethodName)) ∈ zz_big := zz_in 768 rfl rfl
set_option maxRecDepth 100000 in
theorem zk_85411e12 : (Jvm.Cond.selects "DeclareFormsModel" ({ cls := "DeclareFormsModel", name := "read", desc := "(B)I" } : Jvm.MethodName) ({ cls := "DeclareFormsModel", name := "read", desc := "(B)I" } : Jvm.MethodName)) ∈ zz_big := zz_in 769 rfl rfl
set_option maxRecDepth 100000 in
theorem zk_4c2a8ca5 : (Jvm.Cond.code ({ cls := "DeclareForms", name := "count", desc := "(I)I" } : Jvm.MethodName) prog_1_method_19_code (2 : Nat) (Option.some Jvm.ClassFile.FieldType.int)) ∈ zz_big := zz_in 344 rfl rfl
set_option maxRecDepth 100000 in
theorem zk_bd6aa137 : (Jvm.Cond.methodLink "DeclareFormsLaw" (132 : Nat) ({ cls := "DeclareForms", name := "count", desc := "(I)I" } : Jvm.MethodName)) ∈ zz_big := zz_in 341 rfl rfl
set_option maxRecDepth 100000 in
theorem zk_38abb1b5 : (Jvm.Cond.instanceMethod ({ cls := "DeclareForms", name := "count", desc := "(I)I" } : Jvm.MethodName)) ∈ zz_big := zz_in 342 rfl rfl
set_option maxRecDepth 100000 in
theorem zk_0fb0bdb6 : (Jvm.Cond.selects "DeclareForms" ({ cls := "DeclareForms", name := "count", desc := "(I)I" } : Jvm.MethodName) ({ cls := "DeclareForms", name := "count", desc := "(I)I" } : Jvm.MethodName)) ∈ zz_big := zz_in 343 rfl rfl
set_option maxRecDepth 100000 in
theorem zk_8a9c3deb : (Jvm.Cond.code ({ cls := "DeclareFormsModel", name := "count", desc := "(I)I" } : Jvm.MethodName) prog_7_method_37_code (5 : Nat) (Option.some Jvm.ClassFile.FieldType.int)) ∈ zz_big := zz_in 788 rfl rfl
set_option maxRecDepth 100000 in
theorem zk_3a1d1bf3 : (Jvm.Cond.methodLink "DeclareFormsLaw" (135 : Nat) ({ cls := "DeclareFormsModel", name := "count", desc := "(I)I" } : Jvm.MethodName)) ∈ zz_big := zz_in 785 rfl rfl
set_option maxRecDepth 100000 in
theorem zk_8e6ee69c : (Jvm.Cond.instanceMethod ({ cls := "DeclareFormsModel", name := "count", desc := "(I)I" } : Jvm.MethodName)) ∈ zz_big := zz_in 786 rfl rfl
set_option maxRecDepth 100000 in
theorem zk_b75de5f1 : (Jvm.Cond.selects "DeclareFormsModel" ({ cls := "DeclareFormsModel", name := "count", desc := "(I)I" } : Jvm.MethodName) ({ cls := "DeclareFormsModel", name := "count", desc := "(I)I" } : Jvm.MethodName)) ∈ zz_big := zz_in 787 rfl rfl
set_option maxRecDepth 100000 in
theorem zk_fa1d25a7 : (Jvm.Cond.code ({ cls := "DeclareFormsLaw", name := "cell", desc := "([II)I" } : Jvm.MethodName) method_2_code (2 : Nat) (Option.some Jvm.ClassFile.FieldType.int)) ∈ zz_big := zz_in 367 rfl rfl
set_option maxRecDepth 100000 in
theorem zk_bb1c1728 : (Jvm.Cond.instantiable "DeclareForms" (7 : Nat)) ∈ zz_big := zz_in 41 rfl rfl
set_option maxRecDepth 100000 in
theorem zk_fdd65885 : (Jvm.Cond.instantiable "DeclareFormsModel" (22 : Nat)) ∈ zz_big := zz_in 561 rfl rfl
set_option maxRecDepth 100000 in
theorem zk_49001bd0 : (Jvm.Cond.classLink "DeclareFormsLaw" (8 : Nat) "DeclareForms") ∈ zz_big := zz_in 40 rfl rfl
set_option maxRecDepth 100000 in
theorem zk_b5215fa7 : (Jvm.Cond.methodLink "DeclareFormsLaw" (46 : Nat) ({ cls := "DeclareFormsLaw", name := "cell", desc := "([II)I" } : Jvm.MethodName)) ∈ zz_big := zz_in 365 rfl rfl
set_option maxRecDepth 100000 in
theorem zk_ef0bd464 : (Jvm.Cond.static ({ cls := "DeclareFormsLaw", name := "cell", desc := "([II)I" } : Jvm.MethodName)) ∈ zz_big := zz_in 366 rfl rfl
set_option maxRecDepth 100000 in
theorem zk_050f253c : (Jvm.Cond.code ({ cls := "DeclareForms", name := "<init>", desc := "(I)V" } : Jvm.MethodName) prog_1_method_1_code (2 : Nat) (Option.none : Option Jvm.ClassFile.FieldType)) ∈ zz_big := zz_in 44 rfl rfl
set_option maxRecDepth 100000 in
theorem zk_b3919ff1 : (Jvm.Cond.methodLink "DeclareFormsLaw" (52 : Nat) ({ cls := "DeclareForms", name := "<init>", desc := "(I)V" } : Jvm.MethodName)) ∈ zz_big := zz_in 42 rfl rfl
set_option maxRecDepth 100000 in
theorem zk_a05015ba : (Jvm.Cond.instanceMethod ({ cls := "DeclareForms", name := "<init>", desc := "(I)V" } : Jvm.MethodName)) ∈ zz_big := zz_in 43 rfl rfl
set_option maxRecDepth 100000 in
theorem zk_306e8dab : (Jvm.Cond.classLink "DeclareFormsLaw" (55 : Nat) "DeclareFormsModel") ∈ zz_big := zz_in 560 rfl rfl
set_option maxRecDepth 100000 in
theorem zk_76c071c5 : (Jvm.Cond.code ({ cls := "DeclareFormsModel", name := "<init>", desc := "(I)V" } : Jvm.MethodName) prog_7_method_1_code (3 : Nat) (Option.none : Option Jvm.ClassFile.FieldType)) ∈ zz_big := zz_in 564 rfl rfl
set_option maxRecDepth 100000 in
theorem zk_246e08e5 : (Jvm.Cond.methodLink "DeclareFormsLaw" (57 : Nat) ({ cls := "DeclareFormsModel", name := "<init>", desc := "(I)V" } : Jvm.MethodName)) ∈ zz_big := zz_in 562 rfl rfl
set_option maxRecDepth 100000 in
theorem zk_5be0998f : (Jvm.Cond.instanceMethod ({ cls := "DeclareFormsModel", name := "<init>", desc := "(I)V" } : Jvm.MethodName)) ∈ zz_big := zz_in 563 rfl rfl
set_option maxRecDepth 100000 in
theorem zk_4996df05 : (Jvm.Cond.lays "DeclareFormsModel" "DeclareFormsModel" "thrown" "I") ∈ zz_big := zz_in 589 rfl rfl
set_option maxRecDepth 100000 in
theorem zk_c340bb10 : (Jvm.Cond.laysFinal "DeclareFormsModel" "DeclareFormsModel" "kind" "I") ∈ zz_big := zz_in 591 rfl rfl
set_option maxRecDepth 100000 in
theorem zk_1ced6b96 : (Jvm.Cond.lays "DeclareFormsModel" "DeclareFormsModel" "lines" "I") ∈ zz_big := zz_in 593 rfl rfl
set_option maxRecDepth 100000 in
theorem zk_ba9fa6f6 : (Jvm.Cond.laysFinal "DeclareFormsModel" "DeclareFormsModel" "gone" "[Z") ∈ zz_big := zz_in 595 rfl rfl
set_option maxRecDepth 100000 in
theorem zk_a1249f08 : (Jvm.Cond.laysFinal "DeclareFormsModel" "DeclareFormsModel" "value" "[J") ∈ zz_big := zz_in 597 rfl rfl
set_option maxRecDepth 100000 in
theorem zk_4fa62a62 : (Jvm.Cond.lays "DeclareFormsModel" "DeclareFormsModel" "lodged" "Z") ∈ zz_big := zz_in 599 rfl rfl
set_option maxRecDepth 100000 in
theorem zk_5fa165d9 : (Jvm.Cond.lays "DeclareFormsModel" "DeclareFormsModel" "today" "I") ∈ zz_big := zz_in 601 rfl rfl
set_option maxRecDepth 100000 in
theorem zk_b1ddceb6 : (Jvm.Cond.lays "DeclareFormsModel" "DeclareFormsModel" "codes" "I") ∈ zz_big := zz_in 603 rfl rfl
set_option maxRecDepth 100000 in
theorem zk_7a2678e3 : (Jvm.Cond.laysFinal "DeclareFormsModel" "DeclareFormsModel" "codeOf" "[J") ∈ zz_big := zz_in 605 rfl rfl
set_option maxRecDepth 100000 in
theorem zk_1d64fb6b : (Jvm.Cond.laysFinal "DeclareFormsModel" "DeclareFormsModel" "until" "[I") ∈ zz_big := zz_in 607 rfl rfl
set_option maxRecDepth 100000 in
theorem zk_bf41d8ce : (Jvm.Cond.lays "DeclareFormsModel" "DeclareFormsModel" "papers" "I") ∈ zz_big := zz_in 609 rfl rfl
set_option maxRecDepth 100000 in
theorem zk_5585b994 : (Jvm.Cond.laysFinal "DeclareFormsModel" "DeclareFormsModel" "paperNumber" "[I") ∈ zz_big := zz_in 611 rfl rfl
set_option maxRecDepth 100000 in
theorem zk_81ed4590 : (Jvm.Cond.laysFinal "DeclareFormsModel" "DeclareFormsModel" "balance" "[I") ∈ zz_big := zz_in 613 rfl rfl
set_option maxRecDepth 100000 in
theorem zk_2467ccae : (Jvm.Cond.laysFinal "DeclareFormsModel" "DeclareFormsModel" "drawn" "[I") ∈ zz_big := zz_in 615 rfl rfl
set_option maxRecDepth 100000 in
theorem zk_e0a743f5 : (Jvm.Cond.lays "DeclareFormsModel" "DeclareFormsModel" "came" "I") ∈ zz_big := zz_in 617 rfl rfl
set_option maxRecDepth 100000 in
theorem zk_db2a08a4 : (Jvm.Cond.lays "DeclareFormsModel" "DeclareFormsModel" "rowKind" "I") ∈ zz_big := zz_in 619 rfl rfl
set_option maxRecDepth 100000 in
theorem zk_21f9ef53 : (Jvm.Cond.lays "DeclareFormsModel" "DeclareFormsModel" "rowCount" "I") ∈ zz_big := zz_in 621 rfl rfl
set_option maxRecDepth 100000 in
theorem zk_beb18dbe : (Jvm.Cond.lays "DeclareFormsModel" "DeclareFormsModel" "before" "I") ∈ zz_big := zz_in 623 rfl rfl
set_option maxRecDepth 100000 in
theorem zk_872d27df : (Jvm.Cond.lays "DeclareFormsModel" "DeclareFormsModel" "fieldThere" "I") ∈ zz_big := zz_in 625 rfl rfl
set_option maxRecDepth 100000 in
theorem zk_2dcb078b : (Jvm.Cond.lays "DeclareFormsModel" "DeclareFormsModel" "valueThere" "J") ∈ zz_big := zz_in 627 rfl rfl
set_option maxRecDepth 100000 in
theorem zk_3a8e6947 : (Jvm.Cond.lays "DeclareFormsModel" "DeclareFormsModel" "rowsRead" "I") ∈ zz_big := zz_in 629 rfl rfl
set_option maxRecDepth 100000 in
theorem zk_270769e8 : (Jvm.Cond.lays "DeclareFormsModel" "DeclareFormsModel" "latest" "I") ∈ zz_big := zz_in 631 rfl rfl
theorem zi_M : ∀ w ∈ u_ws zr_M zF_M 22, w ∈ zz_big := by
  intro w hw
  obtain ⟨k, hk, rfl⟩ := List.mem_map.mp hw
  have hk := List.mem_range.mp hk
  match k, hk with
  | 0, _ => exact zk_4996df05
  | 1, _ => exact zk_c340bb10
  | 2, _ => exact zk_1ced6b96
  | 3, _ => exact zk_ba9fa6f6
  | 4, _ => exact zk_a1249f08
  | 5, _ => exact zk_4fa62a62
  | 6, _ => exact zk_5fa165d9
  | 7, _ => exact zk_b1ddceb6
  | 8, _ => exact zk_7a2678e3
  | 9, _ => exact zk_1d64fb6b
  | 10, _ => exact zk_bf41d8ce
  | 11, _ => exact zk_5585b994
  | 12, _ => exact zk_81ed4590
  | 13, _ => exact zk_2467ccae
  | 14, _ => exact zk_e0a743f5
  | 15, _ => exact zk_db2a08a4
  | 16, _ => exact zk_21f9ef53
  | 17, _ => exact zk_beb18dbe
  | 18, _ => exact zk_872d27df
  | 19, _ => exact zk_2dcb078b
  | 20, _ => exact zk_3a8e6947
  | 21, _ => exact zk_270769e8
  | (j + 22), h => omega
/-! long arrays by a number's place; a counter that starts at a base -/
theorem zz_add0 (b : Int32) : b + nI 0 = b := by rw [nI_0]; exact Int32.add_zero b
theorem zz_incb (b : Int32) (k : Nat) : (b + nI k) + 1 = b + nI (k + 1) := by rw [Int32.add_assoc, nI_1]
section ZL
variable {p : Program} {l : Launch} {e : Env} {R : Room} {s : State} {m : MethodId} {args : Array Value} {below : List Frame} {meth : Method} {c : Code} {H : Heap} {locs : List Loc} {cells slots : Nat} {Q : State → Prop}
variable {cc : ByteArray} {pc : Nat} {ls : Array Slot} {rest st0 : List Value} {A : Nat → Prop} {D : va_G} {tys : List (ClassId × FieldType)} {ws : va_W}
theorem zz_lald (hx : p.tables.exec = Jvm.exec) (hb : c.code = cc) (hK : va_K D zz_cl tys s) (hP : va_P D zz_cl ws H) (q0 t0 : Nat) {a : Nat} {cA : ClassId} {n : Nat} {f : Nat → Int64} (ha : ws[q0]? = some (a, .inl (cA, n, .inr (.inl f)))) (ht : tys[t0]? = some (cA, .long)) {k : Nat} (hk : k < n) (hn : n < 2 ^ 31) (hdg : decode cc pc = .ok (.laload, 1))
    (kk : W p l e R s m args below meth c H locs cells slots Q (F0 m (pc + 1) ls (.long (f k) :: rest))) : W p l e R s m args below meth c H locs cells slots Q (F0 m pc ls (.int (nI k) :: .ref a :: rest)) := by
  refine va_lald hx hb hK hP q0 t0 ha ht (vp_in_nI hk hn) hdg ?_
  rw [nI_clamp (Nat.lt_trans hk hn)]
  exact kk
theorem zz_last (hx : p.tables.exec = Jvm.exec) (hb : c.code = cc) (hK : va_K D zz_cl tys s) (hP : va_P D zz_cl ws H) (hD : va_D A ws) (hS : va_S A s.heap H locs) (q0 t0 : Nat) {a : Nat} {cA : ClassId} {n : Nat} {f : Nat → Int64} (ha : ws[q0]? = some (a, .inl (cA, n, .inr (.inl f)))) (ht : tys[t0]? = some (cA, .long)) {k : Nat} {x : Int64} (hk : k < n) (hn : n < 2 ^ 31) (hdg : decode cc pc = .ok (.lastore, 1))
    (kk : ∀ (H1 : Heap) (locs1 : List Loc), va_P D zz_cl (ws.set q0 (a, .inl (cA, n, .inr (.inl (vp_updL f k x))))) H1 → va_D A (ws.set q0 (a, .inl (cA, n, .inr (.inl (vp_updL f k x))))) → va_S A s.heap H1 locs1 → W p l e R s m args below meth c H1 locs1 cells slots Q (F0 m (pc + 1) ls rest)) : W p l e R s m args below meth c H locs cells slots Q (F0 m pc ls (.long x :: .int (nI k) :: .ref a :: rest)) := by
  refine va_last hx hb hK hP hD hS q0 t0 ha ht (vp_in_nI hk hn) hdg ?_
  rw [nI_clamp (Nat.lt_trans hk hn)]
  exact kk
end ZL

