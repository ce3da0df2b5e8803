section
-- ===== PART A: goes FIRST, ahead of the names: the tables' words, and 'selects' of the private methods out of them =====
/-- a private method of a class that the tables say can be made, by its rows of tables_1 -/
def lw_okq (q : MethodName × Nat) : Prop := (q.1.cls ≠ "java/lang/invoke/MethodHandle" ∧ q.1.cls ≠ "java/lang/invoke/VarHandle") ∧ Cond.instantiable q.1.cls q.2 ∈ tables_1 ∧ Cond.privateMethod q.1 ∈ tables_1 ∧ Cond.instanceMethod q.1 ∈ tables_1
theorem lw_p0 : lw_okq (⟨"DeclareForms$Codes", "find", "(I)I"⟩, 3) := ⟨⟨by decide +kernel, by decide +kernel⟩, List.mem_of_getElem? (i := 57) (by decide +kernel), List.mem_of_getElem? (i := 195) (by decide +kernel), List.mem_of_getElem? (i := 196) (by decide +kernel)⟩
theorem lw_p1 : lw_okq (⟨"DeclareForms", "firstWithoutGoodCode", "()I"⟩, 7) := ⟨⟨by decide +kernel, by decide +kernel⟩, List.mem_of_getElem? (i := 16) (by decide +kernel), List.mem_of_getElem? (i := 239) (by decide +kernel), List.mem_of_getElem? (i := 240) (by decide +kernel)⟩
theorem lw_p2 : lw_okq (⟨"DeclareForms$Reader", "stands", "(I)Z"⟩, 9) := ⟨⟨by decide +kernel, by decide +kernel⟩, List.mem_of_getElem? (i := 92) (by decide +kernel), List.mem_of_getElem? (i := 286) (by decide +kernel), List.mem_of_getElem? (i := 287) (by decide +kernel)⟩
theorem lw_p3 : lw_okq (⟨"DeclareForms$Reader", "takeKind", "(I)Z"⟩, 9) := ⟨⟨by decide +kernel, by decide +kernel⟩, List.mem_of_getElem? (i := 92) (by decide +kernel), List.mem_of_getElem? (i := 290) (by decide +kernel), List.mem_of_getElem? (i := 291) (by decide +kernel)⟩
theorem lw_p4 : lw_okq (⟨"DeclareForms$Reader", "takeHigher", "(I)Z"⟩, 9) := ⟨⟨by decide +kernel, by decide +kernel⟩, List.mem_of_getElem? (i := 92) (by decide +kernel), List.mem_of_getElem? (i := 294) (by decide +kernel), List.mem_of_getElem? (i := 295) (by decide +kernel)⟩
theorem lw_p5 : lw_okq (⟨"DeclareForms$Reader", "takeLower", "(I)Z"⟩, 9) := ⟨⟨by decide +kernel, by decide +kernel⟩, List.mem_of_getElem? (i := 92) (by decide +kernel), List.mem_of_getElem? (i := 298) (by decide +kernel), List.mem_of_getElem? (i := 299) (by decide +kernel)⟩
theorem lw_p6 : lw_okq (⟨"DeclareForms$Reader", "takeField", "(I)Z"⟩, 9) := ⟨⟨by decide +kernel, by decide +kernel⟩, List.mem_of_getElem? (i := 92) (by decide +kernel), List.mem_of_getElem? (i := 302) (by decide +kernel), List.mem_of_getElem? (i := 303) (by decide +kernel)⟩
theorem lw_p7 : lw_okq (⟨"DeclareForms$Reader", "takeLine", "(I)Z"⟩, 9) := ⟨⟨by decide +kernel, by decide +kernel⟩, List.mem_of_getElem? (i := 92) (by decide +kernel), List.mem_of_getElem? (i := 307) (by decide +kernel), List.mem_of_getElem? (i := 308) (by decide +kernel)⟩
theorem lw_p8 : lw_okq (⟨"DeclareForms$Reader", "takeValue", "(I)Z"⟩, 9) := ⟨⟨by decide +kernel, by decide +kernel⟩, List.mem_of_getElem? (i := 92) (by decide +kernel), List.mem_of_getElem? (i := 311) (by decide +kernel), List.mem_of_getElem? (i := 312) (by decide +kernel)⟩
theorem lw_p9 : lw_okq (⟨"java/lang/Throwable", "fillInStackTrace", "(I)Ljava/lang/Throwable;"⟩, 6) := ⟨⟨by decide +kernel, by decide +kernel⟩, List.mem_of_getElem? (i := 394) (by decide +kernel), List.mem_of_getElem? (i := 392) (by decide +kernel), List.mem_of_getElem? (i := 393) (by decide +kernel)⟩
theorem lw_p10 : lw_okq (⟨"DeclareForms", "packedByte", "(II)B"⟩, 7) := ⟨⟨by decide +kernel, by decide +kernel⟩, List.mem_of_getElem? (i := 16) (by decide +kernel), List.mem_of_getElem? (i := 532) (by decide +kernel), List.mem_of_getElem? (i := 533) (by decide +kernel)⟩
theorem lw_p11 : lw_okq (⟨"DeclareFormsModel", "refuse", "(I)I"⟩, 22) := ⟨⟨by decide +kernel, by decide +kernel⟩, List.mem_of_getElem? (i := 536) (by decide +kernel), List.mem_of_getElem? (i := 619) (by decide +kernel), List.mem_of_getElem? (i := 620) (by decide +kernel)⟩
theorem lw_p12 : lw_okq (⟨"DeclareFormsModel", "isLine", "(I)Z"⟩, 22) := ⟨⟨by decide +kernel, by decide +kernel⟩, List.mem_of_getElem? (i := 536) (by decide +kernel), List.mem_of_getElem? (i := 627) (by decide +kernel), List.mem_of_getElem? (i := 628) (by decide +kernel)⟩
theorem lw_p13 : lw_okq (⟨"DeclareFormsModel", "setIn", "(I)I"⟩, 22) := ⟨⟨by decide +kernel, by decide +kernel⟩, List.mem_of_getElem? (i := 536) (by decide +kernel), List.mem_of_getElem? (i := 631) (by decide +kernel), List.mem_of_getElem? (i := 632) (by decide +kernel)⟩
theorem lw_p14 : lw_okq (⟨"DeclareFormsModel", "isPlace", "(II)Z"⟩, 22) := ⟨⟨by decide +kernel, by decide +kernel⟩, List.mem_of_getElem? (i := 536) (by decide +kernel), List.mem_of_getElem? (i := 639) (by decide +kernel), List.mem_of_getElem? (i := 640) (by decide +kernel)⟩
theorem lw_p15 : lw_okq (⟨"DeclareFormsModel", "broken", "()I"⟩, 22) := ⟨⟨by decide +kernel, by decide +kernel⟩, List.mem_of_getElem? (i := 536) (by decide +kernel), List.mem_of_getElem? (i := 681) (by decide +kernel), List.mem_of_getElem? (i := 682) (by decide +kernel)⟩
def lw_privs_1 : List (MethodName × Nat) := [(⟨"DeclareForms$Codes", "find", "(I)I"⟩, 3), (⟨"DeclareForms", "firstWithoutGoodCode", "()I"⟩, 7), (⟨"DeclareForms$Reader", "stands", "(I)Z"⟩, 9), (⟨"DeclareForms$Reader", "takeKind", "(I)Z"⟩, 9), (⟨"DeclareForms$Reader", "takeHigher", "(I)Z"⟩, 9), (⟨"DeclareForms$Reader", "takeLower", "(I)Z"⟩, 9), (⟨"DeclareForms$Reader", "takeField", "(I)Z"⟩, 9), (⟨"DeclareForms$Reader", "takeLine", "(I)Z"⟩, 9), (⟨"DeclareForms$Reader", "takeValue", "(I)Z"⟩, 9), (⟨"java/lang/Throwable", "fillInStackTrace", "(I)Ljava/lang/Throwable;"⟩, 6), (⟨"DeclareForms", "packedByte", "(II)B"⟩, 7), (⟨"DeclareFormsModel", "refuse", "(I)I"⟩, 22), (⟨"DeclareFormsModel", "isLine", "(I)Z"⟩, 22), (⟨"DeclareFormsModel", "setIn", "(I)I"⟩, 22), (⟨"DeclareFormsModel", "isPlace", "(II)Z"⟩, 22), (⟨"DeclareFormsModel", "broken", "()I"⟩, 22)]
theorem lw_r1 : ∀ q ∈ lw_privs_1, lw_okq q := List.forall_mem_cons.mpr ⟨lw_p0, List.forall_mem_cons.mpr ⟨lw_p1, List.forall_mem_cons.mpr ⟨lw_p2, List.forall_mem_cons.mpr ⟨lw_p3, List.forall_mem_cons.mpr ⟨lw_p4, List.forall_mem_cons.mpr ⟨lw_p5, List.forall_mem_cons.mpr ⟨lw_p6, List.forall_mem_cons.mpr ⟨lw_p7, List.forall_mem_cons.mpr ⟨lw_p8, List.forall_mem_cons.mpr ⟨lw_p9, List.forall_mem_cons.mpr ⟨lw_p10, List.forall_mem_cons.mpr ⟨lw_p11, List.forall_mem_cons.mpr ⟨lw_p12, List.forall_mem_cons.mpr ⟨lw_p13, List.forall_mem_cons.mpr ⟨lw_p14, List.forall_mem_cons.mpr ⟨lw_p15, fun _ h => absurd h List.not_mem_nil⟩⟩⟩⟩⟩⟩⟩⟩⟩⟩⟩⟩⟩⟩⟩⟩
theorem lw_p16 : lw_okq (⟨"DeclareFormsModel", "isSum", "(I)Z"⟩, 22) := ⟨⟨by decide +kernel, by decide +kernel⟩, List.mem_of_getElem? (i := 536) (by decide +kernel), List.mem_of_getElem? (i := 686) (by decide +kernel), List.mem_of_getElem? (i := 687) (by decide +kernel)⟩
theorem lw_p17 : lw_okq (⟨"DeclareFormsModel", "sumOf", "(I)J"⟩, 22) := ⟨⟨by decide +kernel, by decide +kernel⟩, List.mem_of_getElem? (i := 536) (by decide +kernel), List.mem_of_getElem? (i := 690) (by decide +kernel), List.mem_of_getElem? (i := 691) (by decide +kernel)⟩
theorem lw_p18 : lw_okq (⟨"DeclareFormsModel", "isGood", "(J)Z"⟩, 22) := ⟨⟨by decide +kernel, by decide +kernel⟩, List.mem_of_getElem? (i := 536) (by decide +kernel), List.mem_of_getElem? (i := 696) (by decide +kernel), List.mem_of_getElem? (i := 697) (by decide +kernel)⟩
theorem lw_p19 : lw_okq (⟨"DeclareFormsModel", "paperOf", "(I)I"⟩, 22) := ⟨⟨by decide +kernel, by decide +kernel⟩, List.mem_of_getElem? (i := 536) (by decide +kernel), List.mem_of_getElem? (i := 715) (by decide +kernel), List.mem_of_getElem? (i := 716) (by decide +kernel)⟩
theorem lw_p20 : lw_okq (⟨"DeclareFormsModel", "set", "()I"⟩, 22) := ⟨⟨by decide +kernel, by decide +kernel⟩, List.mem_of_getElem? (i := 536) (by decide +kernel), List.mem_of_getElem? (i := 731) (by decide +kernel), List.mem_of_getElem? (i := 732) (by decide +kernel)⟩
theorem lw_p21 : lw_okq (⟨"DeclareFormsModel", "placeOf", "(I)I"⟩, 22) := ⟨⟨by decide +kernel, by decide +kernel⟩, List.mem_of_getElem? (i := 536) (by decide +kernel), List.mem_of_getElem? (i := 739) (by decide +kernel), List.mem_of_getElem? (i := 740) (by decide +kernel)⟩
theorem lw_p22 : lw_okq (⟨"DeclareFormsModel", "begins", "(I)I"⟩, 22) := ⟨⟨by decide +kernel, by decide +kernel⟩, List.mem_of_getElem? (i := 536) (by decide +kernel), List.mem_of_getElem? (i := 747) (by decide +kernel), List.mem_of_getElem? (i := 748) (by decide +kernel)⟩
theorem lw_p23 : lw_okq (⟨"DeclareFormsModel", "ends", "(I)I"⟩, 22) := ⟨⟨by decide +kernel, by decide +kernel⟩, List.mem_of_getElem? (i := 536) (by decide +kernel), List.mem_of_getElem? (i := 751) (by decide +kernel), List.mem_of_getElem? (i := 752) (by decide +kernel)⟩
theorem lw_p24 : lw_okq (⟨"DeclareFormsModel", "whole", "()I"⟩, 22) := ⟨⟨by decide +kernel, by decide +kernel⟩, List.mem_of_getElem? (i := 536) (by decide +kernel), List.mem_of_getElem? (i := 755) (by decide +kernel), List.mem_of_getElem? (i := 756) (by decide +kernel)⟩
def lw_privs_2 : List (MethodName × Nat) := [(⟨"DeclareFormsModel", "isSum", "(I)Z"⟩, 22), (⟨"DeclareFormsModel", "sumOf", "(I)J"⟩, 22), (⟨"DeclareFormsModel", "isGood", "(J)Z"⟩, 22), (⟨"DeclareFormsModel", "paperOf", "(I)I"⟩, 22), (⟨"DeclareFormsModel", "set", "()I"⟩, 22), (⟨"DeclareFormsModel", "placeOf", "(I)I"⟩, 22), (⟨"DeclareFormsModel", "begins", "(I)I"⟩, 22), (⟨"DeclareFormsModel", "ends", "(I)I"⟩, 22), (⟨"DeclareFormsModel", "whole", "()I"⟩, 22)]
theorem lw_r2 : ∀ q ∈ lw_privs_2, lw_okq q := List.forall_mem_cons.mpr ⟨lw_p16, List.forall_mem_cons.mpr ⟨lw_p17, List.forall_mem_cons.mpr ⟨lw_p18, List.forall_mem_cons.mpr ⟨lw_p19, List.forall_mem_cons.mpr ⟨lw_p20, List.forall_mem_cons.mpr ⟨lw_p21, List.forall_mem_cons.mpr ⟨lw_p22, List.forall_mem_cons.mpr ⟨lw_p23, List.forall_mem_cons.mpr ⟨lw_p24, fun _ h => absurd h List.not_mem_nil⟩⟩⟩⟩⟩⟩⟩⟩⟩
def lw_privs : List (MethodName × Nat) := lw_privs_1 ++ (lw_privs_2)
def lw_tbl : List Cond := k2_sels lw_privs ++ tables_1
theorem lw_privs_ok : ∀ q ∈ lw_privs, lw_okq q := by
  show ∀ q ∈ lw_privs_1 ++ (lw_privs_2), lw_okq q
  exact List.forall_mem_append.mpr ⟨lw_r1, lw_r2⟩
abbrev zr_S : String := "DeclareForms$Sheet"
def zF_S : u_T := fun k => match k with
  | 0 => ("DeclareForms$Sheet", "values", "[I", true)
  | 1 => ("DeclareForms$Sheet", "open", "[Z", true)
  | 2 => ("DeclareForms$Sheet", "made", "I", false)
  | 3 => ("DeclareForms$Sheet", "opened", "I", false)
  | _ => ("DeclareForms$Sheet", "filled", "I", false)
def zT_S : Nat → FieldType := fun k => match k with
  | 0 => .array .int
  | 1 => .array .boolean
  | 2 => .int
  | 3 => .int
  | _ => .int
theorem zn_S : ∀ a, a < 5 → ∀ b, b < 5 → a ≠ b → (zF_S a).2.1 ≠ (zF_S b).2.1 := by decide +kernel
theorem zT_S_ok : ∀ k, k < 5 → parseFieldDescriptor (zF_S k).2.2.1 = some (zT_S k) := by decide +kernel
abbrev zr_C : String := "DeclareForms$Codes"
def zF_C : u_T := fun k => match k with
  | 0 => ("DeclareForms$Codes", "values", "[I", true)
  | 1 => ("DeclareForms$Codes", "lastDays", "[I", true)
  | _ => ("DeclareForms$Codes", "held", "I", false)
def zT_C : Nat → FieldType := fun k => match k with
  | 0 => .array .int
  | 1 => .array .int
  | _ => .int
theorem zn_C : ∀ a, a < 3 → ∀ b, b < 3 → a ≠ b → (zF_C a).2.1 ≠ (zF_C b).2.1 := by decide +kernel
theorem zT_C_ok : ∀ k, k < 3 → parseFieldDescriptor (zF_C k).2.2.1 = some (zT_C k) := by decide +kernel
abbrev zr_P : String := "DeclareForms$Papers"
def zF_P : u_T := fun k => match k with
  | 0 => ("DeclareForms$Papers", "numbers", "[I", true)
  | 1 => ("DeclareForms$Papers", "balances", "[I", true)
  | 2 => ("DeclareForms$Papers", "drawn", "[I", true)
  | _ => ("DeclareForms$Papers", "held", "I", false)
def zT_P : Nat → FieldType := fun k => match k with
  | 0 => .array .int
  | 1 => .array .int
  | 2 => .array .int
  | _ => .int
theorem zn_P : ∀ a, a < 4 → ∀ b, b < 4 → a ≠ b → (zF_P a).2.1 ≠ (zF_P b).2.1 := by decide +kernel
theorem zT_P_ok : ∀ k, k < 4 → parseFieldDescriptor (zF_P k).2.2.1 = some (zT_P k) := by decide +kernel
abbrev zr_R : String := "DeclareForms$Reader"
def zF_R : u_T := fun k => match k with
  | 0 => ("DeclareForms$Reader", "place", "I", false)
  | 1 => ("DeclareForms$Reader", "rowKind", "I", false)
  | 2 => ("DeclareForms$Reader", "fields", "I", false)
  | 3 => ("DeclareForms$Reader", "fieldsLeft", "I", false)
  | 4 => ("DeclareForms$Reader", "rowField", "I", false)
  | 5 => ("DeclareForms$Reader", "lastSlot", "I", false)
  | 6 => ("DeclareForms$Reader", "rowValue", "J", false)
  | 7 => ("DeclareForms$Reader", "whole", "I", false)
  | _ => ("DeclareForms$Reader", "latest", "I", false)
def zT_R : Nat → FieldType := fun k => match k with
  | 0 => .int
  | 1 => .int
  | 2 => .int
  | 3 => .int
  | 4 => .int
  | 5 => .int
  | 6 => .long
  | 7 => .int
  | _ => .int
theorem zn_R : ∀ a, a < 9 → ∀ b, b < 9 → a ≠ b → (zF_R a).2.1 ≠ (zF_R b).2.1 := by decide +kernel
theorem zT_R_ok : ∀ k, k < 9 → parseFieldDescriptor (zF_R k).2.2.1 = some (zT_R k) := by decide +kernel
abbrev zr_X : String := "DeclareForms"
def zF_X : u_T := fun k => match k with
  | 0 => ("DeclareForms", "kind", "I", true)
  | 1 => ("DeclareForms", "sheet", "LDeclareForms$Sheet;", true)
  | 2 => ("DeclareForms", "codes", "LDeclareForms$Codes;", true)
  | 3 => ("DeclareForms", "papers", "LDeclareForms$Papers;", true)
  | 4 => ("DeclareForms", "reader", "LDeclareForms$Reader;", true)
  | 5 => ("DeclareForms", "today", "I", false)
  | _ => ("DeclareForms", "lodged", "Z", false)
def zT_X : Nat → FieldType := fun k => match k with
  | 0 => .int
  | 1 => .object "DeclareForms$Sheet"
  | 2 => .object "DeclareForms$Codes"
  | 3 => .object "DeclareForms$Papers"
  | 4 => .object "DeclareForms$Reader"
  | 5 => .int
  | _ => .boolean
theorem zn_X : ∀ a, a < 7 → ∀ b, b < 7 → a ≠ b → (zF_X a).2.1 ≠ (zF_X b).2.1 := by decide +kernel
theorem zT_X_ok : ∀ k, k < 7 → parseFieldDescriptor (zF_X k).2.2.1 = some (zT_X k) := by decide +kernel
abbrev zz_cl : List vw_C := [(zr_X, zF_X, 7), (zr_S, zF_S, 5), (zr_C, zF_C, 3), (zr_P, zF_P, 4), (zr_R, zF_R, 9)]
abbrev zz_ty (cI cZ cL : ClassId) : List (ClassId × FieldType) := [(cI, .int), (cZ, .boolean), (cL, .long)]
abbrev zy_X_isValue : MethodName := ⟨"DeclareForms", "isValue", "(J)Z"⟩
abbrev zb_X_isValue : ByteArray := prog_1_method_20_code
theorem zh_X_isValue : zy_X_isValue.cls ≠ "java/lang/invoke/MethodHandle" ∧ zy_X_isValue.cls ≠ "java/lang/invoke/VarHandle" ∧ (parseMethodDescriptor zy_X_isValue.desc).map (fun d => d.parameters.length) = some 1 := by decide +kernel
theorem zd_X_isValue_0 : decode zb_X_isValue 0 = .ok (.lload_n 0, 1) := by decide +kernel
theorem zd_X_isValue_1 : decode zb_X_isValue 1 = .ok (.lconst 0, 1) := by decide +kernel
theorem zd_X_isValue_2 : decode zb_X_isValue 2 = .ok (.lcmp, 1) := by decide +kernel
theorem zd_X_isValue_3 : decode zb_X_isValue 3 = .ok (.ifCond .lt 15, 3) := by decide +kernel
theorem zd_X_isValue_6 : decode zb_X_isValue 6 = .ok (.lload_n 0, 1) := by decide +kernel
theorem zd_X_isValue_7 : decode zb_X_isValue 7 = .ok (.ldc2_w 197, 3) := by decide +kernel
theorem zd_X_isValue_10 : decode zb_X_isValue 10 = .ok (.lcmp, 1) := by decide +kernel
theorem zd_X_isValue_11 : decode zb_X_isValue 11 = .ok (.ifCond .gt 7, 3) := by decide +kernel
theorem zd_X_isValue_14 : decode zb_X_isValue 14 = .ok (.iconst 1, 1) := by decide +kernel
theorem zd_X_isValue_15 : decode zb_X_isValue 15 = .ok (.goto 4, 3) := by decide +kernel
theorem zd_X_isValue_18 : decode zb_X_isValue 18 = .ok (.iconst 0, 1) := by decide +kernel
theorem zd_X_isValue_19 : decode zb_X_isValue 19 = .ok (.ireturn, 1) := by decide +kernel
abbrev zy_X_needBy : MethodName := ⟨"DeclareForms", "needBy", "(II)I"⟩
abbrev zb_X_needBy : ByteArray := prog_1_method_21_code
theorem zh_X_needBy : zy_X_needBy.cls ≠ "java/lang/invoke/MethodHandle" ∧ zy_X_needBy.cls ≠ "java/lang/invoke/VarHandle" ∧ (parseMethodDescriptor zy_X_needBy.desc).map (fun d => d.parameters.length) = some 2 := by decide +kernel
theorem zd_X_needBy_0 : decode zb_X_needBy 0 = .ok (.iconst 3, 1) := by decide +kernel
theorem zd_X_needBy_1 : decode zb_X_needBy 1 = .ok (.iload_n 1, 1) := by decide +kernel
theorem zd_X_needBy_2 : decode zb_X_needBy 2 = .ok (.imul, 1) := by decide +kernel
theorem zd_X_needBy_3 : decode zb_X_needBy 3 = .ok (.iconst 5, 1) := by decide +kernel
theorem zd_X_needBy_4 : decode zb_X_needBy 4 = .ok (.iload_n 0, 1) := by decide +kernel
theorem zd_X_needBy_5 : decode zb_X_needBy 5 = .ok (.imul, 1) := by decide +kernel
theorem zd_X_needBy_6 : decode zb_X_needBy 6 = .ok (.iadd, 1) := by decide +kernel
theorem zd_X_needBy_7 : decode zb_X_needBy 7 = .ok (.iconst 4, 1) := by decide +kernel
theorem zd_X_needBy_8 : decode zb_X_needBy 8 = .ok (.irem, 1) := by decide +kernel
theorem zd_X_needBy_9 : decode zb_X_needBy 9 = .ok (.ireturn, 1) := by decide +kernel
abbrev zy_X_lineOf : MethodName := ⟨"DeclareForms", "lineOf", "(I)I"⟩
abbrev zb_X_lineOf : ByteArray := prog_1_method_22_code
theorem zh_X_lineOf : zy_X_lineOf.cls ≠ "java/lang/invoke/MethodHandle" ∧ zy_X_lineOf.cls ≠ "java/lang/invoke/VarHandle" ∧ (parseMethodDescriptor zy_X_lineOf.desc).map (fun d => d.parameters.length) = some 1 := by decide +kernel
theorem zd_X_lineOf_0 : decode zb_X_lineOf 0 = .ok (.iload_n 0, 1) := by decide +kernel
theorem zd_X_lineOf_1 : decode zb_X_lineOf 1 = .ok (.bipush 10, 2) := by decide +kernel
theorem zd_X_lineOf_3 : decode zb_X_lineOf 3 = .ok (.idiv, 1) := by decide +kernel
theorem zd_X_lineOf_4 : decode zb_X_lineOf 4 = .ok (.ireturn, 1) := by decide +kernel
abbrev zy_X_fieldOf : MethodName := ⟨"DeclareForms", "fieldOf", "(I)I"⟩
abbrev zb_X_fieldOf : ByteArray := prog_1_method_23_code
theorem zh_X_fieldOf : zy_X_fieldOf.cls ≠ "java/lang/invoke/MethodHandle" ∧ zy_X_fieldOf.cls ≠ "java/lang/invoke/VarHandle" ∧ (parseMethodDescriptor zy_X_fieldOf.desc).map (fun d => d.parameters.length) = some 1 := by decide +kernel
theorem zd_X_fieldOf_0 : decode zb_X_fieldOf 0 = .ok (.iload_n 0, 1) := by decide +kernel
theorem zd_X_fieldOf_1 : decode zb_X_fieldOf 1 = .ok (.bipush 10, 2) := by decide +kernel
theorem zd_X_fieldOf_3 : decode zb_X_fieldOf 3 = .ok (.if_icmp .ge 7, 3) := by decide +kernel
theorem zd_X_fieldOf_6 : decode zb_X_fieldOf 6 = .ok (.iload_n 0, 1) := by decide +kernel
theorem zd_X_fieldOf_7 : decode zb_X_fieldOf 7 = .ok (.goto 10, 3) := by decide +kernel
theorem zd_X_fieldOf_10 : decode zb_X_fieldOf 10 = .ok (.bipush 10, 2) := by decide +kernel
theorem zd_X_fieldOf_12 : decode zb_X_fieldOf 12 = .ok (.iload_n 0, 1) := by decide +kernel
theorem zd_X_fieldOf_13 : decode zb_X_fieldOf 13 = .ok (.bipush 10, 2) := by decide +kernel
theorem zd_X_fieldOf_15 : decode zb_X_fieldOf 15 = .ok (.irem, 1) := by decide +kernel
theorem zd_X_fieldOf_16 : decode zb_X_fieldOf 16 = .ok (.iadd, 1) := by decide +kernel
theorem zd_X_fieldOf_17 : decode zb_X_fieldOf 17 = .ok (.ireturn, 1) := by decide +kernel
abbrev zy_X_placeOf : MethodName := ⟨"DeclareForms", "placeOf", "(I)I"⟩
abbrev zb_X_placeOf : ByteArray := prog_1_method_24_code
theorem zh_X_placeOf : zy_X_placeOf.cls ≠ "java/lang/invoke/MethodHandle" ∧ zy_X_placeOf.cls ≠ "java/lang/invoke/VarHandle" ∧ (parseMethodDescriptor zy_X_placeOf.desc).map (fun d => d.parameters.length) = some 1 := by decide +kernel
theorem zd_X_placeOf_0 : decode zb_X_placeOf 0 = .ok (.bipush 100, 2) := by decide +kernel
theorem zd_X_placeOf_2 : decode zb_X_placeOf 2 = .ok (.iload_n 0, 1) := by decide +kernel
theorem zd_X_placeOf_3 : decode zb_X_placeOf 3 = .ok (.invokestatic 199, 3) := by decide +kernel
theorem zd_X_placeOf_6 : decode zb_X_placeOf 6 = .ok (.imul, 1) := by decide +kernel
theorem zd_X_placeOf_7 : decode zb_X_placeOf 7 = .ok (.iload_n 0, 1) := by decide +kernel
theorem zd_X_placeOf_8 : decode zb_X_placeOf 8 = .ok (.invokestatic 202, 3) := by decide +kernel
theorem zd_X_placeOf_11 : decode zb_X_placeOf 11 = .ok (.iadd, 1) := by decide +kernel
theorem zd_X_placeOf_12 : decode zb_X_placeOf 12 = .ok (.ireturn, 1) := by decide +kernel
abbrev zy_X_byteOf : MethodName := ⟨"DeclareForms", "byteOf", "(II)B"⟩
abbrev zb_X_byteOf : ByteArray := prog_1_method_25_code
theorem zh_X_byteOf : zy_X_byteOf.cls ≠ "java/lang/invoke/MethodHandle" ∧ zy_X_byteOf.cls ≠ "java/lang/invoke/VarHandle" ∧ (parseMethodDescriptor zy_X_byteOf.desc).map (fun d => d.parameters.length) = some 2 := by decide +kernel
theorem zd_X_byteOf_0 : decode zb_X_byteOf 0 = .ok (.iload_n 0, 1) := by decide +kernel
theorem zd_X_byteOf_1 : decode zb_X_byteOf 1 = .ok (.bipush 8, 2) := by decide +kernel
theorem zd_X_byteOf_3 : decode zb_X_byteOf 3 = .ok (.iload_n 1, 1) := by decide +kernel
theorem zd_X_byteOf_4 : decode zb_X_byteOf 4 = .ok (.imul, 1) := by decide +kernel
theorem zd_X_byteOf_5 : decode zb_X_byteOf 5 = .ok (.iushr, 1) := by decide +kernel
theorem zd_X_byteOf_6 : decode zb_X_byteOf 6 = .ok (.i2b, 1) := by decide +kernel
theorem zd_X_byteOf_7 : decode zb_X_byteOf 7 = .ok (.ireturn, 1) := by decide +kernel
abbrev zy_S_isFull : MethodName := ⟨"DeclareForms$Sheet", "isFull", "()Z"⟩
abbrev zb_S_isFull : ByteArray := prog_5_method_2_code
theorem zh_S_isFull : zy_S_isFull.cls ≠ "java/lang/invoke/MethodHandle" ∧ zy_S_isFull.cls ≠ "java/lang/invoke/VarHandle" ∧ (parseMethodDescriptor zy_S_isFull.desc).map (fun d => d.parameters.length) = some 0 := by decide +kernel
theorem zd_S_isFull_0 : decode zb_S_isFull 0 = .ok (.aload_n 0, 1) := by decide +kernel
theorem zd_S_isFull_1 : decode zb_S_isFull 1 = .ok (.getfield 25, 3) := by decide +kernel
theorem zd_S_isFull_4 : decode zb_S_isFull 4 = .ok (.bipush 30, 2) := by decide +kernel
theorem zd_S_isFull_6 : decode zb_S_isFull 6 = .ok (.if_icmp .lt 7, 3) := by decide +kernel
theorem zd_S_isFull_9 : decode zb_S_isFull 9 = .ok (.iconst 1, 1) := by decide +kernel
theorem zd_S_isFull_10 : decode zb_S_isFull 10 = .ok (.goto 4, 3) := by decide +kernel
theorem zd_S_isFull_13 : decode zb_S_isFull 13 = .ok (.iconst 0, 1) := by decide +kernel
theorem zd_S_isFull_14 : decode zb_S_isFull 14 = .ok (.ireturn, 1) := by decide +kernel
abbrev zy_S_hasLine : MethodName := ⟨"DeclareForms$Sheet", "hasLine", "(I)Z"⟩
abbrev zb_S_hasLine : ByteArray := prog_5_method_3_code
theorem zh_S_hasLine : zy_S_hasLine.cls ≠ "java/lang/invoke/MethodHandle" ∧ zy_S_hasLine.cls ≠ "java/lang/invoke/VarHandle" ∧ (parseMethodDescriptor zy_S_hasLine.desc).map (fun d => d.parameters.length) = some 1 := by decide +kernel
theorem zd_S_hasLine_0 : decode zb_S_hasLine 0 = .ok (.iload_n 1, 1) := by decide +kernel
theorem zd_S_hasLine_1 : decode zb_S_hasLine 1 = .ok (.iconst 1, 1) := by decide +kernel
theorem zd_S_hasLine_2 : decode zb_S_hasLine 2 = .ok (.if_icmp .lt 22, 3) := by decide +kernel
theorem zd_S_hasLine_5 : decode zb_S_hasLine 5 = .ok (.iload_n 1, 1) := by decide +kernel
theorem zd_S_hasLine_6 : decode zb_S_hasLine 6 = .ok (.bipush 30, 2) := by decide +kernel
theorem zd_S_hasLine_8 : decode zb_S_hasLine 8 = .ok (.if_icmp .gt 16, 3) := by decide +kernel
theorem zd_S_hasLine_11 : decode zb_S_hasLine 11 = .ok (.aload_n 0, 1) := by decide +kernel
theorem zd_S_hasLine_12 : decode zb_S_hasLine 12 = .ok (.getfield 15, 3) := by decide +kernel
theorem zd_S_hasLine_15 : decode zb_S_hasLine 15 = .ok (.iload_n 1, 1) := by decide +kernel
theorem zd_S_hasLine_16 : decode zb_S_hasLine 16 = .ok (.baload, 1) := by decide +kernel
theorem zd_S_hasLine_17 : decode zb_S_hasLine 17 = .ok (.ifCond .eq 7, 3) := by decide +kernel
theorem zd_S_hasLine_20 : decode zb_S_hasLine 20 = .ok (.iconst 1, 1) := by decide +kernel
theorem zd_S_hasLine_21 : decode zb_S_hasLine 21 = .ok (.goto 4, 3) := by decide +kernel
theorem zd_S_hasLine_24 : decode zb_S_hasLine 24 = .ok (.iconst 0, 1) := by decide +kernel
theorem zd_S_hasLine_25 : decode zb_S_hasLine 25 = .ok (.ireturn, 1) := by decide +kernel
abbrev zy_S_lineCount : MethodName := ⟨"DeclareForms$Sheet", "lineCount", "()I"⟩
abbrev zb_S_lineCount : ByteArray := prog_5_method_4_code
theorem zh_S_lineCount : zy_S_lineCount.cls ≠ "java/lang/invoke/MethodHandle" ∧ zy_S_lineCount.cls ≠ "java/lang/invoke/VarHandle" ∧ (parseMethodDescriptor zy_S_lineCount.desc).map (fun d => d.parameters.length) = some 0 := by decide +kernel
theorem zd_S_lineCount_0 : decode zb_S_lineCount 0 = .ok (.aload_n 0, 1) := by decide +kernel
theorem zd_S_lineCount_1 : decode zb_S_lineCount 1 = .ok (.getfield 29, 3) := by decide +kernel
theorem zd_S_lineCount_4 : decode zb_S_lineCount 4 = .ok (.ireturn, 1) := by decide +kernel
abbrev zy_S_setCount : MethodName := ⟨"DeclareForms$Sheet", "setCount", "()I"⟩
abbrev zb_S_setCount : ByteArray := prog_5_method_5_code
theorem zh_S_setCount : zy_S_setCount.cls ≠ "java/lang/invoke/MethodHandle" ∧ zy_S_setCount.cls ≠ "java/lang/invoke/VarHandle" ∧ (parseMethodDescriptor zy_S_setCount.desc).map (fun d => d.parameters.length) = some 0 := by decide +kernel
theorem zd_S_setCount_0 : decode zb_S_setCount 0 = .ok (.aload_n 0, 1) := by decide +kernel
theorem zd_S_setCount_1 : decode zb_S_setCount 1 = .ok (.getfield 32, 3) := by decide +kernel
theorem zd_S_setCount_4 : decode zb_S_setCount 4 = .ok (.ireturn, 1) := by decide +kernel
abbrev zy_S_openLine : MethodName := ⟨"DeclareForms$Sheet", "openLine", "()I"⟩
abbrev zb_S_openLine : ByteArray := prog_5_method_6_code
theorem zh_S_openLine : zy_S_openLine.cls ≠ "java/lang/invoke/MethodHandle" ∧ zy_S_openLine.cls ≠ "java/lang/invoke/VarHandle" ∧ (parseMethodDescriptor zy_S_openLine.desc).map (fun d => d.parameters.length) = some 0 := by decide +kernel
theorem zd_S_openLine_0 : decode zb_S_openLine 0 = .ok (.aload_n 0, 1) := by decide +kernel
theorem zd_S_openLine_1 : decode zb_S_openLine 1 = .ok (.invokevirtual 35, 3) := by decide +kernel
theorem zd_S_openLine_4 : decode zb_S_openLine 4 = .ok (.ifCond .eq 5, 3) := by decide +kernel
theorem zd_S_openLine_7 : decode zb_S_openLine 7 = .ok (.iconst (-1), 1) := by decide +kernel
theorem zd_S_openLine_8 : decode zb_S_openLine 8 = .ok (.ireturn, 1) := by decide +kernel
theorem zd_S_openLine_9 : decode zb_S_openLine 9 = .ok (.aload_n 0, 1) := by decide +kernel
theorem zd_S_openLine_10 : decode zb_S_openLine 10 = .ok (.dup, 1) := by decide +kernel
theorem zd_S_openLine_11 : decode zb_S_openLine 11 = .ok (.getfield 25, 3) := by decide +kernel
theorem zd_S_openLine_14 : decode zb_S_openLine 14 = .ok (.iconst 1, 1) := by decide +kernel
theorem zd_S_openLine_15 : decode zb_S_openLine 15 = .ok (.iadd, 1) := by decide +kernel
theorem zd_S_openLine_16 : decode zb_S_openLine 16 = .ok (.putfield 25, 3) := by decide +kernel
theorem zd_S_openLine_19 : decode zb_S_openLine 19 = .ok (.aload_n 0, 1) := by decide +kernel
theorem zd_S_openLine_20 : decode zb_S_openLine 20 = .ok (.dup, 1) := by decide +kernel
theorem zd_S_openLine_21 : decode zb_S_openLine 21 = .ok (.getfield 29, 3) := by decide +kernel
theorem zd_S_openLine_24 : decode zb_S_openLine 24 = .ok (.iconst 1, 1) := by decide +kernel
theorem zd_S_openLine_25 : decode zb_S_openLine 25 = .ok (.iadd, 1) := by decide +kernel
theorem zd_S_openLine_26 : decode zb_S_openLine 26 = .ok (.putfield 29, 3) := by decide +kernel
theorem zd_S_openLine_29 : decode zb_S_openLine 29 = .ok (.aload_n 0, 1) := by decide +kernel
theorem zd_S_openLine_30 : decode zb_S_openLine 30 = .ok (.getfield 15, 3) := by decide +kernel
theorem zd_S_openLine_33 : decode zb_S_openLine 33 = .ok (.aload_n 0, 1) := by decide +kernel
theorem zd_S_openLine_34 : decode zb_S_openLine 34 = .ok (.getfield 25, 3) := by decide +kernel
theorem zd_S_openLine_37 : decode zb_S_openLine 37 = .ok (.iconst 1, 1) := by decide +kernel
theorem zd_S_openLine_38 : decode zb_S_openLine 38 = .ok (.bastore, 1) := by decide +kernel
theorem zd_S_openLine_39 : decode zb_S_openLine 39 = .ok (.aload_n 0, 1) := by decide +kernel
theorem zd_S_openLine_40 : decode zb_S_openLine 40 = .ok (.getfield 25, 3) := by decide +kernel
theorem zd_S_openLine_43 : decode zb_S_openLine 43 = .ok (.ireturn, 1) := by decide +kernel
abbrev zy_S_slotOf : MethodName := ⟨"DeclareForms$Sheet", "slotOf", "(II)I"⟩
abbrev zb_S_slotOf : ByteArray := prog_5_method_8_code
theorem zh_S_slotOf : zy_S_slotOf.cls ≠ "java/lang/invoke/MethodHandle" ∧ zy_S_slotOf.cls ≠ "java/lang/invoke/VarHandle" ∧ (parseMethodDescriptor zy_S_slotOf.desc).map (fun d => d.parameters.length) = some 2 := by decide +kernel
theorem zd_S_slotOf_0 : decode zb_S_slotOf 0 = .ok (.iload_n 1, 1) := by decide +kernel
theorem zd_S_slotOf_1 : decode zb_S_slotOf 1 = .ok (.ifCond .lt 9, 3) := by decide +kernel
theorem zd_S_slotOf_4 : decode zb_S_slotOf 4 = .ok (.iload_n 1, 1) := by decide +kernel
theorem zd_S_slotOf_5 : decode zb_S_slotOf 5 = .ok (.bipush 19, 2) := by decide +kernel
theorem zd_S_slotOf_7 : decode zb_S_slotOf 7 = .ok (.if_icmp .le 5, 3) := by decide +kernel
theorem zd_S_slotOf_10 : decode zb_S_slotOf 10 = .ok (.iconst (-1), 1) := by decide +kernel
theorem zd_S_slotOf_11 : decode zb_S_slotOf 11 = .ok (.ireturn, 1) := by decide +kernel
theorem zd_S_slotOf_12 : decode zb_S_slotOf 12 = .ok (.iload_n 1, 1) := by decide +kernel
theorem zd_S_slotOf_13 : decode zb_S_slotOf 13 = .ok (.bipush 10, 2) := by decide +kernel
theorem zd_S_slotOf_15 : decode zb_S_slotOf 15 = .ok (.if_icmp .ge 13, 3) := by decide +kernel
theorem zd_S_slotOf_18 : decode zb_S_slotOf 18 = .ok (.iload_n 2, 1) := by decide +kernel
theorem zd_S_slotOf_19 : decode zb_S_slotOf 19 = .ok (.ifCond .ne 7, 3) := by decide +kernel
theorem zd_S_slotOf_22 : decode zb_S_slotOf 22 = .ok (.iload_n 1, 1) := by decide +kernel
theorem zd_S_slotOf_23 : decode zb_S_slotOf 23 = .ok (.goto 4, 3) := by decide +kernel
theorem zd_S_slotOf_26 : decode zb_S_slotOf 26 = .ok (.iconst (-1), 1) := by decide +kernel
theorem zd_S_slotOf_27 : decode zb_S_slotOf 27 = .ok (.ireturn, 1) := by decide +kernel
theorem zd_S_slotOf_28 : decode zb_S_slotOf 28 = .ok (.aload_n 0, 1) := by decide +kernel
theorem zd_S_slotOf_29 : decode zb_S_slotOf 29 = .ok (.iload_n 2, 1) := by decide +kernel
theorem zd_S_slotOf_30 : decode zb_S_slotOf 30 = .ok (.invokevirtual 39, 3) := by decide +kernel
theorem zd_S_slotOf_33 : decode zb_S_slotOf 33 = .ok (.ifCond .eq 15, 3) := by decide +kernel
theorem zd_S_slotOf_36 : decode zb_S_slotOf 36 = .ok (.iload_n 2, 1) := by decide +kernel
theorem zd_S_slotOf_37 : decode zb_S_slotOf 37 = .ok (.bipush 10, 2) := by decide +kernel
theorem zd_S_slotOf_39 : decode zb_S_slotOf 39 = .ok (.imul, 1) := by decide +kernel
theorem zd_S_slotOf_40 : decode zb_S_slotOf 40 = .ok (.iload_n 1, 1) := by decide +kernel
theorem zd_S_slotOf_41 : decode zb_S_slotOf 41 = .ok (.iadd, 1) := by decide +kernel
theorem zd_S_slotOf_42 : decode zb_S_slotOf 42 = .ok (.bipush 10, 2) := by decide +kernel
theorem zd_S_slotOf_44 : decode zb_S_slotOf 44 = .ok (.isub, 1) := by decide +kernel
theorem zd_S_slotOf_45 : decode zb_S_slotOf 45 = .ok (.goto 4, 3) := by decide +kernel
theorem zd_S_slotOf_48 : decode zb_S_slotOf 48 = .ok (.iconst (-1), 1) := by decide +kernel
theorem zd_S_slotOf_49 : decode zb_S_slotOf 49 = .ok (.ireturn, 1) := by decide +kernel
abbrev zy_S_valueAt : MethodName := ⟨"DeclareForms$Sheet", "valueAt", "(I)I"⟩
abbrev zb_S_valueAt : ByteArray := prog_5_method_9_code
theorem zh_S_valueAt : zy_S_valueAt.cls ≠ "java/lang/invoke/MethodHandle" ∧ zy_S_valueAt.cls ≠ "java/lang/invoke/VarHandle" ∧ (parseMethodDescriptor zy_S_valueAt.desc).map (fun d => d.parameters.length) = some 1 := by decide +kernel
theorem zd_S_valueAt_0 : decode zb_S_valueAt 0 = .ok (.iload_n 1, 1) := by decide +kernel
theorem zd_S_valueAt_1 : decode zb_S_valueAt 1 = .ok (.ifCond .lt 12, 3) := by decide +kernel
theorem zd_S_valueAt_4 : decode zb_S_valueAt 4 = .ok (.iload_n 1, 1) := by decide +kernel
theorem zd_S_valueAt_5 : decode zb_S_valueAt 5 = .ok (.aload_n 0, 1) := by decide +kernel
theorem zd_S_valueAt_6 : decode zb_S_valueAt 6 = .ok (.getfield 9, 3) := by decide +kernel
theorem zd_S_valueAt_9 : decode zb_S_valueAt 9 = .ok (.arraylength, 1) := by decide +kernel
theorem zd_S_valueAt_10 : decode zb_S_valueAt 10 = .ok (.if_icmp .lt 7, 3) := by decide +kernel
theorem zd_S_valueAt_13 : decode zb_S_valueAt 13 = .ok (.iconst (-1), 1) := by decide +kernel
theorem zd_S_valueAt_14 : decode zb_S_valueAt 14 = .ok (.goto 9, 3) := by decide +kernel
theorem zd_S_valueAt_17 : decode zb_S_valueAt 17 = .ok (.aload_n 0, 1) := by decide +kernel
theorem zd_S_valueAt_18 : decode zb_S_valueAt 18 = .ok (.getfield 9, 3) := by decide +kernel
theorem zd_S_valueAt_21 : decode zb_S_valueAt 21 = .ok (.iload_n 1, 1) := by decide +kernel
theorem zd_S_valueAt_22 : decode zb_S_valueAt 22 = .ok (.iaload, 1) := by decide +kernel
theorem zd_S_valueAt_23 : decode zb_S_valueAt 23 = .ok (.ireturn, 1) := by decide +kernel
abbrev zy_S_put : MethodName := ⟨"DeclareForms$Sheet", "put", "(II)V"⟩
abbrev zb_S_put : ByteArray := prog_5_method_10_code
theorem zh_S_put : zy_S_put.cls ≠ "java/lang/invoke/MethodHandle" ∧ zy_S_put.cls ≠ "java/lang/invoke/VarHandle" ∧ (parseMethodDescriptor zy_S_put.desc).map (fun d => d.parameters.length) = some 2 := by decide +kernel
theorem zd_S_put_0 : decode zb_S_put 0 = .ok (.iload_n 1, 1) := by decide +kernel
theorem zd_S_put_1 : decode zb_S_put 1 = .ok (.ifCond .lt 12, 3) := by decide +kernel
theorem zd_S_put_4 : decode zb_S_put 4 = .ok (.iload_n 1, 1) := by decide +kernel
theorem zd_S_put_5 : decode zb_S_put 5 = .ok (.aload_n 0, 1) := by decide +kernel
theorem zd_S_put_6 : decode zb_S_put 6 = .ok (.getfield 9, 3) := by decide +kernel
theorem zd_S_put_9 : decode zb_S_put 9 = .ok (.arraylength, 1) := by decide +kernel
theorem zd_S_put_10 : decode zb_S_put 10 = .ok (.if_icmp .lt 4, 3) := by decide +kernel
theorem zd_S_put_13 : decode zb_S_put 13 = .ok (.return_, 1) := by decide +kernel
theorem zd_S_put_14 : decode zb_S_put 14 = .ok (.aload_n 0, 1) := by decide +kernel
theorem zd_S_put_15 : decode zb_S_put 15 = .ok (.getfield 9, 3) := by decide +kernel
theorem zd_S_put_18 : decode zb_S_put 18 = .ok (.iload_n 1, 1) := by decide +kernel
theorem zd_S_put_19 : decode zb_S_put 19 = .ok (.iaload, 1) := by decide +kernel
theorem zd_S_put_20 : decode zb_S_put 20 = .ok (.iconst (-1), 1) := by decide +kernel
theorem zd_S_put_21 : decode zb_S_put 21 = .ok (.if_icmp .eq 13, 3) := by decide +kernel
theorem zd_S_put_24 : decode zb_S_put 24 = .ok (.aload_n 0, 1) := by decide +kernel
theorem zd_S_put_25 : decode zb_S_put 25 = .ok (.dup, 1) := by decide +kernel
theorem zd_S_put_26 : decode zb_S_put 26 = .ok (.getfield 32, 3) := by decide +kernel
theorem zd_S_put_29 : decode zb_S_put 29 = .ok (.iconst 1, 1) := by decide +kernel
theorem zd_S_put_30 : decode zb_S_put 30 = .ok (.isub, 1) := by decide +kernel
theorem zd_S_put_31 : decode zb_S_put 31 = .ok (.putfield 32, 3) := by decide +kernel
theorem zd_S_put_34 : decode zb_S_put 34 = .ok (.iload_n 2, 1) := by decide +kernel
theorem zd_S_put_35 : decode zb_S_put 35 = .ok (.iconst (-1), 1) := by decide +kernel
theorem zd_S_put_36 : decode zb_S_put 36 = .ok (.if_icmp .eq 13, 3) := by decide +kernel
theorem zd_S_put_39 : decode zb_S_put 39 = .ok (.aload_n 0, 1) := by decide +kernel
theorem zd_S_put_40 : decode zb_S_put 40 = .ok (.dup, 1) := by decide +kernel
theorem zd_S_put_41 : decode zb_S_put 41 = .ok (.getfield 32, 3) := by decide +kernel
theorem zd_S_put_44 : decode zb_S_put 44 = .ok (.iconst 1, 1) := by decide +kernel
theorem zd_S_put_45 : decode zb_S_put 45 = .ok (.iadd, 1) := by decide +kernel
theorem zd_S_put_46 : decode zb_S_put 46 = .ok (.putfield 32, 3) := by decide +kernel
theorem zd_S_put_49 : decode zb_S_put 49 = .ok (.aload_n 0, 1) := by decide +kernel
theorem zd_S_put_50 : decode zb_S_put 50 = .ok (.getfield 9, 3) := by decide +kernel
theorem zd_S_put_53 : decode zb_S_put 53 = .ok (.iload_n 1, 1) := by decide +kernel
theorem zd_S_put_54 : decode zb_S_put 54 = .ok (.iload_n 2, 1) := by decide +kernel
theorem zd_S_put_55 : decode zb_S_put 55 = .ok (.iastore, 1) := by decide +kernel
theorem zd_S_put_56 : decode zb_S_put 56 = .ok (.return_, 1) := by decide +kernel
abbrev zy_S_dropLine : MethodName := ⟨"DeclareForms$Sheet", "dropLine", "(I)I"⟩
abbrev zb_S_dropLine : ByteArray := prog_5_method_7_code
theorem zh_S_dropLine : zy_S_dropLine.cls ≠ "java/lang/invoke/MethodHandle" ∧ zy_S_dropLine.cls ≠ "java/lang/invoke/VarHandle" ∧ (parseMethodDescriptor zy_S_dropLine.desc).map (fun d => d.parameters.length) = some 1 := by decide +kernel
theorem zd_S_dropLine_0 : decode zb_S_dropLine 0 = .ok (.aload_n 0, 1) := by decide +kernel
theorem zd_S_dropLine_1 : decode zb_S_dropLine 1 = .ok (.iload_n 1, 1) := by decide +kernel
theorem zd_S_dropLine_2 : decode zb_S_dropLine 2 = .ok (.invokevirtual 39, 3) := by decide +kernel
theorem zd_S_dropLine_5 : decode zb_S_dropLine 5 = .ok (.ifCond .ne 5, 3) := by decide +kernel
theorem zd_S_dropLine_8 : decode zb_S_dropLine 8 = .ok (.iconst (-1), 1) := by decide +kernel
theorem zd_S_dropLine_9 : decode zb_S_dropLine 9 = .ok (.ireturn, 1) := by decide +kernel
theorem zd_S_dropLine_10 : decode zb_S_dropLine 10 = .ok (.aload_n 0, 1) := by decide +kernel
theorem zd_S_dropLine_11 : decode zb_S_dropLine 11 = .ok (.getfield 32, 3) := by decide +kernel
theorem zd_S_dropLine_14 : decode zb_S_dropLine 14 = .ok (.istore_n 2, 1) := by decide +kernel
theorem zd_S_dropLine_15 : decode zb_S_dropLine 15 = .ok (.iconst 0, 1) := by decide +kernel
theorem zd_S_dropLine_16 : decode zb_S_dropLine 16 = .ok (.istore_n 3, 1) := by decide +kernel
theorem zd_S_dropLine_17 : decode zb_S_dropLine 17 = .ok (.iload_n 3, 1) := by decide +kernel
theorem zd_S_dropLine_18 : decode zb_S_dropLine 18 = .ok (.bipush 10, 2) := by decide +kernel
theorem zd_S_dropLine_20 : decode zb_S_dropLine 20 = .ok (.if_icmp .ge 20, 3) := by decide +kernel
theorem zd_S_dropLine_23 : decode zb_S_dropLine 23 = .ok (.aload_n 0, 1) := by decide +kernel
theorem zd_S_dropLine_24 : decode zb_S_dropLine 24 = .ok (.iload_n 1, 1) := by decide +kernel
theorem zd_S_dropLine_25 : decode zb_S_dropLine 25 = .ok (.bipush 10, 2) := by decide +kernel
theorem zd_S_dropLine_27 : decode zb_S_dropLine 27 = .ok (.imul, 1) := by decide +kernel
theorem zd_S_dropLine_28 : decode zb_S_dropLine 28 = .ok (.iload_n 3, 1) := by decide +kernel
theorem zd_S_dropLine_29 : decode zb_S_dropLine 29 = .ok (.iadd, 1) := by decide +kernel
theorem zd_S_dropLine_30 : decode zb_S_dropLine 30 = .ok (.iconst (-1), 1) := by decide +kernel
theorem zd_S_dropLine_31 : decode zb_S_dropLine 31 = .ok (.invokevirtual 43, 3) := by decide +kernel
theorem zd_S_dropLine_34 : decode zb_S_dropLine 34 = .ok (.iinc 3 1, 3) := by decide +kernel
theorem zd_S_dropLine_37 : decode zb_S_dropLine 37 = .ok (.goto (-20), 3) := by decide +kernel
theorem zd_S_dropLine_40 : decode zb_S_dropLine 40 = .ok (.aload_n 0, 1) := by decide +kernel
theorem zd_S_dropLine_41 : decode zb_S_dropLine 41 = .ok (.getfield 15, 3) := by decide +kernel
theorem zd_S_dropLine_44 : decode zb_S_dropLine 44 = .ok (.iload_n 1, 1) := by decide +kernel
theorem zd_S_dropLine_45 : decode zb_S_dropLine 45 = .ok (.iconst 0, 1) := by decide +kernel
theorem zd_S_dropLine_46 : decode zb_S_dropLine 46 = .ok (.bastore, 1) := by decide +kernel
theorem zd_S_dropLine_47 : decode zb_S_dropLine 47 = .ok (.aload_n 0, 1) := by decide +kernel
theorem zd_S_dropLine_48 : decode zb_S_dropLine 48 = .ok (.dup, 1) := by decide +kernel
theorem zd_S_dropLine_49 : decode zb_S_dropLine 49 = .ok (.getfield 29, 3) := by decide +kernel
theorem zd_S_dropLine_52 : decode zb_S_dropLine 52 = .ok (.iconst 1, 1) := by decide +kernel
theorem zd_S_dropLine_53 : decode zb_S_dropLine 53 = .ok (.isub, 1) := by decide +kernel
theorem zd_S_dropLine_54 : decode zb_S_dropLine 54 = .ok (.putfield 29, 3) := by decide +kernel
theorem zd_S_dropLine_57 : decode zb_S_dropLine 57 = .ok (.iload_n 2, 1) := by decide +kernel
theorem zd_S_dropLine_58 : decode zb_S_dropLine 58 = .ok (.aload_n 0, 1) := by decide +kernel
theorem zd_S_dropLine_59 : decode zb_S_dropLine 59 = .ok (.getfield 32, 3) := by decide +kernel
theorem zd_S_dropLine_62 : decode zb_S_dropLine 62 = .ok (.isub, 1) := by decide +kernel
theorem zd_S_dropLine_63 : decode zb_S_dropLine 63 = .ok (.ireturn, 1) := by decide +kernel
abbrev zy_S_firstMissing : MethodName := ⟨"DeclareForms$Sheet", "firstMissing", "(I)I"⟩
abbrev zb_S_firstMissing : ByteArray := prog_5_method_11_code
theorem zh_S_firstMissing : zy_S_firstMissing.cls ≠ "java/lang/invoke/MethodHandle" ∧ zy_S_firstMissing.cls ≠ "java/lang/invoke/VarHandle" ∧ (parseMethodDescriptor zy_S_firstMissing.desc).map (fun d => d.parameters.length) = some 1 := by decide +kernel
theorem zd_S_firstMissing_0 : decode zb_S_firstMissing 0 = .ok (.iconst 0, 1) := by decide +kernel
theorem zd_S_firstMissing_1 : decode zb_S_firstMissing 1 = .ok (.istore_n 2, 1) := by decide +kernel
theorem zd_S_firstMissing_2 : decode zb_S_firstMissing 2 = .ok (.iload_n 2, 1) := by decide +kernel
theorem zd_S_firstMissing_3 : decode zb_S_firstMissing 3 = .ok (.aload_n 0, 1) := by decide +kernel
theorem zd_S_firstMissing_4 : decode zb_S_firstMissing 4 = .ok (.getfield 9, 3) := by decide +kernel
theorem zd_S_firstMissing_7 : decode zb_S_firstMissing 7 = .ok (.arraylength, 1) := by decide +kernel
theorem zd_S_firstMissing_8 : decode zb_S_firstMissing 8 = .ok (.if_icmp .ge 59, 3) := by decide +kernel
theorem zd_S_firstMissing_11 : decode zb_S_firstMissing 11 = .ok (.iload_n 2, 1) := by decide +kernel
theorem zd_S_firstMissing_12 : decode zb_S_firstMissing 12 = .ok (.bipush 10, 2) := by decide +kernel
theorem zd_S_firstMissing_14 : decode zb_S_firstMissing 14 = .ok (.if_icmp .lt 14, 3) := by decide +kernel
theorem zd_S_firstMissing_17 : decode zb_S_firstMissing 17 = .ok (.aload_n 0, 1) := by decide +kernel
theorem zd_S_firstMissing_18 : decode zb_S_firstMissing 18 = .ok (.iload_n 2, 1) := by decide +kernel
theorem zd_S_firstMissing_19 : decode zb_S_firstMissing 19 = .ok (.invokestatic 47, 3) := by decide +kernel
theorem zd_S_firstMissing_22 : decode zb_S_firstMissing 22 = .ok (.invokevirtual 39, 3) := by decide +kernel
theorem zd_S_firstMissing_25 : decode zb_S_firstMissing 25 = .ok (.ifCond .eq 7, 3) := by decide +kernel
theorem zd_S_firstMissing_28 : decode zb_S_firstMissing 28 = .ok (.iconst 1, 1) := by decide +kernel
theorem zd_S_firstMissing_29 : decode zb_S_firstMissing 29 = .ok (.goto 4, 3) := by decide +kernel
theorem zd_S_firstMissing_32 : decode zb_S_firstMissing 32 = .ok (.iconst 0, 1) := by decide +kernel
theorem zd_S_firstMissing_33 : decode zb_S_firstMissing 33 = .ok (.istore_n 3, 1) := by decide +kernel
theorem zd_S_firstMissing_34 : decode zb_S_firstMissing 34 = .ok (.iload_n 3, 1) := by decide +kernel
theorem zd_S_firstMissing_35 : decode zb_S_firstMissing 35 = .ok (.ifCond .eq 26, 3) := by decide +kernel
theorem zd_S_firstMissing_38 : decode zb_S_firstMissing 38 = .ok (.aload_n 0, 1) := by decide +kernel
theorem zd_S_firstMissing_39 : decode zb_S_firstMissing 39 = .ok (.getfield 9, 3) := by decide +kernel
theorem zd_S_firstMissing_42 : decode zb_S_firstMissing 42 = .ok (.iload_n 2, 1) := by decide +kernel
theorem zd_S_firstMissing_43 : decode zb_S_firstMissing 43 = .ok (.iaload, 1) := by decide +kernel
theorem zd_S_firstMissing_44 : decode zb_S_firstMissing 44 = .ok (.iconst (-1), 1) := by decide +kernel
theorem zd_S_firstMissing_45 : decode zb_S_firstMissing 45 = .ok (.if_icmp .ne 16, 3) := by decide +kernel
theorem zd_S_firstMissing_48 : decode zb_S_firstMissing 48 = .ok (.iload_n 1, 1) := by decide +kernel
theorem zd_S_firstMissing_49 : decode zb_S_firstMissing 49 = .ok (.iload_n 2, 1) := by decide +kernel
theorem zd_S_firstMissing_50 : decode zb_S_firstMissing 50 = .ok (.invokestatic 51, 3) := by decide +kernel
theorem zd_S_firstMissing_53 : decode zb_S_firstMissing 53 = .ok (.invokestatic 54, 3) := by decide +kernel
theorem zd_S_firstMissing_56 : decode zb_S_firstMissing 56 = .ok (.ifCond .ne 5, 3) := by decide +kernel
theorem zd_S_firstMissing_59 : decode zb_S_firstMissing 59 = .ok (.iload_n 2, 1) := by decide +kernel
theorem zd_S_firstMissing_60 : decode zb_S_firstMissing 60 = .ok (.ireturn, 1) := by decide +kernel
theorem zd_S_firstMissing_61 : decode zb_S_firstMissing 61 = .ok (.iinc 2 1, 3) := by decide +kernel
theorem zd_S_firstMissing_64 : decode zb_S_firstMissing 64 = .ok (.goto (-62), 3) := by decide +kernel
theorem zd_S_firstMissing_67 : decode zb_S_firstMissing 67 = .ok (.iconst (-1), 1) := by decide +kernel
theorem zd_S_firstMissing_68 : decode zb_S_firstMissing 68 = .ok (.ireturn, 1) := by decide +kernel
abbrev zy_S_total : MethodName := ⟨"DeclareForms$Sheet", "total", "(I)J"⟩
abbrev zb_S_total : ByteArray := prog_5_method_13_code
theorem zh_S_total : zy_S_total.cls ≠ "java/lang/invoke/MethodHandle" ∧ zy_S_total.cls ≠ "java/lang/invoke/VarHandle" ∧ (parseMethodDescriptor zy_S_total.desc).map (fun d => d.parameters.length) = some 1 := by decide +kernel
theorem zd_S_total_0 : decode zb_S_total 0 = .ok (.lconst 0, 1) := by decide +kernel
theorem zd_S_total_1 : decode zb_S_total 1 = .ok (.lstore_n 2, 1) := by decide +kernel
theorem zd_S_total_2 : decode zb_S_total 2 = .ok (.iconst 1, 1) := by decide +kernel
theorem zd_S_total_3 : decode zb_S_total 3 = .ok (.istore 4, 2) := by decide +kernel
theorem zd_S_total_5 : decode zb_S_total 5 = .ok (.iload 4, 2) := by decide +kernel
theorem zd_S_total_7 : decode zb_S_total 7 = .ok (.bipush 30, 2) := by decide +kernel
theorem zd_S_total_9 : decode zb_S_total 9 = .ok (.if_icmp .gt 28, 3) := by decide +kernel
theorem zd_S_total_12 : decode zb_S_total 12 = .ok (.lload_n 2, 1) := by decide +kernel
theorem zd_S_total_13 : decode zb_S_total 13 = .ok (.iconst 0, 1) := by decide +kernel
theorem zd_S_total_14 : decode zb_S_total 14 = .ok (.aload_n 0, 1) := by decide +kernel
theorem zd_S_total_15 : decode zb_S_total 15 = .ok (.aload_n 0, 1) := by decide +kernel
theorem zd_S_total_16 : decode zb_S_total 16 = .ok (.iload_n 1, 1) := by decide +kernel
theorem zd_S_total_17 : decode zb_S_total 17 = .ok (.iload 4, 2) := by decide +kernel
theorem zd_S_total_19 : decode zb_S_total 19 = .ok (.invokevirtual 58, 3) := by decide +kernel
theorem zd_S_total_22 : decode zb_S_total 22 = .ok (.invokevirtual 61, 3) := by decide +kernel
theorem zd_S_total_25 : decode zb_S_total 25 = .ok (.invokestatic 68, 3) := by decide +kernel
theorem zd_S_total_28 : decode zb_S_total 28 = .ok (.i2l, 1) := by decide +kernel
theorem zd_S_total_29 : decode zb_S_total 29 = .ok (.ladd, 1) := by decide +kernel
theorem zd_S_total_30 : decode zb_S_total 30 = .ok (.lstore_n 2, 1) := by decide +kernel
theorem zd_S_total_31 : decode zb_S_total 31 = .ok (.iinc 4 1, 3) := by decide +kernel
theorem zd_S_total_34 : decode zb_S_total 34 = .ok (.goto (-29), 3) := by decide +kernel
theorem zd_S_total_37 : decode zb_S_total 37 = .ok (.lload_n 2, 1) := by decide +kernel
theorem zd_S_total_38 : decode zb_S_total 38 = .ok (.lreturn, 1) := by decide +kernel
abbrev zy_S_sumIsWrong : MethodName := ⟨"DeclareForms$Sheet", "sumIsWrong", "(II)Z"⟩
abbrev zb_S_sumIsWrong : ByteArray := prog_5_method_12_code
theorem zh_S_sumIsWrong : zy_S_sumIsWrong.cls ≠ "java/lang/invoke/MethodHandle" ∧ zy_S_sumIsWrong.cls ≠ "java/lang/invoke/VarHandle" ∧ (parseMethodDescriptor zy_S_sumIsWrong.desc).map (fun d => d.parameters.length) = some 2 := by decide +kernel
theorem zd_S_sumIsWrong_0 : decode zb_S_sumIsWrong 0 = .ok (.aload_n 0, 1) := by decide +kernel
theorem zd_S_sumIsWrong_1 : decode zb_S_sumIsWrong 1 = .ok (.aload_n 0, 1) := by decide +kernel
theorem zd_S_sumIsWrong_2 : decode zb_S_sumIsWrong 2 = .ok (.iload_n 1, 1) := by decide +kernel
theorem zd_S_sumIsWrong_3 : decode zb_S_sumIsWrong 3 = .ok (.iconst 0, 1) := by decide +kernel
theorem zd_S_sumIsWrong_4 : decode zb_S_sumIsWrong 4 = .ok (.invokevirtual 58, 3) := by decide +kernel
theorem zd_S_sumIsWrong_7 : decode zb_S_sumIsWrong 7 = .ok (.invokevirtual 61, 3) := by decide +kernel
theorem zd_S_sumIsWrong_10 : decode zb_S_sumIsWrong 10 = .ok (.istore_n 3, 1) := by decide +kernel
theorem zd_S_sumIsWrong_11 : decode zb_S_sumIsWrong 11 = .ok (.iload_n 3, 1) := by decide +kernel
theorem zd_S_sumIsWrong_12 : decode zb_S_sumIsWrong 12 = .ok (.iconst (-1), 1) := by decide +kernel
theorem zd_S_sumIsWrong_13 : decode zb_S_sumIsWrong 13 = .ok (.if_icmp .eq 18, 3) := by decide +kernel
theorem zd_S_sumIsWrong_16 : decode zb_S_sumIsWrong 16 = .ok (.iload_n 3, 1) := by decide +kernel
theorem zd_S_sumIsWrong_17 : decode zb_S_sumIsWrong 17 = .ok (.i2l, 1) := by decide +kernel
theorem zd_S_sumIsWrong_18 : decode zb_S_sumIsWrong 18 = .ok (.aload_n 0, 1) := by decide +kernel
theorem zd_S_sumIsWrong_19 : decode zb_S_sumIsWrong 19 = .ok (.iload_n 2, 1) := by decide +kernel
theorem zd_S_sumIsWrong_20 : decode zb_S_sumIsWrong 20 = .ok (.invokevirtual 64, 3) := by decide +kernel
theorem zd_S_sumIsWrong_23 : decode zb_S_sumIsWrong 23 = .ok (.lcmp, 1) := by decide +kernel
theorem zd_S_sumIsWrong_24 : decode zb_S_sumIsWrong 24 = .ok (.ifCond .eq 7, 3) := by decide +kernel
theorem zd_S_sumIsWrong_27 : decode zb_S_sumIsWrong 27 = .ok (.iconst 1, 1) := by decide +kernel
theorem zd_S_sumIsWrong_28 : decode zb_S_sumIsWrong 28 = .ok (.goto 4, 3) := by decide +kernel
theorem zd_S_sumIsWrong_31 : decode zb_S_sumIsWrong 31 = .ok (.iconst 0, 1) := by decide +kernel
theorem zd_S_sumIsWrong_32 : decode zb_S_sumIsWrong 32 = .ok (.ireturn, 1) := by decide +kernel
abbrev zy_S_setSlot : MethodName := ⟨"DeclareForms$Sheet", "setSlot", "(I)I"⟩
abbrev zb_S_setSlot : ByteArray := prog_5_method_14_code
theorem zh_S_setSlot : zy_S_setSlot.cls ≠ "java/lang/invoke/MethodHandle" ∧ zy_S_setSlot.cls ≠ "java/lang/invoke/VarHandle" ∧ (parseMethodDescriptor zy_S_setSlot.desc).map (fun d => d.parameters.length) = some 1 := by decide +kernel
theorem zd_S_setSlot_0 : decode zb_S_setSlot 0 = .ok (.iconst 0, 1) := by decide +kernel
theorem zd_S_setSlot_1 : decode zb_S_setSlot 1 = .ok (.istore_n 2, 1) := by decide +kernel
theorem zd_S_setSlot_2 : decode zb_S_setSlot 2 = .ok (.iconst 0, 1) := by decide +kernel
theorem zd_S_setSlot_3 : decode zb_S_setSlot 3 = .ok (.istore_n 3, 1) := by decide +kernel
theorem zd_S_setSlot_4 : decode zb_S_setSlot 4 = .ok (.iload_n 3, 1) := by decide +kernel
theorem zd_S_setSlot_5 : decode zb_S_setSlot 5 = .ok (.aload_n 0, 1) := by decide +kernel
theorem zd_S_setSlot_6 : decode zb_S_setSlot 6 = .ok (.getfield 9, 3) := by decide +kernel
theorem zd_S_setSlot_9 : decode zb_S_setSlot 9 = .ok (.arraylength, 1) := by decide +kernel
theorem zd_S_setSlot_10 : decode zb_S_setSlot 10 = .ok (.if_icmp .ge 29, 3) := by decide +kernel
theorem zd_S_setSlot_13 : decode zb_S_setSlot 13 = .ok (.aload_n 0, 1) := by decide +kernel
theorem zd_S_setSlot_14 : decode zb_S_setSlot 14 = .ok (.getfield 9, 3) := by decide +kernel
theorem zd_S_setSlot_17 : decode zb_S_setSlot 17 = .ok (.iload_n 3, 1) := by decide +kernel
theorem zd_S_setSlot_18 : decode zb_S_setSlot 18 = .ok (.iaload, 1) := by decide +kernel
theorem zd_S_setSlot_19 : decode zb_S_setSlot 19 = .ok (.iconst (-1), 1) := by decide +kernel
theorem zd_S_setSlot_20 : decode zb_S_setSlot 20 = .ok (.if_icmp .eq 13, 3) := by decide +kernel
theorem zd_S_setSlot_23 : decode zb_S_setSlot 23 = .ok (.iload_n 2, 1) := by decide +kernel
theorem zd_S_setSlot_24 : decode zb_S_setSlot 24 = .ok (.iload_n 1, 1) := by decide +kernel
theorem zd_S_setSlot_25 : decode zb_S_setSlot 25 = .ok (.if_icmp .ne 5, 3) := by decide +kernel
theorem zd_S_setSlot_28 : decode zb_S_setSlot 28 = .ok (.iload_n 3, 1) := by decide +kernel
theorem zd_S_setSlot_29 : decode zb_S_setSlot 29 = .ok (.ireturn, 1) := by decide +kernel
theorem zd_S_setSlot_30 : decode zb_S_setSlot 30 = .ok (.iinc 2 1, 3) := by decide +kernel
theorem zd_S_setSlot_33 : decode zb_S_setSlot 33 = .ok (.iinc 3 1, 3) := by decide +kernel
theorem zd_S_setSlot_36 : decode zb_S_setSlot 36 = .ok (.goto (-32), 3) := by decide +kernel
theorem zd_S_setSlot_39 : decode zb_S_setSlot 39 = .ok (.iconst (-1), 1) := by decide +kernel
theorem zd_S_setSlot_40 : decode zb_S_setSlot 40 = .ok (.ireturn, 1) := by decide +kernel
abbrev zy_C_find : MethodName := ⟨"DeclareForms$Codes", "find", "(I)I"⟩
abbrev zb_C_find : ByteArray := prog_2_method_5_code
theorem zh_C_find : zy_C_find.cls ≠ "java/lang/invoke/MethodHandle" ∧ zy_C_find.cls ≠ "java/lang/invoke/VarHandle" ∧ (parseMethodDescriptor zy_C_find.desc).map (fun d => d.parameters.length) = some 1 := by decide +kernel
theorem zd_C_find_0 : decode zb_C_find 0 = .ok (.iconst 0, 1) := by decide +kernel
theorem zd_C_find_1 : decode zb_C_find 1 = .ok (.istore_n 2, 1) := by decide +kernel
theorem zd_C_find_2 : decode zb_C_find 2 = .ok (.iload_n 2, 1) := by decide +kernel
theorem zd_C_find_3 : decode zb_C_find 3 = .ok (.aload_n 0, 1) := by decide +kernel
theorem zd_C_find_4 : decode zb_C_find 4 = .ok (.getfield 22, 3) := by decide +kernel
theorem zd_C_find_7 : decode zb_C_find 7 = .ok (.if_icmp .ge 21, 3) := by decide +kernel
theorem zd_C_find_10 : decode zb_C_find 10 = .ok (.aload_n 0, 1) := by decide +kernel
theorem zd_C_find_11 : decode zb_C_find 11 = .ok (.getfield 9, 3) := by decide +kernel
theorem zd_C_find_14 : decode zb_C_find 14 = .ok (.iload_n 2, 1) := by decide +kernel
theorem zd_C_find_15 : decode zb_C_find 15 = .ok (.iaload, 1) := by decide +kernel
theorem zd_C_find_16 : decode zb_C_find 16 = .ok (.iload_n 1, 1) := by decide +kernel
theorem zd_C_find_17 : decode zb_C_find 17 = .ok (.if_icmp .ne 5, 3) := by decide +kernel
theorem zd_C_find_20 : decode zb_C_find 20 = .ok (.iload_n 2, 1) := by decide +kernel
theorem zd_C_find_21 : decode zb_C_find 21 = .ok (.ireturn, 1) := by decide +kernel
theorem zd_C_find_22 : decode zb_C_find 22 = .ok (.iinc 2 1, 3) := by decide +kernel
theorem zd_C_find_25 : decode zb_C_find 25 = .ok (.goto (-23), 3) := by decide +kernel
theorem zd_C_find_28 : decode zb_C_find 28 = .ok (.iconst (-1), 1) := by decide +kernel
theorem zd_C_find_29 : decode zb_C_find 29 = .ok (.ireturn, 1) := by decide +kernel
abbrev zy_C_tell : MethodName := ⟨"DeclareForms$Codes", "tell", "(II)Z"⟩
abbrev zb_C_tell : ByteArray := prog_2_method_2_code
theorem zh_C_tell : zy_C_tell.cls ≠ "java/lang/invoke/MethodHandle" ∧ zy_C_tell.cls ≠ "java/lang/invoke/VarHandle" ∧ (parseMethodDescriptor zy_C_tell.desc).map (fun d => d.parameters.length) = some 2 := by decide +kernel
theorem zd_C_tell_0 : decode zb_C_tell 0 = .ok (.aload_n 0, 1) := by decide +kernel
theorem zd_C_tell_1 : decode zb_C_tell 1 = .ok (.iload_n 1, 1) := by decide +kernel
theorem zd_C_tell_2 : decode zb_C_tell 2 = .ok (.invokevirtual 18, 3) := by decide +kernel
theorem zd_C_tell_5 : decode zb_C_tell 5 = .ok (.istore_n 3, 1) := by decide +kernel
theorem zd_C_tell_6 : decode zb_C_tell 6 = .ok (.iload_n 3, 1) := by decide +kernel
theorem zd_C_tell_7 : decode zb_C_tell 7 = .ok (.iconst (-1), 1) := by decide +kernel
theorem zd_C_tell_8 : decode zb_C_tell 8 = .ok (.if_icmp .ne 36, 3) := by decide +kernel
theorem zd_C_tell_11 : decode zb_C_tell 11 = .ok (.aload_n 0, 1) := by decide +kernel
theorem zd_C_tell_12 : decode zb_C_tell 12 = .ok (.getfield 22, 3) := by decide +kernel
theorem zd_C_tell_15 : decode zb_C_tell 15 = .ok (.bipush 20, 2) := by decide +kernel
theorem zd_C_tell_17 : decode zb_C_tell 17 = .ok (.if_icmp .lt 5, 3) := by decide +kernel
theorem zd_C_tell_20 : decode zb_C_tell 20 = .ok (.iconst 0, 1) := by decide +kernel
theorem zd_C_tell_21 : decode zb_C_tell 21 = .ok (.ireturn, 1) := by decide +kernel
theorem zd_C_tell_22 : decode zb_C_tell 22 = .ok (.aload_n 0, 1) := by decide +kernel
theorem zd_C_tell_23 : decode zb_C_tell 23 = .ok (.getfield 22, 3) := by decide +kernel
theorem zd_C_tell_26 : decode zb_C_tell 26 = .ok (.istore_n 3, 1) := by decide +kernel
theorem zd_C_tell_27 : decode zb_C_tell 27 = .ok (.aload_n 0, 1) := by decide +kernel
theorem zd_C_tell_28 : decode zb_C_tell 28 = .ok (.dup, 1) := by decide +kernel
theorem zd_C_tell_29 : decode zb_C_tell 29 = .ok (.getfield 22, 3) := by decide +kernel
theorem zd_C_tell_32 : decode zb_C_tell 32 = .ok (.iconst 1, 1) := by decide +kernel
theorem zd_C_tell_33 : decode zb_C_tell 33 = .ok (.iadd, 1) := by decide +kernel
theorem zd_C_tell_34 : decode zb_C_tell 34 = .ok (.putfield 22, 3) := by decide +kernel
theorem zd_C_tell_37 : decode zb_C_tell 37 = .ok (.aload_n 0, 1) := by decide +kernel
theorem zd_C_tell_38 : decode zb_C_tell 38 = .ok (.getfield 9, 3) := by decide +kernel
theorem zd_C_tell_41 : decode zb_C_tell 41 = .ok (.iload_n 3, 1) := by decide +kernel
theorem zd_C_tell_42 : decode zb_C_tell 42 = .ok (.iload_n 1, 1) := by decide +kernel
theorem zd_C_tell_43 : decode zb_C_tell 43 = .ok (.iastore, 1) := by decide +kernel
theorem zd_C_tell_44 : decode zb_C_tell 44 = .ok (.aload_n 0, 1) := by decide +kernel
theorem zd_C_tell_45 : decode zb_C_tell 45 = .ok (.getfield 15, 3) := by decide +kernel
theorem zd_C_tell_48 : decode zb_C_tell 48 = .ok (.iload_n 3, 1) := by decide +kernel
theorem zd_C_tell_49 : decode zb_C_tell 49 = .ok (.iload_n 2, 1) := by decide +kernel
theorem zd_C_tell_50 : decode zb_C_tell 50 = .ok (.iastore, 1) := by decide +kernel
theorem zd_C_tell_51 : decode zb_C_tell 51 = .ok (.iconst 1, 1) := by decide +kernel
theorem zd_C_tell_52 : decode zb_C_tell 52 = .ok (.ireturn, 1) := by decide +kernel
abbrev zy_C_isGood : MethodName := ⟨"DeclareForms$Codes", "isGood", "(II)Z"⟩
abbrev zb_C_isGood : ByteArray := prog_2_method_3_code
theorem zh_C_isGood : zy_C_isGood.cls ≠ "java/lang/invoke/MethodHandle" ∧ zy_C_isGood.cls ≠ "java/lang/invoke/VarHandle" ∧ (parseMethodDescriptor zy_C_isGood.desc).map (fun d => d.parameters.length) = some 2 := by decide +kernel
theorem zd_C_isGood_0 : decode zb_C_isGood 0 = .ok (.aload_n 0, 1) := by decide +kernel
theorem zd_C_isGood_1 : decode zb_C_isGood 1 = .ok (.iload_n 1, 1) := by decide +kernel
theorem zd_C_isGood_2 : decode zb_C_isGood 2 = .ok (.invokevirtual 18, 3) := by decide +kernel
theorem zd_C_isGood_5 : decode zb_C_isGood 5 = .ok (.istore_n 3, 1) := by decide +kernel
theorem zd_C_isGood_6 : decode zb_C_isGood 6 = .ok (.iload_n 3, 1) := by decide +kernel
theorem zd_C_isGood_7 : decode zb_C_isGood 7 = .ok (.iconst (-1), 1) := by decide +kernel
theorem zd_C_isGood_8 : decode zb_C_isGood 8 = .ok (.if_icmp .eq 17, 3) := by decide +kernel
theorem zd_C_isGood_11 : decode zb_C_isGood 11 = .ok (.aload_n 0, 1) := by decide +kernel
theorem zd_C_isGood_12 : decode zb_C_isGood 12 = .ok (.getfield 15, 3) := by decide +kernel
theorem zd_C_isGood_15 : decode zb_C_isGood 15 = .ok (.iload_n 3, 1) := by decide +kernel
theorem zd_C_isGood_16 : decode zb_C_isGood 16 = .ok (.iaload, 1) := by decide +kernel
theorem zd_C_isGood_17 : decode zb_C_isGood 17 = .ok (.iload_n 2, 1) := by decide +kernel
theorem zd_C_isGood_18 : decode zb_C_isGood 18 = .ok (.if_icmp .lt 7, 3) := by decide +kernel
theorem zd_C_isGood_21 : decode zb_C_isGood 21 = .ok (.iconst 1, 1) := by decide +kernel
theorem zd_C_isGood_22 : decode zb_C_isGood 22 = .ok (.goto 4, 3) := by decide +kernel
theorem zd_C_isGood_25 : decode zb_C_isGood 25 = .ok (.iconst 0, 1) := by decide +kernel
theorem zd_C_isGood_26 : decode zb_C_isGood 26 = .ok (.ireturn, 1) := by decide +kernel
abbrev zy_C_goodCount : MethodName := ⟨"DeclareForms$Codes", "goodCount", "(I)I"⟩
abbrev zb_C_goodCount : ByteArray := prog_2_method_4_code
theorem zh_C_goodCount : zy_C_goodCount.cls ≠ "java/lang/invoke/MethodHandle" ∧ zy_C_goodCount.cls ≠ "java/lang/invoke/VarHandle" ∧ (parseMethodDescriptor zy_C_goodCount.desc).map (fun d => d.parameters.length) = some 1 := by decide +kernel
theorem zd_C_goodCount_0 : decode zb_C_goodCount 0 = .ok (.iconst 0, 1) := by decide +kernel
theorem zd_C_goodCount_1 : decode zb_C_goodCount 1 = .ok (.istore_n 2, 1) := by decide +kernel
theorem zd_C_goodCount_2 : decode zb_C_goodCount 2 = .ok (.iconst 0, 1) := by decide +kernel
theorem zd_C_goodCount_3 : decode zb_C_goodCount 3 = .ok (.istore_n 3, 1) := by decide +kernel
theorem zd_C_goodCount_4 : decode zb_C_goodCount 4 = .ok (.iload_n 3, 1) := by decide +kernel
theorem zd_C_goodCount_5 : decode zb_C_goodCount 5 = .ok (.aload_n 0, 1) := by decide +kernel
theorem zd_C_goodCount_6 : decode zb_C_goodCount 6 = .ok (.getfield 22, 3) := by decide +kernel
theorem zd_C_goodCount_9 : decode zb_C_goodCount 9 = .ok (.if_icmp .ge 22, 3) := by decide +kernel
theorem zd_C_goodCount_12 : decode zb_C_goodCount 12 = .ok (.aload_n 0, 1) := by decide +kernel
theorem zd_C_goodCount_13 : decode zb_C_goodCount 13 = .ok (.getfield 15, 3) := by decide +kernel
theorem zd_C_goodCount_16 : decode zb_C_goodCount 16 = .ok (.iload_n 3, 1) := by decide +kernel
theorem zd_C_goodCount_17 : decode zb_C_goodCount 17 = .ok (.iaload, 1) := by decide +kernel
theorem zd_C_goodCount_18 : decode zb_C_goodCount 18 = .ok (.iload_n 1, 1) := by decide +kernel
theorem zd_C_goodCount_19 : decode zb_C_goodCount 19 = .ok (.if_icmp .lt 6, 3) := by decide +kernel
theorem zd_C_goodCount_22 : decode zb_C_goodCount 22 = .ok (.iinc 2 1, 3) := by decide +kernel
theorem zd_C_goodCount_25 : decode zb_C_goodCount 25 = .ok (.iinc 3 1, 3) := by decide +kernel
theorem zd_C_goodCount_28 : decode zb_C_goodCount 28 = .ok (.goto (-24), 3) := by decide +kernel
theorem zd_C_goodCount_31 : decode zb_C_goodCount 31 = .ok (.iload_n 2, 1) := by decide +kernel
theorem zd_C_goodCount_32 : decode zb_C_goodCount 32 = .ok (.ireturn, 1) := by decide +kernel
abbrev zy_P_size : MethodName := ⟨"DeclareForms$Papers", "size", "()I"⟩
abbrev zb_P_size : ByteArray := prog_3_method_2_code
theorem zh_P_size : zy_P_size.cls ≠ "java/lang/invoke/MethodHandle" ∧ zy_P_size.cls ≠ "java/lang/invoke/VarHandle" ∧ (parseMethodDescriptor zy_P_size.desc).map (fun d => d.parameters.length) = some 0 := by decide +kernel
theorem zd_P_size_0 : decode zb_P_size 0 = .ok (.aload_n 0, 1) := by decide +kernel
theorem zd_P_size_1 : decode zb_P_size 1 = .ok (.getfield 21, 3) := by decide +kernel
theorem zd_P_size_4 : decode zb_P_size 4 = .ok (.ireturn, 1) := by decide +kernel
abbrev zy_P_find : MethodName := ⟨"DeclareForms$Papers", "find", "(I)I"⟩
abbrev zb_P_find : ByteArray := prog_3_method_4_code
theorem zh_P_find : zy_P_find.cls ≠ "java/lang/invoke/MethodHandle" ∧ zy_P_find.cls ≠ "java/lang/invoke/VarHandle" ∧ (parseMethodDescriptor zy_P_find.desc).map (fun d => d.parameters.length) = some 1 := by decide +kernel
theorem zd_P_find_0 : decode zb_P_find 0 = .ok (.iconst 0, 1) := by decide +kernel
theorem zd_P_find_1 : decode zb_P_find 1 = .ok (.istore_n 2, 1) := by decide +kernel
theorem zd_P_find_2 : decode zb_P_find 2 = .ok (.iload_n 2, 1) := by decide +kernel
theorem zd_P_find_3 : decode zb_P_find 3 = .ok (.aload_n 0, 1) := by decide +kernel
theorem zd_P_find_4 : decode zb_P_find 4 = .ok (.getfield 21, 3) := by decide +kernel
theorem zd_P_find_7 : decode zb_P_find 7 = .ok (.if_icmp .ge 21, 3) := by decide +kernel
theorem zd_P_find_10 : decode zb_P_find 10 = .ok (.aload_n 0, 1) := by decide +kernel
theorem zd_P_find_11 : decode zb_P_find 11 = .ok (.getfield 9, 3) := by decide +kernel
theorem zd_P_find_14 : decode zb_P_find 14 = .ok (.iload_n 2, 1) := by decide +kernel
theorem zd_P_find_15 : decode zb_P_find 15 = .ok (.iaload, 1) := by decide +kernel
theorem zd_P_find_16 : decode zb_P_find 16 = .ok (.iload_n 1, 1) := by decide +kernel
theorem zd_P_find_17 : decode zb_P_find 17 = .ok (.if_icmp .ne 5, 3) := by decide +kernel
theorem zd_P_find_20 : decode zb_P_find 20 = .ok (.iload_n 2, 1) := by decide +kernel
theorem zd_P_find_21 : decode zb_P_find 21 = .ok (.ireturn, 1) := by decide +kernel
theorem zd_P_find_22 : decode zb_P_find 22 = .ok (.iinc 2 1, 3) := by decide +kernel
theorem zd_P_find_25 : decode zb_P_find 25 = .ok (.goto (-23), 3) := by decide +kernel
theorem zd_P_find_28 : decode zb_P_find 28 = .ok (.iconst (-1), 1) := by decide +kernel
theorem zd_P_find_29 : decode zb_P_find 29 = .ok (.ireturn, 1) := by decide +kernel
abbrev zy_P_register : MethodName := ⟨"DeclareForms$Papers", "register", "(II)Z"⟩
abbrev zb_P_register : ByteArray := prog_3_method_3_code
theorem zh_P_register : zy_P_register.cls ≠ "java/lang/invoke/MethodHandle" ∧ zy_P_register.cls ≠ "java/lang/invoke/VarHandle" ∧ (parseMethodDescriptor zy_P_register.desc).map (fun d => d.parameters.length) = some 2 := by decide +kernel
theorem zd_P_register_0 : decode zb_P_register 0 = .ok (.aload_n 0, 1) := by decide +kernel
theorem zd_P_register_1 : decode zb_P_register 1 = .ok (.getfield 21, 3) := by decide +kernel
theorem zd_P_register_4 : decode zb_P_register 4 = .ok (.bipush 20, 2) := by decide +kernel
theorem zd_P_register_6 : decode zb_P_register 6 = .ok (.if_icmp .ge 12, 3) := by decide +kernel
theorem zd_P_register_9 : decode zb_P_register 9 = .ok (.aload_n 0, 1) := by decide +kernel
theorem zd_P_register_10 : decode zb_P_register 10 = .ok (.iload_n 1, 1) := by decide +kernel
theorem zd_P_register_11 : decode zb_P_register 11 = .ok (.invokevirtual 25, 3) := by decide +kernel
theorem zd_P_register_14 : decode zb_P_register 14 = .ok (.iconst (-1), 1) := by decide +kernel
theorem zd_P_register_15 : decode zb_P_register 15 = .ok (.if_icmp .eq 5, 3) := by decide +kernel
theorem zd_P_register_18 : decode zb_P_register 18 = .ok (.iconst 0, 1) := by decide +kernel
theorem zd_P_register_19 : decode zb_P_register 19 = .ok (.ireturn, 1) := by decide +kernel
theorem zd_P_register_20 : decode zb_P_register 20 = .ok (.aload_n 0, 1) := by decide +kernel
theorem zd_P_register_21 : decode zb_P_register 21 = .ok (.getfield 9, 3) := by decide +kernel
theorem zd_P_register_24 : decode zb_P_register 24 = .ok (.aload_n 0, 1) := by decide +kernel
theorem zd_P_register_25 : decode zb_P_register 25 = .ok (.getfield 21, 3) := by decide +kernel
theorem zd_P_register_28 : decode zb_P_register 28 = .ok (.iload_n 1, 1) := by decide +kernel
theorem zd_P_register_29 : decode zb_P_register 29 = .ok (.iastore, 1) := by decide +kernel
theorem zd_P_register_30 : decode zb_P_register 30 = .ok (.aload_n 0, 1) := by decide +kernel
theorem zd_P_register_31 : decode zb_P_register 31 = .ok (.getfield 15, 3) := by decide +kernel
theorem zd_P_register_34 : decode zb_P_register 34 = .ok (.aload_n 0, 1) := by decide +kernel
theorem zd_P_register_35 : decode zb_P_register 35 = .ok (.getfield 21, 3) := by decide +kernel
theorem zd_P_register_38 : decode zb_P_register 38 = .ok (.iload_n 2, 1) := by decide +kernel
theorem zd_P_register_39 : decode zb_P_register 39 = .ok (.iastore, 1) := by decide +kernel
theorem zd_P_register_40 : decode zb_P_register 40 = .ok (.aload_n 0, 1) := by decide +kernel
theorem zd_P_register_41 : decode zb_P_register 41 = .ok (.dup, 1) := by decide +kernel
theorem zd_P_register_42 : decode zb_P_register 42 = .ok (.getfield 21, 3) := by decide +kernel
theorem zd_P_register_45 : decode zb_P_register 45 = .ok (.iconst 1, 1) := by decide +kernel
theorem zd_P_register_46 : decode zb_P_register 46 = .ok (.iadd, 1) := by decide +kernel
theorem zd_P_register_47 : decode zb_P_register 47 = .ok (.putfield 21, 3) := by decide +kernel
theorem zd_P_register_50 : decode zb_P_register 50 = .ok (.iconst 1, 1) := by decide +kernel
theorem zd_P_register_51 : decode zb_P_register 51 = .ok (.ireturn, 1) := by decide +kernel
abbrev zy_P_balanceOf : MethodName := ⟨"DeclareForms$Papers", "balanceOf", "(I)I"⟩
abbrev zb_P_balanceOf : ByteArray := prog_3_method_5_code
theorem zh_P_balanceOf : zy_P_balanceOf.cls ≠ "java/lang/invoke/MethodHandle" ∧ zy_P_balanceOf.cls ≠ "java/lang/invoke/VarHandle" ∧ (parseMethodDescriptor zy_P_balanceOf.desc).map (fun d => d.parameters.length) = some 1 := by decide +kernel
theorem zd_P_balanceOf_0 : decode zb_P_balanceOf 0 = .ok (.aload_n 0, 1) := by decide +kernel
theorem zd_P_balanceOf_1 : decode zb_P_balanceOf 1 = .ok (.iload_n 1, 1) := by decide +kernel
theorem zd_P_balanceOf_2 : decode zb_P_balanceOf 2 = .ok (.invokevirtual 25, 3) := by decide +kernel
theorem zd_P_balanceOf_5 : decode zb_P_balanceOf 5 = .ok (.istore_n 2, 1) := by decide +kernel
theorem zd_P_balanceOf_6 : decode zb_P_balanceOf 6 = .ok (.iload_n 2, 1) := by decide +kernel
theorem zd_P_balanceOf_7 : decode zb_P_balanceOf 7 = .ok (.iconst (-1), 1) := by decide +kernel
theorem zd_P_balanceOf_8 : decode zb_P_balanceOf 8 = .ok (.if_icmp .ne 7, 3) := by decide +kernel
theorem zd_P_balanceOf_11 : decode zb_P_balanceOf 11 = .ok (.iconst (-1), 1) := by decide +kernel
theorem zd_P_balanceOf_12 : decode zb_P_balanceOf 12 = .ok (.goto 9, 3) := by decide +kernel
theorem zd_P_balanceOf_15 : decode zb_P_balanceOf 15 = .ok (.aload_n 0, 1) := by decide +kernel
theorem zd_P_balanceOf_16 : decode zb_P_balanceOf 16 = .ok (.getfield 15, 3) := by decide +kernel
theorem zd_P_balanceOf_19 : decode zb_P_balanceOf 19 = .ok (.iload_n 2, 1) := by decide +kernel
theorem zd_P_balanceOf_20 : decode zb_P_balanceOf 20 = .ok (.iaload, 1) := by decide +kernel
theorem zd_P_balanceOf_21 : decode zb_P_balanceOf 21 = .ok (.ireturn, 1) := by decide +kernel
abbrev zy_P_take : MethodName := ⟨"DeclareForms$Papers", "take", "(III)I"⟩
abbrev zb_P_take : ByteArray := prog_3_method_6_code
theorem zh_P_take : zy_P_take.cls ≠ "java/lang/invoke/MethodHandle" ∧ zy_P_take.cls ≠ "java/lang/invoke/VarHandle" ∧ (parseMethodDescriptor zy_P_take.desc).map (fun d => d.parameters.length) = some 3 := by decide +kernel
theorem zd_P_take_0 : decode zb_P_take 0 = .ok (.iload_n 1, 1) := by decide +kernel
theorem zd_P_take_1 : decode zb_P_take 1 = .ok (.ifCond .lt 31, 3) := by decide +kernel
theorem zd_P_take_4 : decode zb_P_take 4 = .ok (.iload_n 1, 1) := by decide +kernel
theorem zd_P_take_5 : decode zb_P_take 5 = .ok (.bipush 30, 2) := by decide +kernel
theorem zd_P_take_7 : decode zb_P_take 7 = .ok (.if_icmp .gt 25, 3) := by decide +kernel
theorem zd_P_take_10 : decode zb_P_take 10 = .ok (.iload_n 2, 1) := by decide +kernel
theorem zd_P_take_11 : decode zb_P_take 11 = .ok (.ifCond .lt 21, 3) := by decide +kernel
theorem zd_P_take_14 : decode zb_P_take 14 = .ok (.iload_n 2, 1) := by decide +kernel
theorem zd_P_take_15 : decode zb_P_take 15 = .ok (.aload_n 0, 1) := by decide +kernel
theorem zd_P_take_16 : decode zb_P_take 16 = .ok (.getfield 21, 3) := by decide +kernel
theorem zd_P_take_19 : decode zb_P_take 19 = .ok (.if_icmp .ge 13, 3) := by decide +kernel
theorem zd_P_take_22 : decode zb_P_take 22 = .ok (.aload_n 0, 1) := by decide +kernel
theorem zd_P_take_23 : decode zb_P_take 23 = .ok (.getfield 15, 3) := by decide +kernel
theorem zd_P_take_26 : decode zb_P_take 26 = .ok (.iload_n 2, 1) := by decide +kernel
theorem zd_P_take_27 : decode zb_P_take 27 = .ok (.iaload, 1) := by decide +kernel
theorem zd_P_take_28 : decode zb_P_take 28 = .ok (.iload_n 3, 1) := by decide +kernel
theorem zd_P_take_29 : decode zb_P_take 29 = .ok (.if_icmp .ge 5, 3) := by decide +kernel
theorem zd_P_take_32 : decode zb_P_take 32 = .ok (.iconst (-1), 1) := by decide +kernel
theorem zd_P_take_33 : decode zb_P_take 33 = .ok (.ireturn, 1) := by decide +kernel
theorem zd_P_take_34 : decode zb_P_take 34 = .ok (.aload_n 0, 1) := by decide +kernel
theorem zd_P_take_35 : decode zb_P_take 35 = .ok (.getfield 15, 3) := by decide +kernel
theorem zd_P_take_38 : decode zb_P_take 38 = .ok (.iload_n 2, 1) := by decide +kernel
theorem zd_P_take_39 : decode zb_P_take 39 = .ok (.dup2, 1) := by decide +kernel
theorem zd_P_take_40 : decode zb_P_take 40 = .ok (.iaload, 1) := by decide +kernel
theorem zd_P_take_41 : decode zb_P_take 41 = .ok (.iload_n 3, 1) := by decide +kernel
theorem zd_P_take_42 : decode zb_P_take 42 = .ok (.isub, 1) := by decide +kernel
theorem zd_P_take_43 : decode zb_P_take 43 = .ok (.iastore, 1) := by decide +kernel
theorem zd_P_take_44 : decode zb_P_take 44 = .ok (.aload_n 0, 1) := by decide +kernel
theorem zd_P_take_45 : decode zb_P_take 45 = .ok (.getfield 18, 3) := by decide +kernel
theorem zd_P_take_48 : decode zb_P_take 48 = .ok (.iload_n 1, 1) := by decide +kernel
theorem zd_P_take_49 : decode zb_P_take 49 = .ok (.bipush 20, 2) := by decide +kernel
theorem zd_P_take_51 : decode zb_P_take 51 = .ok (.imul, 1) := by decide +kernel
theorem zd_P_take_52 : decode zb_P_take 52 = .ok (.iload_n 2, 1) := by decide +kernel
theorem zd_P_take_53 : decode zb_P_take 53 = .ok (.iadd, 1) := by decide +kernel
theorem zd_P_take_54 : decode zb_P_take 54 = .ok (.dup2, 1) := by decide +kernel
theorem zd_P_take_55 : decode zb_P_take 55 = .ok (.iaload, 1) := by decide +kernel
theorem zd_P_take_56 : decode zb_P_take 56 = .ok (.iload_n 3, 1) := by decide +kernel
theorem zd_P_take_57 : decode zb_P_take 57 = .ok (.iadd, 1) := by decide +kernel
theorem zd_P_take_58 : decode zb_P_take 58 = .ok (.iastore, 1) := by decide +kernel
theorem zd_P_take_59 : decode zb_P_take 59 = .ok (.aload_n 0, 1) := by decide +kernel
theorem zd_P_take_60 : decode zb_P_take 60 = .ok (.getfield 15, 3) := by decide +kernel
theorem zd_P_take_63 : decode zb_P_take 63 = .ok (.iload_n 2, 1) := by decide +kernel
theorem zd_P_take_64 : decode zb_P_take 64 = .ok (.iaload, 1) := by decide +kernel
theorem zd_P_take_65 : decode zb_P_take 65 = .ok (.ireturn, 1) := by decide +kernel
abbrev zy_P_giveBack : MethodName := ⟨"DeclareForms$Papers", "giveBack", "(I)V"⟩
abbrev zb_P_giveBack : ByteArray := prog_3_method_7_code
theorem zh_P_giveBack : zy_P_giveBack.cls ≠ "java/lang/invoke/MethodHandle" ∧ zy_P_giveBack.cls ≠ "java/lang/invoke/VarHandle" ∧ (parseMethodDescriptor zy_P_giveBack.desc).map (fun d => d.parameters.length) = some 1 := by decide +kernel
theorem zd_P_giveBack_0 : decode zb_P_giveBack 0 = .ok (.iload_n 1, 1) := by decide +kernel
theorem zd_P_giveBack_1 : decode zb_P_giveBack 1 = .ok (.ifCond .lt 9, 3) := by decide +kernel
theorem zd_P_giveBack_4 : decode zb_P_giveBack 4 = .ok (.iload_n 1, 1) := by decide +kernel
theorem zd_P_giveBack_5 : decode zb_P_giveBack 5 = .ok (.bipush 30, 2) := by decide +kernel
theorem zd_P_giveBack_7 : decode zb_P_giveBack 7 = .ok (.if_icmp .le 4, 3) := by decide +kernel
theorem zd_P_giveBack_10 : decode zb_P_giveBack 10 = .ok (.return_, 1) := by decide +kernel
theorem zd_P_giveBack_11 : decode zb_P_giveBack 11 = .ok (.iconst 0, 1) := by decide +kernel
theorem zd_P_giveBack_12 : decode zb_P_giveBack 12 = .ok (.istore_n 2, 1) := by decide +kernel
theorem zd_P_giveBack_13 : decode zb_P_giveBack 13 = .ok (.iload_n 2, 1) := by decide +kernel
theorem zd_P_giveBack_14 : decode zb_P_giveBack 14 = .ok (.aload_n 0, 1) := by decide +kernel
theorem zd_P_giveBack_15 : decode zb_P_giveBack 15 = .ok (.getfield 21, 3) := by decide +kernel
theorem zd_P_giveBack_18 : decode zb_P_giveBack 18 = .ok (.if_icmp .ge 29, 3) := by decide +kernel
theorem zd_P_giveBack_21 : decode zb_P_giveBack 21 = .ok (.aload_n 0, 1) := by decide +kernel
theorem zd_P_giveBack_22 : decode zb_P_giveBack 22 = .ok (.getfield 15, 3) := by decide +kernel
theorem zd_P_giveBack_25 : decode zb_P_giveBack 25 = .ok (.iload_n 2, 1) := by decide +kernel
theorem zd_P_giveBack_26 : decode zb_P_giveBack 26 = .ok (.dup2, 1) := by decide +kernel
theorem zd_P_giveBack_27 : decode zb_P_giveBack 27 = .ok (.iaload, 1) := by decide +kernel
theorem zd_P_giveBack_28 : decode zb_P_giveBack 28 = .ok (.aload_n 0, 1) := by decide +kernel
theorem zd_P_giveBack_29 : decode zb_P_giveBack 29 = .ok (.getfield 18, 3) := by decide +kernel
theorem zd_P_giveBack_32 : decode zb_P_giveBack 32 = .ok (.iload_n 1, 1) := by decide +kernel
theorem zd_P_giveBack_33 : decode zb_P_giveBack 33 = .ok (.bipush 20, 2) := by decide +kernel
theorem zd_P_giveBack_35 : decode zb_P_giveBack 35 = .ok (.imul, 1) := by decide +kernel
theorem zd_P_giveBack_36 : decode zb_P_giveBack 36 = .ok (.iload_n 2, 1) := by decide +kernel
theorem zd_P_giveBack_37 : decode zb_P_giveBack 37 = .ok (.iadd, 1) := by decide +kernel
theorem zd_P_giveBack_38 : decode zb_P_giveBack 38 = .ok (.iaload, 1) := by decide +kernel
theorem zd_P_giveBack_39 : decode zb_P_giveBack 39 = .ok (.iadd, 1) := by decide +kernel
theorem zd_P_giveBack_40 : decode zb_P_giveBack 40 = .ok (.iastore, 1) := by decide +kernel
theorem zd_P_giveBack_41 : decode zb_P_giveBack 41 = .ok (.iinc 2 1, 3) := by decide +kernel
theorem zd_P_giveBack_44 : decode zb_P_giveBack 44 = .ok (.goto (-31), 3) := by decide +kernel
theorem zd_P_giveBack_47 : decode zb_P_giveBack 47 = .ok (.return_, 1) := by decide +kernel
abbrev zy_R_wholeRows : MethodName := ⟨"DeclareForms$Reader", "wholeRows", "()I"⟩
abbrev zb_R_wholeRows : ByteArray := prog_4_method_2_code
theorem zh_R_wholeRows : zy_R_wholeRows.cls ≠ "java/lang/invoke/MethodHandle" ∧ zy_R_wholeRows.cls ≠ "java/lang/invoke/VarHandle" ∧ (parseMethodDescriptor zy_R_wholeRows.desc).map (fun d => d.parameters.length) = some 0 := by decide +kernel
theorem zd_R_wholeRows_0 : decode zb_R_wholeRows 0 = .ok (.aload_n 0, 1) := by decide +kernel
theorem zd_R_wholeRows_1 : decode zb_R_wholeRows 1 = .ok (.getfield 9, 3) := by decide +kernel
theorem zd_R_wholeRows_4 : decode zb_R_wholeRows 4 = .ok (.ireturn, 1) := by decide +kernel
abbrev zy_R_latestFields : MethodName := ⟨"DeclareForms$Reader", "latestFields", "()I"⟩
abbrev zb_R_latestFields : ByteArray := prog_4_method_3_code
theorem zh_R_latestFields : zy_R_latestFields.cls ≠ "java/lang/invoke/MethodHandle" ∧ zy_R_latestFields.cls ≠ "java/lang/invoke/VarHandle" ∧ (parseMethodDescriptor zy_R_latestFields.desc).map (fun d => d.parameters.length) = some 0 := by decide +kernel
theorem zd_R_latestFields_0 : decode zb_R_latestFields 0 = .ok (.aload_n 0, 1) := by decide +kernel
theorem zd_R_latestFields_1 : decode zb_R_latestFields 1 = .ok (.getfield 15, 3) := by decide +kernel
theorem zd_R_latestFields_4 : decode zb_R_latestFields 4 = .ok (.ireturn, 1) := by decide +kernel
abbrev zy_R_takeKind : MethodName := ⟨"DeclareForms$Reader", "takeKind", "(I)Z"⟩
abbrev zb_R_takeKind : ByteArray := prog_4_method_6_code
theorem zh_R_takeKind : zy_R_takeKind.cls ≠ "java/lang/invoke/MethodHandle" ∧ zy_R_takeKind.cls ≠ "java/lang/invoke/VarHandle" ∧ (parseMethodDescriptor zy_R_takeKind.desc).map (fun d => d.parameters.length) = some 1 := by decide +kernel
theorem zd_R_takeKind_0 : decode zb_R_takeKind 0 = .ok (.aload_n 0, 1) := by decide +kernel
theorem zd_R_takeKind_1 : decode zb_R_takeKind 1 = .ok (.iload_n 1, 1) := by decide +kernel
theorem zd_R_takeKind_2 : decode zb_R_takeKind 2 = .ok (.putfield 49, 3) := by decide +kernel
theorem zd_R_takeKind_5 : decode zb_R_takeKind 5 = .ok (.aload_n 0, 1) := by decide +kernel
theorem zd_R_takeKind_6 : decode zb_R_takeKind 6 = .ok (.iconst (-1), 1) := by decide +kernel
theorem zd_R_takeKind_7 : decode zb_R_takeKind 7 = .ok (.putfield 52, 3) := by decide +kernel
theorem zd_R_takeKind_10 : decode zb_R_takeKind 10 = .ok (.iload_n 1, 1) := by decide +kernel
theorem zd_R_takeKind_11 : decode zb_R_takeKind 11 = .ok (.iconst 3, 1) := by decide +kernel
theorem zd_R_takeKind_12 : decode zb_R_takeKind 12 = .ok (.if_icmp .gt 7, 3) := by decide +kernel
theorem zd_R_takeKind_15 : decode zb_R_takeKind 15 = .ok (.iconst 1, 1) := by decide +kernel
theorem zd_R_takeKind_16 : decode zb_R_takeKind 16 = .ok (.goto 4, 3) := by decide +kernel
theorem zd_R_takeKind_19 : decode zb_R_takeKind 19 = .ok (.iconst 0, 1) := by decide +kernel
theorem zd_R_takeKind_20 : decode zb_R_takeKind 20 = .ok (.ireturn, 1) := by decide +kernel
abbrev zy_R_takeHigher : MethodName := ⟨"DeclareForms$Reader", "takeHigher", "(I)Z"⟩
abbrev zb_R_takeHigher : ByteArray := prog_4_method_7_code
theorem zh_R_takeHigher : zy_R_takeHigher.cls ≠ "java/lang/invoke/MethodHandle" ∧ zy_R_takeHigher.cls ≠ "java/lang/invoke/VarHandle" ∧ (parseMethodDescriptor zy_R_takeHigher.desc).map (fun d => d.parameters.length) = some 1 := by decide +kernel
theorem zd_R_takeHigher_0 : decode zb_R_takeHigher 0 = .ok (.aload_n 0, 1) := by decide +kernel
theorem zd_R_takeHigher_1 : decode zb_R_takeHigher 1 = .ok (.iload_n 1, 1) := by decide +kernel
theorem zd_R_takeHigher_2 : decode zb_R_takeHigher 2 = .ok (.sipush 256, 3) := by decide +kernel
theorem zd_R_takeHigher_5 : decode zb_R_takeHigher 5 = .ok (.imul, 1) := by decide +kernel
theorem zd_R_takeHigher_6 : decode zb_R_takeHigher 6 = .ok (.putfield 28, 3) := by decide +kernel
theorem zd_R_takeHigher_9 : decode zb_R_takeHigher 9 = .ok (.aload_n 0, 1) := by decide +kernel
theorem zd_R_takeHigher_10 : decode zb_R_takeHigher 10 = .ok (.getfield 28, 3) := by decide +kernel
theorem zd_R_takeHigher_13 : decode zb_R_takeHigher 13 = .ok (.sipush 610, 3) := by decide +kernel
theorem zd_R_takeHigher_16 : decode zb_R_takeHigher 16 = .ok (.if_icmp .gt 7, 3) := by decide +kernel
theorem zd_R_takeHigher_19 : decode zb_R_takeHigher 19 = .ok (.iconst 1, 1) := by decide +kernel
theorem zd_R_takeHigher_20 : decode zb_R_takeHigher 20 = .ok (.goto 4, 3) := by decide +kernel
theorem zd_R_takeHigher_23 : decode zb_R_takeHigher 23 = .ok (.iconst 0, 1) := by decide +kernel
theorem zd_R_takeHigher_24 : decode zb_R_takeHigher 24 = .ok (.ireturn, 1) := by decide +kernel
abbrev zy_R_takeLower : MethodName := ⟨"DeclareForms$Reader", "takeLower", "(I)Z"⟩
abbrev zb_R_takeLower : ByteArray := prog_4_method_8_code
theorem zh_R_takeLower : zy_R_takeLower.cls ≠ "java/lang/invoke/MethodHandle" ∧ zy_R_takeLower.cls ≠ "java/lang/invoke/VarHandle" ∧ (parseMethodDescriptor zy_R_takeLower.desc).map (fun d => d.parameters.length) = some 1 := by decide +kernel
theorem zd_R_takeLower_0 : decode zb_R_takeLower 0 = .ok (.aload_n 0, 1) := by decide +kernel
theorem zd_R_takeLower_1 : decode zb_R_takeLower 1 = .ok (.dup, 1) := by decide +kernel
theorem zd_R_takeLower_2 : decode zb_R_takeLower 2 = .ok (.getfield 28, 3) := by decide +kernel
theorem zd_R_takeLower_5 : decode zb_R_takeLower 5 = .ok (.iload_n 1, 1) := by decide +kernel
theorem zd_R_takeLower_6 : decode zb_R_takeLower 6 = .ok (.iadd, 1) := by decide +kernel
theorem zd_R_takeLower_7 : decode zb_R_takeLower 7 = .ok (.putfield 28, 3) := by decide +kernel
theorem zd_R_takeLower_10 : decode zb_R_takeLower 10 = .ok (.aload_n 0, 1) := by decide +kernel
theorem zd_R_takeLower_11 : decode zb_R_takeLower 11 = .ok (.aload_n 0, 1) := by decide +kernel
theorem zd_R_takeLower_12 : decode zb_R_takeLower 12 = .ok (.getfield 28, 3) := by decide +kernel
theorem zd_R_takeLower_15 : decode zb_R_takeLower 15 = .ok (.putfield 25, 3) := by decide +kernel
theorem zd_R_takeLower_18 : decode zb_R_takeLower 18 = .ok (.aload_n 0, 1) := by decide +kernel
theorem zd_R_takeLower_19 : decode zb_R_takeLower 19 = .ok (.getfield 28, 3) := by decide +kernel
theorem zd_R_takeLower_22 : decode zb_R_takeLower 22 = .ok (.sipush 610, 3) := by decide +kernel
theorem zd_R_takeLower_25 : decode zb_R_takeLower 25 = .ok (.if_icmp .gt 7, 3) := by decide +kernel
theorem zd_R_takeLower_28 : decode zb_R_takeLower 28 = .ok (.iconst 1, 1) := by decide +kernel
theorem zd_R_takeLower_29 : decode zb_R_takeLower 29 = .ok (.goto 4, 3) := by decide +kernel
theorem zd_R_takeLower_32 : decode zb_R_takeLower 32 = .ok (.iconst 0, 1) := by decide +kernel
theorem zd_R_takeLower_33 : decode zb_R_takeLower 33 = .ok (.ireturn, 1) := by decide +kernel
abbrev zy_R_takeField : MethodName := ⟨"DeclareForms$Reader", "takeField", "(I)Z"⟩
abbrev zb_R_takeField : ByteArray := prog_4_method_9_code
theorem zh_R_takeField : zy_R_takeField.cls ≠ "java/lang/invoke/MethodHandle" ∧ zy_R_takeField.cls ≠ "java/lang/invoke/VarHandle" ∧ (parseMethodDescriptor zy_R_takeField.desc).map (fun d => d.parameters.length) = some 1 := by decide +kernel
theorem zd_R_takeField_0 : decode zb_R_takeField 0 = .ok (.aload_n 0, 1) := by decide +kernel
theorem zd_R_takeField_1 : decode zb_R_takeField 1 = .ok (.iload_n 1, 1) := by decide +kernel
theorem zd_R_takeField_2 : decode zb_R_takeField 2 = .ok (.putfield 55, 3) := by decide +kernel
theorem zd_R_takeField_5 : decode zb_R_takeField 5 = .ok (.iload_n 1, 1) := by decide +kernel
theorem zd_R_takeField_6 : decode zb_R_takeField 6 = .ok (.bipush 19, 2) := by decide +kernel
theorem zd_R_takeField_8 : decode zb_R_takeField 8 = .ok (.if_icmp .gt 19, 3) := by decide +kernel
theorem zd_R_takeField_11 : decode zb_R_takeField 11 = .ok (.aload_n 0, 1) := by decide +kernel
theorem zd_R_takeField_12 : decode zb_R_takeField 12 = .ok (.getfield 49, 3) := by decide +kernel
theorem zd_R_takeField_15 : decode zb_R_takeField 15 = .ok (.iload_n 1, 1) := by decide +kernel
theorem zd_R_takeField_16 : decode zb_R_takeField 16 = .ok (.invokestatic 58, 3) := by decide +kernel
theorem zd_R_takeField_19 : decode zb_R_takeField 19 = .ok (.iconst 3, 1) := by decide +kernel
theorem zd_R_takeField_20 : decode zb_R_takeField 20 = .ok (.if_icmp .eq 7, 3) := by decide +kernel
theorem zd_R_takeField_23 : decode zb_R_takeField 23 = .ok (.iconst 1, 1) := by decide +kernel
theorem zd_R_takeField_24 : decode zb_R_takeField 24 = .ok (.goto 4, 3) := by decide +kernel
theorem zd_R_takeField_27 : decode zb_R_takeField 27 = .ok (.iconst 0, 1) := by decide +kernel
theorem zd_R_takeField_28 : decode zb_R_takeField 28 = .ok (.ireturn, 1) := by decide +kernel
abbrev zy_R_takeLine : MethodName := ⟨"DeclareForms$Reader", "takeLine", "(I)Z"⟩
abbrev zb_R_takeLine : ByteArray := prog_4_method_10_code
theorem zh_R_takeLine : zy_R_takeLine.cls ≠ "java/lang/invoke/MethodHandle" ∧ zy_R_takeLine.cls ≠ "java/lang/invoke/VarHandle" ∧ (parseMethodDescriptor zy_R_takeLine.desc).map (fun d => d.parameters.length) = some 1 := by decide +kernel
theorem zd_R_takeLine_0 : decode zb_R_takeLine 0 = .ok (.aload_n 0, 1) := by decide +kernel
theorem zd_R_takeLine_1 : decode zb_R_takeLine 1 = .ok (.getfield 55, 3) := by decide +kernel
theorem zd_R_takeLine_4 : decode zb_R_takeLine 4 = .ok (.bipush 10, 2) := by decide +kernel
theorem zd_R_takeLine_6 : decode zb_R_takeLine 6 = .ok (.if_icmp .ge 15, 3) := by decide +kernel
theorem zd_R_takeLine_9 : decode zb_R_takeLine 9 = .ok (.iload_n 1, 1) := by decide +kernel
theorem zd_R_takeLine_10 : decode zb_R_takeLine 10 = .ok (.ifCond .ne 7, 3) := by decide +kernel
theorem zd_R_takeLine_13 : decode zb_R_takeLine 13 = .ok (.iconst 1, 1) := by decide +kernel
theorem zd_R_takeLine_14 : decode zb_R_takeLine 14 = .ok (.goto 23, 3) := by decide +kernel
theorem zd_R_takeLine_17 : decode zb_R_takeLine 17 = .ok (.iconst 0, 1) := by decide +kernel
theorem zd_R_takeLine_18 : decode zb_R_takeLine 18 = .ok (.goto 19, 3) := by decide +kernel
theorem zd_R_takeLine_21 : decode zb_R_takeLine 21 = .ok (.iload_n 1, 1) := by decide +kernel
theorem zd_R_takeLine_22 : decode zb_R_takeLine 22 = .ok (.iconst 1, 1) := by decide +kernel
theorem zd_R_takeLine_23 : decode zb_R_takeLine 23 = .ok (.if_icmp .lt 13, 3) := by decide +kernel
theorem zd_R_takeLine_26 : decode zb_R_takeLine 26 = .ok (.iload_n 1, 1) := by decide +kernel
theorem zd_R_takeLine_27 : decode zb_R_takeLine 27 = .ok (.bipush 30, 2) := by decide +kernel
theorem zd_R_takeLine_29 : decode zb_R_takeLine 29 = .ok (.if_icmp .gt 7, 3) := by decide +kernel
theorem zd_R_takeLine_32 : decode zb_R_takeLine 32 = .ok (.iconst 1, 1) := by decide +kernel
theorem zd_R_takeLine_33 : decode zb_R_takeLine 33 = .ok (.goto 4, 3) := by decide +kernel
theorem zd_R_takeLine_36 : decode zb_R_takeLine 36 = .ok (.iconst 0, 1) := by decide +kernel
theorem zd_R_takeLine_37 : decode zb_R_takeLine 37 = .ok (.istore_n 2, 1) := by decide +kernel
theorem zd_R_takeLine_38 : decode zb_R_takeLine 38 = .ok (.iload_n 1, 1) := by decide +kernel
theorem zd_R_takeLine_39 : decode zb_R_takeLine 39 = .ok (.bipush 10, 2) := by decide +kernel
theorem zd_R_takeLine_41 : decode zb_R_takeLine 41 = .ok (.imul, 1) := by decide +kernel
theorem zd_R_takeLine_42 : decode zb_R_takeLine 42 = .ok (.aload_n 0, 1) := by decide +kernel
theorem zd_R_takeLine_43 : decode zb_R_takeLine 43 = .ok (.getfield 55, 3) := by decide +kernel
theorem zd_R_takeLine_46 : decode zb_R_takeLine 46 = .ok (.bipush 10, 2) := by decide +kernel
theorem zd_R_takeLine_48 : decode zb_R_takeLine 48 = .ok (.irem, 1) := by decide +kernel
theorem zd_R_takeLine_49 : decode zb_R_takeLine 49 = .ok (.iadd, 1) := by decide +kernel
theorem zd_R_takeLine_50 : decode zb_R_takeLine 50 = .ok (.istore_n 3, 1) := by decide +kernel
theorem zd_R_takeLine_51 : decode zb_R_takeLine 51 = .ok (.iload_n 3, 1) := by decide +kernel
theorem zd_R_takeLine_52 : decode zb_R_takeLine 52 = .ok (.aload_n 0, 1) := by decide +kernel
theorem zd_R_takeLine_53 : decode zb_R_takeLine 53 = .ok (.getfield 52, 3) := by decide +kernel
theorem zd_R_takeLine_56 : decode zb_R_takeLine 56 = .ok (.if_icmp .le 7, 3) := by decide +kernel
theorem zd_R_takeLine_59 : decode zb_R_takeLine 59 = .ok (.iconst 1, 1) := by decide +kernel
theorem zd_R_takeLine_60 : decode zb_R_takeLine 60 = .ok (.goto 4, 3) := by decide +kernel
theorem zd_R_takeLine_63 : decode zb_R_takeLine 63 = .ok (.iconst 0, 1) := by decide +kernel
theorem zd_R_takeLine_64 : decode zb_R_takeLine 64 = .ok (.istore 4, 2) := by decide +kernel
theorem zd_R_takeLine_66 : decode zb_R_takeLine 66 = .ok (.aload_n 0, 1) := by decide +kernel
theorem zd_R_takeLine_67 : decode zb_R_takeLine 67 = .ok (.iload_n 3, 1) := by decide +kernel
theorem zd_R_takeLine_68 : decode zb_R_takeLine 68 = .ok (.putfield 52, 3) := by decide +kernel
theorem zd_R_takeLine_71 : decode zb_R_takeLine 71 = .ok (.aload_n 0, 1) := by decide +kernel
theorem zd_R_takeLine_72 : decode zb_R_takeLine 72 = .ok (.lconst 0, 1) := by decide +kernel
theorem zd_R_takeLine_73 : decode zb_R_takeLine 73 = .ok (.putfield 62, 3) := by decide +kernel
theorem zd_R_takeLine_76 : decode zb_R_takeLine 76 = .ok (.iload_n 2, 1) := by decide +kernel
theorem zd_R_takeLine_77 : decode zb_R_takeLine 77 = .ok (.ifCond .eq 12, 3) := by decide +kernel
theorem zd_R_takeLine_80 : decode zb_R_takeLine 80 = .ok (.iload 4, 2) := by decide +kernel
theorem zd_R_takeLine_82 : decode zb_R_takeLine 82 = .ok (.ifCond .eq 7, 3) := by decide +kernel
theorem zd_R_takeLine_85 : decode zb_R_takeLine 85 = .ok (.iconst 1, 1) := by decide +kernel
theorem zd_R_takeLine_86 : decode zb_R_takeLine 86 = .ok (.goto 4, 3) := by decide +kernel
theorem zd_R_takeLine_89 : decode zb_R_takeLine 89 = .ok (.iconst 0, 1) := by decide +kernel
theorem zd_R_takeLine_90 : decode zb_R_takeLine 90 = .ok (.ireturn, 1) := by decide +kernel
abbrev zy_R_takeValue : MethodName := ⟨"DeclareForms$Reader", "takeValue", "(I)Z"⟩
abbrev zb_R_takeValue : ByteArray := prog_4_method_11_code
theorem zh_R_takeValue : zy_R_takeValue.cls ≠ "java/lang/invoke/MethodHandle" ∧ zy_R_takeValue.cls ≠ "java/lang/invoke/VarHandle" ∧ (parseMethodDescriptor zy_R_takeValue.desc).map (fun d => d.parameters.length) = some 1 := by decide +kernel
theorem zd_R_takeValue_0 : decode zb_R_takeValue 0 = .ok (.aload_n 0, 1) := by decide +kernel
theorem zd_R_takeValue_1 : decode zb_R_takeValue 1 = .ok (.aload_n 0, 1) := by decide +kernel
theorem zd_R_takeValue_2 : decode zb_R_takeValue 2 = .ok (.getfield 62, 3) := by decide +kernel
theorem zd_R_takeValue_5 : decode zb_R_takeValue 5 = .ok (.ldc2_w 66, 3) := by decide +kernel
theorem zd_R_takeValue_8 : decode zb_R_takeValue 8 = .ok (.lmul, 1) := by decide +kernel
theorem zd_R_takeValue_9 : decode zb_R_takeValue 9 = .ok (.iload_n 1, 1) := by decide +kernel
theorem zd_R_takeValue_10 : decode zb_R_takeValue 10 = .ok (.i2l, 1) := by decide +kernel
theorem zd_R_takeValue_11 : decode zb_R_takeValue 11 = .ok (.ladd, 1) := by decide +kernel
theorem zd_R_takeValue_12 : decode zb_R_takeValue 12 = .ok (.putfield 62, 3) := by decide +kernel
theorem zd_R_takeValue_15 : decode zb_R_takeValue 15 = .ok (.aload_n 0, 1) := by decide +kernel
theorem zd_R_takeValue_16 : decode zb_R_takeValue 16 = .ok (.getfield 22, 3) := by decide +kernel
theorem zd_R_takeValue_19 : decode zb_R_takeValue 19 = .ok (.bipush 8, 2) := by decide +kernel
theorem zd_R_takeValue_21 : decode zb_R_takeValue 21 = .ok (.if_icmp .ne 14, 3) := by decide +kernel
theorem zd_R_takeValue_24 : decode zb_R_takeValue 24 = .ok (.aload_n 0, 1) := by decide +kernel
theorem zd_R_takeValue_25 : decode zb_R_takeValue 25 = .ok (.getfield 62, 3) := by decide +kernel
theorem zd_R_takeValue_28 : decode zb_R_takeValue 28 = .ok (.ldc2_w 68, 3) := by decide +kernel
theorem zd_R_takeValue_31 : decode zb_R_takeValue 31 = .ok (.lcmp, 1) := by decide +kernel
theorem zd_R_takeValue_32 : decode zb_R_takeValue 32 = .ok (.ifCond .gt 7, 3) := by decide +kernel
theorem zd_R_takeValue_35 : decode zb_R_takeValue 35 = .ok (.iconst 1, 1) := by decide +kernel
theorem zd_R_takeValue_36 : decode zb_R_takeValue 36 = .ok (.goto 4, 3) := by decide +kernel
theorem zd_R_takeValue_39 : decode zb_R_takeValue 39 = .ok (.iconst 0, 1) := by decide +kernel
theorem zd_R_takeValue_40 : decode zb_R_takeValue 40 = .ok (.ireturn, 1) := by decide +kernel
abbrev zy_R_stands : MethodName := ⟨"DeclareForms$Reader", "stands", "(I)Z"⟩
abbrev zb_R_stands : ByteArray := prog_4_method_5_code
theorem zh_R_stands : zy_R_stands.cls ≠ "java/lang/invoke/MethodHandle" ∧ zy_R_stands.cls ≠ "java/lang/invoke/VarHandle" ∧ (parseMethodDescriptor zy_R_stands.desc).map (fun d => d.parameters.length) = some 1 := by decide +kernel
theorem zd_R_stands_0 : decode zb_R_stands 0 = .ok (.aload_n 0, 1) := by decide +kernel
theorem zd_R_stands_1 : decode zb_R_stands 1 = .ok (.getfield 22, 3) := by decide +kernel
theorem zd_R_stands_4 : decode zb_R_stands 4 = .ok (.tableswitch 66 0 4 #[36, 42, 48, 54, 60], 36) := by decide +kernel
theorem zd_R_stands_40 : decode zb_R_stands 40 = .ok (.aload_n 0, 1) := by decide +kernel
theorem zd_R_stands_41 : decode zb_R_stands 41 = .ok (.iload_n 1, 1) := by decide +kernel
theorem zd_R_stands_42 : decode zb_R_stands 42 = .ok (.invokevirtual 31, 3) := by decide +kernel
theorem zd_R_stands_45 : decode zb_R_stands 45 = .ok (.ireturn, 1) := by decide +kernel
theorem zd_R_stands_46 : decode zb_R_stands 46 = .ok (.aload_n 0, 1) := by decide +kernel
theorem zd_R_stands_47 : decode zb_R_stands 47 = .ok (.iload_n 1, 1) := by decide +kernel
theorem zd_R_stands_48 : decode zb_R_stands 48 = .ok (.invokevirtual 34, 3) := by decide +kernel
theorem zd_R_stands_51 : decode zb_R_stands 51 = .ok (.ireturn, 1) := by decide +kernel
theorem zd_R_stands_52 : decode zb_R_stands 52 = .ok (.aload_n 0, 1) := by decide +kernel
theorem zd_R_stands_53 : decode zb_R_stands 53 = .ok (.iload_n 1, 1) := by decide +kernel
theorem zd_R_stands_54 : decode zb_R_stands 54 = .ok (.invokevirtual 37, 3) := by decide +kernel
theorem zd_R_stands_57 : decode zb_R_stands 57 = .ok (.ireturn, 1) := by decide +kernel
theorem zd_R_stands_58 : decode zb_R_stands 58 = .ok (.aload_n 0, 1) := by decide +kernel
theorem zd_R_stands_59 : decode zb_R_stands 59 = .ok (.iload_n 1, 1) := by decide +kernel
theorem zd_R_stands_60 : decode zb_R_stands 60 = .ok (.invokevirtual 40, 3) := by decide +kernel
theorem zd_R_stands_63 : decode zb_R_stands 63 = .ok (.ireturn, 1) := by decide +kernel
theorem zd_R_stands_64 : decode zb_R_stands 64 = .ok (.aload_n 0, 1) := by decide +kernel
theorem zd_R_stands_65 : decode zb_R_stands 65 = .ok (.iload_n 1, 1) := by decide +kernel
theorem zd_R_stands_66 : decode zb_R_stands 66 = .ok (.invokevirtual 43, 3) := by decide +kernel
theorem zd_R_stands_69 : decode zb_R_stands 69 = .ok (.ireturn, 1) := by decide +kernel
theorem zd_R_stands_70 : decode zb_R_stands 70 = .ok (.aload_n 0, 1) := by decide +kernel
theorem zd_R_stands_71 : decode zb_R_stands 71 = .ok (.iload_n 1, 1) := by decide +kernel
theorem zd_R_stands_72 : decode zb_R_stands 72 = .ok (.invokevirtual 46, 3) := by decide +kernel
theorem zd_R_stands_75 : decode zb_R_stands 75 = .ok (.ireturn, 1) := by decide +kernel
abbrev zy_R_accept : MethodName := ⟨"DeclareForms$Reader", "accept", "(I)I"⟩
abbrev zb_R_accept : ByteArray := prog_4_method_4_code
theorem zh_R_accept : zy_R_accept.cls ≠ "java/lang/invoke/MethodHandle" ∧ zy_R_accept.cls ≠ "java/lang/invoke/VarHandle" ∧ (parseMethodDescriptor zy_R_accept.desc).map (fun d => d.parameters.length) = some 1 := by decide +kernel
theorem zd_R_accept_0 : decode zb_R_accept 0 = .ok (.aload_n 0, 1) := by decide +kernel
theorem zd_R_accept_1 : decode zb_R_accept 1 = .ok (.iload_n 1, 1) := by decide +kernel
theorem zd_R_accept_2 : decode zb_R_accept 2 = .ok (.invokevirtual 18, 3) := by decide +kernel
theorem zd_R_accept_5 : decode zb_R_accept 5 = .ok (.ifCond .ne 10, 3) := by decide +kernel
theorem zd_R_accept_8 : decode zb_R_accept 8 = .ok (.aload_n 0, 1) := by decide +kernel
theorem zd_R_accept_9 : decode zb_R_accept 9 = .ok (.iconst 0, 1) := by decide +kernel
theorem zd_R_accept_10 : decode zb_R_accept 10 = .ok (.putfield 22, 3) := by decide +kernel
theorem zd_R_accept_13 : decode zb_R_accept 13 = .ok (.iconst (-1), 1) := by decide +kernel
theorem zd_R_accept_14 : decode zb_R_accept 14 = .ok (.ireturn, 1) := by decide +kernel
theorem zd_R_accept_15 : decode zb_R_accept 15 = .ok (.aload_n 0, 1) := by decide +kernel
theorem zd_R_accept_16 : decode zb_R_accept 16 = .ok (.getfield 22, 3) := by decide +kernel
theorem zd_R_accept_19 : decode zb_R_accept 19 = .ok (.bipush 8, 2) := by decide +kernel
theorem zd_R_accept_21 : decode zb_R_accept 21 = .ok (.if_icmp .ne 13, 3) := by decide +kernel
theorem zd_R_accept_24 : decode zb_R_accept 24 = .ok (.aload_n 0, 1) := by decide +kernel
theorem zd_R_accept_25 : decode zb_R_accept 25 = .ok (.dup, 1) := by decide +kernel
theorem zd_R_accept_26 : decode zb_R_accept 26 = .ok (.getfield 25, 3) := by decide +kernel
theorem zd_R_accept_29 : decode zb_R_accept 29 = .ok (.iconst 1, 1) := by decide +kernel
theorem zd_R_accept_30 : decode zb_R_accept 30 = .ok (.isub, 1) := by decide +kernel
theorem zd_R_accept_31 : decode zb_R_accept 31 = .ok (.putfield 25, 3) := by decide +kernel
theorem zd_R_accept_34 : decode zb_R_accept 34 = .ok (.aload_n 0, 1) := by decide +kernel
theorem zd_R_accept_35 : decode zb_R_accept 35 = .ok (.getfield 22, 3) := by decide +kernel
theorem zd_R_accept_38 : decode zb_R_accept 38 = .ok (.iconst 2, 1) := by decide +kernel
theorem zd_R_accept_39 : decode zb_R_accept 39 = .ok (.if_icmp .eq 12, 3) := by decide +kernel
theorem zd_R_accept_42 : decode zb_R_accept 42 = .ok (.aload_n 0, 1) := by decide +kernel
theorem zd_R_accept_43 : decode zb_R_accept 43 = .ok (.getfield 22, 3) := by decide +kernel
theorem zd_R_accept_46 : decode zb_R_accept 46 = .ok (.bipush 8, 2) := by decide +kernel
theorem zd_R_accept_48 : decode zb_R_accept 48 = .ok (.if_icmp .ne 35, 3) := by decide +kernel
theorem zd_R_accept_51 : decode zb_R_accept 51 = .ok (.aload_n 0, 1) := by decide +kernel
theorem zd_R_accept_52 : decode zb_R_accept 52 = .ok (.getfield 25, 3) := by decide +kernel
theorem zd_R_accept_55 : decode zb_R_accept 55 = .ok (.ifCond .ne 28, 3) := by decide +kernel
theorem zd_R_accept_58 : decode zb_R_accept 58 = .ok (.aload_n 0, 1) := by decide +kernel
theorem zd_R_accept_59 : decode zb_R_accept 59 = .ok (.dup, 1) := by decide +kernel
theorem zd_R_accept_60 : decode zb_R_accept 60 = .ok (.getfield 9, 3) := by decide +kernel
theorem zd_R_accept_63 : decode zb_R_accept 63 = .ok (.iconst 1, 1) := by decide +kernel
theorem zd_R_accept_64 : decode zb_R_accept 64 = .ok (.iadd, 1) := by decide +kernel
theorem zd_R_accept_65 : decode zb_R_accept 65 = .ok (.putfield 9, 3) := by decide +kernel
theorem zd_R_accept_68 : decode zb_R_accept 68 = .ok (.aload_n 0, 1) := by decide +kernel
theorem zd_R_accept_69 : decode zb_R_accept 69 = .ok (.aload_n 0, 1) := by decide +kernel
theorem zd_R_accept_70 : decode zb_R_accept 70 = .ok (.getfield 28, 3) := by decide +kernel
theorem zd_R_accept_73 : decode zb_R_accept 73 = .ok (.putfield 15, 3) := by decide +kernel
theorem zd_R_accept_76 : decode zb_R_accept 76 = .ok (.aload_n 0, 1) := by decide +kernel
theorem zd_R_accept_77 : decode zb_R_accept 77 = .ok (.iconst 0, 1) := by decide +kernel
theorem zd_R_accept_78 : decode zb_R_accept 78 = .ok (.putfield 22, 3) := by decide +kernel
theorem zd_R_accept_81 : decode zb_R_accept 81 = .ok (.iconst 1, 1) := by decide +kernel
theorem zd_R_accept_82 : decode zb_R_accept 82 = .ok (.ireturn, 1) := by decide +kernel
theorem zd_R_accept_83 : decode zb_R_accept 83 = .ok (.aload_n 0, 1) := by decide +kernel
theorem zd_R_accept_84 : decode zb_R_accept 84 = .ok (.aload_n 0, 1) := by decide +kernel
theorem zd_R_accept_85 : decode zb_R_accept 85 = .ok (.getfield 22, 3) := by decide +kernel
theorem zd_R_accept_88 : decode zb_R_accept 88 = .ok (.bipush 8, 2) := by decide +kernel
theorem zd_R_accept_90 : decode zb_R_accept 90 = .ok (.if_icmp .ne 7, 3) := by decide +kernel
theorem zd_R_accept_93 : decode zb_R_accept 93 = .ok (.iconst 3, 1) := by decide +kernel
theorem zd_R_accept_94 : decode zb_R_accept 94 = .ok (.goto 9, 3) := by decide +kernel
theorem zd_R_accept_97 : decode zb_R_accept 97 = .ok (.aload_n 0, 1) := by decide +kernel
theorem zd_R_accept_98 : decode zb_R_accept 98 = .ok (.getfield 22, 3) := by decide +kernel
theorem zd_R_accept_101 : decode zb_R_accept 101 = .ok (.iconst 1, 1) := by decide +kernel
theorem zd_R_accept_102 : decode zb_R_accept 102 = .ok (.iadd, 1) := by decide +kernel
theorem zd_R_accept_103 : decode zb_R_accept 103 = .ok (.putfield 22, 3) := by decide +kernel
theorem zd_R_accept_106 : decode zb_R_accept 106 = .ok (.iconst 0, 1) := by decide +kernel
theorem zd_R_accept_107 : decode zb_R_accept 107 = .ok (.ireturn, 1) := by decide +kernel
abbrev zy_X_firstWithoutGoodCode : MethodName := ⟨"DeclareForms", "firstWithoutGoodCode", "()I"⟩
abbrev zb_X_firstWithoutGoodCode : ByteArray := prog_1_method_27_code
theorem zh_X_firstWithoutGoodCode : zy_X_firstWithoutGoodCode.cls ≠ "java/lang/invoke/MethodHandle" ∧ zy_X_firstWithoutGoodCode.cls ≠ "java/lang/invoke/VarHandle" ∧ (parseMethodDescriptor zy_X_firstWithoutGoodCode.desc).map (fun d => d.parameters.length) = some 0 := by decide +kernel
theorem zd_X_firstWithoutGoodCode_0 : decode zb_X_firstWithoutGoodCode 0 = .ok (.iconst 1, 1) := by decide +kernel
theorem zd_X_firstWithoutGoodCode_1 : decode zb_X_firstWithoutGoodCode 1 = .ok (.istore_n 1, 1) := by decide +kernel
theorem zd_X_firstWithoutGoodCode_2 : decode zb_X_firstWithoutGoodCode 2 = .ok (.iload_n 1, 1) := by decide +kernel
theorem zd_X_firstWithoutGoodCode_3 : decode zb_X_firstWithoutGoodCode 3 = .ok (.bipush 30, 2) := by decide +kernel
theorem zd_X_firstWithoutGoodCode_5 : decode zb_X_firstWithoutGoodCode 5 = .ok (.if_icmp .gt 51, 3) := by decide +kernel
theorem zd_X_firstWithoutGoodCode_8 : decode zb_X_firstWithoutGoodCode 8 = .ok (.aload_n 0, 1) := by decide +kernel
theorem zd_X_firstWithoutGoodCode_9 : decode zb_X_firstWithoutGoodCode 9 = .ok (.getfield 25, 3) := by decide +kernel
theorem zd_X_firstWithoutGoodCode_12 : decode zb_X_firstWithoutGoodCode 12 = .ok (.bipush 10, 2) := by decide +kernel
theorem zd_X_firstWithoutGoodCode_14 : decode zb_X_firstWithoutGoodCode 14 = .ok (.iload_n 1, 1) := by decide +kernel
theorem zd_X_firstWithoutGoodCode_15 : decode zb_X_firstWithoutGoodCode 15 = .ok (.invokevirtual 84, 3) := by decide +kernel
theorem zd_X_firstWithoutGoodCode_18 : decode zb_X_firstWithoutGoodCode 18 = .ok (.istore_n 2, 1) := by decide +kernel
theorem zd_X_firstWithoutGoodCode_19 : decode zb_X_firstWithoutGoodCode 19 = .ok (.aload_n 0, 1) := by decide +kernel
theorem zd_X_firstWithoutGoodCode_20 : decode zb_X_firstWithoutGoodCode 20 = .ok (.getfield 25, 3) := by decide +kernel
theorem zd_X_firstWithoutGoodCode_23 : decode zb_X_firstWithoutGoodCode 23 = .ok (.iload_n 2, 1) := by decide +kernel
theorem zd_X_firstWithoutGoodCode_24 : decode zb_X_firstWithoutGoodCode 24 = .ok (.invokevirtual 103, 3) := by decide +kernel
theorem zd_X_firstWithoutGoodCode_27 : decode zb_X_firstWithoutGoodCode 27 = .ok (.istore_n 3, 1) := by decide +kernel
theorem zd_X_firstWithoutGoodCode_28 : decode zb_X_firstWithoutGoodCode 28 = .ok (.iload_n 3, 1) := by decide +kernel
theorem zd_X_firstWithoutGoodCode_29 : decode zb_X_firstWithoutGoodCode 29 = .ok (.iconst (-1), 1) := by decide +kernel
theorem zd_X_firstWithoutGoodCode_30 : decode zb_X_firstWithoutGoodCode 30 = .ok (.if_icmp .eq 20, 3) := by decide +kernel
theorem zd_X_firstWithoutGoodCode_33 : decode zb_X_firstWithoutGoodCode 33 = .ok (.aload_n 0, 1) := by decide +kernel
theorem zd_X_firstWithoutGoodCode_34 : decode zb_X_firstWithoutGoodCode 34 = .ok (.getfield 32, 3) := by decide +kernel
theorem zd_X_firstWithoutGoodCode_37 : decode zb_X_firstWithoutGoodCode 37 = .ok (.iload_n 3, 1) := by decide +kernel
theorem zd_X_firstWithoutGoodCode_38 : decode zb_X_firstWithoutGoodCode 38 = .ok (.aload_n 0, 1) := by decide +kernel
theorem zd_X_firstWithoutGoodCode_39 : decode zb_X_firstWithoutGoodCode 39 = .ok (.getfield 50, 3) := by decide +kernel
theorem zd_X_firstWithoutGoodCode_42 : decode zb_X_firstWithoutGoodCode 42 = .ok (.invokevirtual 205, 3) := by decide +kernel
theorem zd_X_firstWithoutGoodCode_45 : decode zb_X_firstWithoutGoodCode 45 = .ok (.ifCond .ne 5, 3) := by decide +kernel
theorem zd_X_firstWithoutGoodCode_48 : decode zb_X_firstWithoutGoodCode 48 = .ok (.iload_n 2, 1) := by decide +kernel
theorem zd_X_firstWithoutGoodCode_49 : decode zb_X_firstWithoutGoodCode 49 = .ok (.ireturn, 1) := by decide +kernel
theorem zd_X_firstWithoutGoodCode_50 : decode zb_X_firstWithoutGoodCode 50 = .ok (.iinc 1 1, 3) := by decide +kernel
theorem zd_X_firstWithoutGoodCode_53 : decode zb_X_firstWithoutGoodCode 53 = .ok (.goto (-51), 3) := by decide +kernel
theorem zd_X_firstWithoutGoodCode_56 : decode zb_X_firstWithoutGoodCode 56 = .ok (.iconst (-1), 1) := by decide +kernel
theorem zd_X_firstWithoutGoodCode_57 : decode zb_X_firstWithoutGoodCode 57 = .ok (.ireturn, 1) := by decide +kernel
abbrev zy_X_check : MethodName := ⟨"DeclareForms", "check", "()I"⟩
abbrev zb_X_check : ByteArray := prog_1_method_10_code
theorem zh_X_check : zy_X_check.cls ≠ "java/lang/invoke/MethodHandle" ∧ zy_X_check.cls ≠ "java/lang/invoke/VarHandle" ∧ (parseMethodDescriptor zy_X_check.desc).map (fun d => d.parameters.length) = some 0 := by decide +kernel
theorem zd_X_check_0 : decode zb_X_check 0 = .ok (.aload_n 0, 1) := by decide +kernel
theorem zd_X_check_1 : decode zb_X_check 1 = .ok (.getfield 25, 3) := by decide +kernel
theorem zd_X_check_4 : decode zb_X_check 4 = .ok (.aload_n 0, 1) := by decide +kernel
theorem zd_X_check_5 : decode zb_X_check 5 = .ok (.getfield 18, 3) := by decide +kernel
theorem zd_X_check_8 : decode zb_X_check 8 = .ok (.invokevirtual 115, 3) := by decide +kernel
theorem zd_X_check_11 : decode zb_X_check 11 = .ok (.istore_n 1, 1) := by decide +kernel
theorem zd_X_check_12 : decode zb_X_check 12 = .ok (.iload_n 1, 1) := by decide +kernel
theorem zd_X_check_13 : decode zb_X_check 13 = .ok (.iconst (-1), 1) := by decide +kernel
theorem zd_X_check_14 : decode zb_X_check 14 = .ok (.if_icmp .eq 11, 3) := by decide +kernel
theorem zd_X_check_17 : decode zb_X_check 17 = .ok (.ldc 118, 2) := by decide +kernel
theorem zd_X_check_19 : decode zb_X_check 19 = .ok (.iload_n 1, 1) := by decide +kernel
theorem zd_X_check_20 : decode zb_X_check 20 = .ok (.invokestatic 119, 3) := by decide +kernel
theorem zd_X_check_23 : decode zb_X_check 23 = .ok (.iadd, 1) := by decide +kernel
theorem zd_X_check_24 : decode zb_X_check 24 = .ok (.ireturn, 1) := by decide +kernel
theorem zd_X_check_25 : decode zb_X_check 25 = .ok (.aload_n 0, 1) := by decide +kernel
theorem zd_X_check_26 : decode zb_X_check 26 = .ok (.getfield 25, 3) := by decide +kernel
theorem zd_X_check_29 : decode zb_X_check 29 = .ok (.iconst 2, 1) := by decide +kernel
theorem zd_X_check_30 : decode zb_X_check 30 = .ok (.bipush 12, 2) := by decide +kernel
theorem zd_X_check_32 : decode zb_X_check 32 = .ok (.invokevirtual 122, 3) := by decide +kernel
theorem zd_X_check_35 : decode zb_X_check 35 = .ok (.ifCond .eq 6, 3) := by decide +kernel
theorem zd_X_check_38 : decode zb_X_check 38 = .ok (.ldc 125, 2) := by decide +kernel
theorem zd_X_check_40 : decode zb_X_check 40 = .ok (.ireturn, 1) := by decide +kernel
theorem zd_X_check_41 : decode zb_X_check 41 = .ok (.aload_n 0, 1) := by decide +kernel
theorem zd_X_check_42 : decode zb_X_check 42 = .ok (.getfield 25, 3) := by decide +kernel
theorem zd_X_check_45 : decode zb_X_check 45 = .ok (.iconst 3, 1) := by decide +kernel
theorem zd_X_check_46 : decode zb_X_check 46 = .ok (.bipush 13, 2) := by decide +kernel
theorem zd_X_check_48 : decode zb_X_check 48 = .ok (.invokevirtual 122, 3) := by decide +kernel
theorem zd_X_check_51 : decode zb_X_check 51 = .ok (.ifCond .eq 6, 3) := by decide +kernel
theorem zd_X_check_54 : decode zb_X_check 54 = .ok (.ldc 126, 2) := by decide +kernel
theorem zd_X_check_56 : decode zb_X_check 56 = .ok (.ireturn, 1) := by decide +kernel
theorem zd_X_check_57 : decode zb_X_check 57 = .ok (.aload_n 0, 1) := by decide +kernel
theorem zd_X_check_58 : decode zb_X_check 58 = .ok (.invokevirtual 127, 3) := by decide +kernel
theorem zd_X_check_61 : decode zb_X_check 61 = .ok (.istore_n 2, 1) := by decide +kernel
theorem zd_X_check_62 : decode zb_X_check 62 = .ok (.iload_n 2, 1) := by decide +kernel
theorem zd_X_check_63 : decode zb_X_check 63 = .ok (.iconst (-1), 1) := by decide +kernel
theorem zd_X_check_64 : decode zb_X_check 64 = .ok (.if_icmp .eq 11, 3) := by decide +kernel
theorem zd_X_check_67 : decode zb_X_check 67 = .ok (.ldc 130, 2) := by decide +kernel
theorem zd_X_check_69 : decode zb_X_check 69 = .ok (.iload_n 2, 1) := by decide +kernel
theorem zd_X_check_70 : decode zb_X_check 70 = .ok (.invokestatic 119, 3) := by decide +kernel
theorem zd_X_check_73 : decode zb_X_check 73 = .ok (.iadd, 1) := by decide +kernel
theorem zd_X_check_74 : decode zb_X_check 74 = .ok (.ireturn, 1) := by decide +kernel
theorem zd_X_check_75 : decode zb_X_check 75 = .ok (.aload_n 0, 1) := by decide +kernel
theorem zd_X_check_76 : decode zb_X_check 76 = .ok (.getfield 25, 3) := by decide +kernel
theorem zd_X_check_79 : decode zb_X_check 79 = .ok (.invokevirtual 131, 3) := by decide +kernel
theorem zd_X_check_82 : decode zb_X_check 82 = .ok (.ifCond .ne 8, 3) := by decide +kernel
theorem zd_X_check_85 : decode zb_X_check 85 = .ok (.ldc 134, 2) := by decide +kernel
theorem zd_X_check_87 : decode zb_X_check 87 = .ok (.goto 4, 3) := by decide +kernel
theorem zd_X_check_90 : decode zb_X_check 90 = .ok (.iconst 0, 1) := by decide +kernel
theorem zd_X_check_91 : decode zb_X_check 91 = .ok (.ireturn, 1) := by decide +kernel
abbrev zy_X_pack : MethodName := ⟨"DeclareForms", "pack", "()I"⟩
abbrev zb_X_pack : ByteArray := prog_1_method_16_code
theorem zh_X_pack : zy_X_pack.cls ≠ "java/lang/invoke/MethodHandle" ∧ zy_X_pack.cls ≠ "java/lang/invoke/VarHandle" ∧ (parseMethodDescriptor zy_X_pack.desc).map (fun d => d.parameters.length) = some 0 := by decide +kernel
theorem zd_X_pack_0 : decode zb_X_pack 0 = .ok (.iconst 3, 1) := by decide +kernel
theorem zd_X_pack_1 : decode zb_X_pack 1 = .ok (.bipush 6, 2) := by decide +kernel
theorem zd_X_pack_3 : decode zb_X_pack 3 = .ok (.aload_n 0, 1) := by decide +kernel
theorem zd_X_pack_4 : decode zb_X_pack 4 = .ok (.getfield 25, 3) := by decide +kernel
theorem zd_X_pack_7 : decode zb_X_pack 7 = .ok (.invokevirtual 158, 3) := by decide +kernel
theorem zd_X_pack_10 : decode zb_X_pack 10 = .ok (.imul, 1) := by decide +kernel
theorem zd_X_pack_11 : decode zb_X_pack 11 = .ok (.iadd, 1) := by decide +kernel
theorem zd_X_pack_12 : decode zb_X_pack 12 = .ok (.ireturn, 1) := by decide +kernel
abbrev zy_X_packedByte : MethodName := ⟨"DeclareForms", "packedByte", "(II)B"⟩
abbrev zb_X_packedByte : ByteArray := prog_1_method_26_code
theorem zh_X_packedByte : zy_X_packedByte.cls ≠ "java/lang/invoke/MethodHandle" ∧ zy_X_packedByte.cls ≠ "java/lang/invoke/VarHandle" ∧ (parseMethodDescriptor zy_X_packedByte.desc).map (fun d => d.parameters.length) = some 2 := by decide +kernel
theorem zd_X_packedByte_0 : decode zb_X_packedByte 0 = .ok (.iload_n 2, 1) := by decide +kernel
theorem zd_X_packedByte_1 : decode zb_X_packedByte 1 = .ok (.ifCond .ne 9, 3) := by decide +kernel
theorem zd_X_packedByte_4 : decode zb_X_packedByte 4 = .ok (.iload_n 1, 1) := by decide +kernel
theorem zd_X_packedByte_5 : decode zb_X_packedByte 5 = .ok (.invokestatic 202, 3) := by decide +kernel
theorem zd_X_packedByte_8 : decode zb_X_packedByte 8 = .ok (.i2b, 1) := by decide +kernel
theorem zd_X_packedByte_9 : decode zb_X_packedByte 9 = .ok (.ireturn, 1) := by decide +kernel
theorem zd_X_packedByte_10 : decode zb_X_packedByte 10 = .ok (.iload_n 2, 1) := by decide +kernel
theorem zd_X_packedByte_11 : decode zb_X_packedByte 11 = .ok (.iconst 1, 1) := by decide +kernel
theorem zd_X_packedByte_12 : decode zb_X_packedByte 12 = .ok (.if_icmp .ne 9, 3) := by decide +kernel
theorem zd_X_packedByte_15 : decode zb_X_packedByte 15 = .ok (.iload_n 1, 1) := by decide +kernel
theorem zd_X_packedByte_16 : decode zb_X_packedByte 16 = .ok (.invokestatic 199, 3) := by decide +kernel
theorem zd_X_packedByte_19 : decode zb_X_packedByte 19 = .ok (.i2b, 1) := by decide +kernel
theorem zd_X_packedByte_20 : decode zb_X_packedByte 20 = .ok (.ireturn, 1) := by decide +kernel
theorem zd_X_packedByte_21 : decode zb_X_packedByte 21 = .ok (.aload_n 0, 1) := by decide +kernel
theorem zd_X_packedByte_22 : decode zb_X_packedByte 22 = .ok (.getfield 25, 3) := by decide +kernel
theorem zd_X_packedByte_25 : decode zb_X_packedByte 25 = .ok (.iload_n 1, 1) := by decide +kernel
theorem zd_X_packedByte_26 : decode zb_X_packedByte 26 = .ok (.invokevirtual 103, 3) := by decide +kernel
theorem zd_X_packedByte_29 : decode zb_X_packedByte 29 = .ok (.iconst 5, 1) := by decide +kernel
theorem zd_X_packedByte_30 : decode zb_X_packedByte 30 = .ok (.iload_n 2, 1) := by decide +kernel
theorem zd_X_packedByte_31 : decode zb_X_packedByte 31 = .ok (.isub, 1) := by decide +kernel
theorem zd_X_packedByte_32 : decode zb_X_packedByte 32 = .ok (.invokestatic 169, 3) := by decide +kernel
theorem zd_X_packedByte_35 : decode zb_X_packedByte 35 = .ok (.ireturn, 1) := by decide +kernel
abbrev zy_X_remove : MethodName := ⟨"DeclareForms", "remove", "(I)I"⟩
abbrev zb_X_remove : ByteArray := prog_1_method_3_code
theorem zh_X_remove : zy_X_remove.cls ≠ "java/lang/invoke/MethodHandle" ∧ zy_X_remove.cls ≠ "java/lang/invoke/VarHandle" ∧ (parseMethodDescriptor zy_X_remove.desc).map (fun d => d.parameters.length) = some 1 := by decide +kernel
theorem zd_X_remove_0 : decode zb_X_remove 0 = .ok (.aload_n 0, 1) := by decide +kernel
theorem zd_X_remove_1 : decode zb_X_remove 1 = .ok (.getfield 53, 3) := by decide +kernel
theorem zd_X_remove_4 : decode zb_X_remove 4 = .ok (.ifCond .ne 14, 3) := by decide +kernel
theorem zd_X_remove_7 : decode zb_X_remove 7 = .ok (.aload_n 0, 1) := by decide +kernel
theorem zd_X_remove_8 : decode zb_X_remove 8 = .ok (.getfield 25, 3) := by decide +kernel
theorem zd_X_remove_11 : decode zb_X_remove 11 = .ok (.iload_n 1, 1) := by decide +kernel
theorem zd_X_remove_12 : decode zb_X_remove 12 = .ok (.invokevirtual 72, 3) := by decide +kernel
theorem zd_X_remove_15 : decode zb_X_remove 15 = .ok (.ifCond .ne 5, 3) := by decide +kernel
theorem zd_X_remove_18 : decode zb_X_remove 18 = .ok (.iconst (-1), 1) := by decide +kernel
theorem zd_X_remove_19 : decode zb_X_remove 19 = .ok (.ireturn, 1) := by decide +kernel
theorem zd_X_remove_20 : decode zb_X_remove 20 = .ok (.aload_n 0, 1) := by decide +kernel
theorem zd_X_remove_21 : decode zb_X_remove 21 = .ok (.getfield 39, 3) := by decide +kernel
theorem zd_X_remove_24 : decode zb_X_remove 24 = .ok (.iload_n 1, 1) := by decide +kernel
theorem zd_X_remove_25 : decode zb_X_remove 25 = .ok (.invokevirtual 76, 3) := by decide +kernel
theorem zd_X_remove_28 : decode zb_X_remove 28 = .ok (.aload_n 0, 1) := by decide +kernel
theorem zd_X_remove_29 : decode zb_X_remove 29 = .ok (.getfield 25, 3) := by decide +kernel
theorem zd_X_remove_32 : decode zb_X_remove 32 = .ok (.iload_n 1, 1) := by decide +kernel
theorem zd_X_remove_33 : decode zb_X_remove 33 = .ok (.invokevirtual 80, 3) := by decide +kernel
theorem zd_X_remove_36 : decode zb_X_remove 36 = .ok (.ireturn, 1) := by decide +kernel
abbrev zy_X_clear : MethodName := ⟨"DeclareForms", "clear", "(II)Z"⟩
abbrev zb_X_clear : ByteArray := prog_1_method_5_code
theorem zh_X_clear : zy_X_clear.cls ≠ "java/lang/invoke/MethodHandle" ∧ zy_X_clear.cls ≠ "java/lang/invoke/VarHandle" ∧ (parseMethodDescriptor zy_X_clear.desc).map (fun d => d.parameters.length) = some 2 := by decide +kernel
theorem zd_X_clear_0 : decode zb_X_clear 0 = .ok (.aload_n 0, 1) := by decide +kernel
theorem zd_X_clear_1 : decode zb_X_clear 1 = .ok (.getfield 25, 3) := by decide +kernel
theorem zd_X_clear_4 : decode zb_X_clear 4 = .ok (.iload_n 1, 1) := by decide +kernel
theorem zd_X_clear_5 : decode zb_X_clear 5 = .ok (.iload_n 2, 1) := by decide +kernel
theorem zd_X_clear_6 : decode zb_X_clear 6 = .ok (.invokevirtual 84, 3) := by decide +kernel
theorem zd_X_clear_9 : decode zb_X_clear 9 = .ok (.istore_n 3, 1) := by decide +kernel
theorem zd_X_clear_10 : decode zb_X_clear 10 = .ok (.aload_n 0, 1) := by decide +kernel
theorem zd_X_clear_11 : decode zb_X_clear 11 = .ok (.getfield 53, 3) := by decide +kernel
theorem zd_X_clear_14 : decode zb_X_clear 14 = .ok (.ifCond .ne 20, 3) := by decide +kernel
theorem zd_X_clear_17 : decode zb_X_clear 17 = .ok (.iload_n 3, 1) := by decide +kernel
theorem zd_X_clear_18 : decode zb_X_clear 18 = .ok (.iconst (-1), 1) := by decide +kernel
theorem zd_X_clear_19 : decode zb_X_clear 19 = .ok (.if_icmp .eq 15, 3) := by decide +kernel
theorem zd_X_clear_22 : decode zb_X_clear 22 = .ok (.aload_n 0, 1) := by decide +kernel
theorem zd_X_clear_23 : decode zb_X_clear 23 = .ok (.getfield 25, 3) := by decide +kernel
theorem zd_X_clear_26 : decode zb_X_clear 26 = .ok (.iload_n 3, 1) := by decide +kernel
theorem zd_X_clear_27 : decode zb_X_clear 27 = .ok (.invokevirtual 103, 3) := by decide +kernel
theorem zd_X_clear_30 : decode zb_X_clear 30 = .ok (.iconst (-1), 1) := by decide +kernel
theorem zd_X_clear_31 : decode zb_X_clear 31 = .ok (.if_icmp .ne 5, 3) := by decide +kernel
theorem zd_X_clear_34 : decode zb_X_clear 34 = .ok (.iconst 0, 1) := by decide +kernel
theorem zd_X_clear_35 : decode zb_X_clear 35 = .ok (.ireturn, 1) := by decide +kernel
theorem zd_X_clear_36 : decode zb_X_clear 36 = .ok (.aload_n 0, 1) := by decide +kernel
theorem zd_X_clear_37 : decode zb_X_clear 37 = .ok (.getfield 25, 3) := by decide +kernel
theorem zd_X_clear_40 : decode zb_X_clear 40 = .ok (.iload_n 3, 1) := by decide +kernel
theorem zd_X_clear_41 : decode zb_X_clear 41 = .ok (.iconst (-1), 1) := by decide +kernel
theorem zd_X_clear_42 : decode zb_X_clear 42 = .ok (.invokevirtual 99, 3) := by decide +kernel
theorem zd_X_clear_45 : decode zb_X_clear 45 = .ok (.iconst 1, 1) := by decide +kernel
theorem zd_X_clear_46 : decode zb_X_clear 46 = .ok (.ireturn, 1) := by decide +kernel
abbrev zy_X_code : MethodName := ⟨"DeclareForms", "code", "(JI)Z"⟩
abbrev zb_X_code : ByteArray := prog_1_method_8_code
theorem zh_X_code : zy_X_code.cls ≠ "java/lang/invoke/MethodHandle" ∧ zy_X_code.cls ≠ "java/lang/invoke/VarHandle" ∧ (parseMethodDescriptor zy_X_code.desc).map (fun d => d.parameters.length) = some 2 := by decide +kernel
theorem zd_X_code_0 : decode zb_X_code 0 = .ok (.lload_n 1, 1) := by decide +kernel
theorem zd_X_code_1 : decode zb_X_code 1 = .ok (.invokestatic 87, 3) := by decide +kernel
theorem zd_X_code_4 : decode zb_X_code 4 = .ok (.ifCond .eq 13, 3) := by decide +kernel
theorem zd_X_code_7 : decode zb_X_code 7 = .ok (.iload_n 3, 1) := by decide +kernel
theorem zd_X_code_8 : decode zb_X_code 8 = .ok (.ifCond .lt 9, 3) := by decide +kernel
theorem zd_X_code_11 : decode zb_X_code 11 = .ok (.iload_n 3, 1) := by decide +kernel
theorem zd_X_code_12 : decode zb_X_code 12 = .ok (.ldc 110, 2) := by decide +kernel
theorem zd_X_code_14 : decode zb_X_code 14 = .ok (.if_icmp .le 5, 3) := by decide +kernel
theorem zd_X_code_17 : decode zb_X_code 17 = .ok (.iconst 0, 1) := by decide +kernel
theorem zd_X_code_18 : decode zb_X_code 18 = .ok (.ireturn, 1) := by decide +kernel
theorem zd_X_code_19 : decode zb_X_code 19 = .ok (.aload_n 0, 1) := by decide +kernel
theorem zd_X_code_20 : decode zb_X_code 20 = .ok (.getfield 32, 3) := by decide +kernel
theorem zd_X_code_23 : decode zb_X_code 23 = .ok (.lload_n 1, 1) := by decide +kernel
theorem zd_X_code_24 : decode zb_X_code 24 = .ok (.l2i, 1) := by decide +kernel
theorem zd_X_code_25 : decode zb_X_code 25 = .ok (.iload_n 3, 1) := by decide +kernel
theorem zd_X_code_26 : decode zb_X_code 26 = .ok (.invokevirtual 111, 3) := by decide +kernel
theorem zd_X_code_29 : decode zb_X_code 29 = .ok (.ireturn, 1) := by decide +kernel
abbrev zy_X_day : MethodName := ⟨"DeclareForms", "day", "(I)Z"⟩
abbrev zb_X_day : ByteArray := prog_1_method_9_code
theorem zh_X_day : zy_X_day.cls ≠ "java/lang/invoke/MethodHandle" ∧ zy_X_day.cls ≠ "java/lang/invoke/VarHandle" ∧ (parseMethodDescriptor zy_X_day.desc).map (fun d => d.parameters.length) = some 1 := by decide +kernel
theorem zd_X_day_0 : decode zb_X_day 0 = .ok (.iload_n 1, 1) := by decide +kernel
theorem zd_X_day_1 : decode zb_X_day 1 = .ok (.aload_n 0, 1) := by decide +kernel
theorem zd_X_day_2 : decode zb_X_day 2 = .ok (.getfield 50, 3) := by decide +kernel
theorem zd_X_day_5 : decode zb_X_day 5 = .ok (.if_icmp .lt 9, 3) := by decide +kernel
theorem zd_X_day_8 : decode zb_X_day 8 = .ok (.iload_n 1, 1) := by decide +kernel
theorem zd_X_day_9 : decode zb_X_day 9 = .ok (.ldc 110, 2) := by decide +kernel
theorem zd_X_day_11 : decode zb_X_day 11 = .ok (.if_icmp .le 5, 3) := by decide +kernel
theorem zd_X_day_14 : decode zb_X_day 14 = .ok (.iconst 0, 1) := by decide +kernel
theorem zd_X_day_15 : decode zb_X_day 15 = .ok (.ireturn, 1) := by decide +kernel
theorem zd_X_day_16 : decode zb_X_day 16 = .ok (.aload_n 0, 1) := by decide +kernel
theorem zd_X_day_17 : decode zb_X_day 17 = .ok (.iload_n 1, 1) := by decide +kernel
theorem zd_X_day_18 : decode zb_X_day 18 = .ok (.putfield 50, 3) := by decide +kernel
theorem zd_X_day_21 : decode zb_X_day 21 = .ok (.iconst 1, 1) := by decide +kernel
theorem zd_X_day_22 : decode zb_X_day 22 = .ok (.ireturn, 1) := by decide +kernel
abbrev zy_X_lodge : MethodName := ⟨"DeclareForms", "lodge", "()I"⟩
abbrev zb_X_lodge : ByteArray := prog_1_method_11_code
theorem zh_X_lodge : zy_X_lodge.cls ≠ "java/lang/invoke/MethodHandle" ∧ zy_X_lodge.cls ≠ "java/lang/invoke/VarHandle" ∧ (parseMethodDescriptor zy_X_lodge.desc).map (fun d => d.parameters.length) = some 0 := by decide +kernel
theorem zd_X_lodge_0 : decode zb_X_lodge 0 = .ok (.aload_n 0, 1) := by decide +kernel
theorem zd_X_lodge_1 : decode zb_X_lodge 1 = .ok (.getfield 53, 3) := by decide +kernel
theorem zd_X_lodge_4 : decode zb_X_lodge 4 = .ok (.ifCond .ne 10, 3) := by decide +kernel
theorem zd_X_lodge_7 : decode zb_X_lodge 7 = .ok (.aload_n 0, 1) := by decide +kernel
theorem zd_X_lodge_8 : decode zb_X_lodge 8 = .ok (.invokevirtual 135, 3) := by decide +kernel
theorem zd_X_lodge_11 : decode zb_X_lodge 11 = .ok (.ifCond .eq 5, 3) := by decide +kernel
theorem zd_X_lodge_14 : decode zb_X_lodge 14 = .ok (.iconst 0, 1) := by decide +kernel
theorem zd_X_lodge_15 : decode zb_X_lodge 15 = .ok (.ireturn, 1) := by decide +kernel
theorem zd_X_lodge_16 : decode zb_X_lodge 16 = .ok (.aload_n 0, 1) := by decide +kernel
theorem zd_X_lodge_17 : decode zb_X_lodge 17 = .ok (.iconst 1, 1) := by decide +kernel
theorem zd_X_lodge_18 : decode zb_X_lodge 18 = .ok (.putfield 53, 3) := by decide +kernel
theorem zd_X_lodge_21 : decode zb_X_lodge 21 = .ok (.iconst 1, 1) := by decide +kernel
theorem zd_X_lodge_22 : decode zb_X_lodge 22 = .ok (.ireturn, 1) := by decide +kernel
abbrev zy_X_paper : MethodName := ⟨"DeclareForms", "paper", "(II)Z"⟩
abbrev zb_X_paper : ByteArray := prog_1_method_13_code
theorem zh_X_paper : zy_X_paper.cls ≠ "java/lang/invoke/MethodHandle" ∧ zy_X_paper.cls ≠ "java/lang/invoke/VarHandle" ∧ (parseMethodDescriptor zy_X_paper.desc).map (fun d => d.parameters.length) = some 2 := by decide +kernel
theorem zd_X_paper_0 : decode zb_X_paper 0 = .ok (.iload_n 1, 1) := by decide +kernel
theorem zd_X_paper_1 : decode zb_X_paper 1 = .ok (.iconst 1, 1) := by decide +kernel
theorem zd_X_paper_2 : decode zb_X_paper 2 = .ok (.if_icmp .lt 19, 3) := by decide +kernel
theorem zd_X_paper_5 : decode zb_X_paper 5 = .ok (.iload_n 1, 1) := by decide +kernel
theorem zd_X_paper_6 : decode zb_X_paper 6 = .ok (.ldc 118, 2) := by decide +kernel
theorem zd_X_paper_8 : decode zb_X_paper 8 = .ok (.if_icmp .gt 13, 3) := by decide +kernel
theorem zd_X_paper_11 : decode zb_X_paper 11 = .ok (.iload_n 2, 1) := by decide +kernel
theorem zd_X_paper_12 : decode zb_X_paper 12 = .ok (.ifCond .lt 9, 3) := by decide +kernel
theorem zd_X_paper_15 : decode zb_X_paper 15 = .ok (.iload_n 2, 1) := by decide +kernel
theorem zd_X_paper_16 : decode zb_X_paper 16 = .ok (.ldc 118, 2) := by decide +kernel
theorem zd_X_paper_18 : decode zb_X_paper 18 = .ok (.if_icmp .le 5, 3) := by decide +kernel
theorem zd_X_paper_21 : decode zb_X_paper 21 = .ok (.iconst 0, 1) := by decide +kernel
theorem zd_X_paper_22 : decode zb_X_paper 22 = .ok (.ireturn, 1) := by decide +kernel
theorem zd_X_paper_23 : decode zb_X_paper 23 = .ok (.aload_n 0, 1) := by decide +kernel
theorem zd_X_paper_24 : decode zb_X_paper 24 = .ok (.getfield 39, 3) := by decide +kernel
theorem zd_X_paper_27 : decode zb_X_paper 27 = .ok (.iload_n 1, 1) := by decide +kernel
theorem zd_X_paper_28 : decode zb_X_paper 28 = .ok (.iload_n 2, 1) := by decide +kernel
theorem zd_X_paper_29 : decode zb_X_paper 29 = .ok (.invokevirtual 140, 3) := by decide +kernel
theorem zd_X_paper_32 : decode zb_X_paper 32 = .ok (.ireturn, 1) := by decide +kernel
abbrev zy_X_read : MethodName := ⟨"DeclareForms", "read", "(B)I"⟩
abbrev zb_X_read : ByteArray := prog_1_method_18_code
theorem zh_X_read : zy_X_read.cls ≠ "java/lang/invoke/MethodHandle" ∧ zy_X_read.cls ≠ "java/lang/invoke/VarHandle" ∧ (parseMethodDescriptor zy_X_read.desc).map (fun d => d.parameters.length) = some 1 := by decide +kernel
theorem zd_X_read_0 : decode zb_X_read 0 = .ok (.aload_n 0, 1) := by decide +kernel
theorem zd_X_read_1 : decode zb_X_read 1 = .ok (.getfield 46, 3) := by decide +kernel
theorem zd_X_read_4 : decode zb_X_read 4 = .ok (.iload_n 1, 1) := by decide +kernel
theorem zd_X_read_5 : decode zb_X_read 5 = .ok (.sipush 255, 3) := by decide +kernel
theorem zd_X_read_8 : decode zb_X_read 8 = .ok (.iand, 1) := by decide +kernel
theorem zd_X_read_9 : decode zb_X_read 9 = .ok (.invokevirtual 179, 3) := by decide +kernel
theorem zd_X_read_12 : decode zb_X_read 12 = .ok (.ireturn, 1) := by decide +kernel
abbrev zy_X_count : MethodName := ⟨"DeclareForms", "count", "(I)I"⟩
abbrev zb_X_count : ByteArray := prog_1_method_19_code
theorem zh_X_count : zy_X_count.cls ≠ "java/lang/invoke/MethodHandle" ∧ zy_X_count.cls ≠ "java/lang/invoke/VarHandle" ∧ (parseMethodDescriptor zy_X_count.desc).map (fun d => d.parameters.length) = some 1 := by decide +kernel
theorem zd_X_count_0 : decode zb_X_count 0 = .ok (.iload_n 1, 1) := by decide +kernel
theorem zd_X_count_1 : decode zb_X_count 1 = .ok (.tableswitch 126 0 8 #[51, 59, 67, 80, 92, 100, 105, 110, 118], 51) := by decide +kernel
theorem zd_X_count_52 : decode zb_X_count 52 = .ok (.aload_n 0, 1) := by decide +kernel
theorem zd_X_count_53 : decode zb_X_count 53 = .ok (.getfield 25, 3) := by decide +kernel
theorem zd_X_count_56 : decode zb_X_count 56 = .ok (.invokevirtual 131, 3) := by decide +kernel
theorem zd_X_count_59 : decode zb_X_count 59 = .ok (.ireturn, 1) := by decide +kernel
theorem zd_X_count_60 : decode zb_X_count 60 = .ok (.aload_n 0, 1) := by decide +kernel
theorem zd_X_count_61 : decode zb_X_count 61 = .ok (.getfield 25, 3) := by decide +kernel
theorem zd_X_count_64 : decode zb_X_count 64 = .ok (.invokevirtual 158, 3) := by decide +kernel
theorem zd_X_count_67 : decode zb_X_count 67 = .ok (.ireturn, 1) := by decide +kernel
theorem zd_X_count_68 : decode zb_X_count 68 = .ok (.aload_n 0, 1) := by decide +kernel
theorem zd_X_count_69 : decode zb_X_count 69 = .ok (.getfield 53, 3) := by decide +kernel
theorem zd_X_count_72 : decode zb_X_count 72 = .ok (.ifCond .eq 7, 3) := by decide +kernel
theorem zd_X_count_75 : decode zb_X_count 75 = .ok (.iconst 1, 1) := by decide +kernel
theorem zd_X_count_76 : decode zb_X_count 76 = .ok (.goto 4, 3) := by decide +kernel
theorem zd_X_count_79 : decode zb_X_count 79 = .ok (.iconst 0, 1) := by decide +kernel
theorem zd_X_count_80 : decode zb_X_count 80 = .ok (.ireturn, 1) := by decide +kernel
theorem zd_X_count_81 : decode zb_X_count 81 = .ok (.aload_n 0, 1) := by decide +kernel
theorem zd_X_count_82 : decode zb_X_count 82 = .ok (.getfield 32, 3) := by decide +kernel
theorem zd_X_count_85 : decode zb_X_count 85 = .ok (.aload_n 0, 1) := by decide +kernel
theorem zd_X_count_86 : decode zb_X_count 86 = .ok (.getfield 50, 3) := by decide +kernel
theorem zd_X_count_89 : decode zb_X_count 89 = .ok (.invokevirtual 182, 3) := by decide +kernel
theorem zd_X_count_92 : decode zb_X_count 92 = .ok (.ireturn, 1) := by decide +kernel
theorem zd_X_count_93 : decode zb_X_count 93 = .ok (.aload_n 0, 1) := by decide +kernel
theorem zd_X_count_94 : decode zb_X_count 94 = .ok (.getfield 39, 3) := by decide +kernel
theorem zd_X_count_97 : decode zb_X_count 97 = .ok (.invokevirtual 185, 3) := by decide +kernel
theorem zd_X_count_100 : decode zb_X_count 100 = .ok (.ireturn, 1) := by decide +kernel
theorem zd_X_count_101 : decode zb_X_count 101 = .ok (.aload_n 0, 1) := by decide +kernel
theorem zd_X_count_102 : decode zb_X_count 102 = .ok (.getfield 50, 3) := by decide +kernel
theorem zd_X_count_105 : decode zb_X_count 105 = .ok (.ireturn, 1) := by decide +kernel
theorem zd_X_count_106 : decode zb_X_count 106 = .ok (.aload_n 0, 1) := by decide +kernel
theorem zd_X_count_107 : decode zb_X_count 107 = .ok (.getfield 18, 3) := by decide +kernel
theorem zd_X_count_110 : decode zb_X_count 110 = .ok (.ireturn, 1) := by decide +kernel
theorem zd_X_count_111 : decode zb_X_count 111 = .ok (.aload_n 0, 1) := by decide +kernel
theorem zd_X_count_112 : decode zb_X_count 112 = .ok (.getfield 46, 3) := by decide +kernel
theorem zd_X_count_115 : decode zb_X_count 115 = .ok (.invokevirtual 188, 3) := by decide +kernel
theorem zd_X_count_118 : decode zb_X_count 118 = .ok (.ireturn, 1) := by decide +kernel
theorem zd_X_count_119 : decode zb_X_count 119 = .ok (.aload_n 0, 1) := by decide +kernel
theorem zd_X_count_120 : decode zb_X_count 120 = .ok (.getfield 46, 3) := by decide +kernel
theorem zd_X_count_123 : decode zb_X_count 123 = .ok (.invokevirtual 191, 3) := by decide +kernel
theorem zd_X_count_126 : decode zb_X_count 126 = .ok (.ireturn, 1) := by decide +kernel
theorem zd_X_count_127 : decode zb_X_count 127 = .ok (.iload_n 1, 1) := by decide +kernel
theorem zd_X_count_128 : decode zb_X_count 128 = .ok (.bipush 100, 2) := by decide +kernel
theorem zd_X_count_130 : decode zb_X_count 130 = .ok (.if_icmp .ge 7, 3) := by decide +kernel
theorem zd_X_count_133 : decode zb_X_count 133 = .ok (.iconst (-1), 1) := by decide +kernel
theorem zd_X_count_134 : decode zb_X_count 134 = .ok (.goto 14, 3) := by decide +kernel
theorem zd_X_count_137 : decode zb_X_count 137 = .ok (.aload_n 0, 1) := by decide +kernel
theorem zd_X_count_138 : decode zb_X_count 138 = .ok (.getfield 39, 3) := by decide +kernel
theorem zd_X_count_141 : decode zb_X_count 141 = .ok (.iload_n 1, 1) := by decide +kernel
theorem zd_X_count_142 : decode zb_X_count 142 = .ok (.bipush 100, 2) := by decide +kernel
theorem zd_X_count_144 : decode zb_X_count 144 = .ok (.isub, 1) := by decide +kernel
theorem zd_X_count_145 : decode zb_X_count 145 = .ok (.invokevirtual 194, 3) := by decide +kernel
theorem zd_X_count_148 : decode zb_X_count 148 = .ok (.ireturn, 1) := by decide +kernel
abbrev zy_X_line : MethodName := ⟨"DeclareForms", "line", "()I"⟩
abbrev zb_X_line : ByteArray := prog_1_method_2_code
theorem zh_X_line : zy_X_line.cls ≠ "java/lang/invoke/MethodHandle" ∧ zy_X_line.cls ≠ "java/lang/invoke/VarHandle" ∧ (parseMethodDescriptor zy_X_line.desc).map (fun d => d.parameters.length) = some 0 := by decide +kernel
theorem zd_X_line_0 : decode zb_X_line 0 = .ok (.aload_n 0, 1) := by decide +kernel
theorem zd_X_line_1 : decode zb_X_line 1 = .ok (.getfield 53, 3) := by decide +kernel
theorem zd_X_line_4 : decode zb_X_line 4 = .ok (.ifCond .ne 13, 3) := by decide +kernel
theorem zd_X_line_7 : decode zb_X_line 7 = .ok (.aload_n 0, 1) := by decide +kernel
theorem zd_X_line_8 : decode zb_X_line 8 = .ok (.getfield 25, 3) := by decide +kernel
theorem zd_X_line_11 : decode zb_X_line 11 = .ok (.invokevirtual 57, 3) := by decide +kernel
theorem zd_X_line_14 : decode zb_X_line 14 = .ok (.ifCond .eq 13, 3) := by decide +kernel
theorem zd_X_line_17 : decode zb_X_line 17 = .ok (.new 61, 3) := by decide +kernel
theorem zd_X_line_20 : decode zb_X_line 20 = .ok (.dup, 1) := by decide +kernel
theorem zd_X_line_21 : decode zb_X_line 21 = .ok (.ldc 63, 2) := by decide +kernel
theorem zd_X_line_23 : decode zb_X_line 23 = .ok (.invokespecial 65, 3) := by decide +kernel
theorem zd_X_line_26 : decode zb_X_line 26 = .ok (.athrow, 1) := by decide +kernel
theorem zd_X_line_27 : decode zb_X_line 27 = .ok (.aload_n 0, 1) := by decide +kernel
theorem zd_X_line_28 : decode zb_X_line 28 = .ok (.getfield 25, 3) := by decide +kernel
theorem zd_X_line_31 : decode zb_X_line 31 = .ok (.invokevirtual 68, 3) := by decide +kernel
theorem zd_X_line_34 : decode zb_X_line 34 = .ok (.ireturn, 1) := by decide +kernel
abbrev zy_X_field : MethodName := ⟨"DeclareForms", "field", "(IIJ)I"⟩
abbrev zb_X_field : ByteArray := prog_1_method_4_code
theorem zh_X_field : zy_X_field.cls ≠ "java/lang/invoke/MethodHandle" ∧ zy_X_field.cls ≠ "java/lang/invoke/VarHandle" ∧ (parseMethodDescriptor zy_X_field.desc).map (fun d => d.parameters.length) = some 3 := by decide +kernel
theorem zd_X_field_0 : decode zb_X_field 0 = .ok (.aload_n 0, 1) := by decide +kernel
theorem zd_X_field_1 : decode zb_X_field 1 = .ok (.getfield 25, 3) := by decide +kernel
theorem zd_X_field_4 : decode zb_X_field 4 = .ok (.iload_n 1, 1) := by decide +kernel
theorem zd_X_field_5 : decode zb_X_field 5 = .ok (.iload_n 2, 1) := by decide +kernel
theorem zd_X_field_6 : decode zb_X_field 6 = .ok (.invokevirtual 84, 3) := by decide +kernel
theorem zd_X_field_9 : decode zb_X_field 9 = .ok (.istore 5, 2) := by decide +kernel
theorem zd_X_field_11 : decode zb_X_field 11 = .ok (.iload 5, 2) := by decide +kernel
theorem zd_X_field_13 : decode zb_X_field 13 = .ok (.iconst (-1), 1) := by decide +kernel
theorem zd_X_field_14 : decode zb_X_field 14 = .ok (.if_icmp .eq 10, 3) := by decide +kernel
theorem zd_X_field_17 : decode zb_X_field 17 = .ok (.lload_n 3, 1) := by decide +kernel
theorem zd_X_field_18 : decode zb_X_field 18 = .ok (.invokestatic 87, 3) := by decide +kernel
theorem zd_X_field_21 : decode zb_X_field 21 = .ok (.ifCond .ne 13, 3) := by decide +kernel
theorem zd_X_field_24 : decode zb_X_field 24 = .ok (.new 91, 3) := by decide +kernel
theorem zd_X_field_27 : decode zb_X_field 27 = .ok (.dup, 1) := by decide +kernel
theorem zd_X_field_28 : decode zb_X_field 28 = .ok (.ldc 93, 2) := by decide +kernel
theorem zd_X_field_30 : decode zb_X_field 30 = .ok (.invokespecial 95, 3) := by decide +kernel
theorem zd_X_field_33 : decode zb_X_field 33 = .ok (.athrow, 1) := by decide +kernel
theorem zd_X_field_34 : decode zb_X_field 34 = .ok (.aload_n 0, 1) := by decide +kernel
theorem zd_X_field_35 : decode zb_X_field 35 = .ok (.getfield 53, 3) := by decide +kernel
theorem zd_X_field_38 : decode zb_X_field 38 = .ok (.ifCond .ne 15, 3) := by decide +kernel
theorem zd_X_field_41 : decode zb_X_field 41 = .ok (.aload_n 0, 1) := by decide +kernel
theorem zd_X_field_42 : decode zb_X_field 42 = .ok (.getfield 18, 3) := by decide +kernel
theorem zd_X_field_45 : decode zb_X_field 45 = .ok (.iload_n 1, 1) := by decide +kernel
theorem zd_X_field_46 : decode zb_X_field 46 = .ok (.invokestatic 96, 3) := by decide +kernel
theorem zd_X_field_49 : decode zb_X_field 49 = .ok (.iconst 3, 1) := by decide +kernel
theorem zd_X_field_50 : decode zb_X_field 50 = .ok (.if_icmp .ne 5, 3) := by decide +kernel
theorem zd_X_field_53 : decode zb_X_field 53 = .ok (.iconst 0, 1) := by decide +kernel
theorem zd_X_field_54 : decode zb_X_field 54 = .ok (.ireturn, 1) := by decide +kernel
theorem zd_X_field_55 : decode zb_X_field 55 = .ok (.aload_n 0, 1) := by decide +kernel
theorem zd_X_field_56 : decode zb_X_field 56 = .ok (.getfield 25, 3) := by decide +kernel
theorem zd_X_field_59 : decode zb_X_field 59 = .ok (.iload 5, 2) := by decide +kernel
theorem zd_X_field_61 : decode zb_X_field 61 = .ok (.lload_n 3, 1) := by decide +kernel
theorem zd_X_field_62 : decode zb_X_field 62 = .ok (.l2i, 1) := by decide +kernel
theorem zd_X_field_63 : decode zb_X_field 63 = .ok (.invokevirtual 99, 3) := by decide +kernel
theorem zd_X_field_66 : decode zb_X_field 66 = .ok (.iconst 1, 1) := by decide +kernel
theorem zd_X_field_67 : decode zb_X_field 67 = .ok (.ireturn, 1) := by decide +kernel
abbrev zy_X_value : MethodName := ⟨"DeclareForms", "value", "(II)J"⟩
abbrev zb_X_value : ByteArray := prog_1_method_6_code
theorem zh_X_value : zy_X_value.cls ≠ "java/lang/invoke/MethodHandle" ∧ zy_X_value.cls ≠ "java/lang/invoke/VarHandle" ∧ (parseMethodDescriptor zy_X_value.desc).map (fun d => d.parameters.length) = some 2 := by decide +kernel
theorem zd_X_value_0 : decode zb_X_value 0 = .ok (.aload_n 0, 1) := by decide +kernel
theorem zd_X_value_1 : decode zb_X_value 1 = .ok (.getfield 25, 3) := by decide +kernel
theorem zd_X_value_4 : decode zb_X_value 4 = .ok (.iload_n 1, 1) := by decide +kernel
theorem zd_X_value_5 : decode zb_X_value 5 = .ok (.iload_n 2, 1) := by decide +kernel
theorem zd_X_value_6 : decode zb_X_value 6 = .ok (.invokevirtual 84, 3) := by decide +kernel
theorem zd_X_value_9 : decode zb_X_value 9 = .ok (.istore_n 3, 1) := by decide +kernel
theorem zd_X_value_10 : decode zb_X_value 10 = .ok (.iload_n 3, 1) := by decide +kernel
theorem zd_X_value_11 : decode zb_X_value 11 = .ok (.iconst (-1), 1) := by decide +kernel
theorem zd_X_value_12 : decode zb_X_value 12 = .ok (.if_icmp .ne 13, 3) := by decide +kernel
theorem zd_X_value_15 : decode zb_X_value 15 = .ok (.new 91, 3) := by decide +kernel
theorem zd_X_value_18 : decode zb_X_value 18 = .ok (.dup, 1) := by decide +kernel
theorem zd_X_value_19 : decode zb_X_value 19 = .ok (.ldc 106, 2) := by decide +kernel
theorem zd_X_value_21 : decode zb_X_value 21 = .ok (.invokespecial 95, 3) := by decide +kernel
theorem zd_X_value_24 : decode zb_X_value 24 = .ok (.athrow, 1) := by decide +kernel
theorem zd_X_value_25 : decode zb_X_value 25 = .ok (.aload_n 0, 1) := by decide +kernel
theorem zd_X_value_26 : decode zb_X_value 26 = .ok (.getfield 25, 3) := by decide +kernel
theorem zd_X_value_29 : decode zb_X_value 29 = .ok (.iload_n 3, 1) := by decide +kernel
theorem zd_X_value_30 : decode zb_X_value 30 = .ok (.invokevirtual 103, 3) := by decide +kernel
theorem zd_X_value_33 : decode zb_X_value 33 = .ok (.i2l, 1) := by decide +kernel
theorem zd_X_value_34 : decode zb_X_value 34 = .ok (.lreturn, 1) := by decide +kernel
abbrev zy_X_need : MethodName := ⟨"DeclareForms", "need", "(I)I"⟩
abbrev zb_X_need : ByteArray := prog_1_method_7_code
theorem zh_X_need : zy_X_need.cls ≠ "java/lang/invoke/MethodHandle" ∧ zy_X_need.cls ≠ "java/lang/invoke/VarHandle" ∧ (parseMethodDescriptor zy_X_need.desc).map (fun d => d.parameters.length) = some 1 := by decide +kernel
theorem zd_X_need_0 : decode zb_X_need 0 = .ok (.iload_n 1, 1) := by decide +kernel
theorem zd_X_need_1 : decode zb_X_need 1 = .ok (.ifCond .lt 9, 3) := by decide +kernel
theorem zd_X_need_4 : decode zb_X_need 4 = .ok (.iload_n 1, 1) := by decide +kernel
theorem zd_X_need_5 : decode zb_X_need 5 = .ok (.bipush 19, 2) := by decide +kernel
theorem zd_X_need_7 : decode zb_X_need 7 = .ok (.if_icmp .le 13, 3) := by decide +kernel
theorem zd_X_need_10 : decode zb_X_need 10 = .ok (.new 91, 3) := by decide +kernel
theorem zd_X_need_13 : decode zb_X_need 13 = .ok (.dup, 1) := by decide +kernel
theorem zd_X_need_14 : decode zb_X_need 14 = .ok (.ldc 108, 2) := by decide +kernel
theorem zd_X_need_16 : decode zb_X_need 16 = .ok (.invokespecial 95, 3) := by decide +kernel
theorem zd_X_need_19 : decode zb_X_need 19 = .ok (.athrow, 1) := by decide +kernel
theorem zd_X_need_20 : decode zb_X_need 20 = .ok (.aload_n 0, 1) := by decide +kernel
theorem zd_X_need_21 : decode zb_X_need 21 = .ok (.getfield 18, 3) := by decide +kernel
theorem zd_X_need_24 : decode zb_X_need 24 = .ok (.iload_n 1, 1) := by decide +kernel
theorem zd_X_need_25 : decode zb_X_need 25 = .ok (.invokestatic 96, 3) := by decide +kernel
theorem zd_X_need_28 : decode zb_X_need 28 = .ok (.ireturn, 1) := by decide +kernel
abbrev zy_X_amend : MethodName := ⟨"DeclareForms", "amend", "(IIJ)I"⟩
abbrev zb_X_amend : ByteArray := prog_1_method_12_code
theorem zh_X_amend : zy_X_amend.cls ≠ "java/lang/invoke/MethodHandle" ∧ zy_X_amend.cls ≠ "java/lang/invoke/VarHandle" ∧ (parseMethodDescriptor zy_X_amend.desc).map (fun d => d.parameters.length) = some 3 := by decide +kernel
theorem zd_X_amend_0 : decode zb_X_amend 0 = .ok (.aload_n 0, 1) := by decide +kernel
theorem zd_X_amend_1 : decode zb_X_amend 1 = .ok (.getfield 25, 3) := by decide +kernel
theorem zd_X_amend_4 : decode zb_X_amend 4 = .ok (.iload_n 1, 1) := by decide +kernel
theorem zd_X_amend_5 : decode zb_X_amend 5 = .ok (.iload_n 2, 1) := by decide +kernel
theorem zd_X_amend_6 : decode zb_X_amend 6 = .ok (.invokevirtual 84, 3) := by decide +kernel
theorem zd_X_amend_9 : decode zb_X_amend 9 = .ok (.istore 5, 2) := by decide +kernel
theorem zd_X_amend_11 : decode zb_X_amend 11 = .ok (.iload 5, 2) := by decide +kernel
theorem zd_X_amend_13 : decode zb_X_amend 13 = .ok (.iconst (-1), 1) := by decide +kernel
theorem zd_X_amend_14 : decode zb_X_amend 14 = .ok (.if_icmp .eq 10, 3) := by decide +kernel
theorem zd_X_amend_17 : decode zb_X_amend 17 = .ok (.lload_n 3, 1) := by decide +kernel
theorem zd_X_amend_18 : decode zb_X_amend 18 = .ok (.invokestatic 87, 3) := by decide +kernel
theorem zd_X_amend_21 : decode zb_X_amend 21 = .ok (.ifCond .ne 13, 3) := by decide +kernel
theorem zd_X_amend_24 : decode zb_X_amend 24 = .ok (.new 91, 3) := by decide +kernel
theorem zd_X_amend_27 : decode zb_X_amend 27 = .ok (.dup, 1) := by decide +kernel
theorem zd_X_amend_28 : decode zb_X_amend 28 = .ok (.ldc 93, 2) := by decide +kernel
theorem zd_X_amend_30 : decode zb_X_amend 30 = .ok (.invokespecial 95, 3) := by decide +kernel
theorem zd_X_amend_33 : decode zb_X_amend 33 = .ok (.athrow, 1) := by decide +kernel
theorem zd_X_amend_34 : decode zb_X_amend 34 = .ok (.aload_n 0, 1) := by decide +kernel
theorem zd_X_amend_35 : decode zb_X_amend 35 = .ok (.getfield 53, 3) := by decide +kernel
theorem zd_X_amend_38 : decode zb_X_amend 38 = .ok (.ifCond .ne 13, 3) := by decide +kernel
theorem zd_X_amend_41 : decode zb_X_amend 41 = .ok (.new 61, 3) := by decide +kernel
theorem zd_X_amend_44 : decode zb_X_amend 44 = .ok (.dup, 1) := by decide +kernel
theorem zd_X_amend_45 : decode zb_X_amend 45 = .ok (.ldc 138, 2) := by decide +kernel
theorem zd_X_amend_47 : decode zb_X_amend 47 = .ok (.invokespecial 65, 3) := by decide +kernel
theorem zd_X_amend_50 : decode zb_X_amend 50 = .ok (.athrow, 1) := by decide +kernel
theorem zd_X_amend_51 : decode zb_X_amend 51 = .ok (.iload_n 1, 1) := by decide +kernel
theorem zd_X_amend_52 : decode zb_X_amend 52 = .ok (.iconst 3, 1) := by decide +kernel
theorem zd_X_amend_53 : decode zb_X_amend 53 = .ok (.irem, 1) := by decide +kernel
theorem zd_X_amend_54 : decode zb_X_amend 54 = .ok (.ifCond .eq 15, 3) := by decide +kernel
theorem zd_X_amend_57 : decode zb_X_amend 57 = .ok (.aload_n 0, 1) := by decide +kernel
theorem zd_X_amend_58 : decode zb_X_amend 58 = .ok (.getfield 18, 3) := by decide +kernel
theorem zd_X_amend_61 : decode zb_X_amend 61 = .ok (.iload_n 1, 1) := by decide +kernel
theorem zd_X_amend_62 : decode zb_X_amend 62 = .ok (.invokestatic 96, 3) := by decide +kernel
theorem zd_X_amend_65 : decode zb_X_amend 65 = .ok (.iconst 3, 1) := by decide +kernel
theorem zd_X_amend_66 : decode zb_X_amend 66 = .ok (.if_icmp .ne 5, 3) := by decide +kernel
theorem zd_X_amend_69 : decode zb_X_amend 69 = .ok (.iconst 0, 1) := by decide +kernel
theorem zd_X_amend_70 : decode zb_X_amend 70 = .ok (.ireturn, 1) := by decide +kernel
theorem zd_X_amend_71 : decode zb_X_amend 71 = .ok (.aload_n 0, 1) := by decide +kernel
theorem zd_X_amend_72 : decode zb_X_amend 72 = .ok (.getfield 25, 3) := by decide +kernel
theorem zd_X_amend_75 : decode zb_X_amend 75 = .ok (.iload 5, 2) := by decide +kernel
theorem zd_X_amend_77 : decode zb_X_amend 77 = .ok (.invokevirtual 103, 3) := by decide +kernel
theorem zd_X_amend_80 : decode zb_X_amend 80 = .ok (.istore 6, 2) := by decide +kernel
theorem zd_X_amend_82 : decode zb_X_amend 82 = .ok (.aload_n 0, 1) := by decide +kernel
theorem zd_X_amend_83 : decode zb_X_amend 83 = .ok (.getfield 25, 3) := by decide +kernel
theorem zd_X_amend_86 : decode zb_X_amend 86 = .ok (.iload 5, 2) := by decide +kernel
theorem zd_X_amend_88 : decode zb_X_amend 88 = .ok (.lload_n 3, 1) := by decide +kernel
theorem zd_X_amend_89 : decode zb_X_amend 89 = .ok (.l2i, 1) := by decide +kernel
theorem zd_X_amend_90 : decode zb_X_amend 90 = .ok (.invokevirtual 99, 3) := by decide +kernel
theorem zd_X_amend_93 : decode zb_X_amend 93 = .ok (.aload_n 0, 1) := by decide +kernel
theorem zd_X_amend_94 : decode zb_X_amend 94 = .ok (.invokevirtual 135, 3) := by decide +kernel
theorem zd_X_amend_97 : decode zb_X_amend 97 = .ok (.ifCond .eq 16, 3) := by decide +kernel
theorem zd_X_amend_100 : decode zb_X_amend 100 = .ok (.aload_n 0, 1) := by decide +kernel
theorem zd_X_amend_101 : decode zb_X_amend 101 = .ok (.getfield 25, 3) := by decide +kernel
theorem zd_X_amend_104 : decode zb_X_amend 104 = .ok (.iload 5, 2) := by decide +kernel
theorem zd_X_amend_106 : decode zb_X_amend 106 = .ok (.iload 6, 2) := by decide +kernel
theorem zd_X_amend_108 : decode zb_X_amend 108 = .ok (.invokevirtual 99, 3) := by decide +kernel
theorem zd_X_amend_111 : decode zb_X_amend 111 = .ok (.iconst 0, 1) := by decide +kernel
theorem zd_X_amend_112 : decode zb_X_amend 112 = .ok (.ireturn, 1) := by decide +kernel
theorem zd_X_amend_113 : decode zb_X_amend 113 = .ok (.iconst 1, 1) := by decide +kernel
theorem zd_X_amend_114 : decode zb_X_amend 114 = .ok (.ireturn, 1) := by decide +kernel
abbrev zy_X_draw : MethodName := ⟨"DeclareForms", "draw", "(III)I"⟩
abbrev zb_X_draw : ByteArray := prog_1_method_14_code
theorem zh_X_draw : zy_X_draw.cls ≠ "java/lang/invoke/MethodHandle" ∧ zy_X_draw.cls ≠ "java/lang/invoke/VarHandle" ∧ (parseMethodDescriptor zy_X_draw.desc).map (fun d => d.parameters.length) = some 3 := by decide +kernel
theorem zd_X_draw_0 : decode zb_X_draw 0 = .ok (.aload_n 0, 1) := by decide +kernel
theorem zd_X_draw_1 : decode zb_X_draw 1 = .ok (.getfield 39, 3) := by decide +kernel
theorem zd_X_draw_4 : decode zb_X_draw 4 = .ok (.iload_n 2, 1) := by decide +kernel
theorem zd_X_draw_5 : decode zb_X_draw 5 = .ok (.invokevirtual 143, 3) := by decide +kernel
theorem zd_X_draw_8 : decode zb_X_draw 8 = .ok (.istore 4, 2) := by decide +kernel
theorem zd_X_draw_10 : decode zb_X_draw 10 = .ok (.aload_n 0, 1) := by decide +kernel
theorem zd_X_draw_11 : decode zb_X_draw 11 = .ok (.getfield 25, 3) := by decide +kernel
theorem zd_X_draw_14 : decode zb_X_draw 14 = .ok (.iload_n 1, 1) := by decide +kernel
theorem zd_X_draw_15 : decode zb_X_draw 15 = .ok (.invokevirtual 72, 3) := by decide +kernel
theorem zd_X_draw_18 : decode zb_X_draw 18 = .ok (.ifCond .eq 20, 3) := by decide +kernel
theorem zd_X_draw_21 : decode zb_X_draw 21 = .ok (.iload 4, 2) := by decide +kernel
theorem zd_X_draw_23 : decode zb_X_draw 23 = .ok (.iconst (-1), 1) := by decide +kernel
theorem zd_X_draw_24 : decode zb_X_draw 24 = .ok (.if_icmp .eq 14, 3) := by decide +kernel
theorem zd_X_draw_27 : decode zb_X_draw 27 = .ok (.iload_n 3, 1) := by decide +kernel
theorem zd_X_draw_28 : decode zb_X_draw 28 = .ok (.iconst 1, 1) := by decide +kernel
theorem zd_X_draw_29 : decode zb_X_draw 29 = .ok (.if_icmp .lt 9, 3) := by decide +kernel
theorem zd_X_draw_32 : decode zb_X_draw 32 = .ok (.iload_n 3, 1) := by decide +kernel
theorem zd_X_draw_33 : decode zb_X_draw 33 = .ok (.ldc 118, 2) := by decide +kernel
theorem zd_X_draw_35 : decode zb_X_draw 35 = .ok (.if_icmp .le 13, 3) := by decide +kernel
theorem zd_X_draw_38 : decode zb_X_draw 38 = .ok (.new 91, 3) := by decide +kernel
theorem zd_X_draw_41 : decode zb_X_draw 41 = .ok (.dup, 1) := by decide +kernel
theorem zd_X_draw_42 : decode zb_X_draw 42 = .ok (.ldc 146, 2) := by decide +kernel
theorem zd_X_draw_44 : decode zb_X_draw 44 = .ok (.invokespecial 95, 3) := by decide +kernel
theorem zd_X_draw_47 : decode zb_X_draw 47 = .ok (.athrow, 1) := by decide +kernel
theorem zd_X_draw_48 : decode zb_X_draw 48 = .ok (.aload_n 0, 1) := by decide +kernel
theorem zd_X_draw_49 : decode zb_X_draw 49 = .ok (.getfield 53, 3) := by decide +kernel
theorem zd_X_draw_52 : decode zb_X_draw 52 = .ok (.ifCond .eq 7, 3) := by decide +kernel
theorem zd_X_draw_55 : decode zb_X_draw 55 = .ok (.iconst (-1), 1) := by decide +kernel
theorem zd_X_draw_56 : decode zb_X_draw 56 = .ok (.goto 14, 3) := by decide +kernel
theorem zd_X_draw_59 : decode zb_X_draw 59 = .ok (.aload_n 0, 1) := by decide +kernel
theorem zd_X_draw_60 : decode zb_X_draw 60 = .ok (.getfield 39, 3) := by decide +kernel
theorem zd_X_draw_63 : decode zb_X_draw 63 = .ok (.iload_n 1, 1) := by decide +kernel
theorem zd_X_draw_64 : decode zb_X_draw 64 = .ok (.iload 4, 2) := by decide +kernel
theorem zd_X_draw_66 : decode zb_X_draw 66 = .ok (.iload_n 3, 1) := by decide +kernel
theorem zd_X_draw_67 : decode zb_X_draw 67 = .ok (.invokevirtual 148, 3) := by decide +kernel
theorem zd_X_draw_70 : decode zb_X_draw 70 = .ok (.ireturn, 1) := by decide +kernel
abbrev zy_X_sum : MethodName := ⟨"DeclareForms", "sum", "(I)J"⟩
abbrev zb_X_sum : ByteArray := prog_1_method_15_code
theorem zh_X_sum : zy_X_sum.cls ≠ "java/lang/invoke/MethodHandle" ∧ zy_X_sum.cls ≠ "java/lang/invoke/VarHandle" ∧ (parseMethodDescriptor zy_X_sum.desc).map (fun d => d.parameters.length) = some 1 := by decide +kernel
theorem zd_X_sum_0 : decode zb_X_sum 0 = .ok (.iload_n 1, 1) := by decide +kernel
theorem zd_X_sum_1 : decode zb_X_sum 1 = .ok (.bipush 10, 2) := by decide +kernel
theorem zd_X_sum_3 : decode zb_X_sum 3 = .ok (.if_icmp .lt 9, 3) := by decide +kernel
theorem zd_X_sum_6 : decode zb_X_sum 6 = .ok (.iload_n 1, 1) := by decide +kernel
theorem zd_X_sum_7 : decode zb_X_sum 7 = .ok (.bipush 19, 2) := by decide +kernel
theorem zd_X_sum_9 : decode zb_X_sum 9 = .ok (.if_icmp .le 13, 3) := by decide +kernel
theorem zd_X_sum_12 : decode zb_X_sum 12 = .ok (.new 91, 3) := by decide +kernel
theorem zd_X_sum_15 : decode zb_X_sum 15 = .ok (.dup, 1) := by decide +kernel
theorem zd_X_sum_16 : decode zb_X_sum 16 = .ok (.ldc 152, 2) := by decide +kernel
theorem zd_X_sum_18 : decode zb_X_sum 18 = .ok (.invokespecial 95, 3) := by decide +kernel
theorem zd_X_sum_21 : decode zb_X_sum 21 = .ok (.athrow, 1) := by decide +kernel
theorem zd_X_sum_22 : decode zb_X_sum 22 = .ok (.aload_n 0, 1) := by decide +kernel
theorem zd_X_sum_23 : decode zb_X_sum 23 = .ok (.getfield 25, 3) := by decide +kernel
theorem zd_X_sum_26 : decode zb_X_sum 26 = .ok (.iload_n 1, 1) := by decide +kernel
theorem zd_X_sum_27 : decode zb_X_sum 27 = .ok (.invokevirtual 154, 3) := by decide +kernel
theorem zd_X_sum_30 : decode zb_X_sum 30 = .ok (.lreturn, 1) := by decide +kernel
abbrev zy_X_octet : MethodName := ⟨"DeclareForms", "octet", "(I)B"⟩
abbrev zb_X_octet : ByteArray := prog_1_method_17_code
theorem zh_X_octet : zy_X_octet.cls ≠ "java/lang/invoke/MethodHandle" ∧ zy_X_octet.cls ≠ "java/lang/invoke/VarHandle" ∧ (parseMethodDescriptor zy_X_octet.desc).map (fun d => d.parameters.length) = some 1 := by decide +kernel
theorem zd_X_octet_0 : decode zb_X_octet 0 = .ok (.iload_n 1, 1) := by decide +kernel
theorem zd_X_octet_1 : decode zb_X_octet 1 = .ok (.ifCond .lt 11, 3) := by decide +kernel
theorem zd_X_octet_4 : decode zb_X_octet 4 = .ok (.iload_n 1, 1) := by decide +kernel
theorem zd_X_octet_5 : decode zb_X_octet 5 = .ok (.aload_n 0, 1) := by decide +kernel
theorem zd_X_octet_6 : decode zb_X_octet 6 = .ok (.invokevirtual 161, 3) := by decide +kernel
theorem zd_X_octet_9 : decode zb_X_octet 9 = .ok (.if_icmp .lt 13, 3) := by decide +kernel
theorem zd_X_octet_12 : decode zb_X_octet 12 = .ok (.new 164, 3) := by decide +kernel
theorem zd_X_octet_15 : decode zb_X_octet 15 = .ok (.dup, 1) := by decide +kernel
theorem zd_X_octet_16 : decode zb_X_octet 16 = .ok (.ldc 166, 2) := by decide +kernel
theorem zd_X_octet_18 : decode zb_X_octet 18 = .ok (.invokespecial 168, 3) := by decide +kernel
theorem zd_X_octet_21 : decode zb_X_octet 21 = .ok (.athrow, 1) := by decide +kernel
theorem zd_X_octet_22 : decode zb_X_octet 22 = .ok (.iload_n 1, 1) := by decide +kernel
theorem zd_X_octet_23 : decode zb_X_octet 23 = .ok (.ifCond .ne 9, 3) := by decide +kernel
theorem zd_X_octet_26 : decode zb_X_octet 26 = .ok (.aload_n 0, 1) := by decide +kernel
theorem zd_X_octet_27 : decode zb_X_octet 27 = .ok (.getfield 18, 3) := by decide +kernel
theorem zd_X_octet_30 : decode zb_X_octet 30 = .ok (.i2b, 1) := by decide +kernel
theorem zd_X_octet_31 : decode zb_X_octet 31 = .ok (.ireturn, 1) := by decide +kernel
theorem zd_X_octet_32 : decode zb_X_octet 32 = .ok (.iload_n 1, 1) := by decide +kernel
theorem zd_X_octet_33 : decode zb_X_octet 33 = .ok (.iconst 3, 1) := by decide +kernel
theorem zd_X_octet_34 : decode zb_X_octet 34 = .ok (.if_icmp .ge 17, 3) := by decide +kernel
theorem zd_X_octet_37 : decode zb_X_octet 37 = .ok (.aload_n 0, 1) := by decide +kernel
theorem zd_X_octet_38 : decode zb_X_octet 38 = .ok (.getfield 25, 3) := by decide +kernel
theorem zd_X_octet_41 : decode zb_X_octet 41 = .ok (.invokevirtual 158, 3) := by decide +kernel
theorem zd_X_octet_44 : decode zb_X_octet 44 = .ok (.iconst 2, 1) := by decide +kernel
theorem zd_X_octet_45 : decode zb_X_octet 45 = .ok (.iload_n 1, 1) := by decide +kernel
theorem zd_X_octet_46 : decode zb_X_octet 46 = .ok (.isub, 1) := by decide +kernel
theorem zd_X_octet_47 : decode zb_X_octet 47 = .ok (.invokestatic 169, 3) := by decide +kernel
theorem zd_X_octet_50 : decode zb_X_octet 50 = .ok (.ireturn, 1) := by decide +kernel
theorem zd_X_octet_51 : decode zb_X_octet 51 = .ok (.aload_n 0, 1) := by decide +kernel
theorem zd_X_octet_52 : decode zb_X_octet 52 = .ok (.getfield 25, 3) := by decide +kernel
theorem zd_X_octet_55 : decode zb_X_octet 55 = .ok (.iload_n 1, 1) := by decide +kernel
theorem zd_X_octet_56 : decode zb_X_octet 56 = .ok (.iconst 3, 1) := by decide +kernel
theorem zd_X_octet_57 : decode zb_X_octet 57 = .ok (.isub, 1) := by decide +kernel
theorem zd_X_octet_58 : decode zb_X_octet 58 = .ok (.bipush 6, 2) := by decide +kernel
theorem zd_X_octet_60 : decode zb_X_octet 60 = .ok (.idiv, 1) := by decide +kernel
theorem zd_X_octet_61 : decode zb_X_octet 61 = .ok (.invokevirtual 173, 3) := by decide +kernel
theorem zd_X_octet_64 : decode zb_X_octet 64 = .ok (.istore_n 2, 1) := by decide +kernel
theorem zd_X_octet_65 : decode zb_X_octet 65 = .ok (.aload_n 0, 1) := by decide +kernel
theorem zd_X_octet_66 : decode zb_X_octet 66 = .ok (.iload_n 2, 1) := by decide +kernel
theorem zd_X_octet_67 : decode zb_X_octet 67 = .ok (.iload_n 1, 1) := by decide +kernel
theorem zd_X_octet_68 : decode zb_X_octet 68 = .ok (.iconst 3, 1) := by decide +kernel
theorem zd_X_octet_69 : decode zb_X_octet 69 = .ok (.isub, 1) := by decide +kernel
theorem zd_X_octet_70 : decode zb_X_octet 70 = .ok (.bipush 6, 2) := by decide +kernel
theorem zd_X_octet_72 : decode zb_X_octet 72 = .ok (.irem, 1) := by decide +kernel
theorem zd_X_octet_73 : decode zb_X_octet 73 = .ok (.invokevirtual 176, 3) := by decide +kernel
theorem zd_X_octet_76 : decode zb_X_octet 76 = .ok (.ireturn, 1) := by decide +kernel
abbrev zy_F_fill : MethodName := ⟨"java/util/Arrays", "fill", "([II)V"⟩
abbrev zb_F_fill : ByteArray := prog_16_method_103_code
theorem zh_F_fill : zy_F_fill.cls ≠ "java/lang/invoke/MethodHandle" ∧ zy_F_fill.cls ≠ "java/lang/invoke/VarHandle" ∧ (parseMethodDescriptor zy_F_fill.desc).map (fun d => d.parameters.length) = some 2 := by decide +kernel
theorem zd_F_fill_0 : decode zb_F_fill 0 = .ok (.iconst 0, 1) := by decide +kernel
theorem zd_F_fill_1 : decode zb_F_fill 1 = .ok (.istore_n 2, 1) := by decide +kernel
theorem zd_F_fill_2 : decode zb_F_fill 2 = .ok (.aload_n 0, 1) := by decide +kernel
theorem zd_F_fill_3 : decode zb_F_fill 3 = .ok (.arraylength, 1) := by decide +kernel
theorem zd_F_fill_4 : decode zb_F_fill 4 = .ok (.istore_n 3, 1) := by decide +kernel
theorem zd_F_fill_5 : decode zb_F_fill 5 = .ok (.iload_n 2, 1) := by decide +kernel
theorem zd_F_fill_6 : decode zb_F_fill 6 = .ok (.iload_n 3, 1) := by decide +kernel
theorem zd_F_fill_7 : decode zb_F_fill 7 = .ok (.if_icmp .ge 13, 3) := by decide +kernel
theorem zd_F_fill_10 : decode zb_F_fill 10 = .ok (.aload_n 0, 1) := by decide +kernel
theorem zd_F_fill_11 : decode zb_F_fill 11 = .ok (.iload_n 2, 1) := by decide +kernel
theorem zd_F_fill_12 : decode zb_F_fill 12 = .ok (.iload_n 1, 1) := by decide +kernel
theorem zd_F_fill_13 : decode zb_F_fill 13 = .ok (.iastore, 1) := by decide +kernel
theorem zd_F_fill_14 : decode zb_F_fill 14 = .ok (.iinc 2 1, 3) := by decide +kernel
theorem zd_F_fill_17 : decode zb_F_fill 17 = .ok (.goto (-12), 3) := by decide +kernel
theorem zd_F_fill_20 : decode zb_F_fill 20 = .ok (.return_, 1) := by decide +kernel
abbrev zy_S_init : MethodName := ⟨"DeclareForms$Sheet", "<init>", "()V"⟩
abbrev zb_S_init : ByteArray := prog_5_method_1_code
theorem zh_S_init : zy_S_init.cls ≠ "java/lang/invoke/MethodHandle" ∧ zy_S_init.cls ≠ "java/lang/invoke/VarHandle" ∧ (parseMethodDescriptor zy_S_init.desc).map (fun d => d.parameters.length) = some 0 := by decide +kernel
theorem zd_S_init_0 : decode zb_S_init 0 = .ok (.aload_n 0, 1) := by decide +kernel
theorem zd_S_init_1 : decode zb_S_init 1 = .ok (.invokespecial 3, 3) := by decide +kernel
theorem zd_S_init_4 : decode zb_S_init 4 = .ok (.aload_n 0, 1) := by decide +kernel
theorem zd_S_init_5 : decode zb_S_init 5 = .ok (.sipush 310, 3) := by decide +kernel
theorem zd_S_init_8 : decode zb_S_init 8 = .ok (.newarray .int, 2) := by decide +kernel
theorem zd_S_init_10 : decode zb_S_init 10 = .ok (.putfield 9, 3) := by decide +kernel
theorem zd_S_init_13 : decode zb_S_init 13 = .ok (.aload_n 0, 1) := by decide +kernel
theorem zd_S_init_14 : decode zb_S_init 14 = .ok (.bipush 31, 2) := by decide +kernel
theorem zd_S_init_16 : decode zb_S_init 16 = .ok (.newarray .boolean, 2) := by decide +kernel
theorem zd_S_init_18 : decode zb_S_init 18 = .ok (.putfield 15, 3) := by decide +kernel
theorem zd_S_init_21 : decode zb_S_init 21 = .ok (.aload_n 0, 1) := by decide +kernel
theorem zd_S_init_22 : decode zb_S_init 22 = .ok (.getfield 9, 3) := by decide +kernel
theorem zd_S_init_25 : decode zb_S_init 25 = .ok (.iconst (-1), 1) := by decide +kernel
theorem zd_S_init_26 : decode zb_S_init 26 = .ok (.invokestatic 19, 3) := by decide +kernel
theorem zd_S_init_29 : decode zb_S_init 29 = .ok (.return_, 1) := by decide +kernel
abbrev zy_C_init : MethodName := ⟨"DeclareForms$Codes", "<init>", "()V"⟩
abbrev zb_C_init : ByteArray := prog_2_method_1_code
theorem zh_C_init : zy_C_init.cls ≠ "java/lang/invoke/MethodHandle" ∧ zy_C_init.cls ≠ "java/lang/invoke/VarHandle" ∧ (parseMethodDescriptor zy_C_init.desc).map (fun d => d.parameters.length) = some 0 := by decide +kernel
theorem zd_C_init_0 : decode zb_C_init 0 = .ok (.aload_n 0, 1) := by decide +kernel
theorem zd_C_init_1 : decode zb_C_init 1 = .ok (.invokespecial 3, 3) := by decide +kernel
theorem zd_C_init_4 : decode zb_C_init 4 = .ok (.aload_n 0, 1) := by decide +kernel
theorem zd_C_init_5 : decode zb_C_init 5 = .ok (.bipush 20, 2) := by decide +kernel
theorem zd_C_init_7 : decode zb_C_init 7 = .ok (.newarray .int, 2) := by decide +kernel
theorem zd_C_init_9 : decode zb_C_init 9 = .ok (.putfield 9, 3) := by decide +kernel
theorem zd_C_init_12 : decode zb_C_init 12 = .ok (.aload_n 0, 1) := by decide +kernel
theorem zd_C_init_13 : decode zb_C_init 13 = .ok (.bipush 20, 2) := by decide +kernel
theorem zd_C_init_15 : decode zb_C_init 15 = .ok (.newarray .int, 2) := by decide +kernel
theorem zd_C_init_17 : decode zb_C_init 17 = .ok (.putfield 15, 3) := by decide +kernel
theorem zd_C_init_20 : decode zb_C_init 20 = .ok (.return_, 1) := by decide +kernel
abbrev zy_P_init : MethodName := ⟨"DeclareForms$Papers", "<init>", "()V"⟩
abbrev zb_P_init : ByteArray := prog_3_method_1_code
theorem zh_P_init : zy_P_init.cls ≠ "java/lang/invoke/MethodHandle" ∧ zy_P_init.cls ≠ "java/lang/invoke/VarHandle" ∧ (parseMethodDescriptor zy_P_init.desc).map (fun d => d.parameters.length) = some 0 := by decide +kernel
theorem zd_P_init_0 : decode zb_P_init 0 = .ok (.aload_n 0, 1) := by decide +kernel
theorem zd_P_init_1 : decode zb_P_init 1 = .ok (.invokespecial 3, 3) := by decide +kernel
theorem zd_P_init_4 : decode zb_P_init 4 = .ok (.aload_n 0, 1) := by decide +kernel
theorem zd_P_init_5 : decode zb_P_init 5 = .ok (.bipush 20, 2) := by decide +kernel
theorem zd_P_init_7 : decode zb_P_init 7 = .ok (.newarray .int, 2) := by decide +kernel
theorem zd_P_init_9 : decode zb_P_init 9 = .ok (.putfield 9, 3) := by decide +kernel
theorem zd_P_init_12 : decode zb_P_init 12 = .ok (.aload_n 0, 1) := by decide +kernel
theorem zd_P_init_13 : decode zb_P_init 13 = .ok (.bipush 20, 2) := by decide +kernel
theorem zd_P_init_15 : decode zb_P_init 15 = .ok (.newarray .int, 2) := by decide +kernel
theorem zd_P_init_17 : decode zb_P_init 17 = .ok (.putfield 15, 3) := by decide +kernel
theorem zd_P_init_20 : decode zb_P_init 20 = .ok (.aload_n 0, 1) := by decide +kernel
theorem zd_P_init_21 : decode zb_P_init 21 = .ok (.sipush 620, 3) := by decide +kernel
theorem zd_P_init_24 : decode zb_P_init 24 = .ok (.newarray .int, 2) := by decide +kernel
theorem zd_P_init_26 : decode zb_P_init 26 = .ok (.putfield 18, 3) := by decide +kernel
theorem zd_P_init_29 : decode zb_P_init 29 = .ok (.return_, 1) := by decide +kernel
abbrev zy_R_init : MethodName := ⟨"DeclareForms$Reader", "<init>", "()V"⟩
abbrev zb_R_init : ByteArray := prog_4_method_1_code
theorem zh_R_init : zy_R_init.cls ≠ "java/lang/invoke/MethodHandle" ∧ zy_R_init.cls ≠ "java/lang/invoke/VarHandle" ∧ (parseMethodDescriptor zy_R_init.desc).map (fun d => d.parameters.length) = some 0 := by decide +kernel
theorem zd_R_init_0 : decode zb_R_init 0 = .ok (.aload_n 0, 1) := by decide +kernel
theorem zd_R_init_1 : decode zb_R_init 1 = .ok (.invokespecial 3, 3) := by decide +kernel
theorem zd_R_init_4 : decode zb_R_init 4 = .ok (.return_, 1) := by decide +kernel
abbrev zy_X_init : MethodName := ⟨"DeclareForms", "<init>", "(I)V"⟩
abbrev zb_X_init : ByteArray := prog_1_method_1_code
theorem zh_X_init : zy_X_init.cls ≠ "java/lang/invoke/MethodHandle" ∧ zy_X_init.cls ≠ "java/lang/invoke/VarHandle" ∧ (parseMethodDescriptor zy_X_init.desc).map (fun d => d.parameters.length) = some 1 := by decide +kernel
theorem zd_X_init_0 : decode zb_X_init 0 = .ok (.aload_n 0, 1) := by decide +kernel
theorem zd_X_init_1 : decode zb_X_init 1 = .ok (.invokespecial 1, 3) := by decide +kernel
theorem zd_X_init_4 : decode zb_X_init 4 = .ok (.aload_n 0, 1) := by decide +kernel
theorem zd_X_init_5 : decode zb_X_init 5 = .ok (.iconst 0, 1) := by decide +kernel
theorem zd_X_init_6 : decode zb_X_init 6 = .ok (.iconst 3, 1) := by decide +kernel
theorem zd_X_init_7 : decode zb_X_init 7 = .ok (.iload_n 1, 1) := by decide +kernel
theorem zd_X_init_8 : decode zb_X_init 8 = .ok (.invokestatic 9, 3) := by decide +kernel
theorem zd_X_init_11 : decode zb_X_init 11 = .ok (.invokestatic 15, 3) := by decide +kernel
theorem zd_X_init_14 : decode zb_X_init 14 = .ok (.putfield 18, 3) := by decide +kernel
theorem zd_X_init_17 : decode zb_X_init 17 = .ok (.aload_n 0, 1) := by decide +kernel
theorem zd_X_init_18 : decode zb_X_init 18 = .ok (.new 22, 3) := by decide +kernel
theorem zd_X_init_21 : decode zb_X_init 21 = .ok (.dup, 1) := by decide +kernel
theorem zd_X_init_22 : decode zb_X_init 22 = .ok (.invokespecial 24, 3) := by decide +kernel
theorem zd_X_init_25 : decode zb_X_init 25 = .ok (.putfield 25, 3) := by decide +kernel
theorem zd_X_init_28 : decode zb_X_init 28 = .ok (.aload_n 0, 1) := by decide +kernel
theorem zd_X_init_29 : decode zb_X_init 29 = .ok (.new 29, 3) := by decide +kernel
theorem zd_X_init_32 : decode zb_X_init 32 = .ok (.dup, 1) := by decide +kernel
theorem zd_X_init_33 : decode zb_X_init 33 = .ok (.invokespecial 31, 3) := by decide +kernel
theorem zd_X_init_36 : decode zb_X_init 36 = .ok (.putfield 32, 3) := by decide +kernel
theorem zd_X_init_39 : decode zb_X_init 39 = .ok (.aload_n 0, 1) := by decide +kernel
theorem zd_X_init_40 : decode zb_X_init 40 = .ok (.new 36, 3) := by decide +kernel
theorem zd_X_init_43 : decode zb_X_init 43 = .ok (.dup, 1) := by decide +kernel
theorem zd_X_init_44 : decode zb_X_init 44 = .ok (.invokespecial 38, 3) := by decide +kernel
theorem zd_X_init_47 : decode zb_X_init 47 = .ok (.putfield 39, 3) := by decide +kernel
theorem zd_X_init_50 : decode zb_X_init 50 = .ok (.aload_n 0, 1) := by decide +kernel
theorem zd_X_init_51 : decode zb_X_init 51 = .ok (.new 43, 3) := by decide +kernel
theorem zd_X_init_54 : decode zb_X_init 54 = .ok (.dup, 1) := by decide +kernel
theorem zd_X_init_55 : decode zb_X_init 55 = .ok (.invokespecial 45, 3) := by decide +kernel
theorem zd_X_init_58 : decode zb_X_init 58 = .ok (.putfield 46, 3) := by decide +kernel
theorem zd_X_init_61 : decode zb_X_init 61 = .ok (.aload_n 0, 1) := by decide +kernel
theorem zd_X_init_62 : decode zb_X_init 62 = .ok (.iconst 0, 1) := by decide +kernel
theorem zd_X_init_63 : decode zb_X_init 63 = .ok (.putfield 50, 3) := by decide +kernel
theorem zd_X_init_66 : decode zb_X_init 66 = .ok (.aload_n 0, 1) := by decide +kernel
theorem zd_X_init_67 : decode zb_X_init 67 = .ok (.iconst 0, 1) := by decide +kernel
theorem zd_X_init_68 : decode zb_X_init 68 = .ok (.putfield 53, 3) := by decide +kernel
theorem zd_X_init_71 : decode zb_X_init 71 = .ok (.return_, 1) := by decide +kernel
def zz_nest : List (String × Nat × MethodName × String) := [("DeclareForms$Sheet", 51, ⟨"DeclareForms", "fieldOf", "(I)I"⟩, "DeclareForms"), ("DeclareForms$Sheet", 54, ⟨"DeclareForms", "needBy", "(II)I"⟩, "DeclareForms"), ("DeclareForms$Sheet", 47, ⟨"DeclareForms", "lineOf", "(I)I"⟩, "DeclareForms"), ("DeclareForms$Reader", 58, ⟨"DeclareForms", "needBy", "(II)I"⟩, "DeclareForms"), ("DeclareForms", 31, ⟨"DeclareForms$Codes", "<init>", "()V"⟩, "DeclareForms"), ("DeclareForms", 38, ⟨"DeclareForms$Papers", "<init>", "()V"⟩, "DeclareForms"), ("DeclareForms", 45, ⟨"DeclareForms$Reader", "<init>", "()V"⟩, "DeclareForms")]
def zz_strs : List (String × Nat × String) := [("DeclareForms", 63, "no further line"), ("DeclareForms", 93, "no such field, line or value"), ("DeclareForms", 106, "no such field or line"), ("DeclareForms", 108, "no such field"), ("DeclareForms", 138, "not lodged"), ("DeclareForms", 146, "no such line, paper or amount"), ("DeclareForms", 152, "no field of lines"), ("DeclareForms", 166, "no such byte")]
def zz_decl : List MethodName := [⟨"java/lang/RuntimeException", "<init>", "(Ljava/lang/String;)V"⟩, ⟨"java/lang/Exception", "<init>", "(Ljava/lang/String;)V"⟩, ⟨"java/lang/Throwable", "<init>", "(Ljava/lang/String;)V"⟩]
def zz_cast : List String := ["java/lang/IllegalStateException", "java/lang/IllegalArgumentException", "java/lang/IndexOutOfBoundsException"]
end
section
/-! BASE: the words in one list, one form of start and end for every contract, calls and returns in one row each -/
def zz_big : List Cond := lw_tbl.filter goodWord
theorem zz_good : ∀ w ∈ zz_big, (w.onTables && w.keeps) = true ∨ ∃ ty, w = .arrayClass ty := fun _ h => good_of_word (List.mem_filter.mp h).2
theorem zz_in {w : Cond} (i : Nat) (h : lw_tbl[i]? = some w) (g : goodWord w = true) : w ∈ zz_big := List.mem_filter.mpr ⟨List.mem_of_getElem? h, g⟩
theorem zz_gd {ws : List Cond} (h : ∀ w ∈ ws, w ∈ zz_big) : GoodIn zz_big ws := fun w hw => ⟨h w hw, zz_good w (h w hw)⟩
abbrev zz_ws (y : MethodName) (b : ByteArray) (n : Nat) (r : Option FieldType) : List Cond := .code y b n r :: zz_big
theorem zz_gB {y : MethodName} {b : ByteArray} {n : Nat} {r : Option FieldType} (h : Cond.code y b n r ∈ zz_big) : GoodIn zz_big (zz_ws y b n r) := zz_gd (fun w hw => by
  rcases List.mem_cons.mp hw with h1 | h1
  · rw [h1]; exact h
  · exact h1)
theorem zz_gV {own C : String} {idx : Nat} {y : MethodName} {b : ByteArray} {n : Nat} {r : Option FieldType} (h1 : Cond.methodLink own idx y ∈ zz_big) (h2 : Cond.instanceMethod y ∈ zz_big) (h3 : Cond.selects C y y ∈ zz_big) (h4 : Cond.initialized C ∈ zz_big) (h5 : Cond.code y b n r ∈ zz_big) : GoodIn zz_big (wsV own idx C y (zz_ws y b n r)) := zz_gd (fun w hw => by
  rcases List.mem_append.mp hw with h | h
  · simp only [List.mem_cons, List.not_mem_nil, or_false] at h
    rcases h with h | h | h | h <;> (rw [h]; assumption)
  · rcases List.mem_cons.mp h with h | h
    · rw [h]; exact h5
    · exact h)
theorem zz_gS {own : String} {idx : Nat} {y : MethodName} {b : ByteArray} {n : Nat} {r : Option FieldType} (h1 : Cond.methodLink own idx y ∈ zz_big) (h2 : Cond.static y ∈ zz_big) (h4 : Cond.initialized y.cls ∈ zz_big) (h5 : Cond.code y b n r ∈ zz_big) : GoodIn zz_big (va_wsS own idx y (zz_ws y b n r)) := zz_gd (fun w hw => by
  rcases List.mem_append.mp hw with h | h
  · simp only [List.mem_cons, List.not_mem_nil, or_false] at h
    rcases h with h | h | h <;> (rw [h]; assumption)
  · rcases List.mem_cons.mp h with h | h
    · rw [h]; exact h5
    · exact h)
/-- what every contract takes of the tables beside the words: links of nest mates, string constants, what the makers of exceptions ask -/
def zz_en (U : State) : Prop := (∀ q ∈ zz_nest, va_Nw (.methodLinkNest q.1 q.2.1 q.2.2.1 q.2.2.2) U) ∧ (∀ q ∈ zz_strs, ∃ a : Nat, vk_R q.1 q.2.1 q.2.2 a U) ∧ (∀ y ∈ zz_decl, va_Nw (.declares y) U) ∧ (∀ X ∈ zz_cast, va_Nw (.castable X X) U) ∧ va_Nc "java/lang/IllegalStateException" "java/lang/IllegalArgumentException" U
theorem zz_en.warm {s U : State} (hW : s.WarmedH U.vm) (h : zz_en s) : zz_en U := ⟨fun q hq => va_Nw.warmM hW (h.1 q hq), fun q hq => by obtain ⟨a, ha⟩ := h.2.1 q hq; exact ⟨a, ha.warm hW⟩, fun y hy => va_Nw.warmD hW (h.2.2.1 y hy), fun X hX => va_Nw.warmC hW (h.2.2.2.1 X hX), va_Nc.moved hW.alike h.2.2.2.2⟩
theorem zz_en.same {s U : State} (hv : s.vm = U.vm) (h : zz_en s) : zz_en U := ⟨fun q hq => va_Nw.same rfl hv (h.1 q hq), fun q hq => by obtain ⟨a, ha⟩ := h.2.1 q hq; exact ⟨a, ha.same hv.symm⟩, fun y hy => va_Nw.same rfl hv (h.2.2.1 y hy), fun X hX => va_Nw.same rfl hv (h.2.2.2.1 X hX), va_Nc.moved (by rw [hv]; exact Vm.Alike.refl U.vm) h.2.2.2.2⟩
def zz_P (D : va_G) (tys : List (ClassId × FieldType)) (sz : Nat) (ws : va_W) : State → Prop := fun U => U.heap.size = sz ∧ va_P D zz_cl ws U.heap ∧ va_K D zz_cl tys U ∧ va_D (fun _ => True) ws ∧ zz_en U
def zz_B (D : va_G) (tys : List (ClassId × FieldType)) (A : Nat → Prop) (ws : va_W) : State → Prop := fun t => va_P D zz_cl ws t.heap ∧ va_K D zz_cl tys t ∧ va_D A ws
theorem zz_blind {D : va_G} {tys : List (ClassId × FieldType)} {sz : Nat} {ws : va_W} {av : List Value} : FrameBlind (va_Pc av (zz_P D tys sz ws)) := fun a U g mk q => by
  obtain ⟨q0, q1, qP, qK, qD, qE⟩ := q
  exact ⟨q0, q1, qP, va_K.moved (u := U) (U := U.calling g mk a) (Vm.Alike.refl U.vm) qK, qD, zz_en.same (s := U) rfl qE⟩
theorem zz_at {D : va_G} {tys : List (ClassId × FieldType)} {ws : va_W} {av : List Value} {s : State} {H : Heap} {A : Nat → Prop} (hP : va_P D zz_cl ws H) (hK : va_K D zz_cl tys s) (hD : va_D A ws) (hE : zz_en s) : ∀ U : State, U.heap = H → s.WarmedH U.vm → va_Pc av (zz_P D tys H.size ws) av.toArray U := fun U hU hW => ⟨rfl, by rw [hU], by rw [hU]; exact hP, va_K.moved hW.alike hK, hD.weaken (fun _ _ _ _ => trivial), hE.warm hW⟩
theorem zz_preV {D : va_G} {tys : List (ClassId × FieldType)} {ws wc : va_W} {As : List Value} {s : State} {H : Heap} {A : Nat → Prop} {b ci : Nat} {fs : List Value} {q : vw_C} (hP : va_P D zz_cl ws H) (hD : va_D A ws) (hK : va_K D zz_cl tys s) (hE : zz_en s) (isC : List Nat) (hnC : va_nd isC = true) (hC : isC.map (fun i => ws[i]?) = wc.map some) (hr : wc[0]? = some (b, .inr (ci, fs))) (hc : zz_cl[ci]? = some q) : PreV s H q.1 b (va_Pc (.ref b :: As) (zz_P D tys H.size wc)) As := by
  have hDc : va_D A wc := hD.sub isC hnC hC
  have hPc : va_P D zz_cl wc H := hP.sub isC (by
    have e := congrArg (fun l : List (Option (Nat × va_E)) => l.filterMap id) hC
    simpa [List.filterMap_map, Function.comp_def] using e)
  exact ⟨zz_blind, va_recv hK hPc hc hr, zz_at hPc hK hDc hE⟩
theorem zz_preS {D : va_G} {tys : List (ClassId × FieldType)} {ws wc : va_W} {As : List Value} {s : State} {H : Heap} {A : Nat → Prop} (hP : va_P D zz_cl ws H) (hD : va_D A ws) (hK : va_K D zz_cl tys s) (hE : zz_en s) (isC : List Nat) (hnC : va_nd isC = true) (hC : isC.map (fun i => ws[i]?) = wc.map some) : PreS s H (va_Pc As (zz_P D tys H.size wc)) As := by
  have hDc : va_D A wc := hD.sub isC hnC hC
  have hPc : va_P D zz_cl wc H := hP.sub isC (by
    have e := congrArg (fun l : List (Option (Nat × va_E)) => l.filterMap id) hC
    simpa [List.filterMap_map, Function.comp_def] using e)
  exact ⟨zz_blind, zz_at hPc hK hDc hE⟩
/-- the method's own standing facts -/
def zz_C (p : Program) (s : State) (m : MethodId) (args : Array Value) (meth : Method) (c : Code) (cc : ByteArray) (nL : Nat) (ret : Option FieldType) (own : String) : Prop :=
  p.tables.exec = Jvm.exec ∧ c.code = cc ∧ meth.sig.returnType = ret ∧ c.maxLocals = nL ∧ s.vm.findClass own = some m.cls ∧ (∀ w ∈ zz_big, w.before args s = true) ∧ meth.locks = false ∧ zz_en s
abbrev zz_Qi (D : va_G) (tys : List (ClassId × FieldType)) (A : Nat → Prop) (F : Int32) (ws : va_W) : Array Value → State → Outcome → State → Prop := va_Qi (fun r (_ : Unit) => r = F) (fun _ => zz_B D tys A ws) A
abbrev zz_Ql (D : va_G) (tys : List (ClassId × FieldType)) (A : Nat → Prop) (F : Int64) (ws : va_W) : Array Value → State → Outcome → State → Prop := va_Ql (fun r (_ : Unit) => r = F) (fun _ => zz_B D tys A ws) A
abbrev zz_Qv (D : va_G) (tys : List (ClassId × FieldType)) (A : Nat → Prop) (ws : va_W) : Array Value → State → Outcome → State → Prop := va_Qv (fun (_ : Unit) => True) (fun _ => zz_B D tys A ws) A
/-- a contract out of its walk -/
theorem zz_ofW {l : Launch} {y : MethodName} {b : ByteArray} {n : Nat} {r : Option FieldType} {rm : Room} {av : List Value} {D : va_G} {tys : List (ClassId × FieldType)} {sz : Nat} {ws : va_W} {mc ms : Nat} {Q : (Nat → Prop) → Array Value → State → Outcome → State → Prop}
    (hy : plainName y.cls = true) (hn : (lg_sl av).length ≤ n)
    (body : ∀ (p : Program) (e : Env) (s : State) (m : MethodId) (below : List Frame) (meth : Method) (c : Code) (A : Nat → Prop), zz_C p s m av.toArray meth c b n r y.cls → (y.name = "<init>" → meth.name = "<init>") → (∀ q : Nat, s.heap.size ≤ q → A q) → va_K D zz_cl tys s → va_P D zz_cl ws s.heap → va_D A ws → (∀ q : Nat, q < s.heap.size → A q → ∃ (k : Nat) (x : va_E), ws[k]? = some (q, x)) → ∀ ls : Array Slot, lv_has ls n (lv_args 0 av) →
      W p l e rm s m av.toArray below meth c s.heap [] 0 0 (MQ below (Q A) av.toArray s mc ms A) (F0 m 0 ls [])) :
    Met l y (zz_ws y b n r) rm (va_Pc av (zz_P D tys sz ws)) (Q (va_A ws sz)) mc ms (va_A ws sz) := by
  refine Met.ofW (cc := b) (maxL := n) (ret := r) hy rfl ?_
  intro p e s m args below meth c s₁ B hml hv
  obtain ⟨rfl, hsz, hP, hK, hD0, hE⟩ := hv
  have hts := atoms_spec (ws := zz_ws y b n r) B.pre
  have hown : s.vm.findClass y.cls = some m.cls := findClass_of_methodNamed B.named
  subst hsz
  have hD := hD0.self (sz := s.heap.size)
  have hl := lv_entry av (n := n) hn
  rw [lg_entry_eq]
  exact body p e s m below meth c (va_A ws s.heap.size) ⟨B.exec, B.bytes, B.returns, hml, hown, fun w h => hts w (List.mem_cons_of_mem _ h), B.notSynchronized, hE⟩ (fun hi => by rw [← hi]; exact (name_of_methodNamed B.named B.method).1) (fun q h => Or.inr h) hK hP hD (fun q h1 h2 => by
    rcases h2 with ⟨k, x, h⟩ | h
    · exact ⟨k, x, h⟩
    · omega) _ hl
def zz_pick (ws : va_W) (is : List Nat) : va_W := is.filterMap (fun i => ws[i]?)
section ZR
variable {p : Program} {l : Launch} {e : Env} {R : Room} {s : State} {m : MethodId} {args : Array Value} {below : List Frame} {meth : Method} {c : Code} {H : Heap} {locs : List Loc} {cells slots : Nat} {Q : State → Prop}
variable {cc : ByteArray} {pc : Nat} {ls : Array Slot} {rest st0 : List Value} {A : Nat → Prop} {D : va_G} {tys : List (ClassId × FieldType)} {ws wc wc' : va_W}
/-! returns -/
theorem zz_iret {v F : Int32} (hx : p.tables.exec = Jvm.exec) (hb : c.code = cc) (hr : meth.sig.returnType = some .int) (hlocks : meth.locks = false) (hK : va_K D zz_cl tys s) (hP : va_P D zz_cl ws H) (hD : va_D A ws) (hS : va_S A s.heap H locs) (hdg : decode cc pc = .ok (.ireturn, 1)) (hF : v = F) : W p l e R s m args below meth c H locs cells slots (MQ below (zz_Qi D tys A F ws) args s cells slots A) (F0 m pc ls [.int v]) :=
  W.iret (v := v) hx hb hr (fun t ht hW => ⟨⟨v, (), rfl, hF, by rw [ht]; exact hP, va_K.moved hW.alike hK, hD⟩, hS.F ht⟩) hS.2.2 hdg hlocks
theorem zz_zret {v F : Int32} {ty : FieldType} (hx : p.tables.exec = Jvm.exec) (hb : c.code = cc) (hr : meth.sig.returnType = some ty) (hlocks : meth.locks = false) (hn : narrow ty (.int v) = .int v) (hK : va_K D zz_cl tys s) (hP : va_P D zz_cl ws H) (hD : va_D A ws) (hS : va_S A s.heap H locs) (hdg : decode cc pc = .ok (.ireturn, 1)) (hF : v = F) : W p l e R s m args below meth c H locs cells slots (MQ below (zz_Qi D tys A F ws) args s cells slots A) (F0 m pc ls [.int v]) :=
  W.zret (v := v) hx hb hr hn (fun t ht hW => ⟨⟨v, (), rfl, hF, by rw [ht]; exact hP, va_K.moved hW.alike hK, hD⟩, hS.F ht⟩) hS.2.2 hdg hlocks
theorem zz_lret {v F : Int64} (hx : p.tables.exec = Jvm.exec) (hb : c.code = cc) (hr : meth.sig.returnType = some .long) (hlocks : meth.locks = false) (hK : va_K D zz_cl tys s) (hP : va_P D zz_cl ws H) (hD : va_D A ws) (hS : va_S A s.heap H locs) (hdg : decode cc pc = .ok (.lreturn, 1)) (hF : v = F) : W p l e R s m args below meth c H locs cells slots (MQ below (zz_Ql D tys A F ws) args s cells slots A) (F0 m pc ls [.long v]) :=
  W.lret (v := v) hx hb hr (fun t ht hW => ⟨⟨v, (), rfl, hF, by rw [ht]; exact hP, va_K.moved hW.alike hK, hD⟩, hS.F ht⟩) hS.2.2 hdg hlocks
theorem zz_vret (hx : p.tables.exec = Jvm.exec) (hb : c.code = cc) (hr : meth.sig.returnType = none) (hlocks : meth.locks = false) (hK : va_K D zz_cl tys s) (hP : va_P D zz_cl ws H) (hD : va_D A ws) (hS : va_S A s.heap H locs) (hdg : decode cc pc = .ok (.return_, 1)) : W p l e R s m args below meth c H locs cells slots (MQ below (zz_Qv D tys A ws) args s cells slots A) (F0 m pc ls []) :=
  W.vret hx hb hr (fun t ht hW => ⟨⟨(), rfl, trivial, by rw [ht]; exact hP, va_K.moved hW.alike hK, hD⟩, hS.F ht⟩) hS.2.2 hdg hlocks
/-! behind a call: the callee's cells as it left them, the others as they were, all in the caller's order -/
theorem zz_back {wr wn : va_W} {H1 : Heap} (hP : va_P D zz_cl ws H) (hD : va_D A ws) (hF : ∀ q, va_A wc H.size q → A q) (isC isR isP : List Nat) (hC : isC.map (fun i => ws[i]?) = wc.map some) (hR : isR.map (fun i => ws[i]?) = wr.map some) (hn : va_nd isR = true) (hdis : ∀ i ∈ isR, i ∉ isC) (hnP : va_nd isP = true) (hN : isP.map (fun i => (wr ++ wc')[i]?) = wn.map some)
    (hk : ∀ q : Nat, q < H.size → ¬ va_A wc H.size q → H1[q]? = H[q]?) (hP1 : va_P D zz_cl wc' H1) (hD1 : va_D (va_A wc H.size) wc') : va_P D zz_cl wn H1 ∧ va_D A wn := by
  obtain ⟨hP2, hD2⟩ := va_join (wr := wr) (w1 := wc') hP hD isC isR hC hR hn hdis hk hF hP1 hD1
  exact ⟨hP2.sub isP (by
    have e := congrArg (fun l : List (Option (Nat × va_E)) => l.filterMap id) hN
    simpa [List.filterMap_map, Function.comp_def] using e), hD2.sub isP hnP hN⟩
theorem zz_ci {mc ms : Nat} {F : Int32} {a : Array Value} (hr : va_Run p l e R s m args below meth c H locs cells slots mc ms (F0 m pc ls st0) rest (zz_Qi D tys (va_A wc H.size) F wc' a) (va_A wc H.size)) (hP : va_P D zz_cl ws H) (hD : va_D A ws) (hS : va_S A s.heap H locs) (hA : ∀ q, s.heap.size ≤ q → A q) (isC isR isP : List Nat) (hC : isC.map (fun i => ws[i]?) = wc.map some) (hR : isR.map (fun i => ws[i]?) = (zz_pick ws isR).map some) (hn : va_nd isR = true) (hdis : ∀ i ∈ isR, i ∉ isC) (hnP : va_nd isP = true) (hN : isP.map (fun i => (zz_pick ws isR ++ wc')[i]?) = (zz_pick (zz_pick ws isR ++ wc') isP).map some)
    (kk : ∀ (H1 : Heap) (locs1 : List Loc), va_P D zz_cl (zz_pick (zz_pick ws isR ++ wc') isP) H1 → va_D A (zz_pick (zz_pick ws isR ++ wc') isP) → va_S A s.heap H1 locs1 → W p l e R s m args below meth c H1 locs1 (cells + mc) (slots + ms) Q (F0 m (pc + 3) ls (.int F :: rest))) : W p l e R s m args below meth c H locs cells slots Q (F0 m pc ls st0) := by
  have hF := va_free (wc := wc) hD hS hA isC hC
  refine va_calli hr hS (fun q _ h => hF q h) hF (fun r u t H1 locs1 ht hvm hw hB hz1 hk1 hS1 => ?_)
  obtain ⟨hP1, hK1, hD1⟩ := hB
  rw [ht] at hP1
  obtain ⟨hP2, hD2⟩ := zz_back hP hD hF isC isR isP hC hR hn hdis hnP hN hk1 hP1 hD1
  subst hw
  exact kk H1 locs1 hP2 hD2 hS1
theorem zz_cl_ {mc ms : Nat} {F : Int64} {a : Array Value} (hr : va_Run p l e R s m args below meth c H locs cells slots mc ms (F0 m pc ls st0) rest (zz_Ql D tys (va_A wc H.size) F wc' a) (va_A wc H.size)) (hP : va_P D zz_cl ws H) (hD : va_D A ws) (hS : va_S A s.heap H locs) (hA : ∀ q, s.heap.size ≤ q → A q) (isC isR isP : List Nat) (hC : isC.map (fun i => ws[i]?) = wc.map some) (hR : isR.map (fun i => ws[i]?) = (zz_pick ws isR).map some) (hn : va_nd isR = true) (hdis : ∀ i ∈ isR, i ∉ isC) (hnP : va_nd isP = true) (hN : isP.map (fun i => (zz_pick ws isR ++ wc')[i]?) = (zz_pick (zz_pick ws isR ++ wc') isP).map some)
    (kk : ∀ (H1 : Heap) (locs1 : List Loc), va_P D zz_cl (zz_pick (zz_pick ws isR ++ wc') isP) H1 → va_D A (zz_pick (zz_pick ws isR ++ wc') isP) → va_S A s.heap H1 locs1 → W p l e R s m args below meth c H1 locs1 (cells + mc) (slots + ms) Q (F0 m (pc + 3) ls (.long F :: rest))) : W p l e R s m args below meth c H locs cells slots Q (F0 m pc ls st0) := by
  have hF := va_free (wc := wc) hD hS hA isC hC
  refine va_calll hr hS (fun q _ h => hF q h) hF (fun r u t H1 locs1 ht hvm hw hB hz1 hk1 hS1 => ?_)
  obtain ⟨hP1, hK1, hD1⟩ := hB
  rw [ht] at hP1
  obtain ⟨hP2, hD2⟩ := zz_back hP hD hF isC isR isP hC hR hn hdis hnP hN hk1 hP1 hD1
  subst hw
  exact kk H1 locs1 hP2 hD2 hS1
theorem zz_cv {mc ms : Nat} {a : Array Value} (hr : va_Run p l e R s m args below meth c H locs cells slots mc ms (F0 m pc ls st0) rest (zz_Qv D tys (va_A wc H.size) wc' a) (va_A wc H.size)) (hP : va_P D zz_cl ws H) (hD : va_D A ws) (hS : va_S A s.heap H locs) (hA : ∀ q, s.heap.size ≤ q → A q) (isC isR isP : List Nat) (hC : isC.map (fun i => ws[i]?) = wc.map some) (hR : isR.map (fun i => ws[i]?) = (zz_pick ws isR).map some) (hn : va_nd isR = true) (hdis : ∀ i ∈ isR, i ∉ isC) (hnP : va_nd isP = true) (hN : isP.map (fun i => (zz_pick ws isR ++ wc')[i]?) = (zz_pick (zz_pick ws isR ++ wc') isP).map some)
    (kk : ∀ (H1 : Heap) (locs1 : List Loc), va_P D zz_cl (zz_pick (zz_pick ws isR ++ wc') isP) H1 → va_D A (zz_pick (zz_pick ws isR ++ wc') isP) → va_S A s.heap H1 locs1 → W p l e R s m args below meth c H1 locs1 (cells + mc) (slots + ms) Q (F0 m (pc + 3) ls rest)) : W p l e R s m args below meth c H locs cells slots Q (F0 m pc ls st0) := by
  have hF := va_free (wc := wc) hD hS hA isC hC
  refine va_callv hr hS (fun q _ h => hF q h) hF (fun u t H1 locs1 ht hvm hw hB hz1 hk1 hS1 => ?_)
  obtain ⟨hP1, hK1, hD1⟩ := hB
  rw [ht] at hP1
  obtain ⟨hP2, hD2⟩ := zz_back hP hD hF isC isR isP hC hR hn hdis hnP hN hk1 hP1 hD1
  exact kk H1 locs1 hP2 hD2 hS1
/-! arrays by a number's place -/
theorem zz_iald (hx : p.tables.exec = Jvm.exec) (hb : c.code = cc) (hK : va_K D zz_cl tys s) (hP : va_P D zz_cl ws H) (q0 t0 : Nat) {a : Nat} {cA : ClassId} {n : Nat} {f : Nat → Int32} (ha : ws[q0]? = some (a, .inl (cA, n, .inl f))) (ht : tys[t0]? = some (cA, .int)) {k : Nat} (hk : k < n) (hn : n < 2 ^ 31) (hdg : decode cc pc = .ok (.iaload, 1))
    (kk : W p l e R s m args below meth c H locs cells slots Q (F0 m (pc + 1) ls (.int (f k) :: rest))) : W p l e R s m args below meth c H locs cells slots Q (F0 m pc ls (.int (nI k) :: .ref a :: rest)) := by
  refine va_iald hx hb hK hP q0 t0 ha ht (vp_in_nI hk hn) hdg ?_
  rw [nI_clamp (Nat.lt_trans hk hn)]
  exact kk
theorem zz_iast (hx : p.tables.exec = Jvm.exec) (hb : c.code = cc) (hK : va_K D zz_cl tys s) (hP : va_P D zz_cl ws H) (hD : va_D A ws) (hS : va_S A s.heap H locs) (q0 t0 : Nat) {a : Nat} {cA : ClassId} {n : Nat} {f : Nat → Int32} (ha : ws[q0]? = some (a, .inl (cA, n, .inl f))) (ht : tys[t0]? = some (cA, .int)) {k : Nat} {x : Int32} (hk : k < n) (hn : n < 2 ^ 31) (hdg : decode cc pc = .ok (.iastore, 1))
    (kk : ∀ (H1 : Heap) (locs1 : List Loc), va_P D zz_cl (ws.set q0 (a, .inl (cA, n, .inl (upd f k x)))) H1 → va_D A (ws.set q0 (a, .inl (cA, n, .inl (upd f k x)))) → va_S A s.heap H1 locs1 → W p l e R s m args below meth c H1 locs1 cells slots Q (F0 m (pc + 1) ls rest)) : W p l e R s m args below meth c H locs cells slots Q (F0 m pc ls (.int x :: .int (nI k) :: .ref a :: rest)) := by
  refine va_iast hx hb hK hP hD hS q0 t0 ha ht (vp_in_nI hk hn) hdg ?_
  rw [nI_clamp (Nat.lt_trans hk hn)]
  exact kk
end ZR
/-! a loop's head: its counter against its end -/
theorem zz_geT {Y : Int32} {k b : Nat} (hY : Y = nI b) (h : b ≤ k) (hk : k < 2 ^ 31) : Y ≤ nI k := by rw [hY]; exact nI_le h hk
theorem zz_geF {Y : Int32} {k b : Nat} (hY : Y = nI b) (h : k < b) (hb : b < 2 ^ 31) : ¬ Y ≤ nI k := by rw [hY]; exact nI_ge h hb
theorem zz_gtT {Y : Int32} {k b : Nat} (hY : Y = nI b) (h : b < k) (hk : k < 2 ^ 31) : Y < nI k := by rw [hY]; exact nI_lt h hk
theorem zz_gtF {Y : Int32} {k b : Nat} (hY : Y = nI b) (h : k ≤ b) (hb : b < 2 ^ 31) : ¬ Y < nI k := by rw [hY]; exact nI_nlt h hb
/-! METHODS THAT CHANGE NOTHING: their end says that the heap is the same; a call of one leaves all as it was -/
def zz_Ki (F : Int32) : Array Value → State → Outcome → State → Prop := fun _ st oc t => oc = .returned (some (.int F)) ∧ t.heap = st.heap
def zz_Kl (F : Int64) : Array Value → State → Outcome → State → Prop := fun _ st oc t => oc = .returned (some (.long F)) ∧ t.heap = st.heap
theorem zz_ofK {l : Launch} {y : MethodName} {b : ByteArray} {n : Nat} {r : Option FieldType} {rm : Room} {av : List Value} {D : va_G} {tys : List (ClassId × FieldType)} {sz : Nat} {ws : va_W} {Q : Array Value → State → Outcome → State → Prop}
    (hy : plainName y.cls = true) (hn : (lg_sl av).length ≤ n)
    (body : ∀ (p : Program) (e : Env) (s : State) (m : MethodId) (below : List Frame) (meth : Method) (c : Code), zz_C p s m av.toArray meth c b n r y.cls → va_K D zz_cl tys s → va_P D zz_cl ws s.heap → va_D (fun _ => True) ws → ∀ ls : Array Slot, lv_has ls n (lv_args 0 av) →
      W p l e rm s m av.toArray below meth c s.heap [] 0 0 (MQ below Q av.toArray s 0 0 (fun _ => False)) (F0 m 0 ls [])) :
    Met l y (zz_ws y b n r) rm (va_Pc av (zz_P D tys sz ws)) Q 0 0 (fun _ => False) := by
  refine Met.ofW (cc := b) (maxL := n) (ret := r) hy rfl ?_
  intro p e s m args below meth c s₁ B hml hv
  obtain ⟨rfl, hsz, hP, hK, hD0, hE⟩ := hv
  have hts := atoms_spec (ws := zz_ws y b n r) B.pre
  have hown : s.vm.findClass y.cls = some m.cls := findClass_of_methodNamed B.named
  have hl := lv_entry av (n := n) hn
  rw [lg_entry_eq]
  exact body p e s m below meth c ⟨B.exec, B.bytes, B.returns, hml, hown, fun w h => hts w (List.mem_cons_of_mem _ h), B.notSynchronized, hE⟩ hK hP hD0 _ hl
section ZK
variable {p : Program} {l : Launch} {e : Env} {R : Room} {s : State} {m : MethodId} {args : Array Value} {below : List Frame} {meth : Method} {c : Code} {H : Heap} {locs : List Loc} {cells slots : Nat} {Q : State → Prop}
variable {cc : ByteArray} {pc : Nat} {ls : Array Slot} {rest st0 : List Value} {A : Nat → Prop} {D : va_G} {tys : List (ClassId × FieldType)} {ws : va_W}
theorem zz_nof {L : List Loc} (h : ∀ q ∈ L, (fun _ : Addr => False) q.base) : L = [] := by
  cases L with
  | nil => rfl
  | cons a b => exact absurd (h a List.mem_cons_self) id
theorem zz_ki {F : Int32} {a : Array Value} (hr : va_Run p l e R s m args below meth c H locs cells slots 0 0 (F0 m pc ls st0) rest (zz_Ki F a) (fun _ => False)) (kk : W p l e R s m args below meth c H locs cells slots Q (F0 m (pc + 3) ls (.int F :: rest))) : W p l e R s m args below meth c H locs cells slots Q (F0 m pc ls st0) := by
  intro T hT X
  obtain ⟨v, st₀, t, T', L, h1, X', hL, h2, h3, ⟨hq, hh⟩, go⟩ := hr T hT X
  cases zz_nof hL
  rw [List.append_nil] at X'
  cases hq
  obtain ⟨t', a1, b1⟩ := kk T' (by rw [h2, hh, h1]) X'
  exact ⟨t', go _ a1, b1⟩
theorem zz_kl {F : Int64} {a : Array Value} (hr : va_Run p l e R s m args below meth c H locs cells slots 0 0 (F0 m pc ls st0) rest (zz_Kl F a) (fun _ => False)) (kk : W p l e R s m args below meth c H locs cells slots Q (F0 m (pc + 3) ls (.long F :: rest))) : W p l e R s m args below meth c H locs cells slots Q (F0 m pc ls st0) := by
  intro T hT X
  obtain ⟨v, st₀, t, T', L, h1, X', hL, h2, h3, ⟨hq, hh⟩, go⟩ := hr T hT X
  cases zz_nof hL
  rw [List.append_nil] at X'
  cases hq
  obtain ⟨t', a1, b1⟩ := kk T' (by rw [h2, hh, h1]) X'
  exact ⟨t', go _ a1, b1⟩
theorem zz_kiret {v F : Int32} (hx : p.tables.exec = Jvm.exec) (hb : c.code = cc) (hr : meth.sig.returnType = some .int) (hlocks : meth.locks = false) (hdg : decode cc pc = .ok (.ireturn, 1)) (hF : v = F) : W p l e R s m args below meth c s.heap [] 0 0 (MQ below (zz_Ki F) args s 0 0 (fun _ => False)) (F0 m pc ls [.int v]) :=
  W.iret (v := v) hx hb hr (fun t ht _ => ⟨by rw [hF], ht⟩) (fun _ h => by cases h) hdg hlocks
theorem zz_kzret {v F : Int32} {ty : FieldType} (hx : p.tables.exec = Jvm.exec) (hb : c.code = cc) (hr : meth.sig.returnType = some ty) (hlocks : meth.locks = false) (hn : narrow ty (.int v) = .int v) (hdg : decode cc pc = .ok (.ireturn, 1)) (hF : v = F) : W p l e R s m args below meth c s.heap [] 0 0 (MQ below (zz_Ki F) args s 0 0 (fun _ => False)) (F0 m pc ls [.int v]) :=
  W.zret (v := v) hx hb hr hn (fun t ht _ => ⟨by rw [hF], ht⟩) (fun _ h => by cases h) hdg hlocks
theorem zz_klret {v F : Int64} (hx : p.tables.exec = Jvm.exec) (hb : c.code = cc) (hr : meth.sig.returnType = some .long) (hlocks : meth.locks = false) (hdg : decode cc pc = .ok (.lreturn, 1)) (hF : v = F) : W p l e R s m args below meth c s.heap [] 0 0 (MQ below (zz_Kl F) args s 0 0 (fun _ => False)) (F0 m pc ls [.long v]) :=
  W.lret (v := v) hx hb hr (fun t ht _ => ⟨by rw [hF], ht⟩) (fun _ h => by cases h) hdg hlocks
end ZK
/-! MAKING: arrays of a known class, constructors with new cells -/
section ZN
variable {p : Program} {l : Launch} {e : Env} {R : Room} {s : State} {m : MethodId} {args : Array Value} {below : List Frame} {meth : Method} {c : Code} {H : Heap} {locs : List Loc} {cells slots : Nat} {Q : State → Prop}
variable {cc : ByteArray} {pc : Nat} {ls : Array Slot} {rest st0 : List Value} {A : Nat → Prop} {D : va_G} {tys : List (ClassId × FieldType)} {ws wc : va_W}
theorem zz_newa (hx : p.tables.exec = Jvm.exec) (hb : c.code = cc) {atype : ArrayType} (harr : (Cond.arrayClass (newarray.typeOf atype)).before args s = true) {ty : FieldType} (hty : newarray.typeOf atype = ty) (t0 : Nat) {cA : ClassId} (ht : tys[t0]? = some (cA, ty)) (hu : ∀ c1 c2 : ClassId, va_RA s c1 ty → va_RA s c2 ty → c1 = c2)
    (hK : va_K D zz_cl tys s) (hP : va_P D zz_cl ws H) (hD : va_D A ws) (hS : va_S A s.heap H locs) (hA : ∀ q, s.heap.size ≤ q → A q)
    {n : Int32} {N' : Nat} {a0 : vp_A} (ha : ∀ cA : ClassId, vp_cell cA a0 = arrV cA N' (fun _ => defaultValue ty)) (hn : ¬ n < 0) (hN : n.toNatClampNeg = N') (hbytes : N' * componentBytes ty ≤ 536870912) (hcells : cells + 1 ≤ R.cells) (hslots : slots + N' ≤ R.slots) (hdg : decode cc pc = .ok (.newarray atype, 2))
    (kk : ∀ (q : Nat) (H1 : Heap), va_P D zz_cl (ws ++ [(q, .inl (cA, a0))]) H1 → va_D A (ws ++ [(q, .inl (cA, a0))]) → va_S A s.heap H1 locs →
      W p l e R s m args below meth c H1 locs (cells + 1) (slots + N') Q (F0 m (pc + 2) ls (.ref q :: rest))) : W p l e R s m args below meth c H locs cells slots Q (F0 m pc ls (.int n :: rest)) := by
  refine va_newa hx hb harr hty hK hP hD hS hA ha hn hN hbytes hcells hslots hdg (fun q cA' H1 hK' hP' hD' hS' => ?_)
  have h1 := (hK'.2 tys.length (cA', ty) (by simp)).2
  have h2 := (hK.2 t0 (cA, ty) ht).2
  cases hu _ _ h1 h2
  exact kk q H1 hP' hD' hS'
theorem zz_cu {U : Type} {B : U → va_W} {mc ms : Nat} {a : Array Value} (hr : va_Run p l e R s m args below meth c H locs cells slots mc ms (F0 m pc ls st0) rest (va_Qv (fun (_ : U) => True) (fun u => zz_B D tys (va_A wc H.size) (B u)) (va_A wc H.size) a) (va_A wc H.size)) (hP : va_P D zz_cl ws H) (hD : va_D A ws) (hS : va_S A s.heap H locs) (hA : ∀ q, s.heap.size ≤ q → A q) (isC isR : List Nat) (hC : isC.map (fun i => ws[i]?) = wc.map some) (hR : isR.map (fun i => ws[i]?) = (zz_pick ws isR).map some) (hn : va_nd isR = true) (hdis : ∀ i ∈ isR, i ∉ isC)
    (kk : ∀ (u : U) (H1 : Heap) (locs1 : List Loc), va_P D zz_cl (zz_pick ws isR ++ B u) H1 → va_D A (zz_pick ws isR ++ B u) → va_S A s.heap H1 locs1 → W p l e R s m args below meth c H1 locs1 (cells + mc) (slots + ms) Q (F0 m (pc + 3) ls rest)) : W p l e R s m args below meth c H locs cells slots Q (F0 m pc ls st0) := by
  have hF := va_free (wc := wc) hD hS hA isC hC
  refine va_callv hr hS (fun q _ h => hF q h) hF (fun u t H1 locs1 ht hvm hw hB hz1 hk1 hS1 => ?_)
  obtain ⟨hP1, hK1, hD1⟩ := hB
  rw [ht] at hP1
  obtain ⟨hP2, hD2⟩ := va_join (wr := zz_pick ws isR) (w1 := B u) hP hD isC isR hC hR hn hdis hk1 hF hP1 hD1
  exact kk u H1 locs1 hP2 hD2 hS1
theorem zz_uret {U : Type} {B : U → va_W} (u : U) (hx : p.tables.exec = Jvm.exec) (hb : c.code = cc) (hr : meth.sig.returnType = none) (hlocks : meth.locks = false) (hK : va_K D zz_cl tys s) (hP : va_P D zz_cl (B u) H) (hD : va_D A (B u)) (hS : va_S A s.heap H locs) (hdg : decode cc pc = .ok (.return_, 1)) : W p l e R s m args below meth c H locs cells slots (MQ below (va_Qv (fun (_ : U) => True) (fun u => zz_B D tys A (B u)) A) args s cells slots A) (F0 m pc ls []) :=
  W.vret hx hb hr (fun t ht hW => ⟨⟨u, rfl, trivial, by rw [ht]; exact hP, va_K.moved hW.alike hK, hD⟩, hS.F ht⟩) hS.2.2 hdg hlocks
end ZN
end
section
set_option maxRecDepth 100000 in
theorem zk_51b6b441 : (Jvm.Cond.constantLong "DeclareForms" (197 : Nat) (1000000000 : Int64)) ∈ zz_big := zz_in 213 rfl rfl
set_option maxRecDepth 100000 in
theorem zk_7540bdb8 : (Jvm.Cond.code ({ cls := "DeclareForms", name := "lineOf", desc := "(I)I" } : Jvm.MethodName) prog_1_method_22_code (1 : Nat) (Option.some Jvm.ClassFile.FieldType.int)) ∈ zz_big := zz_in 237 rfl rfl
set_option maxRecDepth 100000 in
theorem zk_fcb9702c : (Jvm.Cond.methodLink "DeclareForms" (199 : Nat) ({ cls := "DeclareForms", name := "lineOf", desc := "(I)I" } : Jvm.MethodName)) ∈ zz_big := zz_in 248 rfl rfl
set_option maxRecDepth 100000 in
theorem zk_bd1d2622 : (Jvm.Cond.static ({ cls := "DeclareForms", name := "lineOf", desc := "(I)I" } : Jvm.MethodName)) ∈ zz_big := zz_in 236 rfl rfl
set_option maxRecDepth 100000 in
theorem zk_cfe38e2e : (Jvm.Cond.initialized "DeclareForms") ∈ zz_big := zz_in 26 rfl rfl
set_option maxRecDepth 100000 in
theorem zk_1944e685 : (Jvm.Cond.code ({ cls := "DeclareForms", name := "fieldOf", desc := "(I)I" } : Jvm.MethodName) prog_1_method_23_code (1 : Nat) (Option.some Jvm.ClassFile.FieldType.int)) ∈ zz_big := zz_in 240 rfl rfl
set_option maxRecDepth 100000 in
theorem zk_a091db21 : (Jvm.Cond.methodLink "DeclareForms" (202 : Nat) ({ cls := "DeclareForms", name := "fieldOf", desc := "(I)I" } : Jvm.MethodName)) ∈ zz_big := zz_in 249 rfl rfl
set_option maxRecDepth 100000 in
theorem zk_82f2c4f0 : (Jvm.Cond.static ({ cls := "DeclareForms", name := "fieldOf", desc := "(I)I" } : Jvm.MethodName)) ∈ zz_big := zz_in 239 rfl rfl
set_option maxRecDepth 100000 in
theorem zk_a32d7426 : (Jvm.Cond.fieldLink "DeclareForms$Sheet" (25 : Nat) "DeclareForms$Sheet" "made" "I") ∈ zz_big := zz_in 65 rfl rfl
set_option maxRecDepth 100000 in
theorem zk_641e4f57 : (Jvm.Cond.fieldLink "DeclareForms$Sheet" (15 : Nat) "DeclareForms$Sheet" "open" "[Z") ∈ zz_big := zz_in 64 rfl rfl
set_option maxRecDepth 100000 in
theorem zk_69f5fb79 : (Jvm.Cond.fieldLink "DeclareForms$Sheet" (29 : Nat) "DeclareForms$Sheet" "opened" "I") ∈ zz_big := zz_in 66 rfl rfl
set_option maxRecDepth 100000 in
theorem zk_93636338 : (Jvm.Cond.fieldLink "DeclareForms$Sheet" (32 : Nat) "DeclareForms$Sheet" "filled" "I") ∈ zz_big := zz_in 67 rfl rfl
set_option maxRecDepth 100000 in
theorem zk_bb1301ba : (Jvm.Cond.code ({ cls := "DeclareForms$Sheet", name := "isFull", desc := "()Z" } : Jvm.MethodName) prog_5_method_2_code (1 : Nat) (Option.some Jvm.ClassFile.FieldType.boolean)) ∈ zz_big := zz_in 379 rfl rfl
set_option maxRecDepth 100000 in
theorem zk_0b4b3340 : (Jvm.Cond.methodLink "DeclareForms$Sheet" (35 : Nat) ({ cls := "DeclareForms$Sheet", name := "isFull", desc := "()Z" } : Jvm.MethodName)) ∈ zz_big := zz_in 452 rfl rfl
set_option maxRecDepth 100000 in
theorem zk_5ea10dbf : (Jvm.Cond.instanceMethod ({ cls := "DeclareForms$Sheet", name := "isFull", desc := "()Z" } : Jvm.MethodName)) ∈ zz_big := zz_in 377 rfl rfl
set_option maxRecDepth 100000 in
theorem zk_5f4fa963 : (Jvm.Cond.selects "DeclareForms$Sheet" ({ cls := "DeclareForms$Sheet", name := "isFull", desc := "()Z" } : Jvm.MethodName) ({ cls := "DeclareForms$Sheet", name := "isFull", desc := "()Z" } : Jvm.MethodName)) ∈ zz_big := zz_in 378 rfl rfl
set_option maxRecDepth 100000 in
theorem zk_f1a23aa7 : (Jvm.Cond.initialized "DeclareForms$Sheet") ∈ zz_big := zz_in 28 rfl rfl
set_option maxRecDepth 100000 in
theorem zk_33cddec9 : (Jvm.Cond.code ({ cls := "DeclareForms$Sheet", name := "hasLine", desc := "(I)Z" } : Jvm.MethodName) prog_5_method_3_code (2 : Nat) (Option.some Jvm.ClassFile.FieldType.boolean)) ∈ zz_big := zz_in 179 rfl rfl
set_option maxRecDepth 100000 in
theorem zk_935946c6 : (Jvm.Cond.methodLink "DeclareForms$Sheet" (39 : Nat) ({ cls := "DeclareForms$Sheet", name := "hasLine", desc := "(I)Z" } : Jvm.MethodName)) ∈ zz_big := zz_in 188 rfl rfl
set_option maxRecDepth 100000 in
theorem zk_3871fc92 : (Jvm.Cond.instanceMethod ({ cls := "DeclareForms$Sheet", name := "hasLine", desc := "(I)Z" } : Jvm.MethodName)) ∈ zz_big := zz_in 177 rfl rfl
set_option maxRecDepth 100000 in
theorem zk_c72ec03e : (Jvm.Cond.selects "DeclareForms$Sheet" ({ cls := "DeclareForms$Sheet", name := "hasLine", desc := "(I)Z" } : Jvm.MethodName) ({ cls := "DeclareForms$Sheet", name := "hasLine", desc := "(I)Z" } : Jvm.MethodName)) ∈ zz_big := zz_in 178 rfl rfl
set_option maxRecDepth 100000 in
theorem zk_58041e5d : (Jvm.Cond.fieldLink "DeclareForms$Sheet" (9 : Nat) "DeclareForms$Sheet" "values" "[I") ∈ zz_big := zz_in 63 rfl rfl
set_option maxRecDepth 100000 in
theorem zk_29ef983f : (Jvm.Cond.code ({ cls := "DeclareForms$Sheet", name := "put", desc := "(II)V" } : Jvm.MethodName) prog_5_method_10_code (3 : Nat) (Option.none : Option Jvm.ClassFile.FieldType)) ∈ zz_big := zz_in 192 rfl rfl
set_option maxRecDepth 100000 in
theorem zk_46e13ae2 : (Jvm.Cond.methodLink "DeclareForms$Sheet" (43 : Nat) ({ cls := "DeclareForms$Sheet", name := "put", desc := "(II)V" } : Jvm.MethodName)) ∈ zz_big := zz_in 189 rfl rfl
set_option maxRecDepth 100000 in
theorem zk_7151ae50 : (Jvm.Cond.instanceMethod ({ cls := "DeclareForms$Sheet", name := "put", desc := "(II)V" } : Jvm.MethodName)) ∈ zz_big := zz_in 190 rfl rfl
set_option maxRecDepth 100000 in
theorem zk_2e2e7b1b : (Jvm.Cond.selects "DeclareForms$Sheet" ({ cls := "DeclareForms$Sheet", name := "put", desc := "(II)V" } : Jvm.MethodName) ({ cls := "DeclareForms$Sheet", name := "put", desc := "(II)V" } : Jvm.MethodName)) ∈ zz_big := zz_in 191 rfl rfl
set_option maxRecDepth 100000 in
theorem zk_dd814726 : (Jvm.Cond.code ({ cls := "DeclareForms", name := "needBy", desc := "(II)I" } : Jvm.MethodName) prog_1_method_21_code (2 : Nat) (Option.some Jvm.ClassFile.FieldType.int)) ∈ zz_big := zz_in 243 rfl rfl
set_option maxRecDepth 100000 in
theorem zk_e14187d6 : (Jvm.Cond.static ({ cls := "DeclareForms", name := "needBy", desc := "(II)I" } : Jvm.MethodName)) ∈ zz_big := zz_in 242 rfl rfl
set_option maxRecDepth 100000 in
theorem zk_e4817253 : (Jvm.Cond.code ({ cls := "DeclareForms$Sheet", name := "slotOf", desc := "(II)I" } : Jvm.MethodName) prog_5_method_8_code (3 : Nat) (Option.some Jvm.ClassFile.FieldType.int)) ∈ zz_big := zz_in 200 rfl rfl
set_option maxRecDepth 100000 in
theorem zk_c343ab2c : (Jvm.Cond.methodLink "DeclareForms$Sheet" (58 : Nat) ({ cls := "DeclareForms$Sheet", name := "slotOf", desc := "(II)I" } : Jvm.MethodName)) ∈ zz_big := zz_in 254 rfl rfl
set_option maxRecDepth 100000 in
theorem zk_13757a2f : (Jvm.Cond.instanceMethod ({ cls := "DeclareForms$Sheet", name := "slotOf", desc := "(II)I" } : Jvm.MethodName)) ∈ zz_big := zz_in 198 rfl rfl
set_option maxRecDepth 100000 in
theorem zk_9f779419 : (Jvm.Cond.selects "DeclareForms$Sheet" ({ cls := "DeclareForms$Sheet", name := "slotOf", desc := "(II)I" } : Jvm.MethodName) ({ cls := "DeclareForms$Sheet", name := "slotOf", desc := "(II)I" } : Jvm.MethodName)) ∈ zz_big := zz_in 199 rfl rfl
set_option maxRecDepth 100000 in
theorem zk_fdbb5e96 : (Jvm.Cond.code ({ cls := "DeclareForms$Sheet", name := "valueAt", desc := "(I)I" } : Jvm.MethodName) prog_5_method_9_code (2 : Nat) (Option.some Jvm.ClassFile.FieldType.int)) ∈ zz_big := zz_in 204 rfl rfl
set_option maxRecDepth 100000 in
theorem zk_9b9c69cb : (Jvm.Cond.methodLink "DeclareForms$Sheet" (61 : Nat) ({ cls := "DeclareForms$Sheet", name := "valueAt", desc := "(I)I" } : Jvm.MethodName)) ∈ zz_big := zz_in 255 rfl rfl
set_option maxRecDepth 100000 in
theorem zk_1fa0ab90 : (Jvm.Cond.instanceMethod ({ cls := "DeclareForms$Sheet", name := "valueAt", desc := "(I)I" } : Jvm.MethodName)) ∈ zz_big := zz_in 202 rfl rfl
set_option maxRecDepth 100000 in
theorem zk_4c70df44 : (Jvm.Cond.selects "DeclareForms$Sheet" ({ cls := "DeclareForms$Sheet", name := "valueAt", desc := "(I)I" } : Jvm.MethodName) ({ cls := "DeclareForms$Sheet", name := "valueAt", desc := "(I)I" } : Jvm.MethodName)) ∈ zz_big := zz_in 203 rfl rfl
set_option maxRecDepth 100000 in
theorem zk_c90df990 : (Jvm.Cond.methodLink "DeclareForms$Sheet" (68 : Nat) ({ cls := "java/lang/Math", name := "max", desc := "(II)I" } : Jvm.MethodName)) ∈ zz_big := zz_in 260 rfl rfl
set_option maxRecDepth 100000 in
theorem zk_0bcac700 : (Jvm.Cond.static ({ cls := "java/lang/Math", name := "max", desc := "(II)I" } : Jvm.MethodName)) ∈ zz_big := zz_in 52 rfl rfl
set_option maxRecDepth 100000 in
theorem zk_7b6e1f6d : (Jvm.Cond.initialized "java/lang/Math") ∈ zz_big := zz_in 27 rfl rfl
set_option maxRecDepth 100000 in
theorem zk_c583aea8 : (Jvm.Cond.code ({ cls := "java/lang/Math", name := "max", desc := "(II)I" } : Jvm.MethodName) prog_12_method_65_code (2 : Nat) (Option.some Jvm.ClassFile.FieldType.int)) ∈ zz_big := zz_in 53 rfl rfl
set_option maxRecDepth 100000 in
theorem zk_efd9ded9 : (Jvm.Cond.code ({ cls := "DeclareForms$Sheet", name := "total", desc := "(I)J" } : Jvm.MethodName) prog_5_method_13_code (5 : Nat) (Option.some Jvm.ClassFile.FieldType.long)) ∈ zz_big := zz_in 259 rfl rfl
set_option maxRecDepth 100000 in
theorem zk_bdd994ac : (Jvm.Cond.methodLink "DeclareForms$Sheet" (64 : Nat) ({ cls := "DeclareForms$Sheet", name := "total", desc := "(I)J" } : Jvm.MethodName)) ∈ zz_big := zz_in 256 rfl rfl
set_option maxRecDepth 100000 in
theorem zk_b3219529 : (Jvm.Cond.instanceMethod ({ cls := "DeclareForms$Sheet", name := "total", desc := "(I)J" } : Jvm.MethodName)) ∈ zz_big := zz_in 257 rfl rfl
set_option maxRecDepth 100000 in
theorem zk_106e6e6c : (Jvm.Cond.selects "DeclareForms$Sheet" ({ cls := "DeclareForms$Sheet", name := "total", desc := "(I)J" } : Jvm.MethodName) ({ cls := "DeclareForms$Sheet", name := "total", desc := "(I)J" } : Jvm.MethodName)) ∈ zz_big := zz_in 258 rfl rfl
set_option maxRecDepth 100000 in
theorem zk_e0fac5f1 : (Jvm.Cond.fieldLink "DeclareForms$Codes" (22 : Nat) "DeclareForms$Codes" "held" "I") ∈ zz_big := zz_in 89 rfl rfl
set_option maxRecDepth 100000 in
theorem zk_a8e5cdbb : (Jvm.Cond.fieldLink "DeclareForms$Codes" (9 : Nat) "DeclareForms$Codes" "values" "[I") ∈ zz_big := zz_in 87 rfl rfl
set_option maxRecDepth 100000 in
theorem zk_09d76f48 : (Jvm.Cond.code ({ cls := "DeclareForms$Codes", name := "find", desc := "(I)I" } : Jvm.MethodName) prog_2_method_5_code (3 : Nat) (Option.some Jvm.ClassFile.FieldType.int)) ∈ zz_big := zz_in 222 rfl rfl
set_option maxRecDepth 100000 in
theorem zk_6aa25b7b : (Jvm.Cond.methodLink "DeclareForms$Codes" (18 : Nat) ({ cls := "DeclareForms$Codes", name := "find", desc := "(I)I" } : Jvm.MethodName)) ∈ zz_big := zz_in 219 rfl rfl
set_option maxRecDepth 100000 in
theorem zk_c68528a2 : (Jvm.Cond.instanceMethod ({ cls := "DeclareForms$Codes", name := "find", desc := "(I)I" } : Jvm.MethodName)) ∈ zz_big := zz_in 221 rfl rfl
set_option maxRecDepth 100000 in
theorem zk_cb222ee4 : Cond.selects "DeclareForms$Codes" ⟨"DeclareForms$Codes", "find", "(I)I"⟩ ⟨"DeclareForms$Codes", "find", "(I)I"⟩ ∈ zz_big := zz_in 0 rfl rfl
set_option maxRecDepth 100000 in
theorem zk_e143c677 : (Jvm.Cond.initialized "DeclareForms$Codes") ∈ zz_big := zz_in 30 rfl rfl
set_option maxRecDepth 100000 in
theorem zk_ca3ffb47 : (Jvm.Cond.fieldLink "DeclareForms$Codes" (15 : Nat) "DeclareForms$Codes" "lastDays" "[I") ∈ zz_big := zz_in 88 rfl rfl
set_option maxRecDepth 100000 in
theorem zk_3b4f7965 : (Jvm.Cond.fieldLink "DeclareForms$Papers" (21 : Nat) "DeclareForms$Papers" "held" "I") ∈ zz_big := zz_in 106 rfl rfl
set_option maxRecDepth 100000 in
theorem zk_9516c5fd : (Jvm.Cond.fieldLink "DeclareForms$Papers" (9 : Nat) "DeclareForms$Papers" "numbers" "[I") ∈ zz_big := zz_in 103 rfl rfl
set_option maxRecDepth 100000 in
theorem zk_94b92128 : (Jvm.Cond.code ({ cls := "DeclareForms$Papers", name := "find", desc := "(I)I" } : Jvm.MethodName) prog_3_method_4_code (3 : Nat) (Option.some Jvm.ClassFile.FieldType.int)) ∈ zz_big := zz_in 293 rfl rfl
set_option maxRecDepth 100000 in
theorem zk_ae2cc950 : (Jvm.Cond.methodLink "DeclareForms$Papers" (25 : Nat) ({ cls := "DeclareForms$Papers", name := "find", desc := "(I)I" } : Jvm.MethodName)) ∈ zz_big := zz_in 290 rfl rfl
set_option maxRecDepth 100000 in
theorem zk_260dcf75 : (Jvm.Cond.instanceMethod ({ cls := "DeclareForms$Papers", name := "find", desc := "(I)I" } : Jvm.MethodName)) ∈ zz_big := zz_in 291 rfl rfl
set_option maxRecDepth 100000 in
theorem zk_9eb9dfdc : (Jvm.Cond.selects "DeclareForms$Papers" ({ cls := "DeclareForms$Papers", name := "find", desc := "(I)I" } : Jvm.MethodName) ({ cls := "DeclareForms$Papers", name := "find", desc := "(I)I" } : Jvm.MethodName)) ∈ zz_big := zz_in 292 rfl rfl
set_option maxRecDepth 100000 in
theorem zk_f301a5bc : (Jvm.Cond.initialized "DeclareForms$Papers") ∈ zz_big := zz_in 31 rfl rfl
set_option maxRecDepth 100000 in
theorem zk_39cf8cfd : (Jvm.Cond.fieldLink "DeclareForms$Papers" (15 : Nat) "DeclareForms$Papers" "balances" "[I") ∈ zz_big := zz_in 104 rfl rfl
set_option maxRecDepth 100000 in
theorem zk_7cfd8f23 : (Jvm.Cond.fieldLink "DeclareForms$Papers" (18 : Nat) "DeclareForms$Papers" "drawn" "[I") ∈ zz_big := zz_in 105 rfl rfl
set_option maxRecDepth 100000 in
theorem zk_e7cbea07 : (Jvm.Cond.fieldLink "DeclareForms$Reader" (9 : Nat) "DeclareForms$Reader" "whole" "I") ∈ zz_big := zz_in 129 rfl rfl
set_option maxRecDepth 100000 in
theorem zk_8c4f15a9 : (Jvm.Cond.fieldLink "DeclareForms$Reader" (15 : Nat) "DeclareForms$Reader" "latest" "I") ∈ zz_big := zz_in 130 rfl rfl
set_option maxRecDepth 100000 in
theorem zk_04fa654a : (Jvm.Cond.fieldLink "DeclareForms$Reader" (49 : Nat) "DeclareForms$Reader" "rowKind" "I") ∈ zz_big := zz_in 123 rfl rfl
set_option maxRecDepth 100000 in
theorem zk_5d4512b9 : (Jvm.Cond.fieldLink "DeclareForms$Reader" (52 : Nat) "DeclareForms$Reader" "lastSlot" "I") ∈ zz_big := zz_in 127 rfl rfl
set_option maxRecDepth 100000 in
theorem zk_64a6c42c : (Jvm.Cond.fieldLink "DeclareForms$Reader" (28 : Nat) "DeclareForms$Reader" "fields" "I") ∈ zz_big := zz_in 124 rfl rfl
set_option maxRecDepth 100000 in
theorem zk_19b26606 : (Jvm.Cond.fieldLink "DeclareForms$Reader" (25 : Nat) "DeclareForms$Reader" "fieldsLeft" "I") ∈ zz_big := zz_in 125 rfl rfl
set_option maxRecDepth 100000 in
theorem zk_38af8887 : (Jvm.Cond.fieldLink "DeclareForms$Reader" (55 : Nat) "DeclareForms$Reader" "rowField" "I") ∈ zz_big := zz_in 126 rfl rfl
set_option maxRecDepth 100000 in
theorem zk_d4c3bc94 : (Jvm.Cond.fieldLink "DeclareForms$Reader" (62 : Nat) "DeclareForms$Reader" "rowValue" "J") ∈ zz_big := zz_in 128 rfl rfl
set_option maxRecDepth 100000 in
theorem zk_145c8149 : (Jvm.Cond.constantLong "DeclareForms$Reader" (66 : Nat) (256 : Int64)) ∈ zz_big := zz_in 339 rfl rfl
set_option maxRecDepth 100000 in
theorem zk_b8a9b261 : (Jvm.Cond.fieldLink "DeclareForms$Reader" (22 : Nat) "DeclareForms$Reader" "place" "I") ∈ zz_big := zz_in 122 rfl rfl
set_option maxRecDepth 100000 in
theorem zk_1a63ba43 : (Jvm.Cond.constantLong "DeclareForms$Reader" (68 : Nat) (1000000000 : Int64)) ∈ zz_big := zz_in 340 rfl rfl
set_option maxRecDepth 100000 in
theorem zk_614f5db7 : (Jvm.Cond.code ({ cls := "DeclareForms$Reader", name := "takeKind", desc := "(I)Z" } : Jvm.MethodName) prog_4_method_6_code (2 : Nat) (Option.some Jvm.ClassFile.FieldType.boolean)) ∈ zz_big := zz_in 317 rfl rfl
set_option maxRecDepth 100000 in
theorem zk_5035b69c : (Jvm.Cond.methodLink "DeclareForms$Reader" (31 : Nat) ({ cls := "DeclareForms$Reader", name := "takeKind", desc := "(I)Z" } : Jvm.MethodName)) ∈ zz_big := zz_in 314 rfl rfl
set_option maxRecDepth 100000 in
theorem zk_4915e962 : (Jvm.Cond.instanceMethod ({ cls := "DeclareForms$Reader", name := "takeKind", desc := "(I)Z" } : Jvm.MethodName)) ∈ zz_big := zz_in 316 rfl rfl
set_option maxRecDepth 100000 in
theorem zk_f37331cd : Cond.selects "DeclareForms$Reader" ⟨"DeclareForms$Reader", "takeKind", "(I)Z"⟩ ⟨"DeclareForms$Reader", "takeKind", "(I)Z"⟩ ∈ zz_big := zz_in 3 rfl rfl
set_option maxRecDepth 100000 in
theorem zk_136d7407 : (Jvm.Cond.initialized "DeclareForms$Reader") ∈ zz_big := zz_in 32 rfl rfl
set_option maxRecDepth 100000 in
theorem zk_f4d57b21 : (Jvm.Cond.code ({ cls := "DeclareForms$Reader", name := "takeHigher", desc := "(I)Z" } : Jvm.MethodName) prog_4_method_7_code (2 : Nat) (Option.some Jvm.ClassFile.FieldType.boolean)) ∈ zz_big := zz_in 321 rfl rfl
set_option maxRecDepth 100000 in
theorem zk_7f1a353c : (Jvm.Cond.methodLink "DeclareForms$Reader" (34 : Nat) ({ cls := "DeclareForms$Reader", name := "takeHigher", desc := "(I)Z" } : Jvm.MethodName)) ∈ zz_big := zz_in 318 rfl rfl
set_option maxRecDepth 100000 in
theorem zk_0e9f7475 : (Jvm.Cond.instanceMethod ({ cls := "DeclareForms$Reader", name := "takeHigher", desc := "(I)Z" } : Jvm.MethodName)) ∈ zz_big := zz_in 320 rfl rfl
set_option maxRecDepth 100000 in
theorem zk_6d04e37b : Cond.selects "DeclareForms$Reader" ⟨"DeclareForms$Reader", "takeHigher", "(I)Z"⟩ ⟨"DeclareForms$Reader", "takeHigher", "(I)Z"⟩ ∈ zz_big := zz_in 4 rfl rfl
set_option maxRecDepth 100000 in
theorem zk_3bf2a372 : (Jvm.Cond.code ({ cls := "DeclareForms$Reader", name := "takeLower", desc := "(I)Z" } : Jvm.MethodName) prog_4_method_8_code (2 : Nat) (Option.some Jvm.ClassFile.FieldType.boolean)) ∈ zz_big := zz_in 325 rfl rfl
set_option maxRecDepth 100000 in
theorem zk_c3b75ea1 : (Jvm.Cond.methodLink "DeclareForms$Reader" (37 : Nat) ({ cls := "DeclareForms$Reader", name := "takeLower", desc := "(I)Z" } : Jvm.MethodName)) ∈ zz_big := zz_in 322 rfl rfl
set_option maxRecDepth 100000 in
theorem zk_12bcf610 : (Jvm.Cond.instanceMethod ({ cls := "DeclareForms$Reader", name := "takeLower", desc := "(I)Z" } : Jvm.MethodName)) ∈ zz_big := zz_in 324 rfl rfl
set_option maxRecDepth 100000 in
theorem zk_e48d9ff2 : Cond.selects "DeclareForms$Reader" ⟨"DeclareForms$Reader", "takeLower", "(I)Z"⟩ ⟨"DeclareForms$Reader", "takeLower", "(I)Z"⟩ ∈ zz_big := zz_in 5 rfl rfl
set_option maxRecDepth 100000 in
theorem zk_0b6e1656 : (Jvm.Cond.code ({ cls := "DeclareForms$Reader", name := "takeField", desc := "(I)Z" } : Jvm.MethodName) prog_4_method_9_code (2 : Nat) (Option.some Jvm.ClassFile.FieldType.boolean)) ∈ zz_big := zz_in 329 rfl rfl
set_option maxRecDepth 100000 in
theorem zk_c22db35c : (Jvm.Cond.methodLink "DeclareForms$Reader" (40 : Nat) ({ cls := "DeclareForms$Reader", name := "takeField", desc := "(I)Z" } : Jvm.MethodName)) ∈ zz_big := zz_in 326 rfl rfl
set_option maxRecDepth 100000 in
theorem zk_934369ad : (Jvm.Cond.instanceMethod ({ cls := "DeclareForms$Reader", name := "takeField", desc := "(I)Z" } : Jvm.MethodName)) ∈ zz_big := zz_in 328 rfl rfl
set_option maxRecDepth 100000 in
theorem zk_a14f995b : Cond.selects "DeclareForms$Reader" ⟨"DeclareForms$Reader", "takeField", "(I)Z"⟩ ⟨"DeclareForms$Reader", "takeField", "(I)Z"⟩ ∈ zz_big := zz_in 6 rfl rfl
set_option maxRecDepth 100000 in
theorem zk_8bbbc545 : (Jvm.Cond.code ({ cls := "DeclareForms$Reader", name := "takeLine", desc := "(I)Z" } : Jvm.MethodName) prog_4_method_10_code (5 : Nat) (Option.some Jvm.ClassFile.FieldType.boolean)) ∈ zz_big := zz_in 334 rfl rfl
set_option maxRecDepth 100000 in
theorem zk_76bb2fce : (Jvm.Cond.methodLink "DeclareForms$Reader" (43 : Nat) ({ cls := "DeclareForms$Reader", name := "takeLine", desc := "(I)Z" } : Jvm.MethodName)) ∈ zz_big := zz_in 331 rfl rfl
set_option maxRecDepth 100000 in
theorem zk_f84625d5 : (Jvm.Cond.instanceMethod ({ cls := "DeclareForms$Reader", name := "takeLine", desc := "(I)Z" } : Jvm.MethodName)) ∈ zz_big := zz_in 333 rfl rfl
set_option maxRecDepth 100000 in
theorem zk_975b5658 : Cond.selects "DeclareForms$Reader" ⟨"DeclareForms$Reader", "takeLine", "(I)Z"⟩ ⟨"DeclareForms$Reader", "takeLine", "(I)Z"⟩ ∈ zz_big := zz_in 7 rfl rfl
set_option maxRecDepth 100000 in
theorem zk_ba187e4f : (Jvm.Cond.code ({ cls := "DeclareForms$Reader", name := "takeValue", desc := "(I)Z" } : Jvm.MethodName) prog_4_method_11_code (2 : Nat) (Option.some Jvm.ClassFile.FieldType.boolean)) ∈ zz_big := zz_in 338 rfl rfl
set_option maxRecDepth 100000 in
theorem zk_0ec6c850 : (Jvm.Cond.methodLink "DeclareForms$Reader" (46 : Nat) ({ cls := "DeclareForms$Reader", name := "takeValue", desc := "(I)Z" } : Jvm.MethodName)) ∈ zz_big := zz_in 335 rfl rfl
set_option maxRecDepth 100000 in
theorem zk_69ba10b9 : (Jvm.Cond.instanceMethod ({ cls := "DeclareForms$Reader", name := "takeValue", desc := "(I)Z" } : Jvm.MethodName)) ∈ zz_big := zz_in 337 rfl rfl
set_option maxRecDepth 100000 in
theorem zk_9ba1f689 : Cond.selects "DeclareForms$Reader" ⟨"DeclareForms$Reader", "takeValue", "(I)Z"⟩ ⟨"DeclareForms$Reader", "takeValue", "(I)Z"⟩ ∈ zz_big := zz_in 8 rfl rfl
set_option maxRecDepth 100000 in
theorem zk_3daecf7f : (Jvm.Cond.code ({ cls := "DeclareForms$Reader", name := "stands", desc := "(I)Z" } : Jvm.MethodName) prog_4_method_5_code (2 : Nat) (Option.some Jvm.ClassFile.FieldType.boolean)) ∈ zz_big := zz_in 313 rfl rfl
set_option maxRecDepth 100000 in
theorem zk_2e9dfa34 : (Jvm.Cond.methodLink "DeclareForms$Reader" (18 : Nat) ({ cls := "DeclareForms$Reader", name := "stands", desc := "(I)Z" } : Jvm.MethodName)) ∈ zz_big := zz_in 310 rfl rfl
set_option maxRecDepth 100000 in
theorem zk_07adda86 : (Jvm.Cond.instanceMethod ({ cls := "DeclareForms$Reader", name := "stands", desc := "(I)Z" } : Jvm.MethodName)) ∈ zz_big := zz_in 312 rfl rfl
set_option maxRecDepth 100000 in
theorem zk_059ede22 : Cond.selects "DeclareForms$Reader" ⟨"DeclareForms$Reader", "stands", "(I)Z"⟩ ⟨"DeclareForms$Reader", "stands", "(I)Z"⟩ ∈ zz_big := zz_in 2 rfl rfl
set_option maxRecDepth 100000 in
theorem zk_ac6f5f75 : (Jvm.Cond.fieldLink "DeclareForms" (25 : Nat) "DeclareForms" "sheet" "LDeclareForms$Sheet;") ∈ zz_big := zz_in 151 rfl rfl
set_option maxRecDepth 100000 in
theorem zk_3749943e : (Jvm.Cond.methodLink "DeclareForms" (84 : Nat) ({ cls := "DeclareForms$Sheet", name := "slotOf", desc := "(II)I" } : Jvm.MethodName)) ∈ zz_big := zz_in 197 rfl rfl
set_option maxRecDepth 100000 in
theorem zk_79454776 : (Jvm.Cond.methodLink "DeclareForms" (103 : Nat) ({ cls := "DeclareForms$Sheet", name := "valueAt", desc := "(I)I" } : Jvm.MethodName)) ∈ zz_big := zz_in 201 rfl rfl
set_option maxRecDepth 100000 in
theorem zk_92bcf320 : (Jvm.Cond.fieldLink "DeclareForms" (32 : Nat) "DeclareForms" "codes" "LDeclareForms$Codes;") ∈ zz_big := zz_in 152 rfl rfl
set_option maxRecDepth 100000 in
theorem zk_be002196 : (Jvm.Cond.fieldLink "DeclareForms" (50 : Nat) "DeclareForms" "today" "I") ∈ zz_big := zz_in 155 rfl rfl
set_option maxRecDepth 100000 in
theorem zk_16132e5e : (Jvm.Cond.code ({ cls := "DeclareForms$Codes", name := "isGood", desc := "(II)Z" } : Jvm.MethodName) prog_2_method_3_code (4 : Nat) (Option.some Jvm.ClassFile.FieldType.boolean)) ∈ zz_big := zz_in 270 rfl rfl
set_option maxRecDepth 100000 in
theorem zk_c4308639 : (Jvm.Cond.methodLink "DeclareForms" (205 : Nat) ({ cls := "DeclareForms$Codes", name := "isGood", desc := "(II)Z" } : Jvm.MethodName)) ∈ zz_big := zz_in 267 rfl rfl
set_option maxRecDepth 100000 in
theorem zk_a0a2078d : (Jvm.Cond.instanceMethod ({ cls := "DeclareForms$Codes", name := "isGood", desc := "(II)Z" } : Jvm.MethodName)) ∈ zz_big := zz_in 268 rfl rfl
set_option maxRecDepth 100000 in
theorem zk_1368934a : (Jvm.Cond.selects "DeclareForms$Codes" ({ cls := "DeclareForms$Codes", name := "isGood", desc := "(II)Z" } : Jvm.MethodName) ({ cls := "DeclareForms$Codes", name := "isGood", desc := "(II)Z" } : Jvm.MethodName)) ∈ zz_big := zz_in 269 rfl rfl
set_option maxRecDepth 100000 in
theorem zk_26e1908c : (Jvm.Cond.fieldLink "DeclareForms" (18 : Nat) "DeclareForms" "kind" "I") ∈ zz_big := zz_in 150 rfl rfl
set_option maxRecDepth 100000 in
theorem zk_866be72d : (Jvm.Cond.code ({ cls := "DeclareForms$Sheet", name := "firstMissing", desc := "(I)I" } : Jvm.MethodName) prog_5_method_11_code (4 : Nat) (Option.some Jvm.ClassFile.FieldType.int)) ∈ zz_big := zz_in 234 rfl rfl
set_option maxRecDepth 100000 in
theorem zk_02a77f53 : (Jvm.Cond.methodLink "DeclareForms" (115 : Nat) ({ cls := "DeclareForms$Sheet", name := "firstMissing", desc := "(I)I" } : Jvm.MethodName)) ∈ zz_big := zz_in 231 rfl rfl
set_option maxRecDepth 100000 in
theorem zk_96eb0eaf : (Jvm.Cond.instanceMethod ({ cls := "DeclareForms$Sheet", name := "firstMissing", desc := "(I)I" } : Jvm.MethodName)) ∈ zz_big := zz_in 232 rfl rfl
set_option maxRecDepth 100000 in
theorem zk_1b88eb0a : (Jvm.Cond.selects "DeclareForms$Sheet" ({ cls := "DeclareForms$Sheet", name := "firstMissing", desc := "(I)I" } : Jvm.MethodName) ({ cls := "DeclareForms$Sheet", name := "firstMissing", desc := "(I)I" } : Jvm.MethodName)) ∈ zz_big := zz_in 233 rfl rfl
set_option maxRecDepth 100000 in
theorem zk_bd36635a : (Jvm.Cond.code ({ cls := "DeclareForms$Sheet", name := "sumIsWrong", desc := "(II)Z" } : Jvm.MethodName) prog_5_method_12_code (4 : Nat) (Option.some Jvm.ClassFile.FieldType.boolean)) ∈ zz_big := zz_in 253 rfl rfl
set_option maxRecDepth 100000 in
theorem zk_173b95b6 : (Jvm.Cond.methodLink "DeclareForms" (122 : Nat) ({ cls := "DeclareForms$Sheet", name := "sumIsWrong", desc := "(II)Z" } : Jvm.MethodName)) ∈ zz_big := zz_in 250 rfl rfl
set_option maxRecDepth 100000 in
theorem zk_46869219 : (Jvm.Cond.instanceMethod ({ cls := "DeclareForms$Sheet", name := "sumIsWrong", desc := "(II)Z" } : Jvm.MethodName)) ∈ zz_big := zz_in 251 rfl rfl
set_option maxRecDepth 100000 in
theorem zk_bca93d4d : (Jvm.Cond.selects "DeclareForms$Sheet" ({ cls := "DeclareForms$Sheet", name := "sumIsWrong", desc := "(II)Z" } : Jvm.MethodName) ({ cls := "DeclareForms$Sheet", name := "sumIsWrong", desc := "(II)Z" } : Jvm.MethodName)) ∈ zz_big := zz_in 252 rfl rfl
set_option maxRecDepth 100000 in
theorem zk_e400f6cc : (Jvm.Cond.code ({ cls := "DeclareForms", name := "firstWithoutGoodCode", desc := "()I" } : Jvm.MethodName) prog_1_method_27_code (4 : Nat) (Option.some Jvm.ClassFile.FieldType.int)) ∈ zz_big := zz_in 266 rfl rfl
set_option maxRecDepth 100000 in
theorem zk_90086960 : (Jvm.Cond.methodLink "DeclareForms" (127 : Nat) ({ cls := "DeclareForms", name := "firstWithoutGoodCode", desc := "()I" } : Jvm.MethodName)) ∈ zz_big := zz_in 263 rfl rfl
set_option maxRecDepth 100000 in
theorem zk_c31cd9ed : (Jvm.Cond.instanceMethod ({ cls := "DeclareForms", name := "firstWithoutGoodCode", desc := "()I" } : Jvm.MethodName)) ∈ zz_big := zz_in 265 rfl rfl
set_option maxRecDepth 100000 in
theorem zk_3a8f734f : Cond.selects "DeclareForms" ⟨"DeclareForms", "firstWithoutGoodCode", "()I"⟩ ⟨"DeclareForms", "firstWithoutGoodCode", "()I"⟩ ∈ zz_big := zz_in 1 rfl rfl
set_option maxRecDepth 100000 in
theorem zk_fcd24361 : (Jvm.Cond.code ({ cls := "DeclareForms$Sheet", name := "lineCount", desc := "()I" } : Jvm.MethodName) prog_5_method_4_code (1 : Nat) (Option.some Jvm.ClassFile.FieldType.int)) ∈ zz_big := zz_in 275 rfl rfl
set_option maxRecDepth 100000 in
theorem zk_879c9a59 : (Jvm.Cond.methodLink "DeclareForms" (131 : Nat) ({ cls := "DeclareForms$Sheet", name := "lineCount", desc := "()I" } : Jvm.MethodName)) ∈ zz_big := zz_in 272 rfl rfl
set_option maxRecDepth 100000 in
theorem zk_79c9d9e2 : (Jvm.Cond.instanceMethod ({ cls := "DeclareForms$Sheet", name := "lineCount", desc := "()I" } : Jvm.MethodName)) ∈ zz_big := zz_in 273 rfl rfl
set_option maxRecDepth 100000 in
theorem zk_0aad96cc : (Jvm.Cond.selects "DeclareForms$Sheet" ({ cls := "DeclareForms$Sheet", name := "lineCount", desc := "()I" } : Jvm.MethodName) ({ cls := "DeclareForms$Sheet", name := "lineCount", desc := "()I" } : Jvm.MethodName)) ∈ zz_big := zz_in 274 rfl rfl
set_option maxRecDepth 100000 in
theorem zk_eb727f7f : (Jvm.Cond.constant "DeclareForms" (134 : Nat) (5000000 : Int32)) ∈ zz_big := zz_in 276 rfl rfl
set_option maxRecDepth 100000 in
theorem zk_981629e6 : (Jvm.Cond.constant "DeclareForms" (130 : Nat) (4000000 : Int32)) ∈ zz_big := zz_in 271 rfl rfl
set_option maxRecDepth 100000 in
theorem zk_ab1eecd8 : (Jvm.Cond.code ({ cls := "DeclareForms", name := "placeOf", desc := "(I)I" } : Jvm.MethodName) prog_1_method_24_code (1 : Nat) (Option.some Jvm.ClassFile.FieldType.int)) ∈ zz_big := zz_in 247 rfl rfl
set_option maxRecDepth 100000 in
theorem zk_137ff889 : (Jvm.Cond.methodLink "DeclareForms" (119 : Nat) ({ cls := "DeclareForms", name := "placeOf", desc := "(I)I" } : Jvm.MethodName)) ∈ zz_big := zz_in 245 rfl rfl
set_option maxRecDepth 100000 in
theorem zk_79ac290e : (Jvm.Cond.static ({ cls := "DeclareForms", name := "placeOf", desc := "(I)I" } : Jvm.MethodName)) ∈ zz_big := zz_in 246 rfl rfl
set_option maxRecDepth 100000 in
theorem zk_94733b41 : (Jvm.Cond.constant "DeclareForms" (126 : Nat) (3000000 : Int32)) ∈ zz_big := zz_in 262 rfl rfl
set_option maxRecDepth 100000 in
theorem zk_430cae2a : (Jvm.Cond.constant "DeclareForms" (125 : Nat) (2000000 : Int32)) ∈ zz_big := zz_in 261 rfl rfl
set_option maxRecDepth 100000 in
theorem zk_2f026ba4 : (Jvm.Cond.constant "DeclareForms" (118 : Nat) (1000000 : Int32)) ∈ zz_big := zz_in 244 rfl rfl
set_option maxRecDepth 100000 in
theorem zk_8b4375f5 : (Jvm.Cond.code ({ cls := "DeclareForms$Sheet", name := "setCount", desc := "()I" } : Jvm.MethodName) prog_5_method_5_code (1 : Nat) (Option.some Jvm.ClassFile.FieldType.int)) ∈ zz_big := zz_in 301 rfl rfl
set_option maxRecDepth 100000 in
theorem zk_d51b3908 : (Jvm.Cond.methodLink "DeclareForms" (158 : Nat) ({ cls := "DeclareForms$Sheet", name := "setCount", desc := "()I" } : Jvm.MethodName)) ∈ zz_big := zz_in 298 rfl rfl
set_option maxRecDepth 100000 in
theorem zk_460a5c0b : (Jvm.Cond.instanceMethod ({ cls := "DeclareForms$Sheet", name := "setCount", desc := "()I" } : Jvm.MethodName)) ∈ zz_big := zz_in 299 rfl rfl
set_option maxRecDepth 100000 in
theorem zk_dbc3e6b2 : (Jvm.Cond.selects "DeclareForms$Sheet" ({ cls := "DeclareForms$Sheet", name := "setCount", desc := "()I" } : Jvm.MethodName) ({ cls := "DeclareForms$Sheet", name := "setCount", desc := "()I" } : Jvm.MethodName)) ∈ zz_big := zz_in 300 rfl rfl
set_option maxRecDepth 100000 in
theorem zk_ad544a45 : (Jvm.Cond.code ({ cls := "DeclareForms", name := "byteOf", desc := "(II)B" } : Jvm.MethodName) prog_1_method_25_code (2 : Nat) (Option.some Jvm.ClassFile.FieldType.byte)) ∈ zz_big := zz_in 551 rfl rfl
set_option maxRecDepth 100000 in
theorem zk_fadbfa6c : (Jvm.Cond.methodLink "DeclareForms" (169 : Nat) ({ cls := "DeclareForms", name := "byteOf", desc := "(II)B" } : Jvm.MethodName)) ∈ zz_big := zz_in 549 rfl rfl
set_option maxRecDepth 100000 in
theorem zk_700bf3ab : (Jvm.Cond.static ({ cls := "DeclareForms", name := "byteOf", desc := "(II)B" } : Jvm.MethodName)) ∈ zz_big := zz_in 550 rfl rfl
set_option maxRecDepth 100000 in
theorem zk_a72d337f : (Jvm.Cond.fieldLink "DeclareForms" (53 : Nat) "DeclareForms" "lodged" "Z") ∈ zz_big := zz_in 156 rfl rfl
set_option maxRecDepth 100000 in
theorem zk_e942dd41 : (Jvm.Cond.methodLink "DeclareForms" (72 : Nat) ({ cls := "DeclareForms$Sheet", name := "hasLine", desc := "(I)Z" } : Jvm.MethodName)) ∈ zz_big := zz_in 176 rfl rfl
set_option maxRecDepth 100000 in
theorem zk_4f9de2f5 : (Jvm.Cond.fieldLink "DeclareForms" (39 : Nat) "DeclareForms" "papers" "LDeclareForms$Papers;") ∈ zz_big := zz_in 153 rfl rfl
set_option maxRecDepth 100000 in
theorem zk_9da3a71d : (Jvm.Cond.code ({ cls := "DeclareForms$Papers", name := "giveBack", desc := "(I)V" } : Jvm.MethodName) prog_3_method_7_code (3 : Nat) (Option.none : Option Jvm.ClassFile.FieldType)) ∈ zz_big := zz_in 183 rfl rfl
set_option maxRecDepth 100000 in
theorem zk_53df6765 : (Jvm.Cond.methodLink "DeclareForms" (76 : Nat) ({ cls := "DeclareForms$Papers", name := "giveBack", desc := "(I)V" } : Jvm.MethodName)) ∈ zz_big := zz_in 180 rfl rfl
set_option maxRecDepth 100000 in
theorem zk_388ab2dc : (Jvm.Cond.instanceMethod ({ cls := "DeclareForms$Papers", name := "giveBack", desc := "(I)V" } : Jvm.MethodName)) ∈ zz_big := zz_in 181 rfl rfl
set_option maxRecDepth 100000 in
theorem zk_a048ec62 : (Jvm.Cond.selects "DeclareForms$Papers" ({ cls := "DeclareForms$Papers", name := "giveBack", desc := "(I)V" } : Jvm.MethodName) ({ cls := "DeclareForms$Papers", name := "giveBack", desc := "(I)V" } : Jvm.MethodName)) ∈ zz_big := zz_in 182 rfl rfl
set_option maxRecDepth 100000 in
theorem zk_8171e81f : (Jvm.Cond.code ({ cls := "DeclareForms$Sheet", name := "dropLine", desc := "(I)I" } : Jvm.MethodName) prog_5_method_7_code (4 : Nat) (Option.some Jvm.ClassFile.FieldType.int)) ∈ zz_big := zz_in 187 rfl rfl
set_option maxRecDepth 100000 in
theorem zk_c5885611 : (Jvm.Cond.methodLink "DeclareForms" (80 : Nat) ({ cls := "DeclareForms$Sheet", name := "dropLine", desc := "(I)I" } : Jvm.MethodName)) ∈ zz_big := zz_in 184 rfl rfl
set_option maxRecDepth 100000 in
theorem zk_4b7e294d : (Jvm.Cond.instanceMethod ({ cls := "DeclareForms$Sheet", name := "dropLine", desc := "(I)I" } : Jvm.MethodName)) ∈ zz_big := zz_in 185 rfl rfl
set_option maxRecDepth 100000 in
theorem zk_6f360118 : (Jvm.Cond.selects "DeclareForms$Sheet" ({ cls := "DeclareForms$Sheet", name := "dropLine", desc := "(I)I" } : Jvm.MethodName) ({ cls := "DeclareForms$Sheet", name := "dropLine", desc := "(I)I" } : Jvm.MethodName)) ∈ zz_big := zz_in 186 rfl rfl
set_option maxRecDepth 100000 in
theorem zk_f54cd352 : (Jvm.Cond.methodLink "DeclareForms" (99 : Nat) ({ cls := "DeclareForms$Sheet", name := "put", desc := "(II)V" } : Jvm.MethodName)) ∈ zz_big := zz_in 205 rfl rfl
set_option maxRecDepth 100000 in
theorem zk_39170c80 : (Jvm.Cond.code ({ cls := "DeclareForms", name := "isValue", desc := "(J)Z" } : Jvm.MethodName) prog_1_method_20_code (2 : Nat) (Option.some Jvm.ClassFile.FieldType.boolean)) ∈ zz_big := zz_in 212 rfl rfl
set_option maxRecDepth 100000 in
theorem zk_a4e11230 : (Jvm.Cond.methodLink "DeclareForms" (87 : Nat) ({ cls := "DeclareForms", name := "isValue", desc := "(J)Z" } : Jvm.MethodName)) ∈ zz_big := zz_in 210 rfl rfl
set_option maxRecDepth 100000 in
theorem zk_aa84806c : (Jvm.Cond.static ({ cls := "DeclareForms", name := "isValue", desc := "(J)Z" } : Jvm.MethodName)) ∈ zz_big := zz_in 211 rfl rfl
set_option maxRecDepth 100000 in
theorem zk_fe2527bb : (Jvm.Cond.constant "DeclareForms" (110 : Nat) (100000 : Int32)) ∈ zz_big := zz_in 214 rfl rfl
set_option maxRecDepth 100000 in
theorem zk_46e44973 : (Jvm.Cond.code ({ cls := "DeclareForms$Codes", name := "tell", desc := "(II)Z" } : Jvm.MethodName) prog_2_method_2_code (4 : Nat) (Option.some Jvm.ClassFile.FieldType.boolean)) ∈ zz_big := zz_in 218 rfl rfl
set_option maxRecDepth 100000 in
theorem zk_42930984 : (Jvm.Cond.methodLink "DeclareForms" (111 : Nat) ({ cls := "DeclareForms$Codes", name := "tell", desc := "(II)Z" } : Jvm.MethodName)) ∈ zz_big := zz_in 215 rfl rfl
set_option maxRecDepth 100000 in
theorem zk_48dda302 : (Jvm.Cond.instanceMethod ({ cls := "DeclareForms$Codes", name := "tell", desc := "(II)Z" } : Jvm.MethodName)) ∈ zz_big := zz_in 216 rfl rfl
set_option maxRecDepth 100000 in
theorem zk_12cf4ec3 : (Jvm.Cond.selects "DeclareForms$Codes" ({ cls := "DeclareForms$Codes", name := "tell", desc := "(II)Z" } : Jvm.MethodName) ({ cls := "DeclareForms$Codes", name := "tell", desc := "(II)Z" } : Jvm.MethodName)) ∈ zz_big := zz_in 217 rfl rfl
set_option maxRecDepth 100000 in
theorem zk_dd3f9fec : (Jvm.Cond.code ({ cls := "DeclareForms", name := "check", desc := "()I" } : Jvm.MethodName) prog_1_method_10_code (3 : Nat) (Option.some Jvm.ClassFile.FieldType.int)) ∈ zz_big := zz_in 230 rfl rfl
set_option maxRecDepth 100000 in
theorem zk_2055cd9b : (Jvm.Cond.methodLink "DeclareForms" (135 : Nat) ({ cls := "DeclareForms", name := "check", desc := "()I" } : Jvm.MethodName)) ∈ zz_big := zz_in 281 rfl rfl
set_option maxRecDepth 100000 in
theorem zk_f6b6f3c5 : (Jvm.Cond.instanceMethod ({ cls := "DeclareForms", name := "check", desc := "()I" } : Jvm.MethodName)) ∈ zz_big := zz_in 228 rfl rfl
set_option maxRecDepth 100000 in
theorem zk_7115eaaf : (Jvm.Cond.selects "DeclareForms" ({ cls := "DeclareForms", name := "check", desc := "()I" } : Jvm.MethodName) ({ cls := "DeclareForms", name := "check", desc := "()I" } : Jvm.MethodName)) ∈ zz_big := zz_in 229 rfl rfl
set_option maxRecDepth 100000 in
theorem zk_fb1d459a : (Jvm.Cond.code ({ cls := "DeclareForms$Papers", name := "register", desc := "(II)Z" } : Jvm.MethodName) prog_3_method_3_code (3 : Nat) (Option.some Jvm.ClassFile.FieldType.boolean)) ∈ zz_big := zz_in 289 rfl rfl
set_option maxRecDepth 100000 in
theorem zk_7e19198c : (Jvm.Cond.methodLink "DeclareForms" (140 : Nat) ({ cls := "DeclareForms$Papers", name := "register", desc := "(II)Z" } : Jvm.MethodName)) ∈ zz_big := zz_in 286 rfl rfl
set_option maxRecDepth 100000 in
theorem zk_fdae3f7d : (Jvm.Cond.instanceMethod ({ cls := "DeclareForms$Papers", name := "register", desc := "(II)Z" } : Jvm.MethodName)) ∈ zz_big := zz_in 287 rfl rfl
set_option maxRecDepth 100000 in
theorem zk_7d854696 : (Jvm.Cond.selects "DeclareForms$Papers" ({ cls := "DeclareForms$Papers", name := "register", desc := "(II)Z" } : Jvm.MethodName) ({ cls := "DeclareForms$Papers", name := "register", desc := "(II)Z" } : Jvm.MethodName)) ∈ zz_big := zz_in 288 rfl rfl
set_option maxRecDepth 100000 in
theorem zk_84f3c67c : (Jvm.Cond.fieldLink "DeclareForms" (46 : Nat) "DeclareForms" "reader" "LDeclareForms$Reader;") ∈ zz_big := zz_in 154 rfl rfl
set_option maxRecDepth 100000 in
theorem zk_ce99025e : (Jvm.Cond.code ({ cls := "DeclareForms$Reader", name := "accept", desc := "(I)I" } : Jvm.MethodName) prog_4_method_4_code (2 : Nat) (Option.some Jvm.ClassFile.FieldType.int)) ∈ zz_big := zz_in 309 rfl rfl
set_option maxRecDepth 100000 in
theorem zk_ebd94e33 : (Jvm.Cond.methodLink "DeclareForms" (179 : Nat) ({ cls := "DeclareForms$Reader", name := "accept", desc := "(I)I" } : Jvm.MethodName)) ∈ zz_big := zz_in 306 rfl rfl
set_option maxRecDepth 100000 in
theorem zk_1b0d4895 : (Jvm.Cond.instanceMethod ({ cls := "DeclareForms$Reader", name := "accept", desc := "(I)I" } : Jvm.MethodName)) ∈ zz_big := zz_in 307 rfl rfl
set_option maxRecDepth 100000 in
theorem zk_bb028677 : (Jvm.Cond.selects "DeclareForms$Reader" ({ cls := "DeclareForms$Reader", name := "accept", desc := "(I)I" } : Jvm.MethodName) ({ cls := "DeclareForms$Reader", name := "accept", desc := "(I)I" } : Jvm.MethodName)) ∈ zz_big := zz_in 308 rfl rfl
set_option maxRecDepth 100000 in
theorem zk_9bbffd41 : (Jvm.Cond.code ({ cls := "DeclareForms$Codes", name := "goodCount", desc := "(I)I" } : Jvm.MethodName) prog_2_method_4_code (4 : Nat) (Option.some Jvm.ClassFile.FieldType.int)) ∈ zz_big := zz_in 348 rfl rfl
set_option maxRecDepth 100000 in
theorem zk_3d151568 : (Jvm.Cond.methodLink "DeclareForms" (182 : Nat) ({ cls := "DeclareForms$Codes", name := "goodCount", desc := "(I)I" } : Jvm.MethodName)) ∈ zz_big := zz_in 345 rfl rfl
set_option maxRecDepth 100000 in
theorem zk_a00f8f37 : (Jvm.Cond.instanceMethod ({ cls := "DeclareForms$Codes", name := "goodCount", desc := "(I)I" } : Jvm.MethodName)) ∈ zz_big := zz_in 346 rfl rfl
set_option maxRecDepth 100000 in
theorem zk_f023d959 : (Jvm.Cond.selects "DeclareForms$Codes" ({ cls := "DeclareForms$Codes", name := "goodCount", desc := "(I)I" } : Jvm.MethodName) ({ cls := "DeclareForms$Codes", name := "goodCount", desc := "(I)I" } : Jvm.MethodName)) ∈ zz_big := zz_in 347 rfl rfl
set_option maxRecDepth 100000 in
theorem zk_f2dbcaa8 : (Jvm.Cond.code ({ cls := "DeclareForms$Papers", name := "size", desc := "()I" } : Jvm.MethodName) prog_3_method_2_code (1 : Nat) (Option.some Jvm.ClassFile.FieldType.int)) ∈ zz_big := zz_in 352 rfl rfl
set_option maxRecDepth 100000 in
theorem zk_37c0246d : (Jvm.Cond.methodLink "DeclareForms" (185 : Nat) ({ cls := "DeclareForms$Papers", name := "size", desc := "()I" } : Jvm.MethodName)) ∈ zz_big := zz_in 349 rfl rfl
set_option maxRecDepth 100000 in
theorem zk_a344ebc1 : (Jvm.Cond.instanceMethod ({ cls := "DeclareForms$Papers", name := "size", desc := "()I" } : Jvm.MethodName)) ∈ zz_big := zz_in 350 rfl rfl
set_option maxRecDepth 100000 in
theorem zk_f7bcf776 : (Jvm.Cond.selects "DeclareForms$Papers" ({ cls := "DeclareForms$Papers", name := "size", desc := "()I" } : Jvm.MethodName) ({ cls := "DeclareForms$Papers", name := "size", desc := "()I" } : Jvm.MethodName)) ∈ zz_big := zz_in 351 rfl rfl
set_option maxRecDepth 100000 in
theorem zk_2362f403 : (Jvm.Cond.code ({ cls := "DeclareForms$Reader", name := "wholeRows", desc := "()I" } : Jvm.MethodName) prog_4_method_2_code (1 : Nat) (Option.some Jvm.ClassFile.FieldType.int)) ∈ zz_big := zz_in 356 rfl rfl
set_option maxRecDepth 100000 in
theorem zk_12ec970f : (Jvm.Cond.methodLink "DeclareForms" (188 : Nat) ({ cls := "DeclareForms$Reader", name := "wholeRows", desc := "()I" } : Jvm.MethodName)) ∈ zz_big := zz_in 353 rfl rfl
set_option maxRecDepth 100000 in
theorem zk_7dd5f14a : (Jvm.Cond.instanceMethod ({ cls := "DeclareForms$Reader", name := "wholeRows", desc := "()I" } : Jvm.MethodName)) ∈ zz_big := zz_in 354 rfl rfl
set_option maxRecDepth 100000 in
theorem zk_32e2b4e8 : (Jvm.Cond.selects "DeclareForms$Reader" ({ cls := "DeclareForms$Reader", name := "wholeRows", desc := "()I" } : Jvm.MethodName) ({ cls := "DeclareForms$Reader", name := "wholeRows", desc := "()I" } : Jvm.MethodName)) ∈ zz_big := zz_in 355 rfl rfl
set_option maxRecDepth 100000 in
theorem zk_ba062628 : (Jvm.Cond.code ({ cls := "DeclareForms$Reader", name := "latestFields", desc := "()I" } : Jvm.MethodName) prog_4_method_3_code (1 : Nat) (Option.some Jvm.ClassFile.FieldType.int)) ∈ zz_big := zz_in 360 rfl rfl
set_option maxRecDepth 100000 in
theorem zk_f58d715e : (Jvm.Cond.methodLink "DeclareForms" (191 : Nat) ({ cls := "DeclareForms$Reader", name := "latestFields", desc := "()I" } : Jvm.MethodName)) ∈ zz_big := zz_in 357 rfl rfl
set_option maxRecDepth 100000 in
theorem zk_1f59c27a : (Jvm.Cond.instanceMethod ({ cls := "DeclareForms$Reader", name := "latestFields", desc := "()I" } : Jvm.MethodName)) ∈ zz_big := zz_in 358 rfl rfl
set_option maxRecDepth 100000 in
theorem zk_5ba6d848 : (Jvm.Cond.selects "DeclareForms$Reader" ({ cls := "DeclareForms$Reader", name := "latestFields", desc := "()I" } : Jvm.MethodName) ({ cls := "DeclareForms$Reader", name := "latestFields", desc := "()I" } : Jvm.MethodName)) ∈ zz_big := zz_in 359 rfl rfl
set_option maxRecDepth 100000 in
theorem zk_4890c725 : (Jvm.Cond.code ({ cls := "DeclareForms$Papers", name := "balanceOf", desc := "(I)I" } : Jvm.MethodName) prog_3_method_5_code (3 : Nat) (Option.some Jvm.ClassFile.FieldType.int)) ∈ zz_big := zz_in 364 rfl rfl
set_option maxRecDepth 100000 in
theorem zk_4b0ca567 : (Jvm.Cond.methodLink "DeclareForms" (194 : Nat) ({ cls := "DeclareForms$Papers", name := "balanceOf", desc := "(I)I" } : Jvm.MethodName)) ∈ zz_big := zz_in 361 rfl rfl
set_option maxRecDepth 100000 in
theorem zk_5620dc61 : (Jvm.Cond.instanceMethod ({ cls := "DeclareForms$Papers", name := "balanceOf", desc := "(I)I" } : Jvm.MethodName)) ∈ zz_big := zz_in 362 rfl rfl
set_option maxRecDepth 100000 in
theorem zk_119f247c : (Jvm.Cond.selects "DeclareForms$Papers" ({ cls := "DeclareForms$Papers", name := "balanceOf", desc := "(I)I" } : Jvm.MethodName) ({ cls := "DeclareForms$Papers", name := "balanceOf", desc := "(I)I" } : Jvm.MethodName)) ∈ zz_big := zz_in 363 rfl rfl
set_option maxRecDepth 100000 in
theorem zk_97987d2d : (Jvm.Cond.methodLink "DeclareForms" (57 : Nat) ({ cls := "DeclareForms$Sheet", name := "isFull", desc := "()Z" } : Jvm.MethodName)) ∈ zz_big := zz_in 376 rfl rfl
set_option maxRecDepth 100000 in
theorem zk_a71217dc : (Jvm.Cond.code ({ cls := "DeclareForms$Sheet", name := "openLine", desc := "()I" } : Jvm.MethodName) prog_5_method_6_code (1 : Nat) (Option.some Jvm.ClassFile.FieldType.int)) ∈ zz_big := zz_in 451 rfl rfl
set_option maxRecDepth 100000 in
theorem zk_ab432be1 : (Jvm.Cond.methodLink "DeclareForms" (68 : Nat) ({ cls := "DeclareForms$Sheet", name := "openLine", desc := "()I" } : Jvm.MethodName)) ∈ zz_big := zz_in 448 rfl rfl
set_option maxRecDepth 100000 in
theorem zk_01534751 : (Jvm.Cond.instanceMethod ({ cls := "DeclareForms$Sheet", name := "openLine", desc := "()I" } : Jvm.MethodName)) ∈ zz_big := zz_in 449 rfl rfl
set_option maxRecDepth 100000 in
theorem zk_f8f3f2f9 : (Jvm.Cond.selects "DeclareForms$Sheet" ({ cls := "DeclareForms$Sheet", name := "openLine", desc := "()I" } : Jvm.MethodName) ({ cls := "DeclareForms$Sheet", name := "openLine", desc := "()I" } : Jvm.MethodName)) ∈ zz_big := zz_in 450 rfl rfl
set_option maxRecDepth 100000 in
theorem zk_f0307824 : (Jvm.Cond.classLink "DeclareForms" (61 : Nat) "java/lang/IllegalStateException") ∈ zz_big := zz_in 380 rfl rfl
set_option maxRecDepth 100000 in
theorem zk_0493ccc5 : (Jvm.Cond.instantiable "java/lang/IllegalStateException" (6 : Nat)) ∈ zz_big := zz_in 381 rfl rfl
set_option maxRecDepth 100000 in
theorem zk_03932cc4 : (Jvm.Cond.initialized "java/lang/IllegalStateException") ∈ zz_big := zz_in 37 rfl rfl
set_option maxRecDepth 100000 in
theorem zk_36bd0bf1 : (Jvm.Cond.methodLink "DeclareForms" (96 : Nat) ({ cls := "DeclareForms", name := "needBy", desc := "(II)I" } : Jvm.MethodName)) ∈ zz_big := zz_in 477 rfl rfl
set_option maxRecDepth 100000 in
theorem zk_c1982f07 : (Jvm.Cond.classLink "DeclareForms" (91 : Nat) "java/lang/IllegalArgumentException") ∈ zz_big := zz_in 461 rfl rfl
set_option maxRecDepth 100000 in
theorem zk_04fc2812 : (Jvm.Cond.instantiable "java/lang/IllegalArgumentException" (6 : Nat)) ∈ zz_big := zz_in 462 rfl rfl
set_option maxRecDepth 100000 in
theorem zk_9ce9d120 : (Jvm.Cond.initialized "java/lang/IllegalArgumentException") ∈ zz_big := zz_in 38 rfl rfl
set_option maxRecDepth 100000 in
theorem zk_b6b2fcd7 : (Jvm.Cond.methodLink "DeclareForms" (143 : Nat) ({ cls := "DeclareForms$Papers", name := "find", desc := "(I)I" } : Jvm.MethodName)) ∈ zz_big := zz_in 509 rfl rfl
set_option maxRecDepth 100000 in
theorem zk_2194c2f1 : (Jvm.Cond.code ({ cls := "DeclareForms$Papers", name := "take", desc := "(III)I" } : Jvm.MethodName) prog_3_method_6_code (4 : Nat) (Option.some Jvm.ClassFile.FieldType.int)) ∈ zz_big := zz_in 514 rfl rfl
set_option maxRecDepth 100000 in
theorem zk_4e8e7760 : (Jvm.Cond.methodLink "DeclareForms" (148 : Nat) ({ cls := "DeclareForms$Papers", name := "take", desc := "(III)I" } : Jvm.MethodName)) ∈ zz_big := zz_in 511 rfl rfl
set_option maxRecDepth 100000 in
theorem zk_5d820aaa : (Jvm.Cond.instanceMethod ({ cls := "DeclareForms$Papers", name := "take", desc := "(III)I" } : Jvm.MethodName)) ∈ zz_big := zz_in 512 rfl rfl
set_option maxRecDepth 100000 in
theorem zk_86b951e4 : (Jvm.Cond.selects "DeclareForms$Papers" ({ cls := "DeclareForms$Papers", name := "take", desc := "(III)I" } : Jvm.MethodName) ({ cls := "DeclareForms$Papers", name := "take", desc := "(III)I" } : Jvm.MethodName)) ∈ zz_big := zz_in 513 rfl rfl
set_option maxRecDepth 100000 in
theorem zk_6662f93d : (Jvm.Cond.methodLink "DeclareForms" (154 : Nat) ({ cls := "DeclareForms$Sheet", name := "total", desc := "(I)J" } : Jvm.MethodName)) ∈ zz_big := zz_in 523 rfl rfl
set_option maxRecDepth 100000 in
theorem zk_27dc7096 : (Jvm.Cond.code ({ cls := "DeclareForms", name := "pack", desc := "()I" } : Jvm.MethodName) prog_1_method_16_code (1 : Nat) (Option.some Jvm.ClassFile.FieldType.int)) ∈ zz_big := zz_in 297 rfl rfl
set_option maxRecDepth 100000 in
theorem zk_d9996226 : (Jvm.Cond.methodLink "DeclareForms" (161 : Nat) ({ cls := "DeclareForms", name := "pack", desc := "()I" } : Jvm.MethodName)) ∈ zz_big := zz_in 532 rfl rfl
set_option maxRecDepth 100000 in
theorem zk_15c98730 : (Jvm.Cond.instanceMethod ({ cls := "DeclareForms", name := "pack", desc := "()I" } : Jvm.MethodName)) ∈ zz_big := zz_in 295 rfl rfl
set_option maxRecDepth 100000 in
theorem zk_fcfdfd39 : (Jvm.Cond.selects "DeclareForms" ({ cls := "DeclareForms", name := "pack", desc := "()I" } : Jvm.MethodName) ({ cls := "DeclareForms", name := "pack", desc := "()I" } : Jvm.MethodName)) ∈ zz_big := zz_in 296 rfl rfl
set_option maxRecDepth 100000 in
theorem zk_df600e1d : (Jvm.Cond.code ({ cls := "DeclareForms$Sheet", name := "setSlot", desc := "(I)I" } : Jvm.MethodName) prog_5_method_14_code (4 : Nat) (Option.some Jvm.ClassFile.FieldType.int)) ∈ zz_big := zz_in 555 rfl rfl
set_option maxRecDepth 100000 in
theorem zk_a0e93d66 : (Jvm.Cond.methodLink "DeclareForms" (173 : Nat) ({ cls := "DeclareForms$Sheet", name := "setSlot", desc := "(I)I" } : Jvm.MethodName)) ∈ zz_big := zz_in 552 rfl rfl
set_option maxRecDepth 100000 in
theorem zk_27d8dca4 : (Jvm.Cond.instanceMethod ({ cls := "DeclareForms$Sheet", name := "setSlot", desc := "(I)I" } : Jvm.MethodName)) ∈ zz_big := zz_in 553 rfl rfl
set_option maxRecDepth 100000 in
theorem zk_b2a7dedc : (Jvm.Cond.selects "DeclareForms$Sheet" ({ cls := "DeclareForms$Sheet", name := "setSlot", desc := "(I)I" } : Jvm.MethodName) ({ cls := "DeclareForms$Sheet", name := "setSlot", desc := "(I)I" } : Jvm.MethodName)) ∈ zz_big := zz_in 554 rfl rfl
set_option maxRecDepth 100000 in
theorem zk_86bf3162 : (Jvm.Cond.code ({ cls := "DeclareForms", name := "packedByte", desc := "(II)B" } : Jvm.MethodName) prog_1_method_26_code (3 : Nat) (Option.some Jvm.ClassFile.FieldType.byte)) ∈ zz_big := zz_in 559 rfl rfl
set_option maxRecDepth 100000 in
theorem zk_0c73a672 : (Jvm.Cond.methodLink "DeclareForms" (176 : Nat) ({ cls := "DeclareForms", name := "packedByte", desc := "(II)B" } : Jvm.MethodName)) ∈ zz_big := zz_in 556 rfl rfl
set_option maxRecDepth 100000 in
theorem zk_9572301c : (Jvm.Cond.instanceMethod ({ cls := "DeclareForms", name := "packedByte", desc := "(II)B" } : Jvm.MethodName)) ∈ zz_big := zz_in 558 rfl rfl
set_option maxRecDepth 100000 in
theorem zk_d6819786 : Cond.selects "DeclareForms" ⟨"DeclareForms", "packedByte", "(II)B"⟩ ⟨"DeclareForms", "packedByte", "(II)B"⟩ ∈ zz_big := zz_in 10 rfl rfl
set_option maxRecDepth 100000 in
theorem zk_5e3a1e0d : (Jvm.Cond.classLink "DeclareForms" (164 : Nat) "java/lang/IndexOutOfBoundsException") ∈ zz_big := zz_in 533 rfl rfl
set_option maxRecDepth 100000 in
theorem zk_fcc34f65 : (Jvm.Cond.instantiable "java/lang/IndexOutOfBoundsException" (6 : Nat)) ∈ zz_big := zz_in 534 rfl rfl
set_option maxRecDepth 100000 in
theorem zk_8f54f0b8 : (Jvm.Cond.initialized "java/lang/IndexOutOfBoundsException") ∈ zz_big := zz_in 39 rfl rfl
set_option maxRecDepth 100000 in
theorem zk_e10822c6 : (Jvm.Cond.methodLink "DeclareForms$Sheet" (3 : Nat) ({ cls := "java/lang/Object", name := "<init>", desc := "()V" } : Jvm.MethodName)) ∈ zz_big := zz_in 59 rfl rfl
set_option maxRecDepth 100000 in
theorem zk_e5db7b8b : (Jvm.Cond.instanceMethod ({ cls := "java/lang/Object", name := "<init>", desc := "()V" } : Jvm.MethodName)) ∈ zz_big := zz_in 46 rfl rfl
set_option maxRecDepth 100000 in
theorem zk_2e240a33 : (Jvm.Cond.code ({ cls := "java/lang/Object", name := "<init>", desc := "()V" } : Jvm.MethodName) object_method_1_code (1 : Nat) (Option.none : Option Jvm.ClassFile.FieldType)) ∈ zz_big := zz_in 47 rfl rfl
set_option maxRecDepth 100000 in
theorem zk_13eacad5 : (Jvm.Cond.arrayClass Jvm.ClassFile.FieldType.int) ∈ zz_big := zz_in 79 rfl rfl
set_option maxRecDepth 100000 in
theorem zk_3be23d36 : (Jvm.Cond.arrayClass Jvm.ClassFile.FieldType.boolean) ∈ zz_big := zz_in 80 rfl rfl
set_option maxRecDepth 100000 in
theorem zk_329d1fb4 : (Jvm.Cond.methodLink "DeclareForms$Sheet" (19 : Nat) ({ cls := "java/util/Arrays", name := "fill", desc := "([II)V" } : Jvm.MethodName)) ∈ zz_big := zz_in 60 rfl rfl
set_option maxRecDepth 100000 in
theorem zk_13e9cc8e : (Jvm.Cond.static ({ cls := "java/util/Arrays", name := "fill", desc := "([II)V" } : Jvm.MethodName)) ∈ zz_big := zz_in 61 rfl rfl
set_option maxRecDepth 100000 in
theorem zk_da22ca91 : (Jvm.Cond.initialized "java/util/Arrays") ∈ zz_big := zz_in 29 rfl rfl
set_option maxRecDepth 100000 in
theorem zk_c25042f3 : (Jvm.Cond.code ({ cls := "java/util/Arrays", name := "fill", desc := "([II)V" } : Jvm.MethodName) prog_16_method_103_code (4 : Nat) (Option.none : Option Jvm.ClassFile.FieldType)) ∈ zz_big := zz_in 62 rfl rfl
set_option maxRecDepth 100000 in
theorem zk_2e119070 : (Jvm.Cond.methodLink "DeclareForms$Codes" (3 : Nat) ({ cls := "java/lang/Object", name := "<init>", desc := "()V" } : Jvm.MethodName)) ∈ zz_big := zz_in 86 rfl rfl
set_option maxRecDepth 100000 in
theorem zk_e962722d : (Jvm.Cond.methodLink "DeclareForms$Papers" (3 : Nat) ({ cls := "java/lang/Object", name := "<init>", desc := "()V" } : Jvm.MethodName)) ∈ zz_big := zz_in 102 rfl rfl
set_option maxRecDepth 100000 in
theorem zk_4991e548 : (Jvm.Cond.methodLink "DeclareForms$Reader" (3 : Nat) ({ cls := "java/lang/Object", name := "<init>", desc := "()V" } : Jvm.MethodName)) ∈ zz_big := zz_in 121 rfl rfl
set_option maxRecDepth 100000 in
theorem zk_df947653 : (Jvm.Cond.methodLink "DeclareForms" (1 : Nat) ({ cls := "java/lang/Object", name := "<init>", desc := "()V" } : Jvm.MethodName)) ∈ zz_big := zz_in 45 rfl rfl
set_option maxRecDepth 100000 in
theorem zk_a0397f07 : (Jvm.Cond.methodLink "DeclareForms" (9 : Nat) ({ cls := "java/lang/Math", name := "min", desc := "(II)I" } : Jvm.MethodName)) ∈ zz_big := zz_in 48 rfl rfl
set_option maxRecDepth 100000 in
theorem zk_3e7adeb2 : (Jvm.Cond.static ({ cls := "java/lang/Math", name := "min", desc := "(II)I" } : Jvm.MethodName)) ∈ zz_big := zz_in 49 rfl rfl
set_option maxRecDepth 100000 in
theorem zk_281c46dd : (Jvm.Cond.code ({ cls := "java/lang/Math", name := "min", desc := "(II)I" } : Jvm.MethodName) prog_12_method_69_code (2 : Nat) (Option.some Jvm.ClassFile.FieldType.int)) ∈ zz_big := zz_in 50 rfl rfl
set_option maxRecDepth 100000 in
theorem zk_cd699fb6 : (Jvm.Cond.methodLink "DeclareForms" (15 : Nat) ({ cls := "java/lang/Math", name := "max", desc := "(II)I" } : Jvm.MethodName)) ∈ zz_big := zz_in 51 rfl rfl
set_option maxRecDepth 100000 in
theorem zk_af3351a0 : (Jvm.Cond.classLink "DeclareForms" (22 : Nat) "DeclareForms$Sheet") ∈ zz_big := zz_in 54 rfl rfl
set_option maxRecDepth 100000 in
theorem zk_930ee45b : (Jvm.Cond.instantiable "DeclareForms$Sheet" (5 : Nat)) ∈ zz_big := zz_in 55 rfl rfl
set_option maxRecDepth 100000 in
theorem zk_3092ee89 : (Jvm.Cond.code ({ cls := "DeclareForms$Sheet", name := "<init>", desc := "()V" } : Jvm.MethodName) prog_5_method_1_code (1 : Nat) (Option.none : Option Jvm.ClassFile.FieldType)) ∈ zz_big := zz_in 58 rfl rfl
set_option maxRecDepth 100000 in
theorem zk_29ad7562 : (Jvm.Cond.methodLink "DeclareForms" (24 : Nat) ({ cls := "DeclareForms$Sheet", name := "<init>", desc := "()V" } : Jvm.MethodName)) ∈ zz_big := zz_in 56 rfl rfl
set_option maxRecDepth 100000 in
theorem zk_c88da668 : (Jvm.Cond.instanceMethod ({ cls := "DeclareForms$Sheet", name := "<init>", desc := "()V" } : Jvm.MethodName)) ∈ zz_big := zz_in 57 rfl rfl
set_option maxRecDepth 100000 in
theorem zk_c2b61d8d : (Jvm.Cond.classLink "DeclareForms" (29 : Nat) "DeclareForms$Codes") ∈ zz_big := zz_in 81 rfl rfl
set_option maxRecDepth 100000 in
theorem zk_56915c68 : (Jvm.Cond.instantiable "DeclareForms$Codes" (3 : Nat)) ∈ zz_big := zz_in 82 rfl rfl
set_option maxRecDepth 100000 in
theorem zk_e11a494f : (Jvm.Cond.code ({ cls := "DeclareForms$Codes", name := "<init>", desc := "()V" } : Jvm.MethodName) prog_2_method_1_code (1 : Nat) (Option.none : Option Jvm.ClassFile.FieldType)) ∈ zz_big := zz_in 85 rfl rfl
set_option maxRecDepth 100000 in
theorem zk_091531bf : (Jvm.Cond.instanceMethod ({ cls := "DeclareForms$Codes", name := "<init>", desc := "()V" } : Jvm.MethodName)) ∈ zz_big := zz_in 84 rfl rfl
set_option maxRecDepth 100000 in
theorem zk_159f5ac1 : (Jvm.Cond.classLink "DeclareForms" (36 : Nat) "DeclareForms$Papers") ∈ zz_big := zz_in 97 rfl rfl
set_option maxRecDepth 100000 in
theorem zk_6090c1cf : (Jvm.Cond.instantiable "DeclareForms$Papers" (4 : Nat)) ∈ zz_big := zz_in 98 rfl rfl
set_option maxRecDepth 100000 in
theorem zk_ade49cb5 : (Jvm.Cond.code ({ cls := "DeclareForms$Papers", name := "<init>", desc := "()V" } : Jvm.MethodName) prog_3_method_1_code (1 : Nat) (Option.none : Option Jvm.ClassFile.FieldType)) ∈ zz_big := zz_in 101 rfl rfl
set_option maxRecDepth 100000 in
theorem zk_396234eb : (Jvm.Cond.instanceMethod ({ cls := "DeclareForms$Papers", name := "<init>", desc := "()V" } : Jvm.MethodName)) ∈ zz_big := zz_in 100 rfl rfl
set_option maxRecDepth 100000 in
theorem zk_a0bc87e0 : (Jvm.Cond.classLink "DeclareForms" (43 : Nat) "DeclareForms$Reader") ∈ zz_big := zz_in 116 rfl rfl
set_option maxRecDepth 100000 in
theorem zk_596c5848 : (Jvm.Cond.instantiable "DeclareForms$Reader" (9 : Nat)) ∈ zz_big := zz_in 117 rfl rfl
set_option maxRecDepth 100000 in
theorem zk_ece91417 : (Jvm.Cond.code ({ cls := "DeclareForms$Reader", name := "<init>", desc := "()V" } : Jvm.MethodName) prog_4_method_1_code (1 : Nat) (Option.none : Option Jvm.ClassFile.FieldType)) ∈ zz_big := zz_in 120 rfl rfl
set_option maxRecDepth 100000 in
theorem zk_6041b6ef : (Jvm.Cond.instanceMethod ({ cls := "DeclareForms$Reader", name := "<init>", desc := "()V" } : Jvm.MethodName)) ∈ zz_big := zz_in 119 rfl rfl
set_option maxRecDepth 100000 in
theorem zk_fa4d36ba : (Jvm.Cond.initialized "java/lang/Throwable") ∈ zz_big := zz_in 34 rfl rfl
set_option maxRecDepth 100000 in
theorem zk_67869b7e : (Jvm.Cond.superclass "java/lang/Throwable" "java/lang/Object") ∈ zz_big := zz_in 402 rfl rfl
set_option maxRecDepth 100000 in
theorem zk_5f08ecec : (Jvm.Cond.instanceMethod ({ cls := "java/lang/Throwable", name := "fillInStackTrace", desc := "()Ljava/lang/Throwable;" } : Jvm.MethodName)) ∈ zz_big := zz_in 411 rfl rfl
set_option maxRecDepth 100000 in
theorem zk_98a875a3 : (Jvm.Cond.codeSync ({ cls := "java/lang/Throwable", name := "fillInStackTrace", desc := "()Ljava/lang/Throwable;" } : Jvm.MethodName) prog_15_method_18_code (1 : Nat) (Option.some (Jvm.ClassFile.FieldType.object "java/lang/Throwable"))) ∈ zz_big := zz_in 415 rfl rfl
set_option maxRecDepth 100000 in
theorem zk_55bd7dd7 : (Jvm.Cond.instanceMethod ({ cls := "java/lang/Throwable", name := "fillInStackTrace", desc := "(I)Ljava/lang/Throwable;" } : Jvm.MethodName)) ∈ zz_big := zz_in 418 rfl rfl
set_option maxRecDepth 100000 in
theorem zk_fec20eaa : (Jvm.Cond.native ({ cls := "java/lang/Throwable", name := "fillInStackTrace", desc := "(I)Ljava/lang/Throwable;" } : Jvm.MethodName)) ∈ zz_big := zz_in 420 rfl rfl
set_option maxRecDepth 100000 in
theorem zk_db32a18a : (Jvm.Cond.instanceMethod ({ cls := "java/lang/Throwable", name := "<init>", desc := "()V" } : Jvm.MethodName)) ∈ zz_big := zz_in 403 rfl rfl
set_option maxRecDepth 100000 in
theorem zk_cec878a6 : (Jvm.Cond.code ({ cls := "java/lang/Throwable", name := "<init>", desc := "()V" } : Jvm.MethodName) prog_15_method_1_code (1 : Nat) (Option.none : Option Jvm.ClassFile.FieldType)) ∈ zz_big := zz_in 404 rfl rfl
set_option maxRecDepth 100000 in
theorem zk_1ac054b0 : (Jvm.Cond.methodLink "java/lang/Throwable" (1 : Nat) ({ cls := "java/lang/Object", name := "<init>", desc := "()V" } : Jvm.MethodName)) ∈ zz_big := zz_in 405 rfl rfl
set_option maxRecDepth 100000 in
theorem zk_7122e558 : (Jvm.Cond.methodLink "java/lang/Throwable" (27 : Nat) ({ cls := "java/lang/Throwable", name := "fillInStackTrace", desc := "()Ljava/lang/Throwable;" } : Jvm.MethodName)) ∈ zz_big := zz_in 410 rfl rfl
set_option maxRecDepth 100000 in
theorem zk_20e9bda3 : (Jvm.Cond.methodLink "java/lang/Throwable" (202 : Nat) ({ cls := "java/lang/Throwable", name := "fillInStackTrace", desc := "(I)Ljava/lang/Throwable;" } : Jvm.MethodName)) ∈ zz_big := zz_in 416 rfl rfl
set_option maxRecDepth 100000 in
theorem zk_4e284375 : (Jvm.Cond.fieldLink "java/lang/Throwable" (7 : Nat) "java/lang/Throwable" "cause" "Ljava/lang/Throwable;") ∈ zz_big := zz_in 436 rfl rfl
set_option maxRecDepth 100000 in
theorem zk_59f03ea9 : (Jvm.Cond.lays "java/lang/Throwable" "java/lang/Throwable" "cause" "Ljava/lang/Throwable;") ∈ zz_big := zz_in 392 rfl rfl
set_option maxRecDepth 100000 in
theorem zk_489246be : (Jvm.Cond.fieldLink "java/lang/Throwable" (17 : Nat) "java/lang/Throwable" "stackTrace" "[Ljava/lang/StackTraceElement;") ∈ zz_big := zz_in 437 rfl rfl
set_option maxRecDepth 100000 in
theorem zk_b414dc93 : (Jvm.Cond.lays "java/lang/Throwable" "java/lang/Throwable" "stackTrace" "[Ljava/lang/StackTraceElement;") ∈ zz_big := zz_in 394 rfl rfl
set_option maxRecDepth 100000 in
theorem zk_be5591f1 : (Jvm.Cond.fieldLink "java/lang/Throwable" (24 : Nat) "java/lang/Throwable" "suppressedExceptions" "Ljava/util/List;") ∈ zz_big := zz_in 438 rfl rfl
set_option maxRecDepth 100000 in
theorem zk_36886d9b : (Jvm.Cond.lays "java/lang/Throwable" "java/lang/Throwable" "suppressedExceptions" "Ljava/util/List;") ∈ zz_big := zz_in 396 rfl rfl
set_option maxRecDepth 100000 in
theorem zk_01226b2e : (Jvm.Cond.fieldLink "java/lang/Throwable" (13 : Nat) "java/lang/Throwable" "UNASSIGNED_STACK" "[Ljava/lang/StackTraceElement;") ∈ zz_big := zz_in 406 rfl rfl
set_option maxRecDepth 100000 in
theorem zk_0dd78bc2 : (Jvm.Cond.fieldLink "java/lang/Throwable" (20 : Nat) "java/lang/Throwable" "SUPPRESSED_SENTINEL" "Ljava/util/List;") ∈ zz_big := zz_in 408 rfl rfl
set_option maxRecDepth 100000 in
theorem zk_fdd6928d : (Jvm.Cond.lays "java/lang/Throwable" "java/lang/Throwable" "detailMessage" "Ljava/lang/String;") ∈ zz_big := zz_in 398 rfl rfl
set_option maxRecDepth 100000 in
theorem zk_6af9b992 : (Jvm.Cond.instanceMethod ({ cls := "java/lang/Throwable", name := "<init>", desc := "(Ljava/lang/String;)V" } : Jvm.MethodName)) ∈ zz_big := zz_in 432 rfl rfl
set_option maxRecDepth 100000 in
theorem zk_409dbf62 : (Jvm.Cond.code ({ cls := "java/lang/Throwable", name := "<init>", desc := "(Ljava/lang/String;)V" } : Jvm.MethodName) prog_15_method_2_code (2 : Nat) (Option.none : Option Jvm.ClassFile.FieldType)) ∈ zz_big := zz_in 433 rfl rfl
set_option maxRecDepth 100000 in
theorem zk_5cc98183 : (Jvm.Cond.fieldLink "java/lang/Throwable" (31 : Nat) "java/lang/Throwable" "detailMessage" "Ljava/lang/String;") ∈ zz_big := zz_in 435 rfl rfl
set_option maxRecDepth 100000 in
theorem zk_7a0dbe2d : (Jvm.Cond.instanceMethod ({ cls := "java/lang/IllegalStateException", name := "<init>", desc := "(Ljava/lang/String;)V" } : Jvm.MethodName)) ∈ zz_big := zz_in 423 rfl rfl
set_option maxRecDepth 100000 in
theorem zk_6c43f3ab : (Jvm.Cond.code ({ cls := "java/lang/IllegalStateException", name := "<init>", desc := "(Ljava/lang/String;)V" } : Jvm.MethodName) prog_10_method_2_code (2 : Nat) (Option.none : Option Jvm.ClassFile.FieldType)) ∈ zz_big := zz_in 424 rfl rfl
set_option maxRecDepth 100000 in
theorem zk_3176fd44 : (Jvm.Cond.methodLink "java/lang/IllegalStateException" (7 : Nat) ({ cls := "java/lang/RuntimeException", name := "<init>", desc := "(Ljava/lang/String;)V" } : Jvm.MethodName)) ∈ zz_big := zz_in 425 rfl rfl
set_option maxRecDepth 100000 in
theorem zk_7779c007 : (Jvm.Cond.instanceMethod ({ cls := "java/lang/RuntimeException", name := "<init>", desc := "(Ljava/lang/String;)V" } : Jvm.MethodName)) ∈ zz_big := zz_in 426 rfl rfl
set_option maxRecDepth 100000 in
theorem zk_f7de83b8 : (Jvm.Cond.code ({ cls := "java/lang/RuntimeException", name := "<init>", desc := "(Ljava/lang/String;)V" } : Jvm.MethodName) prog_13_method_2_code (2 : Nat) (Option.none : Option Jvm.ClassFile.FieldType)) ∈ zz_big := zz_in 427 rfl rfl
set_option maxRecDepth 100000 in
theorem zk_f74e98ca : (Jvm.Cond.methodLink "java/lang/RuntimeException" (7 : Nat) ({ cls := "java/lang/Exception", name := "<init>", desc := "(Ljava/lang/String;)V" } : Jvm.MethodName)) ∈ zz_big := zz_in 428 rfl rfl
set_option maxRecDepth 100000 in
theorem zk_cf70a5fd : (Jvm.Cond.instanceMethod ({ cls := "java/lang/Exception", name := "<init>", desc := "(Ljava/lang/String;)V" } : Jvm.MethodName)) ∈ zz_big := zz_in 429 rfl rfl
set_option maxRecDepth 100000 in
theorem zk_77cfe5a2 : (Jvm.Cond.code ({ cls := "java/lang/Exception", name := "<init>", desc := "(Ljava/lang/String;)V" } : Jvm.MethodName) prog_8_method_2_code (2 : Nat) (Option.none : Option Jvm.ClassFile.FieldType)) ∈ zz_big := zz_in 430 rfl rfl
set_option maxRecDepth 100000 in
theorem zk_761f0bc2 : (Jvm.Cond.methodLink "java/lang/Exception" (7 : Nat) ({ cls := "java/lang/Throwable", name := "<init>", desc := "(Ljava/lang/String;)V" } : Jvm.MethodName)) ∈ zz_big := zz_in 431 rfl rfl
set_option maxRecDepth 100000 in
theorem zk_fafbd06d : (Jvm.Cond.methodLink "DeclareForms" (65 : Nat) ({ cls := "java/lang/IllegalStateException", name := "<init>", desc := "(Ljava/lang/String;)V" } : Jvm.MethodName)) ∈ zz_big := zz_in 422 rfl rfl
set_option maxRecDepth 100000 in
theorem zk_bf666684 : (Jvm.Cond.selects "java/lang/IllegalStateException" ({ cls := "java/lang/Throwable", name := "fillInStackTrace", desc := "(I)Ljava/lang/Throwable;" } : Jvm.MethodName) ({ cls := "java/lang/Throwable", name := "fillInStackTrace", desc := "(I)Ljava/lang/Throwable;" } : Jvm.MethodName)) ∈ zz_big := zz_in 389 rfl rfl
set_option maxRecDepth 100000 in
theorem zk_ed1b9d47 : (Jvm.Cond.selects "java/lang/IllegalStateException" ({ cls := "java/lang/Throwable", name := "fillInStackTrace", desc := "()Ljava/lang/Throwable;" } : Jvm.MethodName) ({ cls := "java/lang/Throwable", name := "fillInStackTrace", desc := "()Ljava/lang/Throwable;" } : Jvm.MethodName)) ∈ zz_big := zz_in 390 rfl rfl
set_option maxRecDepth 100000 in
theorem zk_91251f19 : (Jvm.Cond.lays "java/lang/IllegalStateException" "java/lang/Throwable" "cause" "Ljava/lang/Throwable;") ∈ zz_big := zz_in 391 rfl rfl
set_option maxRecDepth 100000 in
theorem zk_1171eac0 : (Jvm.Cond.lays "java/lang/IllegalStateException" "java/lang/Throwable" "stackTrace" "[Ljava/lang/StackTraceElement;") ∈ zz_big := zz_in 393 rfl rfl
set_option maxRecDepth 100000 in
theorem zk_a8bd36be : (Jvm.Cond.lays "java/lang/IllegalStateException" "java/lang/Throwable" "suppressedExceptions" "Ljava/util/List;") ∈ zz_big := zz_in 395 rfl rfl
set_option maxRecDepth 100000 in
theorem zk_8f7a7a90 : (Jvm.Cond.lays "java/lang/IllegalStateException" "java/lang/Throwable" "detailMessage" "Ljava/lang/String;") ∈ zz_big := zz_in 397 rfl rfl
set_option maxRecDepth 100000 in
theorem zk_78eb55a6 : (Jvm.Cond.fieldLink "java/lang/Throwable" (198 : Nat) "java/lang/Throwable" "backtrace" "Ljava/lang/Object;") ∈ zz_big := zz_in 401 rfl rfl
set_option maxRecDepth 100000 in
theorem zk_fd8db062 : (Jvm.Cond.lays "java/lang/Throwable" "java/lang/Throwable" "backtrace" "Ljava/lang/Object;") ∈ zz_big := zz_in 400 rfl rfl
set_option maxRecDepth 100000 in
theorem zk_64fd3870 : (Jvm.Cond.lays "java/lang/IllegalStateException" "java/lang/Throwable" "backtrace" "Ljava/lang/Object;") ∈ zz_big := zz_in 399 rfl rfl
set_option maxRecDepth 100000 in
theorem zk_3c33913c : (Jvm.Cond.instanceMethod ({ cls := "java/lang/IllegalArgumentException", name := "<init>", desc := "(Ljava/lang/String;)V" } : Jvm.MethodName)) ∈ zz_big := zz_in 472 rfl rfl
set_option maxRecDepth 100000 in
theorem zk_cf3ecd54 : (Jvm.Cond.code ({ cls := "java/lang/IllegalArgumentException", name := "<init>", desc := "(Ljava/lang/String;)V" } : Jvm.MethodName) prog_9_method_2_code (2 : Nat) (Option.none : Option Jvm.ClassFile.FieldType)) ∈ zz_big := zz_in 473 rfl rfl
set_option maxRecDepth 100000 in
theorem zk_d84c2dea : (Jvm.Cond.methodLink "java/lang/IllegalArgumentException" (7 : Nat) ({ cls := "java/lang/RuntimeException", name := "<init>", desc := "(Ljava/lang/String;)V" } : Jvm.MethodName)) ∈ zz_big := zz_in 474 rfl rfl
set_option maxRecDepth 100000 in
theorem zk_2d5e6c73 : (Jvm.Cond.methodLink "DeclareForms" (95 : Nat) ({ cls := "java/lang/IllegalArgumentException", name := "<init>", desc := "(Ljava/lang/String;)V" } : Jvm.MethodName)) ∈ zz_big := zz_in 471 rfl rfl
set_option maxRecDepth 100000 in
theorem zk_51313916 : (Jvm.Cond.selects "java/lang/IllegalArgumentException" ({ cls := "java/lang/Throwable", name := "fillInStackTrace", desc := "(I)Ljava/lang/Throwable;" } : Jvm.MethodName) ({ cls := "java/lang/Throwable", name := "fillInStackTrace", desc := "(I)Ljava/lang/Throwable;" } : Jvm.MethodName)) ∈ zz_big := zz_in 464 rfl rfl
set_option maxRecDepth 100000 in
theorem zk_979e11e0 : (Jvm.Cond.selects "java/lang/IllegalArgumentException" ({ cls := "java/lang/Throwable", name := "fillInStackTrace", desc := "()Ljava/lang/Throwable;" } : Jvm.MethodName) ({ cls := "java/lang/Throwable", name := "fillInStackTrace", desc := "()Ljava/lang/Throwable;" } : Jvm.MethodName)) ∈ zz_big := zz_in 413 rfl rfl
set_option maxRecDepth 100000 in
theorem zk_60e1f411 : (Jvm.Cond.lays "java/lang/IllegalArgumentException" "java/lang/Throwable" "cause" "Ljava/lang/Throwable;") ∈ zz_big := zz_in 465 rfl rfl
set_option maxRecDepth 100000 in
theorem zk_55945a8f : (Jvm.Cond.lays "java/lang/IllegalArgumentException" "java/lang/Throwable" "stackTrace" "[Ljava/lang/StackTraceElement;") ∈ zz_big := zz_in 466 rfl rfl
set_option maxRecDepth 100000 in
theorem zk_2f4c39a4 : (Jvm.Cond.lays "java/lang/IllegalArgumentException" "java/lang/Throwable" "suppressedExceptions" "Ljava/util/List;") ∈ zz_big := zz_in 467 rfl rfl
set_option maxRecDepth 100000 in
theorem zk_1c388891 : (Jvm.Cond.lays "java/lang/IllegalArgumentException" "java/lang/Throwable" "detailMessage" "Ljava/lang/String;") ∈ zz_big := zz_in 468 rfl rfl
set_option maxRecDepth 100000 in
theorem zk_67a92c4c : (Jvm.Cond.lays "java/lang/IllegalArgumentException" "java/lang/Throwable" "backtrace" "Ljava/lang/Object;") ∈ zz_big := zz_in 469 rfl rfl
set_option maxRecDepth 100000 in
theorem zk_586448f6 : (Jvm.Cond.instanceMethod ({ cls := "java/lang/IndexOutOfBoundsException", name := "<init>", desc := "(Ljava/lang/String;)V" } : Jvm.MethodName)) ∈ zz_big := zz_in 544 rfl rfl
set_option maxRecDepth 100000 in
theorem zk_d26cbdf1 : (Jvm.Cond.code ({ cls := "java/lang/IndexOutOfBoundsException", name := "<init>", desc := "(Ljava/lang/String;)V" } : Jvm.MethodName) prog_11_method_2_code (2 : Nat) (Option.none : Option Jvm.ClassFile.FieldType)) ∈ zz_big := zz_in 545 rfl rfl
set_option maxRecDepth 100000 in
theorem zk_889b29b4 : (Jvm.Cond.methodLink "java/lang/IndexOutOfBoundsException" (7 : Nat) ({ cls := "java/lang/RuntimeException", name := "<init>", desc := "(Ljava/lang/String;)V" } : Jvm.MethodName)) ∈ zz_big := zz_in 546 rfl rfl
set_option maxRecDepth 100000 in
theorem zk_290fe378 : (Jvm.Cond.methodLink "DeclareForms" (168 : Nat) ({ cls := "java/lang/IndexOutOfBoundsException", name := "<init>", desc := "(Ljava/lang/String;)V" } : Jvm.MethodName)) ∈ zz_big := zz_in 543 rfl rfl
set_option maxRecDepth 100000 in
theorem zk_185c5a3b : (Jvm.Cond.selects "java/lang/IndexOutOfBoundsException" ({ cls := "java/lang/Throwable", name := "fillInStackTrace", desc := "(I)Ljava/lang/Throwable;" } : Jvm.MethodName) ({ cls := "java/lang/Throwable", name := "fillInStackTrace", desc := "(I)Ljava/lang/Throwable;" } : Jvm.MethodName)) ∈ zz_big := zz_in 536 rfl rfl
set_option maxRecDepth 100000 in
theorem zk_02fcbcfa : (Jvm.Cond.selects "java/lang/IndexOutOfBoundsException" ({ cls := "java/lang/Throwable", name := "fillInStackTrace", desc := "()Ljava/lang/Throwable;" } : Jvm.MethodName) ({ cls := "java/lang/Throwable", name := "fillInStackTrace", desc := "()Ljava/lang/Throwable;" } : Jvm.MethodName)) ∈ zz_big := zz_in 414 rfl rfl
set_option maxRecDepth 100000 in
theorem zk_06218b88 : (Jvm.Cond.lays "java/lang/IndexOutOfBoundsException" "java/lang/Throwable" "cause" "Ljava/lang/Throwable;") ∈ zz_big := zz_in 537 rfl rfl
set_option maxRecDepth 100000 in
theorem zk_f2b89a5e : (Jvm.Cond.lays "java/lang/IndexOutOfBoundsException" "java/lang/Throwable" "stackTrace" "[Ljava/lang/StackTraceElement;") ∈ zz_big := zz_in 538 rfl rfl
set_option maxRecDepth 100000 in
theorem zk_3cd493df : (Jvm.Cond.lays "java/lang/IndexOutOfBoundsException" "java/lang/Throwable" "suppressedExceptions" "Ljava/util/List;") ∈ zz_big := zz_in 539 rfl rfl
set_option maxRecDepth 100000 in
theorem zk_b94e71c8 : (Jvm.Cond.lays "java/lang/IndexOutOfBoundsException" "java/lang/Throwable" "detailMessage" "Ljava/lang/String;") ∈ zz_big := zz_in 540 rfl rfl
set_option maxRecDepth 100000 in
theorem zk_4101127f : (Jvm.Cond.lays "java/lang/IndexOutOfBoundsException" "java/lang/Throwable" "backtrace" "Ljava/lang/Object;") ∈ zz_big := zz_in 541 rfl rfl
set_option maxRecDepth 100000 in
theorem zk_e13bd24a : (Jvm.Cond.laysFinal "DeclareForms$Sheet" "DeclareForms$Sheet" "values" "[I") ∈ zz_big := zz_in 68 rfl rfl
set_option maxRecDepth 100000 in
theorem zk_742744d2 : (Jvm.Cond.laysFinal "DeclareForms$Sheet" "DeclareForms$Sheet" "open" "[Z") ∈ zz_big := zz_in 70 rfl rfl
set_option maxRecDepth 100000 in
theorem zk_387b9420 : (Jvm.Cond.lays "DeclareForms$Sheet" "DeclareForms$Sheet" "made" "I") ∈ zz_big := zz_in 72 rfl rfl
set_option maxRecDepth 100000 in
theorem zk_21aad43b : (Jvm.Cond.lays "DeclareForms$Sheet" "DeclareForms$Sheet" "opened" "I") ∈ zz_big := zz_in 74 rfl rfl
set_option maxRecDepth 100000 in
theorem zk_eae34320 : (Jvm.Cond.lays "DeclareForms$Sheet" "DeclareForms$Sheet" "filled" "I") ∈ zz_big := zz_in 76 rfl rfl
set_option maxRecDepth 100000 in
theorem zk_0877a309 : (Jvm.Cond.laysFinal "DeclareForms$Codes" "DeclareForms$Codes" "values" "[I") ∈ zz_big := zz_in 90 rfl rfl
set_option maxRecDepth 100000 in
theorem zk_c1ec5e45 : (Jvm.Cond.laysFinal "DeclareForms$Codes" "DeclareForms$Codes" "lastDays" "[I") ∈ zz_big := zz_in 92 rfl rfl
set_option maxRecDepth 100000 in
theorem zk_af4afb6e : (Jvm.Cond.lays "DeclareForms$Codes" "DeclareForms$Codes" "held" "I") ∈ zz_big := zz_in 94 rfl rfl
set_option maxRecDepth 100000 in
theorem zk_663a187a : (Jvm.Cond.laysFinal "DeclareForms$Papers" "DeclareForms$Papers" "numbers" "[I") ∈ zz_big := zz_in 107 rfl rfl
set_option maxRecDepth 100000 in
theorem zk_033d4683 : (Jvm.Cond.laysFinal "DeclareForms$Papers" "DeclareForms$Papers" "balances" "[I") ∈ zz_big := zz_in 109 rfl rfl
set_option maxRecDepth 100000 in
theorem zk_5f0772fe : (Jvm.Cond.laysFinal "DeclareForms$Papers" "DeclareForms$Papers" "drawn" "[I") ∈ zz_big := zz_in 111 rfl rfl
set_option maxRecDepth 100000 in
theorem zk_0f7e5384 : (Jvm.Cond.lays "DeclareForms$Papers" "DeclareForms$Papers" "held" "I") ∈ zz_big := zz_in 113 rfl rfl
set_option maxRecDepth 100000 in
theorem zk_9215b0e2 : (Jvm.Cond.lays "DeclareForms$Reader" "DeclareForms$Reader" "place" "I") ∈ zz_big := zz_in 131 rfl rfl
set_option maxRecDepth 100000 in
theorem zk_db6f4b54 : (Jvm.Cond.lays "DeclareForms$Reader" "DeclareForms$Reader" "rowKind" "I") ∈ zz_big := zz_in 133 rfl rfl
set_option maxRecDepth 100000 in
theorem zk_47b3c243 : (Jvm.Cond.lays "DeclareForms$Reader" "DeclareForms$Reader" "fields" "I") ∈ zz_big := zz_in 135 rfl rfl
set_option maxRecDepth 100000 in
theorem zk_ce9eea49 : (Jvm.Cond.lays "DeclareForms$Reader" "DeclareForms$Reader" "fieldsLeft" "I") ∈ zz_big := zz_in 137 rfl rfl
set_option maxRecDepth 100000 in
theorem zk_f9025a3e : (Jvm.Cond.lays "DeclareForms$Reader" "DeclareForms$Reader" "rowField" "I") ∈ zz_big := zz_in 139 rfl rfl
set_option maxRecDepth 100000 in
theorem zk_0dce1584 : (Jvm.Cond.lays "DeclareForms$Reader" "DeclareForms$Reader" "lastSlot" "I") ∈ zz_big := zz_in 141 rfl rfl
set_option maxRecDepth 100000 in
theorem zk_fefec9c4 : (Jvm.Cond.lays "DeclareForms$Reader" "DeclareForms$Reader" "rowValue" "J") ∈ zz_big := zz_in 143 rfl rfl
set_option maxRecDepth 100000 in
theorem zk_219d4711 : (Jvm.Cond.lays "DeclareForms$Reader" "DeclareForms$Reader" "whole" "I") ∈ zz_big := zz_in 145 rfl rfl
set_option maxRecDepth 100000 in
theorem zk_75b5fd40 : (Jvm.Cond.lays "DeclareForms$Reader" "DeclareForms$Reader" "latest" "I") ∈ zz_big := zz_in 147 rfl rfl
set_option maxRecDepth 100000 in
theorem zk_7099d0a8 : (Jvm.Cond.laysFinal "DeclareForms" "DeclareForms" "kind" "I") ∈ zz_big := zz_in 157 rfl rfl
set_option maxRecDepth 100000 in
theorem zk_9c092f20 : (Jvm.Cond.laysFinal "DeclareForms" "DeclareForms" "sheet" "LDeclareForms$Sheet;") ∈ zz_big := zz_in 159 rfl rfl
set_option maxRecDepth 100000 in
theorem zk_6cf9c086 : (Jvm.Cond.laysFinal "DeclareForms" "DeclareForms" "codes" "LDeclareForms$Codes;") ∈ zz_big := zz_in 161 rfl rfl
set_option maxRecDepth 100000 in
theorem zk_aad5e34d : (Jvm.Cond.laysFinal "DeclareForms" "DeclareForms" "papers" "LDeclareForms$Papers;") ∈ zz_big := zz_in 163 rfl rfl
set_option maxRecDepth 100000 in
theorem zk_3c55d43e : (Jvm.Cond.laysFinal "DeclareForms" "DeclareForms" "reader" "LDeclareForms$Reader;") ∈ zz_big := zz_in 165 rfl rfl
set_option maxRecDepth 100000 in
theorem zk_5de0e94a : (Jvm.Cond.lays "DeclareForms" "DeclareForms" "today" "I") ∈ zz_big := zz_in 167 rfl rfl
set_option maxRecDepth 100000 in
theorem zk_a5d6db1f : (Jvm.Cond.lays "DeclareForms" "DeclareForms" "lodged" "Z") ∈ zz_big := zz_in 169 rfl rfl
theorem zi_S : ∀ w ∈ u_ws zr_S zF_S 5, w ∈ zz_big := by
  intro w hw
  obtain ⟨k, hk, rfl⟩ := List.mem_map.mp hw
  have hk := List.mem_range.mp hk
  match k, hk with
  | 0, _ => exact zk_e13bd24a
  | 1, _ => exact zk_742744d2
  | 2, _ => exact zk_387b9420
  | 3, _ => exact zk_21aad43b
  | 4, _ => exact zk_eae34320
  | (j + 5), h => omega
theorem zi_C : ∀ w ∈ u_ws zr_C zF_C 3, w ∈ zz_big := by
  intro w hw
  obtain ⟨k, hk, rfl⟩ := List.mem_map.mp hw
  have hk := List.mem_range.mp hk
  match k, hk with
  | 0, _ => exact zk_0877a309
  | 1, _ => exact zk_c1ec5e45
  | 2, _ => exact zk_af4afb6e
  | (j + 3), h => omega
theorem zi_P : ∀ w ∈ u_ws zr_P zF_P 4, w ∈ zz_big := by
  intro w hw
  obtain ⟨k, hk, rfl⟩ := List.mem_map.mp hw
  have hk := List.mem_range.mp hk
  match k, hk with
  | 0, _ => exact zk_663a187a
  | 1, _ => exact zk_033d4683
  | 2, _ => exact zk_5f0772fe
  | 3, _ => exact zk_0f7e5384
  | (j + 4), h => omega
theorem zi_R : ∀ w ∈ u_ws zr_R zF_R 9, w ∈ zz_big := by
  intro w hw
  obtain ⟨k, hk, rfl⟩ := List.mem_map.mp hw
  have hk := List.mem_range.mp hk
  match k, hk with
  | 0, _ => exact zk_9215b0e2
  | 1, _ => exact zk_db6f4b54
  | 2, _ => exact zk_47b3c243
  | 3, _ => exact zk_ce9eea49
  | 4, _ => exact zk_f9025a3e
  | 5, _ => exact zk_0dce1584
  | 6, _ => exact zk_fefec9c4
  | 7, _ => exact zk_219d4711
  | 8, _ => exact zk_75b5fd40
  | (j + 9), h => omega
theorem zi_X : ∀ w ∈ u_ws zr_X zF_X 7, w ∈ zz_big := by
  intro w hw
  obtain ⟨k, hk, rfl⟩ := List.mem_map.mp hw
  have hk := List.mem_range.mp hk
  match k, hk with
  | 0, _ => exact zk_7099d0a8
  | 1, _ => exact zk_9c092f20
  | 2, _ => exact zk_6cf9c086
  | 3, _ => exact zk_aad5e34d
  | 4, _ => exact zk_3c55d43e
  | 5, _ => exact zk_5de0e94a
  | 6, _ => exact zk_a5d6db1f
  | (j + 7), h => omega
end
section
/-! METHODS THAT MAY THROW -/
def zt_FE (first t : State) (L : List Loc) (k n : Nat) : Prop := first.WarmedH t.vm ∧ first.sameButNew ({ t with vm := first.vm } : State) L k n
def zt_Met (l : Launch) (y : MethodName) (ws : List Cond) (rm : Room) (Pc : Array Value → State → Prop) (Qc : Array Value → State → Outcome → State → Prop) (mc ms : Nat) (free : Addr → Prop) : Prop :=
  MetFree l y (headSpec ws rm) Pc (fun _ _ _ _ _ => True) (fun a st o t => Qc a st o t ∧ ∃ L, zt_FE st t L mc ms ∧ ∀ q ∈ L, free q.base)
def zt_MQ (below : List Frame) (Qc : Array Value → State → Outcome → State → Prop) (a : Array Value) (s : State) (mc ms : Nat) (free : Addr → Prop) : State → Prop := fun t =>
  ∃ o, t.status = .running ∧ Ended t below o ∧ Qc a s o t ∧ ∃ L, zt_FE s t L mc ms ∧ ∀ q ∈ L, free q.base
theorem zt_ofMQ {below : List Frame} {Qc Qd : Array Value → State → Outcome → State → Prop} {a : Array Value} {s t : State} {mc ms : Nat} {free : Addr → Prop} (hq : ∀ o, Qc a s o t → Qd a s o t) (h : MQ below Qc a s mc ms free t) : zt_MQ below Qd a s mc ms free t := by
  obtain ⟨o, h1, h2, h3, L, hF, hL⟩ := h
  exact ⟨o, h1, h2, hq o h3, L, ⟨hF.2.1, hF.2.2⟩, hL⟩
/-- a static that holds a reference or null, in a cell that is not the method's own -/
def zt_Zs (O n d : String) (A : Nat → Prop) (U : State) (H : Heap) : Prop := ∃ (c : ClassId) (k : Class) (i : Nat) (f : Field) (a : Nat) (cell : Cell) (v : Value), U.vm.findClass O = some c ∧ U.fieldFound? O n d = some (c, k, i, f) ∧ f.isStatic = true ∧ k.statics = some a ∧ H[a]? = some cell ∧ cell.vm.isStatics = true ∧ cell.cls = c ∧ f.slot < cell.slots.size ∧ k.staticTypes[f.slot]? = some f.type ∧ cell.slots[f.slot]? = some v ∧ (v = .null ∨ ∃ t, v = .ref t) ∧ ¬ A a
theorem zt_Zs.moved {O n d : String} {A : Nat → Prop} {u U : State} {H : Heap} (hvm : u.vm.Alike U.vm) (h : zt_Zs O n d A u H) : zt_Zs O n d A U H := by
  obtain ⟨c, k, i, f, a, cell, v, h1, h2, h3, h4, h5, h6, h7, h8, h9, h10⟩ := h
  obtain ⟨k', hi', he⟩ := State.fieldFound?_setVm hvm h2
  exact ⟨c, k', i, f, a, cell, v, by rw [hvm.findClass]; exact h1, hi', h3, by rw [he]; exact h4, h5, h6, h7, h8, by rw [he]; exact h9, h10⟩
theorem zt_Zs.kept {O n d : String} {A : Nat → Prop} {U : State} {H H1 : Heap} (h : zt_Zs O n d A U H) (hq : ∀ a : Nat, a < H.size → ¬ A a → H1[a]? = H[a]?) : zt_Zs O n d A U H1 := by
  obtain ⟨c, k, i, f, a, cell, v, h1, h2, h3, h4, h5, h6, h7, h8, h9, h10, h11, h12⟩ := h
  exact ⟨c, k, i, f, a, cell, v, h1, h2, h3, h4, by rw [hq a (Array.getElem?_eq_some_iff.mp h5).1 h12]; exact h5, h6, h7, h8, h9, h10, h11, h12⟩
theorem zt_Zs.narrow {O n d : String} {A B : Nat → Prop} {U : State} {H : Heap} (h : zt_Zs O n d A U H) (hAB : ∀ q, B q → A q) : zt_Zs O n d B U H := by
  obtain ⟨c, k, i, f, a, cell, v, h1, h2, h3, h4, h5, h6, h7, h8, h9, h10, h11, h12⟩ := h
  exact ⟨c, k, i, f, a, cell, v, h1, h2, h3, h4, h5, h6, h7, h8, h9, h10, h11, fun z => h12 (hAB a z)⟩
theorem zt_Zs.lays {O n d : String} {A : Nat → Prop} {s : State} {args : Array Value} (h : zt_Zs O n d A s s.heap) : (Cond.laysStatic O n d).before args s = true := by
  obtain ⟨c, k, i, f, a, cell, v, h1, h2, h3, h4, h5, h6, h7, h8, h9, h10, h11, h12⟩ := h
  exact Cond.laysStatic_of h1 h2 h3 h4 h5 h6 h7 h8 h9
theorem zt_Zs.isRef {O n d : String} {A : Nat → Prop} {s : State} {args : Array Value} (h : zt_Zs O n d A s s.heap) : (Cond.isRef (.static O n d)).before args s = true := by
  obtain ⟨c, k, i, f, a, cell, v, h1, h2, h3, h4, h5, h6, h7, h8, h9, h10, h11, h12⟩ := h
  have he : (Term.static O n d).eval args s none [] s = cell.slots[f.slot]? := by
    simp [Term.eval, State.fieldNamed?, h2, h3, h4, h5, h6]
  simp only [Cond.before, Cond.holds, Cond.value]
  rw [he, h10]
  rcases h11 with rfl | ⟨t, rfl⟩ <;> rfl
theorem zt_Zs.of {O n d : String} {A : Nat → Prop} {s : State} {args : Array Value} (hl : (Cond.laysStatic O n d).before args s = true) (hr : (Cond.isRef (.static O n d)).before args s = true) (hA : ∀ a : Nat, a < s.heap.size → ¬ A a) : zt_Zs O n d A s s.heap := by
  obtain ⟨c, k, i, f, a, cell, h1, h2, h3, h4, h5, h6, h7, h8, h9⟩ := Cond.laysStatic_spec hl
  obtain ⟨u, hu⟩ := Cond.staticRefV h2 h3 h4 h5 h6 hr
  obtain ⟨v, hv⟩ := u
  refine ⟨c, k, i, f, a, cell, v, h1, h2, h3, h4, h5, h6, h7, h8, h9, hu, ?_, hA a (Array.getElem?_eq_some_iff.mp h5).1⟩
  cases v <;> first | exact Or.inl rfl | exact Or.inr ⟨_, rfl⟩ | (simp [Value.isRef] at hv)
/-- the two statics that an exception's maker reads -/
def zt_Z (A : Nat → Prop) (U : State) : Prop := zt_Zs Bundle.tN "UNASSIGNED_STACK" Bundle.steD A U U.heap ∧ zt_Zs Bundle.tN "SUPPRESSED_SENTINEL" Bundle.listD A U U.heap
def zt_P (D : va_G) (tys : List (ClassId × FieldType)) (sz : Nat) (ws : va_W) : State → Prop := fun U => zz_P D tys sz ws U ∧ zt_Z (va_A ws sz) U
/-- k = 0: it returned F; else it threw an exception of the class xn k, a new cell -/
def zt_End (xn : Nat → String) (k : Nat) (v : Value) (st : State) (oc : Outcome) (t : State) : Prop := (k = 0 ∧ oc = .returned (some v)) ∨ (k ≠ 0 ∧ ∃ (x : Nat) (ce : Cell), oc = .threw x ∧ st.heap.size ≤ x ∧ t.heap[x]? = some ce ∧ ce.vm = .none ∧ st.vm.findClass (xn k) = some ce.cls)
def zt_Qi (D : va_G) (tys : List (ClassId × FieldType)) (A : Nat → Prop) (xn : Nat → String) (k : Nat) (F : Int32) (ws : va_W) : Array Value → State → Outcome → State → Prop := fun _ st oc t => zt_End xn k (.int F) st oc t ∧ zz_B D tys A ws t ∧ va_F A st t
def zt_Ql (D : va_G) (tys : List (ClassId × FieldType)) (A : Nat → Prop) (xn : Nat → String) (k : Nat) (F : Int64) (ws : va_W) : Array Value → State → Outcome → State → Prop := fun _ st oc t => zt_End xn k (.long F) st oc t ∧ zz_B D tys A ws t ∧ va_F A st t
theorem zt_blind {D : va_G} {tys : List (ClassId × FieldType)} {sz : Nat} {ws : va_W} {av : List Value} : FrameBlind (va_Pc av (zt_P D tys sz ws)) := fun a U g mk q => by
  obtain ⟨q0, q1, q2, q3⟩ := q
  exact ⟨q0, (zz_blind a U g mk ⟨q0, q1⟩).2, zt_Zs.moved (u := U) (U := U.calling g mk a) (Vm.Alike.refl U.vm) q2, zt_Zs.moved (u := U) (U := U.calling g mk a) (Vm.Alike.refl U.vm) q3⟩
theorem zt_ofW {l : Launch} {y : MethodName} {b : ByteArray} {n : Nat} {r : Option FieldType} {rm : Room} {av : List Value} {D : va_G} {tys : List (ClassId × FieldType)} {sz : Nat} {ws : va_W} {mc ms : Nat} {Q : (Nat → Prop) → Array Value → State → Outcome → State → Prop}
    (hy : plainName y.cls = true) (hn : (lg_sl av).length ≤ n)
    (body : ∀ (p : Program) (e : Env) (s : State) (m : MethodId) (below : List Frame) (meth : Method) (c : Code) (A : Nat → Prop), zz_C p s m av.toArray meth c b n r y.cls → c.exceptionTable.isEmpty = true → l.admits e → (∀ q : Nat, s.heap.size ≤ q → A q) → va_K D zz_cl tys s → va_P D zz_cl ws s.heap → va_D A ws → zt_Z A s → ∀ ls : Array Slot, lv_has ls n (lv_args 0 av) →
      W p l e rm s m av.toArray below meth c s.heap [] 0 0 (zt_MQ below (Q A) av.toArray s mc ms A) (F0 m 0 ls [])) :
    zt_Met l y (zz_ws y b n r) rm (va_Pc av (zt_P D tys sz ws)) (Q (va_A ws sz)) mc ms (va_A ws sz) := by
  refine MetFree.of_bodyS (code := b) (maxLocals := n) (ret := r) hy ?_ ?_
  · intro args s m h hn0
    obtain ⟨meth, c, h1, h2, h3, h4, h5, h6, -, -⟩ := Cond.code_spec hn0 (atoms_spec (ws := zz_ws y b n r) h _ List.mem_cons_self)
    exact ⟨meth, c, h1, h2, h3, h4, h5, h6⟩
  · intro p e s m args below meth c s₁ B hml hv _
    obtain ⟨rfl, ⟨hsz, hP, hK, hD0, hE⟩, hZ⟩ := hv
    have hts := atoms_spec (ws := zz_ws y b n r) B.pre
    have hown : s.vm.findClass y.cls = some m.cls := findClass_of_methodNamed B.named
    have hexc := BodyLoose.noHandlers B (hts _ List.mem_cons_self)
    subst hsz
    have hD := hD0.self (sz := s.heap.size)
    have hl := lv_entry av (n := n) hn
    have hh0 : s₁.heap = s.heap := by rw [B.state]; rfl
    have K := body p e s m below meth c (va_A ws s.heap.size) ⟨B.exec, B.bytes, B.returns, hml, hown, fun w h => hts w (List.mem_cons_of_mem _ h), B.notSynchronized, hE⟩ hexc B.admits (fun q h => Or.inr h) hK hP hD hZ _ hl
    obtain ⟨t, a1, o, b1, b2, b3⟩ := K s₁ hh0 (Stand.of_body B)
    rw [lg_entry_eq]
    exact ⟨t, o, a1, b1, b2, b3⟩
section ZT
variable {p : Program} {l : Launch} {e : Env} {R : Room} {s : State} {m : MethodId} {args : Array Value} {below : List Frame} {meth : Method} {c : Code} {H : Heap} {locs : List Loc} {cells slots : Nat} {Q : State → Prop}
variable {cc : ByteArray} {pc : Nat} {ls : Array Slot} {rest st0 : List Value} {A : Nat → Prop} {D : va_G} {tys : List (ClassId × FieldType)} {ws : va_W} {xn : Nat → String} {k : Nat}
theorem zt_mono {Q' : State → Prop} {g : JFrame} (h : ∀ t, Q t → Q' t) (w : W p l e R s m args below meth c H locs cells slots Q g) : W p l e R s m args below meth c H locs cells slots Q' g := fun T hT X => by
  obtain ⟨t, a, b⟩ := w T hT X
  exact ⟨t, a, h t b⟩
theorem zt_iret {v F : Int32} (hx : p.tables.exec = Jvm.exec) (hb : c.code = cc) (hr : meth.sig.returnType = some .int) (hlocks : meth.locks = false) (hK : va_K D zz_cl tys s) (hP : va_P D zz_cl ws H) (hD : va_D A ws) (hS : va_S A s.heap H locs) (hdg : decode cc pc = .ok (.ireturn, 1)) (hk : k = 0) (hF : v = F) : W p l e R s m args below meth c H locs cells slots (zt_MQ below (zt_Qi D tys A xn k F ws) args s cells slots A) (F0 m pc ls [.int v]) :=
  zt_mono (fun t h => zt_ofMQ (fun o ⟨⟨r, _, e1, e2, e3⟩, e4⟩ => ⟨Or.inl ⟨hk, by rw [e1, e2]⟩, e3, e4⟩) h) (zz_iret hx hb hr hlocks hK hP hD hS hdg hF)
theorem zt_zret {v F : Int32} {ty : FieldType} (hx : p.tables.exec = Jvm.exec) (hb : c.code = cc) (hr : meth.sig.returnType = some ty) (hlocks : meth.locks = false) (hn : narrow ty (.int v) = .int v) (hK : va_K D zz_cl tys s) (hP : va_P D zz_cl ws H) (hD : va_D A ws) (hS : va_S A s.heap H locs) (hdg : decode cc pc = .ok (.ireturn, 1)) (hk : k = 0) (hF : v = F) : W p l e R s m args below meth c H locs cells slots (zt_MQ below (zt_Qi D tys A xn k F ws) args s cells slots A) (F0 m pc ls [.int v]) :=
  zt_mono (fun t h => zt_ofMQ (fun o ⟨⟨r, _, e1, e2, e3⟩, e4⟩ => ⟨Or.inl ⟨hk, by rw [e1, e2]⟩, e3, e4⟩) h) (zz_zret hx hb hr hlocks hn hK hP hD hS hdg hF)
theorem zt_lret {v F : Int64} (hx : p.tables.exec = Jvm.exec) (hb : c.code = cc) (hr : meth.sig.returnType = some .long) (hlocks : meth.locks = false) (hK : va_K D zz_cl tys s) (hP : va_P D zz_cl ws H) (hD : va_D A ws) (hS : va_S A s.heap H locs) (hdg : decode cc pc = .ok (.lreturn, 1)) (hk : k = 0) (hF : v = F) : W p l e R s m args below meth c H locs cells slots (zt_MQ below (zt_Ql D tys A xn k F ws) args s cells slots A) (F0 m pc ls [.long v]) :=
  zt_mono (fun t h => zt_ofMQ (fun o ⟨⟨r, _, e1, e2, e3⟩, e4⟩ => ⟨Or.inl ⟨hk, by rw [e1, e2]⟩, e3, e4⟩) h) (zz_lret hx hb hr hlocks hK hP hD hS hdg hF)
/-- nothing written: every old cell is as it was -/
theorem zt_old {s t : State} {n k : Nat} (h : s.sameButNew t [] k n) : ∀ q : Nat, q < s.heap.size → t.heap[q]? = s.heap[q]? := by
  intro q hq
  obtain ⟨c0, hc0⟩ : ∃ c0, s.heap[q]? = some c0 := ⟨_, Array.getElem?_eq_getElem hq⟩
  obtain ⟨c', h1, h2, h3, h4⟩ := h.2.2.2.2.2 q c0 hc0
  have h5 : c'.slots = c0.slots := by
    apply Array.ext
    · exact h3
    · intro i hi1 hi2
      have := h4 i (by simp)
      rw [Array.getElem?_eq_getElem hi1, Array.getElem?_eq_getElem hi2] at this
      exact Option.some.inj this
  rw [h1, hc0, h2, h5]
/-- 'throw new X("..")', with nothing written before -/
theorem zt_throw {own X tx : String} {names : List String} {ia ib ic : Nat} (hf : l.flags = pinnedFlags ++ [noTraceFlag]) (hadm : l.admits e) (hx : p.tables.exec = Jvm.exec) (hb : c.code = cc) (hml : c.maxLocals = ls.size) (hlocks : meth.locks = false) (hexc : c.exceptionTable.isEmpty = true) (hown : s.vm.findClass own = some m.cls)
    (hcl : (Cond.classLink own ia X).before args s = true) (hinst : (Cond.instantiable X 6).before args s = true) (hini : (Cond.initialized X).before args s = true) (hstr : ∃ q : Nat, vk_R own ib tx q s)
    (hcls : Bundle.fit X = true) (hnames : ∀ n ∈ names, Bundle.fit n = true) (hat : ∀ a ∈ Bundle.ownAtoms own ic X names, a.before args s = true)
    (hK : va_K D zz_cl tys s) (hP : va_P D zz_cl ws s.heap) (hD : va_D A ws) (hA : ∀ q, s.heap.size ≤ q → A q)
    (hRf : names.length + 3 < R.frames) (hRl : 2 + (13 * (names.length + 1) + 42) ≤ R.locals) (hRc : 1 ≤ R.cells) (hRs : 6 ≤ R.slots)
    (d0 : decode cc pc = .ok (.new ia, 3)) (d3 : decode cc (pc + 3) = .ok (.dup, 1)) (d4 : decode cc (pc + 3 + 1) = .ok (.ldc ib, 2)) (d6 : decode cc (pc + 3 + 1 + 2) = .ok (.invokespecial ic, 3)) (d9 : decode cc (pc + 3 + 1 + 2 + 3) = .ok (.athrow, 1))
    {Qc : Array Value → State → Outcome → State → Prop} (hQ : ∀ (oc : Outcome) (t : State) (x : Nat) (ce : Cell), oc = .threw x → s.heap.size ≤ x → t.heap[x]? = some ce → ce.vm = .none → s.vm.findClass X = some ce.cls → zz_B D tys A ws t → va_F A s t → Qc args s oc t) :
    W p l e R s m args below meth c s.heap [] 0 0 (zt_MQ below Qc args s 1 6 A) (F0 m pc ls []) := by
  refine W.newc hx hb hown hcl hinst hini rfl d0 (by omega) (by omega) (fun cC kC h1 h2 h3 h4 => ?_)
  refine W.eq (g2 := F0 m (pc + 3) ls [.ref s.heap.size]) rfl ?_
  refine lv_dup hx hb d3 rfl ?_
  obtain ⟨q, hq⟩ := hstr
  refine va_ldcS hx hb hown hq d4 ?_
  intro T hT X0
  have htr := Launch.traces_off hf hadm
  obtain ⟨U, st, hrun, hend, hwarm, hsame, ce, hce, hO⟩ := X0.ctorThrowS hx htr hown hcls hnames hat (fun x h => by cases h) h1 h2 (a := s.heap.size)
    (by rw [hT]; show (s.heap.push _)[s.heap.size]? = _; rw [Array.getElem?_push_size]) (Nat.le_refl _) (msg := .ref q) rfl (g := F0 m (pc + 3 + 1 + 2) ls [.ref q, .ref s.heap.size, .ref s.heap.size]) rfl hml.symm rfl rfl (rest := []) rfl (by rw [hb]; exact d6) (by rw [hb]; exact d9)
    (fun x hx' => by rw [Array.isEmpty_iff] at hexc; rw [hexc] at hx'; simp at hx') hRf (by show 2 * 0 + (1 + 0) + _ ≤ _; omega) hlocks
  have hold : ∀ q : Nat, q < s.heap.size → U.heap[q]? = s.heap[q]? := zt_old (t := { U with vm := s.vm }) hsame
  have hge : s.heap.size ≤ U.heap.size := hsame.2.1
  have hP1 : va_P D zz_cl ws U.heap := hP.kept (fun k x hk => hold x.1 ((hP k x hk).lt))
  refine ⟨U, st, .threw s.heap.size, hrun, hend, hQ _ _ s.heap.size ce rfl (Nat.le_refl _) hce hO.vm hO.cls ⟨hP1, va_K.moved hwarm.alike hK, hD⟩ ⟨hge, fun q h1 _ => hold q h1⟩, [], ⟨hwarm, ?_⟩, fun q h => by cases h⟩
  exact hsame
end ZT
/-- of a method that may throw, where it does not: a plain contract -/
theorem zt_plain {l : Launch} {y : MethodName} {ws : List Cond} {rm : Room} {Pc : Array Value → State → Prop} {Qc Qd : Array Value → State → Outcome → State → Prop} {mc ms : Nat} {free : Addr → Prop} (h : zt_Met l y ws rm Pc Qc mc ms free) (hr : ∀ a st o t, Qc a st o t → (∃ v, o = .returned v) ∧ Qd a st o t) : Met l y ws rm Pc Qd mc ms free := by
  intro p e ha hc hk s m args below hf happ hP hK
  obtain ⟨n, o, h1, h2, h3, hq, L, hF, hL⟩ := h p e ha hc hk s m args below hf happ hP hK
  exact ⟨n, o, h1, h2, h3, (hr _ _ _ _ hq).2, L, ⟨(hr _ _ _ _ hq).1, hF.1, hF.2⟩, hL⟩
theorem zt_asi {l : Launch} {y : MethodName} {wl : List Cond} {rm : Room} {Pc : Array Value → State → Prop} {D : va_G} {tys : List (ClassId × FieldType)} {A : Nat → Prop} {xn : Nat → String} {k : Nat} {F : Int32} {ws : va_W} {mc ms : Nat} {free : Addr → Prop} (h : zt_Met l y wl rm Pc (zt_Qi D tys A xn k F ws) mc ms free) (hk : k = 0) : Met l y wl rm Pc (zz_Qi D tys A F ws) mc ms free :=
  zt_plain h (fun a st o t ⟨h1, h2, h3⟩ => by
    rcases h1 with ⟨_, h1⟩ | ⟨h1, _⟩
    · exact ⟨⟨_, h1⟩, ⟨F, (), h1, rfl, h2⟩, h3⟩
    · exact absurd hk h1)
theorem zt_asl {l : Launch} {y : MethodName} {wl : List Cond} {rm : Room} {Pc : Array Value → State → Prop} {D : va_G} {tys : List (ClassId × FieldType)} {A : Nat → Prop} {xn : Nat → String} {k : Nat} {F : Int64} {ws : va_W} {mc ms : Nat} {free : Addr → Prop} (h : zt_Met l y wl rm Pc (zt_Ql D tys A xn k F ws) mc ms free) (hk : k = 0) : Met l y wl rm Pc (zz_Ql D tys A F ws) mc ms free :=
  zt_plain h (fun a st o t ⟨h1, h2, h3⟩ => by
    rcases h1 with ⟨_, h1⟩ | ⟨h1, _⟩
    · exact ⟨⟨_, h1⟩, ⟨F, (), h1, rfl, h2⟩, h3⟩
    · exact absurd hk h1)

theorem za_T {args : Array Value} {s : State} (htB : ∀ w ∈ zz_big, w.before args s = true) {A : Nat → Prop} (hZ : zt_Z A s) : ∀ a ∈ Bundle.throwableAtoms, a.before args s = true := by
  unfold Bundle.throwableAtoms
  exact List.forall_mem_cons.mpr ⟨htB _ zk_fa4d36ba, List.forall_mem_cons.mpr ⟨htB _ zk_67869b7e, List.forall_mem_cons.mpr ⟨htB _ zk_5f08ecec, List.forall_mem_cons.mpr ⟨htB _ zk_98a875a3, List.forall_mem_cons.mpr ⟨htB _ zk_55bd7dd7, List.forall_mem_cons.mpr ⟨htB _ zk_fec20eaa, List.forall_mem_cons.mpr ⟨htB _ zk_db32a18a, List.forall_mem_cons.mpr ⟨htB _ zk_cec878a6, List.forall_mem_cons.mpr ⟨htB _ zk_e5db7b8b, List.forall_mem_cons.mpr ⟨htB _ zk_2e240a33, List.forall_mem_cons.mpr ⟨htB _ zk_1ac054b0, List.forall_mem_cons.mpr ⟨htB _ zk_7122e558, List.forall_mem_cons.mpr ⟨htB _ zk_20e9bda3, List.forall_mem_cons.mpr ⟨htB _ zk_4e284375, List.forall_mem_cons.mpr ⟨htB _ zk_59f03ea9, List.forall_mem_cons.mpr ⟨htB _ zk_489246be, List.forall_mem_cons.mpr ⟨htB _ zk_b414dc93, List.forall_mem_cons.mpr ⟨htB _ zk_be5591f1, List.forall_mem_cons.mpr ⟨htB _ zk_36886d9b, List.forall_mem_cons.mpr ⟨htB _ zk_01226b2e, List.forall_mem_cons.mpr ⟨hZ.1.lays, List.forall_mem_cons.mpr ⟨htB _ zk_0dd78bc2, List.forall_mem_cons.mpr ⟨hZ.2.lays, List.forall_mem_cons.mpr ⟨htB _ zk_fdd6928d, (fun _ h => absurd h List.not_mem_nil)⟩⟩⟩⟩⟩⟩⟩⟩⟩⟩⟩⟩⟩⟩⟩⟩⟩⟩⟩⟩⟩⟩⟩⟩
theorem za_S {args : Array Value} {s : State} (htB : ∀ w ∈ zz_big, w.before args s = true) : ∀ a ∈ Bundle.throwableSAtoms, a.before args s = true := by
  unfold Bundle.throwableSAtoms
  exact List.forall_mem_cons.mpr ⟨htB _ zk_6af9b992, List.forall_mem_cons.mpr ⟨htB _ zk_409dbf62, List.forall_mem_cons.mpr ⟨htB _ zk_5cc98183, List.forall_mem_cons.mpr ⟨htB _ zk_fdd6928d, (fun _ h => absurd h List.not_mem_nil)⟩⟩⟩⟩
theorem za_0 {args : Array Value} {s : State} (htB : ∀ w ∈ zz_big, w.before args s = true) (hE : zz_en s) {A : Nat → Prop} (hZ : zt_Z A s) : ∀ a ∈ Bundle.ownAtoms "DeclareForms" 65 "java/lang/IllegalStateException" ["java/lang/RuntimeException", "java/lang/Exception"], a.before args s = true := by
  unfold Bundle.ownAtoms
  refine List.forall_mem_append.mpr ⟨List.forall_mem_append.mpr ⟨List.forall_mem_append.mpr ⟨za_T htB hZ, za_S htB⟩, ?_⟩, ?_⟩
  · exact List.forall_mem_append.mpr ⟨List.forall_mem_cons.mpr ⟨htB _ zk_7a0dbe2d, List.forall_mem_cons.mpr ⟨htB _ zk_6c43f3ab, List.forall_mem_cons.mpr ⟨htB _ zk_3176fd44, List.forall_mem_cons.mpr ⟨htB _ zk_7779c007, List.forall_mem_cons.mpr ⟨va_Nw.use rfl (hE.2.2.1 _ (List.mem_of_getElem? (i := 0) rfl)), (fun _ h => absurd h List.not_mem_nil)⟩⟩⟩⟩⟩, List.forall_mem_append.mpr ⟨List.forall_mem_cons.mpr ⟨htB _ zk_7779c007, List.forall_mem_cons.mpr ⟨htB _ zk_f7de83b8, List.forall_mem_cons.mpr ⟨htB _ zk_f74e98ca, List.forall_mem_cons.mpr ⟨htB _ zk_cf70a5fd, List.forall_mem_cons.mpr ⟨va_Nw.use rfl (hE.2.2.1 _ (List.mem_of_getElem? (i := 1) rfl)), (fun _ h => absurd h List.not_mem_nil)⟩⟩⟩⟩⟩, List.forall_mem_cons.mpr ⟨htB _ zk_cf70a5fd, List.forall_mem_cons.mpr ⟨htB _ zk_77cfe5a2, List.forall_mem_cons.mpr ⟨htB _ zk_761f0bc2, List.forall_mem_cons.mpr ⟨htB _ zk_6af9b992, List.forall_mem_cons.mpr ⟨va_Nw.use rfl (hE.2.2.1 _ (List.mem_of_getElem? (i := 2) rfl)), (fun _ h => absurd h List.not_mem_nil)⟩⟩⟩⟩⟩⟩⟩
  · exact List.forall_mem_cons.mpr ⟨htB _ zk_fafbd06d, List.forall_mem_cons.mpr ⟨htB _ zk_0493ccc5, List.forall_mem_cons.mpr ⟨va_Nw.use rfl (hE.2.2.2.1 _ (List.mem_of_getElem? (i := 0) rfl)), List.forall_mem_cons.mpr ⟨htB _ zk_bf666684, List.forall_mem_cons.mpr ⟨htB _ zk_ed1b9d47, List.forall_mem_cons.mpr ⟨htB _ zk_91251f19, List.forall_mem_cons.mpr ⟨htB _ zk_1171eac0, List.forall_mem_cons.mpr ⟨htB _ zk_a8bd36be, List.forall_mem_cons.mpr ⟨htB _ zk_8f7a7a90, List.forall_mem_cons.mpr ⟨hZ.1.isRef, List.forall_mem_cons.mpr ⟨hZ.2.isRef, List.forall_mem_cons.mpr ⟨htB _ zk_78eb55a6, List.forall_mem_cons.mpr ⟨htB _ zk_fd8db062, List.forall_mem_cons.mpr ⟨htB _ zk_64fd3870, (fun _ h => absurd h List.not_mem_nil)⟩⟩⟩⟩⟩⟩⟩⟩⟩⟩⟩⟩⟩⟩
theorem za_1 {args : Array Value} {s : State} (htB : ∀ w ∈ zz_big, w.before args s = true) (hE : zz_en s) {A : Nat → Prop} (hZ : zt_Z A s) : ∀ a ∈ Bundle.ownAtoms "DeclareForms" 95 "java/lang/IllegalArgumentException" ["java/lang/RuntimeException", "java/lang/Exception"], a.before args s = true := by
  unfold Bundle.ownAtoms
  refine List.forall_mem_append.mpr ⟨List.forall_mem_append.mpr ⟨List.forall_mem_append.mpr ⟨za_T htB hZ, za_S htB⟩, ?_⟩, ?_⟩
  · exact List.forall_mem_append.mpr ⟨List.forall_mem_cons.mpr ⟨htB _ zk_3c33913c, List.forall_mem_cons.mpr ⟨htB _ zk_cf3ecd54, List.forall_mem_cons.mpr ⟨htB _ zk_d84c2dea, List.forall_mem_cons.mpr ⟨htB _ zk_7779c007, List.forall_mem_cons.mpr ⟨va_Nw.use rfl (hE.2.2.1 _ (List.mem_of_getElem? (i := 0) rfl)), (fun _ h => absurd h List.not_mem_nil)⟩⟩⟩⟩⟩, List.forall_mem_append.mpr ⟨List.forall_mem_cons.mpr ⟨htB _ zk_7779c007, List.forall_mem_cons.mpr ⟨htB _ zk_f7de83b8, List.forall_mem_cons.mpr ⟨htB _ zk_f74e98ca, List.forall_mem_cons.mpr ⟨htB _ zk_cf70a5fd, List.forall_mem_cons.mpr ⟨va_Nw.use rfl (hE.2.2.1 _ (List.mem_of_getElem? (i := 1) rfl)), (fun _ h => absurd h List.not_mem_nil)⟩⟩⟩⟩⟩, List.forall_mem_cons.mpr ⟨htB _ zk_cf70a5fd, List.forall_mem_cons.mpr ⟨htB _ zk_77cfe5a2, List.forall_mem_cons.mpr ⟨htB _ zk_761f0bc2, List.forall_mem_cons.mpr ⟨htB _ zk_6af9b992, List.forall_mem_cons.mpr ⟨va_Nw.use rfl (hE.2.2.1 _ (List.mem_of_getElem? (i := 2) rfl)), (fun _ h => absurd h List.not_mem_nil)⟩⟩⟩⟩⟩⟩⟩
  · exact List.forall_mem_cons.mpr ⟨htB _ zk_2d5e6c73, List.forall_mem_cons.mpr ⟨htB _ zk_04fc2812, List.forall_mem_cons.mpr ⟨va_Nw.use rfl (hE.2.2.2.1 _ (List.mem_of_getElem? (i := 1) rfl)), List.forall_mem_cons.mpr ⟨htB _ zk_51313916, List.forall_mem_cons.mpr ⟨htB _ zk_979e11e0, List.forall_mem_cons.mpr ⟨htB _ zk_60e1f411, List.forall_mem_cons.mpr ⟨htB _ zk_55945a8f, List.forall_mem_cons.mpr ⟨htB _ zk_2f4c39a4, List.forall_mem_cons.mpr ⟨htB _ zk_1c388891, List.forall_mem_cons.mpr ⟨hZ.1.isRef, List.forall_mem_cons.mpr ⟨hZ.2.isRef, List.forall_mem_cons.mpr ⟨htB _ zk_78eb55a6, List.forall_mem_cons.mpr ⟨htB _ zk_fd8db062, List.forall_mem_cons.mpr ⟨htB _ zk_67a92c4c, (fun _ h => absurd h List.not_mem_nil)⟩⟩⟩⟩⟩⟩⟩⟩⟩⟩⟩⟩⟩⟩
theorem za_2 {args : Array Value} {s : State} (htB : ∀ w ∈ zz_big, w.before args s = true) (hE : zz_en s) {A : Nat → Prop} (hZ : zt_Z A s) : ∀ a ∈ Bundle.ownAtoms "DeclareForms" 168 "java/lang/IndexOutOfBoundsException" ["java/lang/RuntimeException", "java/lang/Exception"], a.before args s = true := by
  unfold Bundle.ownAtoms
  refine List.forall_mem_append.mpr ⟨List.forall_mem_append.mpr ⟨List.forall_mem_append.mpr ⟨za_T htB hZ, za_S htB⟩, ?_⟩, ?_⟩
  · exact List.forall_mem_append.mpr ⟨List.forall_mem_cons.mpr ⟨htB _ zk_586448f6, List.forall_mem_cons.mpr ⟨htB _ zk_d26cbdf1, List.forall_mem_cons.mpr ⟨htB _ zk_889b29b4, List.forall_mem_cons.mpr ⟨htB _ zk_7779c007, List.forall_mem_cons.mpr ⟨va_Nw.use rfl (hE.2.2.1 _ (List.mem_of_getElem? (i := 0) rfl)), (fun _ h => absurd h List.not_mem_nil)⟩⟩⟩⟩⟩, List.forall_mem_append.mpr ⟨List.forall_mem_cons.mpr ⟨htB _ zk_7779c007, List.forall_mem_cons.mpr ⟨htB _ zk_f7de83b8, List.forall_mem_cons.mpr ⟨htB _ zk_f74e98ca, List.forall_mem_cons.mpr ⟨htB _ zk_cf70a5fd, List.forall_mem_cons.mpr ⟨va_Nw.use rfl (hE.2.2.1 _ (List.mem_of_getElem? (i := 1) rfl)), (fun _ h => absurd h List.not_mem_nil)⟩⟩⟩⟩⟩, List.forall_mem_cons.mpr ⟨htB _ zk_cf70a5fd, List.forall_mem_cons.mpr ⟨htB _ zk_77cfe5a2, List.forall_mem_cons.mpr ⟨htB _ zk_761f0bc2, List.forall_mem_cons.mpr ⟨htB _ zk_6af9b992, List.forall_mem_cons.mpr ⟨va_Nw.use rfl (hE.2.2.1 _ (List.mem_of_getElem? (i := 2) rfl)), (fun _ h => absurd h List.not_mem_nil)⟩⟩⟩⟩⟩⟩⟩
  · exact List.forall_mem_cons.mpr ⟨htB _ zk_290fe378, List.forall_mem_cons.mpr ⟨htB _ zk_fcc34f65, List.forall_mem_cons.mpr ⟨va_Nw.use rfl (hE.2.2.2.1 _ (List.mem_of_getElem? (i := 2) rfl)), List.forall_mem_cons.mpr ⟨htB _ zk_185c5a3b, List.forall_mem_cons.mpr ⟨htB _ zk_02fcbcfa, List.forall_mem_cons.mpr ⟨htB _ zk_06218b88, List.forall_mem_cons.mpr ⟨htB _ zk_f2b89a5e, List.forall_mem_cons.mpr ⟨htB _ zk_3cd493df, List.forall_mem_cons.mpr ⟨htB _ zk_b94e71c8, List.forall_mem_cons.mpr ⟨hZ.1.isRef, List.forall_mem_cons.mpr ⟨hZ.2.isRef, List.forall_mem_cons.mpr ⟨htB _ zk_78eb55a6, List.forall_mem_cons.mpr ⟨htB _ zk_fd8db062, List.forall_mem_cons.mpr ⟨htB _ zk_4101127f, (fun _ h => absurd h List.not_mem_nil)⟩⟩⟩⟩⟩⟩⟩⟩⟩⟩⟩⟩⟩⟩
/-! CATCHING: an exception that a callee threw comes to a row of the caller's own table -/
theorem zt_goClass {E : CtlPost} {e : Env} {d : Bool} {acts : List Action} {s : State} {f : JFrame} {a : Addr} {Q : Handler → Pre} {x : ExceptionTableEntry} {t : List ExceptionTableEntry} {c : ClassId} {cell : Cell} {vm' : Vm} (hx : covers x f.pc = true) (h0 : x.catchType ≠ 0)
    (hg : (Jvm.resolveClass f.method.cls x.catchType).Gives e.toSetting s.vm (.ok c) vm') (hsz : vm'.classes.size ≤ s.vm.classes.size)
    (hcell : s.heap[a]? = some cell) (hobj : ∀ k, cell.vm ≠ .statics k) (hk : ∃ k, vm'.classes[cell.cls]? = some k) (hc : ∃ k, vm'.classes[c]? = some k) :
    wp (findHandler.go f a (x :: t)) Q E e d acts s ↔ if vm'.assignable cell.cls c = true then Q (.found x.handlerPc) d acts (s.setVm vm') else wp (findHandler.go f a t) Q E e d acts (s.setVm vm') := by
  simp only [covers] at hx
  obtain ⟨ha, ht⟩ := hg.op (op := VmOp.resolveClass f.method.cls x.catchType) rfl
  cases hfit : vm'.assignable cell.cls c <;>
    simp [findHandler.go, hx, h0, ha, ht, hsz, hcell, hobj, hk, hc, hfit, VmOp.dirties, VmOp.acts]
def zt_Find (e : Env) (s : State) (f : JFrame) (a : Addr) (pc : Nat) (vm' : Vm) : Prop := ∀ (Q : Handler → Pre) (E : CtlPost) (d : Bool) (acts : List Action), wp (findHandler f a) Q E e d acts s ↔ Q (.found pc) d acts (s.setVm vm')
theorem zt_stepCatch {e : Env} {s : State} {a : Addr} {f : JFrame} {r : List Frame} {pc : Nat} {vm' : Vm} (hfind : zt_Find e s f a pc vm') :
    (stepThrowing e s a (.java f :: r)).Is ((s.setVm vm').setFrames (.java { f with pc := pc, stack := [.ref a] } :: r)) [] := by
  simp only [stepThrowing, searchFrame, vmDo]
  generalize hr : Sem.go _ e false [] s = res
  obtain ⟨as, rfl, ha⟩ := Sem.eq_ok_of hr (a := Handler.found pc) (s' := s.setVm vm') (acts' := []) (by simp [hfind _ _ _ _])
  exact ⟨rfl, ha⟩
theorem zt_stepsCatch {tb : Tables} {e : Env} {s target : State} {g : JFrame} {c : Code} {below : List Frame} {a : Addr} {pc : Nat} {vm' : Vm} (h : At s g.method c below) (hfind : zt_Find e ((s.setTop g).pushFrame (.throwing a)) g a pc vm')
    (hrest : Steps tb e below ((s.setVm vm').setTop { g with pc := pc, stack := [.ref a] }) target) : Steps tb e below ((s.setTop g).pushFrame (.throwing a)) target := by
  obtain ⟨hgo, hw⟩ := h.throwing a
  refine Steps.head hgo hw ?_
  rw [stepThread_throwing (frames_entered h.top _), (zt_stepCatch (s := (s.setTop g).pushFrame (.throwing a)) hfind).1]
  obtain ⟨g₀, hg⟩ := Option.isSome_iff_exists.mp h.top
  obtain ⟨r, hr⟩ := State.topJava?_eq_some.mp hg
  have hr' : (s.setVm vm').frames = .java g₀ :: r := hr
  rw [State.setTop_of_frames _ hr'] at hrest
  have e1 : (((s.setTop g).pushFrame (.throwing a)).setVm vm') = (((s.setVm vm').setTop g).pushFrame (.throwing a)) := rfl
  rw [e1, State.pushFrame, State.setFrames_setFrames, State.setTop_of_frames _ hr', State.setFrames_setFrames]
  rw [hr]
  exact hrest
section ZC
variable {p : Program} {l : Launch} {e : Env} {R : Room} {s : State} {m : MethodId} {args : Array Value} {below : List Frame} {meth : Method} {c : Code} {H : Heap} {locs : List Loc} {cells slots : Nat} {Q : State → Prop}
/-- the first row takes it -/
theorem zt_first {T : State} (X : Stand p l e R s m args below meth c T locs cells slots) {g : JFrame} (hg : g.method = m) {a : Addr} {cell : Cell} (hcell : T.heap[a]? = some cell) (hobj : cell.vm = .none) {own Xc C : String} (hown : s.vm.findClass own = some m.cls) {x : ExceptionTableEntry} {t : List ExceptionTableEntry} (htab : c.exceptionTable.toList = x :: t) (hx : covers x g.pc = true) (h0 : x.catchType ≠ 0) (hlink : (Cond.classLink own x.catchType C).before args s = true) (hXc : s.vm.findClass Xc = some cell.cls) (hcast : va_Nw (.castable Xc C) s) :
    ∃ vm', Stand p l e R s m args below meth c (T.setVm vm') locs cells slots ∧ ∀ target, Steps p.tables e below ((T.setVm vm').setTop { g with pc := x.handlerPc, stack := [.ref a] }) target → Steps p.tables e below ((T.setTop g).pushFrame (.throwing a)) target := by
  subst hg
  have hpl : e.platform.magicAccessors = ({} : Platform).magicAccessors := by rw [X.admits.platform]
  obtain ⟨c0, t0, f1, f2, f3⟩ := Cond.castable_spec (va_Nw.use (A := args) rfl hcast)
  cases hXc.symm.trans f1
  obtain ⟨cc, hfcc, hcl⟩ := Cond.classLink_spec hown hlink e.platform hpl
  cases f2.symm.trans hfcc
  obtain ⟨hg₁, hwarm₁, hready₁⟩ := State.classEntry (e := e) X.warmed hcl
  have hsz : (T.vm.noted g.method.cls x.catchType (.cls t0)).classes.size ≤ T.vm.classes.size := by
    have h1 := hwarm₁.alike.2.1
    have h2 := X.warmed.alike.2.1
    omega
  generalize T.vm.noted g.method.cls x.catchType (.cls t0) = vm₁ at hg₁ hwarm₁ hready₁ hsz
  obtain ⟨kt, hkt⟩ := Vm.classAt_of_findClass f2
  obtain ⟨kc, hkc⟩ := Vm.classAt_of_findClass f1
  obtain ⟨kt1, hkt1, -⟩ := hwarm₁.alike.2.2 _ _ hkt
  obtain ⟨kc1, hkc1, -⟩ := hwarm₁.alike.2.2 _ _ hkc
  refine ⟨vm₁, X.noted hwarm₁, fun target h => zt_stepsCatch X.here ?_ h⟩
  intro Q E d acts
  rw [W.findHandler_eq (s := (T.setTop g).pushFrame (.throwing a)) (by rw [Stand.throwing_vm]; exact X.method') X.code, htab,
    zt_goClass hx h0 (by rw [Stand.throwing_vm]; exact hg₁) (by rw [Stand.throwing_vm]; exact hsz) (by rw [Stand.throwing_heap]; exact hcell) (fun k h => by rw [hobj] at h; cases h) ⟨kc1, hkc1⟩ ⟨kt1, hkt1⟩, if_pos (by rw [hwarm₁.alike.assignable]; exact f3)]
/-- a row that does not take it, then one that does -/
theorem zt_second {T : State} (X : Stand p l e R s m args below meth c T locs cells slots) {g : JFrame} (hg : g.method = m) {a : Addr} {cell : Cell} (hcell : T.heap[a]? = some cell) (hobj : cell.vm = .none) {own Xc C C' : String} (hown : s.vm.findClass own = some m.cls) {x x' : ExceptionTableEntry} {t : List ExceptionTableEntry} (htab : c.exceptionTable.toList = x' :: x :: t) (hx' : covers x' g.pc = true) (h0' : x'.catchType ≠ 0) (hx : covers x g.pc = true) (h0 : x.catchType ≠ 0) (hlink' : (Cond.classLink own x'.catchType C').before args s = true) (hlink : (Cond.classLink own x.catchType C).before args s = true) (hXc : s.vm.findClass Xc = some cell.cls) (hno : va_Nc Xc C' s) (hcast : va_Nw (.castable Xc C) s) :
    ∃ vm', Stand p l e R s m args below meth c (T.setVm vm') locs cells slots ∧ ∀ target, Steps p.tables e below ((T.setVm vm').setTop { g with pc := x.handlerPc, stack := [.ref a] }) target → Steps p.tables e below ((T.setTop g).pushFrame (.throwing a)) target := by
  subst hg
  have hpl : e.platform.magicAccessors = ({} : Platform).magicAccessors := by rw [X.admits.platform]
  obtain ⟨c0, t0, f1, f2, f3⟩ := Cond.castable_spec (va_Nw.use (A := args) rfl hcast)
  obtain ⟨c9, t9, e1, e2, e3⟩ := hno
  cases hXc.symm.trans f1
  cases hXc.symm.trans e1
  obtain ⟨cc, hfcc, hcl⟩ := Cond.classLink_spec hown hlink e.platform hpl
  cases f2.symm.trans hfcc
  obtain ⟨cc', hfcc', hcl'⟩ := Cond.classLink_spec hown hlink' e.platform hpl
  cases e2.symm.trans hfcc'
  obtain ⟨hg₁, hwarm₁, hready₁⟩ := State.classEntry (e := e) X.warmed hcl'
  have hsz : (T.vm.noted g.method.cls x'.catchType (.cls t9)).classes.size ≤ T.vm.classes.size := by
    have h1 := hwarm₁.alike.2.1
    have h2 := X.warmed.alike.2.1
    omega
  generalize T.vm.noted g.method.cls x'.catchType (.cls t9) = vm₁ at hg₁ hwarm₁ hready₁ hsz
  obtain ⟨hg₂, hwarm₂, hready₂⟩ := State.classEntry (e := e) hwarm₁ hcl
  have hsz2 : (vm₁.noted g.method.cls x.catchType (.cls t0)).classes.size ≤ vm₁.classes.size := by
    have h1 := hwarm₁.alike.2.1
    have h2 := hwarm₂.alike.2.1
    omega
  generalize vm₁.noted g.method.cls x.catchType (.cls t0) = vm₂ at hg₂ hwarm₂ hready₂ hsz2
  obtain ⟨kt, hkt⟩ := Vm.classAt_of_findClass f2
  obtain ⟨kc, hkc⟩ := Vm.classAt_of_findClass f1
  obtain ⟨k9, hk9⟩ := Vm.classAt_of_findClass e2
  obtain ⟨k91, hk91, -⟩ := hwarm₁.alike.2.2 _ _ hk9
  obtain ⟨kc1, hkc1, -⟩ := hwarm₁.alike.2.2 _ _ hkc
  obtain ⟨kt2, hkt2, -⟩ := hwarm₂.alike.2.2 _ _ hkt
  obtain ⟨kc2, hkc2, -⟩ := hwarm₂.alike.2.2 _ _ hkc
  refine ⟨vm₂, X.noted hwarm₂, fun target h => zt_stepsCatch X.here ?_ h⟩
  intro Q E d acts
  rw [W.findHandler_eq (s := (T.setTop g).pushFrame (.throwing a)) (by rw [Stand.throwing_vm]; exact X.method') X.code, htab,
    zt_goClass hx' h0' (by rw [Stand.throwing_vm]; exact hg₁) (by rw [Stand.throwing_vm]; exact hsz) (by rw [Stand.throwing_heap]; exact hcell) (fun k h => by rw [hobj] at h; cases h) ⟨kc1, hkc1⟩ ⟨k91, hk91⟩, if_neg (by rw [hwarm₁.alike.assignable, e3]; decide),
    zt_goClass (s := ((T.setTop g).pushFrame (.throwing a)).setVm vm₁) hx h0 hg₂ hsz2 (by show ((T.setTop g).pushFrame (.throwing a)).heap[a]? = _; rw [Stand.throwing_heap]; exact hcell) (fun k h => by rw [hobj] at h; cases h) ⟨kc2, hkc2⟩ ⟨kt2, hkt2⟩, if_pos (by rw [hwarm₂.alike.assignable]; exact f3)]
  rfl
/-- an invokevirtual of a method that throws here -/
theorem zt_runX {y : MethodName} {bytes cc : ByteArray} {maxL nL mc ms n index : Nat} {ret : Option FieldType} {ws : List Cond} {rm : Room} {Pc : Array Value → State → Prop} {Qc : Array Value → State → Outcome → State → Prop} {free : Addr → Prop} {Ts : List Cond} {own C : String} {b : Addr} {As rest : List Value} {g : JFrame}
    (S : CallFix p m c cc nL s args Ts own) (hM : zt_Met l y ws rm Pc Qc mc ms free) (hthrow : ∀ a st o t, Qc a st o t → ∃ x, o = .threw x) (cw : CallW R s args own C index y bytes maxL ret ws rm mc ms n) (hp : PreV s H C b Pc As)
    (hg : g.method = m) (hn : As.length = n) (hsize : g.locals.size = nL) (hstack : g.stack = As.reverse ++ .ref b :: rest) (hW : 2 * g.monitorRoom + (rest.map fun v => v.category).sum ≤ 8) (hdg : decode cc g.pc = .ok (.invokevirtual index, 3)) (hf : cells + mc ≤ R.cells ∧ slots + ms ≤ R.slots) :
    ∀ T : State, T.heap = H → Stand p l e R s m args below meth c T locs cells slots → ∃ (x : Addr) (st₀ t T' : State) (L : List Loc), st₀.heap = H ∧ s.vm.Alike st₀.vm ∧ Stand p l e R s m args below meth c T' (locs ++ L) (cells + mc) (slots + ms) ∧ (∀ q ∈ L, free q.base) ∧ T'.heap = t.heap ∧ T'.vm = t.vm ∧ Qc (Value.ref b :: As).toArray st₀ (.threw x) t ∧
      ∀ target, Steps p.tables e below ((T'.setTop { g with stack := rest }).pushFrame (.throwing x)) target → Steps p.tables e below (T.setTop g) target := by
  intro T hT X
  obtain ⟨⟨hrc, hrs, hfr, hlo, hws, hcw, hcode, hini, hy, hlen, hl⟩, hin, hsel⟩ := cw
  obtain ⟨hx, hb, hml, ho, -⟩ := S
  obtain ⟨hblind, ⟨cellB, hcB, hoB, hclB⟩, hPc⟩ := hp
  obtain ⟨mk, methM, hnamed, hmethM, hstM, habM⟩ := Cond.instanceMethod_spec hin
  obtain ⟨methM', cM, hmethM', hcM, -, hlM, -, -, -, hsigM⟩ := Cond.code_spec hnamed hcode
  cases hmethM.symm.trans hmethM'
  obtain ⟨c2, r2, m2, q1, q2, q3, q4, kP, hkP, hkPi⟩ := Cond.selects_spec hsel
  cases hclB.symm.trans q1
  cases (State.methodFound?_of_named hnamed hy).symm.trans q2
  cases hnamed.symm.trans q3
  have hselP : selectMethod e.platform s.vm cellB.cls mk = .method mk := by rw [Launch.admits_selectMethod X.admits]; exact q4
  obtain ⟨vm₁, X₁, hstep₁⟩ := X.invokevirtual hx ho hl hnamed hmethM hstM hkP hkPi hy (a := b) (cell := cellB) (by rw [hT]; exact hcB)
    (fun z h => by rw [h] at hoB; cases hoB) hselP hmethM habM hkP hkPi (g := g) hg (argsL := As) (rest := rest) (by rw [hn]; exact hlen _ hsigM) hstack (by rw [hb]; exact hdg)
  have hn1 : (T.setVm vm₁).methodNamed? y = some mk := X₁.named hnamed
  have hW1 := X₁.warmed
  obtain ⟨methY, cY, hmY, hcY, -, hlY, -, -, -, -⟩ := Cond.code_spec hn1 (hws _ hcw (Value.ref b :: As).toArray (T.setVm vm₁) hW1)
  obtain ⟨kY, hkY, -⟩ := className_of_methodNamed hn1
  have hiniY : (Cond.initialized y.cls).before (Value.ref b :: As).toArray (T.setVm vm₁) = true := word_at hW1 (Or.inl (by first | rfl | simp [Cond.onTables, Cond.keeps, Cond.steady])) hini
  have hinitY : kY.init = .initialized := Cond.initialized_spec (findClass_of_methodNamed hn1) hkY hiniY
  have hg2 : ({ g with stack := rest } : JFrame).method = m := hg
  have h : At (T.setVm vm₁) ({ g with stack := rest } : JFrame).method c below := by rw [hg2]; exact X₁.here
  have happ : (headSpec ws rm).appliesLoose y e.platform ((T.setVm vm₁).calling { g with stack := rest } mk (Value.ref b :: As).toArray) = true :=
    Spec.appliesLoose_calling (g := { g with stack := rest }) h (by rw [hb]; exact hdg) hn1 hkY hinitY
      (X₁.room_calling (g := { g with stack := rest }) (R' := (headSpec ws rm).room) (by rw [hml]; exact hsize) hmY hcY hfr (by
        show 2 * g.monitorRoom + (rest.map fun v => v.category).sum + (cY.maxLocals + 11) + rm.locals ≤ R.locals
        rw [hlY]; omega) (by show cells + rm.cells ≤ R.cells; rw [hrc]; exact hf.1) (by show slots + rm.slots ≤ R.slots; rw [hrs]; exact hf.2))
      (atoms_intro fun w hw => hws w hw _ _ hW1)
  obtain ⟨mid, hmid⟩ := h.above
  have hfr1 : ((T.setVm vm₁).setTop { g with stack := rest }).frames = (.java { g with stack := rest } :: mid) ++ below := by rw [State.frames_setTop' _ h.top, hmid]; rfl
  obtain ⟨o, s₂, hsteps, -, hend, hq, L, hFE, hL⟩ := Steps.callFree hM p X.admits X.cas X.clock (acts := []) hfr1 happ (hblind _ _ _ _ (hPc (T.setVm vm₁) hT hW1)) trivial
  obtain ⟨x, rfl⟩ := hthrow _ _ _ _ hq
  rw [State.frames_setTop' _ h.top, X₁.tail] at hend
  obtain ⟨T', X', hWT, hsame, ht⟩ := X₁.outOfThrown (g := { g with stack := rest }) hg2 hend hFE.1 hFE.2
  refine ⟨x, (T.setVm vm₁).calling { g with stack := rest } mk (Value.ref b :: As).toArray, s₂, T', L, hT, hW1.alike, X', hL, ?_, ?_, hq, fun target h2 => hstep₁ _ fun acts => ?_⟩
  · rw [ht]; exact (Stand.throwing_heap T' { g with stack := rest } x).symm
  · rw [ht]; exact (Stand.throwing_vm T' { g with stack := rest } x).symm
  · rw [doInvoke_state]
    rw [← ht] at h2
    exact hsteps.trans h2
end ZC
end
section
abbrev zu_S : Type := (Nat → Int32) × (Nat → Int32) × Nat × Int32 × Int32
abbrev zu_C : Type := (Nat → Int32) × (Nat → Int32) × Nat
abbrev zu_P : Type := (Nat → Int32) × (Nat → Int32) × (Nat → Int32) × Nat
abbrev zu_R : Type := Int32 × Int32 × Int32 × Int32 × Int32 × Int32 × Int64 × Int32 × Int32
abbrev zu_X : Type := Int32 × zu_S × zu_C × zu_P × zu_R × Int32 × Int32
abbrev zu_F : Type := (Nat → Int32)
abbrev zw_S (cI cZ cL : ClassId) (a0 a1 a2 : Nat) (st : zu_S) : va_W := [(a0, .inr (1, [.ref a1, .ref a2, .int (nI st.2.2.1), .int st.2.2.2.1, .int st.2.2.2.2])), (a1, .inl (cI, 310, .inl st.1)), (a2, .inl (cZ, 31, .inl st.2.1))]
abbrev zw_C (cI cZ cL : ClassId) (a0 a1 a2 : Nat) (st : zu_C) : va_W := [(a0, .inr (2, [.ref a1, .ref a2, .int (nI st.2.2)])), (a1, .inl (cI, 20, .inl st.1)), (a2, .inl (cI, 20, .inl st.2.1))]
abbrev zw_P (cI cZ cL : ClassId) (a0 a1 a2 a3 : Nat) (st : zu_P) : va_W := [(a0, .inr (3, [.ref a1, .ref a2, .ref a3, .int (nI st.2.2.2)])), (a1, .inl (cI, 20, .inl st.1)), (a2, .inl (cI, 20, .inl st.2.1)), (a3, .inl (cI, 620, .inl st.2.2.1))]
abbrev zw_R (cI cZ cL : ClassId) (a0 : Nat) (st : zu_R) : va_W := [(a0, .inr (4, [.int st.1, .int st.2.1, .int st.2.2.1, .int st.2.2.2.1, .int st.2.2.2.2.1, .int st.2.2.2.2.2.1, .long st.2.2.2.2.2.2.1, .int st.2.2.2.2.2.2.2.1, .int st.2.2.2.2.2.2.2.2]))]
abbrev zw_X (cI cZ cL : ClassId) (a0 a1 a2 a3 a4 a5 a6 a7 a8 a9 a10 a11 : Nat) (st : zu_X) : va_W := [(a0, .inr (0, [.int st.1, .ref a1, .ref a4, .ref a7, .ref a11, .int st.2.2.2.2.2.1, .int st.2.2.2.2.2.2])), (a1, .inr (1, [.ref a2, .ref a3, .int (nI st.2.1.2.2.1), .int st.2.1.2.2.2.1, .int st.2.1.2.2.2.2])), (a2, .inl (cI, 310, .inl st.2.1.1)), (a3, .inl (cZ, 31, .inl st.2.1.2.1)), (a4, .inr (2, [.ref a5, .ref a6, .int (nI st.2.2.1.2.2)])), (a5, .inl (cI, 20, .inl st.2.2.1.1)), (a6, .inl (cI, 20, .inl st.2.2.1.2.1)), (a7, .inr (3, [.ref a8, .ref a9, .ref a10, .int (nI st.2.2.2.1.2.2.2)])), (a8, .inl (cI, 20, .inl st.2.2.2.1.1)), (a9, .inl (cI, 20, .inl st.2.2.2.1.2.1)), (a10, .inl (cI, 620, .inl st.2.2.2.1.2.2.1)), (a11, .inr (4, [.int st.2.2.2.2.1.1, .int st.2.2.2.2.1.2.1, .int st.2.2.2.2.1.2.2.1, .int st.2.2.2.2.1.2.2.2.1, .int st.2.2.2.2.1.2.2.2.2.1, .int st.2.2.2.2.1.2.2.2.2.2.1, .long st.2.2.2.2.1.2.2.2.2.2.2.1, .int st.2.2.2.2.1.2.2.2.2.2.2.2.1, .int st.2.2.2.2.1.2.2.2.2.2.2.2.2]))]
abbrev zw_F (cI cZ cL : ClassId) (a0 : Nat) (st : zu_F) : va_W := [(a0, .inl (cI, 310, .inl st))]
def zf_X_isValue (p0 : Int64) : Int32 :=
  if (lg_cmp p0 0) < 0 then 0
  else if 0 < (lg_cmp p0 1000000000) then 0
  else 1
theorem zo_X_isValue (p0 : Int64) : narrow .boolean (.int (zf_X_isValue p0)) = .int (zf_X_isValue p0) := by
  unfold zf_X_isValue
  by_cases h1 : (lg_cmp p0 0) < 0
  · rw [if_pos h1]
    exact narrow_b0
  · rw [if_neg h1]
    by_cases h2 : 0 < (lg_cmp p0 1000000000)
    · rw [if_pos h2]
      exact narrow_b0
    · rw [if_neg h2]
      exact narrow_b1
def zf_X_needBy (p0 : Int32) (p1 : Int32) : Int32 :=
  ((3 * p1) + (5 * p0)) - ((3 * p1) + (5 * p0)) / 4 * 4
def zf_X_lineOf (p0 : Int32) : Int32 :=
  p0 / 10
def zf_X_fieldOf (p0 : Int32) : Int32 :=
  if 10 ≤ p0 then 10 + (p0 - p0 / 10 * 10)
  else p0
def zf_X_placeOf (p0 : Int32) : Int32 :=
  (100 * (zf_X_lineOf p0)) + (zf_X_fieldOf p0)
def zf_X_byteOf (p0 : Int32) (p1 : Int32) : Int32 :=
  ((p0.toUInt32 >>> ((8 * p1).toUInt32 &&& Int32.toUInt32 31)).toInt32).toInt8.toInt32
theorem zo_X_byteOf (p0 : Int32) (p1 : Int32) : narrow .byte (.int (zf_X_byteOf p0 p1)) = .int (zf_X_byteOf p0 p1) := by
  unfold zf_X_byteOf
  exact (pk_nb _)
def zf_S_isFull (st : zu_S) : Int32 :=
  if (nI st.2.2.1) < 30 then 0
  else 1
theorem zo_S_isFull (st : zu_S) : narrow .boolean (.int (zf_S_isFull st)) = .int (zf_S_isFull st) := by
  unfold zf_S_isFull
  by_cases h3 : (nI st.2.2.1) < 30
  · rw [if_pos h3]
    exact narrow_b0
  · rw [if_neg h3]
    exact narrow_b1
def zf_S_hasLine (st : zu_S) (p1 : Int32) : Int32 :=
  if p1 < 1 then 0
  else if 30 < p1 then 0
  else if (st.2.1 p1.toNatClampNeg) = 0 then 0
  else 1
theorem zo_S_hasLine (st : zu_S) (p1 : Int32) : narrow .boolean (.int (zf_S_hasLine st p1)) = .int (zf_S_hasLine st p1) := by
  unfold zf_S_hasLine
  by_cases h4 : p1 < 1
  · rw [if_pos h4]
    exact narrow_b0
  · rw [if_neg h4]
    by_cases h5 : 30 < p1
    · rw [if_pos h5]
      exact narrow_b0
    · rw [if_neg h5]
      by_cases h6 : (st.2.1 p1.toNatClampNeg) = 0
      · rw [if_pos h6]
        exact narrow_b0
      · rw [if_neg h6]
        exact narrow_b1
def zf_S_lineCount (st : zu_S) : Int32 :=
  st.2.2.2.1
def zf_S_setCount (st : zu_S) : Int32 :=
  st.2.2.2.2
def zf_S_openLine (st : zu_S) : Int32 × zu_S :=
  if (zf_S_isFull st) = 0 then (nI (st.2.2.1 + 1), (st.1, (upd st.2.1 (nI (st.2.2.1 + 1)).toNatClampNeg 1), (st.2.2.1 + 1), st.2.2.2.1 + 1, st.2.2.2.2))
  else ((-1), st)
def zf_S_slotOf (st : zu_S) (p1 : Int32) (p2 : Int32) : Int32 :=
  if p1 < 0 then (-1)
  else if p1 ≤ 19 then (if 10 ≤ p1 then (if (zf_S_hasLine st p2) = 0 then (-1)
      else ((p2 * 10) + p1) - 10)
    else if p2 = 0 then p1
    else (-1))
  else (-1)
def zf_S_valueAt (st : zu_S) (p1 : Int32) : Int32 :=
  if p1 < 0 then (-1)
  else if p1 < 310 then st.1 p1.toNatClampNeg
  else (-1)
def zf_S_put (st : zu_S) (p1 : Int32) (p2 : Int32) : zu_S :=
  if p1 < 0 then st
  else if p1 < 310 then (if (st.1 p1.toNatClampNeg) = (-1) then (if p2 = (-1) then ((upd st.1 p1.toNatClampNeg p2), st.2.1, st.2.2.1, st.2.2.2.1, st.2.2.2.2)
      else ((upd st.1 p1.toNatClampNeg p2), st.2.1, st.2.2.1, st.2.2.2.1, st.2.2.2.2 + 1))
    else if p2 = (-1) then ((upd st.1 p1.toNatClampNeg p2), st.2.1, st.2.2.1, st.2.2.2.1, st.2.2.2.2 - 1)
    else ((upd st.1 p1.toNatClampNeg p2), st.2.1, st.2.2.1, st.2.2.2.1, (st.2.2.2.2 - 1) + 1))
  else st
def zf_S_dropLine_L17 (p1 : Int32) (x2 : Int32) : Nat → Nat → zu_S → Int32 × zu_S
  | 0, k, st => (x2 - st.2.2.2.2, (st.1, (upd st.2.1 p1.toNatClampNeg 0), st.2.2.1, st.2.2.2.1 - 1, st.2.2.2.2))
  | mm + 1, k, st => zf_S_dropLine_L17 p1 x2 mm (k + 1) (zf_S_put st ((p1 * 10) + (nI k)) (-1))
def zf_S_dropLine (st : zu_S) (p1 : Int32) : Int32 × zu_S :=
  if (zf_S_hasLine st p1) = 0 then ((-1), st)
  else zf_S_dropLine_L17 p1 st.2.2.2.2 10 0 st
def zf_S_firstMissing_L2 (st : zu_S) (p1 : Int32) : Nat → Nat → Int32
  | 0, k => (-1)
  | mm + 1, k => if (nI k) < 10 then (if (st.1 k) = (-1) then (if (zf_X_needBy p1 (zf_X_fieldOf (nI k))) = 0 then nI k
        else zf_S_firstMissing_L2 st p1 mm (k + 1))
      else zf_S_firstMissing_L2 st p1 mm (k + 1))
    else if (zf_S_hasLine st (zf_X_lineOf (nI k))) = 0 then zf_S_firstMissing_L2 st p1 mm (k + 1)
    else if (st.1 k) = (-1) then (if (zf_X_needBy p1 (zf_X_fieldOf (nI k))) = 0 then nI k
      else zf_S_firstMissing_L2 st p1 mm (k + 1))
    else zf_S_firstMissing_L2 st p1 mm (k + 1)
def zf_S_firstMissing (st : zu_S) (p1 : Int32) : Int32 :=
  zf_S_firstMissing_L2 st p1 310 0
def zf_S_total_L5 (st : zu_S) (p1 : Int32) : Nat → Nat → Int64 → Int64
  | 0, k, x2 => x2
  | mm + 1, k, x2 => zf_S_total_L5 st p1 mm (k + 1) (x2 + ((if 0 < (zf_S_valueAt st (zf_S_slotOf st p1 (nI k))) then (zf_S_valueAt st (zf_S_slotOf st p1 (nI k))) else 0).toInt64))
def zf_S_total (st : zu_S) (p1 : Int32) : Int64 :=
  zf_S_total_L5 st p1 30 1 0
def zf_S_sumIsWrong (st : zu_S) (p1 : Int32) (p2 : Int32) : Int32 :=
  if (zf_S_valueAt st (zf_S_slotOf st p1 0)) = (-1) then 0
  else if (lg_cmp ((zf_S_valueAt st (zf_S_slotOf st p1 0)).toInt64) (zf_S_total st p2)) = 0 then 0
  else 1
theorem zo_S_sumIsWrong (st : zu_S) (p1 : Int32) (p2 : Int32) : narrow .boolean (.int (zf_S_sumIsWrong st p1 p2)) = .int (zf_S_sumIsWrong st p1 p2) := by
  unfold zf_S_sumIsWrong
  by_cases h7 : (zf_S_valueAt st (zf_S_slotOf st p1 0)) = (-1)
  · rw [if_pos h7]
    exact narrow_b0
  · rw [if_neg h7]
    by_cases h8 : (lg_cmp ((zf_S_valueAt st (zf_S_slotOf st p1 0)).toInt64) (zf_S_total st p2)) = 0
    · rw [if_pos h8]
      exact narrow_b0
    · rw [if_neg h8]
      exact narrow_b1
def zf_S_setSlot_L4 (st : zu_S) (p1 : Int32) : Nat → Nat → Int32 → Int32
  | 0, k, x2 => (-1)
  | mm + 1, k, x2 => if (st.1 k) = (-1) then zf_S_setSlot_L4 st p1 mm (k + 1) x2
    else if x2 = p1 then nI k
    else zf_S_setSlot_L4 st p1 mm (k + 1) (x2 + 1)
def zf_S_setSlot (st : zu_S) (p1 : Int32) : Int32 :=
  zf_S_setSlot_L4 st p1 310 0 0
def zf_C_find_L2 (st : zu_C) (p1 : Int32) : Nat → Nat → Int32
  | 0, k => (-1)
  | mm + 1, k => if (st.1 k) = p1 then nI k
    else zf_C_find_L2 st p1 mm (k + 1)
def zf_C_find (st : zu_C) (p1 : Int32) : Int32 :=
  zf_C_find_L2 st p1 st.2.2 0
def zf_C_tell (st : zu_C) (p1 : Int32) (p2 : Int32) : Int32 × zu_C :=
  if (zf_C_find st p1) = (-1) then (if (nI st.2.2) < 20 then (1, ((upd st.1 st.2.2 p1), (upd st.2.1 st.2.2 p2), (st.2.2 + 1)))
    else (0, st))
  else (1, (st.1, (upd st.2.1 (zf_C_find st p1).toNatClampNeg p2), st.2.2))
theorem zo_C_tell (st : zu_C) (p1 : Int32) (p2 : Int32) : narrow .boolean (.int ((zf_C_tell st p1 p2).1)) = .int ((zf_C_tell st p1 p2).1) := by
  unfold zf_C_tell
  by_cases h9 : (zf_C_find st p1) = (-1)
  · rw [if_pos h9]
    by_cases h10 : (nI st.2.2) < 20
    · rw [if_pos h10]
      exact narrow_b1
    · rw [if_neg h10]
      exact narrow_b0
  · rw [if_neg h9]
    exact narrow_b1
def zf_C_isGood (st : zu_C) (p1 : Int32) (p2 : Int32) : Int32 :=
  if (zf_C_find st p1) = (-1) then 0
  else if (st.2.1 (zf_C_find st p1).toNatClampNeg) < p2 then 0
  else 1
theorem zo_C_isGood (st : zu_C) (p1 : Int32) (p2 : Int32) : narrow .boolean (.int (zf_C_isGood st p1 p2)) = .int (zf_C_isGood st p1 p2) := by
  unfold zf_C_isGood
  by_cases h11 : (zf_C_find st p1) = (-1)
  · rw [if_pos h11]
    exact narrow_b0
  · rw [if_neg h11]
    by_cases h12 : (st.2.1 (zf_C_find st p1).toNatClampNeg) < p2
    · rw [if_pos h12]
      exact narrow_b0
    · rw [if_neg h12]
      exact narrow_b1
def zf_C_goodCount_L4 (st : zu_C) (p1 : Int32) : Nat → Nat → Int32 → Int32
  | 0, k, x2 => x2
  | mm + 1, k, x2 => if (st.2.1 k) < p1 then zf_C_goodCount_L4 st p1 mm (k + 1) x2
    else zf_C_goodCount_L4 st p1 mm (k + 1) (x2 + 1)
def zf_C_goodCount (st : zu_C) (p1 : Int32) : Int32 :=
  zf_C_goodCount_L4 st p1 st.2.2 0 0
def zf_P_size (st : zu_P) : Int32 :=
  nI st.2.2.2
def zf_P_find_L2 (st : zu_P) (p1 : Int32) : Nat → Nat → Int32
  | 0, k => (-1)
  | mm + 1, k => if (st.1 k) = p1 then nI k
    else zf_P_find_L2 st p1 mm (k + 1)
def zf_P_find (st : zu_P) (p1 : Int32) : Int32 :=
  zf_P_find_L2 st p1 st.2.2.2 0
def zf_P_register (st : zu_P) (p1 : Int32) (p2 : Int32) : Int32 × zu_P :=
  if 20 ≤ (nI st.2.2.2) then (0, st)
  else if (zf_P_find st p1) = (-1) then (1, ((upd st.1 st.2.2.2 p1), (upd st.2.1 st.2.2.2 p2), st.2.2.1, (st.2.2.2 + 1)))
  else (0, st)
theorem zo_P_register (st : zu_P) (p1 : Int32) (p2 : Int32) : narrow .boolean (.int ((zf_P_register st p1 p2).1)) = .int ((zf_P_register st p1 p2).1) := by
  unfold zf_P_register
  by_cases h13 : 20 ≤ (nI st.2.2.2)
  · rw [if_pos h13]
    exact narrow_b0
  · rw [if_neg h13]
    by_cases h14 : (zf_P_find st p1) = (-1)
    · rw [if_pos h14]
      exact narrow_b1
    · rw [if_neg h14]
      exact narrow_b0
def zf_P_balanceOf (st : zu_P) (p1 : Int32) : Int32 :=
  if (zf_P_find st p1) = (-1) then (-1)
  else st.2.1 (zf_P_find st p1).toNatClampNeg
def zf_P_take (st : zu_P) (p1 : Int32) (p2 : Int32) (p3 : Int32) : Int32 × zu_P :=
  if p1 < 0 then ((-1), st)
  else if 30 < p1 then ((-1), st)
  else if p2 < 0 then ((-1), st)
  else if (nI st.2.2.2) ≤ p2 then ((-1), st)
  else if p3 ≤ (st.2.1 p2.toNatClampNeg) then ((upd st.2.1 p2.toNatClampNeg ((st.2.1 p2.toNatClampNeg) - p3)) p2.toNatClampNeg, (st.1, (upd st.2.1 p2.toNatClampNeg ((st.2.1 p2.toNatClampNeg) - p3)), (upd st.2.2.1 ((p1 * 20) + p2).toNatClampNeg ((st.2.2.1 ((p1 * 20) + p2).toNatClampNeg) + p3)), st.2.2.2))
  else ((-1), st)
def zf_P_giveBack_L13 (p1 : Int32) : Nat → Nat → zu_P → zu_P
  | 0, k, st => st
  | mm + 1, k, st => zf_P_giveBack_L13 p1 mm (k + 1) (st.1, (upd st.2.1 k ((st.2.1 k) + (st.2.2.1 ((p1 * 20) + (nI k)).toNatClampNeg))), st.2.2.1, st.2.2.2)
def zf_P_giveBack (st : zu_P) (p1 : Int32) : zu_P :=
  if p1 < 0 then st
  else if p1 ≤ 30 then zf_P_giveBack_L13 p1 st.2.2.2 0 st
  else st
def zf_R_wholeRows (st : zu_R) : Int32 :=
  st.2.2.2.2.2.2.2.1
def zf_R_latestFields (st : zu_R) : Int32 :=
  st.2.2.2.2.2.2.2.2
def zf_R_takeKind (st : zu_R) (p1 : Int32) : Int32 × zu_R :=
  if 3 < p1 then (0, (st.1, p1, st.2.2.1, st.2.2.2.1, st.2.2.2.2.1, (-1), st.2.2.2.2.2.2.1, st.2.2.2.2.2.2.2.1, st.2.2.2.2.2.2.2.2))
  else (1, (st.1, p1, st.2.2.1, st.2.2.2.1, st.2.2.2.2.1, (-1), st.2.2.2.2.2.2.1, st.2.2.2.2.2.2.2.1, st.2.2.2.2.2.2.2.2))
theorem zo_R_takeKind (st : zu_R) (p1 : Int32) : narrow .boolean (.int ((zf_R_takeKind st p1).1)) = .int ((zf_R_takeKind st p1).1) := by
  unfold zf_R_takeKind
  by_cases h15 : 3 < p1
  · rw [if_pos h15]
    exact narrow_b0
  · rw [if_neg h15]
    exact narrow_b1
def zf_R_takeHigher (st : zu_R) (p1 : Int32) : Int32 × zu_R :=
  if 610 < (p1 * 256) then (0, (st.1, st.2.1, p1 * 256, st.2.2.2.1, st.2.2.2.2.1, st.2.2.2.2.2.1, st.2.2.2.2.2.2.1, st.2.2.2.2.2.2.2.1, st.2.2.2.2.2.2.2.2))
  else (1, (st.1, st.2.1, p1 * 256, st.2.2.2.1, st.2.2.2.2.1, st.2.2.2.2.2.1, st.2.2.2.2.2.2.1, st.2.2.2.2.2.2.2.1, st.2.2.2.2.2.2.2.2))
theorem zo_R_takeHigher (st : zu_R) (p1 : Int32) : narrow .boolean (.int ((zf_R_takeHigher st p1).1)) = .int ((zf_R_takeHigher st p1).1) := by
  unfold zf_R_takeHigher
  by_cases h16 : 610 < (p1 * 256)
  · rw [if_pos h16]
    exact narrow_b0
  · rw [if_neg h16]
    exact narrow_b1
def zf_R_takeLower (st : zu_R) (p1 : Int32) : Int32 × zu_R :=
  if 610 < (st.2.2.1 + p1) then (0, (st.1, st.2.1, st.2.2.1 + p1, st.2.2.1 + p1, st.2.2.2.2.1, st.2.2.2.2.2.1, st.2.2.2.2.2.2.1, st.2.2.2.2.2.2.2.1, st.2.2.2.2.2.2.2.2))
  else (1, (st.1, st.2.1, st.2.2.1 + p1, st.2.2.1 + p1, st.2.2.2.2.1, st.2.2.2.2.2.1, st.2.2.2.2.2.2.1, st.2.2.2.2.2.2.2.1, st.2.2.2.2.2.2.2.2))
theorem zo_R_takeLower (st : zu_R) (p1 : Int32) : narrow .boolean (.int ((zf_R_takeLower st p1).1)) = .int ((zf_R_takeLower st p1).1) := by
  unfold zf_R_takeLower
  by_cases h17 : 610 < (st.2.2.1 + p1)
  · rw [if_pos h17]
    exact narrow_b0
  · rw [if_neg h17]
    exact narrow_b1
def zf_R_takeField (st : zu_R) (p1 : Int32) : Int32 × zu_R :=
  if 19 < p1 then (0, (st.1, st.2.1, st.2.2.1, st.2.2.2.1, p1, st.2.2.2.2.2.1, st.2.2.2.2.2.2.1, st.2.2.2.2.2.2.2.1, st.2.2.2.2.2.2.2.2))
  else if (zf_X_needBy st.2.1 p1) = 3 then (0, (st.1, st.2.1, st.2.2.1, st.2.2.2.1, p1, st.2.2.2.2.2.1, st.2.2.2.2.2.2.1, st.2.2.2.2.2.2.2.1, st.2.2.2.2.2.2.2.2))
  else (1, (st.1, st.2.1, st.2.2.1, st.2.2.2.1, p1, st.2.2.2.2.2.1, st.2.2.2.2.2.2.1, st.2.2.2.2.2.2.2.1, st.2.2.2.2.2.2.2.2))
theorem zo_R_takeField (st : zu_R) (p1 : Int32) : narrow .boolean (.int ((zf_R_takeField st p1).1)) = .int ((zf_R_takeField st p1).1) := by
  unfold zf_R_takeField
  by_cases h18 : 19 < p1
  · rw [if_pos h18]
    exact narrow_b0
  · rw [if_neg h18]
    by_cases h19 : (zf_X_needBy st.2.1 p1) = 3
    · rw [if_pos h19]
      exact narrow_b0
    · rw [if_neg h19]
      exact narrow_b1
def zf_R_takeLine (st : zu_R) (p1 : Int32) : Int32 × zu_R :=
  if 10 ≤ st.2.2.2.2.1 then (if p1 < 1 then (if ((p1 * 10) + (st.2.2.2.2.1 - st.2.2.2.2.1 / 10 * 10)) ≤ st.2.2.2.2.2.1 then (0, (st.1, st.2.1, st.2.2.1, st.2.2.2.1, st.2.2.2.2.1, (p1 * 10) + (st.2.2.2.2.1 - st.2.2.2.2.1 / 10 * 10), 0, st.2.2.2.2.2.2.2.1, st.2.2.2.2.2.2.2.2))
      else (0, (st.1, st.2.1, st.2.2.1, st.2.2.2.1, st.2.2.2.2.1, (p1 * 10) + (st.2.2.2.2.1 - st.2.2.2.2.1 / 10 * 10), 0, st.2.2.2.2.2.2.2.1, st.2.2.2.2.2.2.2.2)))
    else if 30 < p1 then (if ((p1 * 10) + (st.2.2.2.2.1 - st.2.2.2.2.1 / 10 * 10)) ≤ st.2.2.2.2.2.1 then (0, (st.1, st.2.1, st.2.2.1, st.2.2.2.1, st.2.2.2.2.1, (p1 * 10) + (st.2.2.2.2.1 - st.2.2.2.2.1 / 10 * 10), 0, st.2.2.2.2.2.2.2.1, st.2.2.2.2.2.2.2.2))
      else (0, (st.1, st.2.1, st.2.2.1, st.2.2.2.1, st.2.2.2.2.1, (p1 * 10) + (st.2.2.2.2.1 - st.2.2.2.2.1 / 10 * 10), 0, st.2.2.2.2.2.2.2.1, st.2.2.2.2.2.2.2.2)))
    else if ((p1 * 10) + (st.2.2.2.2.1 - st.2.2.2.2.1 / 10 * 10)) ≤ st.2.2.2.2.2.1 then (0, (st.1, st.2.1, st.2.2.1, st.2.2.2.1, st.2.2.2.2.1, (p1 * 10) + (st.2.2.2.2.1 - st.2.2.2.2.1 / 10 * 10), 0, st.2.2.2.2.2.2.2.1, st.2.2.2.2.2.2.2.2))
    else (1, (st.1, st.2.1, st.2.2.1, st.2.2.2.1, st.2.2.2.2.1, (p1 * 10) + (st.2.2.2.2.1 - st.2.2.2.2.1 / 10 * 10), 0, st.2.2.2.2.2.2.2.1, st.2.2.2.2.2.2.2.2)))
  else if p1 = 0 then (if ((p1 * 10) + (st.2.2.2.2.1 - st.2.2.2.2.1 / 10 * 10)) ≤ st.2.2.2.2.2.1 then (0, (st.1, st.2.1, st.2.2.1, st.2.2.2.1, st.2.2.2.2.1, (p1 * 10) + (st.2.2.2.2.1 - st.2.2.2.2.1 / 10 * 10), 0, st.2.2.2.2.2.2.2.1, st.2.2.2.2.2.2.2.2))
    else (1, (st.1, st.2.1, st.2.2.1, st.2.2.2.1, st.2.2.2.2.1, (p1 * 10) + (st.2.2.2.2.1 - st.2.2.2.2.1 / 10 * 10), 0, st.2.2.2.2.2.2.2.1, st.2.2.2.2.2.2.2.2)))
  else if ((p1 * 10) + (st.2.2.2.2.1 - st.2.2.2.2.1 / 10 * 10)) ≤ st.2.2.2.2.2.1 then (0, (st.1, st.2.1, st.2.2.1, st.2.2.2.1, st.2.2.2.2.1, (p1 * 10) + (st.2.2.2.2.1 - st.2.2.2.2.1 / 10 * 10), 0, st.2.2.2.2.2.2.2.1, st.2.2.2.2.2.2.2.2))
  else (0, (st.1, st.2.1, st.2.2.1, st.2.2.2.1, st.2.2.2.2.1, (p1 * 10) + (st.2.2.2.2.1 - st.2.2.2.2.1 / 10 * 10), 0, st.2.2.2.2.2.2.2.1, st.2.2.2.2.2.2.2.2))
theorem zo_R_takeLine (st : zu_R) (p1 : Int32) : narrow .boolean (.int ((zf_R_takeLine st p1).1)) = .int ((zf_R_takeLine st p1).1) := by
  unfold zf_R_takeLine
  by_cases h20 : 10 ≤ st.2.2.2.2.1
  · rw [if_pos h20]
    by_cases h21 : p1 < 1
    · rw [if_pos h21]
      by_cases h22 : ((p1 * 10) + (st.2.2.2.2.1 - st.2.2.2.2.1 / 10 * 10)) ≤ st.2.2.2.2.2.1
      · rw [if_pos h22]
        exact narrow_b0
      · rw [if_neg h22]
        exact narrow_b0
    · rw [if_neg h21]
      by_cases h23 : 30 < p1
      · rw [if_pos h23]
        by_cases h24 : ((p1 * 10) + (st.2.2.2.2.1 - st.2.2.2.2.1 / 10 * 10)) ≤ st.2.2.2.2.2.1
        · rw [if_pos h24]
          exact narrow_b0
        · rw [if_neg h24]
          exact narrow_b0
      · rw [if_neg h23]
        by_cases h25 : ((p1 * 10) + (st.2.2.2.2.1 - st.2.2.2.2.1 / 10 * 10)) ≤ st.2.2.2.2.2.1
        · rw [if_pos h25]
          exact narrow_b0
        · rw [if_neg h25]
          exact narrow_b1
  · rw [if_neg h20]
    by_cases h26 : p1 = 0
    · rw [if_pos h26]
      by_cases h27 : ((p1 * 10) + (st.2.2.2.2.1 - st.2.2.2.2.1 / 10 * 10)) ≤ st.2.2.2.2.2.1
      · rw [if_pos h27]
        exact narrow_b0
      · rw [if_neg h27]
        exact narrow_b1
    · rw [if_neg h26]
      by_cases h28 : ((p1 * 10) + (st.2.2.2.2.1 - st.2.2.2.2.1 / 10 * 10)) ≤ st.2.2.2.2.2.1
      · rw [if_pos h28]
        exact narrow_b0
      · rw [if_neg h28]
        exact narrow_b0
def zf_R_takeValue (st : zu_R) (p1 : Int32) : Int32 × zu_R :=
  if st.1 = 8 then (if 0 < (lg_cmp ((st.2.2.2.2.2.2.1 * 256) + p1.toInt64) 1000000000) then (0, (st.1, st.2.1, st.2.2.1, st.2.2.2.1, st.2.2.2.2.1, st.2.2.2.2.2.1, (st.2.2.2.2.2.2.1 * 256) + p1.toInt64, st.2.2.2.2.2.2.2.1, st.2.2.2.2.2.2.2.2))
    else (1, (st.1, st.2.1, st.2.2.1, st.2.2.2.1, st.2.2.2.2.1, st.2.2.2.2.2.1, (st.2.2.2.2.2.2.1 * 256) + p1.toInt64, st.2.2.2.2.2.2.2.1, st.2.2.2.2.2.2.2.2)))
  else (1, (st.1, st.2.1, st.2.2.1, st.2.2.2.1, st.2.2.2.2.1, st.2.2.2.2.2.1, (st.2.2.2.2.2.2.1 * 256) + p1.toInt64, st.2.2.2.2.2.2.2.1, st.2.2.2.2.2.2.2.2))
theorem zo_R_takeValue (st : zu_R) (p1 : Int32) : narrow .boolean (.int ((zf_R_takeValue st p1).1)) = .int ((zf_R_takeValue st p1).1) := by
  unfold zf_R_takeValue
  by_cases h29 : st.1 = 8
  · rw [if_pos h29]
    by_cases h30 : 0 < (lg_cmp ((st.2.2.2.2.2.2.1 * 256) + p1.toInt64) 1000000000)
    · rw [if_pos h30]
      exact narrow_b0
    · rw [if_neg h30]
      exact narrow_b1
  · rw [if_neg h29]
    exact narrow_b1
def zf_R_stands (st : zu_R) (p1 : Int32) : Int32 × zu_R :=
  if st.1 = 0 then ((zf_R_takeKind st p1).1, (zf_R_takeKind st p1).2)
  else if st.1 = 1 then ((zf_R_takeHigher st p1).1, (zf_R_takeHigher st p1).2)
  else if st.1 = 2 then ((zf_R_takeLower st p1).1, (zf_R_takeLower st p1).2)
  else if st.1 = 3 then ((zf_R_takeField st p1).1, (zf_R_takeField st p1).2)
  else if st.1 = 4 then ((zf_R_takeLine st p1).1, (zf_R_takeLine st p1).2)
  else ((zf_R_takeValue st p1).1, (zf_R_takeValue st p1).2)
theorem zo_R_stands (st : zu_R) (p1 : Int32) : narrow .boolean (.int ((zf_R_stands st p1).1)) = .int ((zf_R_stands st p1).1) := by
  unfold zf_R_stands
  by_cases h31 : st.1 = 0
  · rw [if_pos h31]
    exact (zo_R_takeKind st p1)
  · rw [if_neg h31]
    by_cases h32 : st.1 = 1
    · rw [if_pos h32]
      exact (zo_R_takeHigher st p1)
    · rw [if_neg h32]
      by_cases h33 : st.1 = 2
      · rw [if_pos h33]
        exact (zo_R_takeLower st p1)
      · rw [if_neg h33]
        by_cases h34 : st.1 = 3
        · rw [if_pos h34]
          exact (zo_R_takeField st p1)
        · rw [if_neg h34]
          by_cases h35 : st.1 = 4
          · rw [if_pos h35]
            exact (zo_R_takeLine st p1)
          · rw [if_neg h35]
            exact (zo_R_takeValue st p1)
def zf_R_accept (st : zu_R) (p1 : Int32) : Int32 × zu_R :=
  if ((zf_R_stands st p1).1) = 0 then ((-1), (0, ((zf_R_stands st p1).2).2.1, ((zf_R_stands st p1).2).2.2.1, ((zf_R_stands st p1).2).2.2.2.1, ((zf_R_stands st p1).2).2.2.2.2.1, ((zf_R_stands st p1).2).2.2.2.2.2.1, ((zf_R_stands st p1).2).2.2.2.2.2.2.1, ((zf_R_stands st p1).2).2.2.2.2.2.2.2.1, ((zf_R_stands st p1).2).2.2.2.2.2.2.2.2))
  else if (((zf_R_stands st p1).2).1) = 8 then (if (((zf_R_stands st p1).2).1) = 2 then (if ((((zf_R_stands st p1).2).2.2.2.1) - 1) = 0 then (1, (0, ((zf_R_stands st p1).2).2.1, ((zf_R_stands st p1).2).2.2.1, (((zf_R_stands st p1).2).2.2.2.1) - 1, ((zf_R_stands st p1).2).2.2.2.2.1, ((zf_R_stands st p1).2).2.2.2.2.2.1, ((zf_R_stands st p1).2).2.2.2.2.2.2.1, (((zf_R_stands st p1).2).2.2.2.2.2.2.2.1) + 1, ((zf_R_stands st p1).2).2.2.1))
      else (0, (3, ((zf_R_stands st p1).2).2.1, ((zf_R_stands st p1).2).2.2.1, (((zf_R_stands st p1).2).2.2.2.1) - 1, ((zf_R_stands st p1).2).2.2.2.2.1, ((zf_R_stands st p1).2).2.2.2.2.2.1, ((zf_R_stands st p1).2).2.2.2.2.2.2.1, ((zf_R_stands st p1).2).2.2.2.2.2.2.2.1, ((zf_R_stands st p1).2).2.2.2.2.2.2.2.2)))
    else if ((((zf_R_stands st p1).2).2.2.2.1) - 1) = 0 then (1, (0, ((zf_R_stands st p1).2).2.1, ((zf_R_stands st p1).2).2.2.1, (((zf_R_stands st p1).2).2.2.2.1) - 1, ((zf_R_stands st p1).2).2.2.2.2.1, ((zf_R_stands st p1).2).2.2.2.2.2.1, ((zf_R_stands st p1).2).2.2.2.2.2.2.1, (((zf_R_stands st p1).2).2.2.2.2.2.2.2.1) + 1, ((zf_R_stands st p1).2).2.2.1))
    else (0, (3, ((zf_R_stands st p1).2).2.1, ((zf_R_stands st p1).2).2.2.1, (((zf_R_stands st p1).2).2.2.2.1) - 1, ((zf_R_stands st p1).2).2.2.2.2.1, ((zf_R_stands st p1).2).2.2.2.2.2.1, ((zf_R_stands st p1).2).2.2.2.2.2.2.1, ((zf_R_stands st p1).2).2.2.2.2.2.2.2.1, ((zf_R_stands st p1).2).2.2.2.2.2.2.2.2)))
  else if (((zf_R_stands st p1).2).1) = 2 then (if (((zf_R_stands st p1).2).2.2.2.1) = 0 then (1, (0, ((zf_R_stands st p1).2).2.1, ((zf_R_stands st p1).2).2.2.1, ((zf_R_stands st p1).2).2.2.2.1, ((zf_R_stands st p1).2).2.2.2.2.1, ((zf_R_stands st p1).2).2.2.2.2.2.1, ((zf_R_stands st p1).2).2.2.2.2.2.2.1, (((zf_R_stands st p1).2).2.2.2.2.2.2.2.1) + 1, ((zf_R_stands st p1).2).2.2.1))
    else (0, ((((zf_R_stands st p1).2).1) + 1, ((zf_R_stands st p1).2).2.1, ((zf_R_stands st p1).2).2.2.1, ((zf_R_stands st p1).2).2.2.2.1, ((zf_R_stands st p1).2).2.2.2.2.1, ((zf_R_stands st p1).2).2.2.2.2.2.1, ((zf_R_stands st p1).2).2.2.2.2.2.2.1, ((zf_R_stands st p1).2).2.2.2.2.2.2.2.1, ((zf_R_stands st p1).2).2.2.2.2.2.2.2.2)))
  else (0, ((((zf_R_stands st p1).2).1) + 1, ((zf_R_stands st p1).2).2.1, ((zf_R_stands st p1).2).2.2.1, ((zf_R_stands st p1).2).2.2.2.1, ((zf_R_stands st p1).2).2.2.2.2.1, ((zf_R_stands st p1).2).2.2.2.2.2.1, ((zf_R_stands st p1).2).2.2.2.2.2.2.1, ((zf_R_stands st p1).2).2.2.2.2.2.2.2.1, ((zf_R_stands st p1).2).2.2.2.2.2.2.2.2))
def zf_X_firstWithoutGoodCode_L2 (st : zu_X) : Nat → Nat → Int32
  | 0, k => (-1)
  | mm + 1, k => if (zf_S_valueAt st.2.1 (zf_S_slotOf st.2.1 10 (nI k))) = (-1) then zf_X_firstWithoutGoodCode_L2 st mm (k + 1)
    else if (zf_C_isGood st.2.2.1 (zf_S_valueAt st.2.1 (zf_S_slotOf st.2.1 10 (nI k))) st.2.2.2.2.2.1) = 0 then (zf_S_slotOf st.2.1 10 (nI k))
    else zf_X_firstWithoutGoodCode_L2 st mm (k + 1)
def zf_X_firstWithoutGoodCode (st : zu_X) : Int32 :=
  zf_X_firstWithoutGoodCode_L2 st 30 1
def zf_X_check (st : zu_X) : Int32 :=
  if (zf_S_firstMissing st.2.1 st.1) = (-1) then (if (zf_S_sumIsWrong st.2.1 2 12) = 0 then (if (zf_S_sumIsWrong st.2.1 3 13) = 0 then (if (zf_X_firstWithoutGoodCode st) = (-1) then (if (zf_S_lineCount st.2.1) = 0 then 5000000
          else 0)
        else 4000000 + (zf_X_placeOf (zf_X_firstWithoutGoodCode st)))
      else 3000000)
    else 2000000)
  else 1000000 + (zf_X_placeOf (zf_S_firstMissing st.2.1 st.1))
def zf_X_pack (st : zu_X) : Int32 :=
  3 + (6 * (zf_S_setCount st.2.1))
def zf_X_packedByte (st : zu_X) (p1 : Int32) (p2 : Int32) : Int32 :=
  if p2 = 0 then (zf_X_fieldOf p1).toInt8.toInt32
  else if p2 = 1 then (zf_X_lineOf p1).toInt8.toInt32
  else (zf_X_byteOf (zf_S_valueAt st.2.1 p1) (5 - p2))
theorem zo_X_packedByte (st : zu_X) (p1 : Int32) (p2 : Int32) : narrow .byte (.int (zf_X_packedByte st p1 p2)) = .int (zf_X_packedByte st p1 p2) := by
  unfold zf_X_packedByte
  by_cases h36 : p2 = 0
  · rw [if_pos h36]
    exact (pk_nb _)
  · rw [if_neg h36]
    by_cases h37 : p2 = 1
    · rw [if_pos h37]
      exact (pk_nb _)
    · rw [if_neg h37]
      exact (zo_X_byteOf (zf_S_valueAt st.2.1 p1) (5 - p2))
def zf_X_remove (st : zu_X) (p1 : Int32) : Int32 × zu_X :=
  if st.2.2.2.2.2.2 = 0 then (if (zf_S_hasLine st.2.1 p1) = 0 then ((-1), st)
    else ((zf_S_dropLine st.2.1 p1).1, (st.1, (zf_S_dropLine st.2.1 p1).2, st.2.2.1, (zf_P_giveBack st.2.2.2.1 p1), st.2.2.2.2.1, st.2.2.2.2.2.1, st.2.2.2.2.2.2)))
  else ((-1), st)
def zf_X_clear (st : zu_X) (p1 : Int32) (p2 : Int32) : Int32 × zu_X :=
  if st.2.2.2.2.2.2 = 0 then (if (zf_S_slotOf st.2.1 p1 p2) = (-1) then (0, st)
    else if (zf_S_valueAt st.2.1 (zf_S_slotOf st.2.1 p1 p2)) = (-1) then (0, st)
    else (1, (st.1, (zf_S_put st.2.1 (zf_S_slotOf st.2.1 p1 p2) (-1)), st.2.2.1, st.2.2.2.1, st.2.2.2.2.1, st.2.2.2.2.2.1, st.2.2.2.2.2.2)))
  else (0, st)
theorem zo_X_clear (st : zu_X) (p1 : Int32) (p2 : Int32) : narrow .boolean (.int ((zf_X_clear st p1 p2).1)) = .int ((zf_X_clear st p1 p2).1) := by
  unfold zf_X_clear
  by_cases h38 : st.2.2.2.2.2.2 = 0
  · rw [if_pos h38]
    by_cases h39 : (zf_S_slotOf st.2.1 p1 p2) = (-1)
    · rw [if_pos h39]
      exact narrow_b0
    · rw [if_neg h39]
      by_cases h40 : (zf_S_valueAt st.2.1 (zf_S_slotOf st.2.1 p1 p2)) = (-1)
      · rw [if_pos h40]
        exact narrow_b0
      · rw [if_neg h40]
        exact narrow_b1
  · rw [if_neg h38]
    exact narrow_b0
def zf_X_code (st : zu_X) (p1 : Int64) (p3 : Int32) : Int32 × zu_X :=
  if (zf_X_isValue p1) = 0 then (0, st)
  else if p3 < 0 then (0, st)
  else if p3 ≤ 100000 then ((zf_C_tell st.2.2.1 p1.toInt32 p3).1, (st.1, st.2.1, (zf_C_tell st.2.2.1 p1.toInt32 p3).2, st.2.2.2.1, st.2.2.2.2.1, st.2.2.2.2.2.1, st.2.2.2.2.2.2))
  else (0, st)
theorem zo_X_code (st : zu_X) (p1 : Int64) (p3 : Int32) : narrow .boolean (.int ((zf_X_code st p1 p3).1)) = .int ((zf_X_code st p1 p3).1) := by
  unfold zf_X_code
  by_cases h41 : (zf_X_isValue p1) = 0
  · rw [if_pos h41]
    exact narrow_b0
  · rw [if_neg h41]
    by_cases h42 : p3 < 0
    · rw [if_pos h42]
      exact narrow_b0
    · rw [if_neg h42]
      by_cases h43 : p3 ≤ 100000
      · rw [if_pos h43]
        exact (zo_C_tell st.2.2.1 p1.toInt32 p3)
      · rw [if_neg h43]
        exact narrow_b0
def zf_X_day (st : zu_X) (p1 : Int32) : Int32 × zu_X :=
  if p1 < st.2.2.2.2.2.1 then (0, st)
  else if p1 ≤ 100000 then (1, (st.1, st.2.1, st.2.2.1, st.2.2.2.1, st.2.2.2.2.1, p1, st.2.2.2.2.2.2))
  else (0, st)
theorem zo_X_day (st : zu_X) (p1 : Int32) : narrow .boolean (.int ((zf_X_day st p1).1)) = .int ((zf_X_day st p1).1) := by
  unfold zf_X_day
  by_cases h44 : p1 < st.2.2.2.2.2.1
  · rw [if_pos h44]
    exact narrow_b0
  · rw [if_neg h44]
    by_cases h45 : p1 ≤ 100000
    · rw [if_pos h45]
      exact narrow_b1
    · rw [if_neg h45]
      exact narrow_b0
def zf_X_lodge (st : zu_X) : Int32 × zu_X :=
  if st.2.2.2.2.2.2 = 0 then (if (zf_X_check st) = 0 then (1, (st.1, st.2.1, st.2.2.1, st.2.2.2.1, st.2.2.2.2.1, st.2.2.2.2.2.1, 1))
    else (0, st))
  else (0, st)
def zf_X_paper (st : zu_X) (p1 : Int32) (p2 : Int32) : Int32 × zu_X :=
  if p1 < 1 then (0, st)
  else if 1000000 < p1 then (0, st)
  else if p2 < 0 then (0, st)
  else if p2 ≤ 1000000 then ((zf_P_register st.2.2.2.1 p1 p2).1, (st.1, st.2.1, st.2.2.1, (zf_P_register st.2.2.2.1 p1 p2).2, st.2.2.2.2.1, st.2.2.2.2.2.1, st.2.2.2.2.2.2))
  else (0, st)
theorem zo_X_paper (st : zu_X) (p1 : Int32) (p2 : Int32) : narrow .boolean (.int ((zf_X_paper st p1 p2).1)) = .int ((zf_X_paper st p1 p2).1) := by
  unfold zf_X_paper
  by_cases h46 : p1 < 1
  · rw [if_pos h46]
    exact narrow_b0
  · rw [if_neg h46]
    by_cases h47 : 1000000 < p1
    · rw [if_pos h47]
      exact narrow_b0
    · rw [if_neg h47]
      by_cases h48 : p2 < 0
      · rw [if_pos h48]
        exact narrow_b0
      · rw [if_neg h48]
        by_cases h49 : p2 ≤ 1000000
        · rw [if_pos h49]
          exact (zo_P_register st.2.2.2.1 p1 p2)
        · rw [if_neg h49]
          exact narrow_b0
def zf_X_read (st : zu_X) (p1 : Int32) : Int32 × zu_X :=
  ((zf_R_accept st.2.2.2.2.1 (p1 &&& 255)).1, (st.1, st.2.1, st.2.2.1, st.2.2.2.1, (zf_R_accept st.2.2.2.2.1 (p1 &&& 255)).2, st.2.2.2.2.2.1, st.2.2.2.2.2.2))
def zf_X_count (st : zu_X) (p1 : Int32) : Int32 :=
  if p1 = 0 then (zf_S_lineCount st.2.1)
  else if p1 = 1 then (zf_S_setCount st.2.1)
  else if p1 = 2 then (if st.2.2.2.2.2.2 = 0 then 0
    else 1)
  else if p1 = 3 then (zf_C_goodCount st.2.2.1 st.2.2.2.2.2.1)
  else if p1 = 4 then (zf_P_size st.2.2.2.1)
  else if p1 = 5 then st.2.2.2.2.2.1
  else if p1 = 6 then st.1
  else if p1 = 7 then (zf_R_wholeRows st.2.2.2.2.1)
  else if p1 = 8 then (zf_R_latestFields st.2.2.2.2.1)
  else if 100 ≤ p1 then (zf_P_balanceOf st.2.2.2.1 (p1 - 100))
  else (-1)
def zf_X_line (st : zu_X) : Nat × Int32 × zu_X :=
  if st.2.2.2.2.2.2 = 0 then (if (zf_S_isFull st.2.1) = 0 then (0, (zf_S_openLine st.2.1).1, (st.1, (zf_S_openLine st.2.1).2, st.2.2.1, st.2.2.2.1, st.2.2.2.2.1, st.2.2.2.2.2.1, st.2.2.2.2.2.2))
    else (1, 0, st))
  else (1, 0, st)
def zf_X_field (st : zu_X) (p1 : Int32) (p2 : Int32) (p3 : Int64) : Nat × Int32 × zu_X :=
  if (zf_S_slotOf st.2.1 p1 p2) = (-1) then (1, 0, st)
  else if (zf_X_isValue p3) = 0 then (1, 0, st)
  else if st.2.2.2.2.2.2 = 0 then (if (zf_X_needBy st.1 p1) = 3 then (0, 0, st)
    else (0, 1, (st.1, (zf_S_put st.2.1 (zf_S_slotOf st.2.1 p1 p2) p3.toInt32), st.2.2.1, st.2.2.2.1, st.2.2.2.2.1, st.2.2.2.2.2.1, st.2.2.2.2.2.2)))
  else (0, 0, st)
def zf_X_value (st : zu_X) (p1 : Int32) (p2 : Int32) : Nat × Int64 :=
  if (zf_S_slotOf st.2.1 p1 p2) = (-1) then (1, 0)
  else (0, (zf_S_valueAt st.2.1 (zf_S_slotOf st.2.1 p1 p2)).toInt64)
def zf_X_need (st : zu_X) (p1 : Int32) : Nat × Int32 :=
  if p1 < 0 then (1, 0)
  else if p1 ≤ 19 then (0, (zf_X_needBy st.1 p1))
  else (1, 0)
def zf_X_amend (st : zu_X) (p1 : Int32) (p2 : Int32) (p3 : Int64) : Nat × Int32 × zu_X :=
  if (zf_S_slotOf st.2.1 p1 p2) = (-1) then (1, 0, st)
  else if (zf_X_isValue p3) = 0 then (1, 0, st)
  else if st.2.2.2.2.2.2 = 0 then (2, 0, st)
  else if (p1 - p1 / 3 * 3) = 0 then (0, 0, st)
  else if (zf_X_needBy st.1 p1) = 3 then (0, 0, st)
  else if (zf_X_check (st.1, (zf_S_put st.2.1 (zf_S_slotOf st.2.1 p1 p2) p3.toInt32), st.2.2.1, st.2.2.2.1, st.2.2.2.2.1, st.2.2.2.2.2.1, st.2.2.2.2.2.2)) = 0 then (0, 1, (st.1, (zf_S_put st.2.1 (zf_S_slotOf st.2.1 p1 p2) p3.toInt32), st.2.2.1, st.2.2.2.1, st.2.2.2.2.1, st.2.2.2.2.2.1, st.2.2.2.2.2.2))
  else (0, 0, (st.1, (zf_S_put (zf_S_put st.2.1 (zf_S_slotOf st.2.1 p1 p2) p3.toInt32) (zf_S_slotOf st.2.1 p1 p2) (zf_S_valueAt st.2.1 (zf_S_slotOf st.2.1 p1 p2))), st.2.2.1, st.2.2.2.1, st.2.2.2.2.1, st.2.2.2.2.2.1, st.2.2.2.2.2.2))
def zf_X_draw (st : zu_X) (p1 : Int32) (p2 : Int32) (p3 : Int32) : Nat × Int32 × zu_X :=
  if (zf_S_hasLine st.2.1 p1) = 0 then (1, 0, st)
  else if (zf_P_find st.2.2.2.1 p2) = (-1) then (1, 0, st)
  else if p3 < 1 then (1, 0, st)
  else if p3 ≤ 1000000 then (if st.2.2.2.2.2.2 = 0 then (0, (zf_P_take st.2.2.2.1 p1 (zf_P_find st.2.2.2.1 p2) p3).1, (st.1, st.2.1, st.2.2.1, (zf_P_take st.2.2.2.1 p1 (zf_P_find st.2.2.2.1 p2) p3).2, st.2.2.2.2.1, st.2.2.2.2.2.1, st.2.2.2.2.2.2))
    else (0, (-1), st))
  else (1, 0, st)
def zf_X_sum (st : zu_X) (p1 : Int32) : Nat × Int64 :=
  if p1 < 10 then (1, 0)
  else if p1 ≤ 19 then (0, (zf_S_total st.2.1 p1))
  else (1, 0)
def zf_X_octet (st : zu_X) (p1 : Int32) : Nat × Int32 :=
  if p1 < 0 then (1, 0)
  else if p1 < (zf_X_pack st) then (if p1 = 0 then (0, st.1.toInt8.toInt32)
    else if 3 ≤ p1 then (0, (zf_X_packedByte st (zf_S_setSlot st.2.1 ((p1 - 3) / 6)) ((p1 - 3) - (p1 - 3) / 6 * 6)))
    else (0, (zf_X_byteOf (zf_S_setCount st.2.1) (2 - p1))))
  else (1, 0)
def zf_F_fill_L5 (p1 : Int32) (x3 : Int32) : Nat → Nat → zu_F → zu_F
  | 0, k, st => st
  | mm + 1, k, st => zf_F_fill_L5 p1 x3 mm (k + 1) ((upd st k p1))
def zf_F_fill (st : zu_F) (p1 : Int32) : zu_F :=
  zf_F_fill_L5 p1 310 310 0 st
/-! places that the class looks at, in range -/
theorem zx_line {x : Int32} (h1 : ¬ x < 1) (h2 : ¬ 30 < x) : vp_in x 31 := by
  rw [vp_in_iff]
  rw [Int32.lt_iff_toInt_lt] at h1 h2
  have e1 : (1 : Int32).toInt = 1 := by decide
  have e2 : (30 : Int32).toInt = 30 := by decide
  omega
theorem zx_slot {x : Int32} (h1 : ¬ x < 0) (h2 : x < 310) : vp_in x 310 := by
  rw [vp_in_iff]
  rw [Int32.lt_iff_toInt_lt] at h1 h2
  have e1 : (0 : Int32).toInt = 0 := by decide
  have e2 : (310 : Int32).toInt = 310 := by decide
  omega
theorem zx_has {st : zu_S} {x : Int32} (h : ¬ zf_S_hasLine st x = 0) : vp_in x 31 := by
  by_cases h1 : x < 1
  · exact absurd (by rw [zf_S_hasLine, if_pos h1]) h
  · by_cases h2 : 30 < x
    · exact absurd (by rw [zf_S_hasLine, if_neg h1, if_pos h2]) h
    · exact zx_line h1 h2
theorem zx_h20 {n : Nat} (hh : n ≤ 20) (h : nI n < 20) : n < 20 := by
  rcases Nat.lt_or_ge n 20 with q | q
  · exact q
  · exact absurd h (nI_nlt (b := 20) q (by omega))
theorem zx_h20n {n : Nat} (hh : n ≤ 20) (h : ¬ 20 ≤ nI n) : n < 20 := by
  rcases Nat.lt_or_ge n 20 with q | q
  · exact q
  · exact absurd (nI_le (a := 20) q (by omega)) h
theorem zx_open {st : zu_S} (hm : st.2.2.1 ≤ 30) (h : zf_S_isFull st = 0) : vp_in (nI (st.2.2.1 + 1)) 31 := by
  have h1 : nI st.2.2.1 < 30 := by
    by_cases h1 : nI st.2.2.1 < 30
    · exact h1
    · rw [zf_S_isFull, if_neg h1] at h; exact absurd h (by decide)
  have h2 : st.2.2.1 < 30 := by
    rcases Nat.lt_or_ge st.2.2.1 30 with q | q
    · exact q
    · exact absurd h1 (nI_nlt (b := 30) q (by omega))
  exact vp_in_nI (by omega) (by decide)
theorem zq_cfind (st : zu_C) (v : Int32) : ∀ mm k : Nat, zf_C_find_L2 st v mm k = (-1) ∨ ∃ j : Nat, k ≤ j ∧ j < k + mm ∧ zf_C_find_L2 st v mm k = nI j ∧ st.1 j = v := by
  intro mm
  induction mm with
  | zero => intro k; exact Or.inl rfl
  | succ mm ih =>
    intro k
    by_cases h : st.1 k = v
    · exact Or.inr ⟨k, Nat.le_refl k, by omega, by rw [zf_C_find_L2, if_pos h], h⟩
    · rw [zf_C_find_L2, if_neg h]
      rcases ih (k + 1) with q | ⟨j, h1, h2, h3, h4⟩
      · exact Or.inl q
      · exact Or.inr ⟨j, by omega, by omega, h3, h4⟩
theorem zx_cfind {st : zu_C} {v : Int32} (hh : st.2.2 ≤ 20) (h : ¬ zf_C_find st v = (-1)) : vp_in (zf_C_find st v) 20 := by
  rcases zq_cfind st v st.2.2 0 with q | ⟨j, h1, h2, h3, h4⟩
  · exact absurd q h
  · rw [zf_C_find, h3]
    exact vp_in_nI (by omega) (by decide)
theorem zq_pfind (st : zu_P) (v : Int32) : ∀ mm k : Nat, zf_P_find_L2 st v mm k = (-1) ∨ ∃ j : Nat, k ≤ j ∧ j < k + mm ∧ zf_P_find_L2 st v mm k = nI j ∧ st.1 j = v := by
  intro mm
  induction mm with
  | zero => intro k; exact Or.inl rfl
  | succ mm ih =>
    intro k
    by_cases h : st.1 k = v
    · exact Or.inr ⟨k, Nat.le_refl k, by omega, by rw [zf_P_find_L2, if_pos h], h⟩
    · rw [zf_P_find_L2, if_neg h]
      rcases ih (k + 1) with q | ⟨j, h1, h2, h3, h4⟩
      · exact Or.inl q
      · exact Or.inr ⟨j, by omega, by omega, h3, h4⟩
theorem zx_pfind {st : zu_P} {v : Int32} (hh : st.2.2.2 ≤ 20) (h : ¬ zf_P_find st v = (-1)) : vp_in (zf_P_find st v) 20 := by
  rcases zq_pfind st v st.2.2.2 0 with q | ⟨j, h1, h2, h3, h4⟩
  · exact absurd q h
  · rw [zf_P_find, h3]
    exact vp_in_nI (by omega) (by decide)
theorem zx_at {n : Nat} {x : Int32} (hh : n ≤ 20) (h1 : ¬ x < 0) (h2 : ¬ nI n ≤ x) : vp_in x 20 := by
  rw [vp_in_iff]
  rw [Int32.lt_iff_toInt_lt] at h1
  rw [Int32.le_iff_toInt_le, nI_toInt (by omega)] at h2
  have e1 : (0 : Int32).toInt = 0 := by decide
  omega
theorem zx_dk {x : Int32} {k : Nat} (h1 : ¬ x < 0) (h2 : x ≤ 30) (hk : k < 20) : vp_in ((x * 20) + (nI k)) 620 := by
  obtain ⟨a, ha, rfl⟩ := nI_of2 (M := 30) (n := 30) (by decide) h1 h2
  rw [show (20 : Int32) = nI 20 from rfl, pk_mul, nI_add]
  exact vp_in_nI (by omega) (by decide)
theorem zx_dr {n : Nat} {x y : Int32} (hh : n ≤ 20) (h1 : ¬ x < 0) (h2 : ¬ 30 < x) (h3 : ¬ y < 0) (h4 : ¬ nI n ≤ y) : vp_in ((x * 20) + y) 620 := by
  have h5 := zx_at hh h3 h4
  obtain ⟨b, hb, rfl⟩ := vp_in_of h5 (by decide)
  refine zx_dk h1 ?_ hb
  rw [Int32.lt_iff_toInt_lt] at h2
  rw [Int32.le_iff_toInt_le]
  omega
end
section
set_option maxHeartbeats 4000000 in
set_option maxRecDepth 100000 in
theorem zc_X_isValue (l : Launch) (dC : Nat → ClassId) (dI : Nat → Nat → Nat) (cI cZ cL : ClassId) (sz : Nat) (p0 : Int64)  : Met l zy_X_isValue (zz_ws zy_X_isValue zb_X_isValue 2 (some .boolean)) ({ frames := 0, cells := 0, slots := 0, locals := 0 } : Room) (va_Pc ([.long p0] : List Value) (zz_P (dC, dI) (zz_ty cI cZ cL) sz [])) (zz_Ki (zf_X_isValue p0)) 0 0 (fun _ => False) := by
  refine zz_ofK (by decide) (Nat.le_of_ble_eq_true rfl) ?_
  intro p e s m below meth c C0 hK hP hD ls hl
  obtain ⟨hx, hb, hr, hml, hown, htB, hlocks, hE⟩ := id C0
  have hl : lv_has ls 2 [(0, .long p0)] := hl
  refine lv_lload_n hx hb zd_X_isValue_0 rfl (lv_at hl 0 rfl) ?_
  refine lv_lconst (v := 0) hx hb zd_X_isValue_1 (by decide) ?_
  refine W.lcmp hx hb zd_X_isValue_2 ?_
  refine lv_if_lt (tgt := 18) hx hb zd_X_isValue_3 (by decide) (fun c_3 => ?_) (fun c_3 => ?_)
  · refine lv_iconst (v := 0) hx hb zd_X_isValue_18 (by decide) ?_
    rw [(show zf_X_isValue p0 = 0 from by rw [zf_X_isValue, if_pos c_3])]
    exact zz_kzret hx hb hr hlocks narrow_b0 zd_X_isValue_19 rfl
  · refine lv_lload_n hx hb zd_X_isValue_6 rfl (lv_at hl 0 rfl) ?_
    refine lv_ldc2 (v := 1000000000) hx hb hown (htB _ zk_51b6b441) zd_X_isValue_7 ?_
    refine W.lcmp hx hb zd_X_isValue_10 ?_
    refine lv_if_gt (tgt := 18) hx hb zd_X_isValue_11 (by decide) (fun c_11 => ?_) (fun c_11 => ?_)
    · refine lv_iconst (v := 0) hx hb zd_X_isValue_18 (by decide) ?_
      rw [(show zf_X_isValue p0 = 0 from by rw [zf_X_isValue, if_neg c_3, if_pos c_11])]
      exact zz_kzret hx hb hr hlocks narrow_b0 zd_X_isValue_19 rfl
    · refine lv_iconst (v := 1) hx hb zd_X_isValue_14 (by decide) ?_
      refine lv_goto (tgt := 19) hx hb zd_X_isValue_15 (by decide) ?_
      rw [(show zf_X_isValue p0 = 1 from by rw [zf_X_isValue, if_neg c_3, if_neg c_11])]
      exact zz_kzret hx hb hr hlocks narrow_b1 zd_X_isValue_19 rfl
set_option maxHeartbeats 4000000 in
set_option maxRecDepth 100000 in
theorem zc_X_needBy (l : Launch) (dC : Nat → ClassId) (dI : Nat → Nat → Nat) (cI cZ cL : ClassId) (sz : Nat) (p0 : Int32) (p1 : Int32)  : Met l zy_X_needBy (zz_ws zy_X_needBy zb_X_needBy 2 (some .int)) ({ frames := 0, cells := 0, slots := 0, locals := 0 } : Room) (va_Pc ([.int p0, .int p1] : List Value) (zz_P (dC, dI) (zz_ty cI cZ cL) sz [])) (zz_Ki (zf_X_needBy p0 p1)) 0 0 (fun _ => False) := by
  refine zz_ofK (by decide) (Nat.le_of_ble_eq_true rfl) ?_
  intro p e s m below meth c C0 hK hP hD ls hl
  obtain ⟨hx, hb, hr, hml, hown, htB, hlocks, hE⟩ := id C0
  have hl : lv_has ls 2 [(0, .int p0), (1, .int p1)] := hl
  refine lv_iconst (v := 3) hx hb zd_X_needBy_0 (by decide) ?_
  refine lv_iload_n hx hb zd_X_needBy_1 rfl (lv_at hl 1 rfl) ?_
  refine lv_imul hx hb zd_X_needBy_2 ?_
  refine lv_iconst (v := 5) hx hb zd_X_needBy_3 (by decide) ?_
  refine lv_iload_n hx hb zd_X_needBy_4 rfl (lv_at hl 0 rfl) ?_
  refine lv_imul hx hb zd_X_needBy_5 ?_
  refine lv_iadd hx hb zd_X_needBy_6 ?_
  refine lv_iconst (v := 4) hx hb zd_X_needBy_7 (by decide) ?_
  refine lv_irem hx hb zd_X_needBy_8 (by decide) ?_
  rw [(show zf_X_needBy p0 p1 = ((3 * p1) + (5 * p0)) - ((3 * p1) + (5 * p0)) / 4 * 4 from by first | rfl | (rw [zf_X_needBy]))]
  exact zz_kiret hx hb hr hlocks zd_X_needBy_9 rfl
set_option maxHeartbeats 4000000 in
set_option maxRecDepth 100000 in
theorem zc_X_lineOf (l : Launch) (dC : Nat → ClassId) (dI : Nat → Nat → Nat) (cI cZ cL : ClassId) (sz : Nat) (p0 : Int32)  : Met l zy_X_lineOf (zz_ws zy_X_lineOf zb_X_lineOf 1 (some .int)) ({ frames := 0, cells := 0, slots := 0, locals := 0 } : Room) (va_Pc ([.int p0] : List Value) (zz_P (dC, dI) (zz_ty cI cZ cL) sz [])) (zz_Ki (zf_X_lineOf p0)) 0 0 (fun _ => False) := by
  refine zz_ofK (by decide) (Nat.le_of_ble_eq_true rfl) ?_
  intro p e s m below meth c C0 hK hP hD ls hl
  obtain ⟨hx, hb, hr, hml, hown, htB, hlocks, hE⟩ := id C0
  have hl : lv_has ls 1 [(0, .int p0)] := hl
  refine lv_iload_n hx hb zd_X_lineOf_0 rfl (lv_at hl 0 rfl) ?_
  refine lv_bipush (v := 10) hx hb zd_X_lineOf_1 (by decide) ?_
  refine lv_idiv hx hb zd_X_lineOf_3 (by decide) ?_
  rw [(show zf_X_lineOf p0 = p0 / 10 from by first | rfl | (rw [zf_X_lineOf]))]
  exact zz_kiret hx hb hr hlocks zd_X_lineOf_4 rfl
set_option maxHeartbeats 4000000 in
set_option maxRecDepth 100000 in
theorem zc_X_fieldOf (l : Launch) (dC : Nat → ClassId) (dI : Nat → Nat → Nat) (cI cZ cL : ClassId) (sz : Nat) (p0 : Int32)  : Met l zy_X_fieldOf (zz_ws zy_X_fieldOf zb_X_fieldOf 1 (some .int)) ({ frames := 0, cells := 0, slots := 0, locals := 0 } : Room) (va_Pc ([.int p0] : List Value) (zz_P (dC, dI) (zz_ty cI cZ cL) sz [])) (zz_Ki (zf_X_fieldOf p0)) 0 0 (fun _ => False) := by
  refine zz_ofK (by decide) (Nat.le_of_ble_eq_true rfl) ?_
  intro p e s m below meth c C0 hK hP hD ls hl
  obtain ⟨hx, hb, hr, hml, hown, htB, hlocks, hE⟩ := id C0
  have hl : lv_has ls 1 [(0, .int p0)] := hl
  refine lv_iload_n hx hb zd_X_fieldOf_0 rfl (lv_at hl 0 rfl) ?_
  refine lv_bipush (v := 10) hx hb zd_X_fieldOf_1 (by decide) ?_
  refine lv_icmp_ge (tgt := 10) hx hb zd_X_fieldOf_3 (by decide) (fun c_3 => ?_) (fun c_3 => ?_)
  · refine lv_bipush (v := 10) hx hb zd_X_fieldOf_10 (by decide) ?_
    refine lv_iload_n hx hb zd_X_fieldOf_12 rfl (lv_at hl 0 rfl) ?_
    refine lv_bipush (v := 10) hx hb zd_X_fieldOf_13 (by decide) ?_
    refine lv_irem hx hb zd_X_fieldOf_15 (by decide) ?_
    refine lv_iadd hx hb zd_X_fieldOf_16 ?_
    rw [(show zf_X_fieldOf p0 = 10 + (p0 - p0 / 10 * 10) from by rw [zf_X_fieldOf, if_pos c_3])]
    exact zz_kiret hx hb hr hlocks zd_X_fieldOf_17 rfl
  · refine lv_iload_n hx hb zd_X_fieldOf_6 rfl (lv_at hl 0 rfl) ?_
    refine lv_goto (tgt := 17) hx hb zd_X_fieldOf_7 (by decide) ?_
    rw [(show zf_X_fieldOf p0 = p0 from by rw [zf_X_fieldOf, if_neg c_3])]
    exact zz_kiret hx hb hr hlocks zd_X_fieldOf_17 rfl
set_option maxHeartbeats 4000000 in
set_option maxRecDepth 100000 in
theorem zc_X_placeOf (l : Launch) (dC : Nat → ClassId) (dI : Nat → Nat → Nat) (cI cZ cL : ClassId) (sz : Nat) (p0 : Int32)  : Met l zy_X_placeOf (zz_ws zy_X_placeOf zb_X_placeOf 1 (some .int)) ({ frames := 1, cells := 0, slots := 0, locals := 20 } : Room) (va_Pc ([.int p0] : List Value) (zz_P (dC, dI) (zz_ty cI cZ cL) sz [])) (zz_Ki (zf_X_placeOf p0)) 0 0 (fun _ => False) := by
  refine zz_ofK (by decide) (Nat.le_of_ble_eq_true rfl) ?_
  intro p e s m below meth c C0 hK hP hD ls hl
  obtain ⟨hx, hb, hr, hml, hown, htB, hlocks, hE⟩ := id C0
  have hl : lv_has ls 1 [(0, .int p0)] := hl
  refine lv_bipush (v := 100) hx hb zd_X_placeOf_0 (by decide) ?_
  refine lv_iload_n hx hb zd_X_placeOf_2 rfl (lv_at hl 0 rfl) ?_
  refine zz_ki (va_runS (As := [.int p0]) (rest := [.int 100]) ⟨hx, hb, hml, hown, htB⟩ (zc_X_lineOf l dC dI cI cZ cL  s.heap.size  p0 ) (va_cwS 1 htB (zz_gS zk_fcb9702c zk_bd1d2622 zk_cfe38e2e zk_7540bdb8) rfl rfl rfl zh_X_lineOf ⟨Nat.le_of_ble_eq_true rfl, Nat.le_of_ble_eq_true rfl⟩) (zz_preS hP hD hK hE [] (by decide) rfl) rfl rfl hl.1 rfl (lv_room (Nat.le_of_ble_eq_true rfl)) zd_X_placeOf_3 ⟨Nat.le_of_ble_eq_true rfl, Nat.le_of_ble_eq_true rfl⟩) ?_
  refine lv_imul hx hb zd_X_placeOf_6 ?_
  refine lv_iload_n hx hb zd_X_placeOf_7 rfl (lv_at hl 0 rfl) ?_
  refine zz_ki (va_runS (As := [.int p0]) (rest := [.int (100 * (zf_X_lineOf p0))]) ⟨hx, hb, hml, hown, htB⟩ (zc_X_fieldOf l dC dI cI cZ cL  s.heap.size  p0 ) (va_cwS 1 htB (zz_gS zk_a091db21 zk_82f2c4f0 zk_cfe38e2e zk_1944e685) rfl rfl rfl zh_X_fieldOf ⟨Nat.le_of_ble_eq_true rfl, Nat.le_of_ble_eq_true rfl⟩) (zz_preS hP hD hK hE [] (by decide) rfl) rfl rfl hl.1 rfl (lv_room (Nat.le_of_ble_eq_true rfl)) zd_X_placeOf_8 ⟨Nat.le_of_ble_eq_true rfl, Nat.le_of_ble_eq_true rfl⟩) ?_
  refine lv_iadd hx hb zd_X_placeOf_11 ?_
  rw [(show zf_X_placeOf p0 = (100 * (zf_X_lineOf p0)) + (zf_X_fieldOf p0) from by first | rfl | (rw [zf_X_placeOf]))]
  exact zz_kiret hx hb hr hlocks zd_X_placeOf_12 rfl
set_option maxHeartbeats 4000000 in
set_option maxRecDepth 100000 in
theorem zc_X_byteOf (l : Launch) (dC : Nat → ClassId) (dI : Nat → Nat → Nat) (cI cZ cL : ClassId) (sz : Nat) (p0 : Int32) (p1 : Int32)  : Met l zy_X_byteOf (zz_ws zy_X_byteOf zb_X_byteOf 2 (some .byte)) ({ frames := 0, cells := 0, slots := 0, locals := 0 } : Room) (va_Pc ([.int p0, .int p1] : List Value) (zz_P (dC, dI) (zz_ty cI cZ cL) sz [])) (zz_Ki (zf_X_byteOf p0 p1)) 0 0 (fun _ => False) := by
  refine zz_ofK (by decide) (Nat.le_of_ble_eq_true rfl) ?_
  intro p e s m below meth c C0 hK hP hD ls hl
  obtain ⟨hx, hb, hr, hml, hown, htB, hlocks, hE⟩ := id C0
  have hl : lv_has ls 2 [(0, .int p0), (1, .int p1)] := hl
  refine lv_iload_n hx hb zd_X_byteOf_0 rfl (lv_at hl 0 rfl) ?_
  refine lv_bipush (v := 8) hx hb zd_X_byteOf_1 (by decide) ?_
  refine lv_iload_n hx hb zd_X_byteOf_3 rfl (lv_at hl 1 rfl) ?_
  refine lv_imul hx hb zd_X_byteOf_4 ?_
  refine lv_iushr hx hb zd_X_byteOf_5 rfl ?_
  refine lv_i2b hx hb zd_X_byteOf_6 rfl ?_
  rw [(show zf_X_byteOf p0 p1 = ((p0.toUInt32 >>> ((8 * p1).toUInt32 &&& Int32.toUInt32 31)).toInt32).toInt8.toInt32 from by first | rfl | (rw [zf_X_byteOf]))]
  exact zz_kzret hx hb hr hlocks (pk_nb _) zd_X_byteOf_7 rfl
set_option maxHeartbeats 4000000 in
set_option maxRecDepth 100000 in
theorem zc_S_isFull (l : Launch) (dC : Nat → ClassId) (dI : Nat → Nat → Nat) (cI cZ cL : ClassId) (a0 a1 a2 : Nat) (sz : Nat) (st : zu_S)  : Met l zy_S_isFull (zz_ws zy_S_isFull zb_S_isFull 1 (some .boolean)) ({ frames := 0, cells := 0, slots := 0, locals := 0 } : Room) (va_Pc ([.ref a0] : List Value) (zz_P (dC, dI) (zz_ty cI cZ cL) sz (zw_S cI cZ cL a0 a1 a2 st))) (zz_Ki (zf_S_isFull st)) 0 0 (fun _ => False) := by
  refine zz_ofK (by decide) (Nat.le_of_ble_eq_true rfl) ?_
  intro p e s m below meth c C0 hK hP hD ls hl
  obtain ⟨hx, hb, hr, hml, hown, htB, hlocks, hE⟩ := id C0
  have hl : lv_has ls 1 [(0, .ref a0)] := hl
  refine lv_aload_n hx hb zd_S_isFull_0 rfl (lv_at hl 0 rfl) ?_
  refine va_get (D := (dC, dI)) (ci := 1) (v := .int (nI st.2.2.1)) (C := zr_S) (T := zF_S) (N := 5) hx hb htB zi_S hown hK hP 0 rfl rfl 2 (by decide) (htB _ zk_a32d7426) (fun _ h9 => h9) rfl zd_S_isFull_1 ?_
  refine lv_bipush (v := 30) hx hb zd_S_isFull_4 (by decide) ?_
  refine lv_icmp_lt (tgt := 13) hx hb zd_S_isFull_6 (by decide) (fun c_6 => ?_) (fun c_6 => ?_)
  · refine lv_iconst (v := 0) hx hb zd_S_isFull_13 (by decide) ?_
    rw [(show zf_S_isFull st = 0 from by rw [zf_S_isFull, if_pos c_6])]
    exact zz_kzret hx hb hr hlocks narrow_b0 zd_S_isFull_14 rfl
  · refine lv_iconst (v := 1) hx hb zd_S_isFull_9 (by decide) ?_
    refine lv_goto (tgt := 14) hx hb zd_S_isFull_10 (by decide) ?_
    rw [(show zf_S_isFull st = 1 from by rw [zf_S_isFull, if_neg c_6])]
    exact zz_kzret hx hb hr hlocks narrow_b1 zd_S_isFull_14 rfl
set_option maxHeartbeats 4000000 in
set_option maxRecDepth 100000 in
theorem zc_S_hasLine (l : Launch) (dC : Nat → ClassId) (dI : Nat → Nat → Nat) (cI cZ cL : ClassId) (a0 a1 a2 : Nat) (sz : Nat) (st : zu_S) (p1 : Int32)  : Met l zy_S_hasLine (zz_ws zy_S_hasLine zb_S_hasLine 2 (some .boolean)) ({ frames := 0, cells := 0, slots := 0, locals := 0 } : Room) (va_Pc ([.ref a0, .int p1] : List Value) (zz_P (dC, dI) (zz_ty cI cZ cL) sz (zw_S cI cZ cL a0 a1 a2 st))) (zz_Ki (zf_S_hasLine st p1)) 0 0 (fun _ => False) := by
  refine zz_ofK (by decide) (Nat.le_of_ble_eq_true rfl) ?_
  intro p e s m below meth c C0 hK hP hD ls hl
  obtain ⟨hx, hb, hr, hml, hown, htB, hlocks, hE⟩ := id C0
  have hl : lv_has ls 2 [(0, .ref a0), (1, .int p1)] := hl
  refine lv_iload_n hx hb zd_S_hasLine_0 rfl (lv_at hl 1 rfl) ?_
  refine lv_iconst (v := 1) hx hb zd_S_hasLine_1 (by decide) ?_
  refine lv_icmp_lt (tgt := 24) hx hb zd_S_hasLine_2 (by decide) (fun c_2 => ?_) (fun c_2 => ?_)
  · refine lv_iconst (v := 0) hx hb zd_S_hasLine_24 (by decide) ?_
    rw [(show zf_S_hasLine st p1 = 0 from by rw [zf_S_hasLine, if_pos c_2])]
    exact zz_kzret hx hb hr hlocks narrow_b0 zd_S_hasLine_25 rfl
  · refine lv_iload_n hx hb zd_S_hasLine_5 rfl (lv_at hl 1 rfl) ?_
    refine lv_bipush (v := 30) hx hb zd_S_hasLine_6 (by decide) ?_
    refine lv_icmp_gt (tgt := 24) hx hb zd_S_hasLine_8 (by decide) (fun c_8 => ?_) (fun c_8 => ?_)
    · refine lv_iconst (v := 0) hx hb zd_S_hasLine_24 (by decide) ?_
      rw [(show zf_S_hasLine st p1 = 0 from by rw [zf_S_hasLine, if_neg c_2, if_pos c_8])]
      exact zz_kzret hx hb hr hlocks narrow_b0 zd_S_hasLine_25 rfl
    · refine lv_aload_n hx hb zd_S_hasLine_11 rfl (lv_at hl 0 rfl) ?_
      refine va_get (D := (dC, dI)) (ci := 1) (v := .ref a2) (C := zr_S) (T := zF_S) (N := 5) hx hb htB zi_S hown hK hP 0 rfl rfl 1 (by decide) (htB _ zk_641e4f57) (fun _ h9 => h9) rfl zd_S_hasLine_12 ?_
      refine lv_iload_n hx hb zd_S_hasLine_15 rfl (lv_at hl 1 rfl) ?_
      refine va_zald hx hb hK hP 2 1 rfl rfl (zx_line c_2 c_8) zd_S_hasLine_16 ?_
      refine lv_if_eq (tgt := 24) hx hb zd_S_hasLine_17 (by decide) (fun c_17 => ?_) (fun c_17 => ?_)
      · refine lv_iconst (v := 0) hx hb zd_S_hasLine_24 (by decide) ?_
        rw [(show zf_S_hasLine st p1 = 0 from by rw [zf_S_hasLine, if_neg c_2, if_neg c_8, if_pos c_17])]
        exact zz_kzret hx hb hr hlocks narrow_b0 zd_S_hasLine_25 rfl
      · refine lv_iconst (v := 1) hx hb zd_S_hasLine_20 (by decide) ?_
        refine lv_goto (tgt := 25) hx hb zd_S_hasLine_21 (by decide) ?_
        rw [(show zf_S_hasLine st p1 = 1 from by rw [zf_S_hasLine, if_neg c_2, if_neg c_8, if_neg c_17])]
        exact zz_kzret hx hb hr hlocks narrow_b1 zd_S_hasLine_25 rfl
set_option maxHeartbeats 4000000 in
set_option maxRecDepth 100000 in
theorem zc_S_lineCount (l : Launch) (dC : Nat → ClassId) (dI : Nat → Nat → Nat) (cI cZ cL : ClassId) (a0 a1 a2 : Nat) (sz : Nat) (st : zu_S)  : Met l zy_S_lineCount (zz_ws zy_S_lineCount zb_S_lineCount 1 (some .int)) ({ frames := 0, cells := 0, slots := 0, locals := 0 } : Room) (va_Pc ([.ref a0] : List Value) (zz_P (dC, dI) (zz_ty cI cZ cL) sz (zw_S cI cZ cL a0 a1 a2 st))) (zz_Ki (zf_S_lineCount st)) 0 0 (fun _ => False) := by
  refine zz_ofK (by decide) (Nat.le_of_ble_eq_true rfl) ?_
  intro p e s m below meth c C0 hK hP hD ls hl
  obtain ⟨hx, hb, hr, hml, hown, htB, hlocks, hE⟩ := id C0
  have hl : lv_has ls 1 [(0, .ref a0)] := hl
  refine lv_aload_n hx hb zd_S_lineCount_0 rfl (lv_at hl 0 rfl) ?_
  refine va_get (D := (dC, dI)) (ci := 1) (v := .int st.2.2.2.1) (C := zr_S) (T := zF_S) (N := 5) hx hb htB zi_S hown hK hP 0 rfl rfl 3 (by decide) (htB _ zk_69f5fb79) (fun _ h9 => h9) rfl zd_S_lineCount_1 ?_
  rw [(show zf_S_lineCount st = st.2.2.2.1 from by first | rfl | (rw [zf_S_lineCount]))]
  exact zz_kiret hx hb hr hlocks zd_S_lineCount_4 rfl
set_option maxHeartbeats 4000000 in
set_option maxRecDepth 100000 in
theorem zc_S_setCount (l : Launch) (dC : Nat → ClassId) (dI : Nat → Nat → Nat) (cI cZ cL : ClassId) (a0 a1 a2 : Nat) (sz : Nat) (st : zu_S)  : Met l zy_S_setCount (zz_ws zy_S_setCount zb_S_setCount 1 (some .int)) ({ frames := 0, cells := 0, slots := 0, locals := 0 } : Room) (va_Pc ([.ref a0] : List Value) (zz_P (dC, dI) (zz_ty cI cZ cL) sz (zw_S cI cZ cL a0 a1 a2 st))) (zz_Ki (zf_S_setCount st)) 0 0 (fun _ => False) := by
  refine zz_ofK (by decide) (Nat.le_of_ble_eq_true rfl) ?_
  intro p e s m below meth c C0 hK hP hD ls hl
  obtain ⟨hx, hb, hr, hml, hown, htB, hlocks, hE⟩ := id C0
  have hl : lv_has ls 1 [(0, .ref a0)] := hl
  refine lv_aload_n hx hb zd_S_setCount_0 rfl (lv_at hl 0 rfl) ?_
  refine va_get (D := (dC, dI)) (ci := 1) (v := .int st.2.2.2.2) (C := zr_S) (T := zF_S) (N := 5) hx hb htB zi_S hown hK hP 0 rfl rfl 4 (by decide) (htB _ zk_93636338) (fun _ h9 => h9) rfl zd_S_setCount_1 ?_
  rw [(show zf_S_setCount st = st.2.2.2.2 from by first | rfl | (rw [zf_S_setCount]))]
  exact zz_kiret hx hb hr hlocks zd_S_setCount_4 rfl
set_option maxHeartbeats 4000000 in
set_option maxRecDepth 100000 in
theorem zc_S_openLine (l : Launch) (dC : Nat → ClassId) (dI : Nat → Nat → Nat) (cI cZ cL : ClassId) (a0 a1 a2 : Nat) (sz : Nat) (st : zu_S) (hm : st.2.2.1 ≤ 30) : Met l zy_S_openLine (zz_ws zy_S_openLine zb_S_openLine 1 (some .int)) ({ frames := 1, cells := 0, slots := 0, locals := 20 } : Room) (va_Pc ([.ref a0] : List Value) (zz_P (dC, dI) (zz_ty cI cZ cL) sz (zw_S cI cZ cL a0 a1 a2 st))) (zz_Qi (dC, dI) (zz_ty cI cZ cL) (va_A (zw_S cI cZ cL a0 a1 a2 st) sz) ((zf_S_openLine st).1) (zw_S cI cZ cL a0 a1 a2 ((zf_S_openLine st).2))) 0 0 (va_A (zw_S cI cZ cL a0 a1 a2 st) sz) := by
  refine zz_ofW (Q := fun A => (zz_Qi (dC, dI) (zz_ty cI cZ cL) A ((zf_S_openLine st).1) (zw_S cI cZ cL a0 a1 a2 ((zf_S_openLine st).2)))) (by decide) (Nat.le_of_ble_eq_true rfl) ?_
  intro p e s m below meth c A C0 _ hA hK hP hD _ ls hl
  obtain ⟨hx, hb, hr, hml, hown, htB, hlocks, hE⟩ := id C0
  have hS : va_S A s.heap s.heap [] := va_S.rf
  have hl : lv_has ls 1 [(0, .ref a0)] := hl
  refine lv_aload_n hx hb zd_S_openLine_0 rfl (lv_at hl 0 rfl) ?_
  refine zz_ki (va_runV (As := []) (rest := []) ⟨hx, hb, hml, hown, htB⟩ (zc_S_isFull l dC dI cI cZ cL a0 a1 a2 s.heap.size st  ) (cwV 0 htB (zz_gV zk_0b4b3340 zk_5ea10dbf zk_5f4fa963 zk_f1a23aa7 zk_bb1301ba) rfl rfl rfl ⟨rfl, zh_S_isFull⟩ ⟨Nat.le_of_ble_eq_true rfl, Nat.le_of_ble_eq_true rfl⟩) (zz_preV (ci := 1) (q := (zr_S, zF_S, 5)) hP hD hK hE [0, 1, 2] (by decide) rfl rfl rfl) rfl rfl hl.1 rfl (lv_room (Nat.le_of_ble_eq_true rfl)) zd_S_openLine_1 ⟨Nat.le_of_ble_eq_true rfl, Nat.le_of_ble_eq_true rfl⟩) ?_
  refine lv_if_eq (tgt := 9) hx hb zd_S_openLine_4 (by decide) (fun c_4 => ?_) (fun c_4 => ?_)
  · refine lv_aload_n hx hb zd_S_openLine_9 rfl (lv_at hl 0 rfl) ?_
    refine lv_dup hx hb zd_S_openLine_10 rfl ?_
    refine va_get (D := (dC, dI)) (ci := 1) (v := .int (nI st.2.2.1)) (C := zr_S) (T := zF_S) (N := 5) hx hb htB zi_S hown hK hP 0 rfl rfl 2 (by decide) (htB _ zk_a32d7426) (fun _ h9 => h9) rfl zd_S_openLine_11 ?_
    refine lv_iconst (v := 1) hx hb zd_S_openLine_14 (by decide) ?_
    refine lv_iadd hx hb zd_S_openLine_15 ?_
    rw [nI_1 st.2.2.1]
    refine va_put (D := (dC, dI)) (ci := 1) (v := .int (nI (st.2.2.1 + 1))) (C := zr_S) (T := zF_S) (N := 5) hx hb htB zi_S zT_S zT_S_ok zn_S hown hK hP hD hS 0 rfl rfl 2 (by decide) (htB _ zk_a32d7426) (fun _ h9 => h9) rfl (zT_S_ok 2 (by decide)) rfl rfl (Nat.le_of_ble_eq_true rfl) zd_S_openLine_16 (fun H locs hP hD hS => ?_)
    have hP : va_P (dC, dI) zz_cl (zw_S cI cZ cL a0 a1 a2 (st.1, st.2.1, (st.2.2.1 + 1), st.2.2.2.1, st.2.2.2.2)) H := hP
    have hD : va_D A (zw_S cI cZ cL a0 a1 a2 (st.1, st.2.1, (st.2.2.1 + 1), st.2.2.2.1, st.2.2.2.2)) := hD
    refine lv_aload_n hx hb zd_S_openLine_19 rfl (lv_at hl 0 rfl) ?_
    refine lv_dup hx hb zd_S_openLine_20 rfl ?_
    refine va_get (D := (dC, dI)) (ci := 1) (v := .int st.2.2.2.1) (C := zr_S) (T := zF_S) (N := 5) hx hb htB zi_S hown hK hP 0 rfl rfl 3 (by decide) (htB _ zk_69f5fb79) (fun _ h9 => h9) rfl zd_S_openLine_21 ?_
    refine lv_iconst (v := 1) hx hb zd_S_openLine_24 (by decide) ?_
    refine lv_iadd hx hb zd_S_openLine_25 ?_
    refine va_put (D := (dC, dI)) (ci := 1) (v := .int (st.2.2.2.1 + 1)) (C := zr_S) (T := zF_S) (N := 5) hx hb htB zi_S zT_S zT_S_ok zn_S hown hK hP hD hS 0 rfl rfl 3 (by decide) (htB _ zk_69f5fb79) (fun _ h9 => h9) rfl (zT_S_ok 3 (by decide)) rfl rfl (Nat.le_of_ble_eq_true rfl) zd_S_openLine_26 (fun H locs hP hD hS => ?_)
    have hP : va_P (dC, dI) zz_cl (zw_S cI cZ cL a0 a1 a2 (st.1, st.2.1, (st.2.2.1 + 1), st.2.2.2.1 + 1, st.2.2.2.2)) H := hP
    have hD : va_D A (zw_S cI cZ cL a0 a1 a2 (st.1, st.2.1, (st.2.2.1 + 1), st.2.2.2.1 + 1, st.2.2.2.2)) := hD
    refine lv_aload_n hx hb zd_S_openLine_29 rfl (lv_at hl 0 rfl) ?_
    refine va_get (D := (dC, dI)) (ci := 1) (v := .ref a2) (C := zr_S) (T := zF_S) (N := 5) hx hb htB zi_S hown hK hP 0 rfl rfl 1 (by decide) (htB _ zk_641e4f57) (fun _ h9 => h9) rfl zd_S_openLine_30 ?_
    refine lv_aload_n hx hb zd_S_openLine_33 rfl (lv_at hl 0 rfl) ?_
    refine va_get (D := (dC, dI)) (ci := 1) (v := .int (nI (st.2.2.1 + 1))) (C := zr_S) (T := zF_S) (N := 5) hx hb htB zi_S hown hK hP 0 rfl rfl 2 (by decide) (htB _ zk_a32d7426) (fun _ h9 => h9) rfl zd_S_openLine_34 ?_
    refine lv_iconst (v := 1) hx hb zd_S_openLine_37 (by decide) ?_
    refine va_zast hx hb hK hP hD hS 2 1 rfl rfl (zx_open hm c_4) zd_S_openLine_38 (fun H locs hP hD hS => ?_)
    have hP : va_P (dC, dI) zz_cl (zw_S cI cZ cL a0 a1 a2 (st.1, (upd st.2.1 (nI (st.2.2.1 + 1)).toNatClampNeg 1), (st.2.2.1 + 1), st.2.2.2.1 + 1, st.2.2.2.2)) H := hP
    have hD : va_D A (zw_S cI cZ cL a0 a1 a2 (st.1, (upd st.2.1 (nI (st.2.2.1 + 1)).toNatClampNeg 1), (st.2.2.1 + 1), st.2.2.2.1 + 1, st.2.2.2.2)) := hD
    refine lv_aload_n hx hb zd_S_openLine_39 rfl (lv_at hl 0 rfl) ?_
    refine va_get (D := (dC, dI)) (ci := 1) (v := .int (nI (st.2.2.1 + 1))) (C := zr_S) (T := zF_S) (N := 5) hx hb htB zi_S hown hK hP 0 rfl rfl 2 (by decide) (htB _ zk_a32d7426) (fun _ h9 => h9) rfl zd_S_openLine_40 ?_
    rw [(show zf_S_openLine st = (nI (st.2.2.1 + 1), (st.1, (upd st.2.1 (nI (st.2.2.1 + 1)).toNatClampNeg 1), (st.2.2.1 + 1), st.2.2.2.1 + 1, st.2.2.2.2)) from by rw [zf_S_openLine, if_pos c_4])]
    exact zz_iret hx hb hr hlocks hK hP hD hS zd_S_openLine_43 rfl
  · refine lv_iconst (v := (-1)) hx hb zd_S_openLine_7 (by decide) ?_
    rw [(show zf_S_openLine st = ((-1), st) from by rw [zf_S_openLine, if_neg c_4])]
    exact zz_iret hx hb hr hlocks hK hP hD hS zd_S_openLine_8 rfl
set_option maxHeartbeats 4000000 in
set_option maxRecDepth 100000 in
theorem zc_S_slotOf (l : Launch) (dC : Nat → ClassId) (dI : Nat → Nat → Nat) (cI cZ cL : ClassId) (a0 a1 a2 : Nat) (sz : Nat) (st : zu_S) (p1 : Int32) (p2 : Int32)  : Met l zy_S_slotOf (zz_ws zy_S_slotOf zb_S_slotOf 3 (some .int)) ({ frames := 1, cells := 0, slots := 0, locals := 21 } : Room) (va_Pc ([.ref a0, .int p1, .int p2] : List Value) (zz_P (dC, dI) (zz_ty cI cZ cL) sz (zw_S cI cZ cL a0 a1 a2 st))) (zz_Ki (zf_S_slotOf st p1 p2)) 0 0 (fun _ => False) := by
  refine zz_ofK (by decide) (Nat.le_of_ble_eq_true rfl) ?_
  intro p e s m below meth c C0 hK hP hD ls hl
  obtain ⟨hx, hb, hr, hml, hown, htB, hlocks, hE⟩ := id C0
  have hl : lv_has ls 3 [(0, .ref a0), (1, .int p1), (2, .int p2)] := hl
  refine lv_iload_n hx hb zd_S_slotOf_0 rfl (lv_at hl 1 rfl) ?_
  refine lv_if_lt (tgt := 10) hx hb zd_S_slotOf_1 (by decide) (fun c_1 => ?_) (fun c_1 => ?_)
  · refine lv_iconst (v := (-1)) hx hb zd_S_slotOf_10 (by decide) ?_
    rw [(show zf_S_slotOf st p1 p2 = (-1) from by rw [zf_S_slotOf, if_pos c_1])]
    exact zz_kiret hx hb hr hlocks zd_S_slotOf_11 rfl
  · refine lv_iload_n hx hb zd_S_slotOf_4 rfl (lv_at hl 1 rfl) ?_
    refine lv_bipush (v := 19) hx hb zd_S_slotOf_5 (by decide) ?_
    refine lv_icmp_le (tgt := 12) hx hb zd_S_slotOf_7 (by decide) (fun c_7 => ?_) (fun c_7 => ?_)
    · refine lv_iload_n hx hb zd_S_slotOf_12 rfl (lv_at hl 1 rfl) ?_
      refine lv_bipush (v := 10) hx hb zd_S_slotOf_13 (by decide) ?_
      refine lv_icmp_ge (tgt := 28) hx hb zd_S_slotOf_15 (by decide) (fun c_15 => ?_) (fun c_15 => ?_)
      · refine lv_aload_n hx hb zd_S_slotOf_28 rfl (lv_at hl 0 rfl) ?_
        refine lv_iload_n hx hb zd_S_slotOf_29 rfl (lv_at hl 2 rfl) ?_
        refine zz_ki (va_runV (As := [.int p2]) (rest := []) ⟨hx, hb, hml, hown, htB⟩ (zc_S_hasLine l dC dI cI cZ cL a0 a1 a2 s.heap.size st p2 ) (cwV 1 htB (zz_gV zk_935946c6 zk_3871fc92 zk_c72ec03e zk_f1a23aa7 zk_33cddec9) rfl rfl rfl ⟨rfl, zh_S_hasLine⟩ ⟨Nat.le_of_ble_eq_true rfl, Nat.le_of_ble_eq_true rfl⟩) (zz_preV (ci := 1) (q := (zr_S, zF_S, 5)) hP hD hK hE [0, 1, 2] (by decide) rfl rfl rfl) rfl rfl hl.1 rfl (lv_room (Nat.le_of_ble_eq_true rfl)) zd_S_slotOf_30 ⟨Nat.le_of_ble_eq_true rfl, Nat.le_of_ble_eq_true rfl⟩) ?_
        refine lv_if_eq (tgt := 48) hx hb zd_S_slotOf_33 (by decide) (fun c_33 => ?_) (fun c_33 => ?_)
        · refine lv_iconst (v := (-1)) hx hb zd_S_slotOf_48 (by decide) ?_
          rw [(show zf_S_slotOf st p1 p2 = (-1) from by rw [zf_S_slotOf, if_neg c_1, if_pos c_7, if_pos c_15, if_pos c_33])]
          exact zz_kiret hx hb hr hlocks zd_S_slotOf_49 rfl
        · refine lv_iload_n hx hb zd_S_slotOf_36 rfl (lv_at hl 2 rfl) ?_
          refine lv_bipush (v := 10) hx hb zd_S_slotOf_37 (by decide) ?_
          refine lv_imul hx hb zd_S_slotOf_39 ?_
          refine lv_iload_n hx hb zd_S_slotOf_40 rfl (lv_at hl 1 rfl) ?_
          refine lv_iadd hx hb zd_S_slotOf_41 ?_
          refine lv_bipush (v := 10) hx hb zd_S_slotOf_42 (by decide) ?_
          refine lv_isub hx hb zd_S_slotOf_44 ?_
          refine lv_goto (tgt := 49) hx hb zd_S_slotOf_45 (by decide) ?_
          rw [(show zf_S_slotOf st p1 p2 = ((p2 * 10) + p1) - 10 from by rw [zf_S_slotOf, if_neg c_1, if_pos c_7, if_pos c_15, if_neg c_33])]
          exact zz_kiret hx hb hr hlocks zd_S_slotOf_49 rfl
      · refine lv_iload_n hx hb zd_S_slotOf_18 rfl (lv_at hl 2 rfl) ?_
        refine lv_if_ne (tgt := 26) hx hb zd_S_slotOf_19 (by decide) (fun c_19 => ?_) (fun c_19 => ?_)
        · refine lv_iconst (v := (-1)) hx hb zd_S_slotOf_26 (by decide) ?_
          rw [(show zf_S_slotOf st p1 p2 = (-1) from by rw [zf_S_slotOf, if_neg c_1, if_pos c_7, if_neg c_15, if_neg c_19])]
          exact zz_kiret hx hb hr hlocks zd_S_slotOf_27 rfl
        · refine lv_iload_n hx hb zd_S_slotOf_22 rfl (lv_at hl 1 rfl) ?_
          refine lv_goto (tgt := 27) hx hb zd_S_slotOf_23 (by decide) ?_
          rw [(show zf_S_slotOf st p1 p2 = p1 from by rw [zf_S_slotOf, if_neg c_1, if_pos c_7, if_neg c_15, if_pos c_19])]
          exact zz_kiret hx hb hr hlocks zd_S_slotOf_27 rfl
    · refine lv_iconst (v := (-1)) hx hb zd_S_slotOf_10 (by decide) ?_
      rw [(show zf_S_slotOf st p1 p2 = (-1) from by rw [zf_S_slotOf, if_neg c_1, if_neg c_7])]
      exact zz_kiret hx hb hr hlocks zd_S_slotOf_11 rfl
set_option maxHeartbeats 4000000 in
set_option maxRecDepth 100000 in
theorem zc_S_valueAt (l : Launch) (dC : Nat → ClassId) (dI : Nat → Nat → Nat) (cI cZ cL : ClassId) (a0 a1 a2 : Nat) (sz : Nat) (st : zu_S) (p1 : Int32)  : Met l zy_S_valueAt (zz_ws zy_S_valueAt zb_S_valueAt 2 (some .int)) ({ frames := 0, cells := 0, slots := 0, locals := 0 } : Room) (va_Pc ([.ref a0, .int p1] : List Value) (zz_P (dC, dI) (zz_ty cI cZ cL) sz (zw_S cI cZ cL a0 a1 a2 st))) (zz_Ki (zf_S_valueAt st p1)) 0 0 (fun _ => False) := by
  refine zz_ofK (by decide) (Nat.le_of_ble_eq_true rfl) ?_
  intro p e s m below meth c C0 hK hP hD ls hl
  obtain ⟨hx, hb, hr, hml, hown, htB, hlocks, hE⟩ := id C0
  have hl : lv_has ls 2 [(0, .ref a0), (1, .int p1)] := hl
  refine lv_iload_n hx hb zd_S_valueAt_0 rfl (lv_at hl 1 rfl) ?_
  refine lv_if_lt (tgt := 13) hx hb zd_S_valueAt_1 (by decide) (fun c_1 => ?_) (fun c_1 => ?_)
  · refine lv_iconst (v := (-1)) hx hb zd_S_valueAt_13 (by decide) ?_
    refine lv_goto (tgt := 23) hx hb zd_S_valueAt_14 (by decide) ?_
    rw [(show zf_S_valueAt st p1 = (-1) from by rw [zf_S_valueAt, if_pos c_1])]
    exact zz_kiret hx hb hr hlocks zd_S_valueAt_23 rfl
  · refine lv_iload_n hx hb zd_S_valueAt_4 rfl (lv_at hl 1 rfl) ?_
    refine lv_aload_n hx hb zd_S_valueAt_5 rfl (lv_at hl 0 rfl) ?_
    refine va_get (D := (dC, dI)) (ci := 1) (v := .ref a1) (C := zr_S) (T := zF_S) (N := 5) hx hb htB zi_S hown hK hP 0 rfl rfl 0 (by decide) (htB _ zk_58041e5d) (fun _ h9 => h9) rfl zd_S_valueAt_6 ?_
    refine va_alen (v := 310) hx hb hK hP 1 0 rfl rfl rfl zd_S_valueAt_9 ?_
    refine lv_icmp_lt (tgt := 17) hx hb zd_S_valueAt_10 (by decide) (fun c_10 => ?_) (fun c_10 => ?_)
    · refine lv_aload_n hx hb zd_S_valueAt_17 rfl (lv_at hl 0 rfl) ?_
      refine va_get (D := (dC, dI)) (ci := 1) (v := .ref a1) (C := zr_S) (T := zF_S) (N := 5) hx hb htB zi_S hown hK hP 0 rfl rfl 0 (by decide) (htB _ zk_58041e5d) (fun _ h9 => h9) rfl zd_S_valueAt_18 ?_
      refine lv_iload_n hx hb zd_S_valueAt_21 rfl (lv_at hl 1 rfl) ?_
      refine va_iald hx hb hK hP 1 0 rfl rfl (zx_slot c_1 c_10) zd_S_valueAt_22 ?_
      rw [(show zf_S_valueAt st p1 = st.1 p1.toNatClampNeg from by rw [zf_S_valueAt, if_neg c_1, if_pos c_10])]
      exact zz_kiret hx hb hr hlocks zd_S_valueAt_23 rfl
    · refine lv_iconst (v := (-1)) hx hb zd_S_valueAt_13 (by decide) ?_
      refine lv_goto (tgt := 23) hx hb zd_S_valueAt_14 (by decide) ?_
      rw [(show zf_S_valueAt st p1 = (-1) from by rw [zf_S_valueAt, if_neg c_1, if_neg c_10])]
      exact zz_kiret hx hb hr hlocks zd_S_valueAt_23 rfl
set_option maxHeartbeats 4000000 in
set_option maxRecDepth 100000 in
theorem zc_S_put (l : Launch) (dC : Nat → ClassId) (dI : Nat → Nat → Nat) (cI cZ cL : ClassId) (a0 a1 a2 : Nat) (sz : Nat) (st : zu_S) (p1 : Int32) (p2 : Int32)  : Met l zy_S_put (zz_ws zy_S_put zb_S_put 3 (none)) ({ frames := 0, cells := 0, slots := 0, locals := 0 } : Room) (va_Pc ([.ref a0, .int p1, .int p2] : List Value) (zz_P (dC, dI) (zz_ty cI cZ cL) sz (zw_S cI cZ cL a0 a1 a2 st))) (zz_Qv (dC, dI) (zz_ty cI cZ cL) (va_A (zw_S cI cZ cL a0 a1 a2 st) sz) (zw_S cI cZ cL a0 a1 a2 (zf_S_put st p1 p2))) 0 0 (va_A (zw_S cI cZ cL a0 a1 a2 st) sz) := by
  refine zz_ofW (Q := fun A => (zz_Qv (dC, dI) (zz_ty cI cZ cL) A (zw_S cI cZ cL a0 a1 a2 (zf_S_put st p1 p2)))) (by decide) (Nat.le_of_ble_eq_true rfl) ?_
  intro p e s m below meth c A C0 _ hA hK hP hD _ ls hl
  obtain ⟨hx, hb, hr, hml, hown, htB, hlocks, hE⟩ := id C0
  have hS : va_S A s.heap s.heap [] := va_S.rf
  have hl : lv_has ls 3 [(0, .ref a0), (1, .int p1), (2, .int p2)] := hl
  refine lv_iload_n hx hb zd_S_put_0 rfl (lv_at hl 1 rfl) ?_
  refine lv_if_lt (tgt := 13) hx hb zd_S_put_1 (by decide) (fun c_1 => ?_) (fun c_1 => ?_)
  · rw [(show zf_S_put st p1 p2 = st from by rw [zf_S_put, if_pos c_1])]
    exact zz_vret hx hb hr hlocks hK hP hD hS zd_S_put_13
  · refine lv_iload_n hx hb zd_S_put_4 rfl (lv_at hl 1 rfl) ?_
    refine lv_aload_n hx hb zd_S_put_5 rfl (lv_at hl 0 rfl) ?_
    refine va_get (D := (dC, dI)) (ci := 1) (v := .ref a1) (C := zr_S) (T := zF_S) (N := 5) hx hb htB zi_S hown hK hP 0 rfl rfl 0 (by decide) (htB _ zk_58041e5d) (fun _ h9 => h9) rfl zd_S_put_6 ?_
    refine va_alen (v := 310) hx hb hK hP 1 0 rfl rfl rfl zd_S_put_9 ?_
    refine lv_icmp_lt (tgt := 14) hx hb zd_S_put_10 (by decide) (fun c_10 => ?_) (fun c_10 => ?_)
    · refine lv_aload_n hx hb zd_S_put_14 rfl (lv_at hl 0 rfl) ?_
      refine va_get (D := (dC, dI)) (ci := 1) (v := .ref a1) (C := zr_S) (T := zF_S) (N := 5) hx hb htB zi_S hown hK hP 0 rfl rfl 0 (by decide) (htB _ zk_58041e5d) (fun _ h9 => h9) rfl zd_S_put_15 ?_
      refine lv_iload_n hx hb zd_S_put_18 rfl (lv_at hl 1 rfl) ?_
      refine va_iald hx hb hK hP 1 0 rfl rfl (zx_slot c_1 c_10) zd_S_put_19 ?_
      refine lv_iconst (v := (-1)) hx hb zd_S_put_20 (by decide) ?_
      refine lv_icmp_eq (tgt := 34) hx hb zd_S_put_21 (by decide) (fun c_21 => ?_) (fun c_21 => ?_)
      · refine lv_iload_n hx hb zd_S_put_34 rfl (lv_at hl 2 rfl) ?_
        refine lv_iconst (v := (-1)) hx hb zd_S_put_35 (by decide) ?_
        refine lv_icmp_eq (tgt := 49) hx hb zd_S_put_36 (by decide) (fun c_36 => ?_) (fun c_36 => ?_)
        · refine lv_aload_n hx hb zd_S_put_49 rfl (lv_at hl 0 rfl) ?_
          refine va_get (D := (dC, dI)) (ci := 1) (v := .ref a1) (C := zr_S) (T := zF_S) (N := 5) hx hb htB zi_S hown hK hP 0 rfl rfl 0 (by decide) (htB _ zk_58041e5d) (fun _ h9 => h9) rfl zd_S_put_50 ?_
          refine lv_iload_n hx hb zd_S_put_53 rfl (lv_at hl 1 rfl) ?_
          refine lv_iload_n hx hb zd_S_put_54 rfl (lv_at hl 2 rfl) ?_
          refine va_iast hx hb hK hP hD hS 1 0 rfl rfl (zx_slot c_1 c_10) zd_S_put_55 (fun H locs hP hD hS => ?_)
          have hP : va_P (dC, dI) zz_cl (zw_S cI cZ cL a0 a1 a2 ((upd st.1 p1.toNatClampNeg p2), st.2.1, st.2.2.1, st.2.2.2.1, st.2.2.2.2)) H := hP
          have hD : va_D A (zw_S cI cZ cL a0 a1 a2 ((upd st.1 p1.toNatClampNeg p2), st.2.1, st.2.2.1, st.2.2.2.1, st.2.2.2.2)) := hD
          rw [(show zf_S_put st p1 p2 = ((upd st.1 p1.toNatClampNeg p2), st.2.1, st.2.2.1, st.2.2.2.1, st.2.2.2.2) from by rw [zf_S_put, if_neg c_1, if_pos c_10, if_pos c_21, if_pos c_36])]
          exact zz_vret hx hb hr hlocks hK hP hD hS zd_S_put_56
        · refine lv_aload_n hx hb zd_S_put_39 rfl (lv_at hl 0 rfl) ?_
          refine lv_dup hx hb zd_S_put_40 rfl ?_
          refine va_get (D := (dC, dI)) (ci := 1) (v := .int st.2.2.2.2) (C := zr_S) (T := zF_S) (N := 5) hx hb htB zi_S hown hK hP 0 rfl rfl 4 (by decide) (htB _ zk_93636338) (fun _ h9 => h9) rfl zd_S_put_41 ?_
          refine lv_iconst (v := 1) hx hb zd_S_put_44 (by decide) ?_
          refine lv_iadd hx hb zd_S_put_45 ?_
          refine va_put (D := (dC, dI)) (ci := 1) (v := .int (st.2.2.2.2 + 1)) (C := zr_S) (T := zF_S) (N := 5) hx hb htB zi_S zT_S zT_S_ok zn_S hown hK hP hD hS 0 rfl rfl 4 (by decide) (htB _ zk_93636338) (fun _ h9 => h9) rfl (zT_S_ok 4 (by decide)) rfl rfl (Nat.le_of_ble_eq_true rfl) zd_S_put_46 (fun H locs hP hD hS => ?_)
          have hP : va_P (dC, dI) zz_cl (zw_S cI cZ cL a0 a1 a2 (st.1, st.2.1, st.2.2.1, st.2.2.2.1, st.2.2.2.2 + 1)) H := hP
          have hD : va_D A (zw_S cI cZ cL a0 a1 a2 (st.1, st.2.1, st.2.2.1, st.2.2.2.1, st.2.2.2.2 + 1)) := hD
          refine lv_aload_n hx hb zd_S_put_49 rfl (lv_at hl 0 rfl) ?_
          refine va_get (D := (dC, dI)) (ci := 1) (v := .ref a1) (C := zr_S) (T := zF_S) (N := 5) hx hb htB zi_S hown hK hP 0 rfl rfl 0 (by decide) (htB _ zk_58041e5d) (fun _ h9 => h9) rfl zd_S_put_50 ?_
          refine lv_iload_n hx hb zd_S_put_53 rfl (lv_at hl 1 rfl) ?_
          refine lv_iload_n hx hb zd_S_put_54 rfl (lv_at hl 2 rfl) ?_
          refine va_iast hx hb hK hP hD hS 1 0 rfl rfl (zx_slot c_1 c_10) zd_S_put_55 (fun H locs hP hD hS => ?_)
          have hP : va_P (dC, dI) zz_cl (zw_S cI cZ cL a0 a1 a2 ((upd st.1 p1.toNatClampNeg p2), st.2.1, st.2.2.1, st.2.2.2.1, st.2.2.2.2 + 1)) H := hP
          have hD : va_D A (zw_S cI cZ cL a0 a1 a2 ((upd st.1 p1.toNatClampNeg p2), st.2.1, st.2.2.1, st.2.2.2.1, st.2.2.2.2 + 1)) := hD
          rw [(show zf_S_put st p1 p2 = ((upd st.1 p1.toNatClampNeg p2), st.2.1, st.2.2.1, st.2.2.2.1, st.2.2.2.2 + 1) from by rw [zf_S_put, if_neg c_1, if_pos c_10, if_pos c_21, if_neg c_36])]
          exact zz_vret hx hb hr hlocks hK hP hD hS zd_S_put_56
      · refine lv_aload_n hx hb zd_S_put_24 rfl (lv_at hl 0 rfl) ?_
        refine lv_dup hx hb zd_S_put_25 rfl ?_
        refine va_get (D := (dC, dI)) (ci := 1) (v := .int st.2.2.2.2) (C := zr_S) (T := zF_S) (N := 5) hx hb htB zi_S hown hK hP 0 rfl rfl 4 (by decide) (htB _ zk_93636338) (fun _ h9 => h9) rfl zd_S_put_26 ?_
        refine lv_iconst (v := 1) hx hb zd_S_put_29 (by decide) ?_
        refine lv_isub hx hb zd_S_put_30 ?_
        refine va_put (D := (dC, dI)) (ci := 1) (v := .int (st.2.2.2.2 - 1)) (C := zr_S) (T := zF_S) (N := 5) hx hb htB zi_S zT_S zT_S_ok zn_S hown hK hP hD hS 0 rfl rfl 4 (by decide) (htB _ zk_93636338) (fun _ h9 => h9) rfl (zT_S_ok 4 (by decide)) rfl rfl (Nat.le_of_ble_eq_true rfl) zd_S_put_31 (fun H locs hP hD hS => ?_)
        have hP : va_P (dC, dI) zz_cl (zw_S cI cZ cL a0 a1 a2 (st.1, st.2.1, st.2.2.1, st.2.2.2.1, st.2.2.2.2 - 1)) H := hP
        have hD : va_D A (zw_S cI cZ cL a0 a1 a2 (st.1, st.2.1, st.2.2.1, st.2.2.2.1, st.2.2.2.2 - 1)) := hD
        refine lv_iload_n hx hb zd_S_put_34 rfl (lv_at hl 2 rfl) ?_
        refine lv_iconst (v := (-1)) hx hb zd_S_put_35 (by decide) ?_
        refine lv_icmp_eq (tgt := 49) hx hb zd_S_put_36 (by decide) (fun c_36 => ?_) (fun c_36 => ?_)
        · refine lv_aload_n hx hb zd_S_put_49 rfl (lv_at hl 0 rfl) ?_
          refine va_get (D := (dC, dI)) (ci := 1) (v := .ref a1) (C := zr_S) (T := zF_S) (N := 5) hx hb htB zi_S hown hK hP 0 rfl rfl 0 (by decide) (htB _ zk_58041e5d) (fun _ h9 => h9) rfl zd_S_put_50 ?_
          refine lv_iload_n hx hb zd_S_put_53 rfl (lv_at hl 1 rfl) ?_
          refine lv_iload_n hx hb zd_S_put_54 rfl (lv_at hl 2 rfl) ?_
          refine va_iast hx hb hK hP hD hS 1 0 rfl rfl (zx_slot c_1 c_10) zd_S_put_55 (fun H locs hP hD hS => ?_)
          have hP : va_P (dC, dI) zz_cl (zw_S cI cZ cL a0 a1 a2 ((upd st.1 p1.toNatClampNeg p2), st.2.1, st.2.2.1, st.2.2.2.1, st.2.2.2.2 - 1)) H := hP
          have hD : va_D A (zw_S cI cZ cL a0 a1 a2 ((upd st.1 p1.toNatClampNeg p2), st.2.1, st.2.2.1, st.2.2.2.1, st.2.2.2.2 - 1)) := hD
          rw [(show zf_S_put st p1 p2 = ((upd st.1 p1.toNatClampNeg p2), st.2.1, st.2.2.1, st.2.2.2.1, st.2.2.2.2 - 1) from by rw [zf_S_put, if_neg c_1, if_pos c_10, if_neg c_21, if_pos c_36])]
          exact zz_vret hx hb hr hlocks hK hP hD hS zd_S_put_56
        · refine lv_aload_n hx hb zd_S_put_39 rfl (lv_at hl 0 rfl) ?_
          refine lv_dup hx hb zd_S_put_40 rfl ?_
          refine va_get (D := (dC, dI)) (ci := 1) (v := .int (st.2.2.2.2 - 1)) (C := zr_S) (T := zF_S) (N := 5) hx hb htB zi_S hown hK hP 0 rfl rfl 4 (by decide) (htB _ zk_93636338) (fun _ h9 => h9) rfl zd_S_put_41 ?_
          refine lv_iconst (v := 1) hx hb zd_S_put_44 (by decide) ?_
          refine lv_iadd hx hb zd_S_put_45 ?_
          refine va_put (D := (dC, dI)) (ci := 1) (v := .int ((st.2.2.2.2 - 1) + 1)) (C := zr_S) (T := zF_S) (N := 5) hx hb htB zi_S zT_S zT_S_ok zn_S hown hK hP hD hS 0 rfl rfl 4 (by decide) (htB _ zk_93636338) (fun _ h9 => h9) rfl (zT_S_ok 4 (by decide)) rfl rfl (Nat.le_of_ble_eq_true rfl) zd_S_put_46 (fun H locs hP hD hS => ?_)
          have hP : va_P (dC, dI) zz_cl (zw_S cI cZ cL a0 a1 a2 (st.1, st.2.1, st.2.2.1, st.2.2.2.1, (st.2.2.2.2 - 1) + 1)) H := hP
          have hD : va_D A (zw_S cI cZ cL a0 a1 a2 (st.1, st.2.1, st.2.2.1, st.2.2.2.1, (st.2.2.2.2 - 1) + 1)) := hD
          refine lv_aload_n hx hb zd_S_put_49 rfl (lv_at hl 0 rfl) ?_
          refine va_get (D := (dC, dI)) (ci := 1) (v := .ref a1) (C := zr_S) (T := zF_S) (N := 5) hx hb htB zi_S hown hK hP 0 rfl rfl 0 (by decide) (htB _ zk_58041e5d) (fun _ h9 => h9) rfl zd_S_put_50 ?_
          refine lv_iload_n hx hb zd_S_put_53 rfl (lv_at hl 1 rfl) ?_
          refine lv_iload_n hx hb zd_S_put_54 rfl (lv_at hl 2 rfl) ?_
          refine va_iast hx hb hK hP hD hS 1 0 rfl rfl (zx_slot c_1 c_10) zd_S_put_55 (fun H locs hP hD hS => ?_)
          have hP : va_P (dC, dI) zz_cl (zw_S cI cZ cL a0 a1 a2 ((upd st.1 p1.toNatClampNeg p2), st.2.1, st.2.2.1, st.2.2.2.1, (st.2.2.2.2 - 1) + 1)) H := hP
          have hD : va_D A (zw_S cI cZ cL a0 a1 a2 ((upd st.1 p1.toNatClampNeg p2), st.2.1, st.2.2.1, st.2.2.2.1, (st.2.2.2.2 - 1) + 1)) := hD
          rw [(show zf_S_put st p1 p2 = ((upd st.1 p1.toNatClampNeg p2), st.2.1, st.2.2.1, st.2.2.2.1, (st.2.2.2.2 - 1) + 1) from by rw [zf_S_put, if_neg c_1, if_pos c_10, if_neg c_21, if_neg c_36])]
          exact zz_vret hx hb hr hlocks hK hP hD hS zd_S_put_56
    · rw [(show zf_S_put st p1 p2 = st from by rw [zf_S_put, if_neg c_1, if_neg c_10])]
      exact zz_vret hx hb hr hlocks hK hP hD hS zd_S_put_13
set_option maxHeartbeats 4000000 in
set_option maxRecDepth 100000 in
theorem zp_S_dropLine_17 {p : Program} {l : Launch} {e : Env} {s : State} {m : MethodId} {below : List Frame} {meth : Method} {c : Code} {A : Nat → Prop} (dC : Nat → ClassId) (dI : Nat → Nat → Nat) (cI cZ cL : ClassId) (a0 a1 a2 : Nat) (p1 : Int32) (x2 : Int32) (hv : vp_in p1 31) (C0 : zz_C p s m ([.ref a0, .int p1] : List Value).toArray meth c zb_S_dropLine 4 (some .int) zy_S_dropLine.cls) (hA : ∀ q : Nat, s.heap.size ≤ q → A q) (hK : va_K (dC, dI) zz_cl (zz_ty cI cZ cL) s) :
    ∀ (mm k : Nat) (st : zu_S), k + mm = 10 → ∀ (H : Heap) (locs : List Loc), va_P (dC, dI) zz_cl (zw_S cI cZ cL a0 a1 a2 st) H → va_D A (zw_S cI cZ cL a0 a1 a2 st) → va_S A s.heap H locs → ∀ ls : Array Slot, lv_has ls 4 [(0, .ref a0), (1, .int p1), (2, .int x2), (3, .int (nI k))] →
    W p l e ({ frames := 1, cells := 0, slots := 0, locals := 22 } : Room) s m ([.ref a0, .int p1] : List Value).toArray below meth c H locs 0 0 (MQ below (zz_Qi (dC, dI) (zz_ty cI cZ cL) A ((zf_S_dropLine_L17 p1 x2 mm k st).1) (zw_S cI cZ cL a0 a1 a2 ((zf_S_dropLine_L17 p1 x2 mm k st).2))) ([.ref a0, .int p1] : List Value).toArray s 0 0 A) (F0 m 17 ls []) := by
  obtain ⟨hx, hb, hr, hml, hown, htB, hlocks, hE⟩ := id C0
  intro mm
  induction mm with
  | zero =>
    intro k st hk H locs hP hD hS ls hl
    refine lv_iload_n hx hb zd_S_dropLine_17 rfl (lv_at hl 3 rfl) ?_
    refine lv_bipush (v := 10) hx hb zd_S_dropLine_18 (by decide) ?_
    refine lv_icmp_ge (tgt := 40) hx hb zd_S_dropLine_20 (by decide) (fun _ => ?_) (fun c_ => absurd (zz_geT (b := 10) rfl (by omega) (by omega)) c_)
    refine lv_aload_n hx hb zd_S_dropLine_40 rfl (lv_at hl 0 rfl) ?_
    refine va_get (D := (dC, dI)) (ci := 1) (v := .ref a2) (C := zr_S) (T := zF_S) (N := 5) hx hb htB zi_S hown hK hP 0 rfl rfl 1 (by decide) (htB _ zk_641e4f57) (fun _ h9 => h9) rfl zd_S_dropLine_41 ?_
    refine lv_iload_n hx hb zd_S_dropLine_44 rfl (lv_at hl 1 rfl) ?_
    refine lv_iconst (v := 0) hx hb zd_S_dropLine_45 (by decide) ?_
    refine va_zast hx hb hK hP hD hS 2 1 rfl rfl hv zd_S_dropLine_46 (fun H locs hP hD hS => ?_)
    have hP : va_P (dC, dI) zz_cl (zw_S cI cZ cL a0 a1 a2 (st.1, (upd st.2.1 p1.toNatClampNeg 0), st.2.2.1, st.2.2.2.1, st.2.2.2.2)) H := hP
    have hD : va_D A (zw_S cI cZ cL a0 a1 a2 (st.1, (upd st.2.1 p1.toNatClampNeg 0), st.2.2.1, st.2.2.2.1, st.2.2.2.2)) := hD
    refine lv_aload_n hx hb zd_S_dropLine_47 rfl (lv_at hl 0 rfl) ?_
    refine lv_dup hx hb zd_S_dropLine_48 rfl ?_
    refine va_get (D := (dC, dI)) (ci := 1) (v := .int st.2.2.2.1) (C := zr_S) (T := zF_S) (N := 5) hx hb htB zi_S hown hK hP 0 rfl rfl 3 (by decide) (htB _ zk_69f5fb79) (fun _ h9 => h9) rfl zd_S_dropLine_49 ?_
    refine lv_iconst (v := 1) hx hb zd_S_dropLine_52 (by decide) ?_
    refine lv_isub hx hb zd_S_dropLine_53 ?_
    refine va_put (D := (dC, dI)) (ci := 1) (v := .int (st.2.2.2.1 - 1)) (C := zr_S) (T := zF_S) (N := 5) hx hb htB zi_S zT_S zT_S_ok zn_S hown hK hP hD hS 0 rfl rfl 3 (by decide) (htB _ zk_69f5fb79) (fun _ h9 => h9) rfl (zT_S_ok 3 (by decide)) rfl rfl (Nat.le_of_ble_eq_true rfl) zd_S_dropLine_54 (fun H locs hP hD hS => ?_)
    have hP : va_P (dC, dI) zz_cl (zw_S cI cZ cL a0 a1 a2 (st.1, (upd st.2.1 p1.toNatClampNeg 0), st.2.2.1, st.2.2.2.1 - 1, st.2.2.2.2)) H := hP
    have hD : va_D A (zw_S cI cZ cL a0 a1 a2 (st.1, (upd st.2.1 p1.toNatClampNeg 0), st.2.2.1, st.2.2.2.1 - 1, st.2.2.2.2)) := hD
    refine lv_iload_n hx hb zd_S_dropLine_57 rfl (lv_at hl 2 rfl) ?_
    refine lv_aload_n hx hb zd_S_dropLine_58 rfl (lv_at hl 0 rfl) ?_
    refine va_get (D := (dC, dI)) (ci := 1) (v := .int st.2.2.2.2) (C := zr_S) (T := zF_S) (N := 5) hx hb htB zi_S hown hK hP 0 rfl rfl 4 (by decide) (htB _ zk_93636338) (fun _ h9 => h9) rfl zd_S_dropLine_59 ?_
    refine lv_isub hx hb zd_S_dropLine_62 ?_
    rw [(show zf_S_dropLine_L17 p1 x2 0 k st = (x2 - st.2.2.2.2, (st.1, (upd st.2.1 p1.toNatClampNeg 0), st.2.2.1, st.2.2.2.1 - 1, st.2.2.2.2)) from by first | rfl | (rw [zf_S_dropLine_L17]))]
    exact zz_iret hx hb hr hlocks hK hP hD hS zd_S_dropLine_63 rfl
  | succ mm ih =>
    intro k st hk H locs hP hD hS ls hl
    refine lv_iload_n hx hb zd_S_dropLine_17 rfl (lv_at hl 3 rfl) ?_
    refine lv_bipush (v := 10) hx hb zd_S_dropLine_18 (by decide) ?_
    refine lv_icmp_ge (tgt := 40) hx hb zd_S_dropLine_20 (by decide) (fun c_ => absurd c_ (zz_geF (b := 10) rfl (by omega) (by omega))) (fun _ => ?_)
    refine lv_aload_n hx hb zd_S_dropLine_23 rfl (lv_at hl 0 rfl) ?_
    refine lv_iload_n hx hb zd_S_dropLine_24 rfl (lv_at hl 1 rfl) ?_
    refine lv_bipush (v := 10) hx hb zd_S_dropLine_25 (by decide) ?_
    refine lv_imul hx hb zd_S_dropLine_27 ?_
    refine lv_iload_n hx hb zd_S_dropLine_28 rfl (lv_at hl 3 rfl) ?_
    refine lv_iadd hx hb zd_S_dropLine_29 ?_
    refine lv_iconst (v := (-1)) hx hb zd_S_dropLine_30 (by decide) ?_
    refine zz_cv (va_runV (As := [.int ((p1 * 10) + (nI k)), .int (-1)]) (rest := []) ⟨hx, hb, hml, hown, htB⟩ (zc_S_put l dC dI cI cZ cL a0 a1 a2 H.size st ((p1 * 10) + (nI k)) (-1) ) (cwV 2 htB (zz_gV zk_46e13ae2 zk_7151ae50 zk_2e2e7b1b zk_f1a23aa7 zk_29ef983f) rfl rfl rfl ⟨rfl, zh_S_put⟩ ⟨Nat.le_of_ble_eq_true rfl, Nat.le_of_ble_eq_true rfl⟩) (zz_preV (ci := 1) (q := (zr_S, zF_S, 5)) hP hD hK hE [0, 1, 2] (by decide) rfl rfl rfl) rfl rfl hl.1 rfl (lv_room (Nat.le_of_ble_eq_true rfl)) zd_S_dropLine_31 ⟨Nat.le_of_ble_eq_true rfl, Nat.le_of_ble_eq_true rfl⟩) hP hD hS hA [0, 1, 2] [] [0, 1, 2] rfl rfl (by decide) (by decide) (by decide) rfl (fun H locs hP hD hS => ?_)
    have hP : va_P (dC, dI) zz_cl (zw_S cI cZ cL a0 a1 a2 (zf_S_put st ((p1 * 10) + (nI k)) (-1))) H := hP
    have hD : va_D A (zw_S cI cZ cL a0 a1 a2 (zf_S_put st ((p1 * 10) + (nI k)) (-1))) := hD
    refine lv_iinc (v := nI (k + 1)) (lv' := [(3, .int (nI (k + 1))), (0, .ref a0), (1, .int p1), (2, .int x2)]) hx hb zd_S_dropLine_34 hl (k := 3) rfl (nI_1 k) (by decide) rfl (fun ls hl => ?_)
    refine lv_goto (tgt := 17) hx hb zd_S_dropLine_37 (by decide) ?_
    rw [(show zf_S_dropLine_L17 p1 x2 (mm + 1) k st = zf_S_dropLine_L17 p1 x2 mm (k + 1) (zf_S_put st ((p1 * 10) + (nI k)) (-1)) from by first | rfl | (rw [zf_S_dropLine_L17]))]
    exact ih (k + 1) (zf_S_put st ((p1 * 10) + (nI k)) (-1))  (by show k + 1 + mm = 10; omega) _ _ hP hD hS _ (lv_sub hl [1, 2, 3, 0] rfl)
set_option maxHeartbeats 4000000 in
set_option maxRecDepth 100000 in
theorem zc_S_dropLine (l : Launch) (dC : Nat → ClassId) (dI : Nat → Nat → Nat) (cI cZ cL : ClassId) (a0 a1 a2 : Nat) (sz : Nat) (st : zu_S) (p1 : Int32)  : Met l zy_S_dropLine (zz_ws zy_S_dropLine zb_S_dropLine 4 (some .int)) ({ frames := 1, cells := 0, slots := 0, locals := 22 } : Room) (va_Pc ([.ref a0, .int p1] : List Value) (zz_P (dC, dI) (zz_ty cI cZ cL) sz (zw_S cI cZ cL a0 a1 a2 st))) (zz_Qi (dC, dI) (zz_ty cI cZ cL) (va_A (zw_S cI cZ cL a0 a1 a2 st) sz) ((zf_S_dropLine st p1).1) (zw_S cI cZ cL a0 a1 a2 ((zf_S_dropLine st p1).2))) 0 0 (va_A (zw_S cI cZ cL a0 a1 a2 st) sz) := by
  refine zz_ofW (Q := fun A => (zz_Qi (dC, dI) (zz_ty cI cZ cL) A ((zf_S_dropLine st p1).1) (zw_S cI cZ cL a0 a1 a2 ((zf_S_dropLine st p1).2)))) (by decide) (Nat.le_of_ble_eq_true rfl) ?_
  intro p e s m below meth c A C0 _ hA hK hP hD _ ls hl
  obtain ⟨hx, hb, hr, hml, hown, htB, hlocks, hE⟩ := id C0
  have hS : va_S A s.heap s.heap [] := va_S.rf
  have hl : lv_has ls 4 [(0, .ref a0), (1, .int p1)] := hl
  refine lv_aload_n hx hb zd_S_dropLine_0 rfl (lv_at hl 0 rfl) ?_
  refine lv_iload_n hx hb zd_S_dropLine_1 rfl (lv_at hl 1 rfl) ?_
  refine zz_ki (va_runV (As := [.int p1]) (rest := []) ⟨hx, hb, hml, hown, htB⟩ (zc_S_hasLine l dC dI cI cZ cL a0 a1 a2 s.heap.size st p1 ) (cwV 1 htB (zz_gV zk_935946c6 zk_3871fc92 zk_c72ec03e zk_f1a23aa7 zk_33cddec9) rfl rfl rfl ⟨rfl, zh_S_hasLine⟩ ⟨Nat.le_of_ble_eq_true rfl, Nat.le_of_ble_eq_true rfl⟩) (zz_preV (ci := 1) (q := (zr_S, zF_S, 5)) hP hD hK hE [0, 1, 2] (by decide) rfl rfl rfl) rfl rfl hl.1 rfl (lv_room (Nat.le_of_ble_eq_true rfl)) zd_S_dropLine_2 ⟨Nat.le_of_ble_eq_true rfl, Nat.le_of_ble_eq_true rfl⟩) ?_
  refine lv_if_ne (tgt := 10) hx hb zd_S_dropLine_5 (by decide) (fun c_5 => ?_) (fun c_5 => ?_)
  · refine lv_aload_n hx hb zd_S_dropLine_10 rfl (lv_at hl 0 rfl) ?_
    refine va_get (D := (dC, dI)) (ci := 1) (v := .int st.2.2.2.2) (C := zr_S) (T := zF_S) (N := 5) hx hb htB zi_S hown hK hP 0 rfl rfl 4 (by decide) (htB _ zk_93636338) (fun _ h9 => h9) rfl zd_S_dropLine_11 ?_
    refine lv_istore_n (lv' := [(2, .int st.2.2.2.2), (0, .ref a0), (1, .int p1)]) hx hb zd_S_dropLine_14 rfl hl (by decide) rfl (fun ls hl => ?_)
    refine lv_iconst (v := 0) hx hb zd_S_dropLine_15 (by decide) ?_
    refine lv_istore_n (lv' := [(3, .int 0), (2, .int st.2.2.2.2), (0, .ref a0), (1, .int p1)]) hx hb zd_S_dropLine_16 rfl hl (by decide) rfl (fun ls hl => ?_)
    rw [(show zf_S_dropLine st p1 = zf_S_dropLine_L17 p1 st.2.2.2.2 10 0 st from by rw [zf_S_dropLine, if_neg c_5])]
    exact zp_S_dropLine_17 dC dI cI cZ cL a0 a1 a2 p1 st.2.2.2.2 (zx_has c_5) C0 hA hK 10 0 st  rfl _ _ hP hD hS _ (lv_sub hl [2, 3, 1, 0] rfl)
  · refine lv_iconst (v := (-1)) hx hb zd_S_dropLine_8 (by decide) ?_
    rw [(show zf_S_dropLine st p1 = ((-1), st) from by rw [zf_S_dropLine, if_pos c_5])]
    exact zz_iret hx hb hr hlocks hK hP hD hS zd_S_dropLine_9 rfl
set_option maxHeartbeats 4000000 in
set_option maxRecDepth 100000 in
theorem zp_S_firstMissing_2 {p : Program} {l : Launch} {e : Env} {s : State} {m : MethodId} {below : List Frame} {meth : Method} {c : Code} (dC : Nat → ClassId) (dI : Nat → Nat → Nat) (cI cZ cL : ClassId) (a0 a1 a2 : Nat) (st : zu_S) (p1 : Int32) (C0 : zz_C p s m ([.ref a0, .int p1] : List Value).toArray meth c zb_S_firstMissing 4 (some .int) zy_S_firstMissing.cls) (hK : va_K (dC, dI) zz_cl (zz_ty cI cZ cL) s) (hP : va_P (dC, dI) zz_cl (zw_S cI cZ cL a0 a1 a2 st) s.heap) (hD : va_D (fun _ => True) (zw_S cI cZ cL a0 a1 a2 st)) :
    ∀ (mm k : Nat), k + mm = 310 → ∀ ls : Array Slot, lv_has ls 4 [(0, .ref a0), (1, .int p1), (2, .int (nI k))] →
    W p l e ({ frames := 1, cells := 0, slots := 0, locals := 21 } : Room) s m ([.ref a0, .int p1] : List Value).toArray below meth c s.heap [] 0 0 (MQ below (zz_Ki (zf_S_firstMissing_L2 st p1 mm k)) ([.ref a0, .int p1] : List Value).toArray s 0 0 (fun _ => False)) (F0 m 2 ls []) := by
  obtain ⟨hx, hb, hr, hml, hown, htB, hlocks, hE⟩ := id C0
  intro mm
  induction mm with
  | zero =>
    intro k hk  ls hl
    refine lv_iload_n hx hb zd_S_firstMissing_2 rfl (lv_at hl 2 rfl) ?_
    refine lv_aload_n hx hb zd_S_firstMissing_3 rfl (lv_at hl 0 rfl) ?_
    refine va_get (D := (dC, dI)) (ci := 1) (v := .ref a1) (C := zr_S) (T := zF_S) (N := 5) hx hb htB zi_S hown hK hP 0 rfl rfl 0 (by decide) (htB _ zk_58041e5d) (fun _ h9 => h9) rfl zd_S_firstMissing_4 ?_
    refine va_alen (v := 310) hx hb hK hP 1 0 rfl rfl rfl zd_S_firstMissing_7 ?_
    refine lv_icmp_ge (tgt := 67) hx hb zd_S_firstMissing_8 (by decide) (fun _ => ?_) (fun c_ => absurd (zz_geT (b := 310) rfl (by omega) (by omega)) c_)
    refine lv_iconst (v := (-1)) hx hb zd_S_firstMissing_67 (by decide) ?_
    rw [(show zf_S_firstMissing_L2 st p1 0 k = (-1) from by first | rfl | (rw [zf_S_firstMissing_L2]))]
    exact zz_kiret hx hb hr hlocks zd_S_firstMissing_68 rfl
  | succ mm ih =>
    intro k hk  ls hl
    refine lv_iload_n hx hb zd_S_firstMissing_2 rfl (lv_at hl 2 rfl) ?_
    refine lv_aload_n hx hb zd_S_firstMissing_3 rfl (lv_at hl 0 rfl) ?_
    refine va_get (D := (dC, dI)) (ci := 1) (v := .ref a1) (C := zr_S) (T := zF_S) (N := 5) hx hb htB zi_S hown hK hP 0 rfl rfl 0 (by decide) (htB _ zk_58041e5d) (fun _ h9 => h9) rfl zd_S_firstMissing_4 ?_
    refine va_alen (v := 310) hx hb hK hP 1 0 rfl rfl rfl zd_S_firstMissing_7 ?_
    refine lv_icmp_ge (tgt := 67) hx hb zd_S_firstMissing_8 (by decide) (fun c_ => absurd c_ (zz_geF (b := 310) rfl (by omega) (by omega))) (fun _ => ?_)
    refine lv_iload_n hx hb zd_S_firstMissing_11 rfl (lv_at hl 2 rfl) ?_
    refine lv_bipush (v := 10) hx hb zd_S_firstMissing_12 (by decide) ?_
    refine lv_icmp_lt (tgt := 28) hx hb zd_S_firstMissing_14 (by decide) (fun c_14 => ?_) (fun c_14 => ?_)
    · refine lv_iconst (v := 1) hx hb zd_S_firstMissing_28 (by decide) ?_
      refine lv_goto (tgt := 33) hx hb zd_S_firstMissing_29 (by decide) ?_
      refine lv_istore_n (lv' := [(3, .int 1), (0, .ref a0), (1, .int p1), (2, .int (nI k))]) hx hb zd_S_firstMissing_33 rfl hl (by decide) rfl (fun ls hl => ?_)
      refine lv_iload_n hx hb zd_S_firstMissing_34 rfl (lv_at hl 0 rfl) ?_
      refine lv_if_eq (tgt := 61) hx hb zd_S_firstMissing_35 (by decide) (fun c_ => absurd c_ (by decide)) (fun _ => ?_)
      refine lv_aload_n hx hb zd_S_firstMissing_38 rfl (lv_at hl 1 rfl) ?_
      refine va_get (D := (dC, dI)) (ci := 1) (v := .ref a1) (C := zr_S) (T := zF_S) (N := 5) hx hb htB zi_S hown hK hP 0 rfl rfl 0 (by decide) (htB _ zk_58041e5d) (fun _ h9 => h9) rfl zd_S_firstMissing_39 ?_
      refine lv_iload_n hx hb zd_S_firstMissing_42 rfl (lv_at hl 3 rfl) ?_
      refine zz_iald hx hb hK hP 1 0 rfl rfl (by omega) (by decide) zd_S_firstMissing_43 ?_
      refine lv_iconst (v := (-1)) hx hb zd_S_firstMissing_44 (by decide) ?_
      refine lv_icmp_ne (tgt := 61) hx hb zd_S_firstMissing_45 (by decide) (fun c_45 => ?_) (fun c_45 => ?_)
      · refine lv_iinc (v := nI (k + 1)) (lv' := [(2, .int (nI (k + 1))), (3, .int 1), (0, .ref a0), (1, .int p1)]) hx hb zd_S_firstMissing_61 hl (k := 3) rfl (nI_1 k) (by decide) rfl (fun ls hl => ?_)
        refine lv_goto (tgt := 2) hx hb zd_S_firstMissing_64 (by decide) ?_
        rw [(show zf_S_firstMissing_L2 st p1 (mm + 1) k = zf_S_firstMissing_L2 st p1 mm (k + 1) from by rw [zf_S_firstMissing_L2, if_pos c_14, if_neg c_45])]
        exact ih (k + 1) (by omega)   _ (lv_sub hl [2, 3, 0] rfl)
      · refine lv_iload_n hx hb zd_S_firstMissing_48 rfl (lv_at hl 2 rfl) ?_
        refine lv_iload_n hx hb zd_S_firstMissing_49 rfl (lv_at hl 3 rfl) ?_
        refine zz_ki (va_runSN (As := [.int (nI k)]) (rest := [.int p1]) ⟨hx, hb, hml, hown, htB⟩ (zc_X_fieldOf l dC dI cI cZ cL  s.heap.size  (nI k) ) ⟨va_cnB 1 htB (zz_gB zk_1944e685) rfl rfl rfl (hE.1 _ (List.mem_of_getElem? (i := 0) rfl)) (htB _ zk_cfe38e2e) zh_X_fieldOf ⟨Nat.le_of_ble_eq_true rfl, Nat.le_of_ble_eq_true rfl⟩, htB _ zk_82f2c4f0, trivial⟩ (zz_preS hP hD hK hE [] (by decide) rfl) rfl rfl hl.1 rfl (lv_room (Nat.le_of_ble_eq_true rfl)) zd_S_firstMissing_50 ⟨Nat.le_of_ble_eq_true rfl, Nat.le_of_ble_eq_true rfl⟩) ?_
        refine zz_ki (va_runSN (As := [.int p1, .int (zf_X_fieldOf (nI k))]) (rest := []) ⟨hx, hb, hml, hown, htB⟩ (zc_X_needBy l dC dI cI cZ cL  s.heap.size  p1 (zf_X_fieldOf (nI k)) ) ⟨va_cnB 2 htB (zz_gB zk_dd814726) rfl rfl rfl (hE.1 _ (List.mem_of_getElem? (i := 1) rfl)) (htB _ zk_cfe38e2e) zh_X_needBy ⟨Nat.le_of_ble_eq_true rfl, Nat.le_of_ble_eq_true rfl⟩, htB _ zk_e14187d6, trivial⟩ (zz_preS hP hD hK hE [] (by decide) rfl) rfl rfl hl.1 rfl (lv_room (Nat.le_of_ble_eq_true rfl)) zd_S_firstMissing_53 ⟨Nat.le_of_ble_eq_true rfl, Nat.le_of_ble_eq_true rfl⟩) ?_
        refine lv_if_ne (tgt := 61) hx hb zd_S_firstMissing_56 (by decide) (fun c_56 => ?_) (fun c_56 => ?_)
        · refine lv_iinc (v := nI (k + 1)) (lv' := [(2, .int (nI (k + 1))), (3, .int 1), (0, .ref a0), (1, .int p1)]) hx hb zd_S_firstMissing_61 hl (k := 3) rfl (nI_1 k) (by decide) rfl (fun ls hl => ?_)
          refine lv_goto (tgt := 2) hx hb zd_S_firstMissing_64 (by decide) ?_
          rw [(show zf_S_firstMissing_L2 st p1 (mm + 1) k = zf_S_firstMissing_L2 st p1 mm (k + 1) from by rw [zf_S_firstMissing_L2, if_pos c_14, if_pos c_45, if_neg c_56])]
          exact ih (k + 1) (by omega)   _ (lv_sub hl [2, 3, 0] rfl)
        · refine lv_iload_n hx hb zd_S_firstMissing_59 rfl (lv_at hl 3 rfl) ?_
          rw [(show zf_S_firstMissing_L2 st p1 (mm + 1) k = nI k from by rw [zf_S_firstMissing_L2, if_pos c_14, if_pos c_45, if_pos c_56])]
          exact zz_kiret hx hb hr hlocks zd_S_firstMissing_60 rfl
    · refine lv_aload_n hx hb zd_S_firstMissing_17 rfl (lv_at hl 0 rfl) ?_
      refine lv_iload_n hx hb zd_S_firstMissing_18 rfl (lv_at hl 2 rfl) ?_
      refine zz_ki (va_runSN (As := [.int (nI k)]) (rest := [.ref a0]) ⟨hx, hb, hml, hown, htB⟩ (zc_X_lineOf l dC dI cI cZ cL  s.heap.size  (nI k) ) ⟨va_cnB 1 htB (zz_gB zk_7540bdb8) rfl rfl rfl (hE.1 _ (List.mem_of_getElem? (i := 2) rfl)) (htB _ zk_cfe38e2e) zh_X_lineOf ⟨Nat.le_of_ble_eq_true rfl, Nat.le_of_ble_eq_true rfl⟩, htB _ zk_bd1d2622, trivial⟩ (zz_preS hP hD hK hE [] (by decide) rfl) rfl rfl hl.1 rfl (lv_room (Nat.le_of_ble_eq_true rfl)) zd_S_firstMissing_19 ⟨Nat.le_of_ble_eq_true rfl, Nat.le_of_ble_eq_true rfl⟩) ?_
      refine zz_ki (va_runV (As := [.int (zf_X_lineOf (nI k))]) (rest := []) ⟨hx, hb, hml, hown, htB⟩ (zc_S_hasLine l dC dI cI cZ cL a0 a1 a2 s.heap.size st (zf_X_lineOf (nI k)) ) (cwV 1 htB (zz_gV zk_935946c6 zk_3871fc92 zk_c72ec03e zk_f1a23aa7 zk_33cddec9) rfl rfl rfl ⟨rfl, zh_S_hasLine⟩ ⟨Nat.le_of_ble_eq_true rfl, Nat.le_of_ble_eq_true rfl⟩) (zz_preV (ci := 1) (q := (zr_S, zF_S, 5)) hP hD hK hE [0, 1, 2] (by decide) rfl rfl rfl) rfl rfl hl.1 rfl (lv_room (Nat.le_of_ble_eq_true rfl)) zd_S_firstMissing_22 ⟨Nat.le_of_ble_eq_true rfl, Nat.le_of_ble_eq_true rfl⟩) ?_
      refine lv_if_eq (tgt := 32) hx hb zd_S_firstMissing_25 (by decide) (fun c_25 => ?_) (fun c_25 => ?_)
      · refine lv_iconst (v := 0) hx hb zd_S_firstMissing_32 (by decide) ?_
        refine lv_istore_n (lv' := [(3, .int 0), (0, .ref a0), (1, .int p1), (2, .int (nI k))]) hx hb zd_S_firstMissing_33 rfl hl (by decide) rfl (fun ls hl => ?_)
        refine lv_iload_n hx hb zd_S_firstMissing_34 rfl (lv_at hl 0 rfl) ?_
        refine lv_if_eq (tgt := 61) hx hb zd_S_firstMissing_35 (by decide) (fun _ => ?_) (fun c_ => absurd (by decide) c_)
        refine lv_iinc (v := nI (k + 1)) (lv' := [(2, .int (nI (k + 1))), (3, .int 0), (0, .ref a0), (1, .int p1)]) hx hb zd_S_firstMissing_61 hl (k := 3) rfl (nI_1 k) (by decide) rfl (fun ls hl => ?_)
        refine lv_goto (tgt := 2) hx hb zd_S_firstMissing_64 (by decide) ?_
        rw [(show zf_S_firstMissing_L2 st p1 (mm + 1) k = zf_S_firstMissing_L2 st p1 mm (k + 1) from by rw [zf_S_firstMissing_L2, if_neg c_14, if_pos c_25])]
        exact ih (k + 1) (by omega)   _ (lv_sub hl [2, 3, 0] rfl)
      · refine lv_iconst (v := 1) hx hb zd_S_firstMissing_28 (by decide) ?_
        refine lv_goto (tgt := 33) hx hb zd_S_firstMissing_29 (by decide) ?_
        refine lv_istore_n (lv' := [(3, .int 1), (0, .ref a0), (1, .int p1), (2, .int (nI k))]) hx hb zd_S_firstMissing_33 rfl hl (by decide) rfl (fun ls hl => ?_)
        refine lv_iload_n hx hb zd_S_firstMissing_34 rfl (lv_at hl 0 rfl) ?_
        refine lv_if_eq (tgt := 61) hx hb zd_S_firstMissing_35 (by decide) (fun c_ => absurd c_ (by decide)) (fun _ => ?_)
        refine lv_aload_n hx hb zd_S_firstMissing_38 rfl (lv_at hl 1 rfl) ?_
        refine va_get (D := (dC, dI)) (ci := 1) (v := .ref a1) (C := zr_S) (T := zF_S) (N := 5) hx hb htB zi_S hown hK hP 0 rfl rfl 0 (by decide) (htB _ zk_58041e5d) (fun _ h9 => h9) rfl zd_S_firstMissing_39 ?_
        refine lv_iload_n hx hb zd_S_firstMissing_42 rfl (lv_at hl 3 rfl) ?_
        refine zz_iald hx hb hK hP 1 0 rfl rfl (by omega) (by decide) zd_S_firstMissing_43 ?_
        refine lv_iconst (v := (-1)) hx hb zd_S_firstMissing_44 (by decide) ?_
        refine lv_icmp_ne (tgt := 61) hx hb zd_S_firstMissing_45 (by decide) (fun c_45 => ?_) (fun c_45 => ?_)
        · refine lv_iinc (v := nI (k + 1)) (lv' := [(2, .int (nI (k + 1))), (3, .int 1), (0, .ref a0), (1, .int p1)]) hx hb zd_S_firstMissing_61 hl (k := 3) rfl (nI_1 k) (by decide) rfl (fun ls hl => ?_)
          refine lv_goto (tgt := 2) hx hb zd_S_firstMissing_64 (by decide) ?_
          rw [(show zf_S_firstMissing_L2 st p1 (mm + 1) k = zf_S_firstMissing_L2 st p1 mm (k + 1) from by rw [zf_S_firstMissing_L2, if_neg c_14, if_neg c_25, if_neg c_45])]
          exact ih (k + 1) (by omega)   _ (lv_sub hl [2, 3, 0] rfl)
        · refine lv_iload_n hx hb zd_S_firstMissing_48 rfl (lv_at hl 2 rfl) ?_
          refine lv_iload_n hx hb zd_S_firstMissing_49 rfl (lv_at hl 3 rfl) ?_
          refine zz_ki (va_runSN (As := [.int (nI k)]) (rest := [.int p1]) ⟨hx, hb, hml, hown, htB⟩ (zc_X_fieldOf l dC dI cI cZ cL  s.heap.size  (nI k) ) ⟨va_cnB 1 htB (zz_gB zk_1944e685) rfl rfl rfl (hE.1 _ (List.mem_of_getElem? (i := 0) rfl)) (htB _ zk_cfe38e2e) zh_X_fieldOf ⟨Nat.le_of_ble_eq_true rfl, Nat.le_of_ble_eq_true rfl⟩, htB _ zk_82f2c4f0, trivial⟩ (zz_preS hP hD hK hE [] (by decide) rfl) rfl rfl hl.1 rfl (lv_room (Nat.le_of_ble_eq_true rfl)) zd_S_firstMissing_50 ⟨Nat.le_of_ble_eq_true rfl, Nat.le_of_ble_eq_true rfl⟩) ?_
          refine zz_ki (va_runSN (As := [.int p1, .int (zf_X_fieldOf (nI k))]) (rest := []) ⟨hx, hb, hml, hown, htB⟩ (zc_X_needBy l dC dI cI cZ cL  s.heap.size  p1 (zf_X_fieldOf (nI k)) ) ⟨va_cnB 2 htB (zz_gB zk_dd814726) rfl rfl rfl (hE.1 _ (List.mem_of_getElem? (i := 1) rfl)) (htB _ zk_cfe38e2e) zh_X_needBy ⟨Nat.le_of_ble_eq_true rfl, Nat.le_of_ble_eq_true rfl⟩, htB _ zk_e14187d6, trivial⟩ (zz_preS hP hD hK hE [] (by decide) rfl) rfl rfl hl.1 rfl (lv_room (Nat.le_of_ble_eq_true rfl)) zd_S_firstMissing_53 ⟨Nat.le_of_ble_eq_true rfl, Nat.le_of_ble_eq_true rfl⟩) ?_
          refine lv_if_ne (tgt := 61) hx hb zd_S_firstMissing_56 (by decide) (fun c_56 => ?_) (fun c_56 => ?_)
          · refine lv_iinc (v := nI (k + 1)) (lv' := [(2, .int (nI (k + 1))), (3, .int 1), (0, .ref a0), (1, .int p1)]) hx hb zd_S_firstMissing_61 hl (k := 3) rfl (nI_1 k) (by decide) rfl (fun ls hl => ?_)
            refine lv_goto (tgt := 2) hx hb zd_S_firstMissing_64 (by decide) ?_
            rw [(show zf_S_firstMissing_L2 st p1 (mm + 1) k = zf_S_firstMissing_L2 st p1 mm (k + 1) from by rw [zf_S_firstMissing_L2, if_neg c_14, if_neg c_25, if_pos c_45, if_neg c_56])]
            exact ih (k + 1) (by omega)   _ (lv_sub hl [2, 3, 0] rfl)
          · refine lv_iload_n hx hb zd_S_firstMissing_59 rfl (lv_at hl 3 rfl) ?_
            rw [(show zf_S_firstMissing_L2 st p1 (mm + 1) k = nI k from by rw [zf_S_firstMissing_L2, if_neg c_14, if_neg c_25, if_pos c_45, if_pos c_56])]
            exact zz_kiret hx hb hr hlocks zd_S_firstMissing_60 rfl
set_option maxHeartbeats 4000000 in
set_option maxRecDepth 100000 in
theorem zc_S_firstMissing (l : Launch) (dC : Nat → ClassId) (dI : Nat → Nat → Nat) (cI cZ cL : ClassId) (a0 a1 a2 : Nat) (sz : Nat) (st : zu_S) (p1 : Int32)  : Met l zy_S_firstMissing (zz_ws zy_S_firstMissing zb_S_firstMissing 4 (some .int)) ({ frames := 1, cells := 0, slots := 0, locals := 21 } : Room) (va_Pc ([.ref a0, .int p1] : List Value) (zz_P (dC, dI) (zz_ty cI cZ cL) sz (zw_S cI cZ cL a0 a1 a2 st))) (zz_Ki (zf_S_firstMissing st p1)) 0 0 (fun _ => False) := by
  refine zz_ofK (by decide) (Nat.le_of_ble_eq_true rfl) ?_
  intro p e s m below meth c C0 hK hP hD ls hl
  obtain ⟨hx, hb, hr, hml, hown, htB, hlocks, hE⟩ := id C0
  have hl : lv_has ls 4 [(0, .ref a0), (1, .int p1)] := hl
  refine lv_iconst (v := 0) hx hb zd_S_firstMissing_0 (by decide) ?_
  refine lv_istore_n (lv' := [(2, .int 0), (0, .ref a0), (1, .int p1)]) hx hb zd_S_firstMissing_1 rfl hl (by decide) rfl (fun ls hl => ?_)
  rw [(show zf_S_firstMissing st p1 = zf_S_firstMissing_L2 st p1 310 0 from by first | rfl | (rw [zf_S_firstMissing]))]
  exact zp_S_firstMissing_2 dC dI cI cZ cL a0 a1 a2 st p1 C0 hK hP hD 310 0 rfl   _ (lv_sub hl [1, 2, 0] rfl)
set_option maxHeartbeats 4000000 in
set_option maxRecDepth 100000 in
theorem zp_S_total_5 {p : Program} {l : Launch} {e : Env} {s : State} {m : MethodId} {below : List Frame} {meth : Method} {c : Code} (dC : Nat → ClassId) (dI : Nat → Nat → Nat) (cI cZ cL : ClassId) (a0 a1 a2 : Nat) (st : zu_S) (p1 : Int32) (C0 : zz_C p s m ([.ref a0, .int p1] : List Value).toArray meth c zb_S_total 5 (some .long) zy_S_total.cls) (hK : va_K (dC, dI) zz_cl (zz_ty cI cZ cL) s) (hP : va_P (dC, dI) zz_cl (zw_S cI cZ cL a0 a1 a2 st) s.heap) (hD : va_D (fun _ => True) (zw_S cI cZ cL a0 a1 a2 st)) :
    ∀ (mm k : Nat), k + mm = 31 → ∀ (x2 : Int64), ∀ ls : Array Slot, lv_has ls 5 [(0, .ref a0), (1, .int p1), (2, .long x2), (4, .int (nI k))] →
    W p l e ({ frames := 2, cells := 0, slots := 0, locals := 43 } : Room) s m ([.ref a0, .int p1] : List Value).toArray below meth c s.heap [] 0 0 (MQ below (zz_Kl (zf_S_total_L5 st p1 mm k x2)) ([.ref a0, .int p1] : List Value).toArray s 0 0 (fun _ => False)) (F0 m 5 ls []) := by
  obtain ⟨hx, hb, hr, hml, hown, htB, hlocks, hE⟩ := id C0
  intro mm
  induction mm with
  | zero =>
    intro k hk x2 ls hl
    refine lv_iload hx hb zd_S_total_5 (lv_at hl 3 rfl) ?_
    refine lv_bipush (v := 30) hx hb zd_S_total_7 (by decide) ?_
    refine lv_icmp_gt (tgt := 37) hx hb zd_S_total_9 (by decide) (fun _ => ?_) (fun c_ => absurd (zz_gtT (b := 30) rfl (by omega) (by omega)) c_)
    refine lv_lload_n hx hb zd_S_total_37 rfl (lv_at hl 2 rfl) ?_
    rw [(show zf_S_total_L5 st p1 0 k x2 = x2 from by first | rfl | (rw [zf_S_total_L5]))]
    exact zz_klret hx hb hr hlocks zd_S_total_38 rfl
  | succ mm ih =>
    intro k hk x2 ls hl
    refine lv_iload hx hb zd_S_total_5 (lv_at hl 3 rfl) ?_
    refine lv_bipush (v := 30) hx hb zd_S_total_7 (by decide) ?_
    refine lv_icmp_gt (tgt := 37) hx hb zd_S_total_9 (by decide) (fun c_ => absurd c_ (zz_gtF (b := 30) rfl (by omega) (by omega))) (fun _ => ?_)
    refine lv_lload_n hx hb zd_S_total_12 rfl (lv_at hl 2 rfl) ?_
    refine lv_iconst (v := 0) hx hb zd_S_total_13 (by decide) ?_
    refine lv_aload_n hx hb zd_S_total_14 rfl (lv_at hl 0 rfl) ?_
    refine lv_aload_n hx hb zd_S_total_15 rfl (lv_at hl 0 rfl) ?_
    refine lv_iload_n hx hb zd_S_total_16 rfl (lv_at hl 1 rfl) ?_
    refine lv_iload hx hb zd_S_total_17 (lv_at hl 3 rfl) ?_
    refine zz_ki (va_runV (As := [.int p1, .int (nI k)]) (rest := [.ref a0, .int 0, .long x2]) ⟨hx, hb, hml, hown, htB⟩ (zc_S_slotOf l dC dI cI cZ cL a0 a1 a2 s.heap.size st p1 (nI k) ) (cwV 2 htB (zz_gV zk_c343ab2c zk_13757a2f zk_9f779419 zk_f1a23aa7 zk_e4817253) rfl rfl rfl ⟨rfl, zh_S_slotOf⟩ ⟨Nat.le_of_ble_eq_true rfl, Nat.le_of_ble_eq_true rfl⟩) (zz_preV (ci := 1) (q := (zr_S, zF_S, 5)) hP hD hK hE [0, 1, 2] (by decide) rfl rfl rfl) rfl rfl hl.1 rfl (lv_room (Nat.le_of_ble_eq_true rfl)) zd_S_total_19 ⟨Nat.le_of_ble_eq_true rfl, Nat.le_of_ble_eq_true rfl⟩) ?_
    refine zz_ki (va_runV (As := [.int (zf_S_slotOf st p1 (nI k))]) (rest := [.int 0, .long x2]) ⟨hx, hb, hml, hown, htB⟩ (zc_S_valueAt l dC dI cI cZ cL a0 a1 a2 s.heap.size st (zf_S_slotOf st p1 (nI k)) ) (cwV 1 htB (zz_gV zk_9b9c69cb zk_1fa0ab90 zk_4c70df44 zk_f1a23aa7 zk_fdbb5e96) rfl rfl rfl ⟨rfl, zh_S_valueAt⟩ ⟨Nat.le_of_ble_eq_true rfl, Nat.le_of_ble_eq_true rfl⟩) (zz_preV (ci := 1) (q := (zr_S, zF_S, 5)) hP hD hK hE [0, 1, 2] (by decide) rfl rfl rfl) rfl rfl hl.1 rfl (lv_room (Nat.le_of_ble_eq_true rfl)) zd_S_total_22 ⟨Nat.le_of_ble_eq_true rfl, Nat.le_of_ble_eq_true rfl⟩) ?_
    refine va_mmax hx hb (hml.trans hl.1.symm) hown (htB _ zk_c90df990) (htB _ zk_0bcac700) (htB _ zk_7b6e1f6d) (htB _ zk_c583aea8) (Nat.le_of_ble_eq_true rfl) (Nat.le_of_ble_eq_true rfl) (Nat.le_of_ble_eq_true rfl) (Nat.le_of_ble_eq_true rfl) zd_S_total_25 ?_
    refine lv_i2l hx hb zd_S_total_28 rfl ?_
    refine lv_ladd hx hb zd_S_total_29 ?_
    refine lv_lstore_n (lv' := [(2, .long (x2 + ((if 0 < (zf_S_valueAt st (zf_S_slotOf st p1 (nI k))) then (zf_S_valueAt st (zf_S_slotOf st p1 (nI k))) else 0).toInt64))), (0, .ref a0), (1, .int p1), (4, .int (nI k))]) hx hb zd_S_total_30 rfl hl (by decide) rfl (fun ls hl => ?_)
    refine lv_iinc (v := nI (k + 1)) (lv' := [(4, .int (nI (k + 1))), (2, .long (x2 + ((if 0 < (zf_S_valueAt st (zf_S_slotOf st p1 (nI k))) then (zf_S_valueAt st (zf_S_slotOf st p1 (nI k))) else 0).toInt64))), (0, .ref a0), (1, .int p1)]) hx hb zd_S_total_31 hl (k := 3) rfl (nI_1 k) (by decide) rfl (fun ls hl => ?_)
    refine lv_goto (tgt := 5) hx hb zd_S_total_34 (by decide) ?_
    rw [(show zf_S_total_L5 st p1 (mm + 1) k x2 = zf_S_total_L5 st p1 mm (k + 1) (x2 + ((if 0 < (zf_S_valueAt st (zf_S_slotOf st p1 (nI k))) then (zf_S_valueAt st (zf_S_slotOf st p1 (nI k))) else 0).toInt64)) from by first | rfl | (rw [zf_S_total_L5]))]
    exact ih (k + 1) (by omega) (x2 + ((if 0 < (zf_S_valueAt st (zf_S_slotOf st p1 (nI k))) then (zf_S_valueAt st (zf_S_slotOf st p1 (nI k))) else 0).toInt64))  _ (lv_sub hl [2, 3, 1, 0] rfl)
set_option maxHeartbeats 4000000 in
set_option maxRecDepth 100000 in
theorem zc_S_total (l : Launch) (dC : Nat → ClassId) (dI : Nat → Nat → Nat) (cI cZ cL : ClassId) (a0 a1 a2 : Nat) (sz : Nat) (st : zu_S) (p1 : Int32)  : Met l zy_S_total (zz_ws zy_S_total zb_S_total 5 (some .long)) ({ frames := 2, cells := 0, slots := 0, locals := 43 } : Room) (va_Pc ([.ref a0, .int p1] : List Value) (zz_P (dC, dI) (zz_ty cI cZ cL) sz (zw_S cI cZ cL a0 a1 a2 st))) (zz_Kl (zf_S_total st p1)) 0 0 (fun _ => False) := by
  refine zz_ofK (by decide) (Nat.le_of_ble_eq_true rfl) ?_
  intro p e s m below meth c C0 hK hP hD ls hl
  obtain ⟨hx, hb, hr, hml, hown, htB, hlocks, hE⟩ := id C0
  have hl : lv_has ls 5 [(0, .ref a0), (1, .int p1)] := hl
  refine lv_lconst (v := 0) hx hb zd_S_total_0 (by decide) ?_
  refine lv_lstore_n (lv' := [(2, .long 0), (0, .ref a0), (1, .int p1)]) hx hb zd_S_total_1 rfl hl (by decide) rfl (fun ls hl => ?_)
  refine lv_iconst (v := 1) hx hb zd_S_total_2 (by decide) ?_
  refine lv_istore (lv' := [(4, .int 1), (2, .long 0), (0, .ref a0), (1, .int p1)]) hx hb zd_S_total_3 hl (by decide) rfl (fun ls hl => ?_)
  rw [(show zf_S_total st p1 = zf_S_total_L5 st p1 30 1 0 from by first | rfl | (rw [zf_S_total]))]
  exact zp_S_total_5 dC dI cI cZ cL a0 a1 a2 st p1 C0 hK hP hD 30 1 rfl 0  _ (lv_sub hl [2, 3, 1, 0] rfl)
set_option maxHeartbeats 4000000 in
set_option maxRecDepth 100000 in
theorem zc_S_sumIsWrong (l : Launch) (dC : Nat → ClassId) (dI : Nat → Nat → Nat) (cI cZ cL : ClassId) (a0 a1 a2 : Nat) (sz : Nat) (st : zu_S) (p1 : Int32) (p2 : Int32)  : Met l zy_S_sumIsWrong (zz_ws zy_S_sumIsWrong zb_S_sumIsWrong 4 (some .boolean)) ({ frames := 3, cells := 0, slots := 0, locals := 67 } : Room) (va_Pc ([.ref a0, .int p1, .int p2] : List Value) (zz_P (dC, dI) (zz_ty cI cZ cL) sz (zw_S cI cZ cL a0 a1 a2 st))) (zz_Ki (zf_S_sumIsWrong st p1 p2)) 0 0 (fun _ => False) := by
  refine zz_ofK (by decide) (Nat.le_of_ble_eq_true rfl) ?_
  intro p e s m below meth c C0 hK hP hD ls hl
  obtain ⟨hx, hb, hr, hml, hown, htB, hlocks, hE⟩ := id C0
  have hl : lv_has ls 4 [(0, .ref a0), (1, .int p1), (2, .int p2)] := hl
  refine lv_aload_n hx hb zd_S_sumIsWrong_0 rfl (lv_at hl 0 rfl) ?_
  refine lv_aload_n hx hb zd_S_sumIsWrong_1 rfl (lv_at hl 0 rfl) ?_
  refine lv_iload_n hx hb zd_S_sumIsWrong_2 rfl (lv_at hl 1 rfl) ?_
  refine lv_iconst (v := 0) hx hb zd_S_sumIsWrong_3 (by decide) ?_
  refine zz_ki (va_runV (As := [.int p1, .int 0]) (rest := [.ref a0]) ⟨hx, hb, hml, hown, htB⟩ (zc_S_slotOf l dC dI cI cZ cL a0 a1 a2 s.heap.size st p1 0 ) (cwV 2 htB (zz_gV zk_c343ab2c zk_13757a2f zk_9f779419 zk_f1a23aa7 zk_e4817253) rfl rfl rfl ⟨rfl, zh_S_slotOf⟩ ⟨Nat.le_of_ble_eq_true rfl, Nat.le_of_ble_eq_true rfl⟩) (zz_preV (ci := 1) (q := (zr_S, zF_S, 5)) hP hD hK hE [0, 1, 2] (by decide) rfl rfl rfl) rfl rfl hl.1 rfl (lv_room (Nat.le_of_ble_eq_true rfl)) zd_S_sumIsWrong_4 ⟨Nat.le_of_ble_eq_true rfl, Nat.le_of_ble_eq_true rfl⟩) ?_
  refine zz_ki (va_runV (As := [.int (zf_S_slotOf st p1 0)]) (rest := []) ⟨hx, hb, hml, hown, htB⟩ (zc_S_valueAt l dC dI cI cZ cL a0 a1 a2 s.heap.size st (zf_S_slotOf st p1 0) ) (cwV 1 htB (zz_gV zk_9b9c69cb zk_1fa0ab90 zk_4c70df44 zk_f1a23aa7 zk_fdbb5e96) rfl rfl rfl ⟨rfl, zh_S_valueAt⟩ ⟨Nat.le_of_ble_eq_true rfl, Nat.le_of_ble_eq_true rfl⟩) (zz_preV (ci := 1) (q := (zr_S, zF_S, 5)) hP hD hK hE [0, 1, 2] (by decide) rfl rfl rfl) rfl rfl hl.1 rfl (lv_room (Nat.le_of_ble_eq_true rfl)) zd_S_sumIsWrong_7 ⟨Nat.le_of_ble_eq_true rfl, Nat.le_of_ble_eq_true rfl⟩) ?_
  refine lv_istore_n (lv' := [(3, .int (zf_S_valueAt st (zf_S_slotOf st p1 0))), (0, .ref a0), (1, .int p1), (2, .int p2)]) hx hb zd_S_sumIsWrong_10 rfl hl (by decide) rfl (fun ls hl => ?_)
  refine lv_iload_n hx hb zd_S_sumIsWrong_11 rfl (lv_at hl 0 rfl) ?_
  refine lv_iconst (v := (-1)) hx hb zd_S_sumIsWrong_12 (by decide) ?_
  refine lv_icmp_eq (tgt := 31) hx hb zd_S_sumIsWrong_13 (by decide) (fun c_13 => ?_) (fun c_13 => ?_)
  · refine lv_iconst (v := 0) hx hb zd_S_sumIsWrong_31 (by decide) ?_
    rw [(show zf_S_sumIsWrong st p1 p2 = 0 from by rw [zf_S_sumIsWrong, if_pos c_13])]
    exact zz_kzret hx hb hr hlocks narrow_b0 zd_S_sumIsWrong_32 rfl
  · refine lv_iload_n hx hb zd_S_sumIsWrong_16 rfl (lv_at hl 0 rfl) ?_
    refine lv_i2l hx hb zd_S_sumIsWrong_17 rfl ?_
    refine lv_aload_n hx hb zd_S_sumIsWrong_18 rfl (lv_at hl 1 rfl) ?_
    refine lv_iload_n hx hb zd_S_sumIsWrong_19 rfl (lv_at hl 3 rfl) ?_
    refine zz_kl (va_runV (As := [.int p2]) (rest := [.long ((zf_S_valueAt st (zf_S_slotOf st p1 0)).toInt64)]) ⟨hx, hb, hml, hown, htB⟩ (zc_S_total l dC dI cI cZ cL a0 a1 a2 s.heap.size st p2 ) (cwV 1 htB (zz_gV zk_bdd994ac zk_b3219529 zk_106e6e6c zk_f1a23aa7 zk_efd9ded9) rfl rfl rfl ⟨rfl, zh_S_total⟩ ⟨Nat.le_of_ble_eq_true rfl, Nat.le_of_ble_eq_true rfl⟩) (zz_preV (ci := 1) (q := (zr_S, zF_S, 5)) hP hD hK hE [0, 1, 2] (by decide) rfl rfl rfl) rfl rfl hl.1 rfl (lv_room (Nat.le_of_ble_eq_true rfl)) zd_S_sumIsWrong_20 ⟨Nat.le_of_ble_eq_true rfl, Nat.le_of_ble_eq_true rfl⟩) ?_
    refine W.lcmp hx hb zd_S_sumIsWrong_23 ?_
    refine lv_if_eq (tgt := 31) hx hb zd_S_sumIsWrong_24 (by decide) (fun c_24 => ?_) (fun c_24 => ?_)
    · refine lv_iconst (v := 0) hx hb zd_S_sumIsWrong_31 (by decide) ?_
      rw [(show zf_S_sumIsWrong st p1 p2 = 0 from by rw [zf_S_sumIsWrong, if_neg c_13, if_pos c_24])]
      exact zz_kzret hx hb hr hlocks narrow_b0 zd_S_sumIsWrong_32 rfl
    · refine lv_iconst (v := 1) hx hb zd_S_sumIsWrong_27 (by decide) ?_
      refine lv_goto (tgt := 32) hx hb zd_S_sumIsWrong_28 (by decide) ?_
      rw [(show zf_S_sumIsWrong st p1 p2 = 1 from by rw [zf_S_sumIsWrong, if_neg c_13, if_neg c_24])]
      exact zz_kzret hx hb hr hlocks narrow_b1 zd_S_sumIsWrong_32 rfl
set_option maxHeartbeats 4000000 in
set_option maxRecDepth 100000 in
theorem zp_S_setSlot_4 {p : Program} {l : Launch} {e : Env} {s : State} {m : MethodId} {below : List Frame} {meth : Method} {c : Code} (dC : Nat → ClassId) (dI : Nat → Nat → Nat) (cI cZ cL : ClassId) (a0 a1 a2 : Nat) (st : zu_S) (p1 : Int32) (C0 : zz_C p s m ([.ref a0, .int p1] : List Value).toArray meth c zb_S_setSlot 4 (some .int) zy_S_setSlot.cls) (hK : va_K (dC, dI) zz_cl (zz_ty cI cZ cL) s) (hP : va_P (dC, dI) zz_cl (zw_S cI cZ cL a0 a1 a2 st) s.heap) (hD : va_D (fun _ => True) (zw_S cI cZ cL a0 a1 a2 st)) :
    ∀ (mm k : Nat), k + mm = 310 → ∀ (x2 : Int32), ∀ ls : Array Slot, lv_has ls 4 [(0, .ref a0), (1, .int p1), (2, .int x2), (3, .int (nI k))] →
    W p l e ({ frames := 0, cells := 0, slots := 0, locals := 0 } : Room) s m ([.ref a0, .int p1] : List Value).toArray below meth c s.heap [] 0 0 (MQ below (zz_Ki (zf_S_setSlot_L4 st p1 mm k x2)) ([.ref a0, .int p1] : List Value).toArray s 0 0 (fun _ => False)) (F0 m 4 ls []) := by
  obtain ⟨hx, hb, hr, hml, hown, htB, hlocks, hE⟩ := id C0
  intro mm
  induction mm with
  | zero =>
    intro k hk x2 ls hl
    refine lv_iload_n hx hb zd_S_setSlot_4 rfl (lv_at hl 3 rfl) ?_
    refine lv_aload_n hx hb zd_S_setSlot_5 rfl (lv_at hl 0 rfl) ?_
    refine va_get (D := (dC, dI)) (ci := 1) (v := .ref a1) (C := zr_S) (T := zF_S) (N := 5) hx hb htB zi_S hown hK hP 0 rfl rfl 0 (by decide) (htB _ zk_58041e5d) (fun _ h9 => h9) rfl zd_S_setSlot_6 ?_
    refine va_alen (v := 310) hx hb hK hP 1 0 rfl rfl rfl zd_S_setSlot_9 ?_
    refine lv_icmp_ge (tgt := 39) hx hb zd_S_setSlot_10 (by decide) (fun _ => ?_) (fun c_ => absurd (zz_geT (b := 310) rfl (by omega) (by omega)) c_)
    refine lv_iconst (v := (-1)) hx hb zd_S_setSlot_39 (by decide) ?_
    rw [(show zf_S_setSlot_L4 st p1 0 k x2 = (-1) from by first | rfl | (rw [zf_S_setSlot_L4]))]
    exact zz_kiret hx hb hr hlocks zd_S_setSlot_40 rfl
  | succ mm ih =>
    intro k hk x2 ls hl
    refine lv_iload_n hx hb zd_S_setSlot_4 rfl (lv_at hl 3 rfl) ?_
    refine lv_aload_n hx hb zd_S_setSlot_5 rfl (lv_at hl 0 rfl) ?_
    refine va_get (D := (dC, dI)) (ci := 1) (v := .ref a1) (C := zr_S) (T := zF_S) (N := 5) hx hb htB zi_S hown hK hP 0 rfl rfl 0 (by decide) (htB _ zk_58041e5d) (fun _ h9 => h9) rfl zd_S_setSlot_6 ?_
    refine va_alen (v := 310) hx hb hK hP 1 0 rfl rfl rfl zd_S_setSlot_9 ?_
    refine lv_icmp_ge (tgt := 39) hx hb zd_S_setSlot_10 (by decide) (fun c_ => absurd c_ (zz_geF (b := 310) rfl (by omega) (by omega))) (fun _ => ?_)
    refine lv_aload_n hx hb zd_S_setSlot_13 rfl (lv_at hl 0 rfl) ?_
    refine va_get (D := (dC, dI)) (ci := 1) (v := .ref a1) (C := zr_S) (T := zF_S) (N := 5) hx hb htB zi_S hown hK hP 0 rfl rfl 0 (by decide) (htB _ zk_58041e5d) (fun _ h9 => h9) rfl zd_S_setSlot_14 ?_
    refine lv_iload_n hx hb zd_S_setSlot_17 rfl (lv_at hl 3 rfl) ?_
    refine zz_iald hx hb hK hP 1 0 rfl rfl (by omega) (by decide) zd_S_setSlot_18 ?_
    refine lv_iconst (v := (-1)) hx hb zd_S_setSlot_19 (by decide) ?_
    refine lv_icmp_eq (tgt := 33) hx hb zd_S_setSlot_20 (by decide) (fun c_20 => ?_) (fun c_20 => ?_)
    · refine lv_iinc (v := nI (k + 1)) (lv' := [(3, .int (nI (k + 1))), (0, .ref a0), (1, .int p1), (2, .int x2)]) hx hb zd_S_setSlot_33 hl (k := 3) rfl (nI_1 k) (by decide) rfl (fun ls hl => ?_)
      refine lv_goto (tgt := 4) hx hb zd_S_setSlot_36 (by decide) ?_
      rw [(show zf_S_setSlot_L4 st p1 (mm + 1) k x2 = zf_S_setSlot_L4 st p1 mm (k + 1) x2 from by rw [zf_S_setSlot_L4, if_pos c_20])]
      exact ih (k + 1) (by omega) x2  _ (lv_sub hl [1, 2, 3, 0] rfl)
    · refine lv_iload_n hx hb zd_S_setSlot_23 rfl (lv_at hl 2 rfl) ?_
      refine lv_iload_n hx hb zd_S_setSlot_24 rfl (lv_at hl 1 rfl) ?_
      refine lv_icmp_ne (tgt := 30) hx hb zd_S_setSlot_25 (by decide) (fun c_25 => ?_) (fun c_25 => ?_)
      · refine lv_iinc (v := x2 + 1) (lv' := [(2, .int (x2 + 1)), (0, .ref a0), (1, .int p1), (3, .int (nI k))]) hx hb zd_S_setSlot_30 hl (k := 2) rfl rfl (by decide) rfl (fun ls hl => ?_)
        refine lv_iinc (v := nI (k + 1)) (lv' := [(3, .int (nI (k + 1))), (2, .int (x2 + 1)), (0, .ref a0), (1, .int p1)]) hx hb zd_S_setSlot_33 hl (k := 3) rfl (nI_1 k) (by decide) rfl (fun ls hl => ?_)
        refine lv_goto (tgt := 4) hx hb zd_S_setSlot_36 (by decide) ?_
        rw [(show zf_S_setSlot_L4 st p1 (mm + 1) k x2 = zf_S_setSlot_L4 st p1 mm (k + 1) (x2 + 1) from by rw [zf_S_setSlot_L4, if_neg c_20, if_neg c_25])]
        exact ih (k + 1) (by omega) (x2 + 1)  _ (lv_sub hl [2, 3, 1, 0] rfl)
      · refine lv_iload_n hx hb zd_S_setSlot_28 rfl (lv_at hl 3 rfl) ?_
        rw [(show zf_S_setSlot_L4 st p1 (mm + 1) k x2 = nI k from by rw [zf_S_setSlot_L4, if_neg c_20, if_pos c_25])]
        exact zz_kiret hx hb hr hlocks zd_S_setSlot_29 rfl
set_option maxHeartbeats 4000000 in
set_option maxRecDepth 100000 in
theorem zc_S_setSlot (l : Launch) (dC : Nat → ClassId) (dI : Nat → Nat → Nat) (cI cZ cL : ClassId) (a0 a1 a2 : Nat) (sz : Nat) (st : zu_S) (p1 : Int32)  : Met l zy_S_setSlot (zz_ws zy_S_setSlot zb_S_setSlot 4 (some .int)) ({ frames := 0, cells := 0, slots := 0, locals := 0 } : Room) (va_Pc ([.ref a0, .int p1] : List Value) (zz_P (dC, dI) (zz_ty cI cZ cL) sz (zw_S cI cZ cL a0 a1 a2 st))) (zz_Ki (zf_S_setSlot st p1)) 0 0 (fun _ => False) := by
  refine zz_ofK (by decide) (Nat.le_of_ble_eq_true rfl) ?_
  intro p e s m below meth c C0 hK hP hD ls hl
  obtain ⟨hx, hb, hr, hml, hown, htB, hlocks, hE⟩ := id C0
  have hl : lv_has ls 4 [(0, .ref a0), (1, .int p1)] := hl
  refine lv_iconst (v := 0) hx hb zd_S_setSlot_0 (by decide) ?_
  refine lv_istore_n (lv' := [(2, .int 0), (0, .ref a0), (1, .int p1)]) hx hb zd_S_setSlot_1 rfl hl (by decide) rfl (fun ls hl => ?_)
  refine lv_iconst (v := 0) hx hb zd_S_setSlot_2 (by decide) ?_
  refine lv_istore_n (lv' := [(3, .int 0), (2, .int 0), (0, .ref a0), (1, .int p1)]) hx hb zd_S_setSlot_3 rfl hl (by decide) rfl (fun ls hl => ?_)
  rw [(show zf_S_setSlot st p1 = zf_S_setSlot_L4 st p1 310 0 0 from by first | rfl | (rw [zf_S_setSlot]))]
  exact zp_S_setSlot_4 dC dI cI cZ cL a0 a1 a2 st p1 C0 hK hP hD 310 0 rfl 0  _ (lv_sub hl [2, 3, 1, 0] rfl)
end
section
set_option maxHeartbeats 4000000 in
set_option maxRecDepth 100000 in
theorem zp_C_find_2 {p : Program} {l : Launch} {e : Env} {s : State} {m : MethodId} {below : List Frame} {meth : Method} {c : Code} (dC : Nat → ClassId) (dI : Nat → Nat → Nat) (cI cZ cL : ClassId) (a0 a1 a2 : Nat) (st : zu_C) (p1 : Int32) (hh : st.2.2 ≤ 20) (C0 : zz_C p s m ([.ref a0, .int p1] : List Value).toArray meth c zb_C_find 3 (some .int) zy_C_find.cls) (hK : va_K (dC, dI) zz_cl (zz_ty cI cZ cL) s) (hP : va_P (dC, dI) zz_cl (zw_C cI cZ cL a0 a1 a2 st) s.heap) (hD : va_D (fun _ => True) (zw_C cI cZ cL a0 a1 a2 st)) :
    ∀ (mm k : Nat), k + mm = st.2.2 → ∀ ls : Array Slot, lv_has ls 3 [(0, .ref a0), (1, .int p1), (2, .int (nI k))] →
    W p l e ({ frames := 0, cells := 0, slots := 0, locals := 0 } : Room) s m ([.ref a0, .int p1] : List Value).toArray below meth c s.heap [] 0 0 (MQ below (zz_Ki (zf_C_find_L2 st p1 mm k)) ([.ref a0, .int p1] : List Value).toArray s 0 0 (fun _ => False)) (F0 m 2 ls []) := by
  obtain ⟨hx, hb, hr, hml, hown, htB, hlocks, hE⟩ := id C0
  intro mm
  induction mm with
  | zero =>
    intro k hk  ls hl
    refine lv_iload_n hx hb zd_C_find_2 rfl (lv_at hl 2 rfl) ?_
    refine lv_aload_n hx hb zd_C_find_3 rfl (lv_at hl 0 rfl) ?_
    refine va_get (D := (dC, dI)) (ci := 2) (v := .int (nI st.2.2)) (C := zr_C) (T := zF_C) (N := 3) hx hb htB zi_C hown hK hP 0 rfl rfl 2 (by decide) (htB _ zk_e0fac5f1) (fun _ h9 => h9) rfl zd_C_find_4 ?_
    refine lv_icmp_ge (tgt := 28) hx hb zd_C_find_7 (by decide) (fun _ => ?_) (fun c_ => absurd (zz_geT (b := st.2.2) rfl (by omega) (by omega)) c_)
    refine lv_iconst (v := (-1)) hx hb zd_C_find_28 (by decide) ?_
    rw [(show zf_C_find_L2 st p1 0 k = (-1) from by first | rfl | (rw [zf_C_find_L2]))]
    exact zz_kiret hx hb hr hlocks zd_C_find_29 rfl
  | succ mm ih =>
    intro k hk  ls hl
    refine lv_iload_n hx hb zd_C_find_2 rfl (lv_at hl 2 rfl) ?_
    refine lv_aload_n hx hb zd_C_find_3 rfl (lv_at hl 0 rfl) ?_
    refine va_get (D := (dC, dI)) (ci := 2) (v := .int (nI st.2.2)) (C := zr_C) (T := zF_C) (N := 3) hx hb htB zi_C hown hK hP 0 rfl rfl 2 (by decide) (htB _ zk_e0fac5f1) (fun _ h9 => h9) rfl zd_C_find_4 ?_
    refine lv_icmp_ge (tgt := 28) hx hb zd_C_find_7 (by decide) (fun c_ => absurd c_ (zz_geF (b := st.2.2) rfl (by omega) (by omega))) (fun _ => ?_)
    refine lv_aload_n hx hb zd_C_find_10 rfl (lv_at hl 0 rfl) ?_
    refine va_get (D := (dC, dI)) (ci := 2) (v := .ref a1) (C := zr_C) (T := zF_C) (N := 3) hx hb htB zi_C hown hK hP 0 rfl rfl 0 (by decide) (htB _ zk_a8e5cdbb) (fun _ h9 => h9) rfl zd_C_find_11 ?_
    refine lv_iload_n hx hb zd_C_find_14 rfl (lv_at hl 2 rfl) ?_
    refine zz_iald hx hb hK hP 1 0 rfl rfl (by omega) (by decide) zd_C_find_15 ?_
    refine lv_iload_n hx hb zd_C_find_16 rfl (lv_at hl 1 rfl) ?_
    refine lv_icmp_ne (tgt := 22) hx hb zd_C_find_17 (by decide) (fun c_17 => ?_) (fun c_17 => ?_)
    · refine lv_iinc (v := nI (k + 1)) (lv' := [(2, .int (nI (k + 1))), (0, .ref a0), (1, .int p1)]) hx hb zd_C_find_22 hl (k := 2) rfl (nI_1 k) (by decide) rfl (fun ls hl => ?_)
      refine lv_goto (tgt := 2) hx hb zd_C_find_25 (by decide) ?_
      rw [(show zf_C_find_L2 st p1 (mm + 1) k = zf_C_find_L2 st p1 mm (k + 1) from by rw [zf_C_find_L2, if_neg c_17])]
      exact ih (k + 1) (by omega)   _ (lv_sub hl [1, 2, 0] rfl)
    · refine lv_iload_n hx hb zd_C_find_20 rfl (lv_at hl 2 rfl) ?_
      rw [(show zf_C_find_L2 st p1 (mm + 1) k = nI k from by rw [zf_C_find_L2, if_pos c_17])]
      exact zz_kiret hx hb hr hlocks zd_C_find_21 rfl
set_option maxHeartbeats 4000000 in
set_option maxRecDepth 100000 in
theorem zc_C_find (l : Launch) (dC : Nat → ClassId) (dI : Nat → Nat → Nat) (cI cZ cL : ClassId) (a0 a1 a2 : Nat) (sz : Nat) (st : zu_C) (p1 : Int32) (hh : st.2.2 ≤ 20) : Met l zy_C_find (zz_ws zy_C_find zb_C_find 3 (some .int)) ({ frames := 0, cells := 0, slots := 0, locals := 0 } : Room) (va_Pc ([.ref a0, .int p1] : List Value) (zz_P (dC, dI) (zz_ty cI cZ cL) sz (zw_C cI cZ cL a0 a1 a2 st))) (zz_Ki (zf_C_find st p1)) 0 0 (fun _ => False) := by
  refine zz_ofK (by decide) (Nat.le_of_ble_eq_true rfl) ?_
  intro p e s m below meth c C0 hK hP hD ls hl
  obtain ⟨hx, hb, hr, hml, hown, htB, hlocks, hE⟩ := id C0
  have hl : lv_has ls 3 [(0, .ref a0), (1, .int p1)] := hl
  refine lv_iconst (v := 0) hx hb zd_C_find_0 (by decide) ?_
  refine lv_istore_n (lv' := [(2, .int 0), (0, .ref a0), (1, .int p1)]) hx hb zd_C_find_1 rfl hl (by decide) rfl (fun ls hl => ?_)
  rw [(show zf_C_find st p1 = zf_C_find_L2 st p1 st.2.2 0 from by first | rfl | (rw [zf_C_find]))]
  exact zp_C_find_2 dC dI cI cZ cL a0 a1 a2 st p1 hh C0 hK hP hD st.2.2 0 (Nat.zero_add _)   _ (lv_sub hl [1, 2, 0] rfl)
set_option maxHeartbeats 4000000 in
set_option maxRecDepth 100000 in
theorem zc_C_tell (l : Launch) (dC : Nat → ClassId) (dI : Nat → Nat → Nat) (cI cZ cL : ClassId) (a0 a1 a2 : Nat) (sz : Nat) (st : zu_C) (p1 : Int32) (p2 : Int32) (hh : st.2.2 ≤ 20) : Met l zy_C_tell (zz_ws zy_C_tell zb_C_tell 4 (some .boolean)) ({ frames := 1, cells := 0, slots := 0, locals := 22 } : Room) (va_Pc ([.ref a0, .int p1, .int p2] : List Value) (zz_P (dC, dI) (zz_ty cI cZ cL) sz (zw_C cI cZ cL a0 a1 a2 st))) (zz_Qi (dC, dI) (zz_ty cI cZ cL) (va_A (zw_C cI cZ cL a0 a1 a2 st) sz) ((zf_C_tell st p1 p2).1) (zw_C cI cZ cL a0 a1 a2 ((zf_C_tell st p1 p2).2))) 0 0 (va_A (zw_C cI cZ cL a0 a1 a2 st) sz) := by
  refine zz_ofW (Q := fun A => (zz_Qi (dC, dI) (zz_ty cI cZ cL) A ((zf_C_tell st p1 p2).1) (zw_C cI cZ cL a0 a1 a2 ((zf_C_tell st p1 p2).2)))) (by decide) (Nat.le_of_ble_eq_true rfl) ?_
  intro p e s m below meth c A C0 _ hA hK hP hD _ ls hl
  obtain ⟨hx, hb, hr, hml, hown, htB, hlocks, hE⟩ := id C0
  have hS : va_S A s.heap s.heap [] := va_S.rf
  have hl : lv_has ls 4 [(0, .ref a0), (1, .int p1), (2, .int p2)] := hl
  refine lv_aload_n hx hb zd_C_tell_0 rfl (lv_at hl 0 rfl) ?_
  refine lv_iload_n hx hb zd_C_tell_1 rfl (lv_at hl 1 rfl) ?_
  refine zz_ki (va_runV (As := [.int p1]) (rest := []) ⟨hx, hb, hml, hown, htB⟩ (zc_C_find l dC dI cI cZ cL a0 a1 a2 s.heap.size st p1 hh) (cwV 1 htB (zz_gV zk_6aa25b7b zk_c68528a2 zk_cb222ee4 zk_e143c677 zk_09d76f48) rfl rfl rfl ⟨rfl, zh_C_find⟩ ⟨Nat.le_of_ble_eq_true rfl, Nat.le_of_ble_eq_true rfl⟩) (zz_preV (ci := 2) (q := (zr_C, zF_C, 3)) hP hD hK hE [0, 1, 2] (by decide) rfl rfl rfl) rfl rfl hl.1 rfl (lv_room (Nat.le_of_ble_eq_true rfl)) zd_C_tell_2 ⟨Nat.le_of_ble_eq_true rfl, Nat.le_of_ble_eq_true rfl⟩) ?_
  refine lv_istore_n (lv' := [(3, .int (zf_C_find st p1)), (0, .ref a0), (1, .int p1), (2, .int p2)]) hx hb zd_C_tell_5 rfl hl (by decide) rfl (fun ls hl => ?_)
  refine lv_iload_n hx hb zd_C_tell_6 rfl (lv_at hl 0 rfl) ?_
  refine lv_iconst (v := (-1)) hx hb zd_C_tell_7 (by decide) ?_
  refine lv_icmp_ne (tgt := 44) hx hb zd_C_tell_8 (by decide) (fun c_8 => ?_) (fun c_8 => ?_)
  · refine lv_aload_n hx hb zd_C_tell_44 rfl (lv_at hl 1 rfl) ?_
    refine va_get (D := (dC, dI)) (ci := 2) (v := .ref a2) (C := zr_C) (T := zF_C) (N := 3) hx hb htB zi_C hown hK hP 0 rfl rfl 1 (by decide) (htB _ zk_ca3ffb47) (fun _ h9 => h9) rfl zd_C_tell_45 ?_
    refine lv_iload_n hx hb zd_C_tell_48 rfl (lv_at hl 0 rfl) ?_
    refine lv_iload_n hx hb zd_C_tell_49 rfl (lv_at hl 3 rfl) ?_
    refine va_iast hx hb hK hP hD hS 2 0 rfl rfl (zx_cfind hh c_8) zd_C_tell_50 (fun H locs hP hD hS => ?_)
    have hP : va_P (dC, dI) zz_cl (zw_C cI cZ cL a0 a1 a2 (st.1, (upd st.2.1 (zf_C_find st p1).toNatClampNeg p2), st.2.2)) H := hP
    have hD : va_D A (zw_C cI cZ cL a0 a1 a2 (st.1, (upd st.2.1 (zf_C_find st p1).toNatClampNeg p2), st.2.2)) := hD
    refine lv_iconst (v := 1) hx hb zd_C_tell_51 (by decide) ?_
    rw [(show zf_C_tell st p1 p2 = (1, (st.1, (upd st.2.1 (zf_C_find st p1).toNatClampNeg p2), st.2.2)) from by rw [zf_C_tell, if_neg c_8])]
    exact zz_zret hx hb hr hlocks narrow_b1 hK hP hD hS zd_C_tell_52 rfl
  · refine lv_aload_n hx hb zd_C_tell_11 rfl (lv_at hl 1 rfl) ?_
    refine va_get (D := (dC, dI)) (ci := 2) (v := .int (nI st.2.2)) (C := zr_C) (T := zF_C) (N := 3) hx hb htB zi_C hown hK hP 0 rfl rfl 2 (by decide) (htB _ zk_e0fac5f1) (fun _ h9 => h9) rfl zd_C_tell_12 ?_
    refine lv_bipush (v := 20) hx hb zd_C_tell_15 (by decide) ?_
    refine lv_icmp_lt (tgt := 22) hx hb zd_C_tell_17 (by decide) (fun c_17 => ?_) (fun c_17 => ?_)
    · refine lv_aload_n hx hb zd_C_tell_22 rfl (lv_at hl 1 rfl) ?_
      refine va_get (D := (dC, dI)) (ci := 2) (v := .int (nI st.2.2)) (C := zr_C) (T := zF_C) (N := 3) hx hb htB zi_C hown hK hP 0 rfl rfl 2 (by decide) (htB _ zk_e0fac5f1) (fun _ h9 => h9) rfl zd_C_tell_23 ?_
      refine lv_istore_n (lv' := [(3, .int (nI st.2.2)), (0, .ref a0), (1, .int p1), (2, .int p2)]) hx hb zd_C_tell_26 rfl hl (by decide) rfl (fun ls hl => ?_)
      refine lv_aload_n hx hb zd_C_tell_27 rfl (lv_at hl 1 rfl) ?_
      refine lv_dup hx hb zd_C_tell_28 rfl ?_
      refine va_get (D := (dC, dI)) (ci := 2) (v := .int (nI st.2.2)) (C := zr_C) (T := zF_C) (N := 3) hx hb htB zi_C hown hK hP 0 rfl rfl 2 (by decide) (htB _ zk_e0fac5f1) (fun _ h9 => h9) rfl zd_C_tell_29 ?_
      refine lv_iconst (v := 1) hx hb zd_C_tell_32 (by decide) ?_
      refine lv_iadd hx hb zd_C_tell_33 ?_
      rw [nI_1 st.2.2]
      refine va_put (D := (dC, dI)) (ci := 2) (v := .int (nI (st.2.2 + 1))) (C := zr_C) (T := zF_C) (N := 3) hx hb htB zi_C zT_C zT_C_ok zn_C hown hK hP hD hS 0 rfl rfl 2 (by decide) (htB _ zk_e0fac5f1) (fun _ h9 => h9) rfl (zT_C_ok 2 (by decide)) rfl rfl (Nat.le_of_ble_eq_true rfl) zd_C_tell_34 (fun H locs hP hD hS => ?_)
      have hP : va_P (dC, dI) zz_cl (zw_C cI cZ cL a0 a1 a2 (st.1, st.2.1, (st.2.2 + 1))) H := hP
      have hD : va_D A (zw_C cI cZ cL a0 a1 a2 (st.1, st.2.1, (st.2.2 + 1))) := hD
      refine lv_aload_n hx hb zd_C_tell_37 rfl (lv_at hl 1 rfl) ?_
      refine va_get (D := (dC, dI)) (ci := 2) (v := .ref a1) (C := zr_C) (T := zF_C) (N := 3) hx hb htB zi_C hown hK hP 0 rfl rfl 0 (by decide) (htB _ zk_a8e5cdbb) (fun _ h9 => h9) rfl zd_C_tell_38 ?_
      refine lv_iload_n hx hb zd_C_tell_41 rfl (lv_at hl 0 rfl) ?_
      refine lv_iload_n hx hb zd_C_tell_42 rfl (lv_at hl 2 rfl) ?_
      refine zz_iast hx hb hK hP hD hS 1 0 rfl rfl (zx_h20 hh c_17) (by decide) zd_C_tell_43 (fun H locs hP hD hS => ?_)
      have hP : va_P (dC, dI) zz_cl (zw_C cI cZ cL a0 a1 a2 ((upd st.1 st.2.2 p1), st.2.1, (st.2.2 + 1))) H := hP
      have hD : va_D A (zw_C cI cZ cL a0 a1 a2 ((upd st.1 st.2.2 p1), st.2.1, (st.2.2 + 1))) := hD
      refine lv_aload_n hx hb zd_C_tell_44 rfl (lv_at hl 1 rfl) ?_
      refine va_get (D := (dC, dI)) (ci := 2) (v := .ref a2) (C := zr_C) (T := zF_C) (N := 3) hx hb htB zi_C hown hK hP 0 rfl rfl 1 (by decide) (htB _ zk_ca3ffb47) (fun _ h9 => h9) rfl zd_C_tell_45 ?_
      refine lv_iload_n hx hb zd_C_tell_48 rfl (lv_at hl 0 rfl) ?_
      refine lv_iload_n hx hb zd_C_tell_49 rfl (lv_at hl 3 rfl) ?_
      refine zz_iast hx hb hK hP hD hS 2 0 rfl rfl (zx_h20 hh c_17) (by decide) zd_C_tell_50 (fun H locs hP hD hS => ?_)
      have hP : va_P (dC, dI) zz_cl (zw_C cI cZ cL a0 a1 a2 ((upd st.1 st.2.2 p1), (upd st.2.1 st.2.2 p2), (st.2.2 + 1))) H := hP
      have hD : va_D A (zw_C cI cZ cL a0 a1 a2 ((upd st.1 st.2.2 p1), (upd st.2.1 st.2.2 p2), (st.2.2 + 1))) := hD
      refine lv_iconst (v := 1) hx hb zd_C_tell_51 (by decide) ?_
      rw [(show zf_C_tell st p1 p2 = (1, ((upd st.1 st.2.2 p1), (upd st.2.1 st.2.2 p2), (st.2.2 + 1))) from by rw [zf_C_tell, if_pos c_8, if_pos c_17])]
      exact zz_zret hx hb hr hlocks narrow_b1 hK hP hD hS zd_C_tell_52 rfl
    · refine lv_iconst (v := 0) hx hb zd_C_tell_20 (by decide) ?_
      rw [(show zf_C_tell st p1 p2 = (0, st) from by rw [zf_C_tell, if_pos c_8, if_neg c_17])]
      exact zz_zret hx hb hr hlocks narrow_b0 hK hP hD hS zd_C_tell_21 rfl
set_option maxHeartbeats 4000000 in
set_option maxRecDepth 100000 in
theorem zc_C_isGood (l : Launch) (dC : Nat → ClassId) (dI : Nat → Nat → Nat) (cI cZ cL : ClassId) (a0 a1 a2 : Nat) (sz : Nat) (st : zu_C) (p1 : Int32) (p2 : Int32) (hh : st.2.2 ≤ 20) : Met l zy_C_isGood (zz_ws zy_C_isGood zb_C_isGood 4 (some .boolean)) ({ frames := 1, cells := 0, slots := 0, locals := 22 } : Room) (va_Pc ([.ref a0, .int p1, .int p2] : List Value) (zz_P (dC, dI) (zz_ty cI cZ cL) sz (zw_C cI cZ cL a0 a1 a2 st))) (zz_Ki (zf_C_isGood st p1 p2)) 0 0 (fun _ => False) := by
  refine zz_ofK (by decide) (Nat.le_of_ble_eq_true rfl) ?_
  intro p e s m below meth c C0 hK hP hD ls hl
  obtain ⟨hx, hb, hr, hml, hown, htB, hlocks, hE⟩ := id C0
  have hl : lv_has ls 4 [(0, .ref a0), (1, .int p1), (2, .int p2)] := hl
  refine lv_aload_n hx hb zd_C_isGood_0 rfl (lv_at hl 0 rfl) ?_
  refine lv_iload_n hx hb zd_C_isGood_1 rfl (lv_at hl 1 rfl) ?_
  refine zz_ki (va_runV (As := [.int p1]) (rest := []) ⟨hx, hb, hml, hown, htB⟩ (zc_C_find l dC dI cI cZ cL a0 a1 a2 s.heap.size st p1 hh) (cwV 1 htB (zz_gV zk_6aa25b7b zk_c68528a2 zk_cb222ee4 zk_e143c677 zk_09d76f48) rfl rfl rfl ⟨rfl, zh_C_find⟩ ⟨Nat.le_of_ble_eq_true rfl, Nat.le_of_ble_eq_true rfl⟩) (zz_preV (ci := 2) (q := (zr_C, zF_C, 3)) hP hD hK hE [0, 1, 2] (by decide) rfl rfl rfl) rfl rfl hl.1 rfl (lv_room (Nat.le_of_ble_eq_true rfl)) zd_C_isGood_2 ⟨Nat.le_of_ble_eq_true rfl, Nat.le_of_ble_eq_true rfl⟩) ?_
  refine lv_istore_n (lv' := [(3, .int (zf_C_find st p1)), (0, .ref a0), (1, .int p1), (2, .int p2)]) hx hb zd_C_isGood_5 rfl hl (by decide) rfl (fun ls hl => ?_)
  refine lv_iload_n hx hb zd_C_isGood_6 rfl (lv_at hl 0 rfl) ?_
  refine lv_iconst (v := (-1)) hx hb zd_C_isGood_7 (by decide) ?_
  refine lv_icmp_eq (tgt := 25) hx hb zd_C_isGood_8 (by decide) (fun c_8 => ?_) (fun c_8 => ?_)
  · refine lv_iconst (v := 0) hx hb zd_C_isGood_25 (by decide) ?_
    rw [(show zf_C_isGood st p1 p2 = 0 from by rw [zf_C_isGood, if_pos c_8])]
    exact zz_kzret hx hb hr hlocks narrow_b0 zd_C_isGood_26 rfl
  · refine lv_aload_n hx hb zd_C_isGood_11 rfl (lv_at hl 1 rfl) ?_
    refine va_get (D := (dC, dI)) (ci := 2) (v := .ref a2) (C := zr_C) (T := zF_C) (N := 3) hx hb htB zi_C hown hK hP 0 rfl rfl 1 (by decide) (htB _ zk_ca3ffb47) (fun _ h9 => h9) rfl zd_C_isGood_12 ?_
    refine lv_iload_n hx hb zd_C_isGood_15 rfl (lv_at hl 0 rfl) ?_
    refine va_iald hx hb hK hP 2 0 rfl rfl (zx_cfind hh c_8) zd_C_isGood_16 ?_
    refine lv_iload_n hx hb zd_C_isGood_17 rfl (lv_at hl 3 rfl) ?_
    refine lv_icmp_lt (tgt := 25) hx hb zd_C_isGood_18 (by decide) (fun c_18 => ?_) (fun c_18 => ?_)
    · refine lv_iconst (v := 0) hx hb zd_C_isGood_25 (by decide) ?_
      rw [(show zf_C_isGood st p1 p2 = 0 from by rw [zf_C_isGood, if_neg c_8, if_pos c_18])]
      exact zz_kzret hx hb hr hlocks narrow_b0 zd_C_isGood_26 rfl
    · refine lv_iconst (v := 1) hx hb zd_C_isGood_21 (by decide) ?_
      refine lv_goto (tgt := 26) hx hb zd_C_isGood_22 (by decide) ?_
      rw [(show zf_C_isGood st p1 p2 = 1 from by rw [zf_C_isGood, if_neg c_8, if_neg c_18])]
      exact zz_kzret hx hb hr hlocks narrow_b1 zd_C_isGood_26 rfl
set_option maxHeartbeats 4000000 in
set_option maxRecDepth 100000 in
theorem zp_C_goodCount_4 {p : Program} {l : Launch} {e : Env} {s : State} {m : MethodId} {below : List Frame} {meth : Method} {c : Code} (dC : Nat → ClassId) (dI : Nat → Nat → Nat) (cI cZ cL : ClassId) (a0 a1 a2 : Nat) (st : zu_C) (p1 : Int32) (hh : st.2.2 ≤ 20) (C0 : zz_C p s m ([.ref a0, .int p1] : List Value).toArray meth c zb_C_goodCount 4 (some .int) zy_C_goodCount.cls) (hK : va_K (dC, dI) zz_cl (zz_ty cI cZ cL) s) (hP : va_P (dC, dI) zz_cl (zw_C cI cZ cL a0 a1 a2 st) s.heap) (hD : va_D (fun _ => True) (zw_C cI cZ cL a0 a1 a2 st)) :
    ∀ (mm k : Nat), k + mm = st.2.2 → ∀ (x2 : Int32), ∀ ls : Array Slot, lv_has ls 4 [(0, .ref a0), (1, .int p1), (2, .int x2), (3, .int (nI k))] →
    W p l e ({ frames := 0, cells := 0, slots := 0, locals := 0 } : Room) s m ([.ref a0, .int p1] : List Value).toArray below meth c s.heap [] 0 0 (MQ below (zz_Ki (zf_C_goodCount_L4 st p1 mm k x2)) ([.ref a0, .int p1] : List Value).toArray s 0 0 (fun _ => False)) (F0 m 4 ls []) := by
  obtain ⟨hx, hb, hr, hml, hown, htB, hlocks, hE⟩ := id C0
  intro mm
  induction mm with
  | zero =>
    intro k hk x2 ls hl
    refine lv_iload_n hx hb zd_C_goodCount_4 rfl (lv_at hl 3 rfl) ?_
    refine lv_aload_n hx hb zd_C_goodCount_5 rfl (lv_at hl 0 rfl) ?_
    refine va_get (D := (dC, dI)) (ci := 2) (v := .int (nI st.2.2)) (C := zr_C) (T := zF_C) (N := 3) hx hb htB zi_C hown hK hP 0 rfl rfl 2 (by decide) (htB _ zk_e0fac5f1) (fun _ h9 => h9) rfl zd_C_goodCount_6 ?_
    refine lv_icmp_ge (tgt := 31) hx hb zd_C_goodCount_9 (by decide) (fun _ => ?_) (fun c_ => absurd (zz_geT (b := st.2.2) rfl (by omega) (by omega)) c_)
    refine lv_iload_n hx hb zd_C_goodCount_31 rfl (lv_at hl 2 rfl) ?_
    rw [(show zf_C_goodCount_L4 st p1 0 k x2 = x2 from by first | rfl | (rw [zf_C_goodCount_L4]))]
    exact zz_kiret hx hb hr hlocks zd_C_goodCount_32 rfl
  | succ mm ih =>
    intro k hk x2 ls hl
    refine lv_iload_n hx hb zd_C_goodCount_4 rfl (lv_at hl 3 rfl) ?_
    refine lv_aload_n hx hb zd_C_goodCount_5 rfl (lv_at hl 0 rfl) ?_
    refine va_get (D := (dC, dI)) (ci := 2) (v := .int (nI st.2.2)) (C := zr_C) (T := zF_C) (N := 3) hx hb htB zi_C hown hK hP 0 rfl rfl 2 (by decide) (htB _ zk_e0fac5f1) (fun _ h9 => h9) rfl zd_C_goodCount_6 ?_
    refine lv_icmp_ge (tgt := 31) hx hb zd_C_goodCount_9 (by decide) (fun c_ => absurd c_ (zz_geF (b := st.2.2) rfl (by omega) (by omega))) (fun _ => ?_)
    refine lv_aload_n hx hb zd_C_goodCount_12 rfl (lv_at hl 0 rfl) ?_
    refine va_get (D := (dC, dI)) (ci := 2) (v := .ref a2) (C := zr_C) (T := zF_C) (N := 3) hx hb htB zi_C hown hK hP 0 rfl rfl 1 (by decide) (htB _ zk_ca3ffb47) (fun _ h9 => h9) rfl zd_C_goodCount_13 ?_
    refine lv_iload_n hx hb zd_C_goodCount_16 rfl (lv_at hl 3 rfl) ?_
    refine zz_iald hx hb hK hP 2 0 rfl rfl (by omega) (by decide) zd_C_goodCount_17 ?_
    refine lv_iload_n hx hb zd_C_goodCount_18 rfl (lv_at hl 1 rfl) ?_
    refine lv_icmp_lt (tgt := 25) hx hb zd_C_goodCount_19 (by decide) (fun c_19 => ?_) (fun c_19 => ?_)
    · refine lv_iinc (v := nI (k + 1)) (lv' := [(3, .int (nI (k + 1))), (0, .ref a0), (1, .int p1), (2, .int x2)]) hx hb zd_C_goodCount_25 hl (k := 3) rfl (nI_1 k) (by decide) rfl (fun ls hl => ?_)
      refine lv_goto (tgt := 4) hx hb zd_C_goodCount_28 (by decide) ?_
      rw [(show zf_C_goodCount_L4 st p1 (mm + 1) k x2 = zf_C_goodCount_L4 st p1 mm (k + 1) x2 from by rw [zf_C_goodCount_L4, if_pos c_19])]
      exact ih (k + 1) (by omega) x2  _ (lv_sub hl [1, 2, 3, 0] rfl)
    · refine lv_iinc (v := x2 + 1) (lv' := [(2, .int (x2 + 1)), (0, .ref a0), (1, .int p1), (3, .int (nI k))]) hx hb zd_C_goodCount_22 hl (k := 2) rfl rfl (by decide) rfl (fun ls hl => ?_)
      refine lv_iinc (v := nI (k + 1)) (lv' := [(3, .int (nI (k + 1))), (2, .int (x2 + 1)), (0, .ref a0), (1, .int p1)]) hx hb zd_C_goodCount_25 hl (k := 3) rfl (nI_1 k) (by decide) rfl (fun ls hl => ?_)
      refine lv_goto (tgt := 4) hx hb zd_C_goodCount_28 (by decide) ?_
      rw [(show zf_C_goodCount_L4 st p1 (mm + 1) k x2 = zf_C_goodCount_L4 st p1 mm (k + 1) (x2 + 1) from by rw [zf_C_goodCount_L4, if_neg c_19])]
      exact ih (k + 1) (by omega) (x2 + 1)  _ (lv_sub hl [2, 3, 1, 0] rfl)
set_option maxHeartbeats 4000000 in
set_option maxRecDepth 100000 in
theorem zc_C_goodCount (l : Launch) (dC : Nat → ClassId) (dI : Nat → Nat → Nat) (cI cZ cL : ClassId) (a0 a1 a2 : Nat) (sz : Nat) (st : zu_C) (p1 : Int32) (hh : st.2.2 ≤ 20) : Met l zy_C_goodCount (zz_ws zy_C_goodCount zb_C_goodCount 4 (some .int)) ({ frames := 0, cells := 0, slots := 0, locals := 0 } : Room) (va_Pc ([.ref a0, .int p1] : List Value) (zz_P (dC, dI) (zz_ty cI cZ cL) sz (zw_C cI cZ cL a0 a1 a2 st))) (zz_Ki (zf_C_goodCount st p1)) 0 0 (fun _ => False) := by
  refine zz_ofK (by decide) (Nat.le_of_ble_eq_true rfl) ?_
  intro p e s m below meth c C0 hK hP hD ls hl
  obtain ⟨hx, hb, hr, hml, hown, htB, hlocks, hE⟩ := id C0
  have hl : lv_has ls 4 [(0, .ref a0), (1, .int p1)] := hl
  refine lv_iconst (v := 0) hx hb zd_C_goodCount_0 (by decide) ?_
  refine lv_istore_n (lv' := [(2, .int 0), (0, .ref a0), (1, .int p1)]) hx hb zd_C_goodCount_1 rfl hl (by decide) rfl (fun ls hl => ?_)
  refine lv_iconst (v := 0) hx hb zd_C_goodCount_2 (by decide) ?_
  refine lv_istore_n (lv' := [(3, .int 0), (2, .int 0), (0, .ref a0), (1, .int p1)]) hx hb zd_C_goodCount_3 rfl hl (by decide) rfl (fun ls hl => ?_)
  rw [(show zf_C_goodCount st p1 = zf_C_goodCount_L4 st p1 st.2.2 0 0 from by first | rfl | (rw [zf_C_goodCount]))]
  exact zp_C_goodCount_4 dC dI cI cZ cL a0 a1 a2 st p1 hh C0 hK hP hD st.2.2 0 (Nat.zero_add _) 0  _ (lv_sub hl [2, 3, 1, 0] rfl)
set_option maxHeartbeats 4000000 in
set_option maxRecDepth 100000 in
theorem zc_P_size (l : Launch) (dC : Nat → ClassId) (dI : Nat → Nat → Nat) (cI cZ cL : ClassId) (a0 a1 a2 a3 : Nat) (sz : Nat) (st : zu_P)  : Met l zy_P_size (zz_ws zy_P_size zb_P_size 1 (some .int)) ({ frames := 0, cells := 0, slots := 0, locals := 0 } : Room) (va_Pc ([.ref a0] : List Value) (zz_P (dC, dI) (zz_ty cI cZ cL) sz (zw_P cI cZ cL a0 a1 a2 a3 st))) (zz_Ki (zf_P_size st)) 0 0 (fun _ => False) := by
  refine zz_ofK (by decide) (Nat.le_of_ble_eq_true rfl) ?_
  intro p e s m below meth c C0 hK hP hD ls hl
  obtain ⟨hx, hb, hr, hml, hown, htB, hlocks, hE⟩ := id C0
  have hl : lv_has ls 1 [(0, .ref a0)] := hl
  refine lv_aload_n hx hb zd_P_size_0 rfl (lv_at hl 0 rfl) ?_
  refine va_get (D := (dC, dI)) (ci := 3) (v := .int (nI st.2.2.2)) (C := zr_P) (T := zF_P) (N := 4) hx hb htB zi_P hown hK hP 0 rfl rfl 3 (by decide) (htB _ zk_3b4f7965) (fun _ h9 => h9) rfl zd_P_size_1 ?_
  rw [(show zf_P_size st = nI st.2.2.2 from by first | rfl | (rw [zf_P_size]))]
  exact zz_kiret hx hb hr hlocks zd_P_size_4 rfl
set_option maxHeartbeats 4000000 in
set_option maxRecDepth 100000 in
theorem zp_P_find_2 {p : Program} {l : Launch} {e : Env} {s : State} {m : MethodId} {below : List Frame} {meth : Method} {c : Code} (dC : Nat → ClassId) (dI : Nat → Nat → Nat) (cI cZ cL : ClassId) (a0 a1 a2 a3 : Nat) (st : zu_P) (p1 : Int32) (hh : st.2.2.2 ≤ 20) (C0 : zz_C p s m ([.ref a0, .int p1] : List Value).toArray meth c zb_P_find 3 (some .int) zy_P_find.cls) (hK : va_K (dC, dI) zz_cl (zz_ty cI cZ cL) s) (hP : va_P (dC, dI) zz_cl (zw_P cI cZ cL a0 a1 a2 a3 st) s.heap) (hD : va_D (fun _ => True) (zw_P cI cZ cL a0 a1 a2 a3 st)) :
    ∀ (mm k : Nat), k + mm = st.2.2.2 → ∀ ls : Array Slot, lv_has ls 3 [(0, .ref a0), (1, .int p1), (2, .int (nI k))] →
    W p l e ({ frames := 0, cells := 0, slots := 0, locals := 0 } : Room) s m ([.ref a0, .int p1] : List Value).toArray below meth c s.heap [] 0 0 (MQ below (zz_Ki (zf_P_find_L2 st p1 mm k)) ([.ref a0, .int p1] : List Value).toArray s 0 0 (fun _ => False)) (F0 m 2 ls []) := by
  obtain ⟨hx, hb, hr, hml, hown, htB, hlocks, hE⟩ := id C0
  intro mm
  induction mm with
  | zero =>
    intro k hk  ls hl
    refine lv_iload_n hx hb zd_P_find_2 rfl (lv_at hl 2 rfl) ?_
    refine lv_aload_n hx hb zd_P_find_3 rfl (lv_at hl 0 rfl) ?_
    refine va_get (D := (dC, dI)) (ci := 3) (v := .int (nI st.2.2.2)) (C := zr_P) (T := zF_P) (N := 4) hx hb htB zi_P hown hK hP 0 rfl rfl 3 (by decide) (htB _ zk_3b4f7965) (fun _ h9 => h9) rfl zd_P_find_4 ?_
    refine lv_icmp_ge (tgt := 28) hx hb zd_P_find_7 (by decide) (fun _ => ?_) (fun c_ => absurd (zz_geT (b := st.2.2.2) rfl (by omega) (by omega)) c_)
    refine lv_iconst (v := (-1)) hx hb zd_P_find_28 (by decide) ?_
    rw [(show zf_P_find_L2 st p1 0 k = (-1) from by first | rfl | (rw [zf_P_find_L2]))]
    exact zz_kiret hx hb hr hlocks zd_P_find_29 rfl
  | succ mm ih =>
    intro k hk  ls hl
    refine lv_iload_n hx hb zd_P_find_2 rfl (lv_at hl 2 rfl) ?_
    refine lv_aload_n hx hb zd_P_find_3 rfl (lv_at hl 0 rfl) ?_
    refine va_get (D := (dC, dI)) (ci := 3) (v := .int (nI st.2.2.2)) (C := zr_P) (T := zF_P) (N := 4) hx hb htB zi_P hown hK hP 0 rfl rfl 3 (by decide) (htB _ zk_3b4f7965) (fun _ h9 => h9) rfl zd_P_find_4 ?_
    refine lv_icmp_ge (tgt := 28) hx hb zd_P_find_7 (by decide) (fun c_ => absurd c_ (zz_geF (b := st.2.2.2) rfl (by omega) (by omega))) (fun _ => ?_)
    refine lv_aload_n hx hb zd_P_find_10 rfl (lv_at hl 0 rfl) ?_
    refine va_get (D := (dC, dI)) (ci := 3) (v := .ref a1) (C := zr_P) (T := zF_P) (N := 4) hx hb htB zi_P hown hK hP 0 rfl rfl 0 (by decide) (htB _ zk_9516c5fd) (fun _ h9 => h9) rfl zd_P_find_11 ?_
    refine lv_iload_n hx hb zd_P_find_14 rfl (lv_at hl 2 rfl) ?_
    refine zz_iald hx hb hK hP 1 0 rfl rfl (by omega) (by decide) zd_P_find_15 ?_
    refine lv_iload_n hx hb zd_P_find_16 rfl (lv_at hl 1 rfl) ?_
    refine lv_icmp_ne (tgt := 22) hx hb zd_P_find_17 (by decide) (fun c_17 => ?_) (fun c_17 => ?_)
    · refine lv_iinc (v := nI (k + 1)) (lv' := [(2, .int (nI (k + 1))), (0, .ref a0), (1, .int p1)]) hx hb zd_P_find_22 hl (k := 2) rfl (nI_1 k) (by decide) rfl (fun ls hl => ?_)
      refine lv_goto (tgt := 2) hx hb zd_P_find_25 (by decide) ?_
      rw [(show zf_P_find_L2 st p1 (mm + 1) k = zf_P_find_L2 st p1 mm (k + 1) from by rw [zf_P_find_L2, if_neg c_17])]
      exact ih (k + 1) (by omega)   _ (lv_sub hl [1, 2, 0] rfl)
    · refine lv_iload_n hx hb zd_P_find_20 rfl (lv_at hl 2 rfl) ?_
      rw [(show zf_P_find_L2 st p1 (mm + 1) k = nI k from by rw [zf_P_find_L2, if_pos c_17])]
      exact zz_kiret hx hb hr hlocks zd_P_find_21 rfl
set_option maxHeartbeats 4000000 in
set_option maxRecDepth 100000 in
theorem zc_P_find (l : Launch) (dC : Nat → ClassId) (dI : Nat → Nat → Nat) (cI cZ cL : ClassId) (a0 a1 a2 a3 : Nat) (sz : Nat) (st : zu_P) (p1 : Int32) (hh : st.2.2.2 ≤ 20) : Met l zy_P_find (zz_ws zy_P_find zb_P_find 3 (some .int)) ({ frames := 0, cells := 0, slots := 0, locals := 0 } : Room) (va_Pc ([.ref a0, .int p1] : List Value) (zz_P (dC, dI) (zz_ty cI cZ cL) sz (zw_P cI cZ cL a0 a1 a2 a3 st))) (zz_Ki (zf_P_find st p1)) 0 0 (fun _ => False) := by
  refine zz_ofK (by decide) (Nat.le_of_ble_eq_true rfl) ?_
  intro p e s m below meth c C0 hK hP hD ls hl
  obtain ⟨hx, hb, hr, hml, hown, htB, hlocks, hE⟩ := id C0
  have hl : lv_has ls 3 [(0, .ref a0), (1, .int p1)] := hl
  refine lv_iconst (v := 0) hx hb zd_P_find_0 (by decide) ?_
  refine lv_istore_n (lv' := [(2, .int 0), (0, .ref a0), (1, .int p1)]) hx hb zd_P_find_1 rfl hl (by decide) rfl (fun ls hl => ?_)
  rw [(show zf_P_find st p1 = zf_P_find_L2 st p1 st.2.2.2 0 from by first | rfl | (rw [zf_P_find]))]
  exact zp_P_find_2 dC dI cI cZ cL a0 a1 a2 a3 st p1 hh C0 hK hP hD st.2.2.2 0 (Nat.zero_add _)   _ (lv_sub hl [1, 2, 0] rfl)
set_option maxHeartbeats 4000000 in
set_option maxRecDepth 100000 in
theorem zc_P_register (l : Launch) (dC : Nat → ClassId) (dI : Nat → Nat → Nat) (cI cZ cL : ClassId) (a0 a1 a2 a3 : Nat) (sz : Nat) (st : zu_P) (p1 : Int32) (p2 : Int32) (hh : st.2.2.2 ≤ 20) : Met l zy_P_register (zz_ws zy_P_register zb_P_register 3 (some .boolean)) ({ frames := 1, cells := 0, slots := 0, locals := 22 } : Room) (va_Pc ([.ref a0, .int p1, .int p2] : List Value) (zz_P (dC, dI) (zz_ty cI cZ cL) sz (zw_P cI cZ cL a0 a1 a2 a3 st))) (zz_Qi (dC, dI) (zz_ty cI cZ cL) (va_A (zw_P cI cZ cL a0 a1 a2 a3 st) sz) ((zf_P_register st p1 p2).1) (zw_P cI cZ cL a0 a1 a2 a3 ((zf_P_register st p1 p2).2))) 0 0 (va_A (zw_P cI cZ cL a0 a1 a2 a3 st) sz) := by
  refine zz_ofW (Q := fun A => (zz_Qi (dC, dI) (zz_ty cI cZ cL) A ((zf_P_register st p1 p2).1) (zw_P cI cZ cL a0 a1 a2 a3 ((zf_P_register st p1 p2).2)))) (by decide) (Nat.le_of_ble_eq_true rfl) ?_
  intro p e s m below meth c A C0 _ hA hK hP hD _ ls hl
  obtain ⟨hx, hb, hr, hml, hown, htB, hlocks, hE⟩ := id C0
  have hS : va_S A s.heap s.heap [] := va_S.rf
  have hl : lv_has ls 3 [(0, .ref a0), (1, .int p1), (2, .int p2)] := hl
  refine lv_aload_n hx hb zd_P_register_0 rfl (lv_at hl 0 rfl) ?_
  refine va_get (D := (dC, dI)) (ci := 3) (v := .int (nI st.2.2.2)) (C := zr_P) (T := zF_P) (N := 4) hx hb htB zi_P hown hK hP 0 rfl rfl 3 (by decide) (htB _ zk_3b4f7965) (fun _ h9 => h9) rfl zd_P_register_1 ?_
  refine lv_bipush (v := 20) hx hb zd_P_register_4 (by decide) ?_
  refine lv_icmp_ge (tgt := 18) hx hb zd_P_register_6 (by decide) (fun c_6 => ?_) (fun c_6 => ?_)
  · refine lv_iconst (v := 0) hx hb zd_P_register_18 (by decide) ?_
    rw [(show zf_P_register st p1 p2 = (0, st) from by rw [zf_P_register, if_pos c_6])]
    exact zz_zret hx hb hr hlocks narrow_b0 hK hP hD hS zd_P_register_19 rfl
  · refine lv_aload_n hx hb zd_P_register_9 rfl (lv_at hl 0 rfl) ?_
    refine lv_iload_n hx hb zd_P_register_10 rfl (lv_at hl 1 rfl) ?_
    refine zz_ki (va_runV (As := [.int p1]) (rest := []) ⟨hx, hb, hml, hown, htB⟩ (zc_P_find l dC dI cI cZ cL a0 a1 a2 a3 s.heap.size st p1 hh) (cwV 1 htB (zz_gV zk_ae2cc950 zk_260dcf75 zk_9eb9dfdc zk_f301a5bc zk_94b92128) rfl rfl rfl ⟨rfl, zh_P_find⟩ ⟨Nat.le_of_ble_eq_true rfl, Nat.le_of_ble_eq_true rfl⟩) (zz_preV (ci := 3) (q := (zr_P, zF_P, 4)) hP hD hK hE [0, 1, 2, 3] (by decide) rfl rfl rfl) rfl rfl hl.1 rfl (lv_room (Nat.le_of_ble_eq_true rfl)) zd_P_register_11 ⟨Nat.le_of_ble_eq_true rfl, Nat.le_of_ble_eq_true rfl⟩) ?_
    refine lv_iconst (v := (-1)) hx hb zd_P_register_14 (by decide) ?_
    refine lv_icmp_eq (tgt := 20) hx hb zd_P_register_15 (by decide) (fun c_15 => ?_) (fun c_15 => ?_)
    · refine lv_aload_n hx hb zd_P_register_20 rfl (lv_at hl 0 rfl) ?_
      refine va_get (D := (dC, dI)) (ci := 3) (v := .ref a1) (C := zr_P) (T := zF_P) (N := 4) hx hb htB zi_P hown hK hP 0 rfl rfl 0 (by decide) (htB _ zk_9516c5fd) (fun _ h9 => h9) rfl zd_P_register_21 ?_
      refine lv_aload_n hx hb zd_P_register_24 rfl (lv_at hl 0 rfl) ?_
      refine va_get (D := (dC, dI)) (ci := 3) (v := .int (nI st.2.2.2)) (C := zr_P) (T := zF_P) (N := 4) hx hb htB zi_P hown hK hP 0 rfl rfl 3 (by decide) (htB _ zk_3b4f7965) (fun _ h9 => h9) rfl zd_P_register_25 ?_
      refine lv_iload_n hx hb zd_P_register_28 rfl (lv_at hl 1 rfl) ?_
      refine zz_iast hx hb hK hP hD hS 1 0 rfl rfl (zx_h20n hh c_6) (by decide) zd_P_register_29 (fun H locs hP hD hS => ?_)
      have hP : va_P (dC, dI) zz_cl (zw_P cI cZ cL a0 a1 a2 a3 ((upd st.1 st.2.2.2 p1), st.2.1, st.2.2.1, st.2.2.2)) H := hP
      have hD : va_D A (zw_P cI cZ cL a0 a1 a2 a3 ((upd st.1 st.2.2.2 p1), st.2.1, st.2.2.1, st.2.2.2)) := hD
      refine lv_aload_n hx hb zd_P_register_30 rfl (lv_at hl 0 rfl) ?_
      refine va_get (D := (dC, dI)) (ci := 3) (v := .ref a2) (C := zr_P) (T := zF_P) (N := 4) hx hb htB zi_P hown hK hP 0 rfl rfl 1 (by decide) (htB _ zk_39cf8cfd) (fun _ h9 => h9) rfl zd_P_register_31 ?_
      refine lv_aload_n hx hb zd_P_register_34 rfl (lv_at hl 0 rfl) ?_
      refine va_get (D := (dC, dI)) (ci := 3) (v := .int (nI st.2.2.2)) (C := zr_P) (T := zF_P) (N := 4) hx hb htB zi_P hown hK hP 0 rfl rfl 3 (by decide) (htB _ zk_3b4f7965) (fun _ h9 => h9) rfl zd_P_register_35 ?_
      refine lv_iload_n hx hb zd_P_register_38 rfl (lv_at hl 2 rfl) ?_
      refine zz_iast hx hb hK hP hD hS 2 0 rfl rfl (zx_h20n hh c_6) (by decide) zd_P_register_39 (fun H locs hP hD hS => ?_)
      have hP : va_P (dC, dI) zz_cl (zw_P cI cZ cL a0 a1 a2 a3 ((upd st.1 st.2.2.2 p1), (upd st.2.1 st.2.2.2 p2), st.2.2.1, st.2.2.2)) H := hP
      have hD : va_D A (zw_P cI cZ cL a0 a1 a2 a3 ((upd st.1 st.2.2.2 p1), (upd st.2.1 st.2.2.2 p2), st.2.2.1, st.2.2.2)) := hD
      refine lv_aload_n hx hb zd_P_register_40 rfl (lv_at hl 0 rfl) ?_
      refine lv_dup hx hb zd_P_register_41 rfl ?_
      refine va_get (D := (dC, dI)) (ci := 3) (v := .int (nI st.2.2.2)) (C := zr_P) (T := zF_P) (N := 4) hx hb htB zi_P hown hK hP 0 rfl rfl 3 (by decide) (htB _ zk_3b4f7965) (fun _ h9 => h9) rfl zd_P_register_42 ?_
      refine lv_iconst (v := 1) hx hb zd_P_register_45 (by decide) ?_
      refine lv_iadd hx hb zd_P_register_46 ?_
      rw [nI_1 st.2.2.2]
      refine va_put (D := (dC, dI)) (ci := 3) (v := .int (nI (st.2.2.2 + 1))) (C := zr_P) (T := zF_P) (N := 4) hx hb htB zi_P zT_P zT_P_ok zn_P hown hK hP hD hS 0 rfl rfl 3 (by decide) (htB _ zk_3b4f7965) (fun _ h9 => h9) rfl (zT_P_ok 3 (by decide)) rfl rfl (Nat.le_of_ble_eq_true rfl) zd_P_register_47 (fun H locs hP hD hS => ?_)
      have hP : va_P (dC, dI) zz_cl (zw_P cI cZ cL a0 a1 a2 a3 ((upd st.1 st.2.2.2 p1), (upd st.2.1 st.2.2.2 p2), st.2.2.1, (st.2.2.2 + 1))) H := hP
      have hD : va_D A (zw_P cI cZ cL a0 a1 a2 a3 ((upd st.1 st.2.2.2 p1), (upd st.2.1 st.2.2.2 p2), st.2.2.1, (st.2.2.2 + 1))) := hD
      refine lv_iconst (v := 1) hx hb zd_P_register_50 (by decide) ?_
      rw [(show zf_P_register st p1 p2 = (1, ((upd st.1 st.2.2.2 p1), (upd st.2.1 st.2.2.2 p2), st.2.2.1, (st.2.2.2 + 1))) from by rw [zf_P_register, if_neg c_6, if_pos c_15])]
      exact zz_zret hx hb hr hlocks narrow_b1 hK hP hD hS zd_P_register_51 rfl
    · refine lv_iconst (v := 0) hx hb zd_P_register_18 (by decide) ?_
      rw [(show zf_P_register st p1 p2 = (0, st) from by rw [zf_P_register, if_neg c_6, if_neg c_15])]
      exact zz_zret hx hb hr hlocks narrow_b0 hK hP hD hS zd_P_register_19 rfl
set_option maxHeartbeats 4000000 in
set_option maxRecDepth 100000 in
theorem zc_P_balanceOf (l : Launch) (dC : Nat → ClassId) (dI : Nat → Nat → Nat) (cI cZ cL : ClassId) (a0 a1 a2 a3 : Nat) (sz : Nat) (st : zu_P) (p1 : Int32) (hh : st.2.2.2 ≤ 20) : Met l zy_P_balanceOf (zz_ws zy_P_balanceOf zb_P_balanceOf 3 (some .int)) ({ frames := 1, cells := 0, slots := 0, locals := 22 } : Room) (va_Pc ([.ref a0, .int p1] : List Value) (zz_P (dC, dI) (zz_ty cI cZ cL) sz (zw_P cI cZ cL a0 a1 a2 a3 st))) (zz_Ki (zf_P_balanceOf st p1)) 0 0 (fun _ => False) := by
  refine zz_ofK (by decide) (Nat.le_of_ble_eq_true rfl) ?_
  intro p e s m below meth c C0 hK hP hD ls hl
  obtain ⟨hx, hb, hr, hml, hown, htB, hlocks, hE⟩ := id C0
  have hl : lv_has ls 3 [(0, .ref a0), (1, .int p1)] := hl
  refine lv_aload_n hx hb zd_P_balanceOf_0 rfl (lv_at hl 0 rfl) ?_
  refine lv_iload_n hx hb zd_P_balanceOf_1 rfl (lv_at hl 1 rfl) ?_
  refine zz_ki (va_runV (As := [.int p1]) (rest := []) ⟨hx, hb, hml, hown, htB⟩ (zc_P_find l dC dI cI cZ cL a0 a1 a2 a3 s.heap.size st p1 hh) (cwV 1 htB (zz_gV zk_ae2cc950 zk_260dcf75 zk_9eb9dfdc zk_f301a5bc zk_94b92128) rfl rfl rfl ⟨rfl, zh_P_find⟩ ⟨Nat.le_of_ble_eq_true rfl, Nat.le_of_ble_eq_true rfl⟩) (zz_preV (ci := 3) (q := (zr_P, zF_P, 4)) hP hD hK hE [0, 1, 2, 3] (by decide) rfl rfl rfl) rfl rfl hl.1 rfl (lv_room (Nat.le_of_ble_eq_true rfl)) zd_P_balanceOf_2 ⟨Nat.le_of_ble_eq_true rfl, Nat.le_of_ble_eq_true rfl⟩) ?_
  refine lv_istore_n (lv' := [(2, .int (zf_P_find st p1)), (0, .ref a0), (1, .int p1)]) hx hb zd_P_balanceOf_5 rfl hl (by decide) rfl (fun ls hl => ?_)
  refine lv_iload_n hx hb zd_P_balanceOf_6 rfl (lv_at hl 0 rfl) ?_
  refine lv_iconst (v := (-1)) hx hb zd_P_balanceOf_7 (by decide) ?_
  refine lv_icmp_ne (tgt := 15) hx hb zd_P_balanceOf_8 (by decide) (fun c_8 => ?_) (fun c_8 => ?_)
  · refine lv_aload_n hx hb zd_P_balanceOf_15 rfl (lv_at hl 1 rfl) ?_
    refine va_get (D := (dC, dI)) (ci := 3) (v := .ref a2) (C := zr_P) (T := zF_P) (N := 4) hx hb htB zi_P hown hK hP 0 rfl rfl 1 (by decide) (htB _ zk_39cf8cfd) (fun _ h9 => h9) rfl zd_P_balanceOf_16 ?_
    refine lv_iload_n hx hb zd_P_balanceOf_19 rfl (lv_at hl 0 rfl) ?_
    refine va_iald hx hb hK hP 2 0 rfl rfl (zx_pfind hh c_8) zd_P_balanceOf_20 ?_
    rw [(show zf_P_balanceOf st p1 = st.2.1 (zf_P_find st p1).toNatClampNeg from by rw [zf_P_balanceOf, if_neg c_8])]
    exact zz_kiret hx hb hr hlocks zd_P_balanceOf_21 rfl
  · refine lv_iconst (v := (-1)) hx hb zd_P_balanceOf_11 (by decide) ?_
    refine lv_goto (tgt := 21) hx hb zd_P_balanceOf_12 (by decide) ?_
    rw [(show zf_P_balanceOf st p1 = (-1) from by rw [zf_P_balanceOf, if_pos c_8])]
    exact zz_kiret hx hb hr hlocks zd_P_balanceOf_21 rfl
set_option maxHeartbeats 4000000 in
set_option maxRecDepth 100000 in
theorem zc_P_take (l : Launch) (dC : Nat → ClassId) (dI : Nat → Nat → Nat) (cI cZ cL : ClassId) (a0 a1 a2 a3 : Nat) (sz : Nat) (st : zu_P) (p1 : Int32) (p2 : Int32) (p3 : Int32) (hh : st.2.2.2 ≤ 20) : Met l zy_P_take (zz_ws zy_P_take zb_P_take 4 (some .int)) ({ frames := 0, cells := 0, slots := 0, locals := 0 } : Room) (va_Pc ([.ref a0, .int p1, .int p2, .int p3] : List Value) (zz_P (dC, dI) (zz_ty cI cZ cL) sz (zw_P cI cZ cL a0 a1 a2 a3 st))) (zz_Qi (dC, dI) (zz_ty cI cZ cL) (va_A (zw_P cI cZ cL a0 a1 a2 a3 st) sz) ((zf_P_take st p1 p2 p3).1) (zw_P cI cZ cL a0 a1 a2 a3 ((zf_P_take st p1 p2 p3).2))) 0 0 (va_A (zw_P cI cZ cL a0 a1 a2 a3 st) sz) := by
  refine zz_ofW (Q := fun A => (zz_Qi (dC, dI) (zz_ty cI cZ cL) A ((zf_P_take st p1 p2 p3).1) (zw_P cI cZ cL a0 a1 a2 a3 ((zf_P_take st p1 p2 p3).2)))) (by decide) (Nat.le_of_ble_eq_true rfl) ?_
  intro p e s m below meth c A C0 _ hA hK hP hD _ ls hl
  obtain ⟨hx, hb, hr, hml, hown, htB, hlocks, hE⟩ := id C0
  have hS : va_S A s.heap s.heap [] := va_S.rf
  have hl : lv_has ls 4 [(0, .ref a0), (1, .int p1), (2, .int p2), (3, .int p3)] := hl
  refine lv_iload_n hx hb zd_P_take_0 rfl (lv_at hl 1 rfl) ?_
  refine lv_if_lt (tgt := 32) hx hb zd_P_take_1 (by decide) (fun c_1 => ?_) (fun c_1 => ?_)
  · refine lv_iconst (v := (-1)) hx hb zd_P_take_32 (by decide) ?_
    rw [(show zf_P_take st p1 p2 p3 = ((-1), st) from by rw [zf_P_take, if_pos c_1])]
    exact zz_iret hx hb hr hlocks hK hP hD hS zd_P_take_33 rfl
  · refine lv_iload_n hx hb zd_P_take_4 rfl (lv_at hl 1 rfl) ?_
    refine lv_bipush (v := 30) hx hb zd_P_take_5 (by decide) ?_
    refine lv_icmp_gt (tgt := 32) hx hb zd_P_take_7 (by decide) (fun c_7 => ?_) (fun c_7 => ?_)
    · refine lv_iconst (v := (-1)) hx hb zd_P_take_32 (by decide) ?_
      rw [(show zf_P_take st p1 p2 p3 = ((-1), st) from by rw [zf_P_take, if_neg c_1, if_pos c_7])]
      exact zz_iret hx hb hr hlocks hK hP hD hS zd_P_take_33 rfl
    · refine lv_iload_n hx hb zd_P_take_10 rfl (lv_at hl 2 rfl) ?_
      refine lv_if_lt (tgt := 32) hx hb zd_P_take_11 (by decide) (fun c_11 => ?_) (fun c_11 => ?_)
      · refine lv_iconst (v := (-1)) hx hb zd_P_take_32 (by decide) ?_
        rw [(show zf_P_take st p1 p2 p3 = ((-1), st) from by rw [zf_P_take, if_neg c_1, if_neg c_7, if_pos c_11])]
        exact zz_iret hx hb hr hlocks hK hP hD hS zd_P_take_33 rfl
      · refine lv_iload_n hx hb zd_P_take_14 rfl (lv_at hl 2 rfl) ?_
        refine lv_aload_n hx hb zd_P_take_15 rfl (lv_at hl 0 rfl) ?_
        refine va_get (D := (dC, dI)) (ci := 3) (v := .int (nI st.2.2.2)) (C := zr_P) (T := zF_P) (N := 4) hx hb htB zi_P hown hK hP 0 rfl rfl 3 (by decide) (htB _ zk_3b4f7965) (fun _ h9 => h9) rfl zd_P_take_16 ?_
        refine lv_icmp_ge (tgt := 32) hx hb zd_P_take_19 (by decide) (fun c_19 => ?_) (fun c_19 => ?_)
        · refine lv_iconst (v := (-1)) hx hb zd_P_take_32 (by decide) ?_
          rw [(show zf_P_take st p1 p2 p3 = ((-1), st) from by rw [zf_P_take, if_neg c_1, if_neg c_7, if_neg c_11, if_pos c_19])]
          exact zz_iret hx hb hr hlocks hK hP hD hS zd_P_take_33 rfl
        · refine lv_aload_n hx hb zd_P_take_22 rfl (lv_at hl 0 rfl) ?_
          refine va_get (D := (dC, dI)) (ci := 3) (v := .ref a2) (C := zr_P) (T := zF_P) (N := 4) hx hb htB zi_P hown hK hP 0 rfl rfl 1 (by decide) (htB _ zk_39cf8cfd) (fun _ h9 => h9) rfl zd_P_take_23 ?_
          refine lv_iload_n hx hb zd_P_take_26 rfl (lv_at hl 2 rfl) ?_
          refine va_iald hx hb hK hP 2 0 rfl rfl (zx_at hh c_11 c_19) zd_P_take_27 ?_
          refine lv_iload_n hx hb zd_P_take_28 rfl (lv_at hl 3 rfl) ?_
          refine lv_icmp_ge (tgt := 34) hx hb zd_P_take_29 (by decide) (fun c_29 => ?_) (fun c_29 => ?_)
          · refine lv_aload_n hx hb zd_P_take_34 rfl (lv_at hl 0 rfl) ?_
            refine va_get (D := (dC, dI)) (ci := 3) (v := .ref a2) (C := zr_P) (T := zF_P) (N := 4) hx hb htB zi_P hown hK hP 0 rfl rfl 1 (by decide) (htB _ zk_39cf8cfd) (fun _ h9 => h9) rfl zd_P_take_35 ?_
            refine lv_iload_n hx hb zd_P_take_38 rfl (lv_at hl 2 rfl) ?_
            refine lv_dup2_11 hx hb zd_P_take_39 rfl rfl ?_
            refine va_iald hx hb hK hP 2 0 rfl rfl (zx_at hh c_11 c_19) zd_P_take_40 ?_
            refine lv_iload_n hx hb zd_P_take_41 rfl (lv_at hl 3 rfl) ?_
            refine lv_isub hx hb zd_P_take_42 ?_
            refine va_iast hx hb hK hP hD hS 2 0 rfl rfl (zx_at hh c_11 c_19) zd_P_take_43 (fun H locs hP hD hS => ?_)
            have hP : va_P (dC, dI) zz_cl (zw_P cI cZ cL a0 a1 a2 a3 (st.1, (upd st.2.1 p2.toNatClampNeg ((st.2.1 p2.toNatClampNeg) - p3)), st.2.2.1, st.2.2.2)) H := hP
            have hD : va_D A (zw_P cI cZ cL a0 a1 a2 a3 (st.1, (upd st.2.1 p2.toNatClampNeg ((st.2.1 p2.toNatClampNeg) - p3)), st.2.2.1, st.2.2.2)) := hD
            refine lv_aload_n hx hb zd_P_take_44 rfl (lv_at hl 0 rfl) ?_
            refine va_get (D := (dC, dI)) (ci := 3) (v := .ref a3) (C := zr_P) (T := zF_P) (N := 4) hx hb htB zi_P hown hK hP 0 rfl rfl 2 (by decide) (htB _ zk_7cfd8f23) (fun _ h9 => h9) rfl zd_P_take_45 ?_
            refine lv_iload_n hx hb zd_P_take_48 rfl (lv_at hl 1 rfl) ?_
            refine lv_bipush (v := 20) hx hb zd_P_take_49 (by decide) ?_
            refine lv_imul hx hb zd_P_take_51 ?_
            refine lv_iload_n hx hb zd_P_take_52 rfl (lv_at hl 2 rfl) ?_
            refine lv_iadd hx hb zd_P_take_53 ?_
            refine lv_dup2_11 hx hb zd_P_take_54 rfl rfl ?_
            refine va_iald hx hb hK hP 3 0 rfl rfl (zx_dr hh c_1 c_7 c_11 c_19) zd_P_take_55 ?_
            refine lv_iload_n hx hb zd_P_take_56 rfl (lv_at hl 3 rfl) ?_
            refine lv_iadd hx hb zd_P_take_57 ?_
            refine va_iast hx hb hK hP hD hS 3 0 rfl rfl (zx_dr hh c_1 c_7 c_11 c_19) zd_P_take_58 (fun H locs hP hD hS => ?_)
            have hP : va_P (dC, dI) zz_cl (zw_P cI cZ cL a0 a1 a2 a3 (st.1, (upd st.2.1 p2.toNatClampNeg ((st.2.1 p2.toNatClampNeg) - p3)), (upd st.2.2.1 ((p1 * 20) + p2).toNatClampNeg ((st.2.2.1 ((p1 * 20) + p2).toNatClampNeg) + p3)), st.2.2.2)) H := hP
            have hD : va_D A (zw_P cI cZ cL a0 a1 a2 a3 (st.1, (upd st.2.1 p2.toNatClampNeg ((st.2.1 p2.toNatClampNeg) - p3)), (upd st.2.2.1 ((p1 * 20) + p2).toNatClampNeg ((st.2.2.1 ((p1 * 20) + p2).toNatClampNeg) + p3)), st.2.2.2)) := hD
            refine lv_aload_n hx hb zd_P_take_59 rfl (lv_at hl 0 rfl) ?_
            refine va_get (D := (dC, dI)) (ci := 3) (v := .ref a2) (C := zr_P) (T := zF_P) (N := 4) hx hb htB zi_P hown hK hP 0 rfl rfl 1 (by decide) (htB _ zk_39cf8cfd) (fun _ h9 => h9) rfl zd_P_take_60 ?_
            refine lv_iload_n hx hb zd_P_take_63 rfl (lv_at hl 2 rfl) ?_
            refine va_iald hx hb hK hP 2 0 rfl rfl (zx_at hh c_11 c_19) zd_P_take_64 ?_
            rw [(show zf_P_take st p1 p2 p3 = ((upd st.2.1 p2.toNatClampNeg ((st.2.1 p2.toNatClampNeg) - p3)) p2.toNatClampNeg, (st.1, (upd st.2.1 p2.toNatClampNeg ((st.2.1 p2.toNatClampNeg) - p3)), (upd st.2.2.1 ((p1 * 20) + p2).toNatClampNeg ((st.2.2.1 ((p1 * 20) + p2).toNatClampNeg) + p3)), st.2.2.2)) from by rw [zf_P_take, if_neg c_1, if_neg c_7, if_neg c_11, if_neg c_19, if_pos c_29])]
            exact zz_iret hx hb hr hlocks hK hP hD hS zd_P_take_65 rfl
          · refine lv_iconst (v := (-1)) hx hb zd_P_take_32 (by decide) ?_
            rw [(show zf_P_take st p1 p2 p3 = ((-1), st) from by rw [zf_P_take, if_neg c_1, if_neg c_7, if_neg c_11, if_neg c_19, if_neg c_29])]
            exact zz_iret hx hb hr hlocks hK hP hD hS zd_P_take_33 rfl
set_option maxHeartbeats 4000000 in
set_option maxRecDepth 100000 in
theorem zp_P_giveBack_13 {p : Program} {l : Launch} {e : Env} {s : State} {m : MethodId} {below : List Frame} {meth : Method} {c : Code} {A : Nat → Prop} (dC : Nat → ClassId) (dI : Nat → Nat → Nat) (cI cZ cL : ClassId) (a0 a1 a2 a3 : Nat) (p1 : Int32) (c_1 : ¬ p1 < 0) (c_7 : p1 ≤ 30) (C0 : zz_C p s m ([.ref a0, .int p1] : List Value).toArray meth c zb_P_giveBack 3 (none) zy_P_giveBack.cls) (hA : ∀ q : Nat, s.heap.size ≤ q → A q) (hK : va_K (dC, dI) zz_cl (zz_ty cI cZ cL) s) :
    ∀ (mm k : Nat) (st : zu_P) (hh : st.2.2.2 ≤ 20), k + mm = st.2.2.2 → ∀ (H : Heap) (locs : List Loc), va_P (dC, dI) zz_cl (zw_P cI cZ cL a0 a1 a2 a3 st) H → va_D A (zw_P cI cZ cL a0 a1 a2 a3 st) → va_S A s.heap H locs → ∀ ls : Array Slot, lv_has ls 3 [(0, .ref a0), (1, .int p1), (2, .int (nI k))] →
    W p l e ({ frames := 0, cells := 0, slots := 0, locals := 0 } : Room) s m ([.ref a0, .int p1] : List Value).toArray below meth c H locs 0 0 (MQ below (zz_Qv (dC, dI) (zz_ty cI cZ cL) A (zw_P cI cZ cL a0 a1 a2 a3 (zf_P_giveBack_L13 p1 mm k st))) ([.ref a0, .int p1] : List Value).toArray s 0 0 A) (F0 m 13 ls []) := by
  obtain ⟨hx, hb, hr, hml, hown, htB, hlocks, hE⟩ := id C0
  intro mm
  induction mm with
  | zero =>
    intro k st hh hk H locs hP hD hS ls hl
    refine lv_iload_n hx hb zd_P_giveBack_13 rfl (lv_at hl 2 rfl) ?_
    refine lv_aload_n hx hb zd_P_giveBack_14 rfl (lv_at hl 0 rfl) ?_
    refine va_get (D := (dC, dI)) (ci := 3) (v := .int (nI st.2.2.2)) (C := zr_P) (T := zF_P) (N := 4) hx hb htB zi_P hown hK hP 0 rfl rfl 3 (by decide) (htB _ zk_3b4f7965) (fun _ h9 => h9) rfl zd_P_giveBack_15 ?_
    refine lv_icmp_ge (tgt := 47) hx hb zd_P_giveBack_18 (by decide) (fun _ => ?_) (fun c_ => absurd (zz_geT (b := st.2.2.2) rfl (by omega) (by omega)) c_)
    rw [(show zf_P_giveBack_L13 p1 0 k st = st from by first | rfl | (rw [zf_P_giveBack_L13]))]
    exact zz_vret hx hb hr hlocks hK hP hD hS zd_P_giveBack_47
  | succ mm ih =>
    intro k st hh hk H locs hP hD hS ls hl
    refine lv_iload_n hx hb zd_P_giveBack_13 rfl (lv_at hl 2 rfl) ?_
    refine lv_aload_n hx hb zd_P_giveBack_14 rfl (lv_at hl 0 rfl) ?_
    refine va_get (D := (dC, dI)) (ci := 3) (v := .int (nI st.2.2.2)) (C := zr_P) (T := zF_P) (N := 4) hx hb htB zi_P hown hK hP 0 rfl rfl 3 (by decide) (htB _ zk_3b4f7965) (fun _ h9 => h9) rfl zd_P_giveBack_15 ?_
    refine lv_icmp_ge (tgt := 47) hx hb zd_P_giveBack_18 (by decide) (fun c_ => absurd c_ (zz_geF (b := st.2.2.2) rfl (by omega) (by omega))) (fun _ => ?_)
    refine lv_aload_n hx hb zd_P_giveBack_21 rfl (lv_at hl 0 rfl) ?_
    refine va_get (D := (dC, dI)) (ci := 3) (v := .ref a2) (C := zr_P) (T := zF_P) (N := 4) hx hb htB zi_P hown hK hP 0 rfl rfl 1 (by decide) (htB _ zk_39cf8cfd) (fun _ h9 => h9) rfl zd_P_giveBack_22 ?_
    refine lv_iload_n hx hb zd_P_giveBack_25 rfl (lv_at hl 2 rfl) ?_
    refine lv_dup2_11 hx hb zd_P_giveBack_26 rfl rfl ?_
    refine zz_iald hx hb hK hP 2 0 rfl rfl (by omega) (by decide) zd_P_giveBack_27 ?_
    refine lv_aload_n hx hb zd_P_giveBack_28 rfl (lv_at hl 0 rfl) ?_
    refine va_get (D := (dC, dI)) (ci := 3) (v := .ref a3) (C := zr_P) (T := zF_P) (N := 4) hx hb htB zi_P hown hK hP 0 rfl rfl 2 (by decide) (htB _ zk_7cfd8f23) (fun _ h9 => h9) rfl zd_P_giveBack_29 ?_
    refine lv_iload_n hx hb zd_P_giveBack_32 rfl (lv_at hl 1 rfl) ?_
    refine lv_bipush (v := 20) hx hb zd_P_giveBack_33 (by decide) ?_
    refine lv_imul hx hb zd_P_giveBack_35 ?_
    refine lv_iload_n hx hb zd_P_giveBack_36 rfl (lv_at hl 2 rfl) ?_
    refine lv_iadd hx hb zd_P_giveBack_37 ?_
    refine va_iald hx hb hK hP 3 0 rfl rfl (zx_dk c_1 c_7 (by omega)) zd_P_giveBack_38 ?_
    refine lv_iadd hx hb zd_P_giveBack_39 ?_
    refine zz_iast hx hb hK hP hD hS 2 0 rfl rfl (by omega) (by decide) zd_P_giveBack_40 (fun H locs hP hD hS => ?_)
    have hP : va_P (dC, dI) zz_cl (zw_P cI cZ cL a0 a1 a2 a3 (st.1, (upd st.2.1 k ((st.2.1 k) + (st.2.2.1 ((p1 * 20) + (nI k)).toNatClampNeg))), st.2.2.1, st.2.2.2)) H := hP
    have hD : va_D A (zw_P cI cZ cL a0 a1 a2 a3 (st.1, (upd st.2.1 k ((st.2.1 k) + (st.2.2.1 ((p1 * 20) + (nI k)).toNatClampNeg))), st.2.2.1, st.2.2.2)) := hD
    refine lv_iinc (v := nI (k + 1)) (lv' := [(2, .int (nI (k + 1))), (0, .ref a0), (1, .int p1)]) hx hb zd_P_giveBack_41 hl (k := 2) rfl (nI_1 k) (by decide) rfl (fun ls hl => ?_)
    refine lv_goto (tgt := 13) hx hb zd_P_giveBack_44 (by decide) ?_
    rw [(show zf_P_giveBack_L13 p1 (mm + 1) k st = zf_P_giveBack_L13 p1 mm (k + 1) (st.1, (upd st.2.1 k ((st.2.1 k) + (st.2.2.1 ((p1 * 20) + (nI k)).toNatClampNeg))), st.2.2.1, st.2.2.2) from by first | rfl | (rw [zf_P_giveBack_L13]))]
    exact ih (k + 1) (st.1, (upd st.2.1 k ((st.2.1 k) + (st.2.2.1 ((p1 * 20) + (nI k)).toNatClampNeg))), st.2.2.1, st.2.2.2) hh (by show k + 1 + mm = st.2.2.2; omega) _ _ hP hD hS _ (lv_sub hl [1, 2, 0] rfl)
set_option maxHeartbeats 4000000 in
set_option maxRecDepth 100000 in
theorem zc_P_giveBack (l : Launch) (dC : Nat → ClassId) (dI : Nat → Nat → Nat) (cI cZ cL : ClassId) (a0 a1 a2 a3 : Nat) (sz : Nat) (st : zu_P) (p1 : Int32) (hh : st.2.2.2 ≤ 20) : Met l zy_P_giveBack (zz_ws zy_P_giveBack zb_P_giveBack 3 (none)) ({ frames := 0, cells := 0, slots := 0, locals := 0 } : Room) (va_Pc ([.ref a0, .int p1] : List Value) (zz_P (dC, dI) (zz_ty cI cZ cL) sz (zw_P cI cZ cL a0 a1 a2 a3 st))) (zz_Qv (dC, dI) (zz_ty cI cZ cL) (va_A (zw_P cI cZ cL a0 a1 a2 a3 st) sz) (zw_P cI cZ cL a0 a1 a2 a3 (zf_P_giveBack st p1))) 0 0 (va_A (zw_P cI cZ cL a0 a1 a2 a3 st) sz) := by
  refine zz_ofW (Q := fun A => (zz_Qv (dC, dI) (zz_ty cI cZ cL) A (zw_P cI cZ cL a0 a1 a2 a3 (zf_P_giveBack st p1)))) (by decide) (Nat.le_of_ble_eq_true rfl) ?_
  intro p e s m below meth c A C0 _ hA hK hP hD _ ls hl
  obtain ⟨hx, hb, hr, hml, hown, htB, hlocks, hE⟩ := id C0
  have hS : va_S A s.heap s.heap [] := va_S.rf
  have hl : lv_has ls 3 [(0, .ref a0), (1, .int p1)] := hl
  refine lv_iload_n hx hb zd_P_giveBack_0 rfl (lv_at hl 1 rfl) ?_
  refine lv_if_lt (tgt := 10) hx hb zd_P_giveBack_1 (by decide) (fun c_1 => ?_) (fun c_1 => ?_)
  · rw [(show zf_P_giveBack st p1 = st from by rw [zf_P_giveBack, if_pos c_1])]
    exact zz_vret hx hb hr hlocks hK hP hD hS zd_P_giveBack_10
  · refine lv_iload_n hx hb zd_P_giveBack_4 rfl (lv_at hl 1 rfl) ?_
    refine lv_bipush (v := 30) hx hb zd_P_giveBack_5 (by decide) ?_
    refine lv_icmp_le (tgt := 11) hx hb zd_P_giveBack_7 (by decide) (fun c_7 => ?_) (fun c_7 => ?_)
    · refine lv_iconst (v := 0) hx hb zd_P_giveBack_11 (by decide) ?_
      refine lv_istore_n (lv' := [(2, .int 0), (0, .ref a0), (1, .int p1)]) hx hb zd_P_giveBack_12 rfl hl (by decide) rfl (fun ls hl => ?_)
      rw [(show zf_P_giveBack st p1 = zf_P_giveBack_L13 p1 st.2.2.2 0 st from by rw [zf_P_giveBack, if_neg c_1, if_pos c_7])]
      exact zp_P_giveBack_13 dC dI cI cZ cL a0 a1 a2 a3 p1 c_1 c_7 C0 hA hK st.2.2.2 0 st hh (Nat.zero_add _) _ _ hP hD hS _ (lv_sub hl [1, 2, 0] rfl)
    · rw [(show zf_P_giveBack st p1 = st from by rw [zf_P_giveBack, if_neg c_1, if_neg c_7])]
      exact zz_vret hx hb hr hlocks hK hP hD hS zd_P_giveBack_10
end
section
set_option maxHeartbeats 4000000 in
set_option maxRecDepth 100000 in
theorem zc_R_wholeRows (l : Launch) (dC : Nat → ClassId) (dI : Nat → Nat → Nat) (cI cZ cL : ClassId) (a0 : Nat) (sz : Nat) (st : zu_R)  : Met l zy_R_wholeRows (zz_ws zy_R_wholeRows zb_R_wholeRows 1 (some .int)) ({ frames := 0, cells := 0, slots := 0, locals := 0 } : Room) (va_Pc ([.ref a0] : List Value) (zz_P (dC, dI) (zz_ty cI cZ cL) sz (zw_R cI cZ cL a0 st))) (zz_Ki (zf_R_wholeRows st)) 0 0 (fun _ => False) := by
  refine zz_ofK (by decide) (Nat.le_of_ble_eq_true rfl) ?_
  intro p e s m below meth c C0 hK hP hD ls hl
  obtain ⟨hx, hb, hr, hml, hown, htB, hlocks, hE⟩ := id C0
  have hl : lv_has ls 1 [(0, .ref a0)] := hl
  refine lv_aload_n hx hb zd_R_wholeRows_0 rfl (lv_at hl 0 rfl) ?_
  refine va_get (D := (dC, dI)) (ci := 4) (v := .int st.2.2.2.2.2.2.2.1) (C := zr_R) (T := zF_R) (N := 9) hx hb htB zi_R hown hK hP 0 rfl rfl 7 (by decide) (htB _ zk_e7cbea07) (fun _ h9 => h9) rfl zd_R_wholeRows_1 ?_
  rw [(show zf_R_wholeRows st = st.2.2.2.2.2.2.2.1 from by first | rfl | (rw [zf_R_wholeRows]))]
  exact zz_kiret hx hb hr hlocks zd_R_wholeRows_4 rfl
set_option maxHeartbeats 4000000 in
set_option maxRecDepth 100000 in
theorem zc_R_latestFields (l : Launch) (dC : Nat → ClassId) (dI : Nat → Nat → Nat) (cI cZ cL : ClassId) (a0 : Nat) (sz : Nat) (st : zu_R)  : Met l zy_R_latestFields (zz_ws zy_R_latestFields zb_R_latestFields 1 (some .int)) ({ frames := 0, cells := 0, slots := 0, locals := 0 } : Room) (va_Pc ([.ref a0] : List Value) (zz_P (dC, dI) (zz_ty cI cZ cL) sz (zw_R cI cZ cL a0 st))) (zz_Ki (zf_R_latestFields st)) 0 0 (fun _ => False) := by
  refine zz_ofK (by decide) (Nat.le_of_ble_eq_true rfl) ?_
  intro p e s m below meth c C0 hK hP hD ls hl
  obtain ⟨hx, hb, hr, hml, hown, htB, hlocks, hE⟩ := id C0
  have hl : lv_has ls 1 [(0, .ref a0)] := hl
  refine lv_aload_n hx hb zd_R_latestFields_0 rfl (lv_at hl 0 rfl) ?_
  refine va_get (D := (dC, dI)) (ci := 4) (v := .int st.2.2.2.2.2.2.2.2) (C := zr_R) (T := zF_R) (N := 9) hx hb htB zi_R hown hK hP 0 rfl rfl 8 (by decide) (htB _ zk_8c4f15a9) (fun _ h9 => h9) rfl zd_R_latestFields_1 ?_
  rw [(show zf_R_latestFields st = st.2.2.2.2.2.2.2.2 from by first | rfl | (rw [zf_R_latestFields]))]
  exact zz_kiret hx hb hr hlocks zd_R_latestFields_4 rfl
set_option maxHeartbeats 4000000 in
set_option maxRecDepth 100000 in
theorem zc_R_takeKind (l : Launch) (dC : Nat → ClassId) (dI : Nat → Nat → Nat) (cI cZ cL : ClassId) (a0 : Nat) (sz : Nat) (st : zu_R) (p1 : Int32)  : Met l zy_R_takeKind (zz_ws zy_R_takeKind zb_R_takeKind 2 (some .boolean)) ({ frames := 0, cells := 0, slots := 0, locals := 0 } : Room) (va_Pc ([.ref a0, .int p1] : List Value) (zz_P (dC, dI) (zz_ty cI cZ cL) sz (zw_R cI cZ cL a0 st))) (zz_Qi (dC, dI) (zz_ty cI cZ cL) (va_A (zw_R cI cZ cL a0 st) sz) ((zf_R_takeKind st p1).1) (zw_R cI cZ cL a0 ((zf_R_takeKind st p1).2))) 0 0 (va_A (zw_R cI cZ cL a0 st) sz) := by
  refine zz_ofW (Q := fun A => (zz_Qi (dC, dI) (zz_ty cI cZ cL) A ((zf_R_takeKind st p1).1) (zw_R cI cZ cL a0 ((zf_R_takeKind st p1).2)))) (by decide) (Nat.le_of_ble_eq_true rfl) ?_
  intro p e s m below meth c A C0 _ hA hK hP hD _ ls hl
  obtain ⟨hx, hb, hr, hml, hown, htB, hlocks, hE⟩ := id C0
  have hS : va_S A s.heap s.heap [] := va_S.rf
  have hl : lv_has ls 2 [(0, .ref a0), (1, .int p1)] := hl
  refine lv_aload_n hx hb zd_R_takeKind_0 rfl (lv_at hl 0 rfl) ?_
  refine lv_iload_n hx hb zd_R_takeKind_1 rfl (lv_at hl 1 rfl) ?_
  refine va_put (D := (dC, dI)) (ci := 4) (v := .int p1) (C := zr_R) (T := zF_R) (N := 9) hx hb htB zi_R zT_R zT_R_ok zn_R hown hK hP hD hS 0 rfl rfl 1 (by decide) (htB _ zk_04fa654a) (fun _ h9 => h9) rfl (zT_R_ok 1 (by decide)) rfl rfl (Nat.le_of_ble_eq_true rfl) zd_R_takeKind_2 (fun H locs hP hD hS => ?_)
  have hP : va_P (dC, dI) zz_cl (zw_R cI cZ cL a0 (st.1, p1, st.2.2.1, st.2.2.2.1, st.2.2.2.2.1, st.2.2.2.2.2.1, st.2.2.2.2.2.2.1, st.2.2.2.2.2.2.2.1, st.2.2.2.2.2.2.2.2)) H := hP
  have hD : va_D A (zw_R cI cZ cL a0 (st.1, p1, st.2.2.1, st.2.2.2.1, st.2.2.2.2.1, st.2.2.2.2.2.1, st.2.2.2.2.2.2.1, st.2.2.2.2.2.2.2.1, st.2.2.2.2.2.2.2.2)) := hD
  refine lv_aload_n hx hb zd_R_takeKind_5 rfl (lv_at hl 0 rfl) ?_
  refine lv_iconst (v := (-1)) hx hb zd_R_takeKind_6 (by decide) ?_
  refine va_put (D := (dC, dI)) (ci := 4) (v := .int (-1)) (C := zr_R) (T := zF_R) (N := 9) hx hb htB zi_R zT_R zT_R_ok zn_R hown hK hP hD hS 0 rfl rfl 5 (by decide) (htB _ zk_5d4512b9) (fun _ h9 => h9) rfl (zT_R_ok 5 (by decide)) rfl rfl (Nat.le_of_ble_eq_true rfl) zd_R_takeKind_7 (fun H locs hP hD hS => ?_)
  have hP : va_P (dC, dI) zz_cl (zw_R cI cZ cL a0 (st.1, p1, st.2.2.1, st.2.2.2.1, st.2.2.2.2.1, (-1), st.2.2.2.2.2.2.1, st.2.2.2.2.2.2.2.1, st.2.2.2.2.2.2.2.2)) H := hP
  have hD : va_D A (zw_R cI cZ cL a0 (st.1, p1, st.2.2.1, st.2.2.2.1, st.2.2.2.2.1, (-1), st.2.2.2.2.2.2.1, st.2.2.2.2.2.2.2.1, st.2.2.2.2.2.2.2.2)) := hD
  refine lv_iload_n hx hb zd_R_takeKind_10 rfl (lv_at hl 1 rfl) ?_
  refine lv_iconst (v := 3) hx hb zd_R_takeKind_11 (by decide) ?_
  refine lv_icmp_gt (tgt := 19) hx hb zd_R_takeKind_12 (by decide) (fun c_12 => ?_) (fun c_12 => ?_)
  · refine lv_iconst (v := 0) hx hb zd_R_takeKind_19 (by decide) ?_
    rw [(show zf_R_takeKind st p1 = (0, (st.1, p1, st.2.2.1, st.2.2.2.1, st.2.2.2.2.1, (-1), st.2.2.2.2.2.2.1, st.2.2.2.2.2.2.2.1, st.2.2.2.2.2.2.2.2)) from by rw [zf_R_takeKind, if_pos c_12])]
    exact zz_zret hx hb hr hlocks narrow_b0 hK hP hD hS zd_R_takeKind_20 rfl
  · refine lv_iconst (v := 1) hx hb zd_R_takeKind_15 (by decide) ?_
    refine lv_goto (tgt := 20) hx hb zd_R_takeKind_16 (by decide) ?_
    rw [(show zf_R_takeKind st p1 = (1, (st.1, p1, st.2.2.1, st.2.2.2.1, st.2.2.2.2.1, (-1), st.2.2.2.2.2.2.1, st.2.2.2.2.2.2.2.1, st.2.2.2.2.2.2.2.2)) from by rw [zf_R_takeKind, if_neg c_12])]
    exact zz_zret hx hb hr hlocks narrow_b1 hK hP hD hS zd_R_takeKind_20 rfl
set_option maxHeartbeats 4000000 in
set_option maxRecDepth 100000 in
theorem zc_R_takeHigher (l : Launch) (dC : Nat → ClassId) (dI : Nat → Nat → Nat) (cI cZ cL : ClassId) (a0 : Nat) (sz : Nat) (st : zu_R) (p1 : Int32)  : Met l zy_R_takeHigher (zz_ws zy_R_takeHigher zb_R_takeHigher 2 (some .boolean)) ({ frames := 0, cells := 0, slots := 0, locals := 0 } : Room) (va_Pc ([.ref a0, .int p1] : List Value) (zz_P (dC, dI) (zz_ty cI cZ cL) sz (zw_R cI cZ cL a0 st))) (zz_Qi (dC, dI) (zz_ty cI cZ cL) (va_A (zw_R cI cZ cL a0 st) sz) ((zf_R_takeHigher st p1).1) (zw_R cI cZ cL a0 ((zf_R_takeHigher st p1).2))) 0 0 (va_A (zw_R cI cZ cL a0 st) sz) := by
  refine zz_ofW (Q := fun A => (zz_Qi (dC, dI) (zz_ty cI cZ cL) A ((zf_R_takeHigher st p1).1) (zw_R cI cZ cL a0 ((zf_R_takeHigher st p1).2)))) (by decide) (Nat.le_of_ble_eq_true rfl) ?_
  intro p e s m below meth c A C0 _ hA hK hP hD _ ls hl
  obtain ⟨hx, hb, hr, hml, hown, htB, hlocks, hE⟩ := id C0
  have hS : va_S A s.heap s.heap [] := va_S.rf
  have hl : lv_has ls 2 [(0, .ref a0), (1, .int p1)] := hl
  refine lv_aload_n hx hb zd_R_takeHigher_0 rfl (lv_at hl 0 rfl) ?_
  refine lv_iload_n hx hb zd_R_takeHigher_1 rfl (lv_at hl 1 rfl) ?_
  refine lv_sipush (v := 256) hx hb zd_R_takeHigher_2 (by decide) ?_
  refine lv_imul hx hb zd_R_takeHigher_5 ?_
  refine va_put (D := (dC, dI)) (ci := 4) (v := .int (p1 * 256)) (C := zr_R) (T := zF_R) (N := 9) hx hb htB zi_R zT_R zT_R_ok zn_R hown hK hP hD hS 0 rfl rfl 2 (by decide) (htB _ zk_64a6c42c) (fun _ h9 => h9) rfl (zT_R_ok 2 (by decide)) rfl rfl (Nat.le_of_ble_eq_true rfl) zd_R_takeHigher_6 (fun H locs hP hD hS => ?_)
  have hP : va_P (dC, dI) zz_cl (zw_R cI cZ cL a0 (st.1, st.2.1, p1 * 256, st.2.2.2.1, st.2.2.2.2.1, st.2.2.2.2.2.1, st.2.2.2.2.2.2.1, st.2.2.2.2.2.2.2.1, st.2.2.2.2.2.2.2.2)) H := hP
  have hD : va_D A (zw_R cI cZ cL a0 (st.1, st.2.1, p1 * 256, st.2.2.2.1, st.2.2.2.2.1, st.2.2.2.2.2.1, st.2.2.2.2.2.2.1, st.2.2.2.2.2.2.2.1, st.2.2.2.2.2.2.2.2)) := hD
  refine lv_aload_n hx hb zd_R_takeHigher_9 rfl (lv_at hl 0 rfl) ?_
  refine va_get (D := (dC, dI)) (ci := 4) (v := .int (p1 * 256)) (C := zr_R) (T := zF_R) (N := 9) hx hb htB zi_R hown hK hP 0 rfl rfl 2 (by decide) (htB _ zk_64a6c42c) (fun _ h9 => h9) rfl zd_R_takeHigher_10 ?_
  refine lv_sipush (v := 610) hx hb zd_R_takeHigher_13 (by decide) ?_
  refine lv_icmp_gt (tgt := 23) hx hb zd_R_takeHigher_16 (by decide) (fun c_16 => ?_) (fun c_16 => ?_)
  · refine lv_iconst (v := 0) hx hb zd_R_takeHigher_23 (by decide) ?_
    rw [(show zf_R_takeHigher st p1 = (0, (st.1, st.2.1, p1 * 256, st.2.2.2.1, st.2.2.2.2.1, st.2.2.2.2.2.1, st.2.2.2.2.2.2.1, st.2.2.2.2.2.2.2.1, st.2.2.2.2.2.2.2.2)) from by rw [zf_R_takeHigher, if_pos c_16])]
    exact zz_zret hx hb hr hlocks narrow_b0 hK hP hD hS zd_R_takeHigher_24 rfl
  · refine lv_iconst (v := 1) hx hb zd_R_takeHigher_19 (by decide) ?_
    refine lv_goto (tgt := 24) hx hb zd_R_takeHigher_20 (by decide) ?_
    rw [(show zf_R_takeHigher st p1 = (1, (st.1, st.2.1, p1 * 256, st.2.2.2.1, st.2.2.2.2.1, st.2.2.2.2.2.1, st.2.2.2.2.2.2.1, st.2.2.2.2.2.2.2.1, st.2.2.2.2.2.2.2.2)) from by rw [zf_R_takeHigher, if_neg c_16])]
    exact zz_zret hx hb hr hlocks narrow_b1 hK hP hD hS zd_R_takeHigher_24 rfl
set_option maxHeartbeats 4000000 in
set_option maxRecDepth 100000 in
theorem zc_R_takeLower (l : Launch) (dC : Nat → ClassId) (dI : Nat → Nat → Nat) (cI cZ cL : ClassId) (a0 : Nat) (sz : Nat) (st : zu_R) (p1 : Int32)  : Met l zy_R_takeLower (zz_ws zy_R_takeLower zb_R_takeLower 2 (some .boolean)) ({ frames := 0, cells := 0, slots := 0, locals := 0 } : Room) (va_Pc ([.ref a0, .int p1] : List Value) (zz_P (dC, dI) (zz_ty cI cZ cL) sz (zw_R cI cZ cL a0 st))) (zz_Qi (dC, dI) (zz_ty cI cZ cL) (va_A (zw_R cI cZ cL a0 st) sz) ((zf_R_takeLower st p1).1) (zw_R cI cZ cL a0 ((zf_R_takeLower st p1).2))) 0 0 (va_A (zw_R cI cZ cL a0 st) sz) := by
  refine zz_ofW (Q := fun A => (zz_Qi (dC, dI) (zz_ty cI cZ cL) A ((zf_R_takeLower st p1).1) (zw_R cI cZ cL a0 ((zf_R_takeLower st p1).2)))) (by decide) (Nat.le_of_ble_eq_true rfl) ?_
  intro p e s m below meth c A C0 _ hA hK hP hD _ ls hl
  obtain ⟨hx, hb, hr, hml, hown, htB, hlocks, hE⟩ := id C0
  have hS : va_S A s.heap s.heap [] := va_S.rf
  have hl : lv_has ls 2 [(0, .ref a0), (1, .int p1)] := hl
  refine lv_aload_n hx hb zd_R_takeLower_0 rfl (lv_at hl 0 rfl) ?_
  refine lv_dup hx hb zd_R_takeLower_1 rfl ?_
  refine va_get (D := (dC, dI)) (ci := 4) (v := .int st.2.2.1) (C := zr_R) (T := zF_R) (N := 9) hx hb htB zi_R hown hK hP 0 rfl rfl 2 (by decide) (htB _ zk_64a6c42c) (fun _ h9 => h9) rfl zd_R_takeLower_2 ?_
  refine lv_iload_n hx hb zd_R_takeLower_5 rfl (lv_at hl 1 rfl) ?_
  refine lv_iadd hx hb zd_R_takeLower_6 ?_
  refine va_put (D := (dC, dI)) (ci := 4) (v := .int (st.2.2.1 + p1)) (C := zr_R) (T := zF_R) (N := 9) hx hb htB zi_R zT_R zT_R_ok zn_R hown hK hP hD hS 0 rfl rfl 2 (by decide) (htB _ zk_64a6c42c) (fun _ h9 => h9) rfl (zT_R_ok 2 (by decide)) rfl rfl (Nat.le_of_ble_eq_true rfl) zd_R_takeLower_7 (fun H locs hP hD hS => ?_)
  have hP : va_P (dC, dI) zz_cl (zw_R cI cZ cL a0 (st.1, st.2.1, st.2.2.1 + p1, st.2.2.2.1, st.2.2.2.2.1, st.2.2.2.2.2.1, st.2.2.2.2.2.2.1, st.2.2.2.2.2.2.2.1, st.2.2.2.2.2.2.2.2)) H := hP
  have hD : va_D A (zw_R cI cZ cL a0 (st.1, st.2.1, st.2.2.1 + p1, st.2.2.2.1, st.2.2.2.2.1, st.2.2.2.2.2.1, st.2.2.2.2.2.2.1, st.2.2.2.2.2.2.2.1, st.2.2.2.2.2.2.2.2)) := hD
  refine lv_aload_n hx hb zd_R_takeLower_10 rfl (lv_at hl 0 rfl) ?_
  refine lv_aload_n hx hb zd_R_takeLower_11 rfl (lv_at hl 0 rfl) ?_
  refine va_get (D := (dC, dI)) (ci := 4) (v := .int (st.2.2.1 + p1)) (C := zr_R) (T := zF_R) (N := 9) hx hb htB zi_R hown hK hP 0 rfl rfl 2 (by decide) (htB _ zk_64a6c42c) (fun _ h9 => h9) rfl zd_R_takeLower_12 ?_
  refine va_put (D := (dC, dI)) (ci := 4) (v := .int (st.2.2.1 + p1)) (C := zr_R) (T := zF_R) (N := 9) hx hb htB zi_R zT_R zT_R_ok zn_R hown hK hP hD hS 0 rfl rfl 3 (by decide) (htB _ zk_19b26606) (fun _ h9 => h9) rfl (zT_R_ok 3 (by decide)) rfl rfl (Nat.le_of_ble_eq_true rfl) zd_R_takeLower_15 (fun H locs hP hD hS => ?_)
  have hP : va_P (dC, dI) zz_cl (zw_R cI cZ cL a0 (st.1, st.2.1, st.2.2.1 + p1, st.2.2.1 + p1, st.2.2.2.2.1, st.2.2.2.2.2.1, st.2.2.2.2.2.2.1, st.2.2.2.2.2.2.2.1, st.2.2.2.2.2.2.2.2)) H := hP
  have hD : va_D A (zw_R cI cZ cL a0 (st.1, st.2.1, st.2.2.1 + p1, st.2.2.1 + p1, st.2.2.2.2.1, st.2.2.2.2.2.1, st.2.2.2.2.2.2.1, st.2.2.2.2.2.2.2.1, st.2.2.2.2.2.2.2.2)) := hD
  refine lv_aload_n hx hb zd_R_takeLower_18 rfl (lv_at hl 0 rfl) ?_
  refine va_get (D := (dC, dI)) (ci := 4) (v := .int (st.2.2.1 + p1)) (C := zr_R) (T := zF_R) (N := 9) hx hb htB zi_R hown hK hP 0 rfl rfl 2 (by decide) (htB _ zk_64a6c42c) (fun _ h9 => h9) rfl zd_R_takeLower_19 ?_
  refine lv_sipush (v := 610) hx hb zd_R_takeLower_22 (by decide) ?_
  refine lv_icmp_gt (tgt := 32) hx hb zd_R_takeLower_25 (by decide) (fun c_25 => ?_) (fun c_25 => ?_)
  · refine lv_iconst (v := 0) hx hb zd_R_takeLower_32 (by decide) ?_
    rw [(show zf_R_takeLower st p1 = (0, (st.1, st.2.1, st.2.2.1 + p1, st.2.2.1 + p1, st.2.2.2.2.1, st.2.2.2.2.2.1, st.2.2.2.2.2.2.1, st.2.2.2.2.2.2.2.1, st.2.2.2.2.2.2.2.2)) from by rw [zf_R_takeLower, if_pos c_25])]
    exact zz_zret hx hb hr hlocks narrow_b0 hK hP hD hS zd_R_takeLower_33 rfl
  · refine lv_iconst (v := 1) hx hb zd_R_takeLower_28 (by decide) ?_
    refine lv_goto (tgt := 33) hx hb zd_R_takeLower_29 (by decide) ?_
    rw [(show zf_R_takeLower st p1 = (1, (st.1, st.2.1, st.2.2.1 + p1, st.2.2.1 + p1, st.2.2.2.2.1, st.2.2.2.2.2.1, st.2.2.2.2.2.2.1, st.2.2.2.2.2.2.2.1, st.2.2.2.2.2.2.2.2)) from by rw [zf_R_takeLower, if_neg c_25])]
    exact zz_zret hx hb hr hlocks narrow_b1 hK hP hD hS zd_R_takeLower_33 rfl
set_option maxHeartbeats 4000000 in
set_option maxRecDepth 100000 in
theorem zc_R_takeField (l : Launch) (dC : Nat → ClassId) (dI : Nat → Nat → Nat) (cI cZ cL : ClassId) (a0 : Nat) (sz : Nat) (st : zu_R) (p1 : Int32)  : Met l zy_R_takeField (zz_ws zy_R_takeField zb_R_takeField 2 (some .boolean)) ({ frames := 1, cells := 0, slots := 0, locals := 21 } : Room) (va_Pc ([.ref a0, .int p1] : List Value) (zz_P (dC, dI) (zz_ty cI cZ cL) sz (zw_R cI cZ cL a0 st))) (zz_Qi (dC, dI) (zz_ty cI cZ cL) (va_A (zw_R cI cZ cL a0 st) sz) ((zf_R_takeField st p1).1) (zw_R cI cZ cL a0 ((zf_R_takeField st p1).2))) 0 0 (va_A (zw_R cI cZ cL a0 st) sz) := by
  refine zz_ofW (Q := fun A => (zz_Qi (dC, dI) (zz_ty cI cZ cL) A ((zf_R_takeField st p1).1) (zw_R cI cZ cL a0 ((zf_R_takeField st p1).2)))) (by decide) (Nat.le_of_ble_eq_true rfl) ?_
  intro p e s m below meth c A C0 _ hA hK hP hD _ ls hl
  obtain ⟨hx, hb, hr, hml, hown, htB, hlocks, hE⟩ := id C0
  have hS : va_S A s.heap s.heap [] := va_S.rf
  have hl : lv_has ls 2 [(0, .ref a0), (1, .int p1)] := hl
  refine lv_aload_n hx hb zd_R_takeField_0 rfl (lv_at hl 0 rfl) ?_
  refine lv_iload_n hx hb zd_R_takeField_1 rfl (lv_at hl 1 rfl) ?_
  refine va_put (D := (dC, dI)) (ci := 4) (v := .int p1) (C := zr_R) (T := zF_R) (N := 9) hx hb htB zi_R zT_R zT_R_ok zn_R hown hK hP hD hS 0 rfl rfl 4 (by decide) (htB _ zk_38af8887) (fun _ h9 => h9) rfl (zT_R_ok 4 (by decide)) rfl rfl (Nat.le_of_ble_eq_true rfl) zd_R_takeField_2 (fun H locs hP hD hS => ?_)
  have hP : va_P (dC, dI) zz_cl (zw_R cI cZ cL a0 (st.1, st.2.1, st.2.2.1, st.2.2.2.1, p1, st.2.2.2.2.2.1, st.2.2.2.2.2.2.1, st.2.2.2.2.2.2.2.1, st.2.2.2.2.2.2.2.2)) H := hP
  have hD : va_D A (zw_R cI cZ cL a0 (st.1, st.2.1, st.2.2.1, st.2.2.2.1, p1, st.2.2.2.2.2.1, st.2.2.2.2.2.2.1, st.2.2.2.2.2.2.2.1, st.2.2.2.2.2.2.2.2)) := hD
  refine lv_iload_n hx hb zd_R_takeField_5 rfl (lv_at hl 1 rfl) ?_
  refine lv_bipush (v := 19) hx hb zd_R_takeField_6 (by decide) ?_
  refine lv_icmp_gt (tgt := 27) hx hb zd_R_takeField_8 (by decide) (fun c_8 => ?_) (fun c_8 => ?_)
  · refine lv_iconst (v := 0) hx hb zd_R_takeField_27 (by decide) ?_
    rw [(show zf_R_takeField st p1 = (0, (st.1, st.2.1, st.2.2.1, st.2.2.2.1, p1, st.2.2.2.2.2.1, st.2.2.2.2.2.2.1, st.2.2.2.2.2.2.2.1, st.2.2.2.2.2.2.2.2)) from by rw [zf_R_takeField, if_pos c_8])]
    exact zz_zret hx hb hr hlocks narrow_b0 hK hP hD hS zd_R_takeField_28 rfl
  · refine lv_aload_n hx hb zd_R_takeField_11 rfl (lv_at hl 0 rfl) ?_
    refine va_get (D := (dC, dI)) (ci := 4) (v := .int st.2.1) (C := zr_R) (T := zF_R) (N := 9) hx hb htB zi_R hown hK hP 0 rfl rfl 1 (by decide) (htB _ zk_04fa654a) (fun _ h9 => h9) rfl zd_R_takeField_12 ?_
    refine lv_iload_n hx hb zd_R_takeField_15 rfl (lv_at hl 1 rfl) ?_
    refine zz_ki (va_runSN (As := [.int st.2.1, .int p1]) (rest := []) ⟨hx, hb, hml, hown, htB⟩ (zc_X_needBy l dC dI cI cZ cL  H.size  st.2.1 p1 ) ⟨va_cnB 2 htB (zz_gB zk_dd814726) rfl rfl rfl (hE.1 _ (List.mem_of_getElem? (i := 3) rfl)) (htB _ zk_cfe38e2e) zh_X_needBy ⟨Nat.le_of_ble_eq_true rfl, Nat.le_of_ble_eq_true rfl⟩, htB _ zk_e14187d6, trivial⟩ (zz_preS hP hD hK hE [] (by decide) rfl) rfl rfl hl.1 rfl (lv_room (Nat.le_of_ble_eq_true rfl)) zd_R_takeField_16 ⟨Nat.le_of_ble_eq_true rfl, Nat.le_of_ble_eq_true rfl⟩) ?_
    refine lv_iconst (v := 3) hx hb zd_R_takeField_19 (by decide) ?_
    refine lv_icmp_eq (tgt := 27) hx hb zd_R_takeField_20 (by decide) (fun c_20 => ?_) (fun c_20 => ?_)
    · refine lv_iconst (v := 0) hx hb zd_R_takeField_27 (by decide) ?_
      rw [(show zf_R_takeField st p1 = (0, (st.1, st.2.1, st.2.2.1, st.2.2.2.1, p1, st.2.2.2.2.2.1, st.2.2.2.2.2.2.1, st.2.2.2.2.2.2.2.1, st.2.2.2.2.2.2.2.2)) from by rw [zf_R_takeField, if_neg c_8, if_pos c_20])]
      exact zz_zret hx hb hr hlocks narrow_b0 hK hP hD hS zd_R_takeField_28 rfl
    · refine lv_iconst (v := 1) hx hb zd_R_takeField_23 (by decide) ?_
      refine lv_goto (tgt := 28) hx hb zd_R_takeField_24 (by decide) ?_
      rw [(show zf_R_takeField st p1 = (1, (st.1, st.2.1, st.2.2.1, st.2.2.2.1, p1, st.2.2.2.2.2.1, st.2.2.2.2.2.2.1, st.2.2.2.2.2.2.2.1, st.2.2.2.2.2.2.2.2)) from by rw [zf_R_takeField, if_neg c_8, if_neg c_20])]
      exact zz_zret hx hb hr hlocks narrow_b1 hK hP hD hS zd_R_takeField_28 rfl
set_option maxHeartbeats 4000000 in
set_option maxRecDepth 100000 in
theorem zc_R_takeLine (l : Launch) (dC : Nat → ClassId) (dI : Nat → Nat → Nat) (cI cZ cL : ClassId) (a0 : Nat) (sz : Nat) (st : zu_R) (p1 : Int32)  : Met l zy_R_takeLine (zz_ws zy_R_takeLine zb_R_takeLine 5 (some .boolean)) ({ frames := 0, cells := 0, slots := 0, locals := 0 } : Room) (va_Pc ([.ref a0, .int p1] : List Value) (zz_P (dC, dI) (zz_ty cI cZ cL) sz (zw_R cI cZ cL a0 st))) (zz_Qi (dC, dI) (zz_ty cI cZ cL) (va_A (zw_R cI cZ cL a0 st) sz) ((zf_R_takeLine st p1).1) (zw_R cI cZ cL a0 ((zf_R_takeLine st p1).2))) 0 0 (va_A (zw_R cI cZ cL a0 st) sz) := by
  refine zz_ofW (Q := fun A => (zz_Qi (dC, dI) (zz_ty cI cZ cL) A ((zf_R_takeLine st p1).1) (zw_R cI cZ cL a0 ((zf_R_takeLine st p1).2)))) (by decide) (Nat.le_of_ble_eq_true rfl) ?_
  intro p e s m below meth c A C0 _ hA hK hP hD _ ls hl
  obtain ⟨hx, hb, hr, hml, hown, htB, hlocks, hE⟩ := id C0
  have hS : va_S A s.heap s.heap [] := va_S.rf
  have hl : lv_has ls 5 [(0, .ref a0), (1, .int p1)] := hl
  refine lv_aload_n hx hb zd_R_takeLine_0 rfl (lv_at hl 0 rfl) ?_
  refine va_get (D := (dC, dI)) (ci := 4) (v := .int st.2.2.2.2.1) (C := zr_R) (T := zF_R) (N := 9) hx hb htB zi_R hown hK hP 0 rfl rfl 4 (by decide) (htB _ zk_38af8887) (fun _ h9 => h9) rfl zd_R_takeLine_1 ?_
  refine lv_bipush (v := 10) hx hb zd_R_takeLine_4 (by decide) ?_
  refine lv_icmp_ge (tgt := 21) hx hb zd_R_takeLine_6 (by decide) (fun c_6 => ?_) (fun c_6 => ?_)
  · refine lv_iload_n hx hb zd_R_takeLine_21 rfl (lv_at hl 1 rfl) ?_
    refine lv_iconst (v := 1) hx hb zd_R_takeLine_22 (by decide) ?_
    refine lv_icmp_lt (tgt := 36) hx hb zd_R_takeLine_23 (by decide) (fun c_23 => ?_) (fun c_23 => ?_)
    · refine lv_iconst (v := 0) hx hb zd_R_takeLine_36 (by decide) ?_
      refine lv_istore_n (lv' := [(2, .int 0), (0, .ref a0), (1, .int p1)]) hx hb zd_R_takeLine_37 rfl hl (by decide) rfl (fun ls hl => ?_)
      refine lv_iload_n hx hb zd_R_takeLine_38 rfl (lv_at hl 2 rfl) ?_
      refine lv_bipush (v := 10) hx hb zd_R_takeLine_39 (by decide) ?_
      refine lv_imul hx hb zd_R_takeLine_41 ?_
      refine lv_aload_n hx hb zd_R_takeLine_42 rfl (lv_at hl 1 rfl) ?_
      refine va_get (D := (dC, dI)) (ci := 4) (v := .int st.2.2.2.2.1) (C := zr_R) (T := zF_R) (N := 9) hx hb htB zi_R hown hK hP 0 rfl rfl 4 (by decide) (htB _ zk_38af8887) (fun _ h9 => h9) rfl zd_R_takeLine_43 ?_
      refine lv_bipush (v := 10) hx hb zd_R_takeLine_46 (by decide) ?_
      refine lv_irem hx hb zd_R_takeLine_48 (by decide) ?_
      refine lv_iadd hx hb zd_R_takeLine_49 ?_
      refine lv_istore_n (lv' := [(3, .int ((p1 * 10) + (st.2.2.2.2.1 - st.2.2.2.2.1 / 10 * 10))), (2, .int 0), (0, .ref a0), (1, .int p1)]) hx hb zd_R_takeLine_50 rfl hl (by decide) rfl (fun ls hl => ?_)
      refine lv_iload_n hx hb zd_R_takeLine_51 rfl (lv_at hl 0 rfl) ?_
      refine lv_aload_n hx hb zd_R_takeLine_52 rfl (lv_at hl 2 rfl) ?_
      refine va_get (D := (dC, dI)) (ci := 4) (v := .int st.2.2.2.2.2.1) (C := zr_R) (T := zF_R) (N := 9) hx hb htB zi_R hown hK hP 0 rfl rfl 5 (by decide) (htB _ zk_5d4512b9) (fun _ h9 => h9) rfl zd_R_takeLine_53 ?_
      refine lv_icmp_le (tgt := 63) hx hb zd_R_takeLine_56 (by decide) (fun c_56 => ?_) (fun c_56 => ?_)
      · refine lv_iconst (v := 0) hx hb zd_R_takeLine_63 (by decide) ?_
        refine lv_istore (lv' := [(4, .int 0), (3, .int ((p1 * 10) + (st.2.2.2.2.1 - st.2.2.2.2.1 / 10 * 10))), (2, .int 0), (0, .ref a0), (1, .int p1)]) hx hb zd_R_takeLine_64 hl (by decide) rfl (fun ls hl => ?_)
        refine lv_aload_n hx hb zd_R_takeLine_66 rfl (lv_at hl 3 rfl) ?_
        refine lv_iload_n hx hb zd_R_takeLine_67 rfl (lv_at hl 1 rfl) ?_
        refine va_put (D := (dC, dI)) (ci := 4) (v := .int ((p1 * 10) + (st.2.2.2.2.1 - st.2.2.2.2.1 / 10 * 10))) (C := zr_R) (T := zF_R) (N := 9) hx hb htB zi_R zT_R zT_R_ok zn_R hown hK hP hD hS 0 rfl rfl 5 (by decide) (htB _ zk_5d4512b9) (fun _ h9 => h9) rfl (zT_R_ok 5 (by decide)) rfl rfl (Nat.le_of_ble_eq_true rfl) zd_R_takeLine_68 (fun H locs hP hD hS => ?_)
        have hP : va_P (dC, dI) zz_cl (zw_R cI cZ cL a0 (st.1, st.2.1, st.2.2.1, st.2.2.2.1, st.2.2.2.2.1, (p1 * 10) + (st.2.2.2.2.1 - st.2.2.2.2.1 / 10 * 10), st.2.2.2.2.2.2.1, st.2.2.2.2.2.2.2.1, st.2.2.2.2.2.2.2.2)) H := hP
        have hD : va_D A (zw_R cI cZ cL a0 (st.1, st.2.1, st.2.2.1, st.2.2.2.1, st.2.2.2.2.1, (p1 * 10) + (st.2.2.2.2.1 - st.2.2.2.2.1 / 10 * 10), st.2.2.2.2.2.2.1, st.2.2.2.2.2.2.2.1, st.2.2.2.2.2.2.2.2)) := hD
        refine lv_aload_n hx hb zd_R_takeLine_71 rfl (lv_at hl 3 rfl) ?_
        refine lv_lconst (v := 0) hx hb zd_R_takeLine_72 (by decide) ?_
        refine va_put (D := (dC, dI)) (ci := 4) (v := .long 0) (C := zr_R) (T := zF_R) (N := 9) hx hb htB zi_R zT_R zT_R_ok zn_R hown hK hP hD hS 0 rfl rfl 6 (by decide) (htB _ zk_d4c3bc94) (fun _ h9 => h9) rfl (zT_R_ok 6 (by decide)) rfl rfl (Nat.le_of_ble_eq_true rfl) zd_R_takeLine_73 (fun H locs hP hD hS => ?_)
        have hP : va_P (dC, dI) zz_cl (zw_R cI cZ cL a0 (st.1, st.2.1, st.2.2.1, st.2.2.2.1, st.2.2.2.2.1, (p1 * 10) + (st.2.2.2.2.1 - st.2.2.2.2.1 / 10 * 10), 0, st.2.2.2.2.2.2.2.1, st.2.2.2.2.2.2.2.2)) H := hP
        have hD : va_D A (zw_R cI cZ cL a0 (st.1, st.2.1, st.2.2.1, st.2.2.2.1, st.2.2.2.2.1, (p1 * 10) + (st.2.2.2.2.1 - st.2.2.2.2.1 / 10 * 10), 0, st.2.2.2.2.2.2.2.1, st.2.2.2.2.2.2.2.2)) := hD
        refine lv_iload_n hx hb zd_R_takeLine_76 rfl (lv_at hl 2 rfl) ?_
        refine lv_if_eq (tgt := 89) hx hb zd_R_takeLine_77 (by decide) (fun _ => ?_) (fun c_ => absurd (by decide) c_)
        refine lv_iconst (v := 0) hx hb zd_R_takeLine_89 (by decide) ?_
        rw [(show zf_R_takeLine st p1 = (0, (st.1, st.2.1, st.2.2.1, st.2.2.2.1, st.2.2.2.2.1, (p1 * 10) + (st.2.2.2.2.1 - st.2.2.2.2.1 / 10 * 10), 0, st.2.2.2.2.2.2.2.1, st.2.2.2.2.2.2.2.2)) from by rw [zf_R_takeLine, if_pos c_6, if_pos c_23, if_pos c_56])]
        exact zz_zret hx hb hr hlocks narrow_b0 hK hP hD hS zd_R_takeLine_90 rfl
      · refine lv_iconst (v := 1) hx hb zd_R_takeLine_59 (by decide) ?_
        refine lv_goto (tgt := 64) hx hb zd_R_takeLine_60 (by decide) ?_
        refine lv_istore (lv' := [(4, .int 1), (3, .int ((p1 * 10) + (st.2.2.2.2.1 - st.2.2.2.2.1 / 10 * 10))), (2, .int 0), (0, .ref a0), (1, .int p1)]) hx hb zd_R_takeLine_64 hl (by decide) rfl (fun ls hl => ?_)
        refine lv_aload_n hx hb zd_R_takeLine_66 rfl (lv_at hl 3 rfl) ?_
        refine lv_iload_n hx hb zd_R_takeLine_67 rfl (lv_at hl 1 rfl) ?_
        refine va_put (D := (dC, dI)) (ci := 4) (v := .int ((p1 * 10) + (st.2.2.2.2.1 - st.2.2.2.2.1 / 10 * 10))) (C := zr_R) (T := zF_R) (N := 9) hx hb htB zi_R zT_R zT_R_ok zn_R hown hK hP hD hS 0 rfl rfl 5 (by decide) (htB _ zk_5d4512b9) (fun _ h9 => h9) rfl (zT_R_ok 5 (by decide)) rfl rfl (Nat.le_of_ble_eq_true rfl) zd_R_takeLine_68 (fun H locs hP hD hS => ?_)
        have hP : va_P (dC, dI) zz_cl (zw_R cI cZ cL a0 (st.1, st.2.1, st.2.2.1, st.2.2.2.1, st.2.2.2.2.1, (p1 * 10) + (st.2.2.2.2.1 - st.2.2.2.2.1 / 10 * 10), st.2.2.2.2.2.2.1, st.2.2.2.2.2.2.2.1, st.2.2.2.2.2.2.2.2)) H := hP
        have hD : va_D A (zw_R cI cZ cL a0 (st.1, st.2.1, st.2.2.1, st.2.2.2.1, st.2.2.2.2.1, (p1 * 10) + (st.2.2.2.2.1 - st.2.2.2.2.1 / 10 * 10), st.2.2.2.2.2.2.1, st.2.2.2.2.2.2.2.1, st.2.2.2.2.2.2.2.2)) := hD
        refine lv_aload_n hx hb zd_R_takeLine_71 rfl (lv_at hl 3 rfl) ?_
        refine lv_lconst (v := 0) hx hb zd_R_takeLine_72 (by decide) ?_
        refine va_put (D := (dC, dI)) (ci := 4) (v := .long 0) (C := zr_R) (T := zF_R) (N := 9) hx hb htB zi_R zT_R zT_R_ok zn_R hown hK hP hD hS 0 rfl rfl 6 (by decide) (htB _ zk_d4c3bc94) (fun _ h9 => h9) rfl (zT_R_ok 6 (by decide)) rfl rfl (Nat.le_of_ble_eq_true rfl) zd_R_takeLine_73 (fun H locs hP hD hS => ?_)
        have hP : va_P (dC, dI) zz_cl (zw_R cI cZ cL a0 (st.1, st.2.1, st.2.2.1, st.2.2.2.1, st.2.2.2.2.1, (p1 * 10) + (st.2.2.2.2.1 - st.2.2.2.2.1 / 10 * 10), 0, st.2.2.2.2.2.2.2.1, st.2.2.2.2.2.2.2.2)) H := hP
        have hD : va_D A (zw_R cI cZ cL a0 (st.1, st.2.1, st.2.2.1, st.2.2.2.1, st.2.2.2.2.1, (p1 * 10) + (st.2.2.2.2.1 - st.2.2.2.2.1 / 10 * 10), 0, st.2.2.2.2.2.2.2.1, st.2.2.2.2.2.2.2.2)) := hD
        refine lv_iload_n hx hb zd_R_takeLine_76 rfl (lv_at hl 2 rfl) ?_
        refine lv_if_eq (tgt := 89) hx hb zd_R_takeLine_77 (by decide) (fun _ => ?_) (fun c_ => absurd (by decide) c_)
        refine lv_iconst (v := 0) hx hb zd_R_takeLine_89 (by decide) ?_
        rw [(show zf_R_takeLine st p1 = (0, (st.1, st.2.1, st.2.2.1, st.2.2.2.1, st.2.2.2.2.1, (p1 * 10) + (st.2.2.2.2.1 - st.2.2.2.2.1 / 10 * 10), 0, st.2.2.2.2.2.2.2.1, st.2.2.2.2.2.2.2.2)) from by rw [zf_R_takeLine, if_pos c_6, if_pos c_23, if_neg c_56])]
        exact zz_zret hx hb hr hlocks narrow_b0 hK hP hD hS zd_R_takeLine_90 rfl
    · refine lv_iload_n hx hb zd_R_takeLine_26 rfl (lv_at hl 1 rfl) ?_
      refine lv_bipush (v := 30) hx hb zd_R_takeLine_27 (by decide) ?_
      refine lv_icmp_gt (tgt := 36) hx hb zd_R_takeLine_29 (by decide) (fun c_29 => ?_) (fun c_29 => ?_)
      · refine lv_iconst (v := 0) hx hb zd_R_takeLine_36 (by decide) ?_
        refine lv_istore_n (lv' := [(2, .int 0), (0, .ref a0), (1, .int p1)]) hx hb zd_R_takeLine_37 rfl hl (by decide) rfl (fun ls hl => ?_)
        refine lv_iload_n hx hb zd_R_takeLine_38 rfl (lv_at hl 2 rfl) ?_
        refine lv_bipush (v := 10) hx hb zd_R_takeLine_39 (by decide) ?_
        refine lv_imul hx hb zd_R_takeLine_41 ?_
        refine lv_aload_n hx hb zd_R_takeLine_42 rfl (lv_at hl 1 rfl) ?_
        refine va_get (D := (dC, dI)) (ci := 4) (v := .int st.2.2.2.2.1) (C := zr_R) (T := zF_R) (N := 9) hx hb htB zi_R hown hK hP 0 rfl rfl 4 (by decide) (htB _ zk_38af8887) (fun _ h9 => h9) rfl zd_R_takeLine_43 ?_
        refine lv_bipush (v := 10) hx hb zd_R_takeLine_46 (by decide) ?_
        refine lv_irem hx hb zd_R_takeLine_48 (by decide) ?_
        refine lv_iadd hx hb zd_R_takeLine_49 ?_
        refine lv_istore_n (lv' := [(3, .int ((p1 * 10) + (st.2.2.2.2.1 - st.2.2.2.2.1 / 10 * 10))), (2, .int 0), (0, .ref a0), (1, .int p1)]) hx hb zd_R_takeLine_50 rfl hl (by decide) rfl (fun ls hl => ?_)
        refine lv_iload_n hx hb zd_R_takeLine_51 rfl (lv_at hl 0 rfl) ?_
        refine lv_aload_n hx hb zd_R_takeLine_52 rfl (lv_at hl 2 rfl) ?_
        refine va_get (D := (dC, dI)) (ci := 4) (v := .int st.2.2.2.2.2.1) (C := zr_R) (T := zF_R) (N := 9) hx hb htB zi_R hown hK hP 0 rfl rfl 5 (by decide) (htB _ zk_5d4512b9) (fun _ h9 => h9) rfl zd_R_takeLine_53 ?_
        refine lv_icmp_le (tgt := 63) hx hb zd_R_takeLine_56 (by decide) (fun c_56 => ?_) (fun c_56 => ?_)
        · refine lv_iconst (v := 0) hx hb zd_R_takeLine_63 (by decide) ?_
          refine lv_istore (lv' := [(4, .int 0), (3, .int ((p1 * 10) + (st.2.2.2.2.1 - st.2.2.2.2.1 / 10 * 10))), (2, .int 0), (0, .ref a0), (1, .int p1)]) hx hb zd_R_takeLine_64 hl (by decide) rfl (fun ls hl => ?_)
          refine lv_aload_n hx hb zd_R_takeLine_66 rfl (lv_at hl 3 rfl) ?_
          refine lv_iload_n hx hb zd_R_takeLine_67 rfl (lv_at hl 1 rfl) ?_
          refine va_put (D := (dC, dI)) (ci := 4) (v := .int ((p1 * 10) + (st.2.2.2.2.1 - st.2.2.2.2.1 / 10 * 10))) (C := zr_R) (T := zF_R) (N := 9) hx hb htB zi_R zT_R zT_R_ok zn_R hown hK hP hD hS 0 rfl rfl 5 (by decide) (htB _ zk_5d4512b9) (fun _ h9 => h9) rfl (zT_R_ok 5 (by decide)) rfl rfl (Nat.le_of_ble_eq_true rfl) zd_R_takeLine_68 (fun H locs hP hD hS => ?_)
          have hP : va_P (dC, dI) zz_cl (zw_R cI cZ cL a0 (st.1, st.2.1, st.2.2.1, st.2.2.2.1, st.2.2.2.2.1, (p1 * 10) + (st.2.2.2.2.1 - st.2.2.2.2.1 / 10 * 10), st.2.2.2.2.2.2.1, st.2.2.2.2.2.2.2.1, st.2.2.2.2.2.2.2.2)) H := hP
          have hD : va_D A (zw_R cI cZ cL a0 (st.1, st.2.1, st.2.2.1, st.2.2.2.1, st.2.2.2.2.1, (p1 * 10) + (st.2.2.2.2.1 - st.2.2.2.2.1 / 10 * 10), st.2.2.2.2.2.2.1, st.2.2.2.2.2.2.2.1, st.2.2.2.2.2.2.2.2)) := hD
          refine lv_aload_n hx hb zd_R_takeLine_71 rfl (lv_at hl 3 rfl) ?_
          refine lv_lconst (v := 0) hx hb zd_R_takeLine_72 (by decide) ?_
          refine va_put (D := (dC, dI)) (ci := 4) (v := .long 0) (C := zr_R) (T := zF_R) (N := 9) hx hb htB zi_R zT_R zT_R_ok zn_R hown hK hP hD hS 0 rfl rfl 6 (by decide) (htB _ zk_d4c3bc94) (fun _ h9 => h9) rfl (zT_R_ok 6 (by decide)) rfl rfl (Nat.le_of_ble_eq_true rfl) zd_R_takeLine_73 (fun H locs hP hD hS => ?_)
          have hP : va_P (dC, dI) zz_cl (zw_R cI cZ cL a0 (st.1, st.2.1, st.2.2.1, st.2.2.2.1, st.2.2.2.2.1, (p1 * 10) + (st.2.2.2.2.1 - st.2.2.2.2.1 / 10 * 10), 0, st.2.2.2.2.2.2.2.1, st.2.2.2.2.2.2.2.2)) H := hP
          have hD : va_D A (zw_R cI cZ cL a0 (st.1, st.2.1, st.2.2.1, st.2.2.2.1, st.2.2.2.2.1, (p1 * 10) + (st.2.2.2.2.1 - st.2.2.2.2.1 / 10 * 10), 0, st.2.2.2.2.2.2.2.1, st.2.2.2.2.2.2.2.2)) := hD
          refine lv_iload_n hx hb zd_R_takeLine_76 rfl (lv_at hl 2 rfl) ?_
          refine lv_if_eq (tgt := 89) hx hb zd_R_takeLine_77 (by decide) (fun _ => ?_) (fun c_ => absurd (by decide) c_)
          refine lv_iconst (v := 0) hx hb zd_R_takeLine_89 (by decide) ?_
          rw [(show zf_R_takeLine st p1 = (0, (st.1, st.2.1, st.2.2.1, st.2.2.2.1, st.2.2.2.2.1, (p1 * 10) + (st.2.2.2.2.1 - st.2.2.2.2.1 / 10 * 10), 0, st.2.2.2.2.2.2.2.1, st.2.2.2.2.2.2.2.2)) from by rw [zf_R_takeLine, if_pos c_6, if_neg c_23, if_pos c_29, if_pos c_56])]
          exact zz_zret hx hb hr hlocks narrow_b0 hK hP hD hS zd_R_takeLine_90 rfl
        · refine lv_iconst (v := 1) hx hb zd_R_takeLine_59 (by decide) ?_
          refine lv_goto (tgt := 64) hx hb zd_R_takeLine_60 (by decide) ?_
          refine lv_istore (lv' := [(4, .int 1), (3, .int ((p1 * 10) + (st.2.2.2.2.1 - st.2.2.2.2.1 / 10 * 10))), (2, .int 0), (0, .ref a0), (1, .int p1)]) hx hb zd_R_takeLine_64 hl (by decide) rfl (fun ls hl => ?_)
          refine lv_aload_n hx hb zd_R_takeLine_66 rfl (lv_at hl 3 rfl) ?_
          refine lv_iload_n hx hb zd_R_takeLine_67 rfl (lv_at hl 1 rfl) ?_
          refine va_put (D := (dC, dI)) (ci := 4) (v := .int ((p1 * 10) + (st.2.2.2.2.1 - st.2.2.2.2.1 / 10 * 10))) (C := zr_R) (T := zF_R) (N := 9) hx hb htB zi_R zT_R zT_R_ok zn_R hown hK hP hD hS 0 rfl rfl 5 (by decide) (htB _ zk_5d4512b9) (fun _ h9 => h9) rfl (zT_R_ok 5 (by decide)) rfl rfl (Nat.le_of_ble_eq_true rfl) zd_R_takeLine_68 (fun H locs hP hD hS => ?_)
          have hP : va_P (dC, dI) zz_cl (zw_R cI cZ cL a0 (st.1, st.2.1, st.2.2.1, st.2.2.2.1, st.2.2.2.2.1, (p1 * 10) + (st.2.2.2.2.1 - st.2.2.2.2.1 / 10 * 10), st.2.2.2.2.2.2.1, st.2.2.2.2.2.2.2.1, st.2.2.2.2.2.2.2.2)) H := hP
          have hD : va_D A (zw_R cI cZ cL a0 (st.1, st.2.1, st.2.2.1, st.2.2.2.1, st.2.2.2.2.1, (p1 * 10) + (st.2.2.2.2.1 - st.2.2.2.2.1 / 10 * 10), st.2.2.2.2.2.2.1, st.2.2.2.2.2.2.2.1, st.2.2.2.2.2.2.2.2)) := hD
          refine lv_aload_n hx hb zd_R_takeLine_71 rfl (lv_at hl 3 rfl) ?_
          refine lv_lconst (v := 0) hx hb zd_R_takeLine_72 (by decide) ?_
          refine va_put (D := (dC, dI)) (ci := 4) (v := .long 0) (C := zr_R) (T := zF_R) (N := 9) hx hb htB zi_R zT_R zT_R_ok zn_R hown hK hP hD hS 0 rfl rfl 6 (by decide) (htB _ zk_d4c3bc94) (fun _ h9 => h9) rfl (zT_R_ok 6 (by decide)) rfl rfl (Nat.le_of_ble_eq_true rfl) zd_R_takeLine_73 (fun H locs hP hD hS => ?_)
          have hP : va_P (dC, dI) zz_cl (zw_R cI cZ cL a0 (st.1, st.2.1, st.2.2.1, st.2.2.2.1, st.2.2.2.2.1, (p1 * 10) + (st.2.2.2.2.1 - st.2.2.2.2.1 / 10 * 10), 0, st.2.2.2.2.2.2.2.1, st.2.2.2.2.2.2.2.2)) H := hP
          have hD : va_D A (zw_R cI cZ cL a0 (st.1, st.2.1, st.2.2.1, st.2.2.2.1, st.2.2.2.2.1, (p1 * 10) + (st.2.2.2.2.1 - st.2.2.2.2.1 / 10 * 10), 0, st.2.2.2.2.2.2.2.1, st.2.2.2.2.2.2.2.2)) := hD
          refine lv_iload_n hx hb zd_R_takeLine_76 rfl (lv_at hl 2 rfl) ?_
          refine lv_if_eq (tgt := 89) hx hb zd_R_takeLine_77 (by decide) (fun _ => ?_) (fun c_ => absurd (by decide) c_)
          refine lv_iconst (v := 0) hx hb zd_R_takeLine_89 (by decide) ?_
          rw [(show zf_R_takeLine st p1 = (0, (st.1, st.2.1, st.2.2.1, st.2.2.2.1, st.2.2.2.2.1, (p1 * 10) + (st.2.2.2.2.1 - st.2.2.2.2.1 / 10 * 10), 0, st.2.2.2.2.2.2.2.1, st.2.2.2.2.2.2.2.2)) from by rw [zf_R_takeLine, if_pos c_6, if_neg c_23, if_pos c_29, if_neg c_56])]
          exact zz_zret hx hb hr hlocks narrow_b0 hK hP hD hS zd_R_takeLine_90 rfl
      · refine lv_iconst (v := 1) hx hb zd_R_takeLine_32 (by decide) ?_
        refine lv_goto (tgt := 37) hx hb zd_R_takeLine_33 (by decide) ?_
        refine lv_istore_n (lv' := [(2, .int 1), (0, .ref a0), (1, .int p1)]) hx hb zd_R_takeLine_37 rfl hl (by decide) rfl (fun ls hl => ?_)
        refine lv_iload_n hx hb zd_R_takeLine_38 rfl (lv_at hl 2 rfl) ?_
        refine lv_bipush (v := 10) hx hb zd_R_takeLine_39 (by decide) ?_
        refine lv_imul hx hb zd_R_takeLine_41 ?_
        refine lv_aload_n hx hb zd_R_takeLine_42 rfl (lv_at hl 1 rfl) ?_
        refine va_get (D := (dC, dI)) (ci := 4) (v := .int st.2.2.2.2.1) (C := zr_R) (T := zF_R) (N := 9) hx hb htB zi_R hown hK hP 0 rfl rfl 4 (by decide) (htB _ zk_38af8887) (fun _ h9 => h9) rfl zd_R_takeLine_43 ?_
        refine lv_bipush (v := 10) hx hb zd_R_takeLine_46 (by decide) ?_
        refine lv_irem hx hb zd_R_takeLine_48 (by decide) ?_
        refine lv_iadd hx hb zd_R_takeLine_49 ?_
        refine lv_istore_n (lv' := [(3, .int ((p1 * 10) + (st.2.2.2.2.1 - st.2.2.2.2.1 / 10 * 10))), (2, .int 1), (0, .ref a0), (1, .int p1)]) hx hb zd_R_takeLine_50 rfl hl (by decide) rfl (fun ls hl => ?_)
        refine lv_iload_n hx hb zd_R_takeLine_51 rfl (lv_at hl 0 rfl) ?_
        refine lv_aload_n hx hb zd_R_takeLine_52 rfl (lv_at hl 2 rfl) ?_
        refine va_get (D := (dC, dI)) (ci := 4) (v := .int st.2.2.2.2.2.1) (C := zr_R) (T := zF_R) (N := 9) hx hb htB zi_R hown hK hP 0 rfl rfl 5 (by decide) (htB _ zk_5d4512b9) (fun _ h9 => h9) rfl zd_R_takeLine_53 ?_
        refine lv_icmp_le (tgt := 63) hx hb zd_R_takeLine_56 (by decide) (fun c_56 => ?_) (fun c_56 => ?_)
        · refine lv_iconst (v := 0) hx hb zd_R_takeLine_63 (by decide) ?_
          refine lv_istore (lv' := [(4, .int 0), (3, .int ((p1 * 10) + (st.2.2.2.2.1 - st.2.2.2.2.1 / 10 * 10))), (2, .int 1), (0, .ref a0), (1, .int p1)]) hx hb zd_R_takeLine_64 hl (by decide) rfl (fun ls hl => ?_)
          refine lv_aload_n hx hb zd_R_takeLine_66 rfl (lv_at hl 3 rfl) ?_
          refine lv_iload_n hx hb zd_R_takeLine_67 rfl (lv_at hl 1 rfl) ?_
          refine va_put (D := (dC, dI)) (ci := 4) (v := .int ((p1 * 10) + (st.2.2.2.2.1 - st.2.2.2.2.1 / 10 * 10))) (C := zr_R) (T := zF_R) (N := 9) hx hb htB zi_R zT_R zT_R_ok zn_R hown hK hP hD hS 0 rfl rfl 5 (by decide) (htB _ zk_5d4512b9) (fun _ h9 => h9) rfl (zT_R_ok 5 (by decide)) rfl rfl (Nat.le_of_ble_eq_true rfl) zd_R_takeLine_68 (fun H locs hP hD hS => ?_)
          have hP : va_P (dC, dI) zz_cl (zw_R cI cZ cL a0 (st.1, st.2.1, st.2.2.1, st.2.2.2.1, st.2.2.2.2.1, (p1 * 10) + (st.2.2.2.2.1 - st.2.2.2.2.1 / 10 * 10), st.2.2.2.2.2.2.1, st.2.2.2.2.2.2.2.1, st.2.2.2.2.2.2.2.2)) H := hP
          have hD : va_D A (zw_R cI cZ cL a0 (st.1, st.2.1, st.2.2.1, st.2.2.2.1, st.2.2.2.2.1, (p1 * 10) + (st.2.2.2.2.1 - st.2.2.2.2.1 / 10 * 10), st.2.2.2.2.2.2.1, st.2.2.2.2.2.2.2.1, st.2.2.2.2.2.2.2.2)) := hD
          refine lv_aload_n hx hb zd_R_takeLine_71 rfl (lv_at hl 3 rfl) ?_
          refine lv_lconst (v := 0) hx hb zd_R_takeLine_72 (by decide) ?_
          refine va_put (D := (dC, dI)) (ci := 4) (v := .long 0) (C := zr_R) (T := zF_R) (N := 9) hx hb htB zi_R zT_R zT_R_ok zn_R hown hK hP hD hS 0 rfl rfl 6 (by decide) (htB _ zk_d4c3bc94) (fun _ h9 => h9) rfl (zT_R_ok 6 (by decide)) rfl rfl (Nat.le_of_ble_eq_true rfl) zd_R_takeLine_73 (fun H locs hP hD hS => ?_)
          have hP : va_P (dC, dI) zz_cl (zw_R cI cZ cL a0 (st.1, st.2.1, st.2.2.1, st.2.2.2.1, st.2.2.2.2.1, (p1 * 10) + (st.2.2.2.2.1 - st.2.2.2.2.1 / 10 * 10), 0, st.2.2.2.2.2.2.2.1, st.2.2.2.2.2.2.2.2)) H := hP
          have hD : va_D A (zw_R cI cZ cL a0 (st.1, st.2.1, st.2.2.1, st.2.2.2.1, st.2.2.2.2.1, (p1 * 10) + (st.2.2.2.2.1 - st.2.2.2.2.1 / 10 * 10), 0, st.2.2.2.2.2.2.2.1, st.2.2.2.2.2.2.2.2)) := hD
          refine lv_iload_n hx hb zd_R_takeLine_76 rfl (lv_at hl 2 rfl) ?_
          refine lv_if_eq (tgt := 89) hx hb zd_R_takeLine_77 (by decide) (fun c_ => absurd c_ (by decide)) (fun _ => ?_)
          refine lv_iload hx hb zd_R_takeLine_80 (lv_at hl 0 rfl) ?_
          refine lv_if_eq (tgt := 89) hx hb zd_R_takeLine_82 (by decide) (fun _ => ?_) (fun c_ => absurd (by decide) c_)
          refine lv_iconst (v := 0) hx hb zd_R_takeLine_89 (by decide) ?_
          rw [(show zf_R_takeLine st p1 = (0, (st.1, st.2.1, st.2.2.1, st.2.2.2.1, st.2.2.2.2.1, (p1 * 10) + (st.2.2.2.2.1 - st.2.2.2.2.1 / 10 * 10), 0, st.2.2.2.2.2.2.2.1, st.2.2.2.2.2.2.2.2)) from by rw [zf_R_takeLine, if_pos c_6, if_neg c_23, if_neg c_29, if_pos c_56])]
          exact zz_zret hx hb hr hlocks narrow_b0 hK hP hD hS zd_R_takeLine_90 rfl
        · refine lv_iconst (v := 1) hx hb zd_R_takeLine_59 (by decide) ?_
          refine lv_goto (tgt := 64) hx hb zd_R_takeLine_60 (by decide) ?_
          refine lv_istore (lv' := [(4, .int 1), (3, .int ((p1 * 10) + (st.2.2.2.2.1 - st.2.2.2.2.1 / 10 * 10))), (2, .int 1), (0, .ref a0), (1, .int p1)]) hx hb zd_R_takeLine_64 hl (by decide) rfl (fun ls hl => ?_)
          refine lv_aload_n hx hb zd_R_takeLine_66 rfl (lv_at hl 3 rfl) ?_
          refine lv_iload_n hx hb zd_R_takeLine_67 rfl (lv_at hl 1 rfl) ?_
          refine va_put (D := (dC, dI)) (ci := 4) (v := .int ((p1 * 10) + (st.2.2.2.2.1 - st.2.2.2.2.1 / 10 * 10))) (C := zr_R) (T := zF_R) (N := 9) hx hb htB zi_R zT_R zT_R_ok zn_R hown hK hP hD hS 0 rfl rfl 5 (by decide) (htB _ zk_5d4512b9) (fun _ h9 => h9) rfl (zT_R_ok 5 (by decide)) rfl rfl (Nat.le_of_ble_eq_true rfl) zd_R_takeLine_68 (fun H locs hP hD hS => ?_)
          have hP : va_P (dC, dI) zz_cl (zw_R cI cZ cL a0 (st.1, st.2.1, st.2.2.1, st.2.2.2.1, st.2.2.2.2.1, (p1 * 10) + (st.2.2.2.2.1 - st.2.2.2.2.1 / 10 * 10), st.2.2.2.2.2.2.1, st.2.2.2.2.2.2.2.1, st.2.2.2.2.2.2.2.2)) H := hP
          have hD : va_D A (zw_R cI cZ cL a0 (st.1, st.2.1, st.2.2.1, st.2.2.2.1, st.2.2.2.2.1, (p1 * 10) + (st.2.2.2.2.1 - st.2.2.2.2.1 / 10 * 10), st.2.2.2.2.2.2.1, st.2.2.2.2.2.2.2.1, st.2.2.2.2.2.2.2.2)) := hD
          refine lv_aload_n hx hb zd_R_takeLine_71 rfl (lv_at hl 3 rfl) ?_
          refine lv_lconst (v := 0) hx hb zd_R_takeLine_72 (by decide) ?_
          refine va_put (D := (dC, dI)) (ci := 4) (v := .long 0) (C := zr_R) (T := zF_R) (N := 9) hx hb htB zi_R zT_R zT_R_ok zn_R hown hK hP hD hS 0 rfl rfl 6 (by decide) (htB _ zk_d4c3bc94) (fun _ h9 => h9) rfl (zT_R_ok 6 (by decide)) rfl rfl (Nat.le_of_ble_eq_true rfl) zd_R_takeLine_73 (fun H locs hP hD hS => ?_)
          have hP : va_P (dC, dI) zz_cl (zw_R cI cZ cL a0 (st.1, st.2.1, st.2.2.1, st.2.2.2.1, st.2.2.2.2.1, (p1 * 10) + (st.2.2.2.2.1 - st.2.2.2.2.1 / 10 * 10), 0, st.2.2.2.2.2.2.2.1, st.2.2.2.2.2.2.2.2)) H := hP
          have hD : va_D A (zw_R cI cZ cL a0 (st.1, st.2.1, st.2.2.1, st.2.2.2.1, st.2.2.2.2.1, (p1 * 10) + (st.2.2.2.2.1 - st.2.2.2.2.1 / 10 * 10), 0, st.2.2.2.2.2.2.2.1, st.2.2.2.2.2.2.2.2)) := hD
          refine lv_iload_n hx hb zd_R_takeLine_76 rfl (lv_at hl 2 rfl) ?_
          refine lv_if_eq (tgt := 89) hx hb zd_R_takeLine_77 (by decide) (fun c_ => absurd c_ (by decide)) (fun _ => ?_)
          refine lv_iload hx hb zd_R_takeLine_80 (lv_at hl 0 rfl) ?_
          refine lv_if_eq (tgt := 89) hx hb zd_R_takeLine_82 (by decide) (fun c_ => absurd c_ (by decide)) (fun _ => ?_)
          refine lv_iconst (v := 1) hx hb zd_R_takeLine_85 (by decide) ?_
          refine lv_goto (tgt := 90) hx hb zd_R_takeLine_86 (by decide) ?_
          rw [(show zf_R_takeLine st p1 = (1, (st.1, st.2.1, st.2.2.1, st.2.2.2.1, st.2.2.2.2.1, (p1 * 10) + (st.2.2.2.2.1 - st.2.2.2.2.1 / 10 * 10), 0, st.2.2.2.2.2.2.2.1, st.2.2.2.2.2.2.2.2)) from by rw [zf_R_takeLine, if_pos c_6, if_neg c_23, if_neg c_29, if_neg c_56])]
          exact zz_zret hx hb hr hlocks narrow_b1 hK hP hD hS zd_R_takeLine_90 rfl
  · refine lv_iload_n hx hb zd_R_takeLine_9 rfl (lv_at hl 1 rfl) ?_
    refine lv_if_ne (tgt := 17) hx hb zd_R_takeLine_10 (by decide) (fun c_10 => ?_) (fun c_10 => ?_)
    · refine lv_iconst (v := 0) hx hb zd_R_takeLine_17 (by decide) ?_
      refine lv_goto (tgt := 37) hx hb zd_R_takeLine_18 (by decide) ?_
      refine lv_istore_n (lv' := [(2, .int 0), (0, .ref a0), (1, .int p1)]) hx hb zd_R_takeLine_37 rfl hl (by decide) rfl (fun ls hl => ?_)
      refine lv_iload_n hx hb zd_R_takeLine_38 rfl (lv_at hl 2 rfl) ?_
      refine lv_bipush (v := 10) hx hb zd_R_takeLine_39 (by decide) ?_
      refine lv_imul hx hb zd_R_takeLine_41 ?_
      refine lv_aload_n hx hb zd_R_takeLine_42 rfl (lv_at hl 1 rfl) ?_
      refine va_get (D := (dC, dI)) (ci := 4) (v := .int st.2.2.2.2.1) (C := zr_R) (T := zF_R) (N := 9) hx hb htB zi_R hown hK hP 0 rfl rfl 4 (by decide) (htB _ zk_38af8887) (fun _ h9 => h9) rfl zd_R_takeLine_43 ?_
      refine lv_bipush (v := 10) hx hb zd_R_takeLine_46 (by decide) ?_
      refine lv_irem hx hb zd_R_takeLine_48 (by decide) ?_
      refine lv_iadd hx hb zd_R_takeLine_49 ?_
      refine lv_istore_n (lv' := [(3, .int ((p1 * 10) + (st.2.2.2.2.1 - st.2.2.2.2.1 / 10 * 10))), (2, .int 0), (0, .ref a0), (1, .int p1)]) hx hb zd_R_takeLine_50 rfl hl (by decide) rfl (fun ls hl => ?_)
      refine lv_iload_n hx hb zd_R_takeLine_51 rfl (lv_at hl 0 rfl) ?_
      refine lv_aload_n hx hb zd_R_takeLine_52 rfl (lv_at hl 2 rfl) ?_
      refine va_get (D := (dC, dI)) (ci := 4) (v := .int st.2.2.2.2.2.1) (C := zr_R) (T := zF_R) (N := 9) hx hb htB zi_R hown hK hP 0 rfl rfl 5 (by decide) (htB _ zk_5d4512b9) (fun _ h9 => h9) rfl zd_R_takeLine_53 ?_
      refine lv_icmp_le (tgt := 63) hx hb zd_R_takeLine_56 (by decide) (fun c_56 => ?_) (fun c_56 => ?_)
      · refine lv_iconst (v := 0) hx hb zd_R_takeLine_63 (by decide) ?_
        refine lv_istore (lv' := [(4, .int 0), (3, .int ((p1 * 10) + (st.2.2.2.2.1 - st.2.2.2.2.1 / 10 * 10))), (2, .int 0), (0, .ref a0), (1, .int p1)]) hx hb zd_R_takeLine_64 hl (by decide) rfl (fun ls hl => ?_)
        refine lv_aload_n hx hb zd_R_takeLine_66 rfl (lv_at hl 3 rfl) ?_
        refine lv_iload_n hx hb zd_R_takeLine_67 rfl (lv_at hl 1 rfl) ?_
        refine va_put (D := (dC, dI)) (ci := 4) (v := .int ((p1 * 10) + (st.2.2.2.2.1 - st.2.2.2.2.1 / 10 * 10))) (C := zr_R) (T := zF_R) (N := 9) hx hb htB zi_R zT_R zT_R_ok zn_R hown hK hP hD hS 0 rfl rfl 5 (by decide) (htB _ zk_5d4512b9) (fun _ h9 => h9) rfl (zT_R_ok 5 (by decide)) rfl rfl (Nat.le_of_ble_eq_true rfl) zd_R_takeLine_68 (fun H locs hP hD hS => ?_)
        have hP : va_P (dC, dI) zz_cl (zw_R cI cZ cL a0 (st.1, st.2.1, st.2.2.1, st.2.2.2.1, st.2.2.2.2.1, (p1 * 10) + (st.2.2.2.2.1 - st.2.2.2.2.1 / 10 * 10), st.2.2.2.2.2.2.1, st.2.2.2.2.2.2.2.1, st.2.2.2.2.2.2.2.2)) H := hP
        have hD : va_D A (zw_R cI cZ cL a0 (st.1, st.2.1, st.2.2.1, st.2.2.2.1, st.2.2.2.2.1, (p1 * 10) + (st.2.2.2.2.1 - st.2.2.2.2.1 / 10 * 10), st.2.2.2.2.2.2.1, st.2.2.2.2.2.2.2.1, st.2.2.2.2.2.2.2.2)) := hD
        refine lv_aload_n hx hb zd_R_takeLine_71 rfl (lv_at hl 3 rfl) ?_
        refine lv_lconst (v := 0) hx hb zd_R_takeLine_72 (by decide) ?_
        refine va_put (D := (dC, dI)) (ci := 4) (v := .long 0) (C := zr_R) (T := zF_R) (N := 9) hx hb htB zi_R zT_R zT_R_ok zn_R hown hK hP hD hS 0 rfl rfl 6 (by decide) (htB _ zk_d4c3bc94) (fun _ h9 => h9) rfl (zT_R_ok 6 (by decide)) rfl rfl (Nat.le_of_ble_eq_true rfl) zd_R_takeLine_73 (fun H locs hP hD hS => ?_)
        have hP : va_P (dC, dI) zz_cl (zw_R cI cZ cL a0 (st.1, st.2.1, st.2.2.1, st.2.2.2.1, st.2.2.2.2.1, (p1 * 10) + (st.2.2.2.2.1 - st.2.2.2.2.1 / 10 * 10), 0, st.2.2.2.2.2.2.2.1, st.2.2.2.2.2.2.2.2)) H := hP
        have hD : va_D A (zw_R cI cZ cL a0 (st.1, st.2.1, st.2.2.1, st.2.2.2.1, st.2.2.2.2.1, (p1 * 10) + (st.2.2.2.2.1 - st.2.2.2.2.1 / 10 * 10), 0, st.2.2.2.2.2.2.2.1, st.2.2.2.2.2.2.2.2)) := hD
        refine lv_iload_n hx hb zd_R_takeLine_76 rfl (lv_at hl 2 rfl) ?_
        refine lv_if_eq (tgt := 89) hx hb zd_R_takeLine_77 (by decide) (fun _ => ?_) (fun c_ => absurd (by decide) c_)
        refine lv_iconst (v := 0) hx hb zd_R_takeLine_89 (by decide) ?_
        rw [(show zf_R_takeLine st p1 = (0, (st.1, st.2.1, st.2.2.1, st.2.2.2.1, st.2.2.2.2.1, (p1 * 10) + (st.2.2.2.2.1 - st.2.2.2.2.1 / 10 * 10), 0, st.2.2.2.2.2.2.2.1, st.2.2.2.2.2.2.2.2)) from by rw [zf_R_takeLine, if_neg c_6, if_neg c_10, if_pos c_56])]
        exact zz_zret hx hb hr hlocks narrow_b0 hK hP hD hS zd_R_takeLine_90 rfl
      · refine lv_iconst (v := 1) hx hb zd_R_takeLine_59 (by decide) ?_
        refine lv_goto (tgt := 64) hx hb zd_R_takeLine_60 (by decide) ?_
        refine lv_istore (lv' := [(4, .int 1), (3, .int ((p1 * 10) + (st.2.2.2.2.1 - st.2.2.2.2.1 / 10 * 10))), (2, .int 0), (0, .ref a0), (1, .int p1)]) hx hb zd_R_takeLine_64 hl (by decide) rfl (fun ls hl => ?_)
        refine lv_aload_n hx hb zd_R_takeLine_66 rfl (lv_at hl 3 rfl) ?_
        refine lv_iload_n hx hb zd_R_takeLine_67 rfl (lv_at hl 1 rfl) ?_
        refine va_put (D := (dC, dI)) (ci := 4) (v := .int ((p1 * 10) + (st.2.2.2.2.1 - st.2.2.2.2.1 / 10 * 10))) (C := zr_R) (T := zF_R) (N := 9) hx hb htB zi_R zT_R zT_R_ok zn_R hown hK hP hD hS 0 rfl rfl 5 (by decide) (htB _ zk_5d4512b9) (fun _ h9 => h9) rfl (zT_R_ok 5 (by decide)) rfl rfl (Nat.le_of_ble_eq_true rfl) zd_R_takeLine_68 (fun H locs hP hD hS => ?_)
        have hP : va_P (dC, dI) zz_cl (zw_R cI cZ cL a0 (st.1, st.2.1, st.2.2.1, st.2.2.2.1, st.2.2.2.2.1, (p1 * 10) + (st.2.2.2.2.1 - st.2.2.2.2.1 / 10 * 10), st.2.2.2.2.2.2.1, st.2.2.2.2.2.2.2.1, st.2.2.2.2.2.2.2.2)) H := hP
        have hD : va_D A (zw_R cI cZ cL a0 (st.1, st.2.1, st.2.2.1, st.2.2.2.1, st.2.2.2.2.1, (p1 * 10) + (st.2.2.2.2.1 - st.2.2.2.2.1 / 10 * 10), st.2.2.2.2.2.2.1, st.2.2.2.2.2.2.2.1, st.2.2.2.2.2.2.2.2)) := hD
        refine lv_aload_n hx hb zd_R_takeLine_71 rfl (lv_at hl 3 rfl) ?_
        refine lv_lconst (v := 0) hx hb zd_R_takeLine_72 (by decide) ?_
        refine va_put (D := (dC, dI)) (ci := 4) (v := .long 0) (C := zr_R) (T := zF_R) (N := 9) hx hb htB zi_R zT_R zT_R_ok zn_R hown hK hP hD hS 0 rfl rfl 6 (by decide) (htB _ zk_d4c3bc94) (fun _ h9 => h9) rfl (zT_R_ok 6 (by decide)) rfl rfl (Nat.le_of_ble_eq_true rfl) zd_R_takeLine_73 (fun H locs hP hD hS => ?_)
        have hP : va_P (dC, dI) zz_cl (zw_R cI cZ cL a0 (st.1, st.2.1, st.2.2.1, st.2.2.2.1, st.2.2.2.2.1, (p1 * 10) + (st.2.2.2.2.1 - st.2.2.2.2.1 / 10 * 10), 0, st.2.2.2.2.2.2.2.1, st.2.2.2.2.2.2.2.2)) H := hP
        have hD : va_D A (zw_R cI cZ cL a0 (st.1, st.2.1, st.2.2.1, st.2.2.2.1, st.2.2.2.2.1, (p1 * 10) + (st.2.2.2.2.1 - st.2.2.2.2.1 / 10 * 10), 0, st.2.2.2.2.2.2.2.1, st.2.2.2.2.2.2.2.2)) := hD
        refine lv_iload_n hx hb zd_R_takeLine_76 rfl (lv_at hl 2 rfl) ?_
        refine lv_if_eq (tgt := 89) hx hb zd_R_takeLine_77 (by decide) (fun _ => ?_) (fun c_ => absurd (by decide) c_)
        refine lv_iconst (v := 0) hx hb zd_R_takeLine_89 (by decide) ?_
        rw [(show zf_R_takeLine st p1 = (0, (st.1, st.2.1, st.2.2.1, st.2.2.2.1, st.2.2.2.2.1, (p1 * 10) + (st.2.2.2.2.1 - st.2.2.2.2.1 / 10 * 10), 0, st.2.2.2.2.2.2.2.1, st.2.2.2.2.2.2.2.2)) from by rw [zf_R_takeLine, if_neg c_6, if_neg c_10, if_neg c_56])]
        exact zz_zret hx hb hr hlocks narrow_b0 hK hP hD hS zd_R_takeLine_90 rfl
    · refine lv_iconst (v := 1) hx hb zd_R_takeLine_13 (by decide) ?_
      refine lv_goto (tgt := 37) hx hb zd_R_takeLine_14 (by decide) ?_
      refine lv_istore_n (lv' := [(2, .int 1), (0, .ref a0), (1, .int p1)]) hx hb zd_R_takeLine_37 rfl hl (by decide) rfl (fun ls hl => ?_)
      refine lv_iload_n hx hb zd_R_takeLine_38 rfl (lv_at hl 2 rfl) ?_
      refine lv_bipush (v := 10) hx hb zd_R_takeLine_39 (by decide) ?_
      refine lv_imul hx hb zd_R_takeLine_41 ?_
      refine lv_aload_n hx hb zd_R_takeLine_42 rfl (lv_at hl 1 rfl) ?_
      refine va_get (D := (dC, dI)) (ci := 4) (v := .int st.2.2.2.2.1) (C := zr_R) (T := zF_R) (N := 9) hx hb htB zi_R hown hK hP 0 rfl rfl 4 (by decide) (htB _ zk_38af8887) (fun _ h9 => h9) rfl zd_R_takeLine_43 ?_
      refine lv_bipush (v := 10) hx hb zd_R_takeLine_46 (by decide) ?_
      refine lv_irem hx hb zd_R_takeLine_48 (by decide) ?_
      refine lv_iadd hx hb zd_R_takeLine_49 ?_
      refine lv_istore_n (lv' := [(3, .int ((p1 * 10) + (st.2.2.2.2.1 - st.2.2.2.2.1 / 10 * 10))), (2, .int 1), (0, .ref a0), (1, .int p1)]) hx hb zd_R_takeLine_50 rfl hl (by decide) rfl (fun ls hl => ?_)
      refine lv_iload_n hx hb zd_R_takeLine_51 rfl (lv_at hl 0 rfl) ?_
      refine lv_aload_n hx hb zd_R_takeLine_52 rfl (lv_at hl 2 rfl) ?_
      refine va_get (D := (dC, dI)) (ci := 4) (v := .int st.2.2.2.2.2.1) (C := zr_R) (T := zF_R) (N := 9) hx hb htB zi_R hown hK hP 0 rfl rfl 5 (by decide) (htB _ zk_5d4512b9) (fun _ h9 => h9) rfl zd_R_takeLine_53 ?_
      refine lv_icmp_le (tgt := 63) hx hb zd_R_takeLine_56 (by decide) (fun c_56 => ?_) (fun c_56 => ?_)
      · refine lv_iconst (v := 0) hx hb zd_R_takeLine_63 (by decide) ?_
        refine lv_istore (lv' := [(4, .int 0), (3, .int ((p1 * 10) + (st.2.2.2.2.1 - st.2.2.2.2.1 / 10 * 10))), (2, .int 1), (0, .ref a0), (1, .int p1)]) hx hb zd_R_takeLine_64 hl (by decide) rfl (fun ls hl => ?_)
        refine lv_aload_n hx hb zd_R_takeLine_66 rfl (lv_at hl 3 rfl) ?_
        refine lv_iload_n hx hb zd_R_takeLine_67 rfl (lv_at hl 1 rfl) ?_
        refine va_put (D := (dC, dI)) (ci := 4) (v := .int ((p1 * 10) + (st.2.2.2.2.1 - st.2.2.2.2.1 / 10 * 10))) (C := zr_R) (T := zF_R) (N := 9) hx hb htB zi_R zT_R zT_R_ok zn_R hown hK hP hD hS 0 rfl rfl 5 (by decide) (htB _ zk_5d4512b9) (fun _ h9 => h9) rfl (zT_R_ok 5 (by decide)) rfl rfl (Nat.le_of_ble_eq_true rfl) zd_R_takeLine_68 (fun H locs hP hD hS => ?_)
        have hP : va_P (dC, dI) zz_cl (zw_R cI cZ cL a0 (st.1, st.2.1, st.2.2.1, st.2.2.2.1, st.2.2.2.2.1, (p1 * 10) + (st.2.2.2.2.1 - st.2.2.2.2.1 / 10 * 10), st.2.2.2.2.2.2.1, st.2.2.2.2.2.2.2.1, st.2.2.2.2.2.2.2.2)) H := hP
        have hD : va_D A (zw_R cI cZ cL a0 (st.1, st.2.1, st.2.2.1, st.2.2.2.1, st.2.2.2.2.1, (p1 * 10) + (st.2.2.2.2.1 - st.2.2.2.2.1 / 10 * 10), st.2.2.2.2.2.2.1, st.2.2.2.2.2.2.2.1, st.2.2.2.2.2.2.2.2)) := hD
        refine lv_aload_n hx hb zd_R_takeLine_71 rfl (lv_at hl 3 rfl) ?_
        refine lv_lconst (v := 0) hx hb zd_R_takeLine_72 (by decide) ?_
        refine va_put (D := (dC, dI)) (ci := 4) (v := .long 0) (C := zr_R) (T := zF_R) (N := 9) hx hb htB zi_R zT_R zT_R_ok zn_R hown hK hP hD hS 0 rfl rfl 6 (by decide) (htB _ zk_d4c3bc94) (fun _ h9 => h9) rfl (zT_R_ok 6 (by decide)) rfl rfl (Nat.le_of_ble_eq_true rfl) zd_R_takeLine_73 (fun H locs hP hD hS => ?_)
        have hP : va_P (dC, dI) zz_cl (zw_R cI cZ cL a0 (st.1, st.2.1, st.2.2.1, st.2.2.2.1, st.2.2.2.2.1, (p1 * 10) + (st.2.2.2.2.1 - st.2.2.2.2.1 / 10 * 10), 0, st.2.2.2.2.2.2.2.1, st.2.2.2.2.2.2.2.2)) H := hP
        have hD : va_D A (zw_R cI cZ cL a0 (st.1, st.2.1, st.2.2.1, st.2.2.2.1, st.2.2.2.2.1, (p1 * 10) + (st.2.2.2.2.1 - st.2.2.2.2.1 / 10 * 10), 0, st.2.2.2.2.2.2.2.1, st.2.2.2.2.2.2.2.2)) := hD
        refine lv_iload_n hx hb zd_R_takeLine_76 rfl (lv_at hl 2 rfl) ?_
        refine lv_if_eq (tgt := 89) hx hb zd_R_takeLine_77 (by decide) (fun c_ => absurd c_ (by decide)) (fun _ => ?_)
        refine lv_iload hx hb zd_R_takeLine_80 (lv_at hl 0 rfl) ?_
        refine lv_if_eq (tgt := 89) hx hb zd_R_takeLine_82 (by decide) (fun _ => ?_) (fun c_ => absurd (by decide) c_)
        refine lv_iconst (v := 0) hx hb zd_R_takeLine_89 (by decide) ?_
        rw [(show zf_R_takeLine st p1 = (0, (st.1, st.2.1, st.2.2.1, st.2.2.2.1, st.2.2.2.2.1, (p1 * 10) + (st.2.2.2.2.1 - st.2.2.2.2.1 / 10 * 10), 0, st.2.2.2.2.2.2.2.1, st.2.2.2.2.2.2.2.2)) from by rw [zf_R_takeLine, if_neg c_6, if_pos c_10, if_pos c_56])]
        exact zz_zret hx hb hr hlocks narrow_b0 hK hP hD hS zd_R_takeLine_90 rfl
      · refine lv_iconst (v := 1) hx hb zd_R_takeLine_59 (by decide) ?_
        refine lv_goto (tgt := 64) hx hb zd_R_takeLine_60 (by decide) ?_
        refine lv_istore (lv' := [(4, .int 1), (3, .int ((p1 * 10) + (st.2.2.2.2.1 - st.2.2.2.2.1 / 10 * 10))), (2, .int 1), (0, .ref a0), (1, .int p1)]) hx hb zd_R_takeLine_64 hl (by decide) rfl (fun ls hl => ?_)
        refine lv_aload_n hx hb zd_R_takeLine_66 rfl (lv_at hl 3 rfl) ?_
        refine lv_iload_n hx hb zd_R_takeLine_67 rfl (lv_at hl 1 rfl) ?_
        refine va_put (D := (dC, dI)) (ci := 4) (v := .int ((p1 * 10) + (st.2.2.2.2.1 - st.2.2.2.2.1 / 10 * 10))) (C := zr_R) (T := zF_R) (N := 9) hx hb htB zi_R zT_R zT_R_ok zn_R hown hK hP hD hS 0 rfl rfl 5 (by decide) (htB _ zk_5d4512b9) (fun _ h9 => h9) rfl (zT_R_ok 5 (by decide)) rfl rfl (Nat.le_of_ble_eq_true rfl) zd_R_takeLine_68 (fun H locs hP hD hS => ?_)
        have hP : va_P (dC, dI) zz_cl (zw_R cI cZ cL a0 (st.1, st.2.1, st.2.2.1, st.2.2.2.1, st.2.2.2.2.1, (p1 * 10) + (st.2.2.2.2.1 - st.2.2.2.2.1 / 10 * 10), st.2.2.2.2.2.2.1, st.2.2.2.2.2.2.2.1, st.2.2.2.2.2.2.2.2)) H := hP
        have hD : va_D A (zw_R cI cZ cL a0 (st.1, st.2.1, st.2.2.1, st.2.2.2.1, st.2.2.2.2.1, (p1 * 10) + (st.2.2.2.2.1 - st.2.2.2.2.1 / 10 * 10), st.2.2.2.2.2.2.1, st.2.2.2.2.2.2.2.1, st.2.2.2.2.2.2.2.2)) := hD
        refine lv_aload_n hx hb zd_R_takeLine_71 rfl (lv_at hl 3 rfl) ?_
        refine lv_lconst (v := 0) hx hb zd_R_takeLine_72 (by decide) ?_
        refine va_put (D := (dC, dI)) (ci := 4) (v := .long 0) (C := zr_R) (T := zF_R) (N := 9) hx hb htB zi_R zT_R zT_R_ok zn_R hown hK hP hD hS 0 rfl rfl 6 (by decide) (htB _ zk_d4c3bc94) (fun _ h9 => h9) rfl (zT_R_ok 6 (by decide)) rfl rfl (Nat.le_of_ble_eq_true rfl) zd_R_takeLine_73 (fun H locs hP hD hS => ?_)
        have hP : va_P (dC, dI) zz_cl (zw_R cI cZ cL a0 (st.1, st.2.1, st.2.2.1, st.2.2.2.1, st.2.2.2.2.1, (p1 * 10) + (st.2.2.2.2.1 - st.2.2.2.2.1 / 10 * 10), 0, st.2.2.2.2.2.2.2.1, st.2.2.2.2.2.2.2.2)) H := hP
        have hD : va_D A (zw_R cI cZ cL a0 (st.1, st.2.1, st.2.2.1, st.2.2.2.1, st.2.2.2.2.1, (p1 * 10) + (st.2.2.2.2.1 - st.2.2.2.2.1 / 10 * 10), 0, st.2.2.2.2.2.2.2.1, st.2.2.2.2.2.2.2.2)) := hD
        refine lv_iload_n hx hb zd_R_takeLine_76 rfl (lv_at hl 2 rfl) ?_
        refine lv_if_eq (tgt := 89) hx hb zd_R_takeLine_77 (by decide) (fun c_ => absurd c_ (by decide)) (fun _ => ?_)
        refine lv_iload hx hb zd_R_takeLine_80 (lv_at hl 0 rfl) ?_
        refine lv_if_eq (tgt := 89) hx hb zd_R_takeLine_82 (by decide) (fun c_ => absurd c_ (by decide)) (fun _ => ?_)
        refine lv_iconst (v := 1) hx hb zd_R_takeLine_85 (by decide) ?_
        refine lv_goto (tgt := 90) hx hb zd_R_takeLine_86 (by decide) ?_
        rw [(show zf_R_takeLine st p1 = (1, (st.1, st.2.1, st.2.2.1, st.2.2.2.1, st.2.2.2.2.1, (p1 * 10) + (st.2.2.2.2.1 - st.2.2.2.2.1 / 10 * 10), 0, st.2.2.2.2.2.2.2.1, st.2.2.2.2.2.2.2.2)) from by rw [zf_R_takeLine, if_neg c_6, if_pos c_10, if_neg c_56])]
        exact zz_zret hx hb hr hlocks narrow_b1 hK hP hD hS zd_R_takeLine_90 rfl
set_option maxHeartbeats 4000000 in
set_option maxRecDepth 100000 in
theorem zc_R_takeValue (l : Launch) (dC : Nat → ClassId) (dI : Nat → Nat → Nat) (cI cZ cL : ClassId) (a0 : Nat) (sz : Nat) (st : zu_R) (p1 : Int32)  : Met l zy_R_takeValue (zz_ws zy_R_takeValue zb_R_takeValue 2 (some .boolean)) ({ frames := 0, cells := 0, slots := 0, locals := 0 } : Room) (va_Pc ([.ref a0, .int p1] : List Value) (zz_P (dC, dI) (zz_ty cI cZ cL) sz (zw_R cI cZ cL a0 st))) (zz_Qi (dC, dI) (zz_ty cI cZ cL) (va_A (zw_R cI cZ cL a0 st) sz) ((zf_R_takeValue st p1).1) (zw_R cI cZ cL a0 ((zf_R_takeValue st p1).2))) 0 0 (va_A (zw_R cI cZ cL a0 st) sz) := by
  refine zz_ofW (Q := fun A => (zz_Qi (dC, dI) (zz_ty cI cZ cL) A ((zf_R_takeValue st p1).1) (zw_R cI cZ cL a0 ((zf_R_takeValue st p1).2)))) (by decide) (Nat.le_of_ble_eq_true rfl) ?_
  intro p e s m below meth c A C0 _ hA hK hP hD _ ls hl
  obtain ⟨hx, hb, hr, hml, hown, htB, hlocks, hE⟩ := id C0
  have hS : va_S A s.heap s.heap [] := va_S.rf
  have hl : lv_has ls 2 [(0, .ref a0), (1, .int p1)] := hl
  refine lv_aload_n hx hb zd_R_takeValue_0 rfl (lv_at hl 0 rfl) ?_
  refine lv_aload_n hx hb zd_R_takeValue_1 rfl (lv_at hl 0 rfl) ?_
  refine va_get (D := (dC, dI)) (ci := 4) (v := .long st.2.2.2.2.2.2.1) (C := zr_R) (T := zF_R) (N := 9) hx hb htB zi_R hown hK hP 0 rfl rfl 6 (by decide) (htB _ zk_d4c3bc94) (fun _ h9 => h9) rfl zd_R_takeValue_2 ?_
  refine lv_ldc2 (v := 256) hx hb hown (htB _ zk_145c8149) zd_R_takeValue_5 ?_
  refine lv_lmul hx hb zd_R_takeValue_8 ?_
  refine lv_iload_n hx hb zd_R_takeValue_9 rfl (lv_at hl 1 rfl) ?_
  refine lv_i2l hx hb zd_R_takeValue_10 rfl ?_
  refine lv_ladd hx hb zd_R_takeValue_11 ?_
  refine va_put (D := (dC, dI)) (ci := 4) (v := .long ((st.2.2.2.2.2.2.1 * 256) + p1.toInt64)) (C := zr_R) (T := zF_R) (N := 9) hx hb htB zi_R zT_R zT_R_ok zn_R hown hK hP hD hS 0 rfl rfl 6 (by decide) (htB _ zk_d4c3bc94) (fun _ h9 => h9) rfl (zT_R_ok 6 (by decide)) rfl rfl (Nat.le_of_ble_eq_true rfl) zd_R_takeValue_12 (fun H locs hP hD hS => ?_)
  have hP : va_P (dC, dI) zz_cl (zw_R cI cZ cL a0 (st.1, st.2.1, st.2.2.1, st.2.2.2.1, st.2.2.2.2.1, st.2.2.2.2.2.1, (st.2.2.2.2.2.2.1 * 256) + p1.toInt64, st.2.2.2.2.2.2.2.1, st.2.2.2.2.2.2.2.2)) H := hP
  have hD : va_D A (zw_R cI cZ cL a0 (st.1, st.2.1, st.2.2.1, st.2.2.2.1, st.2.2.2.2.1, st.2.2.2.2.2.1, (st.2.2.2.2.2.2.1 * 256) + p1.toInt64, st.2.2.2.2.2.2.2.1, st.2.2.2.2.2.2.2.2)) := hD
  refine lv_aload_n hx hb zd_R_takeValue_15 rfl (lv_at hl 0 rfl) ?_
  refine va_get (D := (dC, dI)) (ci := 4) (v := .int st.1) (C := zr_R) (T := zF_R) (N := 9) hx hb htB zi_R hown hK hP 0 rfl rfl 0 (by decide) (htB _ zk_b8a9b261) (fun _ h9 => h9) rfl zd_R_takeValue_16 ?_
  refine lv_bipush (v := 8) hx hb zd_R_takeValue_19 (by decide) ?_
  refine lv_icmp_ne (tgt := 35) hx hb zd_R_takeValue_21 (by decide) (fun c_21 => ?_) (fun c_21 => ?_)
  · refine lv_iconst (v := 1) hx hb zd_R_takeValue_35 (by decide) ?_
    refine lv_goto (tgt := 40) hx hb zd_R_takeValue_36 (by decide) ?_
    rw [(show zf_R_takeValue st p1 = (1, (st.1, st.2.1, st.2.2.1, st.2.2.2.1, st.2.2.2.2.1, st.2.2.2.2.2.1, (st.2.2.2.2.2.2.1 * 256) + p1.toInt64, st.2.2.2.2.2.2.2.1, st.2.2.2.2.2.2.2.2)) from by rw [zf_R_takeValue, if_neg c_21])]
    exact zz_zret hx hb hr hlocks narrow_b1 hK hP hD hS zd_R_takeValue_40 rfl
  · refine lv_aload_n hx hb zd_R_takeValue_24 rfl (lv_at hl 0 rfl) ?_
    refine va_get (D := (dC, dI)) (ci := 4) (v := .long ((st.2.2.2.2.2.2.1 * 256) + p1.toInt64)) (C := zr_R) (T := zF_R) (N := 9) hx hb htB zi_R hown hK hP 0 rfl rfl 6 (by decide) (htB _ zk_d4c3bc94) (fun _ h9 => h9) rfl zd_R_takeValue_25 ?_
    refine lv_ldc2 (v := 1000000000) hx hb hown (htB _ zk_1a63ba43) zd_R_takeValue_28 ?_
    refine W.lcmp hx hb zd_R_takeValue_31 ?_
    refine lv_if_gt (tgt := 39) hx hb zd_R_takeValue_32 (by decide) (fun c_32 => ?_) (fun c_32 => ?_)
    · refine lv_iconst (v := 0) hx hb zd_R_takeValue_39 (by decide) ?_
      rw [(show zf_R_takeValue st p1 = (0, (st.1, st.2.1, st.2.2.1, st.2.2.2.1, st.2.2.2.2.1, st.2.2.2.2.2.1, (st.2.2.2.2.2.2.1 * 256) + p1.toInt64, st.2.2.2.2.2.2.2.1, st.2.2.2.2.2.2.2.2)) from by rw [zf_R_takeValue, if_pos c_21, if_pos c_32])]
      exact zz_zret hx hb hr hlocks narrow_b0 hK hP hD hS zd_R_takeValue_40 rfl
    · refine lv_iconst (v := 1) hx hb zd_R_takeValue_35 (by decide) ?_
      refine lv_goto (tgt := 40) hx hb zd_R_takeValue_36 (by decide) ?_
      rw [(show zf_R_takeValue st p1 = (1, (st.1, st.2.1, st.2.2.1, st.2.2.2.1, st.2.2.2.2.1, st.2.2.2.2.2.1, (st.2.2.2.2.2.2.1 * 256) + p1.toInt64, st.2.2.2.2.2.2.2.1, st.2.2.2.2.2.2.2.2)) from by rw [zf_R_takeValue, if_pos c_21, if_neg c_32])]
      exact zz_zret hx hb hr hlocks narrow_b1 hK hP hD hS zd_R_takeValue_40 rfl
set_option maxHeartbeats 4000000 in
set_option maxRecDepth 100000 in
theorem zc_R_stands (l : Launch) (dC : Nat → ClassId) (dI : Nat → Nat → Nat) (cI cZ cL : ClassId) (a0 : Nat) (sz : Nat) (st : zu_R) (p1 : Int32)  : Met l zy_R_stands (zz_ws zy_R_stands zb_R_stands 2 (some .boolean)) ({ frames := 2, cells := 0, slots := 0, locals := 42 } : Room) (va_Pc ([.ref a0, .int p1] : List Value) (zz_P (dC, dI) (zz_ty cI cZ cL) sz (zw_R cI cZ cL a0 st))) (zz_Qi (dC, dI) (zz_ty cI cZ cL) (va_A (zw_R cI cZ cL a0 st) sz) ((zf_R_stands st p1).1) (zw_R cI cZ cL a0 ((zf_R_stands st p1).2))) 0 0 (va_A (zw_R cI cZ cL a0 st) sz) := by
  refine zz_ofW (Q := fun A => (zz_Qi (dC, dI) (zz_ty cI cZ cL) A ((zf_R_stands st p1).1) (zw_R cI cZ cL a0 ((zf_R_stands st p1).2)))) (by decide) (Nat.le_of_ble_eq_true rfl) ?_
  intro p e s m below meth c A C0 _ hA hK hP hD _ ls hl
  obtain ⟨hx, hb, hr, hml, hown, htB, hlocks, hE⟩ := id C0
  have hS : va_S A s.heap s.heap [] := va_S.rf
  have hl : lv_has ls 2 [(0, .ref a0), (1, .int p1)] := hl
  refine lv_aload_n hx hb zd_R_stands_0 rfl (lv_at hl 0 rfl) ?_
  refine va_get (D := (dC, dI)) (ci := 4) (v := .int st.1) (C := zr_R) (T := zF_R) (N := 9) hx hb htB zi_R hown hK hP 0 rfl rfl 0 (by decide) (htB _ zk_b8a9b261) (fun _ h9 => h9) rfl zd_R_stands_1 ?_
  by_cases c_4_0 : st.1 = 0
  · refine lv_tableIn (off := 36) (tgt := 40) hx hb zd_R_stands_4 (by rw [c_4_0]; decide) (by rw [c_4_0]; decide) (by rw [c_4_0]; rfl) (by decide) ?_
    refine lv_aload_n hx hb zd_R_stands_40 rfl (lv_at hl 0 rfl) ?_
    refine lv_iload_n hx hb zd_R_stands_41 rfl (lv_at hl 1 rfl) ?_
    refine zz_ci (va_runV (As := [.int p1]) (rest := []) ⟨hx, hb, hml, hown, htB⟩ (zc_R_takeKind l dC dI cI cZ cL a0 s.heap.size st p1 ) (cwV 1 htB (zz_gV zk_5035b69c zk_4915e962 zk_f37331cd zk_136d7407 zk_614f5db7) rfl rfl rfl ⟨rfl, zh_R_takeKind⟩ ⟨Nat.le_of_ble_eq_true rfl, Nat.le_of_ble_eq_true rfl⟩) (zz_preV (ci := 4) (q := (zr_R, zF_R, 9)) hP hD hK hE [0] (by decide) rfl rfl rfl) rfl rfl hl.1 rfl (lv_room (Nat.le_of_ble_eq_true rfl)) zd_R_stands_42 ⟨Nat.le_of_ble_eq_true rfl, Nat.le_of_ble_eq_true rfl⟩) hP hD hS hA [0] [] [0] rfl rfl (by decide) (by decide) (by decide) rfl (fun H locs hP hD hS => ?_)
    have hP : va_P (dC, dI) zz_cl (zw_R cI cZ cL a0 ((zf_R_takeKind st p1).2)) H := hP
    have hD : va_D A (zw_R cI cZ cL a0 ((zf_R_takeKind st p1).2)) := hD
    rw [(show zf_R_stands st p1 = ((zf_R_takeKind st p1).1, (zf_R_takeKind st p1).2) from by rw [zf_R_stands, if_pos c_4_0])]
    exact zz_zret hx hb hr hlocks (zo_R_takeKind st p1) hK hP hD hS zd_R_stands_45 rfl
  by_cases c_4_1 : st.1 = 1
  · refine lv_tableIn (off := 42) (tgt := 46) hx hb zd_R_stands_4 (by rw [c_4_1]; decide) (by rw [c_4_1]; decide) (by rw [c_4_1]; rfl) (by decide) ?_
    refine lv_aload_n hx hb zd_R_stands_46 rfl (lv_at hl 0 rfl) ?_
    refine lv_iload_n hx hb zd_R_stands_47 rfl (lv_at hl 1 rfl) ?_
    refine zz_ci (va_runV (As := [.int p1]) (rest := []) ⟨hx, hb, hml, hown, htB⟩ (zc_R_takeHigher l dC dI cI cZ cL a0 s.heap.size st p1 ) (cwV 1 htB (zz_gV zk_7f1a353c zk_0e9f7475 zk_6d04e37b zk_136d7407 zk_f4d57b21) rfl rfl rfl ⟨rfl, zh_R_takeHigher⟩ ⟨Nat.le_of_ble_eq_true rfl, Nat.le_of_ble_eq_true rfl⟩) (zz_preV (ci := 4) (q := (zr_R, zF_R, 9)) hP hD hK hE [0] (by decide) rfl rfl rfl) rfl rfl hl.1 rfl (lv_room (Nat.le_of_ble_eq_true rfl)) zd_R_stands_48 ⟨Nat.le_of_ble_eq_true rfl, Nat.le_of_ble_eq_true rfl⟩) hP hD hS hA [0] [] [0] rfl rfl (by decide) (by decide) (by decide) rfl (fun H locs hP hD hS => ?_)
    have hP : va_P (dC, dI) zz_cl (zw_R cI cZ cL a0 ((zf_R_takeHigher st p1).2)) H := hP
    have hD : va_D A (zw_R cI cZ cL a0 ((zf_R_takeHigher st p1).2)) := hD
    rw [(show zf_R_stands st p1 = ((zf_R_takeHigher st p1).1, (zf_R_takeHigher st p1).2) from by rw [zf_R_stands, if_neg c_4_0, if_pos c_4_1])]
    exact zz_zret hx hb hr hlocks (zo_R_takeHigher st p1) hK hP hD hS zd_R_stands_51 rfl
  by_cases c_4_2 : st.1 = 2
  · refine lv_tableIn (off := 48) (tgt := 52) hx hb zd_R_stands_4 (by rw [c_4_2]; decide) (by rw [c_4_2]; decide) (by rw [c_4_2]; rfl) (by decide) ?_
    refine lv_aload_n hx hb zd_R_stands_52 rfl (lv_at hl 0 rfl) ?_
    refine lv_iload_n hx hb zd_R_stands_53 rfl (lv_at hl 1 rfl) ?_
    refine zz_ci (va_runV (As := [.int p1]) (rest := []) ⟨hx, hb, hml, hown, htB⟩ (zc_R_takeLower l dC dI cI cZ cL a0 s.heap.size st p1 ) (cwV 1 htB (zz_gV zk_c3b75ea1 zk_12bcf610 zk_e48d9ff2 zk_136d7407 zk_3bf2a372) rfl rfl rfl ⟨rfl, zh_R_takeLower⟩ ⟨Nat.le_of_ble_eq_true rfl, Nat.le_of_ble_eq_true rfl⟩) (zz_preV (ci := 4) (q := (zr_R, zF_R, 9)) hP hD hK hE [0] (by decide) rfl rfl rfl) rfl rfl hl.1 rfl (lv_room (Nat.le_of_ble_eq_true rfl)) zd_R_stands_54 ⟨Nat.le_of_ble_eq_true rfl, Nat.le_of_ble_eq_true rfl⟩) hP hD hS hA [0] [] [0] rfl rfl (by decide) (by decide) (by decide) rfl (fun H locs hP hD hS => ?_)
    have hP : va_P (dC, dI) zz_cl (zw_R cI cZ cL a0 ((zf_R_takeLower st p1).2)) H := hP
    have hD : va_D A (zw_R cI cZ cL a0 ((zf_R_takeLower st p1).2)) := hD
    rw [(show zf_R_stands st p1 = ((zf_R_takeLower st p1).1, (zf_R_takeLower st p1).2) from by rw [zf_R_stands, if_neg c_4_0, if_neg c_4_1, if_pos c_4_2])]
    exact zz_zret hx hb hr hlocks (zo_R_takeLower st p1) hK hP hD hS zd_R_stands_57 rfl
  by_cases c_4_3 : st.1 = 3
  · refine lv_tableIn (off := 54) (tgt := 58) hx hb zd_R_stands_4 (by rw [c_4_3]; decide) (by rw [c_4_3]; decide) (by rw [c_4_3]; rfl) (by decide) ?_
    refine lv_aload_n hx hb zd_R_stands_58 rfl (lv_at hl 0 rfl) ?_
    refine lv_iload_n hx hb zd_R_stands_59 rfl (lv_at hl 1 rfl) ?_
    refine zz_ci (va_runV (As := [.int p1]) (rest := []) ⟨hx, hb, hml, hown, htB⟩ (zc_R_takeField l dC dI cI cZ cL a0 s.heap.size st p1 ) (cwV 1 htB (zz_gV zk_c22db35c zk_934369ad zk_a14f995b zk_136d7407 zk_0b6e1656) rfl rfl rfl ⟨rfl, zh_R_takeField⟩ ⟨Nat.le_of_ble_eq_true rfl, Nat.le_of_ble_eq_true rfl⟩) (zz_preV (ci := 4) (q := (zr_R, zF_R, 9)) hP hD hK hE [0] (by decide) rfl rfl rfl) rfl rfl hl.1 rfl (lv_room (Nat.le_of_ble_eq_true rfl)) zd_R_stands_60 ⟨Nat.le_of_ble_eq_true rfl, Nat.le_of_ble_eq_true rfl⟩) hP hD hS hA [0] [] [0] rfl rfl (by decide) (by decide) (by decide) rfl (fun H locs hP hD hS => ?_)
    have hP : va_P (dC, dI) zz_cl (zw_R cI cZ cL a0 ((zf_R_takeField st p1).2)) H := hP
    have hD : va_D A (zw_R cI cZ cL a0 ((zf_R_takeField st p1).2)) := hD
    rw [(show zf_R_stands st p1 = ((zf_R_takeField st p1).1, (zf_R_takeField st p1).2) from by rw [zf_R_stands, if_neg c_4_0, if_neg c_4_1, if_neg c_4_2, if_pos c_4_3])]
    exact zz_zret hx hb hr hlocks (zo_R_takeField st p1) hK hP hD hS zd_R_stands_63 rfl
  by_cases c_4_4 : st.1 = 4
  · refine lv_tableIn (off := 60) (tgt := 64) hx hb zd_R_stands_4 (by rw [c_4_4]; decide) (by rw [c_4_4]; decide) (by rw [c_4_4]; rfl) (by decide) ?_
    refine lv_aload_n hx hb zd_R_stands_64 rfl (lv_at hl 0 rfl) ?_
    refine lv_iload_n hx hb zd_R_stands_65 rfl (lv_at hl 1 rfl) ?_
    refine zz_ci (va_runV (As := [.int p1]) (rest := []) ⟨hx, hb, hml, hown, htB⟩ (zc_R_takeLine l dC dI cI cZ cL a0 s.heap.size st p1 ) (cwV 1 htB (zz_gV zk_76bb2fce zk_f84625d5 zk_975b5658 zk_136d7407 zk_8bbbc545) rfl rfl rfl ⟨rfl, zh_R_takeLine⟩ ⟨Nat.le_of_ble_eq_true rfl, Nat.le_of_ble_eq_true rfl⟩) (zz_preV (ci := 4) (q := (zr_R, zF_R, 9)) hP hD hK hE [0] (by decide) rfl rfl rfl) rfl rfl hl.1 rfl (lv_room (Nat.le_of_ble_eq_true rfl)) zd_R_stands_66 ⟨Nat.le_of_ble_eq_true rfl, Nat.le_of_ble_eq_true rfl⟩) hP hD hS hA [0] [] [0] rfl rfl (by decide) (by decide) (by decide) rfl (fun H locs hP hD hS => ?_)
    have hP : va_P (dC, dI) zz_cl (zw_R cI cZ cL a0 ((zf_R_takeLine st p1).2)) H := hP
    have hD : va_D A (zw_R cI cZ cL a0 ((zf_R_takeLine st p1).2)) := hD
    rw [(show zf_R_stands st p1 = ((zf_R_takeLine st p1).1, (zf_R_takeLine st p1).2) from by rw [zf_R_stands, if_neg c_4_0, if_neg c_4_1, if_neg c_4_2, if_neg c_4_3, if_pos c_4_4])]
    exact zz_zret hx hb hr hlocks (zo_R_takeLine st p1) hK hP hD hS zd_R_stands_69 rfl
  refine lv_tableOut (tgt := 70) hx hb zd_R_stands_4 (by have n0 := lv_neT c_4_0 (a := 0) (by decide); have n1 := lv_neT c_4_1 (a := 1) (by decide); have n2 := lv_neT c_4_2 (a := 2) (by decide); have n3 := lv_neT c_4_3 (a := 3) (by decide); have n4 := lv_neT c_4_4 (a := 4) (by decide); omega) (by decide) ?_
  refine lv_aload_n hx hb zd_R_stands_70 rfl (lv_at hl 0 rfl) ?_
  refine lv_iload_n hx hb zd_R_stands_71 rfl (lv_at hl 1 rfl) ?_
  refine zz_ci (va_runV (As := [.int p1]) (rest := []) ⟨hx, hb, hml, hown, htB⟩ (zc_R_takeValue l dC dI cI cZ cL a0 s.heap.size st p1 ) (cwV 1 htB (zz_gV zk_0ec6c850 zk_69ba10b9 zk_9ba1f689 zk_136d7407 zk_ba187e4f) rfl rfl rfl ⟨rfl, zh_R_takeValue⟩ ⟨Nat.le_of_ble_eq_true rfl, Nat.le_of_ble_eq_true rfl⟩) (zz_preV (ci := 4) (q := (zr_R, zF_R, 9)) hP hD hK hE [0] (by decide) rfl rfl rfl) rfl rfl hl.1 rfl (lv_room (Nat.le_of_ble_eq_true rfl)) zd_R_stands_72 ⟨Nat.le_of_ble_eq_true rfl, Nat.le_of_ble_eq_true rfl⟩) hP hD hS hA [0] [] [0] rfl rfl (by decide) (by decide) (by decide) rfl (fun H locs hP hD hS => ?_)
  have hP : va_P (dC, dI) zz_cl (zw_R cI cZ cL a0 ((zf_R_takeValue st p1).2)) H := hP
  have hD : va_D A (zw_R cI cZ cL a0 ((zf_R_takeValue st p1).2)) := hD
  rw [(show zf_R_stands st p1 = ((zf_R_takeValue st p1).1, (zf_R_takeValue st p1).2) from by rw [zf_R_stands, if_neg c_4_0, if_neg c_4_1, if_neg c_4_2, if_neg c_4_3, if_neg c_4_4])]
  exact zz_zret hx hb hr hlocks (zo_R_takeValue st p1) hK hP hD hS zd_R_stands_75 rfl
set_option maxHeartbeats 4000000 in
set_option maxRecDepth 100000 in
theorem zc_R_accept (l : Launch) (dC : Nat → ClassId) (dI : Nat → Nat → Nat) (cI cZ cL : ClassId) (a0 : Nat) (sz : Nat) (st : zu_R) (p1 : Int32)  : Met l zy_R_accept (zz_ws zy_R_accept zb_R_accept 2 (some .int)) ({ frames := 3, cells := 0, slots := 0, locals := 63 } : Room) (va_Pc ([.ref a0, .int p1] : List Value) (zz_P (dC, dI) (zz_ty cI cZ cL) sz (zw_R cI cZ cL a0 st))) (zz_Qi (dC, dI) (zz_ty cI cZ cL) (va_A (zw_R cI cZ cL a0 st) sz) ((zf_R_accept st p1).1) (zw_R cI cZ cL a0 ((zf_R_accept st p1).2))) 0 0 (va_A (zw_R cI cZ cL a0 st) sz) := by
  refine zz_ofW (Q := fun A => (zz_Qi (dC, dI) (zz_ty cI cZ cL) A ((zf_R_accept st p1).1) (zw_R cI cZ cL a0 ((zf_R_accept st p1).2)))) (by decide) (Nat.le_of_ble_eq_true rfl) ?_
  intro p e s m below meth c A C0 _ hA hK hP hD _ ls hl
  obtain ⟨hx, hb, hr, hml, hown, htB, hlocks, hE⟩ := id C0
  have hS : va_S A s.heap s.heap [] := va_S.rf
  have hl : lv_has ls 2 [(0, .ref a0), (1, .int p1)] := hl
  refine lv_aload_n hx hb zd_R_accept_0 rfl (lv_at hl 0 rfl) ?_
  refine lv_iload_n hx hb zd_R_accept_1 rfl (lv_at hl 1 rfl) ?_
  refine zz_ci (va_runV (As := [.int p1]) (rest := []) ⟨hx, hb, hml, hown, htB⟩ (zc_R_stands l dC dI cI cZ cL a0 s.heap.size st p1 ) (cwV 1 htB (zz_gV zk_2e9dfa34 zk_07adda86 zk_059ede22 zk_136d7407 zk_3daecf7f) rfl rfl rfl ⟨rfl, zh_R_stands⟩ ⟨Nat.le_of_ble_eq_true rfl, Nat.le_of_ble_eq_true rfl⟩) (zz_preV (ci := 4) (q := (zr_R, zF_R, 9)) hP hD hK hE [0] (by decide) rfl rfl rfl) rfl rfl hl.1 rfl (lv_room (Nat.le_of_ble_eq_true rfl)) zd_R_accept_2 ⟨Nat.le_of_ble_eq_true rfl, Nat.le_of_ble_eq_true rfl⟩) hP hD hS hA [0] [] [0] rfl rfl (by decide) (by decide) (by decide) rfl (fun H locs hP hD hS => ?_)
  have hP : va_P (dC, dI) zz_cl (zw_R cI cZ cL a0 ((zf_R_stands st p1).2)) H := hP
  have hD : va_D A (zw_R cI cZ cL a0 ((zf_R_stands st p1).2)) := hD
  refine lv_if_ne (tgt := 15) hx hb zd_R_accept_5 (by decide) (fun c_5 => ?_) (fun c_5 => ?_)
  · refine lv_aload_n hx hb zd_R_accept_15 rfl (lv_at hl 0 rfl) ?_
    refine va_get (D := (dC, dI)) (ci := 4) (v := .int (((zf_R_stands st p1).2).1)) (C := zr_R) (T := zF_R) (N := 9) hx hb htB zi_R hown hK hP 0 rfl rfl 0 (by decide) (htB _ zk_b8a9b261) (fun _ h9 => h9) rfl zd_R_accept_16 ?_
    refine lv_bipush (v := 8) hx hb zd_R_accept_19 (by decide) ?_
    refine lv_icmp_ne (tgt := 34) hx hb zd_R_accept_21 (by decide) (fun c_21 => ?_) (fun c_21 => ?_)
    · refine lv_aload_n hx hb zd_R_accept_34 rfl (lv_at hl 0 rfl) ?_
      refine va_get (D := (dC, dI)) (ci := 4) (v := .int (((zf_R_stands st p1).2).1)) (C := zr_R) (T := zF_R) (N := 9) hx hb htB zi_R hown hK hP 0 rfl rfl 0 (by decide) (htB _ zk_b8a9b261) (fun _ h9 => h9) rfl zd_R_accept_35 ?_
      refine lv_iconst (v := 2) hx hb zd_R_accept_38 (by decide) ?_
      refine lv_icmp_eq (tgt := 51) hx hb zd_R_accept_39 (by decide) (fun c_39 => ?_) (fun c_39 => ?_)
      · refine lv_aload_n hx hb zd_R_accept_51 rfl (lv_at hl 0 rfl) ?_
        refine va_get (D := (dC, dI)) (ci := 4) (v := .int (((zf_R_stands st p1).2).2.2.2.1)) (C := zr_R) (T := zF_R) (N := 9) hx hb htB zi_R hown hK hP 0 rfl rfl 3 (by decide) (htB _ zk_19b26606) (fun _ h9 => h9) rfl zd_R_accept_52 ?_
        refine lv_if_ne (tgt := 83) hx hb zd_R_accept_55 (by decide) (fun c_55 => ?_) (fun c_55 => ?_)
        · refine lv_aload_n hx hb zd_R_accept_83 rfl (lv_at hl 0 rfl) ?_
          refine lv_aload_n hx hb zd_R_accept_84 rfl (lv_at hl 0 rfl) ?_
          refine va_get (D := (dC, dI)) (ci := 4) (v := .int (((zf_R_stands st p1).2).1)) (C := zr_R) (T := zF_R) (N := 9) hx hb htB zi_R hown hK hP 0 rfl rfl 0 (by decide) (htB _ zk_b8a9b261) (fun _ h9 => h9) rfl zd_R_accept_85 ?_
          refine lv_bipush (v := 8) hx hb zd_R_accept_88 (by decide) ?_
          refine lv_icmp_ne (tgt := 97) hx hb zd_R_accept_90 (by decide) (fun _ => ?_) (fun c_ => absurd c_ c_21)
          refine lv_aload_n hx hb zd_R_accept_97 rfl (lv_at hl 0 rfl) ?_
          refine va_get (D := (dC, dI)) (ci := 4) (v := .int (((zf_R_stands st p1).2).1)) (C := zr_R) (T := zF_R) (N := 9) hx hb htB zi_R hown hK hP 0 rfl rfl 0 (by decide) (htB _ zk_b8a9b261) (fun _ h9 => h9) rfl zd_R_accept_98 ?_
          refine lv_iconst (v := 1) hx hb zd_R_accept_101 (by decide) ?_
          refine lv_iadd hx hb zd_R_accept_102 ?_
          refine va_put (D := (dC, dI)) (ci := 4) (v := .int ((((zf_R_stands st p1).2).1) + 1)) (C := zr_R) (T := zF_R) (N := 9) hx hb htB zi_R zT_R zT_R_ok zn_R hown hK hP hD hS 0 rfl rfl 0 (by decide) (htB _ zk_b8a9b261) (fun _ h9 => h9) rfl (zT_R_ok 0 (by decide)) rfl rfl (Nat.le_of_ble_eq_true rfl) zd_R_accept_103 (fun H locs hP hD hS => ?_)
          have hP : va_P (dC, dI) zz_cl (zw_R cI cZ cL a0 ((((zf_R_stands st p1).2).1) + 1, ((zf_R_stands st p1).2).2.1, ((zf_R_stands st p1).2).2.2.1, ((zf_R_stands st p1).2).2.2.2.1, ((zf_R_stands st p1).2).2.2.2.2.1, ((zf_R_stands st p1).2).2.2.2.2.2.1, ((zf_R_stands st p1).2).2.2.2.2.2.2.1, ((zf_R_stands st p1).2).2.2.2.2.2.2.2.1, ((zf_R_stands st p1).2).2.2.2.2.2.2.2.2)) H := hP
          have hD : va_D A (zw_R cI cZ cL a0 ((((zf_R_stands st p1).2).1) + 1, ((zf_R_stands st p1).2).2.1, ((zf_R_stands st p1).2).2.2.1, ((zf_R_stands st p1).2).2.2.2.1, ((zf_R_stands st p1).2).2.2.2.2.1, ((zf_R_stands st p1).2).2.2.2.2.2.1, ((zf_R_stands st p1).2).2.2.2.2.2.2.1, ((zf_R_stands st p1).2).2.2.2.2.2.2.2.1, ((zf_R_stands st p1).2).2.2.2.2.2.2.2.2)) := hD
          refine lv_iconst (v := 0) hx hb zd_R_accept_106 (by decide) ?_
          rw [(show zf_R_accept st p1 = (0, ((((zf_R_stands st p1).2).1) + 1, ((zf_R_stands st p1).2).2.1, ((zf_R_stands st p1).2).2.2.1, ((zf_R_stands st p1).2).2.2.2.1, ((zf_R_stands st p1).2).2.2.2.2.1, ((zf_R_stands st p1).2).2.2.2.2.2.1, ((zf_R_stands st p1).2).2.2.2.2.2.2.1, ((zf_R_stands st p1).2).2.2.2.2.2.2.2.1, ((zf_R_stands st p1).2).2.2.2.2.2.2.2.2)) from by rw [zf_R_accept, if_neg c_5, if_neg c_21, if_pos c_39, if_neg c_55])]
          exact zz_iret hx hb hr hlocks hK hP hD hS zd_R_accept_107 rfl
        · refine lv_aload_n hx hb zd_R_accept_58 rfl (lv_at hl 0 rfl) ?_
          refine lv_dup hx hb zd_R_accept_59 rfl ?_
          refine va_get (D := (dC, dI)) (ci := 4) (v := .int (((zf_R_stands st p1).2).2.2.2.2.2.2.2.1)) (C := zr_R) (T := zF_R) (N := 9) hx hb htB zi_R hown hK hP 0 rfl rfl 7 (by decide) (htB _ zk_e7cbea07) (fun _ h9 => h9) rfl zd_R_accept_60 ?_
          refine lv_iconst (v := 1) hx hb zd_R_accept_63 (by decide) ?_
          refine lv_iadd hx hb zd_R_accept_64 ?_
          refine va_put (D := (dC, dI)) (ci := 4) (v := .int ((((zf_R_stands st p1).2).2.2.2.2.2.2.2.1) + 1)) (C := zr_R) (T := zF_R) (N := 9) hx hb htB zi_R zT_R zT_R_ok zn_R hown hK hP hD hS 0 rfl rfl 7 (by decide) (htB _ zk_e7cbea07) (fun _ h9 => h9) rfl (zT_R_ok 7 (by decide)) rfl rfl (Nat.le_of_ble_eq_true rfl) zd_R_accept_65 (fun H locs hP hD hS => ?_)
          have hP : va_P (dC, dI) zz_cl (zw_R cI cZ cL a0 (((zf_R_stands st p1).2).1, ((zf_R_stands st p1).2).2.1, ((zf_R_stands st p1).2).2.2.1, ((zf_R_stands st p1).2).2.2.2.1, ((zf_R_stands st p1).2).2.2.2.2.1, ((zf_R_stands st p1).2).2.2.2.2.2.1, ((zf_R_stands st p1).2).2.2.2.2.2.2.1, (((zf_R_stands st p1).2).2.2.2.2.2.2.2.1) + 1, ((zf_R_stands st p1).2).2.2.2.2.2.2.2.2)) H := hP
          have hD : va_D A (zw_R cI cZ cL a0 (((zf_R_stands st p1).2).1, ((zf_R_stands st p1).2).2.1, ((zf_R_stands st p1).2).2.2.1, ((zf_R_stands st p1).2).2.2.2.1, ((zf_R_stands st p1).2).2.2.2.2.1, ((zf_R_stands st p1).2).2.2.2.2.2.1, ((zf_R_stands st p1).2).2.2.2.2.2.2.1, (((zf_R_stands st p1).2).2.2.2.2.2.2.2.1) + 1, ((zf_R_stands st p1).2).2.2.2.2.2.2.2.2)) := hD
          refine lv_aload_n hx hb zd_R_accept_68 rfl (lv_at hl 0 rfl) ?_
          refine lv_aload_n hx hb zd_R_accept_69 rfl (lv_at hl 0 rfl) ?_
          refine va_get (D := (dC, dI)) (ci := 4) (v := .int (((zf_R_stands st p1).2).2.2.1)) (C := zr_R) (T := zF_R) (N := 9) hx hb htB zi_R hown hK hP 0 rfl rfl 2 (by decide) (htB _ zk_64a6c42c) (fun _ h9 => h9) rfl zd_R_accept_70 ?_
          refine va_put (D := (dC, dI)) (ci := 4) (v := .int (((zf_R_stands st p1).2).2.2.1)) (C := zr_R) (T := zF_R) (N := 9) hx hb htB zi_R zT_R zT_R_ok zn_R hown hK hP hD hS 0 rfl rfl 8 (by decide) (htB _ zk_8c4f15a9) (fun _ h9 => h9) rfl (zT_R_ok 8 (by decide)) rfl rfl (Nat.le_of_ble_eq_true rfl) zd_R_accept_73 (fun H locs hP hD hS => ?_)
          have hP : va_P (dC, dI) zz_cl (zw_R cI cZ cL a0 (((zf_R_stands st p1).2).1, ((zf_R_stands st p1).2).2.1, ((zf_R_stands st p1).2).2.2.1, ((zf_R_stands st p1).2).2.2.2.1, ((zf_R_stands st p1).2).2.2.2.2.1, ((zf_R_stands st p1).2).2.2.2.2.2.1, ((zf_R_stands st p1).2).2.2.2.2.2.2.1, (((zf_R_stands st p1).2).2.2.2.2.2.2.2.1) + 1, ((zf_R_stands st p1).2).2.2.1)) H := hP
          have hD : va_D A (zw_R cI cZ cL a0 (((zf_R_stands st p1).2).1, ((zf_R_stands st p1).2).2.1, ((zf_R_stands st p1).2).2.2.1, ((zf_R_stands st p1).2).2.2.2.1, ((zf_R_stands st p1).2).2.2.2.2.1, ((zf_R_stands st p1).2).2.2.2.2.2.1, ((zf_R_stands st p1).2).2.2.2.2.2.2.1, (((zf_R_stands st p1).2).2.2.2.2.2.2.2.1) + 1, ((zf_R_stands st p1).2).2.2.1)) := hD
          refine lv_aload_n hx hb zd_R_accept_76 rfl (lv_at hl 0 rfl) ?_
          refine lv_iconst (v := 0) hx hb zd_R_accept_77 (by decide) ?_
          refine va_put (D := (dC, dI)) (ci := 4) (v := .int 0) (C := zr_R) (T := zF_R) (N := 9) hx hb htB zi_R zT_R zT_R_ok zn_R hown hK hP hD hS 0 rfl rfl 0 (by decide) (htB _ zk_b8a9b261) (fun _ h9 => h9) rfl (zT_R_ok 0 (by decide)) rfl rfl (Nat.le_of_ble_eq_true rfl) zd_R_accept_78 (fun H locs hP hD hS => ?_)
          have hP : va_P (dC, dI) zz_cl (zw_R cI cZ cL a0 (0, ((zf_R_stands st p1).2).2.1, ((zf_R_stands st p1).2).2.2.1, ((zf_R_stands st p1).2).2.2.2.1, ((zf_R_stands st p1).2).2.2.2.2.1, ((zf_R_stands st p1).2).2.2.2.2.2.1, ((zf_R_stands st p1).2).2.2.2.2.2.2.1, (((zf_R_stands st p1).2).2.2.2.2.2.2.2.1) + 1, ((zf_R_stands st p1).2).2.2.1)) H := hP
          have hD : va_D A (zw_R cI cZ cL a0 (0, ((zf_R_stands st p1).2).2.1, ((zf_R_stands st p1).2).2.2.1, ((zf_R_stands st p1).2).2.2.2.1, ((zf_R_stands st p1).2).2.2.2.2.1, ((zf_R_stands st p1).2).2.2.2.2.2.1, ((zf_R_stands st p1).2).2.2.2.2.2.2.1, (((zf_R_stands st p1).2).2.2.2.2.2.2.2.1) + 1, ((zf_R_stands st p1).2).2.2.1)) := hD
          refine lv_iconst (v := 1) hx hb zd_R_accept_81 (by decide) ?_
          rw [(show zf_R_accept st p1 = (1, (0, ((zf_R_stands st p1).2).2.1, ((zf_R_stands st p1).2).2.2.1, ((zf_R_stands st p1).2).2.2.2.1, ((zf_R_stands st p1).2).2.2.2.2.1, ((zf_R_stands st p1).2).2.2.2.2.2.1, ((zf_R_stands st p1).2).2.2.2.2.2.2.1, (((zf_R_stands st p1).2).2.2.2.2.2.2.2.1) + 1, ((zf_R_stands st p1).2).2.2.1)) from by rw [zf_R_accept, if_neg c_5, if_neg c_21, if_pos c_39, if_pos c_55])]
          exact zz_iret hx hb hr hlocks hK hP hD hS zd_R_accept_82 rfl
      · refine lv_aload_n hx hb zd_R_accept_42 rfl (lv_at hl 0 rfl) ?_
        refine va_get (D := (dC, dI)) (ci := 4) (v := .int (((zf_R_stands st p1).2).1)) (C := zr_R) (T := zF_R) (N := 9) hx hb htB zi_R hown hK hP 0 rfl rfl 0 (by decide) (htB _ zk_b8a9b261) (fun _ h9 => h9) rfl zd_R_accept_43 ?_
        refine lv_bipush (v := 8) hx hb zd_R_accept_46 (by decide) ?_
        refine lv_icmp_ne (tgt := 83) hx hb zd_R_accept_48 (by decide) (fun _ => ?_) (fun c_ => absurd c_ c_21)
        refine lv_aload_n hx hb zd_R_accept_83 rfl (lv_at hl 0 rfl) ?_
        refine lv_aload_n hx hb zd_R_accept_84 rfl (lv_at hl 0 rfl) ?_
        refine va_get (D := (dC, dI)) (ci := 4) (v := .int (((zf_R_stands st p1).2).1)) (C := zr_R) (T := zF_R) (N := 9) hx hb htB zi_R hown hK hP 0 rfl rfl 0 (by decide) (htB _ zk_b8a9b261) (fun _ h9 => h9) rfl zd_R_accept_85 ?_
        refine lv_bipush (v := 8) hx hb zd_R_accept_88 (by decide) ?_
        refine lv_icmp_ne (tgt := 97) hx hb zd_R_accept_90 (by decide) (fun _ => ?_) (fun c_ => absurd c_ c_21)
        refine lv_aload_n hx hb zd_R_accept_97 rfl (lv_at hl 0 rfl) ?_
        refine va_get (D := (dC, dI)) (ci := 4) (v := .int (((zf_R_stands st p1).2).1)) (C := zr_R) (T := zF_R) (N := 9) hx hb htB zi_R hown hK hP 0 rfl rfl 0 (by decide) (htB _ zk_b8a9b261) (fun _ h9 => h9) rfl zd_R_accept_98 ?_
        refine lv_iconst (v := 1) hx hb zd_R_accept_101 (by decide) ?_
        refine lv_iadd hx hb zd_R_accept_102 ?_
        refine va_put (D := (dC, dI)) (ci := 4) (v := .int ((((zf_R_stands st p1).2).1) + 1)) (C := zr_R) (T := zF_R) (N := 9) hx hb htB zi_R zT_R zT_R_ok zn_R hown hK hP hD hS 0 rfl rfl 0 (by decide) (htB _ zk_b8a9b261) (fun _ h9 => h9) rfl (zT_R_ok 0 (by decide)) rfl rfl (Nat.le_of_ble_eq_true rfl) zd_R_accept_103 (fun H locs hP hD hS => ?_)
        have hP : va_P (dC, dI) zz_cl (zw_R cI cZ cL a0 ((((zf_R_stands st p1).2).1) + 1, ((zf_R_stands st p1).2).2.1, ((zf_R_stands st p1).2).2.2.1, ((zf_R_stands st p1).2).2.2.2.1, ((zf_R_stands st p1).2).2.2.2.2.1, ((zf_R_stands st p1).2).2.2.2.2.2.1, ((zf_R_stands st p1).2).2.2.2.2.2.2.1, ((zf_R_stands st p1).2).2.2.2.2.2.2.2.1, ((zf_R_stands st p1).2).2.2.2.2.2.2.2.2)) H := hP
        have hD : va_D A (zw_R cI cZ cL a0 ((((zf_R_stands st p1).2).1) + 1, ((zf_R_stands st p1).2).2.1, ((zf_R_stands st p1).2).2.2.1, ((zf_R_stands st p1).2).2.2.2.1, ((zf_R_stands st p1).2).2.2.2.2.1, ((zf_R_stands st p1).2).2.2.2.2.2.1, ((zf_R_stands st p1).2).2.2.2.2.2.2.1, ((zf_R_stands st p1).2).2.2.2.2.2.2.2.1, ((zf_R_stands st p1).2).2.2.2.2.2.2.2.2)) := hD
        refine lv_iconst (v := 0) hx hb zd_R_accept_106 (by decide) ?_
        rw [(show zf_R_accept st p1 = (0, ((((zf_R_stands st p1).2).1) + 1, ((zf_R_stands st p1).2).2.1, ((zf_R_stands st p1).2).2.2.1, ((zf_R_stands st p1).2).2.2.2.1, ((zf_R_stands st p1).2).2.2.2.2.1, ((zf_R_stands st p1).2).2.2.2.2.2.1, ((zf_R_stands st p1).2).2.2.2.2.2.2.1, ((zf_R_stands st p1).2).2.2.2.2.2.2.2.1, ((zf_R_stands st p1).2).2.2.2.2.2.2.2.2)) from by rw [zf_R_accept, if_neg c_5, if_neg c_21, if_neg c_39])]
        exact zz_iret hx hb hr hlocks hK hP hD hS zd_R_accept_107 rfl
    · refine lv_aload_n hx hb zd_R_accept_24 rfl (lv_at hl 0 rfl) ?_
      refine lv_dup hx hb zd_R_accept_25 rfl ?_
      refine va_get (D := (dC, dI)) (ci := 4) (v := .int (((zf_R_stands st p1).2).2.2.2.1)) (C := zr_R) (T := zF_R) (N := 9) hx hb htB zi_R hown hK hP 0 rfl rfl 3 (by decide) (htB _ zk_19b26606) (fun _ h9 => h9) rfl zd_R_accept_26 ?_
      refine lv_iconst (v := 1) hx hb zd_R_accept_29 (by decide) ?_
      refine lv_isub hx hb zd_R_accept_30 ?_
      refine va_put (D := (dC, dI)) (ci := 4) (v := .int ((((zf_R_stands st p1).2).2.2.2.1) - 1)) (C := zr_R) (T := zF_R) (N := 9) hx hb htB zi_R zT_R zT_R_ok zn_R hown hK hP hD hS 0 rfl rfl 3 (by decide) (htB _ zk_19b26606) (fun _ h9 => h9) rfl (zT_R_ok 3 (by decide)) rfl rfl (Nat.le_of_ble_eq_true rfl) zd_R_accept_31 (fun H locs hP hD hS => ?_)
      have hP : va_P (dC, dI) zz_cl (zw_R cI cZ cL a0 (((zf_R_stands st p1).2).1, ((zf_R_stands st p1).2).2.1, ((zf_R_stands st p1).2).2.2.1, (((zf_R_stands st p1).2).2.2.2.1) - 1, ((zf_R_stands st p1).2).2.2.2.2.1, ((zf_R_stands st p1).2).2.2.2.2.2.1, ((zf_R_stands st p1).2).2.2.2.2.2.2.1, ((zf_R_stands st p1).2).2.2.2.2.2.2.2.1, ((zf_R_stands st p1).2).2.2.2.2.2.2.2.2)) H := hP
      have hD : va_D A (zw_R cI cZ cL a0 (((zf_R_stands st p1).2).1, ((zf_R_stands st p1).2).2.1, ((zf_R_stands st p1).2).2.2.1, (((zf_R_stands st p1).2).2.2.2.1) - 1, ((zf_R_stands st p1).2).2.2.2.2.1, ((zf_R_stands st p1).2).2.2.2.2.2.1, ((zf_R_stands st p1).2).2.2.2.2.2.2.1, ((zf_R_stands st p1).2).2.2.2.2.2.2.2.1, ((zf_R_stands st p1).2).2.2.2.2.2.2.2.2)) := hD
      refine lv_aload_n hx hb zd_R_accept_34 rfl (lv_at hl 0 rfl) ?_
      refine va_get (D := (dC, dI)) (ci := 4) (v := .int (((zf_R_stands st p1).2).1)) (C := zr_R) (T := zF_R) (N := 9) hx hb htB zi_R hown hK hP 0 rfl rfl 0 (by decide) (htB _ zk_b8a9b261) (fun _ h9 => h9) rfl zd_R_accept_35 ?_
      refine lv_iconst (v := 2) hx hb zd_R_accept_38 (by decide) ?_
      refine lv_icmp_eq (tgt := 51) hx hb zd_R_accept_39 (by decide) (fun c_39 => ?_) (fun c_39 => ?_)
      · refine lv_aload_n hx hb zd_R_accept_51 rfl (lv_at hl 0 rfl) ?_
        refine va_get (D := (dC, dI)) (ci := 4) (v := .int ((((zf_R_stands st p1).2).2.2.2.1) - 1)) (C := zr_R) (T := zF_R) (N := 9) hx hb htB zi_R hown hK hP 0 rfl rfl 3 (by decide) (htB _ zk_19b26606) (fun _ h9 => h9) rfl zd_R_accept_52 ?_
        refine lv_if_ne (tgt := 83) hx hb zd_R_accept_55 (by decide) (fun c_55 => ?_) (fun c_55 => ?_)
        · refine lv_aload_n hx hb zd_R_accept_83 rfl (lv_at hl 0 rfl) ?_
          refine lv_aload_n hx hb zd_R_accept_84 rfl (lv_at hl 0 rfl) ?_
          refine va_get (D := (dC, dI)) (ci := 4) (v := .int (((zf_R_stands st p1).2).1)) (C := zr_R) (T := zF_R) (N := 9) hx hb htB zi_R hown hK hP 0 rfl rfl 0 (by decide) (htB _ zk_b8a9b261) (fun _ h9 => h9) rfl zd_R_accept_85 ?_
          refine lv_bipush (v := 8) hx hb zd_R_accept_88 (by decide) ?_
          refine lv_icmp_ne (tgt := 97) hx hb zd_R_accept_90 (by decide) (fun c_ => absurd c_21 c_) (fun _ => ?_)
          refine lv_iconst (v := 3) hx hb zd_R_accept_93 (by decide) ?_
          refine lv_goto (tgt := 103) hx hb zd_R_accept_94 (by decide) ?_
          refine va_put (D := (dC, dI)) (ci := 4) (v := .int 3) (C := zr_R) (T := zF_R) (N := 9) hx hb htB zi_R zT_R zT_R_ok zn_R hown hK hP hD hS 0 rfl rfl 0 (by decide) (htB _ zk_b8a9b261) (fun _ h9 => h9) rfl (zT_R_ok 0 (by decide)) rfl rfl (Nat.le_of_ble_eq_true rfl) zd_R_accept_103 (fun H locs hP hD hS => ?_)
          have hP : va_P (dC, dI) zz_cl (zw_R cI cZ cL a0 (3, ((zf_R_stands st p1).2).2.1, ((zf_R_stands st p1).2).2.2.1, (((zf_R_stands st p1).2).2.2.2.1) - 1, ((zf_R_stands st p1).2).2.2.2.2.1, ((zf_R_stands st p1).2).2.2.2.2.2.1, ((zf_R_stands st p1).2).2.2.2.2.2.2.1, ((zf_R_stands st p1).2).2.2.2.2.2.2.2.1, ((zf_R_stands st p1).2).2.2.2.2.2.2.2.2)) H := hP
          have hD : va_D A (zw_R cI cZ cL a0 (3, ((zf_R_stands st p1).2).2.1, ((zf_R_stands st p1).2).2.2.1, (((zf_R_stands st p1).2).2.2.2.1) - 1, ((zf_R_stands st p1).2).2.2.2.2.1, ((zf_R_stands st p1).2).2.2.2.2.2.1, ((zf_R_stands st p1).2).2.2.2.2.2.2.1, ((zf_R_stands st p1).2).2.2.2.2.2.2.2.1, ((zf_R_stands st p1).2).2.2.2.2.2.2.2.2)) := hD
          refine lv_iconst (v := 0) hx hb zd_R_accept_106 (by decide) ?_
          rw [(show zf_R_accept st p1 = (0, (3, ((zf_R_stands st p1).2).2.1, ((zf_R_stands st p1).2).2.2.1, (((zf_R_stands st p1).2).2.2.2.1) - 1, ((zf_R_stands st p1).2).2.2.2.2.1, ((zf_R_stands st p1).2).2.2.2.2.2.1, ((zf_R_stands st p1).2).2.2.2.2.2.2.1, ((zf_R_stands st p1).2).2.2.2.2.2.2.2.1, ((zf_R_stands st p1).2).2.2.2.2.2.2.2.2)) from by rw [zf_R_accept, if_neg c_5, if_pos c_21, if_pos c_39, if_neg c_55])]
          exact zz_iret hx hb hr hlocks hK hP hD hS zd_R_accept_107 rfl
        · refine lv_aload_n hx hb zd_R_accept_58 rfl (lv_at hl 0 rfl) ?_
          refine lv_dup hx hb zd_R_accept_59 rfl ?_
          refine va_get (D := (dC, dI)) (ci := 4) (v := .int (((zf_R_stands st p1).2).2.2.2.2.2.2.2.1)) (C := zr_R) (T := zF_R) (N := 9) hx hb htB zi_R hown hK hP 0 rfl rfl 7 (by decide) (htB _ zk_e7cbea07) (fun _ h9 => h9) rfl zd_R_accept_60 ?_
          refine lv_iconst (v := 1) hx hb zd_R_accept_63 (by decide) ?_
          refine lv_iadd hx hb zd_R_accept_64 ?_
          refine va_put (D := (dC, dI)) (ci := 4) (v := .int ((((zf_R_stands st p1).2).2.2.2.2.2.2.2.1) + 1)) (C := zr_R) (T := zF_R) (N := 9) hx hb htB zi_R zT_R zT_R_ok zn_R hown hK hP hD hS 0 rfl rfl 7 (by decide) (htB _ zk_e7cbea07) (fun _ h9 => h9) rfl (zT_R_ok 7 (by decide)) rfl rfl (Nat.le_of_ble_eq_true rfl) zd_R_accept_65 (fun H locs hP hD hS => ?_)
          have hP : va_P (dC, dI) zz_cl (zw_R cI cZ cL a0 (((zf_R_stands st p1).2).1, ((zf_R_stands st p1).2).2.1, ((zf_R_stands st p1).2).2.2.1, (((zf_R_stands st p1).2).2.2.2.1) - 1, ((zf_R_stands st p1).2).2.2.2.2.1, ((zf_R_stands st p1).2).2.2.2.2.2.1, ((zf_R_stands st p1).2).2.2.2.2.2.2.1, (((zf_R_stands st p1).2).2.2.2.2.2.2.2.1) + 1, ((zf_R_stands st p1).2).2.2.2.2.2.2.2.2)) H := hP
          have hD : va_D A (zw_R cI cZ cL a0 (((zf_R_stands st p1).2).1, ((zf_R_stands st p1).2).2.1, ((zf_R_stands st p1).2).2.2.1, (((zf_R_stands st p1).2).2.2.2.1) - 1, ((zf_R_stands st p1).2).2.2.2.2.1, ((zf_R_stands st p1).2).2.2.2.2.2.1, ((zf_R_stands st p1).2).2.2.2.2.2.2.1, (((zf_R_stands st p1).2).2.2.2.2.2.2.2.1) + 1, ((zf_R_stands st p1).2).2.2.2.2.2.2.2.2)) := hD
          refine lv_aload_n hx hb zd_R_accept_68 rfl (lv_at hl 0 rfl) ?_
          refine lv_aload_n hx hb zd_R_accept_69 rfl (lv_at hl 0 rfl) ?_
          refine va_get (D := (dC, dI)) (ci := 4) (v := .int (((zf_R_stands st p1).2).2.2.1)) (C := zr_R) (T := zF_R) (N := 9) hx hb htB zi_R hown hK hP 0 rfl rfl 2 (by decide) (htB _ zk_64a6c42c) (fun _ h9 => h9) rfl zd_R_accept_70 ?_
          refine va_put (D := (dC, dI)) (ci := 4) (v := .int (((zf_R_stands st p1).2).2.2.1)) (C := zr_R) (T := zF_R) (N := 9) hx hb htB zi_R zT_R zT_R_ok zn_R hown hK hP hD hS 0 rfl rfl 8 (by decide) (htB _ zk_8c4f15a9) (fun _ h9 => h9) rfl (zT_R_ok 8 (by decide)) rfl rfl (Nat.le_of_ble_eq_true rfl) zd_R_accept_73 (fun H locs hP hD hS => ?_)
          have hP : va_P (dC, dI) zz_cl (zw_R cI cZ cL a0 (((zf_R_stands st p1).2).1, ((zf_R_stands st p1).2).2.1, ((zf_R_stands st p1).2).2.2.1, (((zf_R_stands st p1).2).2.2.2.1) - 1, ((zf_R_stands st p1).2).2.2.2.2.1, ((zf_R_stands st p1).2).2.2.2.2.2.1, ((zf_R_stands st p1).2).2.2.2.2.2.2.1, (((zf_R_stands st p1).2).2.2.2.2.2.2.2.1) + 1, ((zf_R_stands st p1).2).2.2.1)) H := hP
          have hD : va_D A (zw_R cI cZ cL a0 (((zf_R_stands st p1).2).1, ((zf_R_stands st p1).2).2.1, ((zf_R_stands st p1).2).2.2.1, (((zf_R_stands st p1).2).2.2.2.1) - 1, ((zf_R_stands st p1).2).2.2.2.2.1, ((zf_R_stands st p1).2).2.2.2.2.2.1, ((zf_R_stands st p1).2).2.2.2.2.2.2.1, (((zf_R_stands st p1).2).2.2.2.2.2.2.2.1) + 1, ((zf_R_stands st p1).2).2.2.1)) := hD
          refine lv_aload_n hx hb zd_R_accept_76 rfl (lv_at hl 0 rfl) ?_
          refine lv_iconst (v := 0) hx hb zd_R_accept_77 (by decide) ?_
          refine va_put (D := (dC, dI)) (ci := 4) (v := .int 0) (C := zr_R) (T := zF_R) (N := 9) hx hb htB zi_R zT_R zT_R_ok zn_R hown hK hP hD hS 0 rfl rfl 0 (by decide) (htB _ zk_b8a9b261) (fun _ h9 => h9) rfl (zT_R_ok 0 (by decide)) rfl rfl (Nat.le_of_ble_eq_true rfl) zd_R_accept_78 (fun H locs hP hD hS => ?_)
          have hP : va_P (dC, dI) zz_cl (zw_R cI cZ cL a0 (0, ((zf_R_stands st p1).2).2.1, ((zf_R_stands st p1).2).2.2.1, (((zf_R_stands st p1).2).2.2.2.1) - 1, ((zf_R_stands st p1).2).2.2.2.2.1, ((zf_R_stands st p1).2).2.2.2.2.2.1, ((zf_R_stands st p1).2).2.2.2.2.2.2.1, (((zf_R_stands st p1).2).2.2.2.2.2.2.2.1) + 1, ((zf_R_stands st p1).2).2.2.1)) H := hP
          have hD : va_D A (zw_R cI cZ cL a0 (0, ((zf_R_stands st p1).2).2.1, ((zf_R_stands st p1).2).2.2.1, (((zf_R_stands st p1).2).2.2.2.1) - 1, ((zf_R_stands st p1).2).2.2.2.2.1, ((zf_R_stands st p1).2).2.2.2.2.2.1, ((zf_R_stands st p1).2).2.2.2.2.2.2.1, (((zf_R_stands st p1).2).2.2.2.2.2.2.2.1) + 1, ((zf_R_stands st p1).2).2.2.1)) := hD
          refine lv_iconst (v := 1) hx hb zd_R_accept_81 (by decide) ?_
          rw [(show zf_R_accept st p1 = (1, (0, ((zf_R_stands st p1).2).2.1, ((zf_R_stands st p1).2).2.2.1, (((zf_R_stands st p1).2).2.2.2.1) - 1, ((zf_R_stands st p1).2).2.2.2.2.1, ((zf_R_stands st p1).2).2.2.2.2.2.1, ((zf_R_stands st p1).2).2.2.2.2.2.2.1, (((zf_R_stands st p1).2).2.2.2.2.2.2.2.1) + 1, ((zf_R_stands st p1).2).2.2.1)) from by rw [zf_R_accept, if_neg c_5, if_pos c_21, if_pos c_39, if_pos c_55])]
          exact zz_iret hx hb hr hlocks hK hP hD hS zd_R_accept_82 rfl
      · refine lv_aload_n hx hb zd_R_accept_42 rfl (lv_at hl 0 rfl) ?_
        refine va_get (D := (dC, dI)) (ci := 4) (v := .int (((zf_R_stands st p1).2).1)) (C := zr_R) (T := zF_R) (N := 9) hx hb htB zi_R hown hK hP 0 rfl rfl 0 (by decide) (htB _ zk_b8a9b261) (fun _ h9 => h9) rfl zd_R_accept_43 ?_
        refine lv_bipush (v := 8) hx hb zd_R_accept_46 (by decide) ?_
        refine lv_icmp_ne (tgt := 83) hx hb zd_R_accept_48 (by decide) (fun c_ => absurd c_21 c_) (fun _ => ?_)
        refine lv_aload_n hx hb zd_R_accept_51 rfl (lv_at hl 0 rfl) ?_
        refine va_get (D := (dC, dI)) (ci := 4) (v := .int ((((zf_R_stands st p1).2).2.2.2.1) - 1)) (C := zr_R) (T := zF_R) (N := 9) hx hb htB zi_R hown hK hP 0 rfl rfl 3 (by decide) (htB _ zk_19b26606) (fun _ h9 => h9) rfl zd_R_accept_52 ?_
        refine lv_if_ne (tgt := 83) hx hb zd_R_accept_55 (by decide) (fun c_55 => ?_) (fun c_55 => ?_)
        · refine lv_aload_n hx hb zd_R_accept_83 rfl (lv_at hl 0 rfl) ?_
          refine lv_aload_n hx hb zd_R_accept_84 rfl (lv_at hl 0 rfl) ?_
          refine va_get (D := (dC, dI)) (ci := 4) (v := .int (((zf_R_stands st p1).2).1)) (C := zr_R) (T := zF_R) (N := 9) hx hb htB zi_R hown hK hP 0 rfl rfl 0 (by decide) (htB _ zk_b8a9b261) (fun _ h9 => h9) rfl zd_R_accept_85 ?_
          refine lv_bipush (v := 8) hx hb zd_R_accept_88 (by decide) ?_
          refine lv_icmp_ne (tgt := 97) hx hb zd_R_accept_90 (by decide) (fun c_ => absurd c_21 c_) (fun _ => ?_)
          refine lv_iconst (v := 3) hx hb zd_R_accept_93 (by decide) ?_
          refine lv_goto (tgt := 103) hx hb zd_R_accept_94 (by decide) ?_
          refine va_put (D := (dC, dI)) (ci := 4) (v := .int 3) (C := zr_R) (T := zF_R) (N := 9) hx hb htB zi_R zT_R zT_R_ok zn_R hown hK hP hD hS 0 rfl rfl 0 (by decide) (htB _ zk_b8a9b261) (fun _ h9 => h9) rfl (zT_R_ok 0 (by decide)) rfl rfl (Nat.le_of_ble_eq_true rfl) zd_R_accept_103 (fun H locs hP hD hS => ?_)
          have hP : va_P (dC, dI) zz_cl (zw_R cI cZ cL a0 (3, ((zf_R_stands st p1).2).2.1, ((zf_R_stands st p1).2).2.2.1, (((zf_R_stands st p1).2).2.2.2.1) - 1, ((zf_R_stands st p1).2).2.2.2.2.1, ((zf_R_stands st p1).2).2.2.2.2.2.1, ((zf_R_stands st p1).2).2.2.2.2.2.2.1, ((zf_R_stands st p1).2).2.2.2.2.2.2.2.1, ((zf_R_stands st p1).2).2.2.2.2.2.2.2.2)) H := hP
          have hD : va_D A (zw_R cI cZ cL a0 (3, ((zf_R_stands st p1).2).2.1, ((zf_R_stands st p1).2).2.2.1, (((zf_R_stands st p1).2).2.2.2.1) - 1, ((zf_R_stands st p1).2).2.2.2.2.1, ((zf_R_stands st p1).2).2.2.2.2.2.1, ((zf_R_stands st p1).2).2.2.2.2.2.2.1, ((zf_R_stands st p1).2).2.2.2.2.2.2.2.1, ((zf_R_stands st p1).2).2.2.2.2.2.2.2.2)) := hD
          refine lv_iconst (v := 0) hx hb zd_R_accept_106 (by decide) ?_
          rw [(show zf_R_accept st p1 = (0, (3, ((zf_R_stands st p1).2).2.1, ((zf_R_stands st p1).2).2.2.1, (((zf_R_stands st p1).2).2.2.2.1) - 1, ((zf_R_stands st p1).2).2.2.2.2.1, ((zf_R_stands st p1).2).2.2.2.2.2.1, ((zf_R_stands st p1).2).2.2.2.2.2.2.1, ((zf_R_stands st p1).2).2.2.2.2.2.2.2.1, ((zf_R_stands st p1).2).2.2.2.2.2.2.2.2)) from by rw [zf_R_accept, if_neg c_5, if_pos c_21, if_neg c_39, if_neg c_55])]
          exact zz_iret hx hb hr hlocks hK hP hD hS zd_R_accept_107 rfl
        · refine lv_aload_n hx hb zd_R_accept_58 rfl (lv_at hl 0 rfl) ?_
          refine lv_dup hx hb zd_R_accept_59 rfl ?_
          refine va_get (D := (dC, dI)) (ci := 4) (v := .int (((zf_R_stands st p1).2).2.2.2.2.2.2.2.1)) (C := zr_R) (T := zF_R) (N := 9) hx hb htB zi_R hown hK hP 0 rfl rfl 7 (by decide) (htB _ zk_e7cbea07) (fun _ h9 => h9) rfl zd_R_accept_60 ?_
          refine lv_iconst (v := 1) hx hb zd_R_accept_63 (by decide) ?_
          refine lv_iadd hx hb zd_R_accept_64 ?_
          refine va_put (D := (dC, dI)) (ci := 4) (v := .int ((((zf_R_stands st p1).2).2.2.2.2.2.2.2.1) + 1)) (C := zr_R) (T := zF_R) (N := 9) hx hb htB zi_R zT_R zT_R_ok zn_R hown hK hP hD hS 0 rfl rfl 7 (by decide) (htB _ zk_e7cbea07) (fun _ h9 => h9) rfl (zT_R_ok 7 (by decide)) rfl rfl (Nat.le_of_ble_eq_true rfl) zd_R_accept_65 (fun H locs hP hD hS => ?_)
          have hP : va_P (dC, dI) zz_cl (zw_R cI cZ cL a0 (((zf_R_stands st p1).2).1, ((zf_R_stands st p1).2).2.1, ((zf_R_stands st p1).2).2.2.1, (((zf_R_stands st p1).2).2.2.2.1) - 1, ((zf_R_stands st p1).2).2.2.2.2.1, ((zf_R_stands st p1).2).2.2.2.2.2.1, ((zf_R_stands st p1).2).2.2.2.2.2.2.1, (((zf_R_stands st p1).2).2.2.2.2.2.2.2.1) + 1, ((zf_R_stands st p1).2).2.2.2.2.2.2.2.2)) H := hP
          have hD : va_D A (zw_R cI cZ cL a0 (((zf_R_stands st p1).2).1, ((zf_R_stands st p1).2).2.1, ((zf_R_stands st p1).2).2.2.1, (((zf_R_stands st p1).2).2.2.2.1) - 1, ((zf_R_stands st p1).2).2.2.2.2.1, ((zf_R_stands st p1).2).2.2.2.2.2.1, ((zf_R_stands st p1).2).2.2.2.2.2.2.1, (((zf_R_stands st p1).2).2.2.2.2.2.2.2.1) + 1, ((zf_R_stands st p1).2).2.2.2.2.2.2.2.2)) := hD
          refine lv_aload_n hx hb zd_R_accept_68 rfl (lv_at hl 0 rfl) ?_
          refine lv_aload_n hx hb zd_R_accept_69 rfl (lv_at hl 0 rfl) ?_
          refine va_get (D := (dC, dI)) (ci := 4) (v := .int (((zf_R_stands st p1).2).2.2.1)) (C := zr_R) (T := zF_R) (N := 9) hx hb htB zi_R hown hK hP 0 rfl rfl 2 (by decide) (htB _ zk_64a6c42c) (fun _ h9 => h9) rfl zd_R_accept_70 ?_
          refine va_put (D := (dC, dI)) (ci := 4) (v := .int (((zf_R_stands st p1).2).2.2.1)) (C := zr_R) (T := zF_R) (N := 9) hx hb htB zi_R zT_R zT_R_ok zn_R hown hK hP hD hS 0 rfl rfl 8 (by decide) (htB _ zk_8c4f15a9) (fun _ h9 => h9) rfl (zT_R_ok 8 (by decide)) rfl rfl (Nat.le_of_ble_eq_true rfl) zd_R_accept_73 (fun H locs hP hD hS => ?_)
          have hP : va_P (dC, dI) zz_cl (zw_R cI cZ cL a0 (((zf_R_stands st p1).2).1, ((zf_R_stands st p1).2).2.1, ((zf_R_stands st p1).2).2.2.1, (((zf_R_stands st p1).2).2.2.2.1) - 1, ((zf_R_stands st p1).2).2.2.2.2.1, ((zf_R_stands st p1).2).2.2.2.2.2.1, ((zf_R_stands st p1).2).2.2.2.2.2.2.1, (((zf_R_stands st p1).2).2.2.2.2.2.2.2.1) + 1, ((zf_R_stands st p1).2).2.2.1)) H := hP
          have hD : va_D A (zw_R cI cZ cL a0 (((zf_R_stands st p1).2).1, ((zf_R_stands st p1).2).2.1, ((zf_R_stands st p1).2).2.2.1, (((zf_R_stands st p1).2).2.2.2.1) - 1, ((zf_R_stands st p1).2).2.2.2.2.1, ((zf_R_stands st p1).2).2.2.2.2.2.1, ((zf_R_stands st p1).2).2.2.2.2.2.2.1, (((zf_R_stands st p1).2).2.2.2.2.2.2.2.1) + 1, ((zf_R_stands st p1).2).2.2.1)) := hD
          refine lv_aload_n hx hb zd_R_accept_76 rfl (lv_at hl 0 rfl) ?_
          refine lv_iconst (v := 0) hx hb zd_R_accept_77 (by decide) ?_
          refine va_put (D := (dC, dI)) (ci := 4) (v := .int 0) (C := zr_R) (T := zF_R) (N := 9) hx hb htB zi_R zT_R zT_R_ok zn_R hown hK hP hD hS 0 rfl rfl 0 (by decide) (htB _ zk_b8a9b261) (fun _ h9 => h9) rfl (zT_R_ok 0 (by decide)) rfl rfl (Nat.le_of_ble_eq_true rfl) zd_R_accept_78 (fun H locs hP hD hS => ?_)
          have hP : va_P (dC, dI) zz_cl (zw_R cI cZ cL a0 (0, ((zf_R_stands st p1).2).2.1, ((zf_R_stands st p1).2).2.2.1, (((zf_R_stands st p1).2).2.2.2.1) - 1, ((zf_R_stands st p1).2).2.2.2.2.1, ((zf_R_stands st p1).2).2.2.2.2.2.1, ((zf_R_stands st p1).2).2.2.2.2.2.2.1, (((zf_R_stands st p1).2).2.2.2.2.2.2.2.1) + 1, ((zf_R_stands st p1).2).2.2.1)) H := hP
          have hD : va_D A (zw_R cI cZ cL a0 (0, ((zf_R_stands st p1).2).2.1, ((zf_R_stands st p1).2).2.2.1, (((zf_R_stands st p1).2).2.2.2.1) - 1, ((zf_R_stands st p1).2).2.2.2.2.1, ((zf_R_stands st p1).2).2.2.2.2.2.1, ((zf_R_stands st p1).2).2.2.2.2.2.2.1, (((zf_R_stands st p1).2).2.2.2.2.2.2.2.1) + 1, ((zf_R_stands st p1).2).2.2.1)) := hD
          refine lv_iconst (v := 1) hx hb zd_R_accept_81 (by decide) ?_
          rw [(show zf_R_accept st p1 = (1, (0, ((zf_R_stands st p1).2).2.1, ((zf_R_stands st p1).2).2.2.1, (((zf_R_stands st p1).2).2.2.2.1) - 1, ((zf_R_stands st p1).2).2.2.2.2.1, ((zf_R_stands st p1).2).2.2.2.2.2.1, ((zf_R_stands st p1).2).2.2.2.2.2.2.1, (((zf_R_stands st p1).2).2.2.2.2.2.2.2.1) + 1, ((zf_R_stands st p1).2).2.2.1)) from by rw [zf_R_accept, if_neg c_5, if_pos c_21, if_neg c_39, if_pos c_55])]
          exact zz_iret hx hb hr hlocks hK hP hD hS zd_R_accept_82 rfl
  · refine lv_aload_n hx hb zd_R_accept_8 rfl (lv_at hl 0 rfl) ?_
    refine lv_iconst (v := 0) hx hb zd_R_accept_9 (by decide) ?_
    refine va_put (D := (dC, dI)) (ci := 4) (v := .int 0) (C := zr_R) (T := zF_R) (N := 9) hx hb htB zi_R zT_R zT_R_ok zn_R hown hK hP hD hS 0 rfl rfl 0 (by decide) (htB _ zk_b8a9b261) (fun _ h9 => h9) rfl (zT_R_ok 0 (by decide)) rfl rfl (Nat.le_of_ble_eq_true rfl) zd_R_accept_10 (fun H locs hP hD hS => ?_)
    have hP : va_P (dC, dI) zz_cl (zw_R cI cZ cL a0 (0, ((zf_R_stands st p1).2).2.1, ((zf_R_stands st p1).2).2.2.1, ((zf_R_stands st p1).2).2.2.2.1, ((zf_R_stands st p1).2).2.2.2.2.1, ((zf_R_stands st p1).2).2.2.2.2.2.1, ((zf_R_stands st p1).2).2.2.2.2.2.2.1, ((zf_R_stands st p1).2).2.2.2.2.2.2.2.1, ((zf_R_stands st p1).2).2.2.2.2.2.2.2.2)) H := hP
    have hD : va_D A (zw_R cI cZ cL a0 (0, ((zf_R_stands st p1).2).2.1, ((zf_R_stands st p1).2).2.2.1, ((zf_R_stands st p1).2).2.2.2.1, ((zf_R_stands st p1).2).2.2.2.2.1, ((zf_R_stands st p1).2).2.2.2.2.2.1, ((zf_R_stands st p1).2).2.2.2.2.2.2.1, ((zf_R_stands st p1).2).2.2.2.2.2.2.2.1, ((zf_R_stands st p1).2).2.2.2.2.2.2.2.2)) := hD
    refine lv_iconst (v := (-1)) hx hb zd_R_accept_13 (by decide) ?_
    rw [(show zf_R_accept st p1 = ((-1), (0, ((zf_R_stands st p1).2).2.1, ((zf_R_stands st p1).2).2.2.1, ((zf_R_stands st p1).2).2.2.2.1, ((zf_R_stands st p1).2).2.2.2.2.1, ((zf_R_stands st p1).2).2.2.2.2.2.1, ((zf_R_stands st p1).2).2.2.2.2.2.2.1, ((zf_R_stands st p1).2).2.2.2.2.2.2.2.1, ((zf_R_stands st p1).2).2.2.2.2.2.2.2.2)) from by rw [zf_R_accept, if_pos c_5])]
    exact zz_iret hx hb hr hlocks hK hP hD hS zd_R_accept_14 rfl
end
section
set_option maxHeartbeats 4000000 in
set_option maxRecDepth 100000 in
theorem zp_X_firstWithoutGoodCode_2 {p : Program} {l : Launch} {e : Env} {s : State} {m : MethodId} {below : List Frame} {meth : Method} {c : Code} (dC : Nat → ClassId) (dI : Nat → Nat → Nat) (cI cZ cL : ClassId) (a0 a1 a2 a3 a4 a5 a6 a7 a8 a9 a10 a11 : Nat) (st : zu_X) (hc : st.2.2.1.2.2 ≤ 20) (C0 : zz_C p s m ([.ref a0] : List Value).toArray meth c zb_X_firstWithoutGoodCode 4 (some .int) zy_X_firstWithoutGoodCode.cls) (hK : va_K (dC, dI) zz_cl (zz_ty cI cZ cL) s) (hP : va_P (dC, dI) zz_cl (zw_X cI cZ cL a0 a1 a2 a3 a4 a5 a6 a7 a8 a9 a10 a11 st) s.heap) (hD : va_D (fun _ => True) (zw_X cI cZ cL a0 a1 a2 a3 a4 a5 a6 a7 a8 a9 a10 a11 st)) :
    ∀ (mm k : Nat), k + mm = 31 → ∀ ls : Array Slot, lv_has ls 4 [(0, .ref a0), (1, .int (nI k))] →
    W p l e ({ frames := 2, cells := 0, slots := 0, locals := 45 } : Room) s m ([.ref a0] : List Value).toArray below meth c s.heap [] 0 0 (MQ below (zz_Ki (zf_X_firstWithoutGoodCode_L2 st mm k)) ([.ref a0] : List Value).toArray s 0 0 (fun _ => False)) (F0 m 2 ls []) := by
  obtain ⟨hx, hb, hr, hml, hown, htB, hlocks, hE⟩ := id C0
  intro mm
  induction mm with
  | zero =>
    intro k hk  ls hl
    refine lv_iload_n hx hb zd_X_firstWithoutGoodCode_2 rfl (lv_at hl 1 rfl) ?_
    refine lv_bipush (v := 30) hx hb zd_X_firstWithoutGoodCode_3 (by decide) ?_
    refine lv_icmp_gt (tgt := 56) hx hb zd_X_firstWithoutGoodCode_5 (by decide) (fun _ => ?_) (fun c_ => absurd (zz_gtT (b := 30) rfl (by omega) (by omega)) c_)
    refine lv_iconst (v := (-1)) hx hb zd_X_firstWithoutGoodCode_56 (by decide) ?_
    rw [(show zf_X_firstWithoutGoodCode_L2 st 0 k = (-1) from by first | rfl | (rw [zf_X_firstWithoutGoodCode_L2]))]
    exact zz_kiret hx hb hr hlocks zd_X_firstWithoutGoodCode_57 rfl
  | succ mm ih =>
    intro k hk  ls hl
    refine lv_iload_n hx hb zd_X_firstWithoutGoodCode_2 rfl (lv_at hl 1 rfl) ?_
    refine lv_bipush (v := 30) hx hb zd_X_firstWithoutGoodCode_3 (by decide) ?_
    refine lv_icmp_gt (tgt := 56) hx hb zd_X_firstWithoutGoodCode_5 (by decide) (fun c_ => absurd c_ (zz_gtF (b := 30) rfl (by omega) (by omega))) (fun _ => ?_)
    refine lv_aload_n hx hb zd_X_firstWithoutGoodCode_8 rfl (lv_at hl 0 rfl) ?_
    refine va_get (D := (dC, dI)) (ci := 0) (v := .ref a1) (C := zr_X) (T := zF_X) (N := 7) hx hb htB zi_X hown hK hP 0 rfl rfl 1 (by decide) (htB _ zk_ac6f5f75) (fun _ h9 => h9) rfl zd_X_firstWithoutGoodCode_9 ?_
    refine lv_bipush (v := 10) hx hb zd_X_firstWithoutGoodCode_12 (by decide) ?_
    refine lv_iload_n hx hb zd_X_firstWithoutGoodCode_14 rfl (lv_at hl 1 rfl) ?_
    refine zz_ki (va_runV (As := [.int 10, .int (nI k)]) (rest := []) ⟨hx, hb, hml, hown, htB⟩ (zc_S_slotOf l dC dI cI cZ cL a1 a2 a3 s.heap.size st.2.1 10 (nI k) ) (cwV 2 htB (zz_gV zk_3749943e zk_13757a2f zk_9f779419 zk_f1a23aa7 zk_e4817253) rfl rfl rfl ⟨rfl, zh_S_slotOf⟩ ⟨Nat.le_of_ble_eq_true rfl, Nat.le_of_ble_eq_true rfl⟩) (zz_preV (ci := 1) (q := (zr_S, zF_S, 5)) hP hD hK hE [1, 2, 3] (by decide) rfl rfl rfl) rfl rfl hl.1 rfl (lv_room (Nat.le_of_ble_eq_true rfl)) zd_X_firstWithoutGoodCode_15 ⟨Nat.le_of_ble_eq_true rfl, Nat.le_of_ble_eq_true rfl⟩) ?_
    refine lv_istore_n (lv' := [(2, .int (zf_S_slotOf st.2.1 10 (nI k))), (0, .ref a0), (1, .int (nI k))]) hx hb zd_X_firstWithoutGoodCode_18 rfl hl (by decide) rfl (fun ls hl => ?_)
    refine lv_aload_n hx hb zd_X_firstWithoutGoodCode_19 rfl (lv_at hl 1 rfl) ?_
    refine va_get (D := (dC, dI)) (ci := 0) (v := .ref a1) (C := zr_X) (T := zF_X) (N := 7) hx hb htB zi_X hown hK hP 0 rfl rfl 1 (by decide) (htB _ zk_ac6f5f75) (fun _ h9 => h9) rfl zd_X_firstWithoutGoodCode_20 ?_
    refine lv_iload_n hx hb zd_X_firstWithoutGoodCode_23 rfl (lv_at hl 0 rfl) ?_
    refine zz_ki (va_runV (As := [.int (zf_S_slotOf st.2.1 10 (nI k))]) (rest := []) ⟨hx, hb, hml, hown, htB⟩ (zc_S_valueAt l dC dI cI cZ cL a1 a2 a3 s.heap.size st.2.1 (zf_S_slotOf st.2.1 10 (nI k)) ) (cwV 1 htB (zz_gV zk_79454776 zk_1fa0ab90 zk_4c70df44 zk_f1a23aa7 zk_fdbb5e96) rfl rfl rfl ⟨rfl, zh_S_valueAt⟩ ⟨Nat.le_of_ble_eq_true rfl, Nat.le_of_ble_eq_true rfl⟩) (zz_preV (ci := 1) (q := (zr_S, zF_S, 5)) hP hD hK hE [1, 2, 3] (by decide) rfl rfl rfl) rfl rfl hl.1 rfl (lv_room (Nat.le_of_ble_eq_true rfl)) zd_X_firstWithoutGoodCode_24 ⟨Nat.le_of_ble_eq_true rfl, Nat.le_of_ble_eq_true rfl⟩) ?_
    refine lv_istore_n (lv' := [(3, .int (zf_S_valueAt st.2.1 (zf_S_slotOf st.2.1 10 (nI k)))), (2, .int (zf_S_slotOf st.2.1 10 (nI k))), (0, .ref a0), (1, .int (nI k))]) hx hb zd_X_firstWithoutGoodCode_27 rfl hl (by decide) rfl (fun ls hl => ?_)
    refine lv_iload_n hx hb zd_X_firstWithoutGoodCode_28 rfl (lv_at hl 0 rfl) ?_
    refine lv_iconst (v := (-1)) hx hb zd_X_firstWithoutGoodCode_29 (by decide) ?_
    refine lv_icmp_eq (tgt := 50) hx hb zd_X_firstWithoutGoodCode_30 (by decide) (fun c_30 => ?_) (fun c_30 => ?_)
    · refine lv_iinc (v := nI (k + 1)) (lv' := [(1, .int (nI (k + 1))), (3, .int (zf_S_valueAt st.2.1 (zf_S_slotOf st.2.1 10 (nI k)))), (2, .int (zf_S_slotOf st.2.1 10 (nI k))), (0, .ref a0)]) hx hb zd_X_firstWithoutGoodCode_50 hl (k := 3) rfl (nI_1 k) (by decide) rfl (fun ls hl => ?_)
      refine lv_goto (tgt := 2) hx hb zd_X_firstWithoutGoodCode_53 (by decide) ?_
      rw [(show zf_X_firstWithoutGoodCode_L2 st (mm + 1) k = zf_X_firstWithoutGoodCode_L2 st mm (k + 1) from by rw [zf_X_firstWithoutGoodCode_L2, if_pos c_30])]
      exact ih (k + 1) (by omega)   _ (lv_sub hl [3, 0] rfl)
    · refine lv_aload_n hx hb zd_X_firstWithoutGoodCode_33 rfl (lv_at hl 2 rfl) ?_
      refine va_get (D := (dC, dI)) (ci := 0) (v := .ref a4) (C := zr_X) (T := zF_X) (N := 7) hx hb htB zi_X hown hK hP 0 rfl rfl 2 (by decide) (htB _ zk_92bcf320) (fun _ h9 => h9) rfl zd_X_firstWithoutGoodCode_34 ?_
      refine lv_iload_n hx hb zd_X_firstWithoutGoodCode_37 rfl (lv_at hl 0 rfl) ?_
      refine lv_aload_n hx hb zd_X_firstWithoutGoodCode_38 rfl (lv_at hl 2 rfl) ?_
      refine va_get (D := (dC, dI)) (ci := 0) (v := .int st.2.2.2.2.2.1) (C := zr_X) (T := zF_X) (N := 7) hx hb htB zi_X hown hK hP 0 rfl rfl 5 (by decide) (htB _ zk_be002196) (fun _ h9 => h9) rfl zd_X_firstWithoutGoodCode_39 ?_
      refine zz_ki (va_runV (As := [.int (zf_S_valueAt st.2.1 (zf_S_slotOf st.2.1 10 (nI k))), .int st.2.2.2.2.2.1]) (rest := []) ⟨hx, hb, hml, hown, htB⟩ (zc_C_isGood l dC dI cI cZ cL a4 a5 a6 s.heap.size st.2.2.1 (zf_S_valueAt st.2.1 (zf_S_slotOf st.2.1 10 (nI k))) st.2.2.2.2.2.1 hc) (cwV 2 htB (zz_gV zk_c4308639 zk_a0a2078d zk_1368934a zk_e143c677 zk_16132e5e) rfl rfl rfl ⟨rfl, zh_C_isGood⟩ ⟨Nat.le_of_ble_eq_true rfl, Nat.le_of_ble_eq_true rfl⟩) (zz_preV (ci := 2) (q := (zr_C, zF_C, 3)) hP hD hK hE [4, 5, 6] (by decide) rfl rfl rfl) rfl rfl hl.1 rfl (lv_room (Nat.le_of_ble_eq_true rfl)) zd_X_firstWithoutGoodCode_42 ⟨Nat.le_of_ble_eq_true rfl, Nat.le_of_ble_eq_true rfl⟩) ?_
      refine lv_if_ne (tgt := 50) hx hb zd_X_firstWithoutGoodCode_45 (by decide) (fun c_45 => ?_) (fun c_45 => ?_)
      · refine lv_iinc (v := nI (k + 1)) (lv' := [(1, .int (nI (k + 1))), (3, .int (zf_S_valueAt st.2.1 (zf_S_slotOf st.2.1 10 (nI k)))), (2, .int (zf_S_slotOf st.2.1 10 (nI k))), (0, .ref a0)]) hx hb zd_X_firstWithoutGoodCode_50 hl (k := 3) rfl (nI_1 k) (by decide) rfl (fun ls hl => ?_)
        refine lv_goto (tgt := 2) hx hb zd_X_firstWithoutGoodCode_53 (by decide) ?_
        rw [(show zf_X_firstWithoutGoodCode_L2 st (mm + 1) k = zf_X_firstWithoutGoodCode_L2 st mm (k + 1) from by rw [zf_X_firstWithoutGoodCode_L2, if_neg c_30, if_neg c_45])]
        exact ih (k + 1) (by omega)   _ (lv_sub hl [3, 0] rfl)
      · refine lv_iload_n hx hb zd_X_firstWithoutGoodCode_48 rfl (lv_at hl 1 rfl) ?_
        rw [(show zf_X_firstWithoutGoodCode_L2 st (mm + 1) k = (zf_S_slotOf st.2.1 10 (nI k)) from by rw [zf_X_firstWithoutGoodCode_L2, if_neg c_30, if_pos c_45])]
        exact zz_kiret hx hb hr hlocks zd_X_firstWithoutGoodCode_49 rfl
set_option maxHeartbeats 4000000 in
set_option maxRecDepth 100000 in
theorem zc_X_firstWithoutGoodCode (l : Launch) (dC : Nat → ClassId) (dI : Nat → Nat → Nat) (cI cZ cL : ClassId) (a0 a1 a2 a3 a4 a5 a6 a7 a8 a9 a10 a11 : Nat) (sz : Nat) (st : zu_X) (hc : st.2.2.1.2.2 ≤ 20) : Met l zy_X_firstWithoutGoodCode (zz_ws zy_X_firstWithoutGoodCode zb_X_firstWithoutGoodCode 4 (some .int)) ({ frames := 2, cells := 0, slots := 0, locals := 45 } : Room) (va_Pc ([.ref a0] : List Value) (zz_P (dC, dI) (zz_ty cI cZ cL) sz (zw_X cI cZ cL a0 a1 a2 a3 a4 a5 a6 a7 a8 a9 a10 a11 st))) (zz_Ki (zf_X_firstWithoutGoodCode st)) 0 0 (fun _ => False) := by
  refine zz_ofK (by decide) (Nat.le_of_ble_eq_true rfl) ?_
  intro p e s m below meth c C0 hK hP hD ls hl
  obtain ⟨hx, hb, hr, hml, hown, htB, hlocks, hE⟩ := id C0
  have hl : lv_has ls 4 [(0, .ref a0)] := hl
  refine lv_iconst (v := 1) hx hb zd_X_firstWithoutGoodCode_0 (by decide) ?_
  refine lv_istore_n (lv' := [(1, .int 1), (0, .ref a0)]) hx hb zd_X_firstWithoutGoodCode_1 rfl hl (by decide) rfl (fun ls hl => ?_)
  rw [(show zf_X_firstWithoutGoodCode st = zf_X_firstWithoutGoodCode_L2 st 30 1 from by first | rfl | (rw [zf_X_firstWithoutGoodCode]))]
  exact zp_X_firstWithoutGoodCode_2 dC dI cI cZ cL a0 a1 a2 a3 a4 a5 a6 a7 a8 a9 a10 a11 st hc C0 hK hP hD 30 1 rfl   _ (lv_sub hl [1, 0] rfl)
set_option maxHeartbeats 4000000 in
set_option maxRecDepth 100000 in
theorem zc_X_check (l : Launch) (dC : Nat → ClassId) (dI : Nat → Nat → Nat) (cI cZ cL : ClassId) (a0 a1 a2 a3 a4 a5 a6 a7 a8 a9 a10 a11 : Nat) (sz : Nat) (st : zu_X) (hc : st.2.2.1.2.2 ≤ 20) : Met l zy_X_check (zz_ws zy_X_check zb_X_check 3 (some .int)) ({ frames := 4, cells := 0, slots := 0, locals := 90 } : Room) (va_Pc ([.ref a0] : List Value) (zz_P (dC, dI) (zz_ty cI cZ cL) sz (zw_X cI cZ cL a0 a1 a2 a3 a4 a5 a6 a7 a8 a9 a10 a11 st))) (zz_Ki (zf_X_check st)) 0 0 (fun _ => False) := by
  refine zz_ofK (by decide) (Nat.le_of_ble_eq_true rfl) ?_
  intro p e s m below meth c C0 hK hP hD ls hl
  obtain ⟨hx, hb, hr, hml, hown, htB, hlocks, hE⟩ := id C0
  have hl : lv_has ls 3 [(0, .ref a0)] := hl
  refine lv_aload_n hx hb zd_X_check_0 rfl (lv_at hl 0 rfl) ?_
  refine va_get (D := (dC, dI)) (ci := 0) (v := .ref a1) (C := zr_X) (T := zF_X) (N := 7) hx hb htB zi_X hown hK hP 0 rfl rfl 1 (by decide) (htB _ zk_ac6f5f75) (fun _ h9 => h9) rfl zd_X_check_1 ?_
  refine lv_aload_n hx hb zd_X_check_4 rfl (lv_at hl 0 rfl) ?_
  refine va_get (D := (dC, dI)) (ci := 0) (v := .int st.1) (C := zr_X) (T := zF_X) (N := 7) hx hb htB zi_X hown hK hP 0 rfl rfl 0 (by decide) (htB _ zk_26e1908c) (fun _ h9 => h9) rfl zd_X_check_5 ?_
  refine zz_ki (va_runV (As := [.int st.1]) (rest := []) ⟨hx, hb, hml, hown, htB⟩ (zc_S_firstMissing l dC dI cI cZ cL a1 a2 a3 s.heap.size st.2.1 st.1 ) (cwV 1 htB (zz_gV zk_02a77f53 zk_96eb0eaf zk_1b88eb0a zk_f1a23aa7 zk_866be72d) rfl rfl rfl ⟨rfl, zh_S_firstMissing⟩ ⟨Nat.le_of_ble_eq_true rfl, Nat.le_of_ble_eq_true rfl⟩) (zz_preV (ci := 1) (q := (zr_S, zF_S, 5)) hP hD hK hE [1, 2, 3] (by decide) rfl rfl rfl) rfl rfl hl.1 rfl (lv_room (Nat.le_of_ble_eq_true rfl)) zd_X_check_8 ⟨Nat.le_of_ble_eq_true rfl, Nat.le_of_ble_eq_true rfl⟩) ?_
  refine lv_istore_n (lv' := [(1, .int (zf_S_firstMissing st.2.1 st.1)), (0, .ref a0)]) hx hb zd_X_check_11 rfl hl (by decide) rfl (fun ls hl => ?_)
  refine lv_iload_n hx hb zd_X_check_12 rfl (lv_at hl 0 rfl) ?_
  refine lv_iconst (v := (-1)) hx hb zd_X_check_13 (by decide) ?_
  refine lv_icmp_eq (tgt := 25) hx hb zd_X_check_14 (by decide) (fun c_14 => ?_) (fun c_14 => ?_)
  · refine lv_aload_n hx hb zd_X_check_25 rfl (lv_at hl 1 rfl) ?_
    refine va_get (D := (dC, dI)) (ci := 0) (v := .ref a1) (C := zr_X) (T := zF_X) (N := 7) hx hb htB zi_X hown hK hP 0 rfl rfl 1 (by decide) (htB _ zk_ac6f5f75) (fun _ h9 => h9) rfl zd_X_check_26 ?_
    refine lv_iconst (v := 2) hx hb zd_X_check_29 (by decide) ?_
    refine lv_bipush (v := 12) hx hb zd_X_check_30 (by decide) ?_
    refine zz_ki (va_runV (As := [.int 2, .int 12]) (rest := []) ⟨hx, hb, hml, hown, htB⟩ (zc_S_sumIsWrong l dC dI cI cZ cL a1 a2 a3 s.heap.size st.2.1 2 12 ) (cwV 2 htB (zz_gV zk_173b95b6 zk_46869219 zk_bca93d4d zk_f1a23aa7 zk_bd36635a) rfl rfl rfl ⟨rfl, zh_S_sumIsWrong⟩ ⟨Nat.le_of_ble_eq_true rfl, Nat.le_of_ble_eq_true rfl⟩) (zz_preV (ci := 1) (q := (zr_S, zF_S, 5)) hP hD hK hE [1, 2, 3] (by decide) rfl rfl rfl) rfl rfl hl.1 rfl (lv_room (Nat.le_of_ble_eq_true rfl)) zd_X_check_32 ⟨Nat.le_of_ble_eq_true rfl, Nat.le_of_ble_eq_true rfl⟩) ?_
    refine lv_if_eq (tgt := 41) hx hb zd_X_check_35 (by decide) (fun c_35 => ?_) (fun c_35 => ?_)
    · refine lv_aload_n hx hb zd_X_check_41 rfl (lv_at hl 1 rfl) ?_
      refine va_get (D := (dC, dI)) (ci := 0) (v := .ref a1) (C := zr_X) (T := zF_X) (N := 7) hx hb htB zi_X hown hK hP 0 rfl rfl 1 (by decide) (htB _ zk_ac6f5f75) (fun _ h9 => h9) rfl zd_X_check_42 ?_
      refine lv_iconst (v := 3) hx hb zd_X_check_45 (by decide) ?_
      refine lv_bipush (v := 13) hx hb zd_X_check_46 (by decide) ?_
      refine zz_ki (va_runV (As := [.int 3, .int 13]) (rest := []) ⟨hx, hb, hml, hown, htB⟩ (zc_S_sumIsWrong l dC dI cI cZ cL a1 a2 a3 s.heap.size st.2.1 3 13 ) (cwV 2 htB (zz_gV zk_173b95b6 zk_46869219 zk_bca93d4d zk_f1a23aa7 zk_bd36635a) rfl rfl rfl ⟨rfl, zh_S_sumIsWrong⟩ ⟨Nat.le_of_ble_eq_true rfl, Nat.le_of_ble_eq_true rfl⟩) (zz_preV (ci := 1) (q := (zr_S, zF_S, 5)) hP hD hK hE [1, 2, 3] (by decide) rfl rfl rfl) rfl rfl hl.1 rfl (lv_room (Nat.le_of_ble_eq_true rfl)) zd_X_check_48 ⟨Nat.le_of_ble_eq_true rfl, Nat.le_of_ble_eq_true rfl⟩) ?_
      refine lv_if_eq (tgt := 57) hx hb zd_X_check_51 (by decide) (fun c_51 => ?_) (fun c_51 => ?_)
      · refine lv_aload_n hx hb zd_X_check_57 rfl (lv_at hl 1 rfl) ?_
        refine zz_ki (va_runV (As := []) (rest := []) ⟨hx, hb, hml, hown, htB⟩ (zc_X_firstWithoutGoodCode l dC dI cI cZ cL a0 a1 a2 a3 a4 a5 a6 a7 a8 a9 a10 a11 s.heap.size st  hc) (cwV 0 htB (zz_gV zk_90086960 zk_c31cd9ed zk_3a8f734f zk_cfe38e2e zk_e400f6cc) rfl rfl rfl ⟨rfl, zh_X_firstWithoutGoodCode⟩ ⟨Nat.le_of_ble_eq_true rfl, Nat.le_of_ble_eq_true rfl⟩) (zz_preV (ci := 0) (q := (zr_X, zF_X, 7)) hP hD hK hE [0, 1, 2, 3, 4, 5, 6, 7, 8, 9, 10, 11] (by decide) rfl rfl rfl) rfl rfl hl.1 rfl (lv_room (Nat.le_of_ble_eq_true rfl)) zd_X_check_58 ⟨Nat.le_of_ble_eq_true rfl, Nat.le_of_ble_eq_true rfl⟩) ?_
        refine lv_istore_n (lv' := [(2, .int (zf_X_firstWithoutGoodCode st)), (1, .int (zf_S_firstMissing st.2.1 st.1)), (0, .ref a0)]) hx hb zd_X_check_61 rfl hl (by decide) rfl (fun ls hl => ?_)
        refine lv_iload_n hx hb zd_X_check_62 rfl (lv_at hl 0 rfl) ?_
        refine lv_iconst (v := (-1)) hx hb zd_X_check_63 (by decide) ?_
        refine lv_icmp_eq (tgt := 75) hx hb zd_X_check_64 (by decide) (fun c_64 => ?_) (fun c_64 => ?_)
        · refine lv_aload_n hx hb zd_X_check_75 rfl (lv_at hl 2 rfl) ?_
          refine va_get (D := (dC, dI)) (ci := 0) (v := .ref a1) (C := zr_X) (T := zF_X) (N := 7) hx hb htB zi_X hown hK hP 0 rfl rfl 1 (by decide) (htB _ zk_ac6f5f75) (fun _ h9 => h9) rfl zd_X_check_76 ?_
          refine zz_ki (va_runV (As := []) (rest := []) ⟨hx, hb, hml, hown, htB⟩ (zc_S_lineCount l dC dI cI cZ cL a1 a2 a3 s.heap.size st.2.1  ) (cwV 0 htB (zz_gV zk_879c9a59 zk_79c9d9e2 zk_0aad96cc zk_f1a23aa7 zk_fcd24361) rfl rfl rfl ⟨rfl, zh_S_lineCount⟩ ⟨Nat.le_of_ble_eq_true rfl, Nat.le_of_ble_eq_true rfl⟩) (zz_preV (ci := 1) (q := (zr_S, zF_S, 5)) hP hD hK hE [1, 2, 3] (by decide) rfl rfl rfl) rfl rfl hl.1 rfl (lv_room (Nat.le_of_ble_eq_true rfl)) zd_X_check_79 ⟨Nat.le_of_ble_eq_true rfl, Nat.le_of_ble_eq_true rfl⟩) ?_
          refine lv_if_ne (tgt := 90) hx hb zd_X_check_82 (by decide) (fun c_82 => ?_) (fun c_82 => ?_)
          · refine lv_iconst (v := 0) hx hb zd_X_check_90 (by decide) ?_
            rw [(show zf_X_check st = 0 from by rw [zf_X_check, if_pos c_14, if_pos c_35, if_pos c_51, if_pos c_64, if_neg c_82])]
            exact zz_kiret hx hb hr hlocks zd_X_check_91 rfl
          · refine lv_ldc (v := 5000000) hx hb hown (htB _ zk_eb727f7f) zd_X_check_85 ?_
            refine lv_goto (tgt := 91) hx hb zd_X_check_87 (by decide) ?_
            rw [(show zf_X_check st = 5000000 from by rw [zf_X_check, if_pos c_14, if_pos c_35, if_pos c_51, if_pos c_64, if_pos c_82])]
            exact zz_kiret hx hb hr hlocks zd_X_check_91 rfl
        · refine lv_ldc (v := 4000000) hx hb hown (htB _ zk_981629e6) zd_X_check_67 ?_
          refine lv_iload_n hx hb zd_X_check_69 rfl (lv_at hl 0 rfl) ?_
          refine zz_ki (va_runS (As := [.int (zf_X_firstWithoutGoodCode st)]) (rest := [.int 4000000]) ⟨hx, hb, hml, hown, htB⟩ (zc_X_placeOf l dC dI cI cZ cL  s.heap.size  (zf_X_firstWithoutGoodCode st) ) (va_cwS 1 htB (zz_gS zk_137ff889 zk_79ac290e zk_cfe38e2e zk_ab1eecd8) rfl rfl rfl zh_X_placeOf ⟨Nat.le_of_ble_eq_true rfl, Nat.le_of_ble_eq_true rfl⟩) (zz_preS hP hD hK hE [] (by decide) rfl) rfl rfl hl.1 rfl (lv_room (Nat.le_of_ble_eq_true rfl)) zd_X_check_70 ⟨Nat.le_of_ble_eq_true rfl, Nat.le_of_ble_eq_true rfl⟩) ?_
          refine lv_iadd hx hb zd_X_check_73 ?_
          rw [(show zf_X_check st = 4000000 + (zf_X_placeOf (zf_X_firstWithoutGoodCode st)) from by rw [zf_X_check, if_pos c_14, if_pos c_35, if_pos c_51, if_neg c_64])]
          exact zz_kiret hx hb hr hlocks zd_X_check_74 rfl
      · refine lv_ldc (v := 3000000) hx hb hown (htB _ zk_94733b41) zd_X_check_54 ?_
        rw [(show zf_X_check st = 3000000 from by rw [zf_X_check, if_pos c_14, if_pos c_35, if_neg c_51])]
        exact zz_kiret hx hb hr hlocks zd_X_check_56 rfl
    · refine lv_ldc (v := 2000000) hx hb hown (htB _ zk_430cae2a) zd_X_check_38 ?_
      rw [(show zf_X_check st = 2000000 from by rw [zf_X_check, if_pos c_14, if_neg c_35])]
      exact zz_kiret hx hb hr hlocks zd_X_check_40 rfl
  · refine lv_ldc (v := 1000000) hx hb hown (htB _ zk_2f026ba4) zd_X_check_17 ?_
    refine lv_iload_n hx hb zd_X_check_19 rfl (lv_at hl 0 rfl) ?_
    refine zz_ki (va_runS (As := [.int (zf_S_firstMissing st.2.1 st.1)]) (rest := [.int 1000000]) ⟨hx, hb, hml, hown, htB⟩ (zc_X_placeOf l dC dI cI cZ cL  s.heap.size  (zf_S_firstMissing st.2.1 st.1) ) (va_cwS 1 htB (zz_gS zk_137ff889 zk_79ac290e zk_cfe38e2e zk_ab1eecd8) rfl rfl rfl zh_X_placeOf ⟨Nat.le_of_ble_eq_true rfl, Nat.le_of_ble_eq_true rfl⟩) (zz_preS hP hD hK hE [] (by decide) rfl) rfl rfl hl.1 rfl (lv_room (Nat.le_of_ble_eq_true rfl)) zd_X_check_20 ⟨Nat.le_of_ble_eq_true rfl, Nat.le_of_ble_eq_true rfl⟩) ?_
    refine lv_iadd hx hb zd_X_check_23 ?_
    rw [(show zf_X_check st = 1000000 + (zf_X_placeOf (zf_S_firstMissing st.2.1 st.1)) from by rw [zf_X_check, if_neg c_14])]
    exact zz_kiret hx hb hr hlocks zd_X_check_24 rfl
set_option maxHeartbeats 4000000 in
set_option maxRecDepth 100000 in
theorem zc_X_pack (l : Launch) (dC : Nat → ClassId) (dI : Nat → Nat → Nat) (cI cZ cL : ClassId) (a0 a1 a2 a3 a4 a5 a6 a7 a8 a9 a10 a11 : Nat) (sz : Nat) (st : zu_X)  : Met l zy_X_pack (zz_ws zy_X_pack zb_X_pack 1 (some .int)) ({ frames := 1, cells := 0, slots := 0, locals := 20 } : Room) (va_Pc ([.ref a0] : List Value) (zz_P (dC, dI) (zz_ty cI cZ cL) sz (zw_X cI cZ cL a0 a1 a2 a3 a4 a5 a6 a7 a8 a9 a10 a11 st))) (zz_Ki (zf_X_pack st)) 0 0 (fun _ => False) := by
  refine zz_ofK (by decide) (Nat.le_of_ble_eq_true rfl) ?_
  intro p e s m below meth c C0 hK hP hD ls hl
  obtain ⟨hx, hb, hr, hml, hown, htB, hlocks, hE⟩ := id C0
  have hl : lv_has ls 1 [(0, .ref a0)] := hl
  refine lv_iconst (v := 3) hx hb zd_X_pack_0 (by decide) ?_
  refine lv_bipush (v := 6) hx hb zd_X_pack_1 (by decide) ?_
  refine lv_aload_n hx hb zd_X_pack_3 rfl (lv_at hl 0 rfl) ?_
  refine va_get (D := (dC, dI)) (ci := 0) (v := .ref a1) (C := zr_X) (T := zF_X) (N := 7) hx hb htB zi_X hown hK hP 0 rfl rfl 1 (by decide) (htB _ zk_ac6f5f75) (fun _ h9 => h9) rfl zd_X_pack_4 ?_
  refine zz_ki (va_runV (As := []) (rest := [.int 6, .int 3]) ⟨hx, hb, hml, hown, htB⟩ (zc_S_setCount l dC dI cI cZ cL a1 a2 a3 s.heap.size st.2.1  ) (cwV 0 htB (zz_gV zk_d51b3908 zk_460a5c0b zk_dbc3e6b2 zk_f1a23aa7 zk_8b4375f5) rfl rfl rfl ⟨rfl, zh_S_setCount⟩ ⟨Nat.le_of_ble_eq_true rfl, Nat.le_of_ble_eq_true rfl⟩) (zz_preV (ci := 1) (q := (zr_S, zF_S, 5)) hP hD hK hE [1, 2, 3] (by decide) rfl rfl rfl) rfl rfl hl.1 rfl (lv_room (Nat.le_of_ble_eq_true rfl)) zd_X_pack_7 ⟨Nat.le_of_ble_eq_true rfl, Nat.le_of_ble_eq_true rfl⟩) ?_
  refine lv_imul hx hb zd_X_pack_10 ?_
  refine lv_iadd hx hb zd_X_pack_11 ?_
  rw [(show zf_X_pack st = 3 + (6 * (zf_S_setCount st.2.1)) from by first | rfl | (rw [zf_X_pack]))]
  exact zz_kiret hx hb hr hlocks zd_X_pack_12 rfl
set_option maxHeartbeats 4000000 in
set_option maxRecDepth 100000 in
theorem zc_X_packedByte (l : Launch) (dC : Nat → ClassId) (dI : Nat → Nat → Nat) (cI cZ cL : ClassId) (a0 a1 a2 a3 a4 a5 a6 a7 a8 a9 a10 a11 : Nat) (sz : Nat) (st : zu_X) (p1 : Int32) (p2 : Int32)  : Met l zy_X_packedByte (zz_ws zy_X_packedByte zb_X_packedByte 3 (some .byte)) ({ frames := 1, cells := 0, slots := 0, locals := 21 } : Room) (va_Pc ([.ref a0, .int p1, .int p2] : List Value) (zz_P (dC, dI) (zz_ty cI cZ cL) sz (zw_X cI cZ cL a0 a1 a2 a3 a4 a5 a6 a7 a8 a9 a10 a11 st))) (zz_Ki (zf_X_packedByte st p1 p2)) 0 0 (fun _ => False) := by
  refine zz_ofK (by decide) (Nat.le_of_ble_eq_true rfl) ?_
  intro p e s m below meth c C0 hK hP hD ls hl
  obtain ⟨hx, hb, hr, hml, hown, htB, hlocks, hE⟩ := id C0
  have hl : lv_has ls 3 [(0, .ref a0), (1, .int p1), (2, .int p2)] := hl
  refine lv_iload_n hx hb zd_X_packedByte_0 rfl (lv_at hl 2 rfl) ?_
  refine lv_if_ne (tgt := 10) hx hb zd_X_packedByte_1 (by decide) (fun c_1 => ?_) (fun c_1 => ?_)
  · refine lv_iload_n hx hb zd_X_packedByte_10 rfl (lv_at hl 2 rfl) ?_
    refine lv_iconst (v := 1) hx hb zd_X_packedByte_11 (by decide) ?_
    refine lv_icmp_ne (tgt := 21) hx hb zd_X_packedByte_12 (by decide) (fun c_12 => ?_) (fun c_12 => ?_)
    · refine lv_aload_n hx hb zd_X_packedByte_21 rfl (lv_at hl 0 rfl) ?_
      refine va_get (D := (dC, dI)) (ci := 0) (v := .ref a1) (C := zr_X) (T := zF_X) (N := 7) hx hb htB zi_X hown hK hP 0 rfl rfl 1 (by decide) (htB _ zk_ac6f5f75) (fun _ h9 => h9) rfl zd_X_packedByte_22 ?_
      refine lv_iload_n hx hb zd_X_packedByte_25 rfl (lv_at hl 1 rfl) ?_
      refine zz_ki (va_runV (As := [.int p1]) (rest := []) ⟨hx, hb, hml, hown, htB⟩ (zc_S_valueAt l dC dI cI cZ cL a1 a2 a3 s.heap.size st.2.1 p1 ) (cwV 1 htB (zz_gV zk_79454776 zk_1fa0ab90 zk_4c70df44 zk_f1a23aa7 zk_fdbb5e96) rfl rfl rfl ⟨rfl, zh_S_valueAt⟩ ⟨Nat.le_of_ble_eq_true rfl, Nat.le_of_ble_eq_true rfl⟩) (zz_preV (ci := 1) (q := (zr_S, zF_S, 5)) hP hD hK hE [1, 2, 3] (by decide) rfl rfl rfl) rfl rfl hl.1 rfl (lv_room (Nat.le_of_ble_eq_true rfl)) zd_X_packedByte_26 ⟨Nat.le_of_ble_eq_true rfl, Nat.le_of_ble_eq_true rfl⟩) ?_
      refine lv_iconst (v := 5) hx hb zd_X_packedByte_29 (by decide) ?_
      refine lv_iload_n hx hb zd_X_packedByte_30 rfl (lv_at hl 2 rfl) ?_
      refine lv_isub hx hb zd_X_packedByte_31 ?_
      refine zz_ki (va_runS (As := [.int (zf_S_valueAt st.2.1 p1), .int (5 - p2)]) (rest := []) ⟨hx, hb, hml, hown, htB⟩ (zc_X_byteOf l dC dI cI cZ cL  s.heap.size  (zf_S_valueAt st.2.1 p1) (5 - p2) ) (va_cwS 2 htB (zz_gS zk_fadbfa6c zk_700bf3ab zk_cfe38e2e zk_ad544a45) rfl rfl rfl zh_X_byteOf ⟨Nat.le_of_ble_eq_true rfl, Nat.le_of_ble_eq_true rfl⟩) (zz_preS hP hD hK hE [] (by decide) rfl) rfl rfl hl.1 rfl (lv_room (Nat.le_of_ble_eq_true rfl)) zd_X_packedByte_32 ⟨Nat.le_of_ble_eq_true rfl, Nat.le_of_ble_eq_true rfl⟩) ?_
      rw [(show zf_X_packedByte st p1 p2 = (zf_X_byteOf (zf_S_valueAt st.2.1 p1) (5 - p2)) from by rw [zf_X_packedByte, if_neg c_1, if_neg c_12])]
      exact zz_kzret hx hb hr hlocks (zo_X_byteOf (zf_S_valueAt st.2.1 p1) (5 - p2)) zd_X_packedByte_35 rfl
    · refine lv_iload_n hx hb zd_X_packedByte_15 rfl (lv_at hl 1 rfl) ?_
      refine zz_ki (va_runS (As := [.int p1]) (rest := []) ⟨hx, hb, hml, hown, htB⟩ (zc_X_lineOf l dC dI cI cZ cL  s.heap.size  p1 ) (va_cwS 1 htB (zz_gS zk_fcb9702c zk_bd1d2622 zk_cfe38e2e zk_7540bdb8) rfl rfl rfl zh_X_lineOf ⟨Nat.le_of_ble_eq_true rfl, Nat.le_of_ble_eq_true rfl⟩) (zz_preS hP hD hK hE [] (by decide) rfl) rfl rfl hl.1 rfl (lv_room (Nat.le_of_ble_eq_true rfl)) zd_X_packedByte_16 ⟨Nat.le_of_ble_eq_true rfl, Nat.le_of_ble_eq_true rfl⟩) ?_
      refine lv_i2b hx hb zd_X_packedByte_19 rfl ?_
      rw [(show zf_X_packedByte st p1 p2 = (zf_X_lineOf p1).toInt8.toInt32 from by rw [zf_X_packedByte, if_neg c_1, if_pos c_12])]
      exact zz_kzret hx hb hr hlocks (pk_nb _) zd_X_packedByte_20 rfl
  · refine lv_iload_n hx hb zd_X_packedByte_4 rfl (lv_at hl 1 rfl) ?_
    refine zz_ki (va_runS (As := [.int p1]) (rest := []) ⟨hx, hb, hml, hown, htB⟩ (zc_X_fieldOf l dC dI cI cZ cL  s.heap.size  p1 ) (va_cwS 1 htB (zz_gS zk_a091db21 zk_82f2c4f0 zk_cfe38e2e zk_1944e685) rfl rfl rfl zh_X_fieldOf ⟨Nat.le_of_ble_eq_true rfl, Nat.le_of_ble_eq_true rfl⟩) (zz_preS hP hD hK hE [] (by decide) rfl) rfl rfl hl.1 rfl (lv_room (Nat.le_of_ble_eq_true rfl)) zd_X_packedByte_5 ⟨Nat.le_of_ble_eq_true rfl, Nat.le_of_ble_eq_true rfl⟩) ?_
    refine lv_i2b hx hb zd_X_packedByte_8 rfl ?_
    rw [(show zf_X_packedByte st p1 p2 = (zf_X_fieldOf p1).toInt8.toInt32 from by rw [zf_X_packedByte, if_pos c_1])]
    exact zz_kzret hx hb hr hlocks (pk_nb _) zd_X_packedByte_9 rfl
set_option maxHeartbeats 4000000 in
set_option maxRecDepth 100000 in
theorem zc_X_remove (l : Launch) (dC : Nat → ClassId) (dI : Nat → Nat → Nat) (cI cZ cL : ClassId) (a0 a1 a2 a3 a4 a5 a6 a7 a8 a9 a10 a11 : Nat) (sz : Nat) (st : zu_X) (p1 : Int32) (hp : st.2.2.2.1.2.2.2 ≤ 20) : Met l zy_X_remove (zz_ws zy_X_remove zb_X_remove 2 (some .int)) ({ frames := 2, cells := 0, slots := 0, locals := 45 } : Room) (va_Pc ([.ref a0, .int p1] : List Value) (zz_P (dC, dI) (zz_ty cI cZ cL) sz (zw_X cI cZ cL a0 a1 a2 a3 a4 a5 a6 a7 a8 a9 a10 a11 st))) (zz_Qi (dC, dI) (zz_ty cI cZ cL) (va_A (zw_X cI cZ cL a0 a1 a2 a3 a4 a5 a6 a7 a8 a9 a10 a11 st) sz) ((zf_X_remove st p1).1) (zw_X cI cZ cL a0 a1 a2 a3 a4 a5 a6 a7 a8 a9 a10 a11 ((zf_X_remove st p1).2))) 0 0 (va_A (zw_X cI cZ cL a0 a1 a2 a3 a4 a5 a6 a7 a8 a9 a10 a11 st) sz) := by
  refine zz_ofW (Q := fun A => (zz_Qi (dC, dI) (zz_ty cI cZ cL) A ((zf_X_remove st p1).1) (zw_X cI cZ cL a0 a1 a2 a3 a4 a5 a6 a7 a8 a9 a10 a11 ((zf_X_remove st p1).2)))) (by decide) (Nat.le_of_ble_eq_true rfl) ?_
  intro p e s m below meth c A C0 _ hA hK hP hD _ ls hl
  obtain ⟨hx, hb, hr, hml, hown, htB, hlocks, hE⟩ := id C0
  have hS : va_S A s.heap s.heap [] := va_S.rf
  have hl : lv_has ls 2 [(0, .ref a0), (1, .int p1)] := hl
  refine lv_aload_n hx hb zd_X_remove_0 rfl (lv_at hl 0 rfl) ?_
  refine va_get (D := (dC, dI)) (ci := 0) (v := .int st.2.2.2.2.2.2) (C := zr_X) (T := zF_X) (N := 7) hx hb htB zi_X hown hK hP 0 rfl rfl 6 (by decide) (htB _ zk_a72d337f) (fun _ h9 => h9) rfl zd_X_remove_1 ?_
  refine lv_if_ne (tgt := 18) hx hb zd_X_remove_4 (by decide) (fun c_4 => ?_) (fun c_4 => ?_)
  · refine lv_iconst (v := (-1)) hx hb zd_X_remove_18 (by decide) ?_
    rw [(show zf_X_remove st p1 = ((-1), st) from by rw [zf_X_remove, if_neg c_4])]
    exact zz_iret hx hb hr hlocks hK hP hD hS zd_X_remove_19 rfl
  · refine lv_aload_n hx hb zd_X_remove_7 rfl (lv_at hl 0 rfl) ?_
    refine va_get (D := (dC, dI)) (ci := 0) (v := .ref a1) (C := zr_X) (T := zF_X) (N := 7) hx hb htB zi_X hown hK hP 0 rfl rfl 1 (by decide) (htB _ zk_ac6f5f75) (fun _ h9 => h9) rfl zd_X_remove_8 ?_
    refine lv_iload_n hx hb zd_X_remove_11 rfl (lv_at hl 1 rfl) ?_
    refine zz_ki (va_runV (As := [.int p1]) (rest := []) ⟨hx, hb, hml, hown, htB⟩ (zc_S_hasLine l dC dI cI cZ cL a1 a2 a3 s.heap.size st.2.1 p1 ) (cwV 1 htB (zz_gV zk_e942dd41 zk_3871fc92 zk_c72ec03e zk_f1a23aa7 zk_33cddec9) rfl rfl rfl ⟨rfl, zh_S_hasLine⟩ ⟨Nat.le_of_ble_eq_true rfl, Nat.le_of_ble_eq_true rfl⟩) (zz_preV (ci := 1) (q := (zr_S, zF_S, 5)) hP hD hK hE [1, 2, 3] (by decide) rfl rfl rfl) rfl rfl hl.1 rfl (lv_room (Nat.le_of_ble_eq_true rfl)) zd_X_remove_12 ⟨Nat.le_of_ble_eq_true rfl, Nat.le_of_ble_eq_true rfl⟩) ?_
    refine lv_if_ne (tgt := 20) hx hb zd_X_remove_15 (by decide) (fun c_15 => ?_) (fun c_15 => ?_)
    · refine lv_aload_n hx hb zd_X_remove_20 rfl (lv_at hl 0 rfl) ?_
      refine va_get (D := (dC, dI)) (ci := 0) (v := .ref a7) (C := zr_X) (T := zF_X) (N := 7) hx hb htB zi_X hown hK hP 0 rfl rfl 3 (by decide) (htB _ zk_4f9de2f5) (fun _ h9 => h9) rfl zd_X_remove_21 ?_
      refine lv_iload_n hx hb zd_X_remove_24 rfl (lv_at hl 1 rfl) ?_
      refine zz_cv (va_runV (As := [.int p1]) (rest := []) ⟨hx, hb, hml, hown, htB⟩ (zc_P_giveBack l dC dI cI cZ cL a7 a8 a9 a10 s.heap.size st.2.2.2.1 p1 hp) (cwV 1 htB (zz_gV zk_53df6765 zk_388ab2dc zk_a048ec62 zk_f301a5bc zk_9da3a71d) rfl rfl rfl ⟨rfl, zh_P_giveBack⟩ ⟨Nat.le_of_ble_eq_true rfl, Nat.le_of_ble_eq_true rfl⟩) (zz_preV (ci := 3) (q := (zr_P, zF_P, 4)) hP hD hK hE [7, 8, 9, 10] (by decide) rfl rfl rfl) rfl rfl hl.1 rfl (lv_room (Nat.le_of_ble_eq_true rfl)) zd_X_remove_25 ⟨Nat.le_of_ble_eq_true rfl, Nat.le_of_ble_eq_true rfl⟩) hP hD hS hA [7, 8, 9, 10] [0, 1, 2, 3, 4, 5, 6, 11] [0, 1, 2, 3, 4, 5, 6, 8, 9, 10, 11, 7] rfl rfl (by decide) (by decide) (by decide) rfl (fun H locs hP hD hS => ?_)
      have hP : va_P (dC, dI) zz_cl (zw_X cI cZ cL a0 a1 a2 a3 a4 a5 a6 a7 a8 a9 a10 a11 (st.1, st.2.1, st.2.2.1, (zf_P_giveBack st.2.2.2.1 p1), st.2.2.2.2.1, st.2.2.2.2.2.1, st.2.2.2.2.2.2)) H := hP
      have hD : va_D A (zw_X cI cZ cL a0 a1 a2 a3 a4 a5 a6 a7 a8 a9 a10 a11 (st.1, st.2.1, st.2.2.1, (zf_P_giveBack st.2.2.2.1 p1), st.2.2.2.2.1, st.2.2.2.2.2.1, st.2.2.2.2.2.2)) := hD
      refine lv_aload_n hx hb zd_X_remove_28 rfl (lv_at hl 0 rfl) ?_
      refine va_get (D := (dC, dI)) (ci := 0) (v := .ref a1) (C := zr_X) (T := zF_X) (N := 7) hx hb htB zi_X hown hK hP 0 rfl rfl 1 (by decide) (htB _ zk_ac6f5f75) (fun _ h9 => h9) rfl zd_X_remove_29 ?_
      refine lv_iload_n hx hb zd_X_remove_32 rfl (lv_at hl 1 rfl) ?_
      refine zz_ci (va_runV (As := [.int p1]) (rest := []) ⟨hx, hb, hml, hown, htB⟩ (zc_S_dropLine l dC dI cI cZ cL a1 a2 a3 H.size st.2.1 p1 ) (cwV 1 htB (zz_gV zk_c5885611 zk_4b7e294d zk_6f360118 zk_f1a23aa7 zk_8171e81f) rfl rfl rfl ⟨rfl, zh_S_dropLine⟩ ⟨Nat.le_of_ble_eq_true rfl, Nat.le_of_ble_eq_true rfl⟩) (zz_preV (ci := 1) (q := (zr_S, zF_S, 5)) hP hD hK hE [1, 2, 3] (by decide) rfl rfl rfl) rfl rfl hl.1 rfl (lv_room (Nat.le_of_ble_eq_true rfl)) zd_X_remove_33 ⟨Nat.le_of_ble_eq_true rfl, Nat.le_of_ble_eq_true rfl⟩) hP hD hS hA [1, 2, 3] [0, 4, 5, 6, 7, 8, 9, 10, 11] [0, 9, 10, 11, 1, 2, 3, 4, 5, 6, 7, 8] rfl rfl (by decide) (by decide) (by decide) rfl (fun H locs hP hD hS => ?_)
      have hP : va_P (dC, dI) zz_cl (zw_X cI cZ cL a0 a1 a2 a3 a4 a5 a6 a7 a8 a9 a10 a11 (st.1, (zf_S_dropLine st.2.1 p1).2, st.2.2.1, (zf_P_giveBack st.2.2.2.1 p1), st.2.2.2.2.1, st.2.2.2.2.2.1, st.2.2.2.2.2.2)) H := hP
      have hD : va_D A (zw_X cI cZ cL a0 a1 a2 a3 a4 a5 a6 a7 a8 a9 a10 a11 (st.1, (zf_S_dropLine st.2.1 p1).2, st.2.2.1, (zf_P_giveBack st.2.2.2.1 p1), st.2.2.2.2.1, st.2.2.2.2.2.1, st.2.2.2.2.2.2)) := hD
      rw [(show zf_X_remove st p1 = ((zf_S_dropLine st.2.1 p1).1, (st.1, (zf_S_dropLine st.2.1 p1).2, st.2.2.1, (zf_P_giveBack st.2.2.2.1 p1), st.2.2.2.2.1, st.2.2.2.2.2.1, st.2.2.2.2.2.2)) from by rw [zf_X_remove, if_pos c_4, if_neg c_15])]
      exact zz_iret hx hb hr hlocks hK hP hD hS zd_X_remove_36 rfl
    · refine lv_iconst (v := (-1)) hx hb zd_X_remove_18 (by decide) ?_
      rw [(show zf_X_remove st p1 = ((-1), st) from by rw [zf_X_remove, if_pos c_4, if_pos c_15])]
      exact zz_iret hx hb hr hlocks hK hP hD hS zd_X_remove_19 rfl
set_option maxHeartbeats 4000000 in
set_option maxRecDepth 100000 in
theorem zc_X_clear (l : Launch) (dC : Nat → ClassId) (dI : Nat → Nat → Nat) (cI cZ cL : ClassId) (a0 a1 a2 a3 a4 a5 a6 a7 a8 a9 a10 a11 : Nat) (sz : Nat) (st : zu_X) (p1 : Int32) (p2 : Int32)  : Met l zy_X_clear (zz_ws zy_X_clear zb_X_clear 4 (some .boolean)) ({ frames := 2, cells := 0, slots := 0, locals := 43 } : Room) (va_Pc ([.ref a0, .int p1, .int p2] : List Value) (zz_P (dC, dI) (zz_ty cI cZ cL) sz (zw_X cI cZ cL a0 a1 a2 a3 a4 a5 a6 a7 a8 a9 a10 a11 st))) (zz_Qi (dC, dI) (zz_ty cI cZ cL) (va_A (zw_X cI cZ cL a0 a1 a2 a3 a4 a5 a6 a7 a8 a9 a10 a11 st) sz) ((zf_X_clear st p1 p2).1) (zw_X cI cZ cL a0 a1 a2 a3 a4 a5 a6 a7 a8 a9 a10 a11 ((zf_X_clear st p1 p2).2))) 0 0 (va_A (zw_X cI cZ cL a0 a1 a2 a3 a4 a5 a6 a7 a8 a9 a10 a11 st) sz) := by
  refine zz_ofW (Q := fun A => (zz_Qi (dC, dI) (zz_ty cI cZ cL) A ((zf_X_clear st p1 p2).1) (zw_X cI cZ cL a0 a1 a2 a3 a4 a5 a6 a7 a8 a9 a10 a11 ((zf_X_clear st p1 p2).2)))) (by decide) (Nat.le_of_ble_eq_true rfl) ?_
  intro p e s m below meth c A C0 _ hA hK hP hD _ ls hl
  obtain ⟨hx, hb, hr, hml, hown, htB, hlocks, hE⟩ := id C0
  have hS : va_S A s.heap s.heap [] := va_S.rf
  have hl : lv_has ls 4 [(0, .ref a0), (1, .int p1), (2, .int p2)] := hl
  refine lv_aload_n hx hb zd_X_clear_0 rfl (lv_at hl 0 rfl) ?_
  refine va_get (D := (dC, dI)) (ci := 0) (v := .ref a1) (C := zr_X) (T := zF_X) (N := 7) hx hb htB zi_X hown hK hP 0 rfl rfl 1 (by decide) (htB _ zk_ac6f5f75) (fun _ h9 => h9) rfl zd_X_clear_1 ?_
  refine lv_iload_n hx hb zd_X_clear_4 rfl (lv_at hl 1 rfl) ?_
  refine lv_iload_n hx hb zd_X_clear_5 rfl (lv_at hl 2 rfl) ?_
  refine zz_ki (va_runV (As := [.int p1, .int p2]) (rest := []) ⟨hx, hb, hml, hown, htB⟩ (zc_S_slotOf l dC dI cI cZ cL a1 a2 a3 s.heap.size st.2.1 p1 p2 ) (cwV 2 htB (zz_gV zk_3749943e zk_13757a2f zk_9f779419 zk_f1a23aa7 zk_e4817253) rfl rfl rfl ⟨rfl, zh_S_slotOf⟩ ⟨Nat.le_of_ble_eq_true rfl, Nat.le_of_ble_eq_true rfl⟩) (zz_preV (ci := 1) (q := (zr_S, zF_S, 5)) hP hD hK hE [1, 2, 3] (by decide) rfl rfl rfl) rfl rfl hl.1 rfl (lv_room (Nat.le_of_ble_eq_true rfl)) zd_X_clear_6 ⟨Nat.le_of_ble_eq_true rfl, Nat.le_of_ble_eq_true rfl⟩) ?_
  refine lv_istore_n (lv' := [(3, .int (zf_S_slotOf st.2.1 p1 p2)), (0, .ref a0), (1, .int p1), (2, .int p2)]) hx hb zd_X_clear_9 rfl hl (by decide) rfl (fun ls hl => ?_)
  refine lv_aload_n hx hb zd_X_clear_10 rfl (lv_at hl 1 rfl) ?_
  refine va_get (D := (dC, dI)) (ci := 0) (v := .int st.2.2.2.2.2.2) (C := zr_X) (T := zF_X) (N := 7) hx hb htB zi_X hown hK hP 0 rfl rfl 6 (by decide) (htB _ zk_a72d337f) (fun _ h9 => h9) rfl zd_X_clear_11 ?_
  refine lv_if_ne (tgt := 34) hx hb zd_X_clear_14 (by decide) (fun c_14 => ?_) (fun c_14 => ?_)
  · refine lv_iconst (v := 0) hx hb zd_X_clear_34 (by decide) ?_
    rw [(show zf_X_clear st p1 p2 = (0, st) from by rw [zf_X_clear, if_neg c_14])]
    exact zz_zret hx hb hr hlocks narrow_b0 hK hP hD hS zd_X_clear_35 rfl
  · refine lv_iload_n hx hb zd_X_clear_17 rfl (lv_at hl 0 rfl) ?_
    refine lv_iconst (v := (-1)) hx hb zd_X_clear_18 (by decide) ?_
    refine lv_icmp_eq (tgt := 34) hx hb zd_X_clear_19 (by decide) (fun c_19 => ?_) (fun c_19 => ?_)
    · refine lv_iconst (v := 0) hx hb zd_X_clear_34 (by decide) ?_
      rw [(show zf_X_clear st p1 p2 = (0, st) from by rw [zf_X_clear, if_pos c_14, if_pos c_19])]
      exact zz_zret hx hb hr hlocks narrow_b0 hK hP hD hS zd_X_clear_35 rfl
    · refine lv_aload_n hx hb zd_X_clear_22 rfl (lv_at hl 1 rfl) ?_
      refine va_get (D := (dC, dI)) (ci := 0) (v := .ref a1) (C := zr_X) (T := zF_X) (N := 7) hx hb htB zi_X hown hK hP 0 rfl rfl 1 (by decide) (htB _ zk_ac6f5f75) (fun _ h9 => h9) rfl zd_X_clear_23 ?_
      refine lv_iload_n hx hb zd_X_clear_26 rfl (lv_at hl 0 rfl) ?_
      refine zz_ki (va_runV (As := [.int (zf_S_slotOf st.2.1 p1 p2)]) (rest := []) ⟨hx, hb, hml, hown, htB⟩ (zc_S_valueAt l dC dI cI cZ cL a1 a2 a3 s.heap.size st.2.1 (zf_S_slotOf st.2.1 p1 p2) ) (cwV 1 htB (zz_gV zk_79454776 zk_1fa0ab90 zk_4c70df44 zk_f1a23aa7 zk_fdbb5e96) rfl rfl rfl ⟨rfl, zh_S_valueAt⟩ ⟨Nat.le_of_ble_eq_true rfl, Nat.le_of_ble_eq_true rfl⟩) (zz_preV (ci := 1) (q := (zr_S, zF_S, 5)) hP hD hK hE [1, 2, 3] (by decide) rfl rfl rfl) rfl rfl hl.1 rfl (lv_room (Nat.le_of_ble_eq_true rfl)) zd_X_clear_27 ⟨Nat.le_of_ble_eq_true rfl, Nat.le_of_ble_eq_true rfl⟩) ?_
      refine lv_iconst (v := (-1)) hx hb zd_X_clear_30 (by decide) ?_
      refine lv_icmp_ne (tgt := 36) hx hb zd_X_clear_31 (by decide) (fun c_31 => ?_) (fun c_31 => ?_)
      · refine lv_aload_n hx hb zd_X_clear_36 rfl (lv_at hl 1 rfl) ?_
        refine va_get (D := (dC, dI)) (ci := 0) (v := .ref a1) (C := zr_X) (T := zF_X) (N := 7) hx hb htB zi_X hown hK hP 0 rfl rfl 1 (by decide) (htB _ zk_ac6f5f75) (fun _ h9 => h9) rfl zd_X_clear_37 ?_
        refine lv_iload_n hx hb zd_X_clear_40 rfl (lv_at hl 0 rfl) ?_
        refine lv_iconst (v := (-1)) hx hb zd_X_clear_41 (by decide) ?_
        refine zz_cv (va_runV (As := [.int (zf_S_slotOf st.2.1 p1 p2), .int (-1)]) (rest := []) ⟨hx, hb, hml, hown, htB⟩ (zc_S_put l dC dI cI cZ cL a1 a2 a3 s.heap.size st.2.1 (zf_S_slotOf st.2.1 p1 p2) (-1) ) (cwV 2 htB (zz_gV zk_f54cd352 zk_7151ae50 zk_2e2e7b1b zk_f1a23aa7 zk_29ef983f) rfl rfl rfl ⟨rfl, zh_S_put⟩ ⟨Nat.le_of_ble_eq_true rfl, Nat.le_of_ble_eq_true rfl⟩) (zz_preV (ci := 1) (q := (zr_S, zF_S, 5)) hP hD hK hE [1, 2, 3] (by decide) rfl rfl rfl) rfl rfl hl.1 rfl (lv_room (Nat.le_of_ble_eq_true rfl)) zd_X_clear_42 ⟨Nat.le_of_ble_eq_true rfl, Nat.le_of_ble_eq_true rfl⟩) hP hD hS hA [1, 2, 3] [0, 4, 5, 6, 7, 8, 9, 10, 11] [0, 9, 10, 11, 1, 2, 3, 4, 5, 6, 7, 8] rfl rfl (by decide) (by decide) (by decide) rfl (fun H locs hP hD hS => ?_)
        have hP : va_P (dC, dI) zz_cl (zw_X cI cZ cL a0 a1 a2 a3 a4 a5 a6 a7 a8 a9 a10 a11 (st.1, (zf_S_put st.2.1 (zf_S_slotOf st.2.1 p1 p2) (-1)), st.2.2.1, st.2.2.2.1, st.2.2.2.2.1, st.2.2.2.2.2.1, st.2.2.2.2.2.2)) H := hP
        have hD : va_D A (zw_X cI cZ cL a0 a1 a2 a3 a4 a5 a6 a7 a8 a9 a10 a11 (st.1, (zf_S_put st.2.1 (zf_S_slotOf st.2.1 p1 p2) (-1)), st.2.2.1, st.2.2.2.1, st.2.2.2.2.1, st.2.2.2.2.2.1, st.2.2.2.2.2.2)) := hD
        refine lv_iconst (v := 1) hx hb zd_X_clear_45 (by decide) ?_
        rw [(show zf_X_clear st p1 p2 = (1, (st.1, (zf_S_put st.2.1 (zf_S_slotOf st.2.1 p1 p2) (-1)), st.2.2.1, st.2.2.2.1, st.2.2.2.2.1, st.2.2.2.2.2.1, st.2.2.2.2.2.2)) from by rw [zf_X_clear, if_pos c_14, if_neg c_19, if_neg c_31])]
        exact zz_zret hx hb hr hlocks narrow_b1 hK hP hD hS zd_X_clear_46 rfl
      · refine lv_iconst (v := 0) hx hb zd_X_clear_34 (by decide) ?_
        rw [(show zf_X_clear st p1 p2 = (0, st) from by rw [zf_X_clear, if_pos c_14, if_neg c_19, if_pos c_31])]
        exact zz_zret hx hb hr hlocks narrow_b0 hK hP hD hS zd_X_clear_35 rfl
set_option maxHeartbeats 4000000 in
set_option maxRecDepth 100000 in
theorem zc_X_code (l : Launch) (dC : Nat → ClassId) (dI : Nat → Nat → Nat) (cI cZ cL : ClassId) (a0 a1 a2 a3 a4 a5 a6 a7 a8 a9 a10 a11 : Nat) (sz : Nat) (st : zu_X) (p1 : Int64) (p3 : Int32) (hc : st.2.2.1.2.2 ≤ 20) : Met l zy_X_code (zz_ws zy_X_code zb_X_code 4 (some .boolean)) ({ frames := 2, cells := 0, slots := 0, locals := 45 } : Room) (va_Pc ([.ref a0, .long p1, .int p3] : List Value) (zz_P (dC, dI) (zz_ty cI cZ cL) sz (zw_X cI cZ cL a0 a1 a2 a3 a4 a5 a6 a7 a8 a9 a10 a11 st))) (zz_Qi (dC, dI) (zz_ty cI cZ cL) (va_A (zw_X cI cZ cL a0 a1 a2 a3 a4 a5 a6 a7 a8 a9 a10 a11 st) sz) ((zf_X_code st p1 p3).1) (zw_X cI cZ cL a0 a1 a2 a3 a4 a5 a6 a7 a8 a9 a10 a11 ((zf_X_code st p1 p3).2))) 0 0 (va_A (zw_X cI cZ cL a0 a1 a2 a3 a4 a5 a6 a7 a8 a9 a10 a11 st) sz) := by
  refine zz_ofW (Q := fun A => (zz_Qi (dC, dI) (zz_ty cI cZ cL) A ((zf_X_code st p1 p3).1) (zw_X cI cZ cL a0 a1 a2 a3 a4 a5 a6 a7 a8 a9 a10 a11 ((zf_X_code st p1 p3).2)))) (by decide) (Nat.le_of_ble_eq_true rfl) ?_
  intro p e s m below meth c A C0 _ hA hK hP hD _ ls hl
  obtain ⟨hx, hb, hr, hml, hown, htB, hlocks, hE⟩ := id C0
  have hS : va_S A s.heap s.heap [] := va_S.rf
  have hl : lv_has ls 4 [(0, .ref a0), (1, .long p1), (3, .int p3)] := hl
  refine lv_lload_n hx hb zd_X_code_0 rfl (lv_at hl 1 rfl) ?_
  refine zz_ki (va_runS (As := [.long p1]) (rest := []) ⟨hx, hb, hml, hown, htB⟩ (zc_X_isValue l dC dI cI cZ cL  s.heap.size  p1 ) (va_cwS 1 htB (zz_gS zk_a4e11230 zk_aa84806c zk_cfe38e2e zk_39170c80) rfl rfl rfl zh_X_isValue ⟨Nat.le_of_ble_eq_true rfl, Nat.le_of_ble_eq_true rfl⟩) (zz_preS hP hD hK hE [] (by decide) rfl) rfl rfl hl.1 rfl (lv_room (Nat.le_of_ble_eq_true rfl)) zd_X_code_1 ⟨Nat.le_of_ble_eq_true rfl, Nat.le_of_ble_eq_true rfl⟩) ?_
  refine lv_if_eq (tgt := 17) hx hb zd_X_code_4 (by decide) (fun c_4 => ?_) (fun c_4 => ?_)
  · refine lv_iconst (v := 0) hx hb zd_X_code_17 (by decide) ?_
    rw [(show zf_X_code st p1 p3 = (0, st) from by rw [zf_X_code, if_pos c_4])]
    exact zz_zret hx hb hr hlocks narrow_b0 hK hP hD hS zd_X_code_18 rfl
  · refine lv_iload_n hx hb zd_X_code_7 rfl (lv_at hl 2 rfl) ?_
    refine lv_if_lt (tgt := 17) hx hb zd_X_code_8 (by decide) (fun c_8 => ?_) (fun c_8 => ?_)
    · refine lv_iconst (v := 0) hx hb zd_X_code_17 (by decide) ?_
      rw [(show zf_X_code st p1 p3 = (0, st) from by rw [zf_X_code, if_neg c_4, if_pos c_8])]
      exact zz_zret hx hb hr hlocks narrow_b0 hK hP hD hS zd_X_code_18 rfl
    · refine lv_iload_n hx hb zd_X_code_11 rfl (lv_at hl 2 rfl) ?_
      refine lv_ldc (v := 100000) hx hb hown (htB _ zk_fe2527bb) zd_X_code_12 ?_
      refine lv_icmp_le (tgt := 19) hx hb zd_X_code_14 (by decide) (fun c_14 => ?_) (fun c_14 => ?_)
      · refine lv_aload_n hx hb zd_X_code_19 rfl (lv_at hl 0 rfl) ?_
        refine va_get (D := (dC, dI)) (ci := 0) (v := .ref a4) (C := zr_X) (T := zF_X) (N := 7) hx hb htB zi_X hown hK hP 0 rfl rfl 2 (by decide) (htB _ zk_92bcf320) (fun _ h9 => h9) rfl zd_X_code_20 ?_
        refine lv_lload_n hx hb zd_X_code_23 rfl (lv_at hl 1 rfl) ?_
        refine lv_l2i hx hb zd_X_code_24 rfl ?_
        refine lv_iload_n hx hb zd_X_code_25 rfl (lv_at hl 2 rfl) ?_
        refine zz_ci (va_runV (As := [.int p1.toInt32, .int p3]) (rest := []) ⟨hx, hb, hml, hown, htB⟩ (zc_C_tell l dC dI cI cZ cL a4 a5 a6 s.heap.size st.2.2.1 p1.toInt32 p3 hc) (cwV 2 htB (zz_gV zk_42930984 zk_48dda302 zk_12cf4ec3 zk_e143c677 zk_46e44973) rfl rfl rfl ⟨rfl, zh_C_tell⟩ ⟨Nat.le_of_ble_eq_true rfl, Nat.le_of_ble_eq_true rfl⟩) (zz_preV (ci := 2) (q := (zr_C, zF_C, 3)) hP hD hK hE [4, 5, 6] (by decide) rfl rfl rfl) rfl rfl hl.1 rfl (lv_room (Nat.le_of_ble_eq_true rfl)) zd_X_code_26 ⟨Nat.le_of_ble_eq_true rfl, Nat.le_of_ble_eq_true rfl⟩) hP hD hS hA [4, 5, 6] [0, 1, 2, 3, 7, 8, 9, 10, 11] [0, 1, 2, 3, 9, 10, 11, 4, 5, 6, 7, 8] rfl rfl (by decide) (by decide) (by decide) rfl (fun H locs hP hD hS => ?_)
        have hP : va_P (dC, dI) zz_cl (zw_X cI cZ cL a0 a1 a2 a3 a4 a5 a6 a7 a8 a9 a10 a11 (st.1, st.2.1, (zf_C_tell st.2.2.1 p1.toInt32 p3).2, st.2.2.2.1, st.2.2.2.2.1, st.2.2.2.2.2.1, st.2.2.2.2.2.2)) H := hP
        have hD : va_D A (zw_X cI cZ cL a0 a1 a2 a3 a4 a5 a6 a7 a8 a9 a10 a11 (st.1, st.2.1, (zf_C_tell st.2.2.1 p1.toInt32 p3).2, st.2.2.2.1, st.2.2.2.2.1, st.2.2.2.2.2.1, st.2.2.2.2.2.2)) := hD
        rw [(show zf_X_code st p1 p3 = ((zf_C_tell st.2.2.1 p1.toInt32 p3).1, (st.1, st.2.1, (zf_C_tell st.2.2.1 p1.toInt32 p3).2, st.2.2.2.1, st.2.2.2.2.1, st.2.2.2.2.2.1, st.2.2.2.2.2.2)) from by rw [zf_X_code, if_neg c_4, if_neg c_8, if_pos c_14])]
        exact zz_zret hx hb hr hlocks (zo_C_tell st.2.2.1 p1.toInt32 p3) hK hP hD hS zd_X_code_29 rfl
      · refine lv_iconst (v := 0) hx hb zd_X_code_17 (by decide) ?_
        rw [(show zf_X_code st p1 p3 = (0, st) from by rw [zf_X_code, if_neg c_4, if_neg c_8, if_neg c_14])]
        exact zz_zret hx hb hr hlocks narrow_b0 hK hP hD hS zd_X_code_18 rfl
set_option maxHeartbeats 4000000 in
set_option maxRecDepth 100000 in
theorem zc_X_day (l : Launch) (dC : Nat → ClassId) (dI : Nat → Nat → Nat) (cI cZ cL : ClassId) (a0 a1 a2 a3 a4 a5 a6 a7 a8 a9 a10 a11 : Nat) (sz : Nat) (st : zu_X) (p1 : Int32)  : Met l zy_X_day (zz_ws zy_X_day zb_X_day 2 (some .boolean)) ({ frames := 0, cells := 0, slots := 0, locals := 0 } : Room) (va_Pc ([.ref a0, .int p1] : List Value) (zz_P (dC, dI) (zz_ty cI cZ cL) sz (zw_X cI cZ cL a0 a1 a2 a3 a4 a5 a6 a7 a8 a9 a10 a11 st))) (zz_Qi (dC, dI) (zz_ty cI cZ cL) (va_A (zw_X cI cZ cL a0 a1 a2 a3 a4 a5 a6 a7 a8 a9 a10 a11 st) sz) ((zf_X_day st p1).1) (zw_X cI cZ cL a0 a1 a2 a3 a4 a5 a6 a7 a8 a9 a10 a11 ((zf_X_day st p1).2))) 0 0 (va_A (zw_X cI cZ cL a0 a1 a2 a3 a4 a5 a6 a7 a8 a9 a10 a11 st) sz) := by
  refine zz_ofW (Q := fun A => (zz_Qi (dC, dI) (zz_ty cI cZ cL) A ((zf_X_day st p1).1) (zw_X cI cZ cL a0 a1 a2 a3 a4 a5 a6 a7 a8 a9 a10 a11 ((zf_X_day st p1).2)))) (by decide) (Nat.le_of_ble_eq_true rfl) ?_
  intro p e s m below meth c A C0 _ hA hK hP hD _ ls hl
  obtain ⟨hx, hb, hr, hml, hown, htB, hlocks, hE⟩ := id C0
  have hS : va_S A s.heap s.heap [] := va_S.rf
  have hl : lv_has ls 2 [(0, .ref a0), (1, .int p1)] := hl
  refine lv_iload_n hx hb zd_X_day_0 rfl (lv_at hl 1 rfl) ?_
  refine lv_aload_n hx hb zd_X_day_1 rfl (lv_at hl 0 rfl) ?_
  refine va_get (D := (dC, dI)) (ci := 0) (v := .int st.2.2.2.2.2.1) (C := zr_X) (T := zF_X) (N := 7) hx hb htB zi_X hown hK hP 0 rfl rfl 5 (by decide) (htB _ zk_be002196) (fun _ h9 => h9) rfl zd_X_day_2 ?_
  refine lv_icmp_lt (tgt := 14) hx hb zd_X_day_5 (by decide) (fun c_5 => ?_) (fun c_5 => ?_)
  · refine lv_iconst (v := 0) hx hb zd_X_day_14 (by decide) ?_
    rw [(show zf_X_day st p1 = (0, st) from by rw [zf_X_day, if_pos c_5])]
    exact zz_zret hx hb hr hlocks narrow_b0 hK hP hD hS zd_X_day_15 rfl
  · refine lv_iload_n hx hb zd_X_day_8 rfl (lv_at hl 1 rfl) ?_
    refine lv_ldc (v := 100000) hx hb hown (htB _ zk_fe2527bb) zd_X_day_9 ?_
    refine lv_icmp_le (tgt := 16) hx hb zd_X_day_11 (by decide) (fun c_11 => ?_) (fun c_11 => ?_)
    · refine lv_aload_n hx hb zd_X_day_16 rfl (lv_at hl 0 rfl) ?_
      refine lv_iload_n hx hb zd_X_day_17 rfl (lv_at hl 1 rfl) ?_
      refine va_put (D := (dC, dI)) (ci := 0) (v := .int p1) (C := zr_X) (T := zF_X) (N := 7) hx hb htB zi_X zT_X zT_X_ok zn_X hown hK hP hD hS 0 rfl rfl 5 (by decide) (htB _ zk_be002196) (fun _ h9 => h9) rfl (zT_X_ok 5 (by decide)) rfl rfl (Nat.le_of_ble_eq_true rfl) zd_X_day_18 (fun H locs hP hD hS => ?_)
      have hP : va_P (dC, dI) zz_cl (zw_X cI cZ cL a0 a1 a2 a3 a4 a5 a6 a7 a8 a9 a10 a11 (st.1, st.2.1, st.2.2.1, st.2.2.2.1, st.2.2.2.2.1, p1, st.2.2.2.2.2.2)) H := hP
      have hD : va_D A (zw_X cI cZ cL a0 a1 a2 a3 a4 a5 a6 a7 a8 a9 a10 a11 (st.1, st.2.1, st.2.2.1, st.2.2.2.1, st.2.2.2.2.1, p1, st.2.2.2.2.2.2)) := hD
      refine lv_iconst (v := 1) hx hb zd_X_day_21 (by decide) ?_
      rw [(show zf_X_day st p1 = (1, (st.1, st.2.1, st.2.2.1, st.2.2.2.1, st.2.2.2.2.1, p1, st.2.2.2.2.2.2)) from by rw [zf_X_day, if_neg c_5, if_pos c_11])]
      exact zz_zret hx hb hr hlocks narrow_b1 hK hP hD hS zd_X_day_22 rfl
    · refine lv_iconst (v := 0) hx hb zd_X_day_14 (by decide) ?_
      rw [(show zf_X_day st p1 = (0, st) from by rw [zf_X_day, if_neg c_5, if_neg c_11])]
      exact zz_zret hx hb hr hlocks narrow_b0 hK hP hD hS zd_X_day_15 rfl
set_option maxHeartbeats 4000000 in
set_option maxRecDepth 100000 in
theorem zc_X_lodge (l : Launch) (dC : Nat → ClassId) (dI : Nat → Nat → Nat) (cI cZ cL : ClassId) (a0 a1 a2 a3 a4 a5 a6 a7 a8 a9 a10 a11 : Nat) (sz : Nat) (st : zu_X) (hc : st.2.2.1.2.2 ≤ 20) : Met l zy_X_lodge (zz_ws zy_X_lodge zb_X_lodge 1 (some .int)) ({ frames := 5, cells := 0, slots := 0, locals := 112 } : Room) (va_Pc ([.ref a0] : List Value) (zz_P (dC, dI) (zz_ty cI cZ cL) sz (zw_X cI cZ cL a0 a1 a2 a3 a4 a5 a6 a7 a8 a9 a10 a11 st))) (zz_Qi (dC, dI) (zz_ty cI cZ cL) (va_A (zw_X cI cZ cL a0 a1 a2 a3 a4 a5 a6 a7 a8 a9 a10 a11 st) sz) ((zf_X_lodge st).1) (zw_X cI cZ cL a0 a1 a2 a3 a4 a5 a6 a7 a8 a9 a10 a11 ((zf_X_lodge st).2))) 0 0 (va_A (zw_X cI cZ cL a0 a1 a2 a3 a4 a5 a6 a7 a8 a9 a10 a11 st) sz) := by
  refine zz_ofW (Q := fun A => (zz_Qi (dC, dI) (zz_ty cI cZ cL) A ((zf_X_lodge st).1) (zw_X cI cZ cL a0 a1 a2 a3 a4 a5 a6 a7 a8 a9 a10 a11 ((zf_X_lodge st).2)))) (by decide) (Nat.le_of_ble_eq_true rfl) ?_
  intro p e s m below meth c A C0 _ hA hK hP hD _ ls hl
  obtain ⟨hx, hb, hr, hml, hown, htB, hlocks, hE⟩ := id C0
  have hS : va_S A s.heap s.heap [] := va_S.rf
  have hl : lv_has ls 1 [(0, .ref a0)] := hl
  refine lv_aload_n hx hb zd_X_lodge_0 rfl (lv_at hl 0 rfl) ?_
  refine va_get (D := (dC, dI)) (ci := 0) (v := .int st.2.2.2.2.2.2) (C := zr_X) (T := zF_X) (N := 7) hx hb htB zi_X hown hK hP 0 rfl rfl 6 (by decide) (htB _ zk_a72d337f) (fun _ h9 => h9) rfl zd_X_lodge_1 ?_
  refine lv_if_ne (tgt := 14) hx hb zd_X_lodge_4 (by decide) (fun c_4 => ?_) (fun c_4 => ?_)
  · refine lv_iconst (v := 0) hx hb zd_X_lodge_14 (by decide) ?_
    rw [(show zf_X_lodge st = (0, st) from by rw [zf_X_lodge, if_neg c_4])]
    exact zz_iret hx hb hr hlocks hK hP hD hS zd_X_lodge_15 rfl
  · refine lv_aload_n hx hb zd_X_lodge_7 rfl (lv_at hl 0 rfl) ?_
    refine zz_ki (va_runV (As := []) (rest := []) ⟨hx, hb, hml, hown, htB⟩ (zc_X_check l dC dI cI cZ cL a0 a1 a2 a3 a4 a5 a6 a7 a8 a9 a10 a11 s.heap.size st  hc) (cwV 0 htB (zz_gV zk_2055cd9b zk_f6b6f3c5 zk_7115eaaf zk_cfe38e2e zk_dd3f9fec) rfl rfl rfl ⟨rfl, zh_X_check⟩ ⟨Nat.le_of_ble_eq_true rfl, Nat.le_of_ble_eq_true rfl⟩) (zz_preV (ci := 0) (q := (zr_X, zF_X, 7)) hP hD hK hE [0, 1, 2, 3, 4, 5, 6, 7, 8, 9, 10, 11] (by decide) rfl rfl rfl) rfl rfl hl.1 rfl (lv_room (Nat.le_of_ble_eq_true rfl)) zd_X_lodge_8 ⟨Nat.le_of_ble_eq_true rfl, Nat.le_of_ble_eq_true rfl⟩) ?_
    refine lv_if_eq (tgt := 16) hx hb zd_X_lodge_11 (by decide) (fun c_11 => ?_) (fun c_11 => ?_)
    · refine lv_aload_n hx hb zd_X_lodge_16 rfl (lv_at hl 0 rfl) ?_
      refine lv_iconst (v := 1) hx hb zd_X_lodge_17 (by decide) ?_
      refine va_put (D := (dC, dI)) (ci := 0) (v := .int 1) (C := zr_X) (T := zF_X) (N := 7) hx hb htB zi_X zT_X zT_X_ok zn_X hown hK hP hD hS 0 rfl rfl 6 (by decide) (htB _ zk_a72d337f) (fun _ h9 => h9) rfl (zT_X_ok 6 (by decide)) rfl rfl (Nat.le_of_ble_eq_true rfl) zd_X_lodge_18 (fun H locs hP hD hS => ?_)
      have hP : va_P (dC, dI) zz_cl (zw_X cI cZ cL a0 a1 a2 a3 a4 a5 a6 a7 a8 a9 a10 a11 (st.1, st.2.1, st.2.2.1, st.2.2.2.1, st.2.2.2.2.1, st.2.2.2.2.2.1, 1)) H := hP
      have hD : va_D A (zw_X cI cZ cL a0 a1 a2 a3 a4 a5 a6 a7 a8 a9 a10 a11 (st.1, st.2.1, st.2.2.1, st.2.2.2.1, st.2.2.2.2.1, st.2.2.2.2.2.1, 1)) := hD
      refine lv_iconst (v := 1) hx hb zd_X_lodge_21 (by decide) ?_
      rw [(show zf_X_lodge st = (1, (st.1, st.2.1, st.2.2.1, st.2.2.2.1, st.2.2.2.2.1, st.2.2.2.2.2.1, 1)) from by rw [zf_X_lodge, if_pos c_4, if_pos c_11])]
      exact zz_iret hx hb hr hlocks hK hP hD hS zd_X_lodge_22 rfl
    · refine lv_iconst (v := 0) hx hb zd_X_lodge_14 (by decide) ?_
      rw [(show zf_X_lodge st = (0, st) from by rw [zf_X_lodge, if_pos c_4, if_neg c_11])]
      exact zz_iret hx hb hr hlocks hK hP hD hS zd_X_lodge_15 rfl
set_option maxHeartbeats 4000000 in
set_option maxRecDepth 100000 in
theorem zc_X_paper (l : Launch) (dC : Nat → ClassId) (dI : Nat → Nat → Nat) (cI cZ cL : ClassId) (a0 a1 a2 a3 a4 a5 a6 a7 a8 a9 a10 a11 : Nat) (sz : Nat) (st : zu_X) (p1 : Int32) (p2 : Int32) (hp : st.2.2.2.1.2.2.2 ≤ 20) : Met l zy_X_paper (zz_ws zy_X_paper zb_X_paper 3 (some .boolean)) ({ frames := 2, cells := 0, slots := 0, locals := 44 } : Room) (va_Pc ([.ref a0, .int p1, .int p2] : List Value) (zz_P (dC, dI) (zz_ty cI cZ cL) sz (zw_X cI cZ cL a0 a1 a2 a3 a4 a5 a6 a7 a8 a9 a10 a11 st))) (zz_Qi (dC, dI) (zz_ty cI cZ cL) (va_A (zw_X cI cZ cL a0 a1 a2 a3 a4 a5 a6 a7 a8 a9 a10 a11 st) sz) ((zf_X_paper st p1 p2).1) (zw_X cI cZ cL a0 a1 a2 a3 a4 a5 a6 a7 a8 a9 a10 a11 ((zf_X_paper st p1 p2).2))) 0 0 (va_A (zw_X cI cZ cL a0 a1 a2 a3 a4 a5 a6 a7 a8 a9 a10 a11 st) sz) := by
  refine zz_ofW (Q := fun A => (zz_Qi (dC, dI) (zz_ty cI cZ cL) A ((zf_X_paper st p1 p2).1) (zw_X cI cZ cL a0 a1 a2 a3 a4 a5 a6 a7 a8 a9 a10 a11 ((zf_X_paper st p1 p2).2)))) (by decide) (Nat.le_of_ble_eq_true rfl) ?_
  intro p e s m below meth c A C0 _ hA hK hP hD _ ls hl
  obtain ⟨hx, hb, hr, hml, hown, htB, hlocks, hE⟩ := id C0
  have hS : va_S A s.heap s.heap [] := va_S.rf
  have hl : lv_has ls 3 [(0, .ref a0), (1, .int p1), (2, .int p2)] := hl
  refine lv_iload_n hx hb zd_X_paper_0 rfl (lv_at hl 1 rfl) ?_
  refine lv_iconst (v := 1) hx hb zd_X_paper_1 (by decide) ?_
  refine lv_icmp_lt (tgt := 21) hx hb zd_X_paper_2 (by decide) (fun c_2 => ?_) (fun c_2 => ?_)
  · refine lv_iconst (v := 0) hx hb zd_X_paper_21 (by decide) ?_
    rw [(show zf_X_paper st p1 p2 = (0, st) from by rw [zf_X_paper, if_pos c_2])]
    exact zz_zret hx hb hr hlocks narrow_b0 hK hP hD hS zd_X_paper_22 rfl
  · refine lv_iload_n hx hb zd_X_paper_5 rfl (lv_at hl 1 rfl) ?_
    refine lv_ldc (v := 1000000) hx hb hown (htB _ zk_2f026ba4) zd_X_paper_6 ?_
    refine lv_icmp_gt (tgt := 21) hx hb zd_X_paper_8 (by decide) (fun c_8 => ?_) (fun c_8 => ?_)
    · refine lv_iconst (v := 0) hx hb zd_X_paper_21 (by decide) ?_
      rw [(show zf_X_paper st p1 p2 = (0, st) from by rw [zf_X_paper, if_neg c_2, if_pos c_8])]
      exact zz_zret hx hb hr hlocks narrow_b0 hK hP hD hS zd_X_paper_22 rfl
    · refine lv_iload_n hx hb zd_X_paper_11 rfl (lv_at hl 2 rfl) ?_
      refine lv_if_lt (tgt := 21) hx hb zd_X_paper_12 (by decide) (fun c_12 => ?_) (fun c_12 => ?_)
      · refine lv_iconst (v := 0) hx hb zd_X_paper_21 (by decide) ?_
        rw [(show zf_X_paper st p1 p2 = (0, st) from by rw [zf_X_paper, if_neg c_2, if_neg c_8, if_pos c_12])]
        exact zz_zret hx hb hr hlocks narrow_b0 hK hP hD hS zd_X_paper_22 rfl
      · refine lv_iload_n hx hb zd_X_paper_15 rfl (lv_at hl 2 rfl) ?_
        refine lv_ldc (v := 1000000) hx hb hown (htB _ zk_2f026ba4) zd_X_paper_16 ?_
        refine lv_icmp_le (tgt := 23) hx hb zd_X_paper_18 (by decide) (fun c_18 => ?_) (fun c_18 => ?_)
        · refine lv_aload_n hx hb zd_X_paper_23 rfl (lv_at hl 0 rfl) ?_
          refine va_get (D := (dC, dI)) (ci := 0) (v := .ref a7) (C := zr_X) (T := zF_X) (N := 7) hx hb htB zi_X hown hK hP 0 rfl rfl 3 (by decide) (htB _ zk_4f9de2f5) (fun _ h9 => h9) rfl zd_X_paper_24 ?_
          refine lv_iload_n hx hb zd_X_paper_27 rfl (lv_at hl 1 rfl) ?_
          refine lv_iload_n hx hb zd_X_paper_28 rfl (lv_at hl 2 rfl) ?_
          refine zz_ci (va_runV (As := [.int p1, .int p2]) (rest := []) ⟨hx, hb, hml, hown, htB⟩ (zc_P_register l dC dI cI cZ cL a7 a8 a9 a10 s.heap.size st.2.2.2.1 p1 p2 hp) (cwV 2 htB (zz_gV zk_7e19198c zk_fdae3f7d zk_7d854696 zk_f301a5bc zk_fb1d459a) rfl rfl rfl ⟨rfl, zh_P_register⟩ ⟨Nat.le_of_ble_eq_true rfl, Nat.le_of_ble_eq_true rfl⟩) (zz_preV (ci := 3) (q := (zr_P, zF_P, 4)) hP hD hK hE [7, 8, 9, 10] (by decide) rfl rfl rfl) rfl rfl hl.1 rfl (lv_room (Nat.le_of_ble_eq_true rfl)) zd_X_paper_29 ⟨Nat.le_of_ble_eq_true rfl, Nat.le_of_ble_eq_true rfl⟩) hP hD hS hA [7, 8, 9, 10] [0, 1, 2, 3, 4, 5, 6, 11] [0, 1, 2, 3, 4, 5, 6, 8, 9, 10, 11, 7] rfl rfl (by decide) (by decide) (by decide) rfl (fun H locs hP hD hS => ?_)
          have hP : va_P (dC, dI) zz_cl (zw_X cI cZ cL a0 a1 a2 a3 a4 a5 a6 a7 a8 a9 a10 a11 (st.1, st.2.1, st.2.2.1, (zf_P_register st.2.2.2.1 p1 p2).2, st.2.2.2.2.1, st.2.2.2.2.2.1, st.2.2.2.2.2.2)) H := hP
          have hD : va_D A (zw_X cI cZ cL a0 a1 a2 a3 a4 a5 a6 a7 a8 a9 a10 a11 (st.1, st.2.1, st.2.2.1, (zf_P_register st.2.2.2.1 p1 p2).2, st.2.2.2.2.1, st.2.2.2.2.2.1, st.2.2.2.2.2.2)) := hD
          rw [(show zf_X_paper st p1 p2 = ((zf_P_register st.2.2.2.1 p1 p2).1, (st.1, st.2.1, st.2.2.1, (zf_P_register st.2.2.2.1 p1 p2).2, st.2.2.2.2.1, st.2.2.2.2.2.1, st.2.2.2.2.2.2)) from by rw [zf_X_paper, if_neg c_2, if_neg c_8, if_neg c_12, if_pos c_18])]
          exact zz_zret hx hb hr hlocks (zo_P_register st.2.2.2.1 p1 p2) hK hP hD hS zd_X_paper_32 rfl
        · refine lv_iconst (v := 0) hx hb zd_X_paper_21 (by decide) ?_
          rw [(show zf_X_paper st p1 p2 = (0, st) from by rw [zf_X_paper, if_neg c_2, if_neg c_8, if_neg c_12, if_neg c_18])]
          exact zz_zret hx hb hr hlocks narrow_b0 hK hP hD hS zd_X_paper_22 rfl
set_option maxHeartbeats 4000000 in
set_option maxRecDepth 100000 in
theorem zc_X_read (l : Launch) (dC : Nat → ClassId) (dI : Nat → Nat → Nat) (cI cZ cL : ClassId) (a0 a1 a2 a3 a4 a5 a6 a7 a8 a9 a10 a11 : Nat) (sz : Nat) (st : zu_X) (p1 : Int32)  : Met l zy_X_read (zz_ws zy_X_read zb_X_read 2 (some .int)) ({ frames := 4, cells := 0, slots := 0, locals := 84 } : Room) (va_Pc ([.ref a0, .int p1] : List Value) (zz_P (dC, dI) (zz_ty cI cZ cL) sz (zw_X cI cZ cL a0 a1 a2 a3 a4 a5 a6 a7 a8 a9 a10 a11 st))) (zz_Qi (dC, dI) (zz_ty cI cZ cL) (va_A (zw_X cI cZ cL a0 a1 a2 a3 a4 a5 a6 a7 a8 a9 a10 a11 st) sz) ((zf_X_read st p1).1) (zw_X cI cZ cL a0 a1 a2 a3 a4 a5 a6 a7 a8 a9 a10 a11 ((zf_X_read st p1).2))) 0 0 (va_A (zw_X cI cZ cL a0 a1 a2 a3 a4 a5 a6 a7 a8 a9 a10 a11 st) sz) := by
  refine zz_ofW (Q := fun A => (zz_Qi (dC, dI) (zz_ty cI cZ cL) A ((zf_X_read st p1).1) (zw_X cI cZ cL a0 a1 a2 a3 a4 a5 a6 a7 a8 a9 a10 a11 ((zf_X_read st p1).2)))) (by decide) (Nat.le_of_ble_eq_true rfl) ?_
  intro p e s m below meth c A C0 _ hA hK hP hD _ ls hl
  obtain ⟨hx, hb, hr, hml, hown, htB, hlocks, hE⟩ := id C0
  have hS : va_S A s.heap s.heap [] := va_S.rf
  have hl : lv_has ls 2 [(0, .ref a0), (1, .int p1)] := hl
  refine lv_aload_n hx hb zd_X_read_0 rfl (lv_at hl 0 rfl) ?_
  refine va_get (D := (dC, dI)) (ci := 0) (v := .ref a11) (C := zr_X) (T := zF_X) (N := 7) hx hb htB zi_X hown hK hP 0 rfl rfl 4 (by decide) (htB _ zk_84f3c67c) (fun _ h9 => h9) rfl zd_X_read_1 ?_
  refine lv_iload_n hx hb zd_X_read_4 rfl (lv_at hl 1 rfl) ?_
  refine lv_sipush (v := 255) hx hb zd_X_read_5 (by decide) ?_
  refine lv_iand hx hb zd_X_read_8 ?_
  refine zz_ci (va_runV (As := [.int (p1 &&& 255)]) (rest := []) ⟨hx, hb, hml, hown, htB⟩ (zc_R_accept l dC dI cI cZ cL a11 s.heap.size st.2.2.2.2.1 (p1 &&& 255) ) (cwV 1 htB (zz_gV zk_ebd94e33 zk_1b0d4895 zk_bb028677 zk_136d7407 zk_ce99025e) rfl rfl rfl ⟨rfl, zh_R_accept⟩ ⟨Nat.le_of_ble_eq_true rfl, Nat.le_of_ble_eq_true rfl⟩) (zz_preV (ci := 4) (q := (zr_R, zF_R, 9)) hP hD hK hE [11] (by decide) rfl rfl rfl) rfl rfl hl.1 rfl (lv_room (Nat.le_of_ble_eq_true rfl)) zd_X_read_9 ⟨Nat.le_of_ble_eq_true rfl, Nat.le_of_ble_eq_true rfl⟩) hP hD hS hA [11] [0, 1, 2, 3, 4, 5, 6, 7, 8, 9, 10] [0, 1, 2, 3, 4, 5, 6, 7, 8, 9, 10, 11] rfl rfl (by decide) (by decide) (by decide) rfl (fun H locs hP hD hS => ?_)
  have hP : va_P (dC, dI) zz_cl (zw_X cI cZ cL a0 a1 a2 a3 a4 a5 a6 a7 a8 a9 a10 a11 (st.1, st.2.1, st.2.2.1, st.2.2.2.1, (zf_R_accept st.2.2.2.2.1 (p1 &&& 255)).2, st.2.2.2.2.2.1, st.2.2.2.2.2.2)) H := hP
  have hD : va_D A (zw_X cI cZ cL a0 a1 a2 a3 a4 a5 a6 a7 a8 a9 a10 a11 (st.1, st.2.1, st.2.2.1, st.2.2.2.1, (zf_R_accept st.2.2.2.2.1 (p1 &&& 255)).2, st.2.2.2.2.2.1, st.2.2.2.2.2.2)) := hD
  rw [(show zf_X_read st p1 = ((zf_R_accept st.2.2.2.2.1 (p1 &&& 255)).1, (st.1, st.2.1, st.2.2.1, st.2.2.2.1, (zf_R_accept st.2.2.2.2.1 (p1 &&& 255)).2, st.2.2.2.2.2.1, st.2.2.2.2.2.2)) from by first | rfl | (rw [zf_X_read]))]
  exact zz_iret hx hb hr hlocks hK hP hD hS zd_X_read_12 rfl
set_option maxHeartbeats 4000000 in
set_option maxRecDepth 100000 in
theorem zc_X_count (l : Launch) (dC : Nat → ClassId) (dI : Nat → Nat → Nat) (cI cZ cL : ClassId) (a0 a1 a2 a3 a4 a5 a6 a7 a8 a9 a10 a11 : Nat) (sz : Nat) (st : zu_X) (p1 : Int32) (hc : st.2.2.1.2.2 ≤ 20) (hp : st.2.2.2.1.2.2.2 ≤ 20) : Met l zy_X_count (zz_ws zy_X_count zb_X_count 2 (some .int)) ({ frames := 2, cells := 0, slots := 0, locals := 44 } : Room) (va_Pc ([.ref a0, .int p1] : List Value) (zz_P (dC, dI) (zz_ty cI cZ cL) sz (zw_X cI cZ cL a0 a1 a2 a3 a4 a5 a6 a7 a8 a9 a10 a11 st))) (zz_Ki (zf_X_count st p1)) 0 0 (fun _ => False) := by
  refine zz_ofK (by decide) (Nat.le_of_ble_eq_true rfl) ?_
  intro p e s m below meth c C0 hK hP hD ls hl
  obtain ⟨hx, hb, hr, hml, hown, htB, hlocks, hE⟩ := id C0
  have hl : lv_has ls 2 [(0, .ref a0), (1, .int p1)] := hl
  refine lv_iload_n hx hb zd_X_count_0 rfl (lv_at hl 1 rfl) ?_
  by_cases c_1_0 : p1 = 0
  · refine lv_tableIn (off := 51) (tgt := 52) hx hb zd_X_count_1 (by rw [c_1_0]; decide) (by rw [c_1_0]; decide) (by rw [c_1_0]; rfl) (by decide) ?_
    refine lv_aload_n hx hb zd_X_count_52 rfl (lv_at hl 0 rfl) ?_
    refine va_get (D := (dC, dI)) (ci := 0) (v := .ref a1) (C := zr_X) (T := zF_X) (N := 7) hx hb htB zi_X hown hK hP 0 rfl rfl 1 (by decide) (htB _ zk_ac6f5f75) (fun _ h9 => h9) rfl zd_X_count_53 ?_
    refine zz_ki (va_runV (As := []) (rest := []) ⟨hx, hb, hml, hown, htB⟩ (zc_S_lineCount l dC dI cI cZ cL a1 a2 a3 s.heap.size st.2.1  ) (cwV 0 htB (zz_gV zk_879c9a59 zk_79c9d9e2 zk_0aad96cc zk_f1a23aa7 zk_fcd24361) rfl rfl rfl ⟨rfl, zh_S_lineCount⟩ ⟨Nat.le_of_ble_eq_true rfl, Nat.le_of_ble_eq_true rfl⟩) (zz_preV (ci := 1) (q := (zr_S, zF_S, 5)) hP hD hK hE [1, 2, 3] (by decide) rfl rfl rfl) rfl rfl hl.1 rfl (lv_room (Nat.le_of_ble_eq_true rfl)) zd_X_count_56 ⟨Nat.le_of_ble_eq_true rfl, Nat.le_of_ble_eq_true rfl⟩) ?_
    rw [(show zf_X_count st p1 = (zf_S_lineCount st.2.1) from by rw [zf_X_count, if_pos c_1_0])]
    exact zz_kiret hx hb hr hlocks zd_X_count_59 rfl
  by_cases c_1_1 : p1 = 1
  · refine lv_tableIn (off := 59) (tgt := 60) hx hb zd_X_count_1 (by rw [c_1_1]; decide) (by rw [c_1_1]; decide) (by rw [c_1_1]; rfl) (by decide) ?_
    refine lv_aload_n hx hb zd_X_count_60 rfl (lv_at hl 0 rfl) ?_
    refine va_get (D := (dC, dI)) (ci := 0) (v := .ref a1) (C := zr_X) (T := zF_X) (N := 7) hx hb htB zi_X hown hK hP 0 rfl rfl 1 (by decide) (htB _ zk_ac6f5f75) (fun _ h9 => h9) rfl zd_X_count_61 ?_
    refine zz_ki (va_runV (As := []) (rest := []) ⟨hx, hb, hml, hown, htB⟩ (zc_S_setCount l dC dI cI cZ cL a1 a2 a3 s.heap.size st.2.1  ) (cwV 0 htB (zz_gV zk_d51b3908 zk_460a5c0b zk_dbc3e6b2 zk_f1a23aa7 zk_8b4375f5) rfl rfl rfl ⟨rfl, zh_S_setCount⟩ ⟨Nat.le_of_ble_eq_true rfl, Nat.le_of_ble_eq_true rfl⟩) (zz_preV (ci := 1) (q := (zr_S, zF_S, 5)) hP hD hK hE [1, 2, 3] (by decide) rfl rfl rfl) rfl rfl hl.1 rfl (lv_room (Nat.le_of_ble_eq_true rfl)) zd_X_count_64 ⟨Nat.le_of_ble_eq_true rfl, Nat.le_of_ble_eq_true rfl⟩) ?_
    rw [(show zf_X_count st p1 = (zf_S_setCount st.2.1) from by rw [zf_X_count, if_neg c_1_0, if_pos c_1_1])]
    exact zz_kiret hx hb hr hlocks zd_X_count_67 rfl
  by_cases c_1_2 : p1 = 2
  · refine lv_tableIn (off := 67) (tgt := 68) hx hb zd_X_count_1 (by rw [c_1_2]; decide) (by rw [c_1_2]; decide) (by rw [c_1_2]; rfl) (by decide) ?_
    refine lv_aload_n hx hb zd_X_count_68 rfl (lv_at hl 0 rfl) ?_
    refine va_get (D := (dC, dI)) (ci := 0) (v := .int st.2.2.2.2.2.2) (C := zr_X) (T := zF_X) (N := 7) hx hb htB zi_X hown hK hP 0 rfl rfl 6 (by decide) (htB _ zk_a72d337f) (fun _ h9 => h9) rfl zd_X_count_69 ?_
    refine lv_if_eq (tgt := 79) hx hb zd_X_count_72 (by decide) (fun c_72 => ?_) (fun c_72 => ?_)
    · refine lv_iconst (v := 0) hx hb zd_X_count_79 (by decide) ?_
      rw [(show zf_X_count st p1 = 0 from by rw [zf_X_count, if_neg c_1_0, if_neg c_1_1, if_pos c_1_2, if_pos c_72])]
      exact zz_kiret hx hb hr hlocks zd_X_count_80 rfl
    · refine lv_iconst (v := 1) hx hb zd_X_count_75 (by decide) ?_
      refine lv_goto (tgt := 80) hx hb zd_X_count_76 (by decide) ?_
      rw [(show zf_X_count st p1 = 1 from by rw [zf_X_count, if_neg c_1_0, if_neg c_1_1, if_pos c_1_2, if_neg c_72])]
      exact zz_kiret hx hb hr hlocks zd_X_count_80 rfl
  by_cases c_1_3 : p1 = 3
  · refine lv_tableIn (off := 80) (tgt := 81) hx hb zd_X_count_1 (by rw [c_1_3]; decide) (by rw [c_1_3]; decide) (by rw [c_1_3]; rfl) (by decide) ?_
    refine lv_aload_n hx hb zd_X_count_81 rfl (lv_at hl 0 rfl) ?_
    refine va_get (D := (dC, dI)) (ci := 0) (v := .ref a4) (C := zr_X) (T := zF_X) (N := 7) hx hb htB zi_X hown hK hP 0 rfl rfl 2 (by decide) (htB _ zk_92bcf320) (fun _ h9 => h9) rfl zd_X_count_82 ?_
    refine lv_aload_n hx hb zd_X_count_85 rfl (lv_at hl 0 rfl) ?_
    refine va_get (D := (dC, dI)) (ci := 0) (v := .int st.2.2.2.2.2.1) (C := zr_X) (T := zF_X) (N := 7) hx hb htB zi_X hown hK hP 0 rfl rfl 5 (by decide) (htB _ zk_be002196) (fun _ h9 => h9) rfl zd_X_count_86 ?_
    refine zz_ki (va_runV (As := [.int st.2.2.2.2.2.1]) (rest := []) ⟨hx, hb, hml, hown, htB⟩ (zc_C_goodCount l dC dI cI cZ cL a4 a5 a6 s.heap.size st.2.2.1 st.2.2.2.2.2.1 hc) (cwV 1 htB (zz_gV zk_3d151568 zk_a00f8f37 zk_f023d959 zk_e143c677 zk_9bbffd41) rfl rfl rfl ⟨rfl, zh_C_goodCount⟩ ⟨Nat.le_of_ble_eq_true rfl, Nat.le_of_ble_eq_true rfl⟩) (zz_preV (ci := 2) (q := (zr_C, zF_C, 3)) hP hD hK hE [4, 5, 6] (by decide) rfl rfl rfl) rfl rfl hl.1 rfl (lv_room (Nat.le_of_ble_eq_true rfl)) zd_X_count_89 ⟨Nat.le_of_ble_eq_true rfl, Nat.le_of_ble_eq_true rfl⟩) ?_
    rw [(show zf_X_count st p1 = (zf_C_goodCount st.2.2.1 st.2.2.2.2.2.1) from by rw [zf_X_count, if_neg c_1_0, if_neg c_1_1, if_neg c_1_2, if_pos c_1_3])]
    exact zz_kiret hx hb hr hlocks zd_X_count_92 rfl
  by_cases c_1_4 : p1 = 4
  · refine lv_tableIn (off := 92) (tgt := 93) hx hb zd_X_count_1 (by rw [c_1_4]; decide) (by rw [c_1_4]; decide) (by rw [c_1_4]; rfl) (by decide) ?_
    refine lv_aload_n hx hb zd_X_count_93 rfl (lv_at hl 0 rfl) ?_
    refine va_get (D := (dC, dI)) (ci := 0) (v := .ref a7) (C := zr_X) (T := zF_X) (N := 7) hx hb htB zi_X hown hK hP 0 rfl rfl 3 (by decide) (htB _ zk_4f9de2f5) (fun _ h9 => h9) rfl zd_X_count_94 ?_
    refine zz_ki (va_runV (As := []) (rest := []) ⟨hx, hb, hml, hown, htB⟩ (zc_P_size l dC dI cI cZ cL a7 a8 a9 a10 s.heap.size st.2.2.2.1  ) (cwV 0 htB (zz_gV zk_37c0246d zk_a344ebc1 zk_f7bcf776 zk_f301a5bc zk_f2dbcaa8) rfl rfl rfl ⟨rfl, zh_P_size⟩ ⟨Nat.le_of_ble_eq_true rfl, Nat.le_of_ble_eq_true rfl⟩) (zz_preV (ci := 3) (q := (zr_P, zF_P, 4)) hP hD hK hE [7, 8, 9, 10] (by decide) rfl rfl rfl) rfl rfl hl.1 rfl (lv_room (Nat.le_of_ble_eq_true rfl)) zd_X_count_97 ⟨Nat.le_of_ble_eq_true rfl, Nat.le_of_ble_eq_true rfl⟩) ?_
    rw [(show zf_X_count st p1 = (zf_P_size st.2.2.2.1) from by rw [zf_X_count, if_neg c_1_0, if_neg c_1_1, if_neg c_1_2, if_neg c_1_3, if_pos c_1_4])]
    exact zz_kiret hx hb hr hlocks zd_X_count_100 rfl
  by_cases c_1_5 : p1 = 5
  · refine lv_tableIn (off := 100) (tgt := 101) hx hb zd_X_count_1 (by rw [c_1_5]; decide) (by rw [c_1_5]; decide) (by rw [c_1_5]; rfl) (by decide) ?_
    refine lv_aload_n hx hb zd_X_count_101 rfl (lv_at hl 0 rfl) ?_
    refine va_get (D := (dC, dI)) (ci := 0) (v := .int st.2.2.2.2.2.1) (C := zr_X) (T := zF_X) (N := 7) hx hb htB zi_X hown hK hP 0 rfl rfl 5 (by decide) (htB _ zk_be002196) (fun _ h9 => h9) rfl zd_X_count_102 ?_
    rw [(show zf_X_count st p1 = st.2.2.2.2.2.1 from by rw [zf_X_count, if_neg c_1_0, if_neg c_1_1, if_neg c_1_2, if_neg c_1_3, if_neg c_1_4, if_pos c_1_5])]
    exact zz_kiret hx hb hr hlocks zd_X_count_105 rfl
  by_cases c_1_6 : p1 = 6
  · refine lv_tableIn (off := 105) (tgt := 106) hx hb zd_X_count_1 (by rw [c_1_6]; decide) (by rw [c_1_6]; decide) (by rw [c_1_6]; rfl) (by decide) ?_
    refine lv_aload_n hx hb zd_X_count_106 rfl (lv_at hl 0 rfl) ?_
    refine va_get (D := (dC, dI)) (ci := 0) (v := .int st.1) (C := zr_X) (T := zF_X) (N := 7) hx hb htB zi_X hown hK hP 0 rfl rfl 0 (by decide) (htB _ zk_26e1908c) (fun _ h9 => h9) rfl zd_X_count_107 ?_
    rw [(show zf_X_count st p1 = st.1 from by rw [zf_X_count, if_neg c_1_0, if_neg c_1_1, if_neg c_1_2, if_neg c_1_3, if_neg c_1_4, if_neg c_1_5, if_pos c_1_6])]
    exact zz_kiret hx hb hr hlocks zd_X_count_110 rfl
  by_cases c_1_7 : p1 = 7
  · refine lv_tableIn (off := 110) (tgt := 111) hx hb zd_X_count_1 (by rw [c_1_7]; decide) (by rw [c_1_7]; decide) (by rw [c_1_7]; rfl) (by decide) ?_
    refine lv_aload_n hx hb zd_X_count_111 rfl (lv_at hl 0 rfl) ?_
    refine va_get (D := (dC, dI)) (ci := 0) (v := .ref a11) (C := zr_X) (T := zF_X) (N := 7) hx hb htB zi_X hown hK hP 0 rfl rfl 4 (by decide) (htB _ zk_84f3c67c) (fun _ h9 => h9) rfl zd_X_count_112 ?_
    refine zz_ki (va_runV (As := []) (rest := []) ⟨hx, hb, hml, hown, htB⟩ (zc_R_wholeRows l dC dI cI cZ cL a11 s.heap.size st.2.2.2.2.1  ) (cwV 0 htB (zz_gV zk_12ec970f zk_7dd5f14a zk_32e2b4e8 zk_136d7407 zk_2362f403) rfl rfl rfl ⟨rfl, zh_R_wholeRows⟩ ⟨Nat.le_of_ble_eq_true rfl, Nat.le_of_ble_eq_true rfl⟩) (zz_preV (ci := 4) (q := (zr_R, zF_R, 9)) hP hD hK hE [11] (by decide) rfl rfl rfl) rfl rfl hl.1 rfl (lv_room (Nat.le_of_ble_eq_true rfl)) zd_X_count_115 ⟨Nat.le_of_ble_eq_true rfl, Nat.le_of_ble_eq_true rfl⟩) ?_
    rw [(show zf_X_count st p1 = (zf_R_wholeRows st.2.2.2.2.1) from by rw [zf_X_count, if_neg c_1_0, if_neg c_1_1, if_neg c_1_2, if_neg c_1_3, if_neg c_1_4, if_neg c_1_5, if_neg c_1_6, if_pos c_1_7])]
    exact zz_kiret hx hb hr hlocks zd_X_count_118 rfl
  by_cases c_1_8 : p1 = 8
  · refine lv_tableIn (off := 118) (tgt := 119) hx hb zd_X_count_1 (by rw [c_1_8]; decide) (by rw [c_1_8]; decide) (by rw [c_1_8]; rfl) (by decide) ?_
    refine lv_aload_n hx hb zd_X_count_119 rfl (lv_at hl 0 rfl) ?_
    refine va_get (D := (dC, dI)) (ci := 0) (v := .ref a11) (C := zr_X) (T := zF_X) (N := 7) hx hb htB zi_X hown hK hP 0 rfl rfl 4 (by decide) (htB _ zk_84f3c67c) (fun _ h9 => h9) rfl zd_X_count_120 ?_
    refine zz_ki (va_runV (As := []) (rest := []) ⟨hx, hb, hml, hown, htB⟩ (zc_R_latestFields l dC dI cI cZ cL a11 s.heap.size st.2.2.2.2.1  ) (cwV 0 htB (zz_gV zk_f58d715e zk_1f59c27a zk_5ba6d848 zk_136d7407 zk_ba062628) rfl rfl rfl ⟨rfl, zh_R_latestFields⟩ ⟨Nat.le_of_ble_eq_true rfl, Nat.le_of_ble_eq_true rfl⟩) (zz_preV (ci := 4) (q := (zr_R, zF_R, 9)) hP hD hK hE [11] (by decide) rfl rfl rfl) rfl rfl hl.1 rfl (lv_room (Nat.le_of_ble_eq_true rfl)) zd_X_count_123 ⟨Nat.le_of_ble_eq_true rfl, Nat.le_of_ble_eq_true rfl⟩) ?_
    rw [(show zf_X_count st p1 = (zf_R_latestFields st.2.2.2.2.1) from by rw [zf_X_count, if_neg c_1_0, if_neg c_1_1, if_neg c_1_2, if_neg c_1_3, if_neg c_1_4, if_neg c_1_5, if_neg c_1_6, if_neg c_1_7, if_pos c_1_8])]
    exact zz_kiret hx hb hr hlocks zd_X_count_126 rfl
  refine lv_tableOut (tgt := 127) hx hb zd_X_count_1 (by have n0 := lv_neT c_1_0 (a := 0) (by decide); have n1 := lv_neT c_1_1 (a := 1) (by decide); have n2 := lv_neT c_1_2 (a := 2) (by decide); have n3 := lv_neT c_1_3 (a := 3) (by decide); have n4 := lv_neT c_1_4 (a := 4) (by decide); have n5 := lv_neT c_1_5 (a := 5) (by decide); have n6 := lv_neT c_1_6 (a := 6) (by decide); have n7 := lv_neT c_1_7 (a := 7) (by decide); have n8 := lv_neT c_1_8 (a := 8) (by decide); omega) (by decide) ?_
  refine lv_iload_n hx hb zd_X_count_127 rfl (lv_at hl 1 rfl) ?_
  refine lv_bipush (v := 100) hx hb zd_X_count_128 (by decide) ?_
  refine lv_icmp_ge (tgt := 137) hx hb zd_X_count_130 (by decide) (fun c_130 => ?_) (fun c_130 => ?_)
  · refine lv_aload_n hx hb zd_X_count_137 rfl (lv_at hl 0 rfl) ?_
    refine va_get (D := (dC, dI)) (ci := 0) (v := .ref a7) (C := zr_X) (T := zF_X) (N := 7) hx hb htB zi_X hown hK hP 0 rfl rfl 3 (by decide) (htB _ zk_4f9de2f5) (fun _ h9 => h9) rfl zd_X_count_138 ?_
    refine lv_iload_n hx hb zd_X_count_141 rfl (lv_at hl 1 rfl) ?_
    refine lv_bipush (v := 100) hx hb zd_X_count_142 (by decide) ?_
    refine lv_isub hx hb zd_X_count_144 ?_
    refine zz_ki (va_runV (As := [.int (p1 - 100)]) (rest := []) ⟨hx, hb, hml, hown, htB⟩ (zc_P_balanceOf l dC dI cI cZ cL a7 a8 a9 a10 s.heap.size st.2.2.2.1 (p1 - 100) hp) (cwV 1 htB (zz_gV zk_4b0ca567 zk_5620dc61 zk_119f247c zk_f301a5bc zk_4890c725) rfl rfl rfl ⟨rfl, zh_P_balanceOf⟩ ⟨Nat.le_of_ble_eq_true rfl, Nat.le_of_ble_eq_true rfl⟩) (zz_preV (ci := 3) (q := (zr_P, zF_P, 4)) hP hD hK hE [7, 8, 9, 10] (by decide) rfl rfl rfl) rfl rfl hl.1 rfl (lv_room (Nat.le_of_ble_eq_true rfl)) zd_X_count_145 ⟨Nat.le_of_ble_eq_true rfl, Nat.le_of_ble_eq_true rfl⟩) ?_
    rw [(show zf_X_count st p1 = (zf_P_balanceOf st.2.2.2.1 (p1 - 100)) from by rw [zf_X_count, if_neg c_1_0, if_neg c_1_1, if_neg c_1_2, if_neg c_1_3, if_neg c_1_4, if_neg c_1_5, if_neg c_1_6, if_neg c_1_7, if_neg c_1_8, if_pos c_130])]
    exact zz_kiret hx hb hr hlocks zd_X_count_148 rfl
  · refine lv_iconst (v := (-1)) hx hb zd_X_count_133 (by decide) ?_
    refine lv_goto (tgt := 148) hx hb zd_X_count_134 (by decide) ?_
    rw [(show zf_X_count st p1 = (-1) from by rw [zf_X_count, if_neg c_1_0, if_neg c_1_1, if_neg c_1_2, if_neg c_1_3, if_neg c_1_4, if_neg c_1_5, if_neg c_1_6, if_neg c_1_7, if_neg c_1_8, if_neg c_130])]
    exact zz_kiret hx hb hr hlocks zd_X_count_148 rfl
end
section
set_option maxHeartbeats 4000000 in
set_option maxRecDepth 100000 in
theorem zc_X_line (l : Launch) (dC : Nat → ClassId) (dI : Nat → Nat → Nat) (cI cZ cL : ClassId) (a0 a1 a2 a3 a4 a5 a6 a7 a8 a9 a10 a11 : Nat) (sz : Nat) (st : zu_X) (hm : st.2.1.2.2.1 ≤ 30) (hf0 : l.flags = pinnedFlags ++ [noTraceFlag]) : zt_Met l zy_X_line (zz_ws zy_X_line zb_X_line 1 (some .int)) ({ frames := 6, cells := 1, slots := 6, locals := 83 } : Room) (va_Pc ([.ref a0] : List Value) (zt_P (dC, dI) (zz_ty cI cZ cL) sz (zw_X cI cZ cL a0 a1 a2 a3 a4 a5 a6 a7 a8 a9 a10 a11 st))) (zt_Qi (dC, dI) (zz_ty cI cZ cL) (va_A (zw_X cI cZ cL a0 a1 a2 a3 a4 a5 a6 a7 a8 a9 a10 a11 st) sz) (fun _ => "java/lang/IllegalStateException") (zf_X_line st).1 ((zf_X_line st).2.1) (zw_X cI cZ cL a0 a1 a2 a3 a4 a5 a6 a7 a8 a9 a10 a11 ((zf_X_line st).2.2))) 1 6 (va_A (zw_X cI cZ cL a0 a1 a2 a3 a4 a5 a6 a7 a8 a9 a10 a11 st) sz) := by
  refine zt_ofW (Q := fun A => (zt_Qi (dC, dI) (zz_ty cI cZ cL) A (fun _ => "java/lang/IllegalStateException") (zf_X_line st).1 ((zf_X_line st).2.1) (zw_X cI cZ cL a0 a1 a2 a3 a4 a5 a6 a7 a8 a9 a10 a11 ((zf_X_line st).2.2)))) (by decide) (Nat.le_of_ble_eq_true rfl) ?_
  intro p e s m below meth c A C0 hexc hadm hA hK hP hD hZ ls hl
  obtain ⟨hx, hb, hr, hml, hown, htB, hlocks, hE⟩ := id C0
  have hS : va_S A s.heap s.heap [] := va_S.rf
  have hl : lv_has ls 1 [(0, .ref a0)] := hl
  refine lv_aload_n hx hb zd_X_line_0 rfl (lv_at hl 0 rfl) ?_
  refine va_get (D := (dC, dI)) (ci := 0) (v := .int st.2.2.2.2.2.2) (C := zr_X) (T := zF_X) (N := 7) hx hb htB zi_X hown hK hP 0 rfl rfl 6 (by decide) (htB _ zk_a72d337f) (fun _ h9 => h9) rfl zd_X_line_1 ?_
  refine lv_if_ne (tgt := 17) hx hb zd_X_line_4 (by decide) (fun c_4 => ?_) (fun c_4 => ?_)
  · rw [(show zf_X_line st = (1, 0, st) from by rw [zf_X_line, if_neg c_4])]
    exact zt_throw (names := ["java/lang/RuntimeException", "java/lang/Exception"]) hf0 hadm hx hb (hml.trans hl.1.symm) hlocks hexc hown (htB _ zk_f0307824) (htB _ zk_0493ccc5) (htB _ zk_03932cc4) (hE.2.1 _ (List.mem_of_getElem? (i := 0) rfl)) (by decide +kernel) (by decide +kernel) (za_0 htB hE hZ) hK hP hD hA (Nat.le_of_ble_eq_true rfl) (Nat.le_of_ble_eq_true rfl) (Nat.le_of_ble_eq_true rfl) (Nat.le_of_ble_eq_true rfl) zd_X_line_17 zd_X_line_20 zd_X_line_21 zd_X_line_23 zd_X_line_26 (fun oc t x ce h1 h2 h3 h4 h5 h6 h7 => ⟨Or.inr ⟨(show (1 : Nat) ≠ 0 by decide), x, ce, h1, h2, h3, h4, h5⟩, h6, h7⟩)
  · refine lv_aload_n hx hb zd_X_line_7 rfl (lv_at hl 0 rfl) ?_
    refine va_get (D := (dC, dI)) (ci := 0) (v := .ref a1) (C := zr_X) (T := zF_X) (N := 7) hx hb htB zi_X hown hK hP 0 rfl rfl 1 (by decide) (htB _ zk_ac6f5f75) (fun _ h9 => h9) rfl zd_X_line_8 ?_
    refine zz_ki (va_runV (As := []) (rest := []) ⟨hx, hb, hml, hown, htB⟩ (zc_S_isFull l dC dI cI cZ cL a1 a2 a3 s.heap.size st.2.1  ) (cwV 0 htB (zz_gV zk_97987d2d zk_5ea10dbf zk_5f4fa963 zk_f1a23aa7 zk_bb1301ba) rfl rfl rfl ⟨rfl, zh_S_isFull⟩ ⟨Nat.le_of_ble_eq_true rfl, Nat.le_of_ble_eq_true rfl⟩) (zz_preV (ci := 1) (q := (zr_S, zF_S, 5)) hP hD hK hE [1, 2, 3] (by decide) rfl rfl rfl) rfl rfl hl.1 rfl (lv_room (Nat.le_of_ble_eq_true rfl)) zd_X_line_11 ⟨Nat.le_of_ble_eq_true rfl, Nat.le_of_ble_eq_true rfl⟩) ?_
    refine lv_if_eq (tgt := 27) hx hb zd_X_line_14 (by decide) (fun c_14 => ?_) (fun c_14 => ?_)
    · refine lv_aload_n hx hb zd_X_line_27 rfl (lv_at hl 0 rfl) ?_
      refine va_get (D := (dC, dI)) (ci := 0) (v := .ref a1) (C := zr_X) (T := zF_X) (N := 7) hx hb htB zi_X hown hK hP 0 rfl rfl 1 (by decide) (htB _ zk_ac6f5f75) (fun _ h9 => h9) rfl zd_X_line_28 ?_
      refine zz_ci (va_runV (As := []) (rest := []) ⟨hx, hb, hml, hown, htB⟩ (zc_S_openLine l dC dI cI cZ cL a1 a2 a3 s.heap.size st.2.1  hm) (cwV 0 htB (zz_gV zk_ab432be1 zk_01534751 zk_f8f3f2f9 zk_f1a23aa7 zk_a71217dc) rfl rfl rfl ⟨rfl, zh_S_openLine⟩ ⟨Nat.le_of_ble_eq_true rfl, Nat.le_of_ble_eq_true rfl⟩) (zz_preV (ci := 1) (q := (zr_S, zF_S, 5)) hP hD hK hE [1, 2, 3] (by decide) rfl rfl rfl) rfl rfl hl.1 rfl (lv_room (Nat.le_of_ble_eq_true rfl)) zd_X_line_31 ⟨Nat.le_of_ble_eq_true rfl, Nat.le_of_ble_eq_true rfl⟩) hP hD hS hA [1, 2, 3] [0, 4, 5, 6, 7, 8, 9, 10, 11] [0, 9, 10, 11, 1, 2, 3, 4, 5, 6, 7, 8] rfl rfl (by decide) (by decide) (by decide) rfl (fun H locs hP hD hS => ?_)
      have hP : va_P (dC, dI) zz_cl (zw_X cI cZ cL a0 a1 a2 a3 a4 a5 a6 a7 a8 a9 a10 a11 (st.1, (zf_S_openLine st.2.1).2, st.2.2.1, st.2.2.2.1, st.2.2.2.2.1, st.2.2.2.2.2.1, st.2.2.2.2.2.2)) H := hP
      have hD : va_D A (zw_X cI cZ cL a0 a1 a2 a3 a4 a5 a6 a7 a8 a9 a10 a11 (st.1, (zf_S_openLine st.2.1).2, st.2.2.1, st.2.2.2.1, st.2.2.2.2.1, st.2.2.2.2.2.1, st.2.2.2.2.2.2)) := hD
      rw [(show zf_X_line st = (0, (zf_S_openLine st.2.1).1, (st.1, (zf_S_openLine st.2.1).2, st.2.2.1, st.2.2.2.1, st.2.2.2.2.1, st.2.2.2.2.2.1, st.2.2.2.2.2.2)) from by rw [zf_X_line, if_pos c_4, if_pos c_14])]
      refine W.widen (k := 1) (n := 6) (by decide) (by decide) ?_
      exact zt_iret hx hb hr hlocks hK hP hD hS zd_X_line_34 rfl rfl
    · rw [(show zf_X_line st = (1, 0, st) from by rw [zf_X_line, if_pos c_4, if_neg c_14])]
      exact zt_throw (names := ["java/lang/RuntimeException", "java/lang/Exception"]) hf0 hadm hx hb (hml.trans hl.1.symm) hlocks hexc hown (htB _ zk_f0307824) (htB _ zk_0493ccc5) (htB _ zk_03932cc4) (hE.2.1 _ (List.mem_of_getElem? (i := 0) rfl)) (by decide +kernel) (by decide +kernel) (za_0 htB hE hZ) hK hP hD hA (Nat.le_of_ble_eq_true rfl) (Nat.le_of_ble_eq_true rfl) (Nat.le_of_ble_eq_true rfl) (Nat.le_of_ble_eq_true rfl) zd_X_line_17 zd_X_line_20 zd_X_line_21 zd_X_line_23 zd_X_line_26 (fun oc t x ce h1 h2 h3 h4 h5 h6 h7 => ⟨Or.inr ⟨(show (1 : Nat) ≠ 0 by decide), x, ce, h1, h2, h3, h4, h5⟩, h6, h7⟩)
set_option maxHeartbeats 4000000 in
set_option maxRecDepth 100000 in
theorem zc_X_field (l : Launch) (dC : Nat → ClassId) (dI : Nat → Nat → Nat) (cI cZ cL : ClassId) (a0 a1 a2 a3 a4 a5 a6 a7 a8 a9 a10 a11 : Nat) (sz : Nat) (st : zu_X) (p1 : Int32) (p2 : Int32) (p3 : Int64)  (hf0 : l.flags = pinnedFlags ++ [noTraceFlag]) : zt_Met l zy_X_field (zz_ws zy_X_field zb_X_field 6 (some .int)) ({ frames := 6, cells := 1, slots := 6, locals := 83 } : Room) (va_Pc ([.ref a0, .int p1, .int p2, .long p3] : List Value) (zt_P (dC, dI) (zz_ty cI cZ cL) sz (zw_X cI cZ cL a0 a1 a2 a3 a4 a5 a6 a7 a8 a9 a10 a11 st))) (zt_Qi (dC, dI) (zz_ty cI cZ cL) (va_A (zw_X cI cZ cL a0 a1 a2 a3 a4 a5 a6 a7 a8 a9 a10 a11 st) sz) (fun _ => "java/lang/IllegalArgumentException") (zf_X_field st p1 p2 p3).1 ((zf_X_field st p1 p2 p3).2.1) (zw_X cI cZ cL a0 a1 a2 a3 a4 a5 a6 a7 a8 a9 a10 a11 ((zf_X_field st p1 p2 p3).2.2))) 1 6 (va_A (zw_X cI cZ cL a0 a1 a2 a3 a4 a5 a6 a7 a8 a9 a10 a11 st) sz) := by
  refine zt_ofW (Q := fun A => (zt_Qi (dC, dI) (zz_ty cI cZ cL) A (fun _ => "java/lang/IllegalArgumentException") (zf_X_field st p1 p2 p3).1 ((zf_X_field st p1 p2 p3).2.1) (zw_X cI cZ cL a0 a1 a2 a3 a4 a5 a6 a7 a8 a9 a10 a11 ((zf_X_field st p1 p2 p3).2.2)))) (by decide) (Nat.le_of_ble_eq_true rfl) ?_
  intro p e s m below meth c A C0 hexc hadm hA hK hP hD hZ ls hl
  obtain ⟨hx, hb, hr, hml, hown, htB, hlocks, hE⟩ := id C0
  have hS : va_S A s.heap s.heap [] := va_S.rf
  have hl : lv_has ls 6 [(0, .ref a0), (1, .int p1), (2, .int p2), (3, .long p3)] := hl
  refine lv_aload_n hx hb zd_X_field_0 rfl (lv_at hl 0 rfl) ?_
  refine va_get (D := (dC, dI)) (ci := 0) (v := .ref a1) (C := zr_X) (T := zF_X) (N := 7) hx hb htB zi_X hown hK hP 0 rfl rfl 1 (by decide) (htB _ zk_ac6f5f75) (fun _ h9 => h9) rfl zd_X_field_1 ?_
  refine lv_iload_n hx hb zd_X_field_4 rfl (lv_at hl 1 rfl) ?_
  refine lv_iload_n hx hb zd_X_field_5 rfl (lv_at hl 2 rfl) ?_
  refine zz_ki (va_runV (As := [.int p1, .int p2]) (rest := []) ⟨hx, hb, hml, hown, htB⟩ (zc_S_slotOf l dC dI cI cZ cL a1 a2 a3 s.heap.size st.2.1 p1 p2 ) (cwV 2 htB (zz_gV zk_3749943e zk_13757a2f zk_9f779419 zk_f1a23aa7 zk_e4817253) rfl rfl rfl ⟨rfl, zh_S_slotOf⟩ ⟨Nat.le_of_ble_eq_true rfl, Nat.le_of_ble_eq_true rfl⟩) (zz_preV (ci := 1) (q := (zr_S, zF_S, 5)) hP hD hK hE [1, 2, 3] (by decide) rfl rfl rfl) rfl rfl hl.1 rfl (lv_room (Nat.le_of_ble_eq_true rfl)) zd_X_field_6 ⟨Nat.le_of_ble_eq_true rfl, Nat.le_of_ble_eq_true rfl⟩) ?_
  refine lv_istore (lv' := [(5, .int (zf_S_slotOf st.2.1 p1 p2)), (0, .ref a0), (1, .int p1), (2, .int p2), (3, .long p3)]) hx hb zd_X_field_9 hl (by decide) rfl (fun ls hl => ?_)
  refine lv_iload hx hb zd_X_field_11 (lv_at hl 0 rfl) ?_
  refine lv_iconst (v := (-1)) hx hb zd_X_field_13 (by decide) ?_
  refine lv_icmp_eq (tgt := 24) hx hb zd_X_field_14 (by decide) (fun c_14 => ?_) (fun c_14 => ?_)
  · rw [(show zf_X_field st p1 p2 p3 = (1, 0, st) from by rw [zf_X_field, if_pos c_14])]
    exact zt_throw (names := ["java/lang/RuntimeException", "java/lang/Exception"]) hf0 hadm hx hb (hml.trans hl.1.symm) hlocks hexc hown (htB _ zk_c1982f07) (htB _ zk_04fc2812) (htB _ zk_9ce9d120) (hE.2.1 _ (List.mem_of_getElem? (i := 1) rfl)) (by decide +kernel) (by decide +kernel) (za_1 htB hE hZ) hK hP hD hA (Nat.le_of_ble_eq_true rfl) (Nat.le_of_ble_eq_true rfl) (Nat.le_of_ble_eq_true rfl) (Nat.le_of_ble_eq_true rfl) zd_X_field_24 zd_X_field_27 zd_X_field_28 zd_X_field_30 zd_X_field_33 (fun oc t x ce h1 h2 h3 h4 h5 h6 h7 => ⟨Or.inr ⟨(show (1 : Nat) ≠ 0 by decide), x, ce, h1, h2, h3, h4, h5⟩, h6, h7⟩)
  · refine lv_lload_n hx hb zd_X_field_17 rfl (lv_at hl 4 rfl) ?_
    refine zz_ki (va_runS (As := [.long p3]) (rest := []) ⟨hx, hb, hml, hown, htB⟩ (zc_X_isValue l dC dI cI cZ cL  s.heap.size  p3 ) (va_cwS 1 htB (zz_gS zk_a4e11230 zk_aa84806c zk_cfe38e2e zk_39170c80) rfl rfl rfl zh_X_isValue ⟨Nat.le_of_ble_eq_true rfl, Nat.le_of_ble_eq_true rfl⟩) (zz_preS hP hD hK hE [] (by decide) rfl) rfl rfl hl.1 rfl (lv_room (Nat.le_of_ble_eq_true rfl)) zd_X_field_18 ⟨Nat.le_of_ble_eq_true rfl, Nat.le_of_ble_eq_true rfl⟩) ?_
    refine lv_if_ne (tgt := 34) hx hb zd_X_field_21 (by decide) (fun c_21 => ?_) (fun c_21 => ?_)
    · refine lv_aload_n hx hb zd_X_field_34 rfl (lv_at hl 1 rfl) ?_
      refine va_get (D := (dC, dI)) (ci := 0) (v := .int st.2.2.2.2.2.2) (C := zr_X) (T := zF_X) (N := 7) hx hb htB zi_X hown hK hP 0 rfl rfl 6 (by decide) (htB _ zk_a72d337f) (fun _ h9 => h9) rfl zd_X_field_35 ?_
      refine lv_if_ne (tgt := 53) hx hb zd_X_field_38 (by decide) (fun c_38 => ?_) (fun c_38 => ?_)
      · refine lv_iconst (v := 0) hx hb zd_X_field_53 (by decide) ?_
        rw [(show zf_X_field st p1 p2 p3 = (0, 0, st) from by rw [zf_X_field, if_neg c_14, if_neg c_21, if_neg c_38])]
        refine W.widen (k := 1) (n := 6) (by decide) (by decide) ?_
        exact zt_iret hx hb hr hlocks hK hP hD hS zd_X_field_54 rfl rfl
      · refine lv_aload_n hx hb zd_X_field_41 rfl (lv_at hl 1 rfl) ?_
        refine va_get (D := (dC, dI)) (ci := 0) (v := .int st.1) (C := zr_X) (T := zF_X) (N := 7) hx hb htB zi_X hown hK hP 0 rfl rfl 0 (by decide) (htB _ zk_26e1908c) (fun _ h9 => h9) rfl zd_X_field_42 ?_
        refine lv_iload_n hx hb zd_X_field_45 rfl (lv_at hl 2 rfl) ?_
        refine zz_ki (va_runS (As := [.int st.1, .int p1]) (rest := []) ⟨hx, hb, hml, hown, htB⟩ (zc_X_needBy l dC dI cI cZ cL  s.heap.size  st.1 p1 ) (va_cwS 2 htB (zz_gS zk_36bd0bf1 zk_e14187d6 zk_cfe38e2e zk_dd814726) rfl rfl rfl zh_X_needBy ⟨Nat.le_of_ble_eq_true rfl, Nat.le_of_ble_eq_true rfl⟩) (zz_preS hP hD hK hE [] (by decide) rfl) rfl rfl hl.1 rfl (lv_room (Nat.le_of_ble_eq_true rfl)) zd_X_field_46 ⟨Nat.le_of_ble_eq_true rfl, Nat.le_of_ble_eq_true rfl⟩) ?_
        refine lv_iconst (v := 3) hx hb zd_X_field_49 (by decide) ?_
        refine lv_icmp_ne (tgt := 55) hx hb zd_X_field_50 (by decide) (fun c_50 => ?_) (fun c_50 => ?_)
        · refine lv_aload_n hx hb zd_X_field_55 rfl (lv_at hl 1 rfl) ?_
          refine va_get (D := (dC, dI)) (ci := 0) (v := .ref a1) (C := zr_X) (T := zF_X) (N := 7) hx hb htB zi_X hown hK hP 0 rfl rfl 1 (by decide) (htB _ zk_ac6f5f75) (fun _ h9 => h9) rfl zd_X_field_56 ?_
          refine lv_iload hx hb zd_X_field_59 (lv_at hl 0 rfl) ?_
          refine lv_lload_n hx hb zd_X_field_61 rfl (lv_at hl 4 rfl) ?_
          refine lv_l2i hx hb zd_X_field_62 rfl ?_
          refine zz_cv (va_runV (As := [.int (zf_S_slotOf st.2.1 p1 p2), .int p3.toInt32]) (rest := []) ⟨hx, hb, hml, hown, htB⟩ (zc_S_put l dC dI cI cZ cL a1 a2 a3 s.heap.size st.2.1 (zf_S_slotOf st.2.1 p1 p2) p3.toInt32 ) (cwV 2 htB (zz_gV zk_f54cd352 zk_7151ae50 zk_2e2e7b1b zk_f1a23aa7 zk_29ef983f) rfl rfl rfl ⟨rfl, zh_S_put⟩ ⟨Nat.le_of_ble_eq_true rfl, Nat.le_of_ble_eq_true rfl⟩) (zz_preV (ci := 1) (q := (zr_S, zF_S, 5)) hP hD hK hE [1, 2, 3] (by decide) rfl rfl rfl) rfl rfl hl.1 rfl (lv_room (Nat.le_of_ble_eq_true rfl)) zd_X_field_63 ⟨Nat.le_of_ble_eq_true rfl, Nat.le_of_ble_eq_true rfl⟩) hP hD hS hA [1, 2, 3] [0, 4, 5, 6, 7, 8, 9, 10, 11] [0, 9, 10, 11, 1, 2, 3, 4, 5, 6, 7, 8] rfl rfl (by decide) (by decide) (by decide) rfl (fun H locs hP hD hS => ?_)
          have hP : va_P (dC, dI) zz_cl (zw_X cI cZ cL a0 a1 a2 a3 a4 a5 a6 a7 a8 a9 a10 a11 (st.1, (zf_S_put st.2.1 (zf_S_slotOf st.2.1 p1 p2) p3.toInt32), st.2.2.1, st.2.2.2.1, st.2.2.2.2.1, st.2.2.2.2.2.1, st.2.2.2.2.2.2)) H := hP
          have hD : va_D A (zw_X cI cZ cL a0 a1 a2 a3 a4 a5 a6 a7 a8 a9 a10 a11 (st.1, (zf_S_put st.2.1 (zf_S_slotOf st.2.1 p1 p2) p3.toInt32), st.2.2.1, st.2.2.2.1, st.2.2.2.2.1, st.2.2.2.2.2.1, st.2.2.2.2.2.2)) := hD
          refine lv_iconst (v := 1) hx hb zd_X_field_66 (by decide) ?_
          rw [(show zf_X_field st p1 p2 p3 = (0, 1, (st.1, (zf_S_put st.2.1 (zf_S_slotOf st.2.1 p1 p2) p3.toInt32), st.2.2.1, st.2.2.2.1, st.2.2.2.2.1, st.2.2.2.2.2.1, st.2.2.2.2.2.2)) from by rw [zf_X_field, if_neg c_14, if_neg c_21, if_pos c_38, if_neg c_50])]
          refine W.widen (k := 1) (n := 6) (by decide) (by decide) ?_
          exact zt_iret hx hb hr hlocks hK hP hD hS zd_X_field_67 rfl rfl
        · refine lv_iconst (v := 0) hx hb zd_X_field_53 (by decide) ?_
          rw [(show zf_X_field st p1 p2 p3 = (0, 0, st) from by rw [zf_X_field, if_neg c_14, if_neg c_21, if_pos c_38, if_pos c_50])]
          refine W.widen (k := 1) (n := 6) (by decide) (by decide) ?_
          exact zt_iret hx hb hr hlocks hK hP hD hS zd_X_field_54 rfl rfl
    · rw [(show zf_X_field st p1 p2 p3 = (1, 0, st) from by rw [zf_X_field, if_neg c_14, if_pos c_21])]
      exact zt_throw (names := ["java/lang/RuntimeException", "java/lang/Exception"]) hf0 hadm hx hb (hml.trans hl.1.symm) hlocks hexc hown (htB _ zk_c1982f07) (htB _ zk_04fc2812) (htB _ zk_9ce9d120) (hE.2.1 _ (List.mem_of_getElem? (i := 1) rfl)) (by decide +kernel) (by decide +kernel) (za_1 htB hE hZ) hK hP hD hA (Nat.le_of_ble_eq_true rfl) (Nat.le_of_ble_eq_true rfl) (Nat.le_of_ble_eq_true rfl) (Nat.le_of_ble_eq_true rfl) zd_X_field_24 zd_X_field_27 zd_X_field_28 zd_X_field_30 zd_X_field_33 (fun oc t x ce h1 h2 h3 h4 h5 h6 h7 => ⟨Or.inr ⟨(show (1 : Nat) ≠ 0 by decide), x, ce, h1, h2, h3, h4, h5⟩, h6, h7⟩)
set_option maxHeartbeats 4000000 in
set_option maxRecDepth 100000 in
theorem zc_X_value (l : Launch) (dC : Nat → ClassId) (dI : Nat → Nat → Nat) (cI cZ cL : ClassId) (a0 a1 a2 a3 a4 a5 a6 a7 a8 a9 a10 a11 : Nat) (sz : Nat) (st : zu_X) (p1 : Int32) (p2 : Int32)  (hf0 : l.flags = pinnedFlags ++ [noTraceFlag]) : zt_Met l zy_X_value (zz_ws zy_X_value zb_X_value 4 (some .long)) ({ frames := 6, cells := 1, slots := 6, locals := 83 } : Room) (va_Pc ([.ref a0, .int p1, .int p2] : List Value) (zt_P (dC, dI) (zz_ty cI cZ cL) sz (zw_X cI cZ cL a0 a1 a2 a3 a4 a5 a6 a7 a8 a9 a10 a11 st))) (zt_Ql (dC, dI) (zz_ty cI cZ cL) (va_A (zw_X cI cZ cL a0 a1 a2 a3 a4 a5 a6 a7 a8 a9 a10 a11 st) sz) (fun _ => "java/lang/IllegalArgumentException") (zf_X_value st p1 p2).1 ((zf_X_value st p1 p2).2) (zw_X cI cZ cL a0 a1 a2 a3 a4 a5 a6 a7 a8 a9 a10 a11 st)) 1 6 (va_A (zw_X cI cZ cL a0 a1 a2 a3 a4 a5 a6 a7 a8 a9 a10 a11 st) sz) := by
  refine zt_ofW (Q := fun A => (zt_Ql (dC, dI) (zz_ty cI cZ cL) A (fun _ => "java/lang/IllegalArgumentException") (zf_X_value st p1 p2).1 ((zf_X_value st p1 p2).2) (zw_X cI cZ cL a0 a1 a2 a3 a4 a5 a6 a7 a8 a9 a10 a11 st))) (by decide) (Nat.le_of_ble_eq_true rfl) ?_
  intro p e s m below meth c A C0 hexc hadm hA hK hP hD hZ ls hl
  obtain ⟨hx, hb, hr, hml, hown, htB, hlocks, hE⟩ := id C0
  have hS : va_S A s.heap s.heap [] := va_S.rf
  have hl : lv_has ls 4 [(0, .ref a0), (1, .int p1), (2, .int p2)] := hl
  refine lv_aload_n hx hb zd_X_value_0 rfl (lv_at hl 0 rfl) ?_
  refine va_get (D := (dC, dI)) (ci := 0) (v := .ref a1) (C := zr_X) (T := zF_X) (N := 7) hx hb htB zi_X hown hK hP 0 rfl rfl 1 (by decide) (htB _ zk_ac6f5f75) (fun _ h9 => h9) rfl zd_X_value_1 ?_
  refine lv_iload_n hx hb zd_X_value_4 rfl (lv_at hl 1 rfl) ?_
  refine lv_iload_n hx hb zd_X_value_5 rfl (lv_at hl 2 rfl) ?_
  refine zz_ki (va_runV (As := [.int p1, .int p2]) (rest := []) ⟨hx, hb, hml, hown, htB⟩ (zc_S_slotOf l dC dI cI cZ cL a1 a2 a3 s.heap.size st.2.1 p1 p2 ) (cwV 2 htB (zz_gV zk_3749943e zk_13757a2f zk_9f779419 zk_f1a23aa7 zk_e4817253) rfl rfl rfl ⟨rfl, zh_S_slotOf⟩ ⟨Nat.le_of_ble_eq_true rfl, Nat.le_of_ble_eq_true rfl⟩) (zz_preV (ci := 1) (q := (zr_S, zF_S, 5)) hP hD hK hE [1, 2, 3] (by decide) rfl rfl rfl) rfl rfl hl.1 rfl (lv_room (Nat.le_of_ble_eq_true rfl)) zd_X_value_6 ⟨Nat.le_of_ble_eq_true rfl, Nat.le_of_ble_eq_true rfl⟩) ?_
  refine lv_istore_n (lv' := [(3, .int (zf_S_slotOf st.2.1 p1 p2)), (0, .ref a0), (1, .int p1), (2, .int p2)]) hx hb zd_X_value_9 rfl hl (by decide) rfl (fun ls hl => ?_)
  refine lv_iload_n hx hb zd_X_value_10 rfl (lv_at hl 0 rfl) ?_
  refine lv_iconst (v := (-1)) hx hb zd_X_value_11 (by decide) ?_
  refine lv_icmp_ne (tgt := 25) hx hb zd_X_value_12 (by decide) (fun c_12 => ?_) (fun c_12 => ?_)
  · refine lv_aload_n hx hb zd_X_value_25 rfl (lv_at hl 1 rfl) ?_
    refine va_get (D := (dC, dI)) (ci := 0) (v := .ref a1) (C := zr_X) (T := zF_X) (N := 7) hx hb htB zi_X hown hK hP 0 rfl rfl 1 (by decide) (htB _ zk_ac6f5f75) (fun _ h9 => h9) rfl zd_X_value_26 ?_
    refine lv_iload_n hx hb zd_X_value_29 rfl (lv_at hl 0 rfl) ?_
    refine zz_ki (va_runV (As := [.int (zf_S_slotOf st.2.1 p1 p2)]) (rest := []) ⟨hx, hb, hml, hown, htB⟩ (zc_S_valueAt l dC dI cI cZ cL a1 a2 a3 s.heap.size st.2.1 (zf_S_slotOf st.2.1 p1 p2) ) (cwV 1 htB (zz_gV zk_79454776 zk_1fa0ab90 zk_4c70df44 zk_f1a23aa7 zk_fdbb5e96) rfl rfl rfl ⟨rfl, zh_S_valueAt⟩ ⟨Nat.le_of_ble_eq_true rfl, Nat.le_of_ble_eq_true rfl⟩) (zz_preV (ci := 1) (q := (zr_S, zF_S, 5)) hP hD hK hE [1, 2, 3] (by decide) rfl rfl rfl) rfl rfl hl.1 rfl (lv_room (Nat.le_of_ble_eq_true rfl)) zd_X_value_30 ⟨Nat.le_of_ble_eq_true rfl, Nat.le_of_ble_eq_true rfl⟩) ?_
    refine lv_i2l hx hb zd_X_value_33 rfl ?_
    rw [(show zf_X_value st p1 p2 = (0, (zf_S_valueAt st.2.1 (zf_S_slotOf st.2.1 p1 p2)).toInt64) from by rw [zf_X_value, if_neg c_12])]
    refine W.widen (k := 1) (n := 6) (by decide) (by decide) ?_
    exact zt_lret hx hb hr hlocks hK hP hD hS zd_X_value_34 rfl rfl
  · rw [(show zf_X_value st p1 p2 = (1, 0) from by rw [zf_X_value, if_pos c_12])]
    exact zt_throw (names := ["java/lang/RuntimeException", "java/lang/Exception"]) hf0 hadm hx hb (hml.trans hl.1.symm) hlocks hexc hown (htB _ zk_c1982f07) (htB _ zk_04fc2812) (htB _ zk_9ce9d120) (hE.2.1 _ (List.mem_of_getElem? (i := 2) rfl)) (by decide +kernel) (by decide +kernel) (za_1 htB hE hZ) hK hP hD hA (Nat.le_of_ble_eq_true rfl) (Nat.le_of_ble_eq_true rfl) (Nat.le_of_ble_eq_true rfl) (Nat.le_of_ble_eq_true rfl) zd_X_value_15 zd_X_value_18 zd_X_value_19 zd_X_value_21 zd_X_value_24 (fun oc t x ce h1 h2 h3 h4 h5 h6 h7 => ⟨Or.inr ⟨(show (1 : Nat) ≠ 0 by decide), x, ce, h1, h2, h3, h4, h5⟩, h6, h7⟩)
set_option maxHeartbeats 4000000 in
set_option maxRecDepth 100000 in
theorem zc_X_need (l : Launch) (dC : Nat → ClassId) (dI : Nat → Nat → Nat) (cI cZ cL : ClassId) (a0 a1 a2 a3 a4 a5 a6 a7 a8 a9 a10 a11 : Nat) (sz : Nat) (st : zu_X) (p1 : Int32)  (hf0 : l.flags = pinnedFlags ++ [noTraceFlag]) : zt_Met l zy_X_need (zz_ws zy_X_need zb_X_need 2 (some .int)) ({ frames := 6, cells := 1, slots := 6, locals := 83 } : Room) (va_Pc ([.ref a0, .int p1] : List Value) (zt_P (dC, dI) (zz_ty cI cZ cL) sz (zw_X cI cZ cL a0 a1 a2 a3 a4 a5 a6 a7 a8 a9 a10 a11 st))) (zt_Qi (dC, dI) (zz_ty cI cZ cL) (va_A (zw_X cI cZ cL a0 a1 a2 a3 a4 a5 a6 a7 a8 a9 a10 a11 st) sz) (fun _ => "java/lang/IllegalArgumentException") (zf_X_need st p1).1 ((zf_X_need st p1).2) (zw_X cI cZ cL a0 a1 a2 a3 a4 a5 a6 a7 a8 a9 a10 a11 st)) 1 6 (va_A (zw_X cI cZ cL a0 a1 a2 a3 a4 a5 a6 a7 a8 a9 a10 a11 st) sz) := by
  refine zt_ofW (Q := fun A => (zt_Qi (dC, dI) (zz_ty cI cZ cL) A (fun _ => "java/lang/IllegalArgumentException") (zf_X_need st p1).1 ((zf_X_need st p1).2) (zw_X cI cZ cL a0 a1 a2 a3 a4 a5 a6 a7 a8 a9 a10 a11 st))) (by decide) (Nat.le_of_ble_eq_true rfl) ?_
  intro p e s m below meth c A C0 hexc hadm hA hK hP hD hZ ls hl
  obtain ⟨hx, hb, hr, hml, hown, htB, hlocks, hE⟩ := id C0
  have hS : va_S A s.heap s.heap [] := va_S.rf
  have hl : lv_has ls 2 [(0, .ref a0), (1, .int p1)] := hl
  refine lv_iload_n hx hb zd_X_need_0 rfl (lv_at hl 1 rfl) ?_
  refine lv_if_lt (tgt := 10) hx hb zd_X_need_1 (by decide) (fun c_1 => ?_) (fun c_1 => ?_)
  · rw [(show zf_X_need st p1 = (1, 0) from by rw [zf_X_need, if_pos c_1])]
    exact zt_throw (names := ["java/lang/RuntimeException", "java/lang/Exception"]) hf0 hadm hx hb (hml.trans hl.1.symm) hlocks hexc hown (htB _ zk_c1982f07) (htB _ zk_04fc2812) (htB _ zk_9ce9d120) (hE.2.1 _ (List.mem_of_getElem? (i := 3) rfl)) (by decide +kernel) (by decide +kernel) (za_1 htB hE hZ) hK hP hD hA (Nat.le_of_ble_eq_true rfl) (Nat.le_of_ble_eq_true rfl) (Nat.le_of_ble_eq_true rfl) (Nat.le_of_ble_eq_true rfl) zd_X_need_10 zd_X_need_13 zd_X_need_14 zd_X_need_16 zd_X_need_19 (fun oc t x ce h1 h2 h3 h4 h5 h6 h7 => ⟨Or.inr ⟨(show (1 : Nat) ≠ 0 by decide), x, ce, h1, h2, h3, h4, h5⟩, h6, h7⟩)
  · refine lv_iload_n hx hb zd_X_need_4 rfl (lv_at hl 1 rfl) ?_
    refine lv_bipush (v := 19) hx hb zd_X_need_5 (by decide) ?_
    refine lv_icmp_le (tgt := 20) hx hb zd_X_need_7 (by decide) (fun c_7 => ?_) (fun c_7 => ?_)
    · refine lv_aload_n hx hb zd_X_need_20 rfl (lv_at hl 0 rfl) ?_
      refine va_get (D := (dC, dI)) (ci := 0) (v := .int st.1) (C := zr_X) (T := zF_X) (N := 7) hx hb htB zi_X hown hK hP 0 rfl rfl 0 (by decide) (htB _ zk_26e1908c) (fun _ h9 => h9) rfl zd_X_need_21 ?_
      refine lv_iload_n hx hb zd_X_need_24 rfl (lv_at hl 1 rfl) ?_
      refine zz_ki (va_runS (As := [.int st.1, .int p1]) (rest := []) ⟨hx, hb, hml, hown, htB⟩ (zc_X_needBy l dC dI cI cZ cL  s.heap.size  st.1 p1 ) (va_cwS 2 htB (zz_gS zk_36bd0bf1 zk_e14187d6 zk_cfe38e2e zk_dd814726) rfl rfl rfl zh_X_needBy ⟨Nat.le_of_ble_eq_true rfl, Nat.le_of_ble_eq_true rfl⟩) (zz_preS hP hD hK hE [] (by decide) rfl) rfl rfl hl.1 rfl (lv_room (Nat.le_of_ble_eq_true rfl)) zd_X_need_25 ⟨Nat.le_of_ble_eq_true rfl, Nat.le_of_ble_eq_true rfl⟩) ?_
      rw [(show zf_X_need st p1 = (0, (zf_X_needBy st.1 p1)) from by rw [zf_X_need, if_neg c_1, if_pos c_7])]
      refine W.widen (k := 1) (n := 6) (by decide) (by decide) ?_
      exact zt_iret hx hb hr hlocks hK hP hD hS zd_X_need_28 rfl rfl
    · rw [(show zf_X_need st p1 = (1, 0) from by rw [zf_X_need, if_neg c_1, if_neg c_7])]
      exact zt_throw (names := ["java/lang/RuntimeException", "java/lang/Exception"]) hf0 hadm hx hb (hml.trans hl.1.symm) hlocks hexc hown (htB _ zk_c1982f07) (htB _ zk_04fc2812) (htB _ zk_9ce9d120) (hE.2.1 _ (List.mem_of_getElem? (i := 3) rfl)) (by decide +kernel) (by decide +kernel) (za_1 htB hE hZ) hK hP hD hA (Nat.le_of_ble_eq_true rfl) (Nat.le_of_ble_eq_true rfl) (Nat.le_of_ble_eq_true rfl) (Nat.le_of_ble_eq_true rfl) zd_X_need_10 zd_X_need_13 zd_X_need_14 zd_X_need_16 zd_X_need_19 (fun oc t x ce h1 h2 h3 h4 h5 h6 h7 => ⟨Or.inr ⟨(show (1 : Nat) ≠ 0 by decide), x, ce, h1, h2, h3, h4, h5⟩, h6, h7⟩)
set_option maxHeartbeats 4000000 in
set_option maxRecDepth 100000 in
theorem zc_X_amend (l : Launch) (dC : Nat → ClassId) (dI : Nat → Nat → Nat) (cI cZ cL : ClassId) (a0 a1 a2 a3 a4 a5 a6 a7 a8 a9 a10 a11 : Nat) (sz : Nat) (st : zu_X) (p1 : Int32) (p2 : Int32) (p3 : Int64) (hc : st.2.2.1.2.2 ≤ 20) (hf0 : l.flags = pinnedFlags ++ [noTraceFlag]) : zt_Met l zy_X_amend (zz_ws zy_X_amend zb_X_amend 7 (some .int)) ({ frames := 6, cells := 1, slots := 6, locals := 112 } : Room) (va_Pc ([.ref a0, .int p1, .int p2, .long p3] : List Value) (zt_P (dC, dI) (zz_ty cI cZ cL) sz (zw_X cI cZ cL a0 a1 a2 a3 a4 a5 a6 a7 a8 a9 a10 a11 st))) (zt_Qi (dC, dI) (zz_ty cI cZ cL) (va_A (zw_X cI cZ cL a0 a1 a2 a3 a4 a5 a6 a7 a8 a9 a10 a11 st) sz) (fun k => if k = 1 then "java/lang/IllegalArgumentException" else "java/lang/IllegalStateException") (zf_X_amend st p1 p2 p3).1 ((zf_X_amend st p1 p2 p3).2.1) (zw_X cI cZ cL a0 a1 a2 a3 a4 a5 a6 a7 a8 a9 a10 a11 ((zf_X_amend st p1 p2 p3).2.2))) 1 6 (va_A (zw_X cI cZ cL a0 a1 a2 a3 a4 a5 a6 a7 a8 a9 a10 a11 st) sz) := by
  refine zt_ofW (Q := fun A => (zt_Qi (dC, dI) (zz_ty cI cZ cL) A (fun k => if k = 1 then "java/lang/IllegalArgumentException" else "java/lang/IllegalStateException") (zf_X_amend st p1 p2 p3).1 ((zf_X_amend st p1 p2 p3).2.1) (zw_X cI cZ cL a0 a1 a2 a3 a4 a5 a6 a7 a8 a9 a10 a11 ((zf_X_amend st p1 p2 p3).2.2)))) (by decide) (Nat.le_of_ble_eq_true rfl) ?_
  intro p e s m below meth c A C0 hexc hadm hA hK hP hD hZ ls hl
  obtain ⟨hx, hb, hr, hml, hown, htB, hlocks, hE⟩ := id C0
  have hS : va_S A s.heap s.heap [] := va_S.rf
  have hl : lv_has ls 7 [(0, .ref a0), (1, .int p1), (2, .int p2), (3, .long p3)] := hl
  refine lv_aload_n hx hb zd_X_amend_0 rfl (lv_at hl 0 rfl) ?_
  refine va_get (D := (dC, dI)) (ci := 0) (v := .ref a1) (C := zr_X) (T := zF_X) (N := 7) hx hb htB zi_X hown hK hP 0 rfl rfl 1 (by decide) (htB _ zk_ac6f5f75) (fun _ h9 => h9) rfl zd_X_amend_1 ?_
  refine lv_iload_n hx hb zd_X_amend_4 rfl (lv_at hl 1 rfl) ?_
  refine lv_iload_n hx hb zd_X_amend_5 rfl (lv_at hl 2 rfl) ?_
  refine zz_ki (va_runV (As := [.int p1, .int p2]) (rest := []) ⟨hx, hb, hml, hown, htB⟩ (zc_S_slotOf l dC dI cI cZ cL a1 a2 a3 s.heap.size st.2.1 p1 p2 ) (cwV 2 htB (zz_gV zk_3749943e zk_13757a2f zk_9f779419 zk_f1a23aa7 zk_e4817253) rfl rfl rfl ⟨rfl, zh_S_slotOf⟩ ⟨Nat.le_of_ble_eq_true rfl, Nat.le_of_ble_eq_true rfl⟩) (zz_preV (ci := 1) (q := (zr_S, zF_S, 5)) hP hD hK hE [1, 2, 3] (by decide) rfl rfl rfl) rfl rfl hl.1 rfl (lv_room (Nat.le_of_ble_eq_true rfl)) zd_X_amend_6 ⟨Nat.le_of_ble_eq_true rfl, Nat.le_of_ble_eq_true rfl⟩) ?_
  refine lv_istore (lv' := [(5, .int (zf_S_slotOf st.2.1 p1 p2)), (0, .ref a0), (1, .int p1), (2, .int p2), (3, .long p3)]) hx hb zd_X_amend_9 hl (by decide) rfl (fun ls hl => ?_)
  refine lv_iload hx hb zd_X_amend_11 (lv_at hl 0 rfl) ?_
  refine lv_iconst (v := (-1)) hx hb zd_X_amend_13 (by decide) ?_
  refine lv_icmp_eq (tgt := 24) hx hb zd_X_amend_14 (by decide) (fun c_14 => ?_) (fun c_14 => ?_)
  · rw [(show zf_X_amend st p1 p2 p3 = (1, 0, st) from by rw [zf_X_amend, if_pos c_14])]
    exact zt_throw (names := ["java/lang/RuntimeException", "java/lang/Exception"]) hf0 hadm hx hb (hml.trans hl.1.symm) hlocks hexc hown (htB _ zk_c1982f07) (htB _ zk_04fc2812) (htB _ zk_9ce9d120) (hE.2.1 _ (List.mem_of_getElem? (i := 1) rfl)) (by decide +kernel) (by decide +kernel) (za_1 htB hE hZ) hK hP hD hA (Nat.le_of_ble_eq_true rfl) (Nat.le_of_ble_eq_true rfl) (Nat.le_of_ble_eq_true rfl) (Nat.le_of_ble_eq_true rfl) zd_X_amend_24 zd_X_amend_27 zd_X_amend_28 zd_X_amend_30 zd_X_amend_33 (fun oc t x ce h1 h2 h3 h4 h5 h6 h7 => ⟨Or.inr ⟨(show (1 : Nat) ≠ 0 by decide), x, ce, h1, h2, h3, h4, h5⟩, h6, h7⟩)
  · refine lv_lload_n hx hb zd_X_amend_17 rfl (lv_at hl 4 rfl) ?_
    refine zz_ki (va_runS (As := [.long p3]) (rest := []) ⟨hx, hb, hml, hown, htB⟩ (zc_X_isValue l dC dI cI cZ cL  s.heap.size  p3 ) (va_cwS 1 htB (zz_gS zk_a4e11230 zk_aa84806c zk_cfe38e2e zk_39170c80) rfl rfl rfl zh_X_isValue ⟨Nat.le_of_ble_eq_true rfl, Nat.le_of_ble_eq_true rfl⟩) (zz_preS hP hD hK hE [] (by decide) rfl) rfl rfl hl.1 rfl (lv_room (Nat.le_of_ble_eq_true rfl)) zd_X_amend_18 ⟨Nat.le_of_ble_eq_true rfl, Nat.le_of_ble_eq_true rfl⟩) ?_
    refine lv_if_ne (tgt := 34) hx hb zd_X_amend_21 (by decide) (fun c_21 => ?_) (fun c_21 => ?_)
    · refine lv_aload_n hx hb zd_X_amend_34 rfl (lv_at hl 1 rfl) ?_
      refine va_get (D := (dC, dI)) (ci := 0) (v := .int st.2.2.2.2.2.2) (C := zr_X) (T := zF_X) (N := 7) hx hb htB zi_X hown hK hP 0 rfl rfl 6 (by decide) (htB _ zk_a72d337f) (fun _ h9 => h9) rfl zd_X_amend_35 ?_
      refine lv_if_ne (tgt := 51) hx hb zd_X_amend_38 (by decide) (fun c_38 => ?_) (fun c_38 => ?_)
      · refine lv_iload_n hx hb zd_X_amend_51 rfl (lv_at hl 2 rfl) ?_
        refine lv_iconst (v := 3) hx hb zd_X_amend_52 (by decide) ?_
        refine lv_irem hx hb zd_X_amend_53 (by decide) ?_
        refine lv_if_eq (tgt := 69) hx hb zd_X_amend_54 (by decide) (fun c_54 => ?_) (fun c_54 => ?_)
        · refine lv_iconst (v := 0) hx hb zd_X_amend_69 (by decide) ?_
          rw [(show zf_X_amend st p1 p2 p3 = (0, 0, st) from by rw [zf_X_amend, if_neg c_14, if_neg c_21, if_neg c_38, if_pos c_54])]
          refine W.widen (k := 1) (n := 6) (by decide) (by decide) ?_
          exact zt_iret hx hb hr hlocks hK hP hD hS zd_X_amend_70 rfl rfl
        · refine lv_aload_n hx hb zd_X_amend_57 rfl (lv_at hl 1 rfl) ?_
          refine va_get (D := (dC, dI)) (ci := 0) (v := .int st.1) (C := zr_X) (T := zF_X) (N := 7) hx hb htB zi_X hown hK hP 0 rfl rfl 0 (by decide) (htB _ zk_26e1908c) (fun _ h9 => h9) rfl zd_X_amend_58 ?_
          refine lv_iload_n hx hb zd_X_amend_61 rfl (lv_at hl 2 rfl) ?_
          refine zz_ki (va_runS (As := [.int st.1, .int p1]) (rest := []) ⟨hx, hb, hml, hown, htB⟩ (zc_X_needBy l dC dI cI cZ cL  s.heap.size  st.1 p1 ) (va_cwS 2 htB (zz_gS zk_36bd0bf1 zk_e14187d6 zk_cfe38e2e zk_dd814726) rfl rfl rfl zh_X_needBy ⟨Nat.le_of_ble_eq_true rfl, Nat.le_of_ble_eq_true rfl⟩) (zz_preS hP hD hK hE [] (by decide) rfl) rfl rfl hl.1 rfl (lv_room (Nat.le_of_ble_eq_true rfl)) zd_X_amend_62 ⟨Nat.le_of_ble_eq_true rfl, Nat.le_of_ble_eq_true rfl⟩) ?_
          refine lv_iconst (v := 3) hx hb zd_X_amend_65 (by decide) ?_
          refine lv_icmp_ne (tgt := 71) hx hb zd_X_amend_66 (by decide) (fun c_66 => ?_) (fun c_66 => ?_)
          · refine lv_aload_n hx hb zd_X_amend_71 rfl (lv_at hl 1 rfl) ?_
            refine va_get (D := (dC, dI)) (ci := 0) (v := .ref a1) (C := zr_X) (T := zF_X) (N := 7) hx hb htB zi_X hown hK hP 0 rfl rfl 1 (by decide) (htB _ zk_ac6f5f75) (fun _ h9 => h9) rfl zd_X_amend_72 ?_
            refine lv_iload hx hb zd_X_amend_75 (lv_at hl 0 rfl) ?_
            refine zz_ki (va_runV (As := [.int (zf_S_slotOf st.2.1 p1 p2)]) (rest := []) ⟨hx, hb, hml, hown, htB⟩ (zc_S_valueAt l dC dI cI cZ cL a1 a2 a3 s.heap.size st.2.1 (zf_S_slotOf st.2.1 p1 p2) ) (cwV 1 htB (zz_gV zk_79454776 zk_1fa0ab90 zk_4c70df44 zk_f1a23aa7 zk_fdbb5e96) rfl rfl rfl ⟨rfl, zh_S_valueAt⟩ ⟨Nat.le_of_ble_eq_true rfl, Nat.le_of_ble_eq_true rfl⟩) (zz_preV (ci := 1) (q := (zr_S, zF_S, 5)) hP hD hK hE [1, 2, 3] (by decide) rfl rfl rfl) rfl rfl hl.1 rfl (lv_room (Nat.le_of_ble_eq_true rfl)) zd_X_amend_77 ⟨Nat.le_of_ble_eq_true rfl, Nat.le_of_ble_eq_true rfl⟩) ?_
            refine lv_istore (lv' := [(6, .int (zf_S_valueAt st.2.1 (zf_S_slotOf st.2.1 p1 p2))), (5, .int (zf_S_slotOf st.2.1 p1 p2)), (0, .ref a0), (1, .int p1), (2, .int p2), (3, .long p3)]) hx hb zd_X_amend_80 hl (by decide) rfl (fun ls hl => ?_)
            refine lv_aload_n hx hb zd_X_amend_82 rfl (lv_at hl 2 rfl) ?_
            refine va_get (D := (dC, dI)) (ci := 0) (v := .ref a1) (C := zr_X) (T := zF_X) (N := 7) hx hb htB zi_X hown hK hP 0 rfl rfl 1 (by decide) (htB _ zk_ac6f5f75) (fun _ h9 => h9) rfl zd_X_amend_83 ?_
            refine lv_iload hx hb zd_X_amend_86 (lv_at hl 1 rfl) ?_
            refine lv_lload_n hx hb zd_X_amend_88 rfl (lv_at hl 5 rfl) ?_
            refine lv_l2i hx hb zd_X_amend_89 rfl ?_
            refine zz_cv (va_runV (As := [.int (zf_S_slotOf st.2.1 p1 p2), .int p3.toInt32]) (rest := []) ⟨hx, hb, hml, hown, htB⟩ (zc_S_put l dC dI cI cZ cL a1 a2 a3 s.heap.size st.2.1 (zf_S_slotOf st.2.1 p1 p2) p3.toInt32 ) (cwV 2 htB (zz_gV zk_f54cd352 zk_7151ae50 zk_2e2e7b1b zk_f1a23aa7 zk_29ef983f) rfl rfl rfl ⟨rfl, zh_S_put⟩ ⟨Nat.le_of_ble_eq_true rfl, Nat.le_of_ble_eq_true rfl⟩) (zz_preV (ci := 1) (q := (zr_S, zF_S, 5)) hP hD hK hE [1, 2, 3] (by decide) rfl rfl rfl) rfl rfl hl.1 rfl (lv_room (Nat.le_of_ble_eq_true rfl)) zd_X_amend_90 ⟨Nat.le_of_ble_eq_true rfl, Nat.le_of_ble_eq_true rfl⟩) hP hD hS hA [1, 2, 3] [0, 4, 5, 6, 7, 8, 9, 10, 11] [0, 9, 10, 11, 1, 2, 3, 4, 5, 6, 7, 8] rfl rfl (by decide) (by decide) (by decide) rfl (fun H locs hP hD hS => ?_)
            have hP : va_P (dC, dI) zz_cl (zw_X cI cZ cL a0 a1 a2 a3 a4 a5 a6 a7 a8 a9 a10 a11 (st.1, (zf_S_put st.2.1 (zf_S_slotOf st.2.1 p1 p2) p3.toInt32), st.2.2.1, st.2.2.2.1, st.2.2.2.2.1, st.2.2.2.2.2.1, st.2.2.2.2.2.2)) H := hP
            have hD : va_D A (zw_X cI cZ cL a0 a1 a2 a3 a4 a5 a6 a7 a8 a9 a10 a11 (st.1, (zf_S_put st.2.1 (zf_S_slotOf st.2.1 p1 p2) p3.toInt32), st.2.2.1, st.2.2.2.1, st.2.2.2.2.1, st.2.2.2.2.2.1, st.2.2.2.2.2.2)) := hD
            refine lv_aload_n hx hb zd_X_amend_93 rfl (lv_at hl 2 rfl) ?_
            refine zz_ki (va_runV (As := []) (rest := []) ⟨hx, hb, hml, hown, htB⟩ (zc_X_check l dC dI cI cZ cL a0 a1 a2 a3 a4 a5 a6 a7 a8 a9 a10 a11 H.size (st.1, (zf_S_put st.2.1 (zf_S_slotOf st.2.1 p1 p2) p3.toInt32), st.2.2.1, st.2.2.2.1, st.2.2.2.2.1, st.2.2.2.2.2.1, st.2.2.2.2.2.2)  hc) (cwV 0 htB (zz_gV zk_2055cd9b zk_f6b6f3c5 zk_7115eaaf zk_cfe38e2e zk_dd3f9fec) rfl rfl rfl ⟨rfl, zh_X_check⟩ ⟨Nat.le_of_ble_eq_true rfl, Nat.le_of_ble_eq_true rfl⟩) (zz_preV (ci := 0) (q := (zr_X, zF_X, 7)) hP hD hK hE [0, 1, 2, 3, 4, 5, 6, 7, 8, 9, 10, 11] (by decide) rfl rfl rfl) rfl rfl hl.1 rfl (lv_room (Nat.le_of_ble_eq_true rfl)) zd_X_amend_94 ⟨Nat.le_of_ble_eq_true rfl, Nat.le_of_ble_eq_true rfl⟩) ?_
            refine lv_if_eq (tgt := 113) hx hb zd_X_amend_97 (by decide) (fun c_97 => ?_) (fun c_97 => ?_)
            · refine lv_iconst (v := 1) hx hb zd_X_amend_113 (by decide) ?_
              rw [(show zf_X_amend st p1 p2 p3 = (0, 1, (st.1, (zf_S_put st.2.1 (zf_S_slotOf st.2.1 p1 p2) p3.toInt32), st.2.2.1, st.2.2.2.1, st.2.2.2.2.1, st.2.2.2.2.2.1, st.2.2.2.2.2.2)) from by rw [zf_X_amend, if_neg c_14, if_neg c_21, if_neg c_38, if_neg c_54, if_neg c_66, if_pos c_97])]
              refine W.widen (k := 1) (n := 6) (by decide) (by decide) ?_
              exact zt_iret hx hb hr hlocks hK hP hD hS zd_X_amend_114 rfl rfl
            · refine lv_aload_n hx hb zd_X_amend_100 rfl (lv_at hl 2 rfl) ?_
              refine va_get (D := (dC, dI)) (ci := 0) (v := .ref a1) (C := zr_X) (T := zF_X) (N := 7) hx hb htB zi_X hown hK hP 0 rfl rfl 1 (by decide) (htB _ zk_ac6f5f75) (fun _ h9 => h9) rfl zd_X_amend_101 ?_
              refine lv_iload hx hb zd_X_amend_104 (lv_at hl 1 rfl) ?_
              refine lv_iload hx hb zd_X_amend_106 (lv_at hl 0 rfl) ?_
              refine zz_cv (va_runV (As := [.int (zf_S_slotOf st.2.1 p1 p2), .int (zf_S_valueAt st.2.1 (zf_S_slotOf st.2.1 p1 p2))]) (rest := []) ⟨hx, hb, hml, hown, htB⟩ (zc_S_put l dC dI cI cZ cL a1 a2 a3 H.size (zf_S_put st.2.1 (zf_S_slotOf st.2.1 p1 p2) p3.toInt32) (zf_S_slotOf st.2.1 p1 p2) (zf_S_valueAt st.2.1 (zf_S_slotOf st.2.1 p1 p2)) ) (cwV 2 htB (zz_gV zk_f54cd352 zk_7151ae50 zk_2e2e7b1b zk_f1a23aa7 zk_29ef983f) rfl rfl rfl ⟨rfl, zh_S_put⟩ ⟨Nat.le_of_ble_eq_true rfl, Nat.le_of_ble_eq_true rfl⟩) (zz_preV (ci := 1) (q := (zr_S, zF_S, 5)) hP hD hK hE [1, 2, 3] (by decide) rfl rfl rfl) rfl rfl hl.1 rfl (lv_room (Nat.le_of_ble_eq_true rfl)) zd_X_amend_108 ⟨Nat.le_of_ble_eq_true rfl, Nat.le_of_ble_eq_true rfl⟩) hP hD hS hA [1, 2, 3] [0, 4, 5, 6, 7, 8, 9, 10, 11] [0, 9, 10, 11, 1, 2, 3, 4, 5, 6, 7, 8] rfl rfl (by decide) (by decide) (by decide) rfl (fun H locs hP hD hS => ?_)
              have hP : va_P (dC, dI) zz_cl (zw_X cI cZ cL a0 a1 a2 a3 a4 a5 a6 a7 a8 a9 a10 a11 (st.1, (zf_S_put (zf_S_put st.2.1 (zf_S_slotOf st.2.1 p1 p2) p3.toInt32) (zf_S_slotOf st.2.1 p1 p2) (zf_S_valueAt st.2.1 (zf_S_slotOf st.2.1 p1 p2))), st.2.2.1, st.2.2.2.1, st.2.2.2.2.1, st.2.2.2.2.2.1, st.2.2.2.2.2.2)) H := hP
              have hD : va_D A (zw_X cI cZ cL a0 a1 a2 a3 a4 a5 a6 a7 a8 a9 a10 a11 (st.1, (zf_S_put (zf_S_put st.2.1 (zf_S_slotOf st.2.1 p1 p2) p3.toInt32) (zf_S_slotOf st.2.1 p1 p2) (zf_S_valueAt st.2.1 (zf_S_slotOf st.2.1 p1 p2))), st.2.2.1, st.2.2.2.1, st.2.2.2.2.1, st.2.2.2.2.2.1, st.2.2.2.2.2.2)) := hD
              refine lv_iconst (v := 0) hx hb zd_X_amend_111 (by decide) ?_
              rw [(show zf_X_amend st p1 p2 p3 = (0, 0, (st.1, (zf_S_put (zf_S_put st.2.1 (zf_S_slotOf st.2.1 p1 p2) p3.toInt32) (zf_S_slotOf st.2.1 p1 p2) (zf_S_valueAt st.2.1 (zf_S_slotOf st.2.1 p1 p2))), st.2.2.1, st.2.2.2.1, st.2.2.2.2.1, st.2.2.2.2.2.1, st.2.2.2.2.2.2)) from by rw [zf_X_amend, if_neg c_14, if_neg c_21, if_neg c_38, if_neg c_54, if_neg c_66, if_neg c_97])]
              refine W.widen (k := 1) (n := 6) (by decide) (by decide) ?_
              exact zt_iret hx hb hr hlocks hK hP hD hS zd_X_amend_112 rfl rfl
          · refine lv_iconst (v := 0) hx hb zd_X_amend_69 (by decide) ?_
            rw [(show zf_X_amend st p1 p2 p3 = (0, 0, st) from by rw [zf_X_amend, if_neg c_14, if_neg c_21, if_neg c_38, if_neg c_54, if_pos c_66])]
            refine W.widen (k := 1) (n := 6) (by decide) (by decide) ?_
            exact zt_iret hx hb hr hlocks hK hP hD hS zd_X_amend_70 rfl rfl
      · rw [(show zf_X_amend st p1 p2 p3 = (2, 0, st) from by rw [zf_X_amend, if_neg c_14, if_neg c_21, if_pos c_38])]
        exact zt_throw (names := ["java/lang/RuntimeException", "java/lang/Exception"]) hf0 hadm hx hb (hml.trans hl.1.symm) hlocks hexc hown (htB _ zk_f0307824) (htB _ zk_0493ccc5) (htB _ zk_03932cc4) (hE.2.1 _ (List.mem_of_getElem? (i := 4) rfl)) (by decide +kernel) (by decide +kernel) (za_0 htB hE hZ) hK hP hD hA (Nat.le_of_ble_eq_true rfl) (Nat.le_of_ble_eq_true rfl) (Nat.le_of_ble_eq_true rfl) (Nat.le_of_ble_eq_true rfl) zd_X_amend_41 zd_X_amend_44 zd_X_amend_45 zd_X_amend_47 zd_X_amend_50 (fun oc t x ce h1 h2 h3 h4 h5 h6 h7 => ⟨Or.inr ⟨(show (2 : Nat) ≠ 0 by decide), x, ce, h1, h2, h3, h4, h5⟩, h6, h7⟩)
    · rw [(show zf_X_amend st p1 p2 p3 = (1, 0, st) from by rw [zf_X_amend, if_neg c_14, if_pos c_21])]
      exact zt_throw (names := ["java/lang/RuntimeException", "java/lang/Exception"]) hf0 hadm hx hb (hml.trans hl.1.symm) hlocks hexc hown (htB _ zk_c1982f07) (htB _ zk_04fc2812) (htB _ zk_9ce9d120) (hE.2.1 _ (List.mem_of_getElem? (i := 1) rfl)) (by decide +kernel) (by decide +kernel) (za_1 htB hE hZ) hK hP hD hA (Nat.le_of_ble_eq_true rfl) (Nat.le_of_ble_eq_true rfl) (Nat.le_of_ble_eq_true rfl) (Nat.le_of_ble_eq_true rfl) zd_X_amend_24 zd_X_amend_27 zd_X_amend_28 zd_X_amend_30 zd_X_amend_33 (fun oc t x ce h1 h2 h3 h4 h5 h6 h7 => ⟨Or.inr ⟨(show (1 : Nat) ≠ 0 by decide), x, ce, h1, h2, h3, h4, h5⟩, h6, h7⟩)
set_option maxHeartbeats 4000000 in
set_option maxRecDepth 100000 in
theorem zc_X_draw (l : Launch) (dC : Nat → ClassId) (dI : Nat → Nat → Nat) (cI cZ cL : ClassId) (a0 a1 a2 a3 a4 a5 a6 a7 a8 a9 a10 a11 : Nat) (sz : Nat) (st : zu_X) (p1 : Int32) (p2 : Int32) (p3 : Int32) (hp : st.2.2.2.1.2.2.2 ≤ 20) (hf0 : l.flags = pinnedFlags ++ [noTraceFlag]) : zt_Met l zy_X_draw (zz_ws zy_X_draw zb_X_draw 5 (some .int)) ({ frames := 6, cells := 1, slots := 6, locals := 83 } : Room) (va_Pc ([.ref a0, .int p1, .int p2, .int p3] : List Value) (zt_P (dC, dI) (zz_ty cI cZ cL) sz (zw_X cI cZ cL a0 a1 a2 a3 a4 a5 a6 a7 a8 a9 a10 a11 st))) (zt_Qi (dC, dI) (zz_ty cI cZ cL) (va_A (zw_X cI cZ cL a0 a1 a2 a3 a4 a5 a6 a7 a8 a9 a10 a11 st) sz) (fun _ => "java/lang/IllegalArgumentException") (zf_X_draw st p1 p2 p3).1 ((zf_X_draw st p1 p2 p3).2.1) (zw_X cI cZ cL a0 a1 a2 a3 a4 a5 a6 a7 a8 a9 a10 a11 ((zf_X_draw st p1 p2 p3).2.2))) 1 6 (va_A (zw_X cI cZ cL a0 a1 a2 a3 a4 a5 a6 a7 a8 a9 a10 a11 st) sz) := by
  refine zt_ofW (Q := fun A => (zt_Qi (dC, dI) (zz_ty cI cZ cL) A (fun _ => "java/lang/IllegalArgumentException") (zf_X_draw st p1 p2 p3).1 ((zf_X_draw st p1 p2 p3).2.1) (zw_X cI cZ cL a0 a1 a2 a3 a4 a5 a6 a7 a8 a9 a10 a11 ((zf_X_draw st p1 p2 p3).2.2)))) (by decide) (Nat.le_of_ble_eq_true rfl) ?_
  intro p e s m below meth c A C0 hexc hadm hA hK hP hD hZ ls hl
  obtain ⟨hx, hb, hr, hml, hown, htB, hlocks, hE⟩ := id C0
  have hS : va_S A s.heap s.heap [] := va_S.rf
  have hl : lv_has ls 5 [(0, .ref a0), (1, .int p1), (2, .int p2), (3, .int p3)] := hl
  refine lv_aload_n hx hb zd_X_draw_0 rfl (lv_at hl 0 rfl) ?_
  refine va_get (D := (dC, dI)) (ci := 0) (v := .ref a7) (C := zr_X) (T := zF_X) (N := 7) hx hb htB zi_X hown hK hP 0 rfl rfl 3 (by decide) (htB _ zk_4f9de2f5) (fun _ h9 => h9) rfl zd_X_draw_1 ?_
  refine lv_iload_n hx hb zd_X_draw_4 rfl (lv_at hl 2 rfl) ?_
  refine zz_ki (va_runV (As := [.int p2]) (rest := []) ⟨hx, hb, hml, hown, htB⟩ (zc_P_find l dC dI cI cZ cL a7 a8 a9 a10 s.heap.size st.2.2.2.1 p2 hp) (cwV 1 htB (zz_gV zk_b6b2fcd7 zk_260dcf75 zk_9eb9dfdc zk_f301a5bc zk_94b92128) rfl rfl rfl ⟨rfl, zh_P_find⟩ ⟨Nat.le_of_ble_eq_true rfl, Nat.le_of_ble_eq_true rfl⟩) (zz_preV (ci := 3) (q := (zr_P, zF_P, 4)) hP hD hK hE [7, 8, 9, 10] (by decide) rfl rfl rfl) rfl rfl hl.1 rfl (lv_room (Nat.le_of_ble_eq_true rfl)) zd_X_draw_5 ⟨Nat.le_of_ble_eq_true rfl, Nat.le_of_ble_eq_true rfl⟩) ?_
  refine lv_istore (lv' := [(4, .int (zf_P_find st.2.2.2.1 p2)), (0, .ref a0), (1, .int p1), (2, .int p2), (3, .int p3)]) hx hb zd_X_draw_8 hl (by decide) rfl (fun ls hl => ?_)
  refine lv_aload_n hx hb zd_X_draw_10 rfl (lv_at hl 1 rfl) ?_
  refine va_get (D := (dC, dI)) (ci := 0) (v := .ref a1) (C := zr_X) (T := zF_X) (N := 7) hx hb htB zi_X hown hK hP 0 rfl rfl 1 (by decide) (htB _ zk_ac6f5f75) (fun _ h9 => h9) rfl zd_X_draw_11 ?_
  refine lv_iload_n hx hb zd_X_draw_14 rfl (lv_at hl 2 rfl) ?_
  refine zz_ki (va_runV (As := [.int p1]) (rest := []) ⟨hx, hb, hml, hown, htB⟩ (zc_S_hasLine l dC dI cI cZ cL a1 a2 a3 s.heap.size st.2.1 p1 ) (cwV 1 htB (zz_gV zk_e942dd41 zk_3871fc92 zk_c72ec03e zk_f1a23aa7 zk_33cddec9) rfl rfl rfl ⟨rfl, zh_S_hasLine⟩ ⟨Nat.le_of_ble_eq_true rfl, Nat.le_of_ble_eq_true rfl⟩) (zz_preV (ci := 1) (q := (zr_S, zF_S, 5)) hP hD hK hE [1, 2, 3] (by decide) rfl rfl rfl) rfl rfl hl.1 rfl (lv_room (Nat.le_of_ble_eq_true rfl)) zd_X_draw_15 ⟨Nat.le_of_ble_eq_true rfl, Nat.le_of_ble_eq_true rfl⟩) ?_
  refine lv_if_eq (tgt := 38) hx hb zd_X_draw_18 (by decide) (fun c_18 => ?_) (fun c_18 => ?_)
  · rw [(show zf_X_draw st p1 p2 p3 = (1, 0, st) from by rw [zf_X_draw, if_pos c_18])]
    exact zt_throw (names := ["java/lang/RuntimeException", "java/lang/Exception"]) hf0 hadm hx hb (hml.trans hl.1.symm) hlocks hexc hown (htB _ zk_c1982f07) (htB _ zk_04fc2812) (htB _ zk_9ce9d120) (hE.2.1 _ (List.mem_of_getElem? (i := 5) rfl)) (by decide +kernel) (by decide +kernel) (za_1 htB hE hZ) hK hP hD hA (Nat.le_of_ble_eq_true rfl) (Nat.le_of_ble_eq_true rfl) (Nat.le_of_ble_eq_true rfl) (Nat.le_of_ble_eq_true rfl) zd_X_draw_38 zd_X_draw_41 zd_X_draw_42 zd_X_draw_44 zd_X_draw_47 (fun oc t x ce h1 h2 h3 h4 h5 h6 h7 => ⟨Or.inr ⟨(show (1 : Nat) ≠ 0 by decide), x, ce, h1, h2, h3, h4, h5⟩, h6, h7⟩)
  · refine lv_iload hx hb zd_X_draw_21 (lv_at hl 0 rfl) ?_
    refine lv_iconst (v := (-1)) hx hb zd_X_draw_23 (by decide) ?_
    refine lv_icmp_eq (tgt := 38) hx hb zd_X_draw_24 (by decide) (fun c_24 => ?_) (fun c_24 => ?_)
    · rw [(show zf_X_draw st p1 p2 p3 = (1, 0, st) from by rw [zf_X_draw, if_neg c_18, if_pos c_24])]
      exact zt_throw (names := ["java/lang/RuntimeException", "java/lang/Exception"]) hf0 hadm hx hb (hml.trans hl.1.symm) hlocks hexc hown (htB _ zk_c1982f07) (htB _ zk_04fc2812) (htB _ zk_9ce9d120) (hE.2.1 _ (List.mem_of_getElem? (i := 5) rfl)) (by decide +kernel) (by decide +kernel) (za_1 htB hE hZ) hK hP hD hA (Nat.le_of_ble_eq_true rfl) (Nat.le_of_ble_eq_true rfl) (Nat.le_of_ble_eq_true rfl) (Nat.le_of_ble_eq_true rfl) zd_X_draw_38 zd_X_draw_41 zd_X_draw_42 zd_X_draw_44 zd_X_draw_47 (fun oc t x ce h1 h2 h3 h4 h5 h6 h7 => ⟨Or.inr ⟨(show (1 : Nat) ≠ 0 by decide), x, ce, h1, h2, h3, h4, h5⟩, h6, h7⟩)
    · refine lv_iload_n hx hb zd_X_draw_27 rfl (lv_at hl 4 rfl) ?_
      refine lv_iconst (v := 1) hx hb zd_X_draw_28 (by decide) ?_
      refine lv_icmp_lt (tgt := 38) hx hb zd_X_draw_29 (by decide) (fun c_29 => ?_) (fun c_29 => ?_)
      · rw [(show zf_X_draw st p1 p2 p3 = (1, 0, st) from by rw [zf_X_draw, if_neg c_18, if_neg c_24, if_pos c_29])]
        exact zt_throw (names := ["java/lang/RuntimeException", "java/lang/Exception"]) hf0 hadm hx hb (hml.trans hl.1.symm) hlocks hexc hown (htB _ zk_c1982f07) (htB _ zk_04fc2812) (htB _ zk_9ce9d120) (hE.2.1 _ (List.mem_of_getElem? (i := 5) rfl)) (by decide +kernel) (by decide +kernel) (za_1 htB hE hZ) hK hP hD hA (Nat.le_of_ble_eq_true rfl) (Nat.le_of_ble_eq_true rfl) (Nat.le_of_ble_eq_true rfl) (Nat.le_of_ble_eq_true rfl) zd_X_draw_38 zd_X_draw_41 zd_X_draw_42 zd_X_draw_44 zd_X_draw_47 (fun oc t x ce h1 h2 h3 h4 h5 h6 h7 => ⟨Or.inr ⟨(show (1 : Nat) ≠ 0 by decide), x, ce, h1, h2, h3, h4, h5⟩, h6, h7⟩)
      · refine lv_iload_n hx hb zd_X_draw_32 rfl (lv_at hl 4 rfl) ?_
        refine lv_ldc (v := 1000000) hx hb hown (htB _ zk_2f026ba4) zd_X_draw_33 ?_
        refine lv_icmp_le (tgt := 48) hx hb zd_X_draw_35 (by decide) (fun c_35 => ?_) (fun c_35 => ?_)
        · refine lv_aload_n hx hb zd_X_draw_48 rfl (lv_at hl 1 rfl) ?_
          refine va_get (D := (dC, dI)) (ci := 0) (v := .int st.2.2.2.2.2.2) (C := zr_X) (T := zF_X) (N := 7) hx hb htB zi_X hown hK hP 0 rfl rfl 6 (by decide) (htB _ zk_a72d337f) (fun _ h9 => h9) rfl zd_X_draw_49 ?_
          refine lv_if_eq (tgt := 59) hx hb zd_X_draw_52 (by decide) (fun c_52 => ?_) (fun c_52 => ?_)
          · refine lv_aload_n hx hb zd_X_draw_59 rfl (lv_at hl 1 rfl) ?_
            refine va_get (D := (dC, dI)) (ci := 0) (v := .ref a7) (C := zr_X) (T := zF_X) (N := 7) hx hb htB zi_X hown hK hP 0 rfl rfl 3 (by decide) (htB _ zk_4f9de2f5) (fun _ h9 => h9) rfl zd_X_draw_60 ?_
            refine lv_iload_n hx hb zd_X_draw_63 rfl (lv_at hl 2 rfl) ?_
            refine lv_iload hx hb zd_X_draw_64 (lv_at hl 0 rfl) ?_
            refine lv_iload_n hx hb zd_X_draw_66 rfl (lv_at hl 4 rfl) ?_
            refine zz_ci (va_runV (As := [.int p1, .int (zf_P_find st.2.2.2.1 p2), .int p3]) (rest := []) ⟨hx, hb, hml, hown, htB⟩ (zc_P_take l dC dI cI cZ cL a7 a8 a9 a10 s.heap.size st.2.2.2.1 p1 (zf_P_find st.2.2.2.1 p2) p3 hp) (cwV 3 htB (zz_gV zk_4e8e7760 zk_5d820aaa zk_86b951e4 zk_f301a5bc zk_2194c2f1) rfl rfl rfl ⟨rfl, zh_P_take⟩ ⟨Nat.le_of_ble_eq_true rfl, Nat.le_of_ble_eq_true rfl⟩) (zz_preV (ci := 3) (q := (zr_P, zF_P, 4)) hP hD hK hE [7, 8, 9, 10] (by decide) rfl rfl rfl) rfl rfl hl.1 rfl (lv_room (Nat.le_of_ble_eq_true rfl)) zd_X_draw_67 ⟨Nat.le_of_ble_eq_true rfl, Nat.le_of_ble_eq_true rfl⟩) hP hD hS hA [7, 8, 9, 10] [0, 1, 2, 3, 4, 5, 6, 11] [0, 1, 2, 3, 4, 5, 6, 8, 9, 10, 11, 7] rfl rfl (by decide) (by decide) (by decide) rfl (fun H locs hP hD hS => ?_)
            have hP : va_P (dC, dI) zz_cl (zw_X cI cZ cL a0 a1 a2 a3 a4 a5 a6 a7 a8 a9 a10 a11 (st.1, st.2.1, st.2.2.1, (zf_P_take st.2.2.2.1 p1 (zf_P_find st.2.2.2.1 p2) p3).2, st.2.2.2.2.1, st.2.2.2.2.2.1, st.2.2.2.2.2.2)) H := hP
            have hD : va_D A (zw_X cI cZ cL a0 a1 a2 a3 a4 a5 a6 a7 a8 a9 a10 a11 (st.1, st.2.1, st.2.2.1, (zf_P_take st.2.2.2.1 p1 (zf_P_find st.2.2.2.1 p2) p3).2, st.2.2.2.2.1, st.2.2.2.2.2.1, st.2.2.2.2.2.2)) := hD
            rw [(show zf_X_draw st p1 p2 p3 = (0, (zf_P_take st.2.2.2.1 p1 (zf_P_find st.2.2.2.1 p2) p3).1, (st.1, st.2.1, st.2.2.1, (zf_P_take st.2.2.2.1 p1 (zf_P_find st.2.2.2.1 p2) p3).2, st.2.2.2.2.1, st.2.2.2.2.2.1, st.2.2.2.2.2.2)) from by rw [zf_X_draw, if_neg c_18, if_neg c_24, if_neg c_29, if_pos c_35, if_pos c_52])]
            refine W.widen (k := 1) (n := 6) (by decide) (by decide) ?_
            exact zt_iret hx hb hr hlocks hK hP hD hS zd_X_draw_70 rfl rfl
          · refine lv_iconst (v := (-1)) hx hb zd_X_draw_55 (by decide) ?_
            refine lv_goto (tgt := 70) hx hb zd_X_draw_56 (by decide) ?_
            rw [(show zf_X_draw st p1 p2 p3 = (0, (-1), st) from by rw [zf_X_draw, if_neg c_18, if_neg c_24, if_neg c_29, if_pos c_35, if_neg c_52])]
            refine W.widen (k := 1) (n := 6) (by decide) (by decide) ?_
            exact zt_iret hx hb hr hlocks hK hP hD hS zd_X_draw_70 rfl rfl
        · rw [(show zf_X_draw st p1 p2 p3 = (1, 0, st) from by rw [zf_X_draw, if_neg c_18, if_neg c_24, if_neg c_29, if_neg c_35])]
          exact zt_throw (names := ["java/lang/RuntimeException", "java/lang/Exception"]) hf0 hadm hx hb (hml.trans hl.1.symm) hlocks hexc hown (htB _ zk_c1982f07) (htB _ zk_04fc2812) (htB _ zk_9ce9d120) (hE.2.1 _ (List.mem_of_getElem? (i := 5) rfl)) (by decide +kernel) (by decide +kernel) (za_1 htB hE hZ) hK hP hD hA (Nat.le_of_ble_eq_true rfl) (Nat.le_of_ble_eq_true rfl) (Nat.le_of_ble_eq_true rfl) (Nat.le_of_ble_eq_true rfl) zd_X_draw_38 zd_X_draw_41 zd_X_draw_42 zd_X_draw_44 zd_X_draw_47 (fun oc t x ce h1 h2 h3 h4 h5 h6 h7 => ⟨Or.inr ⟨(show (1 : Nat) ≠ 0 by decide), x, ce, h1, h2, h3, h4, h5⟩, h6, h7⟩)
set_option maxHeartbeats 4000000 in
set_option maxRecDepth 100000 in
theorem zc_X_sum (l : Launch) (dC : Nat → ClassId) (dI : Nat → Nat → Nat) (cI cZ cL : ClassId) (a0 a1 a2 a3 a4 a5 a6 a7 a8 a9 a10 a11 : Nat) (sz : Nat) (st : zu_X) (p1 : Int32)  (hf0 : l.flags = pinnedFlags ++ [noTraceFlag]) : zt_Met l zy_X_sum (zz_ws zy_X_sum zb_X_sum 2 (some .long)) ({ frames := 6, cells := 1, slots := 6, locals := 83 } : Room) (va_Pc ([.ref a0, .int p1] : List Value) (zt_P (dC, dI) (zz_ty cI cZ cL) sz (zw_X cI cZ cL a0 a1 a2 a3 a4 a5 a6 a7 a8 a9 a10 a11 st))) (zt_Ql (dC, dI) (zz_ty cI cZ cL) (va_A (zw_X cI cZ cL a0 a1 a2 a3 a4 a5 a6 a7 a8 a9 a10 a11 st) sz) (fun _ => "java/lang/IllegalArgumentException") (zf_X_sum st p1).1 ((zf_X_sum st p1).2) (zw_X cI cZ cL a0 a1 a2 a3 a4 a5 a6 a7 a8 a9 a10 a11 st)) 1 6 (va_A (zw_X cI cZ cL a0 a1 a2 a3 a4 a5 a6 a7 a8 a9 a10 a11 st) sz) := by
  refine zt_ofW (Q := fun A => (zt_Ql (dC, dI) (zz_ty cI cZ cL) A (fun _ => "java/lang/IllegalArgumentException") (zf_X_sum st p1).1 ((zf_X_sum st p1).2) (zw_X cI cZ cL a0 a1 a2 a3 a4 a5 a6 a7 a8 a9 a10 a11 st))) (by decide) (Nat.le_of_ble_eq_true rfl) ?_
  intro p e s m below meth c A C0 hexc hadm hA hK hP hD hZ ls hl
  obtain ⟨hx, hb, hr, hml, hown, htB, hlocks, hE⟩ := id C0
  have hS : va_S A s.heap s.heap [] := va_S.rf
  have hl : lv_has ls 2 [(0, .ref a0), (1, .int p1)] := hl
  refine lv_iload_n hx hb zd_X_sum_0 rfl (lv_at hl 1 rfl) ?_
  refine lv_bipush (v := 10) hx hb zd_X_sum_1 (by decide) ?_
  refine lv_icmp_lt (tgt := 12) hx hb zd_X_sum_3 (by decide) (fun c_3 => ?_) (fun c_3 => ?_)
  · rw [(show zf_X_sum st p1 = (1, 0) from by rw [zf_X_sum, if_pos c_3])]
    exact zt_throw (names := ["java/lang/RuntimeException", "java/lang/Exception"]) hf0 hadm hx hb (hml.trans hl.1.symm) hlocks hexc hown (htB _ zk_c1982f07) (htB _ zk_04fc2812) (htB _ zk_9ce9d120) (hE.2.1 _ (List.mem_of_getElem? (i := 6) rfl)) (by decide +kernel) (by decide +kernel) (za_1 htB hE hZ) hK hP hD hA (Nat.le_of_ble_eq_true rfl) (Nat.le_of_ble_eq_true rfl) (Nat.le_of_ble_eq_true rfl) (Nat.le_of_ble_eq_true rfl) zd_X_sum_12 zd_X_sum_15 zd_X_sum_16 zd_X_sum_18 zd_X_sum_21 (fun oc t x ce h1 h2 h3 h4 h5 h6 h7 => ⟨Or.inr ⟨(show (1 : Nat) ≠ 0 by decide), x, ce, h1, h2, h3, h4, h5⟩, h6, h7⟩)
  · refine lv_iload_n hx hb zd_X_sum_6 rfl (lv_at hl 1 rfl) ?_
    refine lv_bipush (v := 19) hx hb zd_X_sum_7 (by decide) ?_
    refine lv_icmp_le (tgt := 22) hx hb zd_X_sum_9 (by decide) (fun c_9 => ?_) (fun c_9 => ?_)
    · refine lv_aload_n hx hb zd_X_sum_22 rfl (lv_at hl 0 rfl) ?_
      refine va_get (D := (dC, dI)) (ci := 0) (v := .ref a1) (C := zr_X) (T := zF_X) (N := 7) hx hb htB zi_X hown hK hP 0 rfl rfl 1 (by decide) (htB _ zk_ac6f5f75) (fun _ h9 => h9) rfl zd_X_sum_23 ?_
      refine lv_iload_n hx hb zd_X_sum_26 rfl (lv_at hl 1 rfl) ?_
      refine zz_kl (va_runV (As := [.int p1]) (rest := []) ⟨hx, hb, hml, hown, htB⟩ (zc_S_total l dC dI cI cZ cL a1 a2 a3 s.heap.size st.2.1 p1 ) (cwV 1 htB (zz_gV zk_6662f93d zk_b3219529 zk_106e6e6c zk_f1a23aa7 zk_efd9ded9) rfl rfl rfl ⟨rfl, zh_S_total⟩ ⟨Nat.le_of_ble_eq_true rfl, Nat.le_of_ble_eq_true rfl⟩) (zz_preV (ci := 1) (q := (zr_S, zF_S, 5)) hP hD hK hE [1, 2, 3] (by decide) rfl rfl rfl) rfl rfl hl.1 rfl (lv_room (Nat.le_of_ble_eq_true rfl)) zd_X_sum_27 ⟨Nat.le_of_ble_eq_true rfl, Nat.le_of_ble_eq_true rfl⟩) ?_
      rw [(show zf_X_sum st p1 = (0, (zf_S_total st.2.1 p1)) from by rw [zf_X_sum, if_neg c_3, if_pos c_9])]
      refine W.widen (k := 1) (n := 6) (by decide) (by decide) ?_
      exact zt_lret hx hb hr hlocks hK hP hD hS zd_X_sum_30 rfl rfl
    · rw [(show zf_X_sum st p1 = (1, 0) from by rw [zf_X_sum, if_neg c_3, if_neg c_9])]
      exact zt_throw (names := ["java/lang/RuntimeException", "java/lang/Exception"]) hf0 hadm hx hb (hml.trans hl.1.symm) hlocks hexc hown (htB _ zk_c1982f07) (htB _ zk_04fc2812) (htB _ zk_9ce9d120) (hE.2.1 _ (List.mem_of_getElem? (i := 6) rfl)) (by decide +kernel) (by decide +kernel) (za_1 htB hE hZ) hK hP hD hA (Nat.le_of_ble_eq_true rfl) (Nat.le_of_ble_eq_true rfl) (Nat.le_of_ble_eq_true rfl) (Nat.le_of_ble_eq_true rfl) zd_X_sum_12 zd_X_sum_15 zd_X_sum_16 zd_X_sum_18 zd_X_sum_21 (fun oc t x ce h1 h2 h3 h4 h5 h6 h7 => ⟨Or.inr ⟨(show (1 : Nat) ≠ 0 by decide), x, ce, h1, h2, h3, h4, h5⟩, h6, h7⟩)
set_option maxHeartbeats 4000000 in
set_option maxRecDepth 100000 in
theorem zc_X_octet (l : Launch) (dC : Nat → ClassId) (dI : Nat → Nat → Nat) (cI cZ cL : ClassId) (a0 a1 a2 a3 a4 a5 a6 a7 a8 a9 a10 a11 : Nat) (sz : Nat) (st : zu_X) (p1 : Int32)  (hf0 : l.flags = pinnedFlags ++ [noTraceFlag]) : zt_Met l zy_X_octet (zz_ws zy_X_octet zb_X_octet 3 (some .byte)) ({ frames := 6, cells := 1, slots := 6, locals := 83 } : Room) (va_Pc ([.ref a0, .int p1] : List Value) (zt_P (dC, dI) (zz_ty cI cZ cL) sz (zw_X cI cZ cL a0 a1 a2 a3 a4 a5 a6 a7 a8 a9 a10 a11 st))) (zt_Qi (dC, dI) (zz_ty cI cZ cL) (va_A (zw_X cI cZ cL a0 a1 a2 a3 a4 a5 a6 a7 a8 a9 a10 a11 st) sz) (fun _ => "java/lang/IndexOutOfBoundsException") (zf_X_octet st p1).1 ((zf_X_octet st p1).2) (zw_X cI cZ cL a0 a1 a2 a3 a4 a5 a6 a7 a8 a9 a10 a11 st)) 1 6 (va_A (zw_X cI cZ cL a0 a1 a2 a3 a4 a5 a6 a7 a8 a9 a10 a11 st) sz) := by
  refine zt_ofW (Q := fun A => (zt_Qi (dC, dI) (zz_ty cI cZ cL) A (fun _ => "java/lang/IndexOutOfBoundsException") (zf_X_octet st p1).1 ((zf_X_octet st p1).2) (zw_X cI cZ cL a0 a1 a2 a3 a4 a5 a6 a7 a8 a9 a10 a11 st))) (by decide) (Nat.le_of_ble_eq_true rfl) ?_
  intro p e s m below meth c A C0 hexc hadm hA hK hP hD hZ ls hl
  obtain ⟨hx, hb, hr, hml, hown, htB, hlocks, hE⟩ := id C0
  have hS : va_S A s.heap s.heap [] := va_S.rf
  have hl : lv_has ls 3 [(0, .ref a0), (1, .int p1)] := hl
  refine lv_iload_n hx hb zd_X_octet_0 rfl (lv_at hl 1 rfl) ?_
  refine lv_if_lt (tgt := 12) hx hb zd_X_octet_1 (by decide) (fun c_1 => ?_) (fun c_1 => ?_)
  · rw [(show zf_X_octet st p1 = (1, 0) from by rw [zf_X_octet, if_pos c_1])]
    exact zt_throw (names := ["java/lang/RuntimeException", "java/lang/Exception"]) hf0 hadm hx hb (hml.trans hl.1.symm) hlocks hexc hown (htB _ zk_5e3a1e0d) (htB _ zk_fcc34f65) (htB _ zk_8f54f0b8) (hE.2.1 _ (List.mem_of_getElem? (i := 7) rfl)) (by decide +kernel) (by decide +kernel) (za_2 htB hE hZ) hK hP hD hA (Nat.le_of_ble_eq_true rfl) (Nat.le_of_ble_eq_true rfl) (Nat.le_of_ble_eq_true rfl) (Nat.le_of_ble_eq_true rfl) zd_X_octet_12 zd_X_octet_15 zd_X_octet_16 zd_X_octet_18 zd_X_octet_21 (fun oc t x ce h1 h2 h3 h4 h5 h6 h7 => ⟨Or.inr ⟨(show (1 : Nat) ≠ 0 by decide), x, ce, h1, h2, h3, h4, h5⟩, h6, h7⟩)
  · refine lv_iload_n hx hb zd_X_octet_4 rfl (lv_at hl 1 rfl) ?_
    refine lv_aload_n hx hb zd_X_octet_5 rfl (lv_at hl 0 rfl) ?_
    refine zz_ki (va_runV (As := []) (rest := [.int p1]) ⟨hx, hb, hml, hown, htB⟩ (zc_X_pack l dC dI cI cZ cL a0 a1 a2 a3 a4 a5 a6 a7 a8 a9 a10 a11 s.heap.size st  ) (cwV 0 htB (zz_gV zk_d9996226 zk_15c98730 zk_fcfdfd39 zk_cfe38e2e zk_27dc7096) rfl rfl rfl ⟨rfl, zh_X_pack⟩ ⟨Nat.le_of_ble_eq_true rfl, Nat.le_of_ble_eq_true rfl⟩) (zz_preV (ci := 0) (q := (zr_X, zF_X, 7)) hP hD hK hE [0, 1, 2, 3, 4, 5, 6, 7, 8, 9, 10, 11] (by decide) rfl rfl rfl) rfl rfl hl.1 rfl (lv_room (Nat.le_of_ble_eq_true rfl)) zd_X_octet_6 ⟨Nat.le_of_ble_eq_true rfl, Nat.le_of_ble_eq_true rfl⟩) ?_
    refine lv_icmp_lt (tgt := 22) hx hb zd_X_octet_9 (by decide) (fun c_9 => ?_) (fun c_9 => ?_)
    · refine lv_iload_n hx hb zd_X_octet_22 rfl (lv_at hl 1 rfl) ?_
      refine lv_if_ne (tgt := 32) hx hb zd_X_octet_23 (by decide) (fun c_23 => ?_) (fun c_23 => ?_)
      · refine lv_iload_n hx hb zd_X_octet_32 rfl (lv_at hl 1 rfl) ?_
        refine lv_iconst (v := 3) hx hb zd_X_octet_33 (by decide) ?_
        refine lv_icmp_ge (tgt := 51) hx hb zd_X_octet_34 (by decide) (fun c_34 => ?_) (fun c_34 => ?_)
        · refine lv_aload_n hx hb zd_X_octet_51 rfl (lv_at hl 0 rfl) ?_
          refine va_get (D := (dC, dI)) (ci := 0) (v := .ref a1) (C := zr_X) (T := zF_X) (N := 7) hx hb htB zi_X hown hK hP 0 rfl rfl 1 (by decide) (htB _ zk_ac6f5f75) (fun _ h9 => h9) rfl zd_X_octet_52 ?_
          refine lv_iload_n hx hb zd_X_octet_55 rfl (lv_at hl 1 rfl) ?_
          refine lv_iconst (v := 3) hx hb zd_X_octet_56 (by decide) ?_
          refine lv_isub hx hb zd_X_octet_57 ?_
          refine lv_bipush (v := 6) hx hb zd_X_octet_58 (by decide) ?_
          refine lv_idiv hx hb zd_X_octet_60 (by decide) ?_
          refine zz_ki (va_runV (As := [.int ((p1 - 3) / 6)]) (rest := []) ⟨hx, hb, hml, hown, htB⟩ (zc_S_setSlot l dC dI cI cZ cL a1 a2 a3 s.heap.size st.2.1 ((p1 - 3) / 6) ) (cwV 1 htB (zz_gV zk_a0e93d66 zk_27d8dca4 zk_b2a7dedc zk_f1a23aa7 zk_df600e1d) rfl rfl rfl ⟨rfl, zh_S_setSlot⟩ ⟨Nat.le_of_ble_eq_true rfl, Nat.le_of_ble_eq_true rfl⟩) (zz_preV (ci := 1) (q := (zr_S, zF_S, 5)) hP hD hK hE [1, 2, 3] (by decide) rfl rfl rfl) rfl rfl hl.1 rfl (lv_room (Nat.le_of_ble_eq_true rfl)) zd_X_octet_61 ⟨Nat.le_of_ble_eq_true rfl, Nat.le_of_ble_eq_true rfl⟩) ?_
          refine lv_istore_n (lv' := [(2, .int (zf_S_setSlot st.2.1 ((p1 - 3) / 6))), (0, .ref a0), (1, .int p1)]) hx hb zd_X_octet_64 rfl hl (by decide) rfl (fun ls hl => ?_)
          refine lv_aload_n hx hb zd_X_octet_65 rfl (lv_at hl 1 rfl) ?_
          refine lv_iload_n hx hb zd_X_octet_66 rfl (lv_at hl 0 rfl) ?_
          refine lv_iload_n hx hb zd_X_octet_67 rfl (lv_at hl 2 rfl) ?_
          refine lv_iconst (v := 3) hx hb zd_X_octet_68 (by decide) ?_
          refine lv_isub hx hb zd_X_octet_69 ?_
          refine lv_bipush (v := 6) hx hb zd_X_octet_70 (by decide) ?_
          refine lv_irem hx hb zd_X_octet_72 (by decide) ?_
          refine zz_ki (va_runV (As := [.int (zf_S_setSlot st.2.1 ((p1 - 3) / 6)), .int ((p1 - 3) - (p1 - 3) / 6 * 6)]) (rest := []) ⟨hx, hb, hml, hown, htB⟩ (zc_X_packedByte l dC dI cI cZ cL a0 a1 a2 a3 a4 a5 a6 a7 a8 a9 a10 a11 s.heap.size st (zf_S_setSlot st.2.1 ((p1 - 3) / 6)) ((p1 - 3) - (p1 - 3) / 6 * 6) ) (cwV 2 htB (zz_gV zk_0c73a672 zk_9572301c zk_d6819786 zk_cfe38e2e zk_86bf3162) rfl rfl rfl ⟨rfl, zh_X_packedByte⟩ ⟨Nat.le_of_ble_eq_true rfl, Nat.le_of_ble_eq_true rfl⟩) (zz_preV (ci := 0) (q := (zr_X, zF_X, 7)) hP hD hK hE [0, 1, 2, 3, 4, 5, 6, 7, 8, 9, 10, 11] (by decide) rfl rfl rfl) rfl rfl hl.1 rfl (lv_room (Nat.le_of_ble_eq_true rfl)) zd_X_octet_73 ⟨Nat.le_of_ble_eq_true rfl, Nat.le_of_ble_eq_true rfl⟩) ?_
          rw [(show zf_X_octet st p1 = (0, (zf_X_packedByte st (zf_S_setSlot st.2.1 ((p1 - 3) / 6)) ((p1 - 3) - (p1 - 3) / 6 * 6))) from by rw [zf_X_octet, if_neg c_1, if_pos c_9, if_neg c_23, if_pos c_34])]
          refine W.widen (k := 1) (n := 6) (by decide) (by decide) ?_
          exact zt_zret hx hb hr hlocks (zo_X_packedByte st (zf_S_setSlot st.2.1 ((p1 - 3) / 6)) ((p1 - 3) - (p1 - 3) / 6 * 6)) hK hP hD hS zd_X_octet_76 rfl rfl
        · refine lv_aload_n hx hb zd_X_octet_37 rfl (lv_at hl 0 rfl) ?_
          refine va_get (D := (dC, dI)) (ci := 0) (v := .ref a1) (C := zr_X) (T := zF_X) (N := 7) hx hb htB zi_X hown hK hP 0 rfl rfl 1 (by decide) (htB _ zk_ac6f5f75) (fun _ h9 => h9) rfl zd_X_octet_38 ?_
          refine zz_ki (va_runV (As := []) (rest := []) ⟨hx, hb, hml, hown, htB⟩ (zc_S_setCount l dC dI cI cZ cL a1 a2 a3 s.heap.size st.2.1  ) (cwV 0 htB (zz_gV zk_d51b3908 zk_460a5c0b zk_dbc3e6b2 zk_f1a23aa7 zk_8b4375f5) rfl rfl rfl ⟨rfl, zh_S_setCount⟩ ⟨Nat.le_of_ble_eq_true rfl, Nat.le_of_ble_eq_true rfl⟩) (zz_preV (ci := 1) (q := (zr_S, zF_S, 5)) hP hD hK hE [1, 2, 3] (by decide) rfl rfl rfl) rfl rfl hl.1 rfl (lv_room (Nat.le_of_ble_eq_true rfl)) zd_X_octet_41 ⟨Nat.le_of_ble_eq_true rfl, Nat.le_of_ble_eq_true rfl⟩) ?_
          refine lv_iconst (v := 2) hx hb zd_X_octet_44 (by decide) ?_
          refine lv_iload_n hx hb zd_X_octet_45 rfl (lv_at hl 1 rfl) ?_
          refine lv_isub hx hb zd_X_octet_46 ?_
          refine zz_ki (va_runS (As := [.int (zf_S_setCount st.2.1), .int (2 - p1)]) (rest := []) ⟨hx, hb, hml, hown, htB⟩ (zc_X_byteOf l dC dI cI cZ cL  s.heap.size  (zf_S_setCount st.2.1) (2 - p1) ) (va_cwS 2 htB (zz_gS zk_fadbfa6c zk_700bf3ab zk_cfe38e2e zk_ad544a45) rfl rfl rfl zh_X_byteOf ⟨Nat.le_of_ble_eq_true rfl, Nat.le_of_ble_eq_true rfl⟩) (zz_preS hP hD hK hE [] (by decide) rfl) rfl rfl hl.1 rfl (lv_room (Nat.le_of_ble_eq_true rfl)) zd_X_octet_47 ⟨Nat.le_of_ble_eq_true rfl, Nat.le_of_ble_eq_true rfl⟩) ?_
          rw [(show zf_X_octet st p1 = (0, (zf_X_byteOf (zf_S_setCount st.2.1) (2 - p1))) from by rw [zf_X_octet, if_neg c_1, if_pos c_9, if_neg c_23, if_neg c_34])]
          refine W.widen (k := 1) (n := 6) (by decide) (by decide) ?_
          exact zt_zret hx hb hr hlocks (zo_X_byteOf (zf_S_setCount st.2.1) (2 - p1)) hK hP hD hS zd_X_octet_50 rfl rfl
      · refine lv_aload_n hx hb zd_X_octet_26 rfl (lv_at hl 0 rfl) ?_
        refine va_get (D := (dC, dI)) (ci := 0) (v := .int st.1) (C := zr_X) (T := zF_X) (N := 7) hx hb htB zi_X hown hK hP 0 rfl rfl 0 (by decide) (htB _ zk_26e1908c) (fun _ h9 => h9) rfl zd_X_octet_27 ?_
        refine lv_i2b hx hb zd_X_octet_30 rfl ?_
        rw [(show zf_X_octet st p1 = (0, st.1.toInt8.toInt32) from by rw [zf_X_octet, if_neg c_1, if_pos c_9, if_pos c_23])]
        refine W.widen (k := 1) (n := 6) (by decide) (by decide) ?_
        exact zt_zret hx hb hr hlocks (pk_nb _) hK hP hD hS zd_X_octet_31 rfl rfl
    · rw [(show zf_X_octet st p1 = (1, 0) from by rw [zf_X_octet, if_neg c_1, if_neg c_9])]
      exact zt_throw (names := ["java/lang/RuntimeException", "java/lang/Exception"]) hf0 hadm hx hb (hml.trans hl.1.symm) hlocks hexc hown (htB _ zk_5e3a1e0d) (htB _ zk_fcc34f65) (htB _ zk_8f54f0b8) (hE.2.1 _ (List.mem_of_getElem? (i := 7) rfl)) (by decide +kernel) (by decide +kernel) (za_2 htB hE hZ) hK hP hD hA (Nat.le_of_ble_eq_true rfl) (Nat.le_of_ble_eq_true rfl) (Nat.le_of_ble_eq_true rfl) (Nat.le_of_ble_eq_true rfl) zd_X_octet_12 zd_X_octet_15 zd_X_octet_16 zd_X_octet_18 zd_X_octet_21 (fun oc t x ce h1 h2 h3 h4 h5 h6 h7 => ⟨Or.inr ⟨(show (1 : Nat) ≠ 0 by decide), x, ce, h1, h2, h3, h4, h5⟩, h6, h7⟩)
end
section
set_option maxHeartbeats 4000000 in
set_option maxRecDepth 100000 in
theorem zp_F_fill_5 {p : Program} {l : Launch} {e : Env} {s : State} {m : MethodId} {below : List Frame} {meth : Method} {c : Code} {A : Nat → Prop} (dC : Nat → ClassId) (dI : Nat → Nat → Nat) (cI cZ cL : ClassId) (a0 : Nat) (p1 : Int32) (x3 : Int32) (hx3 : x3 = 310) (C0 : zz_C p s m ([.ref a0, .int p1] : List Value).toArray meth c zb_F_fill 4 (none) zy_F_fill.cls) (hA : ∀ q : Nat, s.heap.size ≤ q → A q) (hK : va_K (dC, dI) zz_cl (zz_ty cI cZ cL) s) :
    ∀ (mm k : Nat) (st : zu_F), k + mm = 310 → ∀ (H : Heap) (locs : List Loc), va_P (dC, dI) zz_cl (zw_F cI cZ cL a0 st) H → va_D A (zw_F cI cZ cL a0 st) → va_S A s.heap H locs → ∀ ls : Array Slot, lv_has ls 4 [(0, .ref a0), (1, .int p1), (3, .int x3), (2, .int (nI k))] →
    W p l e ({ frames := 0, cells := 0, slots := 0, locals := 0 } : Room) s m ([.ref a0, .int p1] : List Value).toArray below meth c H locs 0 0 (MQ below (zz_Qv (dC, dI) (zz_ty cI cZ cL) A (zw_F cI cZ cL a0 (zf_F_fill_L5 p1 x3 mm k st))) ([.ref a0, .int p1] : List Value).toArray s 0 0 A) (F0 m 5 ls []) := by
  obtain ⟨hx, hb, hr, hml, hown, htB, hlocks, hE⟩ := id C0
  intro mm
  induction mm with
  | zero =>
    intro k st hk H locs hP hD hS ls hl
    refine lv_iload_n hx hb zd_F_fill_5 rfl (lv_at hl 3 rfl) ?_
    refine lv_iload_n hx hb zd_F_fill_6 rfl (lv_at hl 2 rfl) ?_
    refine lv_icmp_ge (tgt := 20) hx hb zd_F_fill_7 (by decide) (fun _ => ?_) (fun c_ => absurd (zz_geT (b := 310) hx3 (by omega) (by omega)) c_)
    rw [(show zf_F_fill_L5 p1 x3 0 k st = st from by first | rfl | (rw [zf_F_fill_L5]))]
    exact zz_vret hx hb hr hlocks hK hP hD hS zd_F_fill_20
  | succ mm ih =>
    intro k st hk H locs hP hD hS ls hl
    refine lv_iload_n hx hb zd_F_fill_5 rfl (lv_at hl 3 rfl) ?_
    refine lv_iload_n hx hb zd_F_fill_6 rfl (lv_at hl 2 rfl) ?_
    refine lv_icmp_ge (tgt := 20) hx hb zd_F_fill_7 (by decide) (fun c_ => absurd c_ (zz_geF (b := 310) hx3 (by omega) (by omega))) (fun _ => ?_)
    refine lv_aload_n hx hb zd_F_fill_10 rfl (lv_at hl 0 rfl) ?_
    refine lv_iload_n hx hb zd_F_fill_11 rfl (lv_at hl 3 rfl) ?_
    refine lv_iload_n hx hb zd_F_fill_12 rfl (lv_at hl 1 rfl) ?_
    refine zz_iast hx hb hK hP hD hS 0 0 rfl rfl (by omega) (by decide) zd_F_fill_13 (fun H locs hP hD hS => ?_)
    have hP : va_P (dC, dI) zz_cl (zw_F cI cZ cL a0 ((upd st k p1))) H := hP
    have hD : va_D A (zw_F cI cZ cL a0 ((upd st k p1))) := hD
    refine lv_iinc (v := nI (k + 1)) (lv' := [(2, .int (nI (k + 1))), (0, .ref a0), (1, .int p1), (3, .int x3)]) hx hb zd_F_fill_14 hl (k := 3) rfl (nI_1 k) (by decide) rfl (fun ls hl => ?_)
    refine lv_goto (tgt := 5) hx hb zd_F_fill_17 (by decide) ?_
    rw [(show zf_F_fill_L5 p1 x3 (mm + 1) k st = zf_F_fill_L5 p1 x3 mm (k + 1) ((upd st k p1)) from by first | rfl | (rw [zf_F_fill_L5]))]
    exact ih (k + 1) ((upd st k p1))  (by show k + 1 + mm = 310; omega) _ _ hP hD hS _ (lv_sub hl [1, 2, 3, 0] rfl)
set_option maxHeartbeats 4000000 in
set_option maxRecDepth 100000 in
theorem zc_F_fill (l : Launch) (dC : Nat → ClassId) (dI : Nat → Nat → Nat) (cI cZ cL : ClassId) (a0 : Nat) (sz : Nat) (st : zu_F) (p1 : Int32)  : Met l zy_F_fill (zz_ws zy_F_fill zb_F_fill 4 (none)) ({ frames := 0, cells := 0, slots := 0, locals := 0 } : Room) (va_Pc ([.ref a0, .int p1] : List Value) (zz_P (dC, dI) (zz_ty cI cZ cL) sz (zw_F cI cZ cL a0 st))) (zz_Qv (dC, dI) (zz_ty cI cZ cL) (va_A (zw_F cI cZ cL a0 st) sz) (zw_F cI cZ cL a0 (zf_F_fill st p1))) 0 0 (va_A (zw_F cI cZ cL a0 st) sz) := by
  refine zz_ofW (Q := fun A => (zz_Qv (dC, dI) (zz_ty cI cZ cL) A (zw_F cI cZ cL a0 (zf_F_fill st p1)))) (by decide) (Nat.le_of_ble_eq_true rfl) ?_
  intro p e s m below meth c A C0 _ hA hK hP hD _ ls hl
  obtain ⟨hx, hb, hr, hml, hown, htB, hlocks, hE⟩ := id C0
  have hS : va_S A s.heap s.heap [] := va_S.rf
  have hl : lv_has ls 4 [(0, .ref a0), (1, .int p1)] := hl
  refine lv_iconst (v := 0) hx hb zd_F_fill_0 (by decide) ?_
  refine lv_istore_n (lv' := [(2, .int 0), (0, .ref a0), (1, .int p1)]) hx hb zd_F_fill_1 rfl hl (by decide) rfl (fun ls hl => ?_)
  refine lv_aload_n hx hb zd_F_fill_2 rfl (lv_at hl 1 rfl) ?_
  refine va_alen (v := 310) hx hb hK hP 0 0 rfl rfl rfl zd_F_fill_3 ?_
  refine lv_istore_n (lv' := [(3, .int 310), (2, .int 0), (0, .ref a0), (1, .int p1)]) hx hb zd_F_fill_4 rfl hl (by decide) rfl (fun ls hl => ?_)
  rw [(show zf_F_fill st p1 = zf_F_fill_L5 p1 310 310 0 st from by first | rfl | (rw [zf_F_fill]))]
  exact zp_F_fill_5 dC dI cI cZ cL a0 p1 310 rfl C0 hA hK 310 0 st  rfl _ _ hP hD hS _ (lv_sub hl [2, 3, 0, 1] rfl)
def zs_S  : zu_S := (zf_F_fill (fun _ => 0) (-1), (fun _ => 0), 0, 0, 0)
set_option maxHeartbeats 4000000 in
set_option maxRecDepth 100000 in
theorem zc_S_init (l : Launch) (dC : Nat → ClassId) (dI : Nat → Nat → Nat) (cI cZ cL : ClassId) (a0 : Nat) (sz : Nat)  : Met l zy_S_init (zz_ws zy_S_init zb_S_init 1 none) ({ frames := 1, cells := 2, slots := 341, locals := 23 } : Room) (va_Pc ([.ref a0] : List Value) (zz_P (dC, dI) (zz_ty cI cZ cL) sz [(a0, .inr (1, [.null, .null, .int 0, .int 0, .int 0]))])) (va_Qv (fun (_ : Nat × Nat) => True) (fun u => zz_B (dC, dI) (zz_ty cI cZ cL) (va_A [(a0, .inr (1, [.null, .null, .int 0, .int 0, .int 0]))] sz) ((fun (u : Nat × Nat) => zw_S cI cZ cL a0 u.1 u.2 zs_S) u)) (va_A [(a0, .inr (1, [.null, .null, .int 0, .int 0, .int 0]))] sz)) 2 341 (va_A [(a0, .inr (1, [.null, .null, .int 0, .int 0, .int 0]))] sz) := by
  refine zz_ofW (Q := fun A => (va_Qv (fun (_ : Nat × Nat) => True) (fun u => zz_B (dC, dI) (zz_ty cI cZ cL) A ((fun (u : Nat × Nat) => zw_S cI cZ cL a0 u.1 u.2 zs_S) u)) A)) (by decide) (Nat.le_of_ble_eq_true rfl) ?_
  intro p e s m below meth c A C0 hin0 hA hK hP hD _ ls hl
  obtain ⟨hx, hb, hr, hml, hown, htB, hlocks, hE⟩ := id C0
  have hin : meth.name = "<init>" := hin0 rfl
  have hS : va_S A s.heap s.heap [] := va_S.rf
  have hl : lv_has ls 1 [(0, .ref a0)] := hl
  refine lv_aload_n hx hb zd_S_init_0 rfl (lv_at hl 0 rfl) ?_
  refine W.objInit hx hb hown (htB _ zk_e10822c6) (htB _ zk_e5db7b8b) (htB _ zk_2e240a33) rfl (by rw [hml]; exact hl.1) rfl zd_S_init_1 (Nat.le_of_ble_eq_true rfl) (Nat.le_of_ble_eq_true rfl) ?_
  refine W.eq (g2 := F0 m 4 ls []) rfl ?_
  refine lv_aload_n hx hb zd_S_init_4 rfl (lv_at hl 0 rfl) ?_
  refine lv_sipush (v := 310) hx hb zd_S_init_5 (by decide) ?_
  refine zz_newa (a0 := (310, .inl (fun _ => 0))) hx hb (htB _ zk_13eacad5) rfl 0 rfl (fun _ _ h1 h2 => Option.some.inj (h1.symm.trans h2)) hK hP hD hS hA (fun _ => rfl) (by decide) rfl (by decide) (Nat.le_of_ble_eq_true rfl) (Nat.le_of_ble_eq_true rfl) zd_S_init_8 (fun q1 H hP hD hS => ?_)
  have hP : va_P (dC, dI) zz_cl [(a0, .inr (1, [.null, .null, .int 0, .int 0, .int 0])), (q1, .inl (cI, 310, .inl (fun _ => 0)))] H := hP
  have hD : va_D A [(a0, .inr (1, [.null, .null, .int 0, .int 0, .int 0])), (q1, .inl (cI, 310, .inl (fun _ => 0)))] := hD
  refine va_putF (D := (dC, dI)) (ci := 1) (v := .ref q1) (C := zr_S) (T := zF_S) (N := 5) hx hb htB zi_S zT_S zT_S_ok zn_S hown hK hP hD hS 0 rfl rfl 0 (by decide) (htB _ zk_58041e5d) (fun _ h9 => h9) rfl hin rfl (zT_S_ok 0 (by decide)) rfl rfl (Nat.le_of_ble_eq_true rfl) zd_S_init_10 (fun H locs hP hD hS => ?_)
  have hP : va_P (dC, dI) zz_cl [(a0, .inr (1, [.ref q1, .null, .int 0, .int 0, .int 0])), (q1, .inl (cI, 310, .inl (fun _ => 0)))] H := hP
  have hD : va_D A [(a0, .inr (1, [.ref q1, .null, .int 0, .int 0, .int 0])), (q1, .inl (cI, 310, .inl (fun _ => 0)))] := hD
  refine lv_aload_n hx hb zd_S_init_13 rfl (lv_at hl 0 rfl) ?_
  refine lv_bipush (v := 31) hx hb zd_S_init_14 (by decide) ?_
  refine zz_newa (a0 := (31, .inl (fun _ => 0))) hx hb (htB _ zk_3be23d36) rfl 1 rfl (fun _ _ h1 h2 => Option.some.inj (h1.symm.trans h2)) hK hP hD hS hA (fun _ => rfl) (by decide) rfl (by decide) (Nat.le_of_ble_eq_true rfl) (Nat.le_of_ble_eq_true rfl) zd_S_init_16 (fun q2 H hP hD hS => ?_)
  have hP : va_P (dC, dI) zz_cl [(a0, .inr (1, [.ref q1, .null, .int 0, .int 0, .int 0])), (q1, .inl (cI, 310, .inl (fun _ => 0))), (q2, .inl (cZ, 31, .inl (fun _ => 0)))] H := hP
  have hD : va_D A [(a0, .inr (1, [.ref q1, .null, .int 0, .int 0, .int 0])), (q1, .inl (cI, 310, .inl (fun _ => 0))), (q2, .inl (cZ, 31, .inl (fun _ => 0)))] := hD
  refine va_putF (D := (dC, dI)) (ci := 1) (v := .ref q2) (C := zr_S) (T := zF_S) (N := 5) hx hb htB zi_S zT_S zT_S_ok zn_S hown hK hP hD hS 0 rfl rfl 1 (by decide) (htB _ zk_641e4f57) (fun _ h9 => h9) rfl hin rfl (zT_S_ok 1 (by decide)) rfl rfl (Nat.le_of_ble_eq_true rfl) zd_S_init_18 (fun H locs hP hD hS => ?_)
  have hP : va_P (dC, dI) zz_cl [(a0, .inr (1, [.ref q1, .ref q2, .int 0, .int 0, .int 0])), (q1, .inl (cI, 310, .inl (fun _ => 0))), (q2, .inl (cZ, 31, .inl (fun _ => 0)))] H := hP
  have hD : va_D A [(a0, .inr (1, [.ref q1, .ref q2, .int 0, .int 0, .int 0])), (q1, .inl (cI, 310, .inl (fun _ => 0))), (q2, .inl (cZ, 31, .inl (fun _ => 0)))] := hD
  refine lv_aload_n hx hb zd_S_init_21 rfl (lv_at hl 0 rfl) ?_
  refine va_get (D := (dC, dI)) (ci := 1) (v := .ref q1) (C := zr_S) (T := zF_S) (N := 5) hx hb htB zi_S hown hK hP 0 rfl rfl 0 (by decide) (htB _ zk_58041e5d) (fun _ h9 => h9) rfl zd_S_init_22 ?_
  refine lv_iconst (v := (-1)) hx hb zd_S_init_25 (by decide) ?_
  refine zz_cv (va_runS (As := [.ref q1, .int (-1)]) (rest := []) ⟨hx, hb, hml, hown, htB⟩ (zc_F_fill l dC dI cI cZ cL q1 H.size (fun _ => 0) (-1)) (va_cwS 2 htB (zz_gS zk_329d1fb4 zk_13e9cc8e zk_da22ca91 zk_c25042f3) rfl rfl rfl zh_F_fill ⟨(Nat.le_of_ble_eq_true rfl), (Nat.le_of_ble_eq_true rfl)⟩) (zz_preS hP hD hK hE [1] (by decide) rfl) rfl rfl hl.1 rfl (lv_room (Nat.le_of_ble_eq_true rfl)) zd_S_init_26 ⟨(Nat.le_of_ble_eq_true rfl), (Nat.le_of_ble_eq_true rfl)⟩) hP hD hS hA [1] [0, 2] [0, 2, 1] rfl rfl (by decide) (by decide) (by decide) rfl (fun H locs hP hD hS => ?_)
  have hP : va_P (dC, dI) zz_cl [(a0, .inr (1, [.ref q1, .ref q2, .int 0, .int 0, .int 0])), (q1, .inl (cI, 310, .inl (zf_F_fill (fun _ => 0) (-1)))), (q2, .inl (cZ, 31, .inl (fun _ => 0)))] H := hP
  have hD : va_D A [(a0, .inr (1, [.ref q1, .ref q2, .int 0, .int 0, .int 0])), (q1, .inl (cI, 310, .inl (zf_F_fill (fun _ => 0) (-1)))), (q2, .inl (cZ, 31, .inl (fun _ => 0)))] := hD
  exact zz_uret (q1, q2) hx hb hr hlocks hK hP hD hS zd_S_init_29
def zs_C  : zu_C := ((fun _ => 0), (fun _ => 0), 0)
set_option maxHeartbeats 4000000 in
set_option maxRecDepth 100000 in
theorem zc_C_init (l : Launch) (dC : Nat → ClassId) (dI : Nat → Nat → Nat) (cI cZ cL : ClassId) (a0 : Nat) (sz : Nat)  : Met l zy_C_init (zz_ws zy_C_init zb_C_init 1 none) ({ frames := 1, cells := 2, slots := 40, locals := 20 } : Room) (va_Pc ([.ref a0] : List Value) (zz_P (dC, dI) (zz_ty cI cZ cL) sz [(a0, .inr (2, [.null, .null, .int 0]))])) (va_Qv (fun (_ : Nat × Nat) => True) (fun u => zz_B (dC, dI) (zz_ty cI cZ cL) (va_A [(a0, .inr (2, [.null, .null, .int 0]))] sz) ((fun (u : Nat × Nat) => zw_C cI cZ cL a0 u.1 u.2 zs_C) u)) (va_A [(a0, .inr (2, [.null, .null, .int 0]))] sz)) 2 40 (va_A [(a0, .inr (2, [.null, .null, .int 0]))] sz) := by
  refine zz_ofW (Q := fun A => (va_Qv (fun (_ : Nat × Nat) => True) (fun u => zz_B (dC, dI) (zz_ty cI cZ cL) A ((fun (u : Nat × Nat) => zw_C cI cZ cL a0 u.1 u.2 zs_C) u)) A)) (by decide) (Nat.le_of_ble_eq_true rfl) ?_
  intro p e s m below meth c A C0 hin0 hA hK hP hD _ ls hl
  obtain ⟨hx, hb, hr, hml, hown, htB, hlocks, hE⟩ := id C0
  have hin : meth.name = "<init>" := hin0 rfl
  have hS : va_S A s.heap s.heap [] := va_S.rf
  have hl : lv_has ls 1 [(0, .ref a0)] := hl
  refine lv_aload_n hx hb zd_C_init_0 rfl (lv_at hl 0 rfl) ?_
  refine W.objInit hx hb hown (htB _ zk_2e119070) (htB _ zk_e5db7b8b) (htB _ zk_2e240a33) rfl (by rw [hml]; exact hl.1) rfl zd_C_init_1 (Nat.le_of_ble_eq_true rfl) (Nat.le_of_ble_eq_true rfl) ?_
  refine W.eq (g2 := F0 m 4 ls []) rfl ?_
  refine lv_aload_n hx hb zd_C_init_4 rfl (lv_at hl 0 rfl) ?_
  refine lv_bipush (v := 20) hx hb zd_C_init_5 (by decide) ?_
  refine zz_newa (a0 := (20, .inl (fun _ => 0))) hx hb (htB _ zk_13eacad5) rfl 0 rfl (fun _ _ h1 h2 => Option.some.inj (h1.symm.trans h2)) hK hP hD hS hA (fun _ => rfl) (by decide) rfl (by decide) (Nat.le_of_ble_eq_true rfl) (Nat.le_of_ble_eq_true rfl) zd_C_init_7 (fun q1 H hP hD hS => ?_)
  have hP : va_P (dC, dI) zz_cl [(a0, .inr (2, [.null, .null, .int 0])), (q1, .inl (cI, 20, .inl (fun _ => 0)))] H := hP
  have hD : va_D A [(a0, .inr (2, [.null, .null, .int 0])), (q1, .inl (cI, 20, .inl (fun _ => 0)))] := hD
  refine va_putF (D := (dC, dI)) (ci := 2) (v := .ref q1) (C := zr_C) (T := zF_C) (N := 3) hx hb htB zi_C zT_C zT_C_ok zn_C hown hK hP hD hS 0 rfl rfl 0 (by decide) (htB _ zk_a8e5cdbb) (fun _ h9 => h9) rfl hin rfl (zT_C_ok 0 (by decide)) rfl rfl (Nat.le_of_ble_eq_true rfl) zd_C_init_9 (fun H locs hP hD hS => ?_)
  have hP : va_P (dC, dI) zz_cl [(a0, .inr (2, [.ref q1, .null, .int 0])), (q1, .inl (cI, 20, .inl (fun _ => 0)))] H := hP
  have hD : va_D A [(a0, .inr (2, [.ref q1, .null, .int 0])), (q1, .inl (cI, 20, .inl (fun _ => 0)))] := hD
  refine lv_aload_n hx hb zd_C_init_12 rfl (lv_at hl 0 rfl) ?_
  refine lv_bipush (v := 20) hx hb zd_C_init_13 (by decide) ?_
  refine zz_newa (a0 := (20, .inl (fun _ => 0))) hx hb (htB _ zk_13eacad5) rfl 0 rfl (fun _ _ h1 h2 => Option.some.inj (h1.symm.trans h2)) hK hP hD hS hA (fun _ => rfl) (by decide) rfl (by decide) (Nat.le_of_ble_eq_true rfl) (Nat.le_of_ble_eq_true rfl) zd_C_init_15 (fun q2 H hP hD hS => ?_)
  have hP : va_P (dC, dI) zz_cl [(a0, .inr (2, [.ref q1, .null, .int 0])), (q1, .inl (cI, 20, .inl (fun _ => 0))), (q2, .inl (cI, 20, .inl (fun _ => 0)))] H := hP
  have hD : va_D A [(a0, .inr (2, [.ref q1, .null, .int 0])), (q1, .inl (cI, 20, .inl (fun _ => 0))), (q2, .inl (cI, 20, .inl (fun _ => 0)))] := hD
  refine va_putF (D := (dC, dI)) (ci := 2) (v := .ref q2) (C := zr_C) (T := zF_C) (N := 3) hx hb htB zi_C zT_C zT_C_ok zn_C hown hK hP hD hS 0 rfl rfl 1 (by decide) (htB _ zk_ca3ffb47) (fun _ h9 => h9) rfl hin rfl (zT_C_ok 1 (by decide)) rfl rfl (Nat.le_of_ble_eq_true rfl) zd_C_init_17 (fun H locs hP hD hS => ?_)
  have hP : va_P (dC, dI) zz_cl [(a0, .inr (2, [.ref q1, .ref q2, .int 0])), (q1, .inl (cI, 20, .inl (fun _ => 0))), (q2, .inl (cI, 20, .inl (fun _ => 0)))] H := hP
  have hD : va_D A [(a0, .inr (2, [.ref q1, .ref q2, .int 0])), (q1, .inl (cI, 20, .inl (fun _ => 0))), (q2, .inl (cI, 20, .inl (fun _ => 0)))] := hD
  exact zz_uret (q1, q2) hx hb hr hlocks hK hP hD hS zd_C_init_20
def zs_P  : zu_P := ((fun _ => 0), (fun _ => 0), (fun _ => 0), 0)
set_option maxHeartbeats 4000000 in
set_option maxRecDepth 100000 in
theorem zc_P_init (l : Launch) (dC : Nat → ClassId) (dI : Nat → Nat → Nat) (cI cZ cL : ClassId) (a0 : Nat) (sz : Nat)  : Met l zy_P_init (zz_ws zy_P_init zb_P_init 1 none) ({ frames := 1, cells := 3, slots := 660, locals := 20 } : Room) (va_Pc ([.ref a0] : List Value) (zz_P (dC, dI) (zz_ty cI cZ cL) sz [(a0, .inr (3, [.null, .null, .null, .int 0]))])) (va_Qv (fun (_ : Nat × Nat × Nat) => True) (fun u => zz_B (dC, dI) (zz_ty cI cZ cL) (va_A [(a0, .inr (3, [.null, .null, .null, .int 0]))] sz) ((fun (u : Nat × Nat × Nat) => zw_P cI cZ cL a0 u.1 u.2.1 u.2.2 zs_P) u)) (va_A [(a0, .inr (3, [.null, .null, .null, .int 0]))] sz)) 3 660 (va_A [(a0, .inr (3, [.null, .null, .null, .int 0]))] sz) := by
  refine zz_ofW (Q := fun A => (va_Qv (fun (_ : Nat × Nat × Nat) => True) (fun u => zz_B (dC, dI) (zz_ty cI cZ cL) A ((fun (u : Nat × Nat × Nat) => zw_P cI cZ cL a0 u.1 u.2.1 u.2.2 zs_P) u)) A)) (by decide) (Nat.le_of_ble_eq_true rfl) ?_
  intro p e s m below meth c A C0 hin0 hA hK hP hD _ ls hl
  obtain ⟨hx, hb, hr, hml, hown, htB, hlocks, hE⟩ := id C0
  have hin : meth.name = "<init>" := hin0 rfl
  have hS : va_S A s.heap s.heap [] := va_S.rf
  have hl : lv_has ls 1 [(0, .ref a0)] := hl
  refine lv_aload_n hx hb zd_P_init_0 rfl (lv_at hl 0 rfl) ?_
  refine W.objInit hx hb hown (htB _ zk_e962722d) (htB _ zk_e5db7b8b) (htB _ zk_2e240a33) rfl (by rw [hml]; exact hl.1) rfl zd_P_init_1 (Nat.le_of_ble_eq_true rfl) (Nat.le_of_ble_eq_true rfl) ?_
  refine W.eq (g2 := F0 m 4 ls []) rfl ?_
  refine lv_aload_n hx hb zd_P_init_4 rfl (lv_at hl 0 rfl) ?_
  refine lv_bipush (v := 20) hx hb zd_P_init_5 (by decide) ?_
  refine zz_newa (a0 := (20, .inl (fun _ => 0))) hx hb (htB _ zk_13eacad5) rfl 0 rfl (fun _ _ h1 h2 => Option.some.inj (h1.symm.trans h2)) hK hP hD hS hA (fun _ => rfl) (by decide) rfl (by decide) (Nat.le_of_ble_eq_true rfl) (Nat.le_of_ble_eq_true rfl) zd_P_init_7 (fun q1 H hP hD hS => ?_)
  have hP : va_P (dC, dI) zz_cl [(a0, .inr (3, [.null, .null, .null, .int 0])), (q1, .inl (cI, 20, .inl (fun _ => 0)))] H := hP
  have hD : va_D A [(a0, .inr (3, [.null, .null, .null, .int 0])), (q1, .inl (cI, 20, .inl (fun _ => 0)))] := hD
  refine va_putF (D := (dC, dI)) (ci := 3) (v := .ref q1) (C := zr_P) (T := zF_P) (N := 4) hx hb htB zi_P zT_P zT_P_ok zn_P hown hK hP hD hS 0 rfl rfl 0 (by decide) (htB _ zk_9516c5fd) (fun _ h9 => h9) rfl hin rfl (zT_P_ok 0 (by decide)) rfl rfl (Nat.le_of_ble_eq_true rfl) zd_P_init_9 (fun H locs hP hD hS => ?_)
  have hP : va_P (dC, dI) zz_cl [(a0, .inr (3, [.ref q1, .null, .null, .int 0])), (q1, .inl (cI, 20, .inl (fun _ => 0)))] H := hP
  have hD : va_D A [(a0, .inr (3, [.ref q1, .null, .null, .int 0])), (q1, .inl (cI, 20, .inl (fun _ => 0)))] := hD
  refine lv_aload_n hx hb zd_P_init_12 rfl (lv_at hl 0 rfl) ?_
  refine lv_bipush (v := 20) hx hb zd_P_init_13 (by decide) ?_
  refine zz_newa (a0 := (20, .inl (fun _ => 0))) hx hb (htB _ zk_13eacad5) rfl 0 rfl (fun _ _ h1 h2 => Option.some.inj (h1.symm.trans h2)) hK hP hD hS hA (fun _ => rfl) (by decide) rfl (by decide) (Nat.le_of_ble_eq_true rfl) (Nat.le_of_ble_eq_true rfl) zd_P_init_15 (fun q2 H hP hD hS => ?_)
  have hP : va_P (dC, dI) zz_cl [(a0, .inr (3, [.ref q1, .null, .null, .int 0])), (q1, .inl (cI, 20, .inl (fun _ => 0))), (q2, .inl (cI, 20, .inl (fun _ => 0)))] H := hP
  have hD : va_D A [(a0, .inr (3, [.ref q1, .null, .null, .int 0])), (q1, .inl (cI, 20, .inl (fun _ => 0))), (q2, .inl (cI, 20, .inl (fun _ => 0)))] := hD
  refine va_putF (D := (dC, dI)) (ci := 3) (v := .ref q2) (C := zr_P) (T := zF_P) (N := 4) hx hb htB zi_P zT_P zT_P_ok zn_P hown hK hP hD hS 0 rfl rfl 1 (by decide) (htB _ zk_39cf8cfd) (fun _ h9 => h9) rfl hin rfl (zT_P_ok 1 (by decide)) rfl rfl (Nat.le_of_ble_eq_true rfl) zd_P_init_17 (fun H locs hP hD hS => ?_)
  have hP : va_P (dC, dI) zz_cl [(a0, .inr (3, [.ref q1, .ref q2, .null, .int 0])), (q1, .inl (cI, 20, .inl (fun _ => 0))), (q2, .inl (cI, 20, .inl (fun _ => 0)))] H := hP
  have hD : va_D A [(a0, .inr (3, [.ref q1, .ref q2, .null, .int 0])), (q1, .inl (cI, 20, .inl (fun _ => 0))), (q2, .inl (cI, 20, .inl (fun _ => 0)))] := hD
  refine lv_aload_n hx hb zd_P_init_20 rfl (lv_at hl 0 rfl) ?_
  refine lv_sipush (v := 620) hx hb zd_P_init_21 (by decide) ?_
  refine zz_newa (a0 := (620, .inl (fun _ => 0))) hx hb (htB _ zk_13eacad5) rfl 0 rfl (fun _ _ h1 h2 => Option.some.inj (h1.symm.trans h2)) hK hP hD hS hA (fun _ => rfl) (by decide) rfl (by decide) (Nat.le_of_ble_eq_true rfl) (Nat.le_of_ble_eq_true rfl) zd_P_init_24 (fun q3 H hP hD hS => ?_)
  have hP : va_P (dC, dI) zz_cl [(a0, .inr (3, [.ref q1, .ref q2, .null, .int 0])), (q1, .inl (cI, 20, .inl (fun _ => 0))), (q2, .inl (cI, 20, .inl (fun _ => 0))), (q3, .inl (cI, 620, .inl (fun _ => 0)))] H := hP
  have hD : va_D A [(a0, .inr (3, [.ref q1, .ref q2, .null, .int 0])), (q1, .inl (cI, 20, .inl (fun _ => 0))), (q2, .inl (cI, 20, .inl (fun _ => 0))), (q3, .inl (cI, 620, .inl (fun _ => 0)))] := hD
  refine va_putF (D := (dC, dI)) (ci := 3) (v := .ref q3) (C := zr_P) (T := zF_P) (N := 4) hx hb htB zi_P zT_P zT_P_ok zn_P hown hK hP hD hS 0 rfl rfl 2 (by decide) (htB _ zk_7cfd8f23) (fun _ h9 => h9) rfl hin rfl (zT_P_ok 2 (by decide)) rfl rfl (Nat.le_of_ble_eq_true rfl) zd_P_init_26 (fun H locs hP hD hS => ?_)
  have hP : va_P (dC, dI) zz_cl [(a0, .inr (3, [.ref q1, .ref q2, .ref q3, .int 0])), (q1, .inl (cI, 20, .inl (fun _ => 0))), (q2, .inl (cI, 20, .inl (fun _ => 0))), (q3, .inl (cI, 620, .inl (fun _ => 0)))] H := hP
  have hD : va_D A [(a0, .inr (3, [.ref q1, .ref q2, .ref q3, .int 0])), (q1, .inl (cI, 20, .inl (fun _ => 0))), (q2, .inl (cI, 20, .inl (fun _ => 0))), (q3, .inl (cI, 620, .inl (fun _ => 0)))] := hD
  exact zz_uret (q1, q2, q3) hx hb hr hlocks hK hP hD hS zd_P_init_29
def zs_R  : zu_R := (0, 0, 0, 0, 0, 0, 0, 0, 0)
set_option maxHeartbeats 4000000 in
set_option maxRecDepth 100000 in
theorem zc_R_init (l : Launch) (dC : Nat → ClassId) (dI : Nat → Nat → Nat) (cI cZ cL : ClassId) (a0 : Nat) (sz : Nat)  : Met l zy_R_init (zz_ws zy_R_init zb_R_init 1 none) ({ frames := 1, cells := 0, slots := 0, locals := 20 } : Room) (va_Pc ([.ref a0] : List Value) (zz_P (dC, dI) (zz_ty cI cZ cL) sz [(a0, .inr (4, [.int 0, .int 0, .int 0, .int 0, .int 0, .int 0, .long 0, .int 0, .int 0]))])) (va_Qv (fun (_ : Unit) => True) (fun u => zz_B (dC, dI) (zz_ty cI cZ cL) (va_A [(a0, .inr (4, [.int 0, .int 0, .int 0, .int 0, .int 0, .int 0, .long 0, .int 0, .int 0]))] sz) ((fun (u : Unit) => zw_R cI cZ cL a0 zs_R) u)) (va_A [(a0, .inr (4, [.int 0, .int 0, .int 0, .int 0, .int 0, .int 0, .long 0, .int 0, .int 0]))] sz)) 0 0 (va_A [(a0, .inr (4, [.int 0, .int 0, .int 0, .int 0, .int 0, .int 0, .long 0, .int 0, .int 0]))] sz) := by
  refine zz_ofW (Q := fun A => (va_Qv (fun (_ : Unit) => True) (fun u => zz_B (dC, dI) (zz_ty cI cZ cL) A ((fun (u : Unit) => zw_R cI cZ cL a0 zs_R) u)) A)) (by decide) (Nat.le_of_ble_eq_true rfl) ?_
  intro p e s m below meth c A C0 hin0 hA hK hP hD _ ls hl
  obtain ⟨hx, hb, hr, hml, hown, htB, hlocks, hE⟩ := id C0
  have hin : meth.name = "<init>" := hin0 rfl
  have hS : va_S A s.heap s.heap [] := va_S.rf
  have hl : lv_has ls 1 [(0, .ref a0)] := hl
  refine lv_aload_n hx hb zd_R_init_0 rfl (lv_at hl 0 rfl) ?_
  refine W.objInit hx hb hown (htB _ zk_4991e548) (htB _ zk_e5db7b8b) (htB _ zk_2e240a33) rfl (by rw [hml]; exact hl.1) rfl zd_R_init_1 (Nat.le_of_ble_eq_true rfl) (Nat.le_of_ble_eq_true rfl) ?_
  refine W.eq (g2 := F0 m 4 ls []) rfl ?_
  exact zz_uret () hx hb hr hlocks hK hP hD hS zd_R_init_4
def zs_X (p1 : Int32) : zu_X := ((if 0 < (if p1 < 3 then p1 else 3) then (if p1 < 3 then p1 else 3) else 0), zs_S, zs_C, zs_P, zs_R, 0, 0)
set_option maxHeartbeats 4000000 in
set_option maxRecDepth 100000 in
theorem zc_X_init (l : Launch) (dC : Nat → ClassId) (dI : Nat → Nat → Nat) (cI cZ cL : ClassId) (a0 : Nat) (sz : Nat) (p1 : Int32) : Met l zy_X_init (zz_ws zy_X_init zb_X_init 2 none) ({ frames := 2, cells := 11, slots := 1062, locals := 43 } : Room) (va_Pc ([.ref a0, .int p1] : List Value) (zz_P (dC, dI) (zz_ty cI cZ cL) sz [(a0, .inr (0, [.int 0, .null, .null, .null, .null, .int 0, .int 0]))])) (va_Qv (fun (_ : Nat × Nat × Nat × Nat × Nat × Nat × Nat × Nat × Nat × Nat × Nat) => True) (fun u => zz_B (dC, dI) (zz_ty cI cZ cL) (va_A [(a0, .inr (0, [.int 0, .null, .null, .null, .null, .int 0, .int 0]))] sz) ((fun (u : Nat × Nat × Nat × Nat × Nat × Nat × Nat × Nat × Nat × Nat × Nat) => zw_X cI cZ cL a0 u.1 u.2.1 u.2.2.1 u.2.2.2.1 u.2.2.2.2.1 u.2.2.2.2.2.1 u.2.2.2.2.2.2.1 u.2.2.2.2.2.2.2.1 u.2.2.2.2.2.2.2.2.1 u.2.2.2.2.2.2.2.2.2.1 u.2.2.2.2.2.2.2.2.2.2 (zs_X p1)) u)) (va_A [(a0, .inr (0, [.int 0, .null, .null, .null, .null, .int 0, .int 0]))] sz)) 11 1062 (va_A [(a0, .inr (0, [.int 0, .null, .null, .null, .null, .int 0, .int 0]))] sz) := by
  refine zz_ofW (Q := fun A => (va_Qv (fun (_ : Nat × Nat × Nat × Nat × Nat × Nat × Nat × Nat × Nat × Nat × Nat) => True) (fun u => zz_B (dC, dI) (zz_ty cI cZ cL) A ((fun (u : Nat × Nat × Nat × Nat × Nat × Nat × Nat × Nat × Nat × Nat × Nat) => zw_X cI cZ cL a0 u.1 u.2.1 u.2.2.1 u.2.2.2.1 u.2.2.2.2.1 u.2.2.2.2.2.1 u.2.2.2.2.2.2.1 u.2.2.2.2.2.2.2.1 u.2.2.2.2.2.2.2.2.1 u.2.2.2.2.2.2.2.2.2.1 u.2.2.2.2.2.2.2.2.2.2 (zs_X p1)) u)) A)) (by decide) (Nat.le_of_ble_eq_true rfl) ?_
  intro p e s m below meth c A C0 hin0 hA hK hP hD _ ls hl
  obtain ⟨hx, hb, hr, hml, hown, htB, hlocks, hE⟩ := id C0
  have hin : meth.name = "<init>" := hin0 rfl
  have hS : va_S A s.heap s.heap [] := va_S.rf
  have hl : lv_has ls 2 [(0, .ref a0), (1, .int p1)] := hl
  refine lv_aload_n hx hb zd_X_init_0 rfl (lv_at hl 0 rfl) ?_
  refine W.objInit hx hb hown (htB _ zk_df947653) (htB _ zk_e5db7b8b) (htB _ zk_2e240a33) rfl (by rw [hml]; exact hl.1) rfl zd_X_init_1 (Nat.le_of_ble_eq_true rfl) (Nat.le_of_ble_eq_true rfl) ?_
  refine W.eq (g2 := F0 m 4 ls []) rfl ?_
  refine lv_aload_n hx hb zd_X_init_4 rfl (lv_at hl 0 rfl) ?_
  refine lv_iconst (v := 0) hx hb zd_X_init_5 (by decide) ?_
  refine lv_iconst (v := 3) hx hb zd_X_init_6 (by decide) ?_
  refine lv_iload_n hx hb zd_X_init_7 rfl (lv_at hl 1 rfl) ?_
  refine va_mmin hx hb (hml.trans hl.1.symm) hown (htB _ zk_a0397f07) (htB _ zk_3e7adeb2) (htB _ zk_7b6e1f6d) (htB _ zk_281c46dd) (Nat.le_of_ble_eq_true rfl) (Nat.le_of_ble_eq_true rfl) (Nat.le_of_ble_eq_true rfl) (Nat.le_of_ble_eq_true rfl) zd_X_init_8 ?_
  refine va_mmax hx hb (hml.trans hl.1.symm) hown (htB _ zk_cd699fb6) (htB _ zk_0bcac700) (htB _ zk_7b6e1f6d) (htB _ zk_c583aea8) (Nat.le_of_ble_eq_true rfl) (Nat.le_of_ble_eq_true rfl) (Nat.le_of_ble_eq_true rfl) (Nat.le_of_ble_eq_true rfl) zd_X_init_11 ?_
  refine va_putF (D := (dC, dI)) (ci := 0) (v := .int (if 0 < (if p1 < 3 then p1 else 3) then (if p1 < 3 then p1 else 3) else 0)) (C := zr_X) (T := zF_X) (N := 7) hx hb htB zi_X zT_X zT_X_ok zn_X hown hK hP hD hS 0 rfl rfl 0 (by decide) (htB _ zk_26e1908c) (fun _ h9 => h9) rfl hin rfl (zT_X_ok 0 (by decide)) rfl rfl (Nat.le_of_ble_eq_true rfl) zd_X_init_14 (fun H locs hP hD hS => ?_)
  have hP : va_P (dC, dI) zz_cl [(a0, .inr (0, [.int (if 0 < (if p1 < 3 then p1 else 3) then (if p1 < 3 then p1 else 3) else 0), .null, .null, .null, .null, .int 0, .int 0]))] H := hP
  have hD : va_D A [(a0, .inr (0, [.int (if 0 < (if p1 < 3 then p1 else 3) then (if p1 < 3 then p1 else 3) else 0), .null, .null, .null, .null, .int 0, .int 0]))] := hD
  refine lv_aload_n hx hb zd_X_init_17 rfl (lv_at hl 0 rfl) ?_
  refine va_new (ci := 1) (fs := [.null, .null, .int 0, .int 0, .int 0]) (C := zr_S) (T := zF_S) (N := 5) hx hb htB zi_S zT_S zT_S_ok hown (htB _ zk_af3351a0) (htB _ zk_930ee45b) (htB _ zk_f1a23aa7) hK hP hD hS hA rfl (fun j hj => by rcases (show j = 0 ∨ j = 1 ∨ j = 2 ∨ j = 3 ∨ j = 4 by omega) with rfl | rfl | rfl | rfl | rfl <;> rfl) (Nat.le_of_ble_eq_true rfl) (Nat.le_of_ble_eq_true rfl) zd_X_init_18 (fun q1 H hP hD hS => ?_)
  have hP : va_P (dC, dI) zz_cl [(a0, .inr (0, [.int (if 0 < (if p1 < 3 then p1 else 3) then (if p1 < 3 then p1 else 3) else 0), .null, .null, .null, .null, .int 0, .int 0])), (q1, .inr (1, [.null, .null, .int 0, .int 0, .int 0]))] H := hP
  have hD : va_D A [(a0, .inr (0, [.int (if 0 < (if p1 < 3 then p1 else 3) then (if p1 < 3 then p1 else 3) else 0), .null, .null, .null, .null, .int 0, .int 0])), (q1, .inr (1, [.null, .null, .int 0, .int 0, .int 0]))] := hD
  refine lv_dup hx hb zd_X_init_21 rfl ?_
  refine zz_cu (va_runI (As := []) (rest := [.ref q1, .ref a0]) ⟨hx, hb, hml, hown, htB⟩ (zc_S_init l dC dI cI cZ cL q1 H.size) (cwI 0 htB (zz_gB zk_3092ee89) rfl rfl rfl (htB _ zk_f1a23aa7) (htB _ zk_29ad7562) (htB _ zk_c88da668) rfl zh_S_init ⟨(Nat.le_of_ble_eq_true rfl), (Nat.le_of_ble_eq_true rfl)⟩) (zz_preS hP hD hK hE [1] (by decide) rfl) rfl rfl hl.1 rfl (lv_room (Nat.le_of_ble_eq_true rfl)) zd_X_init_22 ⟨(Nat.le_of_ble_eq_true rfl), (Nat.le_of_ble_eq_true rfl)⟩) hP hD hS hA [1] [0] rfl rfl (by decide) (by decide) (fun u2 H locs hP hD hS => ?_)
  have hP : va_P (dC, dI) zz_cl [(a0, .inr (0, [.int (if 0 < (if p1 < 3 then p1 else 3) then (if p1 < 3 then p1 else 3) else 0), .null, .null, .null, .null, .int 0, .int 0])), (q1, .inr (1, [.ref u2.1, .ref u2.2, .int (nI (zf_F_fill (fun _ => 0) (-1), (fun _ => 0), 0, 0, 0).2.2.1), .int (zf_F_fill (fun _ => 0) (-1), (fun _ => 0), 0, 0, 0).2.2.2.1, .int (zf_F_fill (fun _ => 0) (-1), (fun _ => 0), 0, 0, 0).2.2.2.2])), (u2.1, .inl (cI, 310, .inl ((zf_F_fill (fun _ => 0) (-1), (fun _ => 0), 0, 0, 0).1))), (u2.2, .inl (cZ, 31, .inl ((zf_F_fill (fun _ => 0) (-1), (fun _ => 0), 0, 0, 0).2.1)))] H := hP
  have hD : va_D A [(a0, .inr (0, [.int (if 0 < (if p1 < 3 then p1 else 3) then (if p1 < 3 then p1 else 3) else 0), .null, .null, .null, .null, .int 0, .int 0])), (q1, .inr (1, [.ref u2.1, .ref u2.2, .int (nI (zf_F_fill (fun _ => 0) (-1), (fun _ => 0), 0, 0, 0).2.2.1), .int (zf_F_fill (fun _ => 0) (-1), (fun _ => 0), 0, 0, 0).2.2.2.1, .int (zf_F_fill (fun _ => 0) (-1), (fun _ => 0), 0, 0, 0).2.2.2.2])), (u2.1, .inl (cI, 310, .inl ((zf_F_fill (fun _ => 0) (-1), (fun _ => 0), 0, 0, 0).1))), (u2.2, .inl (cZ, 31, .inl ((zf_F_fill (fun _ => 0) (-1), (fun _ => 0), 0, 0, 0).2.1)))] := hD
  refine va_putF (D := (dC, dI)) (ci := 0) (v := .ref q1) (C := zr_X) (T := zF_X) (N := 7) hx hb htB zi_X zT_X zT_X_ok zn_X hown hK hP hD hS 0 rfl rfl 1 (by decide) (htB _ zk_ac6f5f75) (fun _ h9 => h9) rfl hin rfl (zT_X_ok 1 (by decide)) rfl rfl (Nat.le_of_ble_eq_true rfl) zd_X_init_25 (fun H locs hP hD hS => ?_)
  have hP : va_P (dC, dI) zz_cl [(a0, .inr (0, [.int (if 0 < (if p1 < 3 then p1 else 3) then (if p1 < 3 then p1 else 3) else 0), .ref q1, .null, .null, .null, .int 0, .int 0])), (q1, .inr (1, [.ref u2.1, .ref u2.2, .int (nI (zf_F_fill (fun _ => 0) (-1), (fun _ => 0), 0, 0, 0).2.2.1), .int (zf_F_fill (fun _ => 0) (-1), (fun _ => 0), 0, 0, 0).2.2.2.1, .int (zf_F_fill (fun _ => 0) (-1), (fun _ => 0), 0, 0, 0).2.2.2.2])), (u2.1, .inl (cI, 310, .inl ((zf_F_fill (fun _ => 0) (-1), (fun _ => 0), 0, 0, 0).1))), (u2.2, .inl (cZ, 31, .inl ((zf_F_fill (fun _ => 0) (-1), (fun _ => 0), 0, 0, 0).2.1)))] H := hP
  have hD : va_D A [(a0, .inr (0, [.int (if 0 < (if p1 < 3 then p1 else 3) then (if p1 < 3 then p1 else 3) else 0), .ref q1, .null, .null, .null, .int 0, .int 0])), (q1, .inr (1, [.ref u2.1, .ref u2.2, .int (nI (zf_F_fill (fun _ => 0) (-1), (fun _ => 0), 0, 0, 0).2.2.1), .int (zf_F_fill (fun _ => 0) (-1), (fun _ => 0), 0, 0, 0).2.2.2.1, .int (zf_F_fill (fun _ => 0) (-1), (fun _ => 0), 0, 0, 0).2.2.2.2])), (u2.1, .inl (cI, 310, .inl ((zf_F_fill (fun _ => 0) (-1), (fun _ => 0), 0, 0, 0).1))), (u2.2, .inl (cZ, 31, .inl ((zf_F_fill (fun _ => 0) (-1), (fun _ => 0), 0, 0, 0).2.1)))] := hD
  refine lv_aload_n hx hb zd_X_init_28 rfl (lv_at hl 0 rfl) ?_
  refine va_new (ci := 2) (fs := [.null, .null, .int 0]) (C := zr_C) (T := zF_C) (N := 3) hx hb htB zi_C zT_C zT_C_ok hown (htB _ zk_c2b61d8d) (htB _ zk_56915c68) (htB _ zk_e143c677) hK hP hD hS hA rfl (fun j hj => by rcases (show j = 0 ∨ j = 1 ∨ j = 2 by omega) with rfl | rfl | rfl <;> rfl) (Nat.le_of_ble_eq_true rfl) (Nat.le_of_ble_eq_true rfl) zd_X_init_29 (fun q3 H hP hD hS => ?_)
  have hP : va_P (dC, dI) zz_cl [(a0, .inr (0, [.int (if 0 < (if p1 < 3 then p1 else 3) then (if p1 < 3 then p1 else 3) else 0), .ref q1, .null, .null, .null, .int 0, .int 0])), (q1, .inr (1, [.ref u2.1, .ref u2.2, .int (nI (zf_F_fill (fun _ => 0) (-1), (fun _ => 0), 0, 0, 0).2.2.1), .int (zf_F_fill (fun _ => 0) (-1), (fun _ => 0), 0, 0, 0).2.2.2.1, .int (zf_F_fill (fun _ => 0) (-1), (fun _ => 0), 0, 0, 0).2.2.2.2])), (u2.1, .inl (cI, 310, .inl ((zf_F_fill (fun _ => 0) (-1), (fun _ => 0), 0, 0, 0).1))), (u2.2, .inl (cZ, 31, .inl ((zf_F_fill (fun _ => 0) (-1), (fun _ => 0), 0, 0, 0).2.1))), (q3, .inr (2, [.null, .null, .int 0]))] H := hP
  have hD : va_D A [(a0, .inr (0, [.int (if 0 < (if p1 < 3 then p1 else 3) then (if p1 < 3 then p1 else 3) else 0), .ref q1, .null, .null, .null, .int 0, .int 0])), (q1, .inr (1, [.ref u2.1, .ref u2.2, .int (nI (zf_F_fill (fun _ => 0) (-1), (fun _ => 0), 0, 0, 0).2.2.1), .int (zf_F_fill (fun _ => 0) (-1), (fun _ => 0), 0, 0, 0).2.2.2.1, .int (zf_F_fill (fun _ => 0) (-1), (fun _ => 0), 0, 0, 0).2.2.2.2])), (u2.1, .inl (cI, 310, .inl ((zf_F_fill (fun _ => 0) (-1), (fun _ => 0), 0, 0, 0).1))), (u2.2, .inl (cZ, 31, .inl ((zf_F_fill (fun _ => 0) (-1), (fun _ => 0), 0, 0, 0).2.1))), (q3, .inr (2, [.null, .null, .int 0]))] := hD
  refine lv_dup hx hb zd_X_init_32 rfl ?_
  refine zz_cu (va_runIN (As := []) (rest := [.ref q3, .ref a0]) ⟨hx, hb, hml, hown, htB⟩ (zc_C_init l dC dI cI cZ cL q3 H.size) ⟨va_cnB 0 htB (zz_gB zk_e11a494f) rfl rfl rfl (hE.1 _ (List.mem_of_getElem? (i := 4) rfl)) (htB _ zk_e143c677) zh_C_init ⟨(Nat.le_of_ble_eq_true rfl), (Nat.le_of_ble_eq_true rfl)⟩, rfl, htB _ zk_091531bf⟩ (zz_preS hP hD hK hE [4] (by decide) rfl) rfl rfl hl.1 rfl (lv_room (Nat.le_of_ble_eq_true rfl)) zd_X_init_33 ⟨(Nat.le_of_ble_eq_true rfl), (Nat.le_of_ble_eq_true rfl)⟩) hP hD hS hA [4] [0, 1, 2, 3] rfl rfl (by decide) (by decide) (fun u4 H locs hP hD hS => ?_)
  have hP : va_P (dC, dI) zz_cl [(a0, .inr (0, [.int (if 0 < (if p1 < 3 then p1 else 3) then (if p1 < 3 then p1 else 3) else 0), .ref q1, .null, .null, .null, .int 0, .int 0])), (q1, .inr (1, [.ref u2.1, .ref u2.2, .int (nI (zf_F_fill (fun _ => 0) (-1), (fun _ => 0), 0, 0, 0).2.2.1), .int (zf_F_fill (fun _ => 0) (-1), (fun _ => 0), 0, 0, 0).2.2.2.1, .int (zf_F_fill (fun _ => 0) (-1), (fun _ => 0), 0, 0, 0).2.2.2.2])), (u2.1, .inl (cI, 310, .inl ((zf_F_fill (fun _ => 0) (-1), (fun _ => 0), 0, 0, 0).1))), (u2.2, .inl (cZ, 31, .inl ((zf_F_fill (fun _ => 0) (-1), (fun _ => 0), 0, 0, 0).2.1))), (q3, .inr (2, [.ref u4.1, .ref u4.2, .int (nI ((fun _ => 0), (fun _ => 0), 0).2.2)])), (u4.1, .inl (cI, 20, .inl (((fun _ => 0), (fun _ => 0), 0).1))), (u4.2, .inl (cI, 20, .inl (((fun _ => 0), (fun _ => 0), 0).2.1)))] H := hP
  have hD : va_D A [(a0, .inr (0, [.int (if 0 < (if p1 < 3 then p1 else 3) then (if p1 < 3 then p1 else 3) else 0), .ref q1, .null, .null, .null, .int 0, .int 0])), (q1, .inr (1, [.ref u2.1, .ref u2.2, .int (nI (zf_F_fill (fun _ => 0) (-1), (fun _ => 0), 0, 0, 0).2.2.1), .int (zf_F_fill (fun _ => 0) (-1), (fun _ => 0), 0, 0, 0).2.2.2.1, .int (zf_F_fill (fun _ => 0) (-1), (fun _ => 0), 0, 0, 0).2.2.2.2])), (u2.1, .inl (cI, 310, .inl ((zf_F_fill (fun _ => 0) (-1), (fun _ => 0), 0, 0, 0).1))), (u2.2, .inl (cZ, 31, .inl ((zf_F_fill (fun _ => 0) (-1), (fun _ => 0), 0, 0, 0).2.1))), (q3, .inr (2, [.ref u4.1, .ref u4.2, .int (nI ((fun _ => 0), (fun _ => 0), 0).2.2)])), (u4.1, .inl (cI, 20, .inl (((fun _ => 0), (fun _ => 0), 0).1))), (u4.2, .inl (cI, 20, .inl (((fun _ => 0), (fun _ => 0), 0).2.1)))] := hD
  refine va_putF (D := (dC, dI)) (ci := 0) (v := .ref q3) (C := zr_X) (T := zF_X) (N := 7) hx hb htB zi_X zT_X zT_X_ok zn_X hown hK hP hD hS 0 rfl rfl 2 (by decide) (htB _ zk_92bcf320) (fun _ h9 => h9) rfl hin rfl (zT_X_ok 2 (by decide)) rfl rfl (Nat.le_of_ble_eq_true rfl) zd_X_init_36 (fun H locs hP hD hS => ?_)
  have hP : va_P (dC, dI) zz_cl [(a0, .inr (0, [.int (if 0 < (if p1 < 3 then p1 else 3) then (if p1 < 3 then p1 else 3) else 0), .ref q1, .ref q3, .null, .null, .int 0, .int 0])), (q1, .inr (1, [.ref u2.1, .ref u2.2, .int (nI (zf_F_fill (fun _ => 0) (-1), (fun _ => 0), 0, 0, 0).2.2.1), .int (zf_F_fill (fun _ => 0) (-1), (fun _ => 0), 0, 0, 0).2.2.2.1, .int (zf_F_fill (fun _ => 0) (-1), (fun _ => 0), 0, 0, 0).2.2.2.2])), (u2.1, .inl (cI, 310, .inl ((zf_F_fill (fun _ => 0) (-1), (fun _ => 0), 0, 0, 0).1))), (u2.2, .inl (cZ, 31, .inl ((zf_F_fill (fun _ => 0) (-1), (fun _ => 0), 0, 0, 0).2.1))), (q3, .inr (2, [.ref u4.1, .ref u4.2, .int (nI ((fun _ => 0), (fun _ => 0), 0).2.2)])), (u4.1, .inl (cI, 20, .inl (((fun _ => 0), (fun _ => 0), 0).1))), (u4.2, .inl (cI, 20, .inl (((fun _ => 0), (fun _ => 0), 0).2.1)))] H := hP
  have hD : va_D A [(a0, .inr (0, [.int (if 0 < (if p1 < 3 then p1 else 3) then (if p1 < 3 then p1 else 3) else 0), .ref q1, .ref q3, .null, .null, .int 0, .int 0])), (q1, .inr (1, [.ref u2.1, .ref u2.2, .int (nI (zf_F_fill (fun _ => 0) (-1), (fun _ => 0), 0, 0, 0).2.2.1), .int (zf_F_fill (fun _ => 0) (-1), (fun _ => 0), 0, 0, 0).2.2.2.1, .int (zf_F_fill (fun _ => 0) (-1), (fun _ => 0), 0, 0, 0).2.2.2.2])), (u2.1, .inl (cI, 310, .inl ((zf_F_fill (fun _ => 0) (-1), (fun _ => 0), 0, 0, 0).1))), (u2.2, .inl (cZ, 31, .inl ((zf_F_fill (fun _ => 0) (-1), (fun _ => 0), 0, 0, 0).2.1))), (q3, .inr (2, [.ref u4.1, .ref u4.2, .int (nI ((fun _ => 0), (fun _ => 0), 0).2.2)])), (u4.1, .inl (cI, 20, .inl (((fun _ => 0), (fun _ => 0), 0).1))), (u4.2, .inl (cI, 20, .inl (((fun _ => 0), (fun _ => 0), 0).2.1)))] := hD
  refine lv_aload_n hx hb zd_X_init_39 rfl (lv_at hl 0 rfl) ?_
  refine va_new (ci := 3) (fs := [.null, .null, .null, .int 0]) (C := zr_P) (T := zF_P) (N := 4) hx hb htB zi_P zT_P zT_P_ok hown (htB _ zk_159f5ac1) (htB _ zk_6090c1cf) (htB _ zk_f301a5bc) hK hP hD hS hA rfl (fun j hj => by rcases (show j = 0 ∨ j = 1 ∨ j = 2 ∨ j = 3 by omega) with rfl | rfl | rfl | rfl <;> rfl) (Nat.le_of_ble_eq_true rfl) (Nat.le_of_ble_eq_true rfl) zd_X_init_40 (fun q5 H hP hD hS => ?_)
  have hP : va_P (dC, dI) zz_cl [(a0, .inr (0, [.int (if 0 < (if p1 < 3 then p1 else 3) then (if p1 < 3 then p1 else 3) else 0), .ref q1, .ref q3, .null, .null, .int 0, .int 0])), (q1, .inr (1, [.ref u2.1, .ref u2.2, .int (nI (zf_F_fill (fun _ => 0) (-1), (fun _ => 0), 0, 0, 0).2.2.1), .int (zf_F_fill (fun _ => 0) (-1), (fun _ => 0), 0, 0, 0).2.2.2.1, .int (zf_F_fill (fun _ => 0) (-1), (fun _ => 0), 0, 0, 0).2.2.2.2])), (u2.1, .inl (cI, 310, .inl ((zf_F_fill (fun _ => 0) (-1), (fun _ => 0), 0, 0, 0).1))), (u2.2, .inl (cZ, 31, .inl ((zf_F_fill (fun _ => 0) (-1), (fun _ => 0), 0, 0, 0).2.1))), (q3, .inr (2, [.ref u4.1, .ref u4.2, .int (nI ((fun _ => 0), (fun _ => 0), 0).2.2)])), (u4.1, .inl (cI, 20, .inl (((fun _ => 0), (fun _ => 0), 0).1))), (u4.2, .inl (cI, 20, .inl (((fun _ => 0), (fun _ => 0), 0).2.1))), (q5, .inr (3, [.null, .null, .null, .int 0]))] H := hP
  have hD : va_D A [(a0, .inr (0, [.int (if 0 < (if p1 < 3 then p1 else 3) then (if p1 < 3 then p1 else 3) else 0), .ref q1, .ref q3, .null, .null, .int 0, .int 0])), (q1, .inr (1, [.ref u2.1, .ref u2.2, .int (nI (zf_F_fill (fun _ => 0) (-1), (fun _ => 0), 0, 0, 0).2.2.1), .int (zf_F_fill (fun _ => 0) (-1), (fun _ => 0), 0, 0, 0).2.2.2.1, .int (zf_F_fill (fun _ => 0) (-1), (fun _ => 0), 0, 0, 0).2.2.2.2])), (u2.1, .inl (cI, 310, .inl ((zf_F_fill (fun _ => 0) (-1), (fun _ => 0), 0, 0, 0).1))), (u2.2, .inl (cZ, 31, .inl ((zf_F_fill (fun _ => 0) (-1), (fun _ => 0), 0, 0, 0).2.1))), (q3, .inr (2, [.ref u4.1, .ref u4.2, .int (nI ((fun _ => 0), (fun _ => 0), 0).2.2)])), (u4.1, .inl (cI, 20, .inl (((fun _ => 0), (fun _ => 0), 0).1))), (u4.2, .inl (cI, 20, .inl (((fun _ => 0), (fun _ => 0), 0).2.1))), (q5, .inr (3, [.null, .null, .null, .int 0]))] := hD
  refine lv_dup hx hb zd_X_init_43 rfl ?_
  refine zz_cu (va_runIN (As := []) (rest := [.ref q5, .ref a0]) ⟨hx, hb, hml, hown, htB⟩ (zc_P_init l dC dI cI cZ cL q5 H.size) ⟨va_cnB 0 htB (zz_gB zk_ade49cb5) rfl rfl rfl (hE.1 _ (List.mem_of_getElem? (i := 5) rfl)) (htB _ zk_f301a5bc) zh_P_init ⟨(Nat.le_of_ble_eq_true rfl), (Nat.le_of_ble_eq_true rfl)⟩, rfl, htB _ zk_396234eb⟩ (zz_preS hP hD hK hE [7] (by decide) rfl) rfl rfl hl.1 rfl (lv_room (Nat.le_of_ble_eq_true rfl)) zd_X_init_44 ⟨(Nat.le_of_ble_eq_true rfl), (Nat.le_of_ble_eq_true rfl)⟩) hP hD hS hA [7] [0, 1, 2, 3, 4, 5, 6] rfl rfl (by decide) (by decide) (fun u6 H locs hP hD hS => ?_)
  have hP : va_P (dC, dI) zz_cl [(a0, .inr (0, [.int (if 0 < (if p1 < 3 then p1 else 3) then (if p1 < 3 then p1 else 3) else 0), .ref q1, .ref q3, .null, .null, .int 0, .int 0])), (q1, .inr (1, [.ref u2.1, .ref u2.2, .int (nI (zf_F_fill (fun _ => 0) (-1), (fun _ => 0), 0, 0, 0).2.2.1), .int (zf_F_fill (fun _ => 0) (-1), (fun _ => 0), 0, 0, 0).2.2.2.1, .int (zf_F_fill (fun _ => 0) (-1), (fun _ => 0), 0, 0, 0).2.2.2.2])), (u2.1, .inl (cI, 310, .inl ((zf_F_fill (fun _ => 0) (-1), (fun _ => 0), 0, 0, 0).1))), (u2.2, .inl (cZ, 31, .inl ((zf_F_fill (fun _ => 0) (-1), (fun _ => 0), 0, 0, 0).2.1))), (q3, .inr (2, [.ref u4.1, .ref u4.2, .int (nI ((fun _ => 0), (fun _ => 0), 0).2.2)])), (u4.1, .inl (cI, 20, .inl (((fun _ => 0), (fun _ => 0), 0).1))), (u4.2, .inl (cI, 20, .inl (((fun _ => 0), (fun _ => 0), 0).2.1))), (q5, .inr (3, [.ref u6.1, .ref u6.2.1, .ref u6.2.2, .int (nI ((fun _ => 0), (fun _ => 0), (fun _ => 0), 0).2.2.2)])), (u6.1, .inl (cI, 20, .inl (((fun _ => 0), (fun _ => 0), (fun _ => 0), 0).1))), (u6.2.1, .inl (cI, 20, .inl (((fun _ => 0), (fun _ => 0), (fun _ => 0), 0).2.1))), (u6.2.2, .inl (cI, 620, .inl (((fun _ => 0), (fun _ => 0), (fun _ => 0), 0).2.2.1)))] H := hP
  have hD : va_D A [(a0, .inr (0, [.int (if 0 < (if p1 < 3 then p1 else 3) then (if p1 < 3 then p1 else 3) else 0), .ref q1, .ref q3, .null, .null, .int 0, .int 0])), (q1, .inr (1, [.ref u2.1, .ref u2.2, .int (nI (zf_F_fill (fun _ => 0) (-1), (fun _ => 0), 0, 0, 0).2.2.1), .int (zf_F_fill (fun _ => 0) (-1), (fun _ => 0), 0, 0, 0).2.2.2.1, .int (zf_F_fill (fun _ => 0) (-1), (fun _ => 0), 0, 0, 0).2.2.2.2])), (u2.1, .inl (cI, 310, .inl ((zf_F_fill (fun _ => 0) (-1), (fun _ => 0), 0, 0, 0).1))), (u2.2, .inl (cZ, 31, .inl ((zf_F_fill (fun _ => 0) (-1), (fun _ => 0), 0, 0, 0).2.1))), (q3, .inr (2, [.ref u4.1, .ref u4.2, .int (nI ((fun _ => 0), (fun _ => 0), 0).2.2)])), (u4.1, .inl (cI, 20, .inl (((fun _ => 0), (fun _ => 0), 0).1))), (u4.2, .inl (cI, 20, .inl (((fun _ => 0), (fun _ => 0), 0).2.1))), (q5, .inr (3, [.ref u6.1, .ref u6.2.1, .ref u6.2.2, .int (nI ((fun _ => 0), (fun _ => 0), (fun _ => 0), 0).2.2.2)])), (u6.1, .inl (cI, 20, .inl (((fun _ => 0), (fun _ => 0), (fun _ => 0), 0).1))), (u6.2.1, .inl (cI, 20, .inl (((fun _ => 0), (fun _ => 0), (fun _ => 0), 0).2.1))), (u6.2.2, .inl (cI, 620, .inl (((fun _ => 0), (fun _ => 0), (fun _ => 0), 0).2.2.1)))] := hD
  refine va_putF (D := (dC, dI)) (ci := 0) (v := .ref q5) (C := zr_X) (T := zF_X) (N := 7) hx hb htB zi_X zT_X zT_X_ok zn_X hown hK hP hD hS 0 rfl rfl 3 (by decide) (htB _ zk_4f9de2f5) (fun _ h9 => h9) rfl hin rfl (zT_X_ok 3 (by decide)) rfl rfl (Nat.le_of_ble_eq_true rfl) zd_X_init_47 (fun H locs hP hD hS => ?_)
  have hP : va_P (dC, dI) zz_cl [(a0, .inr (0, [.int (if 0 < (if p1 < 3 then p1 else 3) then (if p1 < 3 then p1 else 3) else 0), .ref q1, .ref q3, .ref q5, .null, .int 0, .int 0])), (q1, .inr (1, [.ref u2.1, .ref u2.2, .int (nI (zf_F_fill (fun _ => 0) (-1), (fun _ => 0), 0, 0, 0).2.2.1), .int (zf_F_fill (fun _ => 0) (-1), (fun _ => 0), 0, 0, 0).2.2.2.1, .int (zf_F_fill (fun _ => 0) (-1), (fun _ => 0), 0, 0, 0).2.2.2.2])), (u2.1, .inl (cI, 310, .inl ((zf_F_fill (fun _ => 0) (-1), (fun _ => 0), 0, 0, 0).1))), (u2.2, .inl (cZ, 31, .inl ((zf_F_fill (fun _ => 0) (-1), (fun _ => 0), 0, 0, 0).2.1))), (q3, .inr (2, [.ref u4.1, .ref u4.2, .int (nI ((fun _ => 0), (fun _ => 0), 0).2.2)])), (u4.1, .inl (cI, 20, .inl (((fun _ => 0), (fun _ => 0), 0).1))), (u4.2, .inl (cI, 20, .inl (((fun _ => 0), (fun _ => 0), 0).2.1))), (q5, .inr (3, [.ref u6.1, .ref u6.2.1, .ref u6.2.2, .int (nI ((fun _ => 0), (fun _ => 0), (fun _ => 0), 0).2.2.2)])), (u6.1, .inl (cI, 20, .inl (((fun _ => 0), (fun _ => 0), (fun _ => 0), 0).1))), (u6.2.1, .inl (cI, 20, .inl (((fun _ => 0), (fun _ => 0), (fun _ => 0), 0).2.1))), (u6.2.2, .inl (cI, 620, .inl (((fun _ => 0), (fun _ => 0), (fun _ => 0), 0).2.2.1)))] H := hP
  have hD : va_D A [(a0, .inr (0, [.int (if 0 < (if p1 < 3 then p1 else 3) then (if p1 < 3 then p1 else 3) else 0), .ref q1, .ref q3, .ref q5, .null, .int 0, .int 0])), (q1, .inr (1, [.ref u2.1, .ref u2.2, .int (nI (zf_F_fill (fun _ => 0) (-1), (fun _ => 0), 0, 0, 0).2.2.1), .int (zf_F_fill (fun _ => 0) (-1), (fun _ => 0), 0, 0, 0).2.2.2.1, .int (zf_F_fill (fun _ => 0) (-1), (fun _ => 0), 0, 0, 0).2.2.2.2])), (u2.1, .inl (cI, 310, .inl ((zf_F_fill (fun _ => 0) (-1), (fun _ => 0), 0, 0, 0).1))), (u2.2, .inl (cZ, 31, .inl ((zf_F_fill (fun _ => 0) (-1), (fun _ => 0), 0, 0, 0).2.1))), (q3, .inr (2, [.ref u4.1, .ref u4.2, .int (nI ((fun _ => 0), (fun _ => 0), 0).2.2)])), (u4.1, .inl (cI, 20, .inl (((fun _ => 0), (fun _ => 0), 0).1))), (u4.2, .inl (cI, 20, .inl (((fun _ => 0), (fun _ => 0), 0).2.1))), (q5, .inr (3, [.ref u6.1, .ref u6.2.1, .ref u6.2.2, .int (nI ((fun _ => 0), (fun _ => 0), (fun _ => 0), 0).2.2.2)])), (u6.1, .inl (cI, 20, .inl (((fun _ => 0), (fun _ => 0), (fun _ => 0), 0).1))), (u6.2.1, .inl (cI, 20, .inl (((fun _ => 0), (fun _ => 0), (fun _ => 0), 0).2.1))), (u6.2.2, .inl (cI, 620, .inl (((fun _ => 0), (fun _ => 0), (fun _ => 0), 0).2.2.1)))] := hD
  refine lv_aload_n hx hb zd_X_init_50 rfl (lv_at hl 0 rfl) ?_
  refine va_new (ci := 4) (fs := [.int 0, .int 0, .int 0, .int 0, .int 0, .int 0, .long 0, .int 0, .int 0]) (C := zr_R) (T := zF_R) (N := 9) hx hb htB zi_R zT_R zT_R_ok hown (htB _ zk_a0bc87e0) (htB _ zk_596c5848) (htB _ zk_136d7407) hK hP hD hS hA rfl (fun j hj => by rcases (show j = 0 ∨ j = 1 ∨ j = 2 ∨ j = 3 ∨ j = 4 ∨ j = 5 ∨ j = 6 ∨ j = 7 ∨ j = 8 by omega) with rfl | rfl | rfl | rfl | rfl | rfl | rfl | rfl | rfl <;> rfl) (Nat.le_of_ble_eq_true rfl) (Nat.le_of_ble_eq_true rfl) zd_X_init_51 (fun q7 H hP hD hS => ?_)
  have hP : va_P (dC, dI) zz_cl [(a0, .inr (0, [.int (if 0 < (if p1 < 3 then p1 else 3) then (if p1 < 3 then p1 else 3) else 0), .ref q1, .ref q3, .ref q5, .null, .int 0, .int 0])), (q1, .inr (1, [.ref u2.1, .ref u2.2, .int (nI (zf_F_fill (fun _ => 0) (-1), (fun _ => 0), 0, 0, 0).2.2.1), .int (zf_F_fill (fun _ => 0) (-1), (fun _ => 0), 0, 0, 0).2.2.2.1, .int (zf_F_fill (fun _ => 0) (-1), (fun _ => 0), 0, 0, 0).2.2.2.2])), (u2.1, .inl (cI, 310, .inl ((zf_F_fill (fun _ => 0) (-1), (fun _ => 0), 0, 0, 0).1))), (u2.2, .inl (cZ, 31, .inl ((zf_F_fill (fun _ => 0) (-1), (fun _ => 0), 0, 0, 0).2.1))), (q3, .inr (2, [.ref u4.1, .ref u4.2, .int (nI ((fun _ => 0), (fun _ => 0), 0).2.2)])), (u4.1, .inl (cI, 20, .inl (((fun _ => 0), (fun _ => 0), 0).1))), (u4.2, .inl (cI, 20, .inl (((fun _ => 0), (fun _ => 0), 0).2.1))), (q5, .inr (3, [.ref u6.1, .ref u6.2.1, .ref u6.2.2, .int (nI ((fun _ => 0), (fun _ => 0), (fun _ => 0), 0).2.2.2)])), (u6.1, .inl (cI, 20, .inl (((fun _ => 0), (fun _ => 0), (fun _ => 0), 0).1))), (u6.2.1, .inl (cI, 20, .inl (((fun _ => 0), (fun _ => 0), (fun _ => 0), 0).2.1))), (u6.2.2, .inl (cI, 620, .inl (((fun _ => 0), (fun _ => 0), (fun _ => 0), 0).2.2.1))), (q7, .inr (4, [.int 0, .int 0, .int 0, .int 0, .int 0, .int 0, .long 0, .int 0, .int 0]))] H := hP
  have hD : va_D A [(a0, .inr (0, [.int (if 0 < (if p1 < 3 then p1 else 3) then (if p1 < 3 then p1 else 3) else 0), .ref q1, .ref q3, .ref q5, .null, .int 0, .int 0])), (q1, .inr (1, [.ref u2.1, .ref u2.2, .int (nI (zf_F_fill (fun _ => 0) (-1), (fun _ => 0), 0, 0, 0).2.2.1), .int (zf_F_fill (fun _ => 0) (-1), (fun _ => 0), 0, 0, 0).2.2.2.1, .int (zf_F_fill (fun _ => 0) (-1), (fun _ => 0), 0, 0, 0).2.2.2.2])), (u2.1, .inl (cI, 310, .inl ((zf_F_fill (fun _ => 0) (-1), (fun _ => 0), 0, 0, 0).1))), (u2.2, .inl (cZ, 31, .inl ((zf_F_fill (fun _ => 0) (-1), (fun _ => 0), 0, 0, 0).2.1))), (q3, .inr (2, [.ref u4.1, .ref u4.2, .int (nI ((fun _ => 0), (fun _ => 0), 0).2.2)])), (u4.1, .inl (cI, 20, .inl (((fun _ => 0), (fun _ => 0), 0).1))), (u4.2, .inl (cI, 20, .inl (((fun _ => 0), (fun _ => 0), 0).2.1))), (q5, .inr (3, [.ref u6.1, .ref u6.2.1, .ref u6.2.2, .int (nI ((fun _ => 0), (fun _ => 0), (fun _ => 0), 0).2.2.2)])), (u6.1, .inl (cI, 20, .inl (((fun _ => 0), (fun _ => 0), (fun _ => 0), 0).1))), (u6.2.1, .inl (cI, 20, .inl (((fun _ => 0), (fun _ => 0), (fun _ => 0), 0).2.1))), (u6.2.2, .inl (cI, 620, .inl (((fun _ => 0), (fun _ => 0), (fun _ => 0), 0).2.2.1))), (q7, .inr (4, [.int 0, .int 0, .int 0, .int 0, .int 0, .int 0, .long 0, .int 0, .int 0]))] := hD
  refine lv_dup hx hb zd_X_init_54 rfl ?_
  refine zz_cu (va_runIN (As := []) (rest := [.ref q7, .ref a0]) ⟨hx, hb, hml, hown, htB⟩ (zc_R_init l dC dI cI cZ cL q7 H.size) ⟨va_cnB 0 htB (zz_gB zk_ece91417) rfl rfl rfl (hE.1 _ (List.mem_of_getElem? (i := 6) rfl)) (htB _ zk_136d7407) zh_R_init ⟨(Nat.le_of_ble_eq_true rfl), (Nat.le_of_ble_eq_true rfl)⟩, rfl, htB _ zk_6041b6ef⟩ (zz_preS hP hD hK hE [11] (by decide) rfl) rfl rfl hl.1 rfl (lv_room (Nat.le_of_ble_eq_true rfl)) zd_X_init_55 ⟨(Nat.le_of_ble_eq_true rfl), (Nat.le_of_ble_eq_true rfl)⟩) hP hD hS hA [11] [0, 1, 2, 3, 4, 5, 6, 7, 8, 9, 10] rfl rfl (by decide) (by decide) (fun u8 H locs hP hD hS => ?_)
  have hP : va_P (dC, dI) zz_cl [(a0, .inr (0, [.int (if 0 < (if p1 < 3 then p1 else 3) then (if p1 < 3 then p1 else 3) else 0), .ref q1, .ref q3, .ref q5, .null, .int 0, .int 0])), (q1, .inr (1, [.ref u2.1, .ref u2.2, .int (nI (zf_F_fill (fun _ => 0) (-1), (fun _ => 0), 0, 0, 0).2.2.1), .int (zf_F_fill (fun _ => 0) (-1), (fun _ => 0), 0, 0, 0).2.2.2.1, .int (zf_F_fill (fun _ => 0) (-1), (fun _ => 0), 0, 0, 0).2.2.2.2])), (u2.1, .inl (cI, 310, .inl ((zf_F_fill (fun _ => 0) (-1), (fun _ => 0), 0, 0, 0).1))), (u2.2, .inl (cZ, 31, .inl ((zf_F_fill (fun _ => 0) (-1), (fun _ => 0), 0, 0, 0).2.1))), (q3, .inr (2, [.ref u4.1, .ref u4.2, .int (nI ((fun _ => 0), (fun _ => 0), 0).2.2)])), (u4.1, .inl (cI, 20, .inl (((fun _ => 0), (fun _ => 0), 0).1))), (u4.2, .inl (cI, 20, .inl (((fun _ => 0), (fun _ => 0), 0).2.1))), (q5, .inr (3, [.ref u6.1, .ref u6.2.1, .ref u6.2.2, .int (nI ((fun _ => 0), (fun _ => 0), (fun _ => 0), 0).2.2.2)])), (u6.1, .inl (cI, 20, .inl (((fun _ => 0), (fun _ => 0), (fun _ => 0), 0).1))), (u6.2.1, .inl (cI, 20, .inl (((fun _ => 0), (fun _ => 0), (fun _ => 0), 0).2.1))), (u6.2.2, .inl (cI, 620, .inl (((fun _ => 0), (fun _ => 0), (fun _ => 0), 0).2.2.1))), (q7, .inr (4, [.int (0, 0, 0, 0, 0, 0, 0, 0, 0).1, .int (0, 0, 0, 0, 0, 0, 0, 0, 0).2.1, .int (0, 0, 0, 0, 0, 0, 0, 0, 0).2.2.1, .int (0, 0, 0, 0, 0, 0, 0, 0, 0).2.2.2.1, .int (0, 0, 0, 0, 0, 0, 0, 0, 0).2.2.2.2.1, .int (0, 0, 0, 0, 0, 0, 0, 0, 0).2.2.2.2.2.1, .long (0, 0, 0, 0, 0, 0, 0, 0, 0).2.2.2.2.2.2.1, .int (0, 0, 0, 0, 0, 0, 0, 0, 0).2.2.2.2.2.2.2.1, .int (0, 0, 0, 0, 0, 0, 0, 0, 0).2.2.2.2.2.2.2.2]))] H := hP
  have hD : va_D A [(a0, .inr (0, [.int (if 0 < (if p1 < 3 then p1 else 3) then (if p1 < 3 then p1 else 3) else 0), .ref q1, .ref q3, .ref q5, .null, .int 0, .int 0])), (q1, .inr (1, [.ref u2.1, .ref u2.2, .int (nI (zf_F_fill (fun _ => 0) (-1), (fun _ => 0), 0, 0, 0).2.2.1), .int (zf_F_fill (fun _ => 0) (-1), (fun _ => 0), 0, 0, 0).2.2.2.1, .int (zf_F_fill (fun _ => 0) (-1), (fun _ => 0), 0, 0, 0).2.2.2.2])), (u2.1, .inl (cI, 310, .inl ((zf_F_fill (fun _ => 0) (-1), (fun _ => 0), 0, 0, 0).1))), (u2.2, .inl (cZ, 31, .inl ((zf_F_fill (fun _ => 0) (-1), (fun _ => 0), 0, 0, 0).2.1))), (q3, .inr (2, [.ref u4.1, .ref u4.2, .int (nI ((fun _ => 0), (fun _ => 0), 0).2.2)])), (u4.1, .inl (cI, 20, .inl (((fun _ => 0), (fun _ => 0), 0).1))), (u4.2, .inl (cI, 20, .inl (((fun _ => 0), (fun _ => 0), 0).2.1))), (q5, .inr (3, [.ref u6.1, .ref u6.2.1, .ref u6.2.2, .int (nI ((fun _ => 0), (fun _ => 0), (fun _ => 0), 0).2.2.2)])), (u6.1, .inl (cI, 20, .inl (((fun _ => 0), (fun _ => 0), (fun _ => 0), 0).1))), (u6.2.1, .inl (cI, 20, .inl (((fun _ => 0), (fun _ => 0), (fun _ => 0), 0).2.1))), (u6.2.2, .inl (cI, 620, .inl (((fun _ => 0), (fun _ => 0), (fun _ => 0), 0).2.2.1))), (q7, .inr (4, [.int (0, 0, 0, 0, 0, 0, 0, 0, 0).1, .int (0, 0, 0, 0, 0, 0, 0, 0, 0).2.1, .int (0, 0, 0, 0, 0, 0, 0, 0, 0).2.2.1, .int (0, 0, 0, 0, 0, 0, 0, 0, 0).2.2.2.1, .int (0, 0, 0, 0, 0, 0, 0, 0, 0).2.2.2.2.1, .int (0, 0, 0, 0, 0, 0, 0, 0, 0).2.2.2.2.2.1, .long (0, 0, 0, 0, 0, 0, 0, 0, 0).2.2.2.2.2.2.1, .int (0, 0, 0, 0, 0, 0, 0, 0, 0).2.2.2.2.2.2.2.1, .int (0, 0, 0, 0, 0, 0, 0, 0, 0).2.2.2.2.2.2.2.2]))] := hD
  refine va_putF (D := (dC, dI)) (ci := 0) (v := .ref q7) (C := zr_X) (T := zF_X) (N := 7) hx hb htB zi_X zT_X zT_X_ok zn_X hown hK hP hD hS 0 rfl rfl 4 (by decide) (htB _ zk_84f3c67c) (fun _ h9 => h9) rfl hin rfl (zT_X_ok 4 (by decide)) rfl rfl (Nat.le_of_ble_eq_true rfl) zd_X_init_58 (fun H locs hP hD hS => ?_)
  have hP : va_P (dC, dI) zz_cl [(a0, .inr (0, [.int (if 0 < (if p1 < 3 then p1 else 3) then (if p1 < 3 then p1 else 3) else 0), .ref q1, .ref q3, .ref q5, .ref q7, .int 0, .int 0])), (q1, .inr (1, [.ref u2.1, .ref u2.2, .int (nI (zf_F_fill (fun _ => 0) (-1), (fun _ => 0), 0, 0, 0).2.2.1), .int (zf_F_fill (fun _ => 0) (-1), (fun _ => 0), 0, 0, 0).2.2.2.1, .int (zf_F_fill (fun _ => 0) (-1), (fun _ => 0), 0, 0, 0).2.2.2.2])), (u2.1, .inl (cI, 310, .inl ((zf_F_fill (fun _ => 0) (-1), (fun _ => 0), 0, 0, 0).1))), (u2.2, .inl (cZ, 31, .inl ((zf_F_fill (fun _ => 0) (-1), (fun _ => 0), 0, 0, 0).2.1))), (q3, .inr (2, [.ref u4.1, .ref u4.2, .int (nI ((fun _ => 0), (fun _ => 0), 0).2.2)])), (u4.1, .inl (cI, 20, .inl (((fun _ => 0), (fun _ => 0), 0).1))), (u4.2, .inl (cI, 20, .inl (((fun _ => 0), (fun _ => 0), 0).2.1))), (q5, .inr (3, [.ref u6.1, .ref u6.2.1, .ref u6.2.2, .int (nI ((fun _ => 0), (fun _ => 0), (fun _ => 0), 0).2.2.2)])), (u6.1, .inl (cI, 20, .inl (((fun _ => 0), (fun _ => 0), (fun _ => 0), 0).1))), (u6.2.1, .inl (cI, 20, .inl (((fun _ => 0), (fun _ => 0), (fun _ => 0), 0).2.1))), (u6.2.2, .inl (cI, 620, .inl (((fun _ => 0), (fun _ => 0), (fun _ => 0), 0).2.2.1))), (q7, .inr (4, [.int (0, 0, 0, 0, 0, 0, 0, 0, 0).1, .int (0, 0, 0, 0, 0, 0, 0, 0, 0).2.1, .int (0, 0, 0, 0, 0, 0, 0, 0, 0).2.2.1, .int (0, 0, 0, 0, 0, 0, 0, 0, 0).2.2.2.1, .int (0, 0, 0, 0, 0, 0, 0, 0, 0).2.2.2.2.1, .int (0, 0, 0, 0, 0, 0, 0, 0, 0).2.2.2.2.2.1, .long (0, 0, 0, 0, 0, 0, 0, 0, 0).2.2.2.2.2.2.1, .int (0, 0, 0, 0, 0, 0, 0, 0, 0).2.2.2.2.2.2.2.1, .int (0, 0, 0, 0, 0, 0, 0, 0, 0).2.2.2.2.2.2.2.2]))] H := hP
  have hD : va_D A [(a0, .inr (0, [.int (if 0 < (if p1 < 3 then p1 else 3) then (if p1 < 3 then p1 else 3) else 0), .ref q1, .ref q3, .ref q5, .ref q7, .int 0, .int 0])), (q1, .inr (1, [.ref u2.1, .ref u2.2, .int (nI (zf_F_fill (fun _ => 0) (-1), (fun _ => 0), 0, 0, 0).2.2.1), .int (zf_F_fill (fun _ => 0) (-1), (fun _ => 0), 0, 0, 0).2.2.2.1, .int (zf_F_fill (fun _ => 0) (-1), (fun _ => 0), 0, 0, 0).2.2.2.2])), (u2.1, .inl (cI, 310, .inl ((zf_F_fill (fun _ => 0) (-1), (fun _ => 0), 0, 0, 0).1))), (u2.2, .inl (cZ, 31, .inl ((zf_F_fill (fun _ => 0) (-1), (fun _ => 0), 0, 0, 0).2.1))), (q3, .inr (2, [.ref u4.1, .ref u4.2, .int (nI ((fun _ => 0), (fun _ => 0), 0).2.2)])), (u4.1, .inl (cI, 20, .inl (((fun _ => 0), (fun _ => 0), 0).1))), (u4.2, .inl (cI, 20, .inl (((fun _ => 0), (fun _ => 0), 0).2.1))), (q5, .inr (3, [.ref u6.1, .ref u6.2.1, .ref u6.2.2, .int (nI ((fun _ => 0), (fun _ => 0), (fun _ => 0), 0).2.2.2)])), (u6.1, .inl (cI, 20, .inl (((fun _ => 0), (fun _ => 0), (fun _ => 0), 0).1))), (u6.2.1, .inl (cI, 20, .inl (((fun _ => 0), (fun _ => 0), (fun _ => 0), 0).2.1))), (u6.2.2, .inl (cI, 620, .inl (((fun _ => 0), (fun _ => 0), (fun _ => 0), 0).2.2.1))), (q7, .inr (4, [.int (0, 0, 0, 0, 0, 0, 0, 0, 0).1, .int (0, 0, 0, 0, 0, 0, 0, 0, 0).2.1, .int (0, 0, 0, 0, 0, 0, 0, 0, 0).2.2.1, .int (0, 0, 0, 0, 0, 0, 0, 0, 0).2.2.2.1, .int (0, 0, 0, 0, 0, 0, 0, 0, 0).2.2.2.2.1, .int (0, 0, 0, 0, 0, 0, 0, 0, 0).2.2.2.2.2.1, .long (0, 0, 0, 0, 0, 0, 0, 0, 0).2.2.2.2.2.2.1, .int (0, 0, 0, 0, 0, 0, 0, 0, 0).2.2.2.2.2.2.2.1, .int (0, 0, 0, 0, 0, 0, 0, 0, 0).2.2.2.2.2.2.2.2]))] := hD
  refine lv_aload_n hx hb zd_X_init_61 rfl (lv_at hl 0 rfl) ?_
  refine lv_iconst (v := 0) hx hb zd_X_init_62 (by decide) ?_
  refine va_put (D := (dC, dI)) (ci := 0) (v := .int 0) (C := zr_X) (T := zF_X) (N := 7) hx hb htB zi_X zT_X zT_X_ok zn_X hown hK hP hD hS 0 rfl rfl 5 (by decide) (htB _ zk_be002196) (fun _ h9 => h9) rfl (zT_X_ok 5 (by decide)) rfl rfl (Nat.le_of_ble_eq_true rfl) zd_X_init_63 (fun H locs hP hD hS => ?_)
  have hP : va_P (dC, dI) zz_cl [(a0, .inr (0, [.int (if 0 < (if p1 < 3 then p1 else 3) then (if p1 < 3 then p1 else 3) else 0), .ref q1, .ref q3, .ref q5, .ref q7, .int 0, .int 0])), (q1, .inr (1, [.ref u2.1, .ref u2.2, .int (nI (zf_F_fill (fun _ => 0) (-1), (fun _ => 0), 0, 0, 0).2.2.1), .int (zf_F_fill (fun _ => 0) (-1), (fun _ => 0), 0, 0, 0).2.2.2.1, .int (zf_F_fill (fun _ => 0) (-1), (fun _ => 0), 0, 0, 0).2.2.2.2])), (u2.1, .inl (cI, 310, .inl ((zf_F_fill (fun _ => 0) (-1), (fun _ => 0), 0, 0, 0).1))), (u2.2, .inl (cZ, 31, .inl ((zf_F_fill (fun _ => 0) (-1), (fun _ => 0), 0, 0, 0).2.1))), (q3, .inr (2, [.ref u4.1, .ref u4.2, .int (nI ((fun _ => 0), (fun _ => 0), 0).2.2)])), (u4.1, .inl (cI, 20, .inl (((fun _ => 0), (fun _ => 0), 0).1))), (u4.2, .inl (cI, 20, .inl (((fun _ => 0), (fun _ => 0), 0).2.1))), (q5, .inr (3, [.ref u6.1, .ref u6.2.1, .ref u6.2.2, .int (nI ((fun _ => 0), (fun _ => 0), (fun _ => 0), 0).2.2.2)])), (u6.1, .inl (cI, 20, .inl (((fun _ => 0), (fun _ => 0), (fun _ => 0), 0).1))), (u6.2.1, .inl (cI, 20, .inl (((fun _ => 0), (fun _ => 0), (fun _ => 0), 0).2.1))), (u6.2.2, .inl (cI, 620, .inl (((fun _ => 0), (fun _ => 0), (fun _ => 0), 0).2.2.1))), (q7, .inr (4, [.int (0, 0, 0, 0, 0, 0, 0, 0, 0).1, .int (0, 0, 0, 0, 0, 0, 0, 0, 0).2.1, .int (0, 0, 0, 0, 0, 0, 0, 0, 0).2.2.1, .int (0, 0, 0, 0, 0, 0, 0, 0, 0).2.2.2.1, .int (0, 0, 0, 0, 0, 0, 0, 0, 0).2.2.2.2.1, .int (0, 0, 0, 0, 0, 0, 0, 0, 0).2.2.2.2.2.1, .long (0, 0, 0, 0, 0, 0, 0, 0, 0).2.2.2.2.2.2.1, .int (0, 0, 0, 0, 0, 0, 0, 0, 0).2.2.2.2.2.2.2.1, .int (0, 0, 0, 0, 0, 0, 0, 0, 0).2.2.2.2.2.2.2.2]))] H := hP
  have hD : va_D A [(a0, .inr (0, [.int (if 0 < (if p1 < 3 then p1 else 3) then (if p1 < 3 then p1 else 3) else 0), .ref q1, .ref q3, .ref q5, .ref q7, .int 0, .int 0])), (q1, .inr (1, [.ref u2.1, .ref u2.2, .int (nI (zf_F_fill (fun _ => 0) (-1), (fun _ => 0), 0, 0, 0).2.2.1), .int (zf_F_fill (fun _ => 0) (-1), (fun _ => 0), 0, 0, 0).2.2.2.1, .int (zf_F_fill (fun _ => 0) (-1), (fun _ => 0), 0, 0, 0).2.2.2.2])), (u2.1, .inl (cI, 310, .inl ((zf_F_fill (fun _ => 0) (-1), (fun _ => 0), 0, 0, 0).1))), (u2.2, .inl (cZ, 31, .inl ((zf_F_fill (fun _ => 0) (-1), (fun _ => 0), 0, 0, 0).2.1))), (q3, .inr (2, [.ref u4.1, .ref u4.2, .int (nI ((fun _ => 0), (fun _ => 0), 0).2.2)])), (u4.1, .inl (cI, 20, .inl (((fun _ => 0), (fun _ => 0), 0).1))), (u4.2, .inl (cI, 20, .inl (((fun _ => 0), (fun _ => 0), 0).2.1))), (q5, .inr (3, [.ref u6.1, .ref u6.2.1, .ref u6.2.2, .int (nI ((fun _ => 0), (fun _ => 0), (fun _ => 0), 0).2.2.2)])), (u6.1, .inl (cI, 20, .inl (((fun _ => 0), (fun _ => 0), (fun _ => 0), 0).1))), (u6.2.1, .inl (cI, 20, .inl (((fun _ => 0), (fun _ => 0), (fun _ => 0), 0).2.1))), (u6.2.2, .inl (cI, 620, .inl (((fun _ => 0), (fun _ => 0), (fun _ => 0), 0).2.2.1))), (q7, .inr (4, [.int (0, 0, 0, 0, 0, 0, 0, 0, 0).1, .int (0, 0, 0, 0, 0, 0, 0, 0, 0).2.1, .int (0, 0, 0, 0, 0, 0, 0, 0, 0).2.2.1, .int (0, 0, 0, 0, 0, 0, 0, 0, 0).2.2.2.1, .int (0, 0, 0, 0, 0, 0, 0, 0, 0).2.2.2.2.1, .int (0, 0, 0, 0, 0, 0, 0, 0, 0).2.2.2.2.2.1, .long (0, 0, 0, 0, 0, 0, 0, 0, 0).2.2.2.2.2.2.1, .int (0, 0, 0, 0, 0, 0, 0, 0, 0).2.2.2.2.2.2.2.1, .int (0, 0, 0, 0, 0, 0, 0, 0, 0).2.2.2.2.2.2.2.2]))] := hD
  refine lv_aload_n hx hb zd_X_init_66 rfl (lv_at hl 0 rfl) ?_
  refine lv_iconst (v := 0) hx hb zd_X_init_67 (by decide) ?_
  refine va_put (D := (dC, dI)) (ci := 0) (v := .int 0) (C := zr_X) (T := zF_X) (N := 7) hx hb htB zi_X zT_X zT_X_ok zn_X hown hK hP hD hS 0 rfl rfl 6 (by decide) (htB _ zk_a72d337f) (fun _ h9 => h9) rfl (zT_X_ok 6 (by decide)) rfl rfl (Nat.le_of_ble_eq_true rfl) zd_X_init_68 (fun H locs hP hD hS => ?_)
  have hP : va_P (dC, dI) zz_cl [(a0, .inr (0, [.int (if 0 < (if p1 < 3 then p1 else 3) then (if p1 < 3 then p1 else 3) else 0), .ref q1, .ref q3, .ref q5, .ref q7, .int 0, .int 0])), (q1, .inr (1, [.ref u2.1, .ref u2.2, .int (nI (zf_F_fill (fun _ => 0) (-1), (fun _ => 0), 0, 0, 0).2.2.1), .int (zf_F_fill (fun _ => 0) (-1), (fun _ => 0), 0, 0, 0).2.2.2.1, .int (zf_F_fill (fun _ => 0) (-1), (fun _ => 0), 0, 0, 0).2.2.2.2])), (u2.1, .inl (cI, 310, .inl ((zf_F_fill (fun _ => 0) (-1), (fun _ => 0), 0, 0, 0).1))), (u2.2, .inl (cZ, 31, .inl ((zf_F_fill (fun _ => 0) (-1), (fun _ => 0), 0, 0, 0).2.1))), (q3, .inr (2, [.ref u4.1, .ref u4.2, .int (nI ((fun _ => 0), (fun _ => 0), 0).2.2)])), (u4.1, .inl (cI, 20, .inl (((fun _ => 0), (fun _ => 0), 0).1))), (u4.2, .inl (cI, 20, .inl (((fun _ => 0), (fun _ => 0), 0).2.1))), (q5, .inr (3, [.ref u6.1, .ref u6.2.1, .ref u6.2.2, .int (nI ((fun _ => 0), (fun _ => 0), (fun _ => 0), 0).2.2.2)])), (u6.1, .inl (cI, 20, .inl (((fun _ => 0), (fun _ => 0), (fun _ => 0), 0).1))), (u6.2.1, .inl (cI, 20, .inl (((fun _ => 0), (fun _ => 0), (fun _ => 0), 0).2.1))), (u6.2.2, .inl (cI, 620, .inl (((fun _ => 0), (fun _ => 0), (fun _ => 0), 0).2.2.1))), (q7, .inr (4, [.int (0, 0, 0, 0, 0, 0, 0, 0, 0).1, .int (0, 0, 0, 0, 0, 0, 0, 0, 0).2.1, .int (0, 0, 0, 0, 0, 0, 0, 0, 0).2.2.1, .int (0, 0, 0, 0, 0, 0, 0, 0, 0).2.2.2.1, .int (0, 0, 0, 0, 0, 0, 0, 0, 0).2.2.2.2.1, .int (0, 0, 0, 0, 0, 0, 0, 0, 0).2.2.2.2.2.1, .long (0, 0, 0, 0, 0, 0, 0, 0, 0).2.2.2.2.2.2.1, .int (0, 0, 0, 0, 0, 0, 0, 0, 0).2.2.2.2.2.2.2.1, .int (0, 0, 0, 0, 0, 0, 0, 0, 0).2.2.2.2.2.2.2.2]))] H := hP
  have hD : va_D A [(a0, .inr (0, [.int (if 0 < (if p1 < 3 then p1 else 3) then (if p1 < 3 then p1 else 3) else 0), .ref q1, .ref q3, .ref q5, .ref q7, .int 0, .int 0])), (q1, .inr (1, [.ref u2.1, .ref u2.2, .int (nI (zf_F_fill (fun _ => 0) (-1), (fun _ => 0), 0, 0, 0).2.2.1), .int (zf_F_fill (fun _ => 0) (-1), (fun _ => 0), 0, 0, 0).2.2.2.1, .int (zf_F_fill (fun _ => 0) (-1), (fun _ => 0), 0, 0, 0).2.2.2.2])), (u2.1, .inl (cI, 310, .inl ((zf_F_fill (fun _ => 0) (-1), (fun _ => 0), 0, 0, 0).1))), (u2.2, .inl (cZ, 31, .inl ((zf_F_fill (fun _ => 0) (-1), (fun _ => 0), 0, 0, 0).2.1))), (q3, .inr (2, [.ref u4.1, .ref u4.2, .int (nI ((fun _ => 0), (fun _ => 0), 0).2.2)])), (u4.1, .inl (cI, 20, .inl (((fun _ => 0), (fun _ => 0), 0).1))), (u4.2, .inl (cI, 20, .inl (((fun _ => 0), (fun _ => 0), 0).2.1))), (q5, .inr (3, [.ref u6.1, .ref u6.2.1, .ref u6.2.2, .int (nI ((fun _ => 0), (fun _ => 0), (fun _ => 0), 0).2.2.2)])), (u6.1, .inl (cI, 20, .inl (((fun _ => 0), (fun _ => 0), (fun _ => 0), 0).1))), (u6.2.1, .inl (cI, 20, .inl (((fun _ => 0), (fun _ => 0), (fun _ => 0), 0).2.1))), (u6.2.2, .inl (cI, 620, .inl (((fun _ => 0), (fun _ => 0), (fun _ => 0), 0).2.2.1))), (q7, .inr (4, [.int (0, 0, 0, 0, 0, 0, 0, 0, 0).1, .int (0, 0, 0, 0, 0, 0, 0, 0, 0).2.1, .int (0, 0, 0, 0, 0, 0, 0, 0, 0).2.2.1, .int (0, 0, 0, 0, 0, 0, 0, 0, 0).2.2.2.1, .int (0, 0, 0, 0, 0, 0, 0, 0, 0).2.2.2.2.1, .int (0, 0, 0, 0, 0, 0, 0, 0, 0).2.2.2.2.2.1, .long (0, 0, 0, 0, 0, 0, 0, 0, 0).2.2.2.2.2.2.1, .int (0, 0, 0, 0, 0, 0, 0, 0, 0).2.2.2.2.2.2.2.1, .int (0, 0, 0, 0, 0, 0, 0, 0, 0).2.2.2.2.2.2.2.2]))] := hD
  exact zz_uret (q1, u2.1, u2.2, q3, u4.1, u4.2, q5, u6.1, u6.2.1, u6.2.2, q7) hx hb hr hlocks hK hP hD hS zd_X_init_71
end
