-- ===== PART A: goes FIRST, ahead of the names: the tables' words, and 'selects' of the private methods out of them =====
/-- a private method of a class that the tables say can be made, by its rows of tables_1 -/
def lw_okq (q : MethodName × Nat) : Prop := (q.1.cls ≠ "java/lang/invoke/MethodHandle" ∧ q.1.cls ≠ "java/lang/invoke/VarHandle") ∧ Cond.instantiable q.1.cls q.2 ∈ tables_1 ∧ Cond.privateMethod q.1 ∈ tables_1 ∧ Cond.instanceMethod q.1 ∈ tables_1
theorem lw_p0 : lw_okq (⟨"DeclareForms$Codes", "find", "(I)I"⟩, 3) := ⟨⟨by decide +kernel, by decide +kernel⟩, List.mem_of_getElem? (i := 57) (by decide +kernel), List.mem_of_getElem? (i := 195) (by decide +kernel), List.mem_of_getElem? (i := 196) (by decide +kernel)⟩
theorem lw_p1 : lw_okq (⟨"DeclareForms", "firstWithoutGoodCode", "()I"⟩, 7) := ⟨⟨by decide +kernel, by decide +kernel⟩, List.mem_of_getElem? (i := 16) (by decide +kernel), List.mem_of_getElem? (i := 239) (by decide +kernel), List.mem_of_getElem? (i := 240) (by decide +kernel)⟩
theorem lw_p2 : lw_okq (⟨"DeclareForms$Reader", "stands", "(I)Z"⟩, 9) := ⟨⟨by decide +kernel, by decide +kernel⟩, List.mem_of_getElem? (i := 92) (by decide +kernel), List.mem_of_getElem? (i := 286) (by decide +kernel), List.mem_of_getElem? (i := 287) (by decide +kernel)⟩
theorem lw_p3 : lw_okq (⟨"DeclareForms$Reader", "takeKind", "(I)Z"⟩, 9) := ⟨⟨by decide +kernel, by decide +kernel⟩, List.mem_of_getElem? (i := 92) (by decide +kernel), List.mem_of_getElem? (i := 290) (by decide +kernel), List.mem_of_getElem? (i := 291) (by decide +kernel)⟩
theorem lw_p4 : lw_okq (⟨"DeclareForms$Reader", "takeHigher", "(I)Z"⟩, 9) := ⟨⟨by decide +kernel, by decide +kernel⟩, List.mem_of_getElem? (i := 92) (by decide +kernel), List.mem_of_getElem? (i := 294) (by decide +kernel), List.mem_of_getElem? (i := 295) (by decide +kernel)⟩
theorem lw_p5 : lw_okq (⟨"DeclareForms$Reader", "takeLower", "(I)Z"⟩, 9) := ⟨⟨by decide +kernel, by decide +kernel⟩, List.mem_of_getElem? (i := 92) (by decide +kernel), List.mem_of_getElem? (i := 298) (by decide +kernel), List.mem_of_getElem? (i := 299) (by decide +kernel)⟩
theorem lw_p6 : lw_okq (⟨"DeclareForms$Reader", "takeField", "(I)Z"⟩, 9) := ⟨⟨by decide +kernel, by decide +kernel⟩, List.mem_of_getElem? (i := 92) (by decide +kernel), List.mem_of_getElem? (i := 302) (by decide +kernel), List.mem_of_getElem? (i := 303) (by decide +kernel)⟩
theorem lw_p7 : lw_okq (⟨"DeclareForms$Reader", "takeLine", "(I)Z"⟩, 9) := ⟨⟨by decide +kernel, by decide +kernel⟩, List.mem_of_getElem? (i := 92) (by decide +kernel), List.mem_of_getElem? (i := 307) (by decide +kernel), List.mem_of_getElem? (i := 308) (by decide +kernel)⟩
theorem lw_p8 : lw_okq (⟨"DeclareForms$Reader", "takeValue", "(I)Z"⟩, 9) := ⟨⟨by decide +kernel, by decide +kernel⟩, List.mem_of_getElem? (i := 92) (by decide +kernel), List.mem_of_getElem? (i := 311) (by decide +kernel), List.mem_of_getElem? (i := 312) (by decide +kernel)⟩
theorem lw_p9 : lw_okq (⟨"java/lang/Throwable", "fillInStackTrace", "(I)Ljava/lang/Throwable;"⟩, 6) := ⟨⟨by decide +kernel, by decide +kernel⟩, List.mem_of_getElem? (i := 394) (by decide +kernel), List.mem_of_getElem? (i := 392) (by decide +kernel), List.mem_of_getElem? (i := 393) (by decide +kernel)⟩
theorem lw_p10 : lw_okq (⟨"DeclareForms", "packedByte", "(II)B"⟩, 7) := ⟨⟨by decide +kernel, by decide +kernel⟩, List.mem_of_getElem? (i := 16) (by decide +kernel), List.mem_of_getElem? (i := 532) (by decide +kernel), List.mem_of_getElem? (i := 533) (by decide +kernel)⟩
theorem lw_p11 : lw_okq (⟨"DeclareFormsModel", "refuse", "(I)I"⟩, 22) := ⟨⟨by decide +kernel, by decide +kernel⟩, List.mem_of_getElem? (i := 536) (by decide +kernel), List.mem_of_getElem? (i := 619) (by decide +kernel), List.mem_of_getElem? (i := 620) (by decide +kernel)⟩
theorem lw_p12 : lw_okq (⟨"DeclareFormsModel", "isLine", "(I)Z"⟩, 22) := ⟨⟨by decide +kernel, by decide +kernel⟩, List.mem_of_getElem? (i := 536) (by decide +kernel), List.mem_of_getElem? (i := 627) (by decide +kernel), List.mem_of_getElem? (i := 628) (by decide +kernel)⟩
theorem lw_p13 : lw_okq (⟨"DeclareFormsModel", "setIn", "(I)I"⟩, 22) := ⟨⟨by decide +kernel, by decide +kernel⟩, List.mem_of_getElem? (i := 536) (by decide +kernel), List.mem_of_getElem? (i := 631) (by decide +kernel), List.mem_of_getElem? (i := 632) (by decide +kernel)⟩
theorem lw_p14 : lw_okq (⟨"DeclareFormsModel", "isPlace", "(II)Z"⟩, 22) := ⟨⟨by decide +kernel, by decide +kernel⟩, List.mem_of_getElem? (i := 536) (by decide +kernel), List.mem_of_getElem? (i := 639) (by decide +kernel), List.mem_of_getElem? (i := 640) (by decide +kernel)⟩
theorem lw_p15 : lw_okq (⟨"DeclareFormsModel", "broken", "()I"⟩, 22) := ⟨⟨by decide +kernel, by decide +kernel⟩, List.mem_of_getElem? (i := 536) (by decide +kernel), List.mem_of_getElem? (i := 681) (by decide +kernel), List.mem_of_getElem? (i := 682) (by decide +kernel)⟩
def lw_privs_1 : List (MethodName × Nat) := [(⟨"DeclareForms$Codes", "find", "(I)I"⟩, 3), (⟨"DeclareForms", "firstWithoutGoodCode", "()I"⟩, 7), (⟨"DeclareForms$Reader", "stands", "(I)Z"⟩, 9), (⟨"DeclareForms$Reader", "takeKind", "(I)Z"⟩, 9), (⟨"DeclareForms$Reader", "takeHigher", "(I)Z"⟩, 9), (⟨"DeclareForms$Reader", "takeLower", "(I)Z"⟩, 9), (⟨"DeclareForms$Reader", "takeField", "(I)Z"⟩, 9), (⟨"DeclareForms$Reader", "takeLine", "(I)Z"⟩, 9), (⟨"DeclareForms$Reader", "takeValue", "(I)Z"⟩, 9), (⟨"java/lang/Throwable", "fillInStackTrace", "(I)Ljava/lang/Throwable;"⟩, 6), (⟨"DeclareForms", "packedByte", "(II)B"⟩, 7), (⟨"DeclareFormsModel", "refuse", "(I)I"⟩, 22), (⟨"DeclareFormsModel", "isLine", "(I)Z"⟩, 22), (⟨"DeclareFormsModel", "setIn", "(I)I"⟩, 22), (⟨"DeclareFormsModel", "isPlace", "(II)Z"⟩, 22), (⟨"DeclareFormsModel", "broken", "()I"⟩, 22)]
theorem lw_r1 : ∀ q ∈ lw_privs_1, lw_okq q := List.forall_mem_cons.mpr ⟨lw_p0, List.forall_mem_cons.mpr ⟨lw_p1, List.forall_mem_cons.mpr ⟨lw_p2, List.forall_mem_cons.mpr ⟨lw_p3, List.forall_mem_cons.mpr ⟨lw_p4, List.forall_mem_cons.mpr ⟨lw_p5, List.forall_mem_cons.mpr ⟨lw_p6, List.forall_mem_cons.mpr ⟨lw_p7, List.forall_mem_cons.mpr ⟨lw_p8, List.forall_mem_cons.mpr ⟨lw_p9, List.forall_mem_cons.mpr ⟨lw_p10, List.forall_mem_cons.mpr ⟨lw_p11, List.forall_mem_cons.mpr ⟨lw_p12, List.forall_mem_cons.mpr ⟨lw_p13, List.forall_mem_cons.mpr ⟨lw_p14, List.forall_mem_cons.mpr ⟨lw_p15, fun _ h => absurd h List.not_mem_nil⟩⟩⟩⟩⟩⟩⟩⟩⟩⟩⟩⟩⟩⟩⟩⟩
theorem lw_p16 : lw_okq (⟨"DeclareFormsModel", "isSum", "(I)Z"⟩, 22) := ⟨⟨by decide +kernel, by decide +kernel⟩, List.mem_of_getElem? (i := 536) (by decide +kernel), List.mem_of_getElem? (i := 686) (by decide +kernel), List.mem_of_getElem? (i := 687) (by decide +kernel)⟩
theorem lw_p17 : lw_okq (⟨"DeclareFormsModel", "sumOf", "(I)J"⟩, 22) := ⟨⟨by decide +kernel, by decide +kernel⟩, List.mem_of_getElem? (i := 536) (by decide +kernel), List.mem_of_getElem? (i := 690) (by decide +kernel), List.mem_of_getElem? (i := 691) (by decide +kernel)⟩
theorem lw_p18 : lw_okq (⟨"DeclareFormsModel", "isGood", "(J)Z"⟩, 22) := ⟨⟨by decide +kernel, by decide +kernel⟩, List.mem_of_getElem? (i := 536) (by decide +kernel), List.mem_of_getElem? (i := 696) (by decide +kernel), List.mem_of_getElem? (i := 697) (by decide +kernel)⟩
theorem lw_p19 : lw_okq (⟨"DeclareFormsModel", "paperOf", "(I)I"⟩, 22) := ⟨⟨by decide +kernel, by decide +kernel⟩, List.mem_of_getElem? (i := 536) (by decide +kernel), List.mem_of_getElem? (i := 715) (by decide +kernel), List.mem_of_getElem? (i := 716) (by decide +kernel)⟩
theorem lw_p20 : lw_okq (⟨"DeclareFormsModel", "set", "()I"⟩, 22) := ⟨⟨by decide +kernel, by decide +kernel⟩, List.mem_of_getElem? (i := 536) (by decide +kernel), List.mem_of_getElem? (i := 731) (by decide +kernel), List.mem_of_getElem? (i := 732) (by decide +kernel)⟩
theorem lw_p21 : lw_okq (⟨"DeclareFormsModel", "placeOf", "(I)I"⟩, 22) := ⟨⟨by decide +kernel, by decide +kernel⟩, List.mem_of_getElem? (i := 536) (by decide +kernel), List.mem_of_getElem? (i := 739) (by decide +kernel), List.mem_of_getElem? (i := 740) (by decide +kernel)⟩
theorem lw_p22 : lw_okq (⟨"DeclareFormsModel", "begins", "(I)I"⟩, 22) := ⟨⟨by decide +kernel, by decide +kernel⟩, List.mem_of_getElem? (i := 536) (by decide +kernel), List.mem_of_getElem? (i := 747) (by decide +kernel), List.mem_of_getElem? (i := 748) (by decide +kernel)⟩
theorem lw_p23 : lw_okq (⟨"DeclareFormsModel", "ends", "(I)I"⟩, 22) := ⟨⟨by decide +kernel, by decide +kernel⟩, List.mem_of_getElem? (i := 536) (by decide +kernel), List.mem_of_getElem? (i := 751) (by decide +kernel), List.mem_of_getElem? (i := 752) (by decide +kernel)⟩
theorem lw_p24 : lw_okq (⟨"DeclareFormsModel", "whole", "()I"⟩, 22) := ⟨⟨by decide +kernel, by decide +kernel⟩, List.mem_of_getElem? (i := 536) (by decide +kernel), List.mem_of_getElem? (i := 755) (by decide +kernel), List.mem_of_getElem? (i := 756) (by decide +kernel)⟩
def lw_privs_2 : List (MethodName × Nat) := [(⟨"DeclareFormsModel", "isSum", "(I)Z"⟩, 22), (⟨"DeclareFormsModel", "sumOf", "(I)J"⟩, 22), (⟨"DeclareFormsModel", "isGood", "(J)Z"⟩, 22), (⟨"DeclareFormsModel", "paperOf", "(I)I"⟩, 22), (⟨"DeclareFormsModel", "set", "()I"⟩, 22), (⟨"DeclareFormsModel", "placeOf", "(I)I"⟩, 22), (⟨"DeclareFormsModel", "begins", "(I)I"⟩, 22), (⟨"DeclareFormsModel", "ends", "(I)I"⟩, 22), (⟨"DeclareFormsModel", "whole", "()I"⟩, 22)]
theorem lw_r2 : ∀ q ∈ lw_privs_2, lw_okq q := List.forall_mem_cons.mpr ⟨lw_p16, List.forall_mem_cons.mpr ⟨lw_p17, List.forall_mem_cons.mpr ⟨lw_p18, List.forall_mem_cons.mpr ⟨lw_p19, List.forall_mem_cons.mpr ⟨lw_p20, List.forall_mem_cons.mpr ⟨lw_p21, List.forall_mem_cons.mpr ⟨lw_p22, List.forall_mem_cons.mpr ⟨lw_p23, List.forall_mem_cons.mpr ⟨lw_p24, fun _ h => absurd h List.not_mem_nil⟩⟩⟩⟩⟩⟩⟩⟩⟩
def lw_privs : List (MethodName × Nat) := lw_privs_1 ++ (lw_privs_2)
def lw_tbl : List Cond := k2_sels lw_privs ++ tables_1
theorem lw_privs_ok : ∀ q ∈ lw_privs, lw_okq q := by
  show ∀ q ∈ lw_privs_1 ++ (lw_privs_2), lw_okq q
  exact List.forall_mem_append.mpr ⟨lw_r1, lw_r2⟩
abbrev zr_S : String := "DeclareForms$Sheet"
def zF_S : u_T := fun k => match k with
  | 0 => ("DeclareForms$Sheet", "values", "[I", true)
  | 1 => ("DeclareForms$Sheet", "open", "[Z", true)
  | 2 => ("DeclareForms$Sheet", "made", "I", false)
  | 3 => ("DeclareForms$Sheet", "opened", "I", false)
  | _ => ("DeclareForms$Sheet", "filled", "I", false)
def zT_S : Nat → FieldType := fun k => match k with
  | 0 => .array .int
  | 1 => .array .boolean
  | 2 => .int
  | 3 => .int
  | _ => .int
theorem zn_S : ∀ a, a < 5 → ∀ b, b < 5 → a ≠ b → (zF_S a).2.1 ≠ (zF_S b).2.1 := by decide +kernel
theorem zT_S_ok : ∀ k, k < 5 → parseFieldDescriptor (zF_S k).2.2.1 = some (zT_S k) := by decide +kernel
abbrev zr_C : String := "DeclareForms$Codes"
def zF_C : u_T := fun k => match k with
  | 0 => ("DeclareForms$Codes", "values", "[I", true)
  | 1 => ("DeclareForms$Codes", "lastDays", "[I", true)
  | _ => ("DeclareForms$Codes", "held", "I", false)
def zT_C : Nat → FieldType := fun k => match k with
  | 0 => .array .int
  | 1 => .array .int
  | _ => .int
theorem zn_C : ∀ a, a < 3 → ∀ b, b < 3 → a ≠ b → (zF_C a).2.1 ≠ (zF_C b).2.1 := by decide +kernel
theorem zT_C_ok : ∀ k, k < 3 → parseFieldDescriptor (zF_C k).2.2.1 = some (zT_C k) := by decide +kernel
abbrev zr_P : String := "DeclareForms$Papers"
def zF_P : u_T := fun k => match k with
  | 0 => ("DeclareForms$Papers", "numbers", "[I", true)
  | 1 => ("DeclareForms$Papers", "balances", "[I", true)
  | 2 => ("DeclareForms$Papers", "drawn", "[I", true)
  | _ => ("DeclareForms$Papers", "held", "I", false)
def zT_P : Nat → FieldType := fun k => match k with
  | 0 => .array .int
  | 1 => .array .int
  | 2 => .array .int
  | _ => .int
theorem zn_P : ∀ a, a < 4 → ∀ b, b < 4 → a ≠ b → (zF_P a).2.1 ≠ (zF_P b).2.1 := by decide +kernel
theorem zT_P_ok : ∀ k, k < 4 → parseFieldDescriptor (zF_P k).2.2.1 = some (zT_P k) := by decide +kernel
abbrev zr_R : String := "DeclareForms$Reader"
def zF_R : u_T := fun k => match k with
  | 0 => ("DeclareForms$Reader", "place", "I", false)
  | 1 => ("DeclareForms$Reader", "rowKind", "I", false)
  | 2 => ("DeclareForms$Reader", "fields", "I", false)
  | 3 => ("DeclareForms$Reader", "fieldsLeft", "I", false)
  | 4 => ("DeclareForms$Reader", "rowField", "I", false)
  | 5 => ("DeclareForms$Reader", "lastSlot", "I", false)
  | 6 => ("DeclareForms$Reader", "rowValue", "J", false)
  | 7 => ("DeclareForms$Reader", "whole", "I", false)
  | _ => ("DeclareForms$Reader", "latest", "I", false)
def zT_R : Nat → FieldType := fun k => match k with
  | 0 => .int
  | 1 => .int
  | 2 => .int
  | 3 => .int
  | 4 => .int
  | 5 => .int
  | 6 => .long
  | 7 => .int
  | _ => .int
theorem zn_R : ∀ a, a < 9 → ∀ b, b < 9 → a ≠ b → (zF_R a).2.1 ≠ (zF_R b).2.1 := by decide +kernel
theorem zT_R_ok : ∀ k, k < 9 → parseFieldDescriptor (zF_R k).2.2.1 = some (zT_R k) := by decide +kernel
abbrev zr_X : String := "DeclareForms"
def zF_X : u_T := fun k => match k with
  | 0 => ("DeclareForms", "kind", "I", true)
  | 1 => ("DeclareForms", "sheet", "LDeclareForms$Sheet;", true)
  | 2 => ("DeclareForms", "codes", "LDeclareForms$Codes;", true)
  | 3 => ("DeclareForms", "papers", "LDeclareForms$Papers;", true)
  | 4 => ("DeclareForms", "reader", "LDeclareForms$Reader;", true)
  | 5 => ("DeclareForms", "today", "I", false)
  | _ => ("DeclareForms", "lodged", "Z", false)
def zT_X : Nat → FieldType := fun k => match k with
  | 0 => .int
  | 1 => .object "DeclareForms$Sheet"
  | 2 => .object "DeclareForms$Codes"
  | 3 => .object "DeclareForms$Papers"
  | 4 => .object "DeclareForms$Reader"
  | 5 => .int
  | _ => .boolean
theorem zn_X : ∀ a, a < 7 → ∀ b, b < 7 → a ≠ b → (zF_X a).2.1 ≠ (zF_X b).2.1 := by decide +kernel
theorem zT_X_ok : ∀ k, k < 7 → parseFieldDescriptor (zF_X k).2.2.1 = some (zT_X k) := by decide +kernel
abbrev zr_M : String := "DeclareFormsModel"
def zF_M : u_T := fun k => match k with
  | 0 => ("DeclareFormsModel", "thrown", "I", false)
  | 1 => ("DeclareFormsModel", "kind", "I", true)
  | 2 => ("DeclareFormsModel", "lines", "I", false)
  | 3 => ("DeclareFormsModel", "gone", "[Z", true)
  | 4 => ("DeclareFormsModel", "value", "[J", true)
  | 5 => ("DeclareFormsModel", "lodged", "Z", false)
  | 6 => ("DeclareFormsModel", "today", "I", false)
  | 7 => ("DeclareFormsModel", "codes", "I", false)
  | 8 => ("DeclareFormsModel", "codeOf", "[J", true)
  | 9 => ("DeclareFormsModel", "until", "[I", true)
  | 10 => ("DeclareFormsModel", "papers", "I", false)
  | 11 => ("DeclareFormsModel", "paperNumber", "[I", true)
  | 12 => ("DeclareFormsModel", "balance", "[I", true)
  | 13 => ("DeclareFormsModel", "drawn", "[I", true)
  | 14 => ("DeclareFormsModel", "came", "I", false)
  | 15 => ("DeclareFormsModel", "rowKind", "I", false)
  | 16 => ("DeclareFormsModel", "rowCount", "I", false)
  | 17 => ("DeclareFormsModel", "before", "I", false)
  | 18 => ("DeclareFormsModel", "fieldThere", "I", false)
  | 19 => ("DeclareFormsModel", "valueThere", "J", false)
  | 20 => ("DeclareFormsModel", "rowsRead", "I", false)
  | _ => ("DeclareFormsModel", "latest", "I", false)
def zT_M : Nat → FieldType := fun k => match k with
  | 0 => .int
  | 1 => .int
  | 2 => .int
  | 3 => .array .boolean
  | 4 => .array .long
  | 5 => .boolean
  | 6 => .int
  | 7 => .int
  | 8 => .array .long
  | 9 => .array .int
  | 10 => .int
  | 11 => .array .int
  | 12 => .array .int
  | 13 => .array .int
  | 14 => .int
  | 15 => .int
  | 16 => .int
  | 17 => .int
  | 18 => .int
  | 19 => .long
  | 20 => .int
  | _ => .int
theorem zn_M : ∀ a, a < 22 → ∀ b, b < 22 → a ≠ b → (zF_M a).2.1 ≠ (zF_M b).2.1 := by decide +kernel
theorem zT_M_ok : ∀ k, k < 22 → parseFieldDescriptor (zF_M k).2.2.1 = some (zT_M k) := by decide +kernel
abbrev zz_cl : List vw_C := [(zr_X, zF_X, 7), (zr_S, zF_S, 5), (zr_C, zF_C, 3), (zr_P, zF_P, 4), (zr_R, zF_R, 9), (zr_M, zF_M, 22)]
abbrev zz_ty (cI cZ cL : ClassId) : List (ClassId × FieldType) := [(cI, .int), (cZ, .boolean), (cL, .long)]
abbrev zy_X_isValue : MethodName := ⟨"DeclareForms", "isValue", "(J)Z"⟩
abbrev zb_X_isValue : ByteArray := prog_1_method_20_code
theorem zh_X_isValue : zy_X_isValue.cls ≠ "java/lang/invoke/MethodHandle" ∧ zy_X_isValue.cls ≠ "java/lang/invoke/VarHandle" ∧ (parseMethodDescriptor zy_X_isValue.desc).map (fun d => d.parameters.length) = some 1 := by decide +kernel
theorem zd_X_isValue_0 : decode zb_X_isValue 0 = .ok (.lload_n 0, 1) := by decide +kernel
theorem zd_X_isValue_1 : decode zb_X_isValue 1 = .ok (.lconst 0, 1) := by decide +kernel
theorem zd_X_isValue_2 : decode zb_X_isValue 2 = .ok (.lcmp, 1) := by decide +kernel
theorem zd_X_isValue_3 : decode zb_X_isValue 3 = .ok (.ifCond .lt 15, 3) := by decide +kernel
theorem zd_X_isValue_6 : decode zb_X_isValue 6 = .ok (.lload_n 0, 1) := by decide +kernel
theorem zd_X_isValue_7 : decode zb_X_isValue 7 = .ok (.ldc2_w 197, 3) := by decide +kernel
theorem zd_X_isValue_10 : decode zb_X_isValue 10 = .ok (.lcmp, 1) := by decide +kernel
theorem zd_X_isValue_11 : decode zb_X_isValue 11 = .ok (.ifCond .gt 7, 3) := by decide +kernel
theorem zd_X_isValue_14 : decode zb_X_isValue 14 = .ok (.iconst 1, 1) := by decide +kernel
theorem zd_X_isValue_15 : decode zb_X_isValue 15 = .ok (.goto 4, 3) := by decide +kernel
theorem zd_X_isValue_18 : decode zb_X_isValue 18 = .ok (.iconst 0, 1) := by decide +kernel
theorem zd_X_isValue_19 : decode zb_X_isValue 19 = .ok (.ireturn, 1) := by decide +kernel
abbrev zy_X_needBy : MethodName := ⟨"DeclareForms", "needBy", "(II)I"⟩
abbrev zb_X_needBy : ByteArray := prog_1_method_21_code
theorem zh_X_needBy : zy_X_needBy.cls ≠ "java/lang/invoke/MethodHandle" ∧ zy_X_needBy.cls ≠ "java/lang/invoke/VarHandle" ∧ (parseMethodDescriptor zy_X_needBy.desc).map (fun d => d.parameters.length) = some 2 := by decide +kernel
theorem zd_X_needBy_0 : decode zb_X_needBy 0 = .ok (.iconst 3, 1) := by decide +kernel
theorem zd_X_needBy_1 : decode zb_X_needBy 1 = .ok (.iload_n 1, 1) := by decide +kernel
theorem zd_X_needBy_2 : decode zb_X_needBy 2 = .ok (.imul, 1) := by decide +kernel
theorem zd_X_needBy_3 : decode zb_X_needBy 3 = .ok (.iconst 5, 1) := by decide +kernel
theorem zd_X_needBy_4 : decode zb_X_needBy 4 = .ok (.iload_n 0, 1) := by decide +kernel
theorem zd_X_needBy_5 : decode zb_X_needBy 5 = .ok (.imul, 1) := by decide +kernel
theorem zd_X_needBy_6 : decode zb_X_needBy 6 = .ok (.iadd, 1) := by decide +kernel
theorem zd_X_needBy_7 : decode zb_X_needBy 7 = .ok (.iconst 4, 1) := by decide +kernel
theorem zd_X_needBy_8 : decode zb_X_needBy 8 = .ok (.irem, 1) := by decide +kernel
theorem zd_X_needBy_9 : decode zb_X_needBy 9 = .ok (.ireturn, 1) := by decide +kernel
abbrev zy_X_lineOf : MethodName := ⟨"DeclareForms", "lineOf", "(I)I"⟩
abbrev zb_X_lineOf : ByteArray := prog_1_method_22_code
theorem zh_X_lineOf : zy_X_lineOf.cls ≠ "java/lang/invoke/MethodHandle" ∧ zy_X_lineOf.cls ≠ "java/lang/invoke/VarHandle" ∧ (parseMethodDescriptor zy_X_lineOf.desc).map (fun d => d.parameters.length) = some 1 := by decide +kernel
theorem zd_X_lineOf_0 : decode zb_X_lineOf 0 = .ok (.iload_n 0, 1) := by decide +kernel
theorem zd_X_lineOf_1 : decode zb_X_lineOf 1 = .ok (.bipush 10, 2) := by decide +kernel
theorem zd_X_lineOf_3 : decode zb_X_lineOf 3 = .ok (.idiv, 1) := by decide +kernel
theorem zd_X_lineOf_4 : decode zb_X_lineOf 4 = .ok (.ireturn, 1) := by decide +kernel
abbrev zy_X_fieldOf : MethodName := ⟨"DeclareForms", "fieldOf", "(I)I"⟩
abbrev zb_X_fieldOf : ByteArray := prog_1_method_23_code
theorem zh_X_fieldOf : zy_X_fieldOf.cls ≠ "java/lang/invoke/MethodHandle" ∧ zy_X_fieldOf.cls ≠ "java/lang/invoke/VarHandle" ∧ (parseMethodDescriptor zy_X_fieldOf.desc).map (fun d => d.parameters.length) = some 1 := by decide +kernel
theorem zd_X_fieldOf_0 : decode zb_X_fieldOf 0 = .ok (.iload_n 0, 1) := by decide +kernel
theorem zd_X_fieldOf_1 : decode zb_X_fieldOf 1 = .ok (.bipush 10, 2) := by decide +kernel
theorem zd_X_fieldOf_3 : decode zb_X_fieldOf 3 = .ok (.if_icmp .ge 7, 3) := by decide +kernel
theorem zd_X_fieldOf_6 : decode zb_X_fieldOf 6 = .ok (.iload_n 0, 1) := by decide +kernel
theorem zd_X_fieldOf_7 : decode zb_X_fieldOf 7 = .ok (.goto 10, 3) := by decide +kernel
theorem zd_X_fieldOf_10 : decode zb_X_fieldOf 10 = .ok (.bipush 10, 2) := by decide +kernel
theorem zd_X_fieldOf_12 : decode zb_X_fieldOf 12 = .ok (.iload_n 0, 1) := by decide +kernel
theorem zd_X_fieldOf_13 : decode zb_X_fieldOf 13 = .ok (.bipush 10, 2) := by decide +kernel
theorem zd_X_fieldOf_15 : decode zb_X_fieldOf 15 = .ok (.irem, 1) := by decide +kernel
theorem zd_X_fieldOf_16 : decode zb_X_fieldOf 16 = .ok (.iadd, 1) := by decide +kernel
theorem zd_X_fieldOf_17 : decode zb_X_fieldOf 17 = .ok (.ireturn, 1) := by decide +kernel
abbrev zy_X_placeOf : MethodName := ⟨"DeclareForms", "placeOf", "(I)I"⟩
abbrev zb_X_placeOf : ByteArray := prog_1_method_24_code
theorem zh_X_placeOf : zy_X_placeOf.cls ≠ "java/lang/invoke/MethodHandle" ∧ zy_X_placeOf.cls ≠ "java/lang/invoke/VarHandle" ∧ (parseMethodDescriptor zy_X_placeOf.desc).map (fun d => d.parameters.length) = some 1 := by decide +kernel
theorem zd_X_placeOf_0 : decode zb_X_placeOf 0 = .ok (.bipush 100, 2) := by decide +kernel
theorem zd_X_placeOf_2 : decode zb_X_placeOf 2 = .ok (.iload_n 0, 1) := by decide +kernel
theorem zd_X_placeOf_3 : decode zb_X_placeOf 3 = .ok (.invokestatic 199, 3) := by decide +kernel
theorem zd_X_placeOf_6 : decode zb_X_placeOf 6 = .ok (.imul, 1) := by decide +kernel
theorem zd_X_placeOf_7 : decode zb_X_placeOf 7 = .ok (.iload_n 0, 1) := by decide +kernel
theorem zd_X_placeOf_8 : decode zb_X_placeOf 8 = .ok (.invokestatic 202, 3) := by decide +kernel
theorem zd_X_placeOf_11 : decode zb_X_placeOf 11 = .ok (.iadd, 1) := by decide +kernel
theorem zd_X_placeOf_12 : decode zb_X_placeOf 12 = .ok (.ireturn, 1) := by decide +kernel
abbrev zy_X_byteOf : MethodName := ⟨"DeclareForms", "byteOf", "(II)B"⟩
abbrev zb_X_byteOf : ByteArray := prog_1_method_25_code
theorem zh_X_byteOf : zy_X_byteOf.cls ≠ "java/lang/invoke/MethodHandle" ∧ zy_X_byteOf.cls ≠ "java/lang/invoke/VarHandle" ∧ (parseMethodDescriptor zy_X_byteOf.desc).map (fun d => d.parameters.length) = some 2 := by decide +kernel
theorem zd_X_byteOf_0 : decode zb_X_byteOf 0 = .ok (.iload_n 0, 1) := by decide +kernel
theorem zd_X_byteOf_1 : decode zb_X_byteOf 1 = .ok (.bipush 8, 2) := by decide +kernel
theorem zd_X_byteOf_3 : decode zb_X_byteOf 3 = .ok (.iload_n 1, 1) := by decide +kernel
theorem zd_X_byteOf_4 : decode zb_X_byteOf 4 = .ok (.imul, 1) := by decide +kernel
theorem zd_X_byteOf_5 : decode zb_X_byteOf 5 = .ok (.iushr, 1) := by decide +kernel
theorem zd_X_byteOf_6 : decode zb_X_byteOf 6 = .ok (.i2b, 1) := by decide +kernel
theorem zd_X_byteOf_7 : decode zb_X_byteOf 7 = .ok (.ireturn, 1) := by decide +kernel
abbrev zy_S_isFull : MethodName := ⟨"DeclareForms$Sheet", "isFull", "()Z"⟩
abbrev zb_S_isFull : ByteArray := prog_5_method_2_code
theorem zh_S_isFull : zy_S_isFull.cls ≠ "java/lang/invoke/MethodHandle" ∧ zy_S_isFull.cls ≠ "java/lang/invoke/VarHandle" ∧ (parseMethodDescriptor zy_S_isFull.desc).map (fun d => d.parameters.length) = some 0 := by decide +kernel
theorem zd_S_isFull_0 : decode zb_S_isFull 0 = .ok (.aload_n 0, 1) := by decide +kernel
theorem zd_S_isFull_1 : decode zb_S_isFull 1 = .ok (.getfield 25, 3) := by decide +kernel
theorem zd_S_isFull_4 : decode zb_S_isFull 4 = .ok (.bipush 30, 2) := by decide +kernel
theorem zd_S_isFull_6 : decode zb_S_isFull 6 = .ok (.if_icmp .lt 7, 3) := by decide +kernel
theorem zd_S_isFull_9 : decode zb_S_isFull 9 = .ok (.iconst 1, 1) := by decide +kernel
theorem zd_S_isFull_10 : decode zb_S_isFull 10 = .ok (.goto 4, 3) := by decide +kernel
theorem zd_S_isFull_13 : decode zb_S_isFull 13 = .ok (.iconst 0, 1) := by decide +kernel
theorem zd_S_isFull_14 : decode zb_S_isFull 14 = .ok (.ireturn, 1) := by decide +kernel
abbrev zy_S_hasLine : MethodName := ⟨"DeclareForms$Sheet", "hasLine", "(I)Z"⟩
abbrev zb_S_hasLine : ByteArray := prog_5_method_3_code
theorem zh_S_hasLine : zy_S_hasLine.cls ≠ "java/lang/invoke/MethodHandle" ∧ zy_S_hasLine.cls ≠ "java/lang/invoke/VarHandle" ∧ (parseMethodDescriptor zy_S_hasLine.desc).map (fun d => d.parameters.length) = some 1 := by decide +kernel
theorem zd_S_hasLine_0 : decode zb_S_hasLine 0 = .ok (.iload_n 1, 1) := by decide +kernel
theorem zd_S_hasLine_1 : decode zb_S_hasLine 1 = .ok (.iconst 1, 1) := by decide +kernel
theorem zd_S_hasLine_2 : decode zb_S_hasLine 2 = .ok (.if_icmp .lt 22, 3) := by decide +kernel
theorem zd_S_hasLine_5 : decode zb_S_hasLine 5 = .ok (.iload_n 1, 1) := by decide +kernel
theorem zd_S_hasLine_6 : decode zb_S_hasLine 6 = .ok (.bipush 30, 2) := by decide +kernel
theorem zd_S_hasLine_8 : decode zb_S_hasLine 8 = .ok (.if_icmp .gt 16, 3) := by decide +kernel
theorem zd_S_hasLine_11 : decode zb_S_hasLine 11 = .ok (.aload_n 0, 1) := by decide +kernel
theorem zd_S_hasLine_12 : decode zb_S_hasLine 12 = .ok (.getfield 15, 3) := by decide +kernel
theorem zd_S_hasLine_15 : decode zb_S_hasLine 15 = .ok (.iload_n 1, 1) := by decide +kernel
theorem zd_S_hasLine_16 : decode zb_S_hasLine 16 = .ok (.baload, 1) := by decide +kernel
theorem zd_S_hasLine_17 : decode zb_S_hasLine 17 = .ok (.ifCond .eq 7, 3) := by decide +kernel
theorem zd_S_hasLine_20 : decode zb_S_hasLine 20 = .ok (.iconst 1, 1) := by decide +kernel
theorem zd_S_hasLine_21 : decode zb_S_hasLine 21 = .ok (.goto 4, 3) := by decide +kernel
theorem zd_S_hasLine_24 : decode zb_S_hasLine 24 = .ok (.iconst 0, 1) := by decide +kernel
theorem zd_S_hasLine_25 : decode zb_S_hasLine 25 = .ok (.ireturn, 1) := by decide +kernel
abbrev zy_S_lineCount : MethodName := ⟨"DeclareForms$Sheet", "lineCount", "()I"⟩
abbrev zb_S_lineCount : ByteArray := prog_5_method_4_code
theorem zh_S_lineCount : zy_S_lineCount.cls ≠ "java/lang/invoke/MethodHandle" ∧ zy_S_lineCount.cls ≠ "java/lang/invoke/VarHandle" ∧ (parseMethodDescriptor zy_S_lineCount.desc).map (fun d => d.parameters.length) = some 0 := by decide +kernel
theorem zd_S_lineCount_0 : decode zb_S_lineCount 0 = .ok (.aload_n 0, 1) := by decide +kernel
theorem zd_S_lineCount_1 : decode zb_S_lineCount 1 = .ok (.getfield 29, 3) := by decide +kernel
theorem zd_S_lineCount_4 : decode zb_S_lineCount 4 = .ok (.ireturn, 1) := by decide +kernel
abbrev zy_S_setCount : MethodName := ⟨"DeclareForms$Sheet", "setCount", "()I"⟩
abbrev zb_S_setCount : ByteArray := prog_5_method_5_code
theorem zh_S_setCount : zy_S_setCount.cls ≠ "java/lang/invoke/MethodHandle" ∧ zy_S_setCount.cls ≠ "java/lang/invoke/VarHandle" ∧ (parseMethodDescriptor zy_S_setCount.desc).map (fun d => d.parameters.length) = some 0 := by decide +kernel
theorem zd_S_setCount_0 : decode zb_S_setCount 0 = .ok (.aload_n 0, 1) := by decide +kernel
theorem zd_S_setCount_1 : decode zb_S_setCount 1 = .ok (.getfield 32, 3) := by decide +kernel
theorem zd_S_setCount_4 : decode zb_S_setCount 4 = .ok (.ireturn, 1) := by decide +kernel
abbrev zy_S_openLine : MethodName := ⟨"DeclareForms$Sheet", "openLine", "()I"⟩
abbrev zb_S_openLine : ByteArray := prog_5_method_6_code
theorem zh_S_openLine : zy_S_openLine.cls ≠ "java/lang/invoke/MethodHandle" ∧ zy_S_openLine.cls ≠ "java/lang/invoke/VarHandle" ∧ (parseMethodDescriptor zy_S_openLine.desc).map (fun d => d.parameters.length) = some 0 := by decide +kernel
theorem zd_S_openLine_0 : decode zb_S_openLine 0 = .ok (.aload_n 0, 1) := by decide +kernel
theorem zd_S_openLine_1 : decode zb_S_openLine 1 = .ok (.invokevirtual 35, 3) := by decide +kernel
theorem zd_S_openLine_4 : decode zb_S_openLine 4 = .ok (.ifCond .eq 5, 3) := by decide +kernel
theorem zd_S_openLine_7 : decode zb_S_openLine 7 = .ok (.iconst (-1), 1) := by decide +kernel
theorem zd_S_openLine_8 : decode zb_S_openLine 8 = .ok (.ireturn, 1) := by decide +kernel
theorem zd_S_openLine_9 : decode zb_S_openLine 9 = .ok (.aload_n 0, 1) := by decide +kernel
theorem zd_S_openLine_10 : decode zb_S_openLine 10 = .ok (.dup, 1) := by decide +kernel
theorem zd_S_openLine_11 : decode zb_S_openLine 11 = .ok (.getfield 25, 3) := by decide +kernel
theorem zd_S_openLine_14 : decode zb_S_openLine 14 = .ok (.iconst 1, 1) := by decide +kernel
theorem zd_S_openLine_15 : decode zb_S_openLine 15 = .ok (.iadd, 1) := by decide +kernel
theorem zd_S_openLine_16 : decode zb_S_openLine 16 = .ok (.putfield 25, 3) := by decide +kernel
theorem zd_S_openLine_19 : decode zb_S_openLine 19 = .ok (.aload_n 0, 1) := by decide +kernel
theorem zd_S_openLine_20 : decode zb_S_openLine 20 = .ok (.dup, 1) := by decide +kernel
theorem zd_S_openLine_21 : decode zb_S_openLine 21 = .ok (.getfield 29, 3) := by decide +kernel
theorem zd_S_openLine_24 : decode zb_S_openLine 24 = .ok (.iconst 1, 1) := by decide +kernel
theorem zd_S_openLine_25 : decode zb_S_openLine 25 = .ok (.iadd, 1) := by decide +kernel
theorem zd_S_openLine_26 : decode zb_S_openLine 26 = .ok (.putfield 29, 3) := by decide +kernel
theorem zd_S_openLine_29 : decode zb_S_openLine 29 = .ok (.aload_n 0, 1) := by decide +kernel
theorem zd_S_openLine_30 : decode zb_S_openLine 30 = .ok (.getfield 15, 3) := by decide +kernel
theorem zd_S_openLine_33 : decode zb_S_openLine 33 = .ok (.aload_n 0, 1) := by decide +kernel
theorem zd_S_openLine_34 : decode zb_S_openLine 34 = .ok (.getfield 25, 3) := by decide +kernel
theorem zd_S_openLine_37 : decode zb_S_openLine 37 = .ok (.iconst 1, 1) := by decide +kernel
theorem zd_S_openLine_38 : decode zb_S_openLine 38 = .ok (.bastore, 1) := by decide +kernel
theorem zd_S_openLine_39 : decode zb_S_openLine 39 = .ok (.aload_n 0, 1) := by decide +kernel
theorem zd_S_openLine_40 : decode zb_S_openLine 40 = .ok (.getfield 25, 3) := by decide +kernel
theorem zd_S_openLine_43 : decode zb_S_openLine 43 = .ok (.ireturn, 1) := by decide +kernel
abbrev zy_S_slotOf : MethodName := ⟨"DeclareForms$Sheet", "slotOf", "(II)I"⟩
abbrev zb_S_slotOf : ByteArray := prog_5_method_8_code
theorem zh_S_slotOf : zy_S_slotOf.cls ≠ "java/lang/invoke/MethodHandle" ∧ zy_S_slotOf.cls ≠ "java/lang/invoke/VarHandle" ∧ (parseMethodDescriptor zy_S_slotOf.desc).map (fun d => d.parameters.length) = some 2 := by decide +kernel
theorem zd_S_slotOf_0 : decode zb_S_slotOf 0 = .ok (.iload_n 1, 1) := by decide +kernel
theorem zd_S_slotOf_1 : decode zb_S_slotOf 1 = .ok (.ifCond .lt 9, 3) := by decide +kernel
theorem zd_S_slotOf_4 : decode zb_S_slotOf 4 = .ok (.iload_n 1, 1) := by decide +kernel
theorem zd_S_slotOf_5 : decode zb_S_slotOf 5 = .ok (.bipush 19, 2) := by decide +kernel
theorem zd_S_slotOf_7 : decode zb_S_slotOf 7 = .ok (.if_icmp .le 5, 3) := by decide +kernel
theorem zd_S_slotOf_10 : decode zb_S_slotOf 10 = .ok (.iconst (-1), 1) := by decide +kernel
theorem zd_S_slotOf_11 : decode zb_S_slotOf 11 = .ok (.ireturn, 1) := by decide +kernel
theorem zd_S_slotOf_12 : decode zb_S_slotOf 12 = .ok (.iload_n 1, 1) := by decide +kernel
theorem zd_S_slotOf_13 : decode zb_S_slotOf 13 = .ok (.bipush 10, 2) := by decide +kernel
theorem zd_S_slotOf_15 : decode zb_S_slotOf 15 = .ok (.if_icmp .ge 13, 3) := by decide +kernel
theorem zd_S_slotOf_18 : decode zb_S_slotOf 18 = .ok (.iload_n 2, 1) := by decide +kernel
theorem zd_S_slotOf_19 : decode zb_S_slotOf 19 = .ok (.ifCond .ne 7, 3) := by decide +kernel
theorem zd_S_slotOf_22 : decode zb_S_slotOf 22 = .ok (.iload_n 1, 1) := by decide +kernel
theorem zd_S_slotOf_23 : decode zb_S_slotOf 23 = .ok (.goto 4, 3) := by decide +kernel
theorem zd_S_slotOf_26 : decode zb_S_slotOf 26 = .ok (.iconst (-1), 1) := by decide +kernel
theorem zd_S_slotOf_27 : decode zb_S_slotOf 27 = .ok (.ireturn, 1) := by decide +kernel
theorem zd_S_slotOf_28 : decode zb_S_slotOf 28 = .ok (.aload_n 0, 1) := by decide +kernel
theorem zd_S_slotOf_29 : decode zb_S_slotOf 29 = .ok (.iload_n 2, 1) := by decide +kernel
theorem zd_S_slotOf_30 : decode zb_S_slotOf 30 = .ok (.invokevirtual 39, 3) := by decide +kernel
theorem zd_S_slotOf_33 : decode zb_S_slotOf 33 = .ok (.ifCond .eq 15, 3) := by decide +kernel
theorem zd_S_slotOf_36 : decode zb_S_slotOf 36 = .ok (.iload_n 2, 1) := by decide +kernel
theorem zd_S_slotOf_37 : decode zb_S_slotOf 37 = .ok (.bipush 10, 2) := by decide +kernel
theorem zd_S_slotOf_39 : decode zb_S_slotOf 39 = .ok (.imul, 1) := by decide +kernel
theorem zd_S_slotOf_40 : decode zb_S_slotOf 40 = .ok (.iload_n 1, 1) := by decide +kernel
theorem zd_S_slotOf_41 : decode zb_S_slotOf 41 = .ok (.iadd, 1) := by decide +kernel
theorem zd_S_slotOf_42 : decode zb_S_slotOf 42 = .ok (.bipush 10, 2) := by decide +kernel
theorem zd_S_slotOf_44 : decode zb_S_slotOf 44 = .ok (.isub, 1) := by decide +kernel
theorem zd_S_slotOf_45 : decode zb_S_slotOf 45 = .ok (.goto 4, 3) := by decide +kernel
theorem zd_S_slotOf_48 : decode zb_S_slotOf 48 = .ok (.iconst (-1), 1) := by decide +kernel
theorem zd_S_slotOf_49 : decode zb_S_slotOf 49 = .ok (.ireturn, 1) := by decide +kernel
abbrev zy_S_valueAt : MethodName := ⟨"DeclareForms$Sheet", "valueAt", "(I)I"⟩
abbrev zb_S_valueAt : ByteArray := prog_5_method_9_code
theorem zh_S_valueAt : zy_S_valueAt.cls ≠ "java/lang/invoke/MethodHandle" ∧ zy_S_valueAt.cls ≠ "java/lang/invoke/VarHandle" ∧ (parseMethodDescriptor zy_S_valueAt.desc).map (fun d => d.parameters.length) = some 1 := by decide +kernel
theorem zd_S_valueAt_0 : decode zb_S_valueAt 0 = .ok (.iload_n 1, 1) := by decide +kernel
theorem zd_S_valueAt_1 : decode zb_S_valueAt 1 = .ok (.ifCond .lt 12, 3) := by decide +kernel
theorem zd_S_valueAt_4 : decode zb_S_valueAt 4 = .ok (.iload_n 1, 1) := by decide +kernel
theorem zd_S_valueAt_5 : decode zb_S_valueAt 5 = .ok (.aload_n 0, 1) := by decide +kernel
theorem zd_S_valueAt_6 : decode zb_S_valueAt 6 = .ok (.getfield 9, 3) := by decide +kernel
theorem zd_S_valueAt_9 : decode zb_S_valueAt 9 = .ok (.arraylength, 1) := by decide +kernel
theorem zd_S_valueAt_10 : decode zb_S_valueAt 10 = .ok (.if_icmp .lt 7, 3) := by decide +kernel
theorem zd_S_valueAt_13 : decode zb_S_valueAt 13 = .ok (.iconst (-1), 1) := by decide +kernel
theorem zd_S_valueAt_14 : decode zb_S_valueAt 14 = .ok (.goto 9, 3) := by decide +kernel
theorem zd_S_valueAt_17 : decode zb_S_valueAt 17 = .ok (.aload_n 0, 1) := by decide +kernel
theorem zd_S_valueAt_18 : decode zb_S_valueAt 18 = .ok (.getfield 9, 3) := by decide +kernel
theorem zd_S_valueAt_21 : decode zb_S_valueAt 21 = .ok (.iload_n 1, 1) := by decide +kernel
theorem zd_S_valueAt_22 : decode zb_S_valueAt 22 = .ok (.iaload, 1) := by decide +kernel
theorem zd_S_valueAt_23 : decode zb_S_valueAt 23 = .ok (.ireturn, 1) := by decide +kernel
abbrev zy_S_put : MethodName := ⟨"DeclareForms$Sheet", "put", "(II)V"⟩
abbrev zb_S_put : ByteArray := prog_5_method_10_code
theorem zh_S_put : zy_S_put.cls ≠ "java/lang/invoke/MethodHandle" ∧ zy_S_put.cls ≠ "java/lang/invoke/VarHandle" ∧ (parseMethodDescriptor zy_S_put.desc).map (fun d => d.parameters.length) = some 2 := by decide +kernel
theorem zd_S_put_0 : decode zb_S_put 0 = .ok (.iload_n 1, 1) := by decide +kernel
theorem zd_S_put_1 : decode zb_S_put 1 = .ok (.ifCond .lt 12, 3) := by decide +kernel
theorem zd_S_put_4 : decode zb_S_put 4 = .ok (.iload_n 1, 1) := by decide +kernel
theorem zd_S_put_5 : decode zb_S_put 5 = .ok (.aload_n 0, 1) := by decide +kernel
theorem zd_S_put_6 : decode zb_S_put 6 = .ok (.getfield 9, 3) := by decide +kernel
theorem zd_S_put_9 : decode zb_S_put 9 = .ok (.arraylength, 1) := by decide +kernel
theorem zd_S_put_10 : decode zb_S_put 10 = .ok (.if_icmp .lt 4, 3) := by decide +kernel
theorem zd_S_put_13 : decode zb_S_put 13 = .ok (.return_, 1) := by decide +kernel
theorem zd_S_put_14 : decode zb_S_put 14 = .ok (.aload_n 0, 1) := by decide +kernel
theorem zd_S_put_15 : decode zb_S_put 15 = .ok (.getfield 9, 3) := by decide +kernel
theorem zd_S_put_18 : decode zb_S_put 18 = .ok (.iload_n 1, 1) := by decide +kernel
theorem zd_S_put_19 : decode zb_S_put 19 = .ok (.iaload, 1) := by decide +kernel
theorem zd_S_put_20 : decode zb_S_put 20 = .ok (.iconst (-1), 1) := by decide +kernel
theorem zd_S_put_21 : decode zb_S_put 21 = .ok (.if_icmp .eq 13, 3) := by decide +kernel
theorem zd_S_put_24 : decode zb_S_put 24 = .ok (.aload_n 0, 1) := by decide +kernel
theorem zd_S_put_25 : decode zb_S_put 25 = .ok (.dup, 1) := by decide +kernel
theorem zd_S_put_26 : decode zb_S_put 26 = .ok (.getfield 32, 3) := by decide +kernel
theorem zd_S_put_29 : decode zb_S_put 29 = .ok (.iconst 1, 1) := by decide +kernel
theorem zd_S_put_30 : decode zb_S_put 30 = .ok (.isub, 1) := by decide +kernel
theorem zd_S_put_31 : decode zb_S_put 31 = .ok (.putfield 32, 3) := by decide +kernel
theorem zd_S_put_34 : decode zb_S_put 34 = .ok (.iload_n 2, 1) := by decide +kernel
theorem zd_S_put_35 : decode zb_S_put 35 = .ok (.iconst (-1), 1) := by decide +kernel
theorem zd_S_put_36 : decode zb_S_put 36 = .ok (.if_icmp .eq 13, 3) := by decide +kernel
theorem zd_S_put_39 : decode zb_S_put 39 = .ok (.aload_n 0, 1) := by decide +kernel
theorem zd_S_put_40 : decode zb_S_put 40 = .ok (.dup, 1) := by decide +kernel
theorem zd_S_put_41 : decode zb_S_put 41 = .ok (.getfield 32, 3) := by decide +kernel
theorem zd_S_put_44 : decode zb_S_put 44 = .ok (.iconst 1, 1) := by decide +kernel
theorem zd_S_put_45 : decode zb_S_put 45 = .ok (.iadd, 1) := by decide +kernel
theorem zd_S_put_46 : decode zb_S_put 46 = .ok (.putfield 32, 3) := by decide +kernel
theorem zd_S_put_49 : decode zb_S_put 49 = .ok (.aload_n 0, 1) := by decide +kernel
theorem zd_S_put_50 : decode zb_S_put 50 = .ok (.getfield 9, 3) := by decide +kernel
theorem zd_S_put_53 : decode zb_S_put 53 = .ok (.iload_n 1, 1) := by decide +kernel
theorem zd_S_put_54 : decode zb_S_put 54 = .ok (.iload_n 2, 1) := by decide +kernel
theorem zd_S_put_55 : decode zb_S_put 55 = .ok (.iastore, 1) := by decide +kernel
theorem zd_S_put_56 : decode zb_S_put 56 = .ok (.return_, 1) := by decide +kernel
abbrev zy_S_dropLine : MethodName := ⟨"DeclareForms$Sheet", "dropLine", "(I)I"⟩
abbrev zb_S_dropLine : ByteArray := prog_5_method_7_code
theorem zh_S_dropLine : zy_S_dropLine.cls ≠ "java/lang/invoke/MethodHandle" ∧ zy_S_dropLine.cls ≠ "java/lang/invoke/VarHandle" ∧ (parseMethodDescriptor zy_S_dropLine.desc).map (fun d => d.parameters.length) = some 1 := by decide +kernel
theorem zd_S_dropLine_0 : decode zb_S_dropLine 0 = .ok (.aload_n 0, 1) := by decide +kernel
theorem zd_S_dropLine_1 : decode zb_S_dropLine 1 = .ok (.iload_n 1, 1) := by decide +kernel
theorem zd_S_dropLine_2 : decode zb_S_dropLine 2 = .ok (.invokevirtual 39, 3) := by decide +kernel
theorem zd_S_dropLine_5 : decode zb_S_dropLine 5 = .ok (.ifCond .ne 5, 3) := by decide +kernel
theorem zd_S_dropLine_8 : decode zb_S_dropLine 8 = .ok (.iconst (-1), 1) := by decide +kernel
theorem zd_S_dropLine_9 : decode zb_S_dropLine 9 = .ok (.ireturn, 1) := by decide +kernel
theorem zd_S_dropLine_10 : decode zb_S_dropLine 10 = .ok (.aload_n 0, 1) := by decide +kernel
theorem zd_S_dropLine_11 : decode zb_S_dropLine 11 = .ok (.getfield 32, 3) := by decide +kernel
theorem zd_S_dropLine_14 : decode zb_S_dropLine 14 = .ok (.istore_n 2, 1) := by decide +kernel
theorem zd_S_dropLine_15 : decode zb_S_dropLine 15 = .ok (.iconst 0, 1) := by decide +kernel
theorem zd_S_dropLine_16 : decode zb_S_dropLine 16 = .ok (.istore_n 3, 1) := by decide +kernel
theorem zd_S_dropLine_17 : decode zb_S_dropLine 17 = .ok (.iload_n 3, 1) := by decide +kernel
theorem zd_S_dropLine_18 : decode zb_S_dropLine 18 = .ok (.bipush 10, 2) := by decide +kernel
theorem zd_S_dropLine_20 : decode zb_S_dropLine 20 = .ok (.if_icmp .ge 20, 3) := by decide +kernel
theorem zd_S_dropLine_23 : decode zb_S_dropLine 23 = .ok (.aload_n 0, 1) := by decide +kernel
theorem zd_S_dropLine_24 : decode zb_S_dropLine 24 = .ok (.iload_n 1, 1) := by decide +kernel
theorem zd_S_dropLine_25 : decode zb_S_dropLine 25 = .ok (.bipush 10, 2) := by decide +kernel
theorem zd_S_dropLine_27 : decode zb_S_dropLine 27 = .ok (.imul, 1) := by decide +kernel
theorem zd_S_dropLine_28 : decode zb_S_dropLine 28 = .ok (.iload_n 3, 1) := by decide +kernel
theorem zd_S_dropLine_29 : decode zb_S_dropLine 29 = .ok (.iadd, 1) := by decide +kernel
theorem zd_S_dropLine_30 : decode zb_S_dropLine 30 = .ok (.iconst (-1), 1) := by decide +kernel
theorem zd_S_dropLine_31 : decode zb_S_dropLine 31 = .ok (.invokevirtual 43, 3) := by decide +kernel
theorem zd_S_dropLine_34 : decode zb_S_dropLine 34 = .ok (.iinc 3 1, 3) := by decide +kernel
theorem zd_S_dropLine_37 : decode zb_S_dropLine 37 = .ok (.goto (-20), 3) := by decide +kernel
theorem zd_S_dropLine_40 : decode zb_S_dropLine 40 = .ok (.aload_n 0, 1) := by decide +kernel
theorem zd_S_dropLine_41 : decode zb_S_dropLine 41 = .ok (.getfield 15, 3) := by decide +kernel
theorem zd_S_dropLine_44 : decode zb_S_dropLine 44 = .ok (.iload_n 1, 1) := by decide +kernel
theorem zd_S_dropLine_45 : decode zb_S_dropLine 45 = .ok (.iconst 0, 1) := by decide +kernel
theorem zd_S_dropLine_46 : decode zb_S_dropLine 46 = .ok (.bastore, 1) := by decide +kernel
theorem zd_S_dropLine_47 : decode zb_S_dropLine 47 = .ok (.aload_n 0, 1) := by decide +kernel
theorem zd_S_dropLine_48 : decode zb_S_dropLine 48 = .ok (.dup, 1) := by decide +kernel
theorem zd_S_dropLine_49 : decode zb_S_dropLine 49 = .ok (.getfield 29, 3) := by decide +kernel
theorem zd_S_dropLine_52 : decode zb_S_dropLine 52 = .ok (.iconst 1, 1) := by decide +kernel
theorem zd_S_dropLine_53 : decode zb_S_dropLine 53 = .ok (.isub, 1) := by decide +kernel
theorem zd_S_dropLine_54 : decode zb_S_dropLine 54 = .ok (.putfield 29, 3) := by decide +kernel
theorem zd_S_dropLine_57 : decode zb_S_dropLine 57 = .ok (.iload_n 2, 1) := by decide +kernel
theorem zd_S_dropLine_58 : decode zb_S_dropLine 58 = .ok (.aload_n 0, 1) := by decide +kernel
theorem zd_S_dropLine_59 : decode zb_S_dropLine 59 = .ok (.getfield 32, 3) := by decide +kernel
theorem zd_S_dropLine_62 : decode zb_S_dropLine 62 = .ok (.isub, 1) := by decide +kernel
theorem zd_S_dropLine_63 : decode zb_S_dropLine 63 = .ok (.ireturn, 1) := by decide +kernel
abbrev zy_S_firstMissing : MethodName := ⟨"DeclareForms$Sheet", "firstMissing", "(I)I"⟩
abbrev zb_S_firstMissing : ByteArray := prog_5_method_11_code
theorem zh_S_firstMissing : zy_S_firstMissing.cls ≠ "java/lang/invoke/MethodHandle" ∧ zy_S_firstMissing.cls ≠ "java/lang/invoke/VarHandle" ∧ (parseMethodDescriptor zy_S_firstMissing.desc).map (fun d => d.parameters.length) = some 1 := by decide +kernel
theorem zd_S_firstMissing_0 : decode zb_S_firstMissing 0 = .ok (.iconst 0, 1) := by decide +kernel
theorem zd_S_firstMissing_1 : decode zb_S_firstMissing 1 = .ok (.istore_n 2, 1) := by decide +kernel
theorem zd_S_firstMissing_2 : decode zb_S_firstMissing 2 = .ok (.iload_n 2, 1) := by decide +kernel
theorem zd_S_firstMissing_3 : decode zb_S_firstMissing 3 = .ok (.aload_n 0, 1) := by decide +kernel
theorem zd_S_firstMissing_4 : decode zb_S_firstMissing 4 = .ok (.getfield 9, 3) := by decide +kernel
theorem zd_S_firstMissing_7 : decode zb_S_firstMissing 7 = .ok (.arraylength, 1) := by decide +kernel
theorem zd_S_firstMissing_8 : decode zb_S_firstMissing 8 = .ok (.if_icmp .ge 59, 3) := by decide +kernel
theorem zd_S_firstMissing_11 : decode zb_S_firstMissing 11 = .ok (.iload_n 2, 1) := by decide +kernel
theorem zd_S_firstMissing_12 : decode zb_S_firstMissing 12 = .ok (.bipush 10, 2) := by decide +kernel
theorem zd_S_firstMissing_14 : decode zb_S_firstMissing 14 = .ok (.if_icmp .lt 14, 3) := by decide +kernel
theorem zd_S_firstMissing_17 : decode zb_S_firstMissing 17 = .ok (.aload_n 0, 1) := by decide +kernel
theorem zd_S_firstMissing_18 : decode zb_S_firstMissing 18 = .ok (.iload_n 2, 1) := by decide +kernel
theorem zd_S_firstMissing_19 : decode zb_S_firstMissing 19 = .ok (.invokestatic 47, 3) := by decide +kernel
theorem zd_S_firstMissing_22 : decode zb_S_firstMissing 22 = .ok (.invokevirtual 39, 3) := by decide +kernel
theorem zd_S_firstMissing_25 : decode zb_S_firstMissing 25 = .ok (.ifCond .eq 7, 3) := by decide +kernel
theorem zd_S_firstMissing_28 : decode zb_S_firstMissing 28 = .ok (.iconst 1, 1) := by decide +kernel
theorem zd_S_firstMissing_29 : decode zb_S_firstMissing 29 = .ok (.goto 4, 3) := by decide +kernel
theorem zd_S_firstMissing_32 : decode zb_S_firstMissing 32 = .ok (.iconst 0, 1) := by decide +kernel
theorem zd_S_firstMissing_33 : decode zb_S_firstMissing 33 = .ok (.istore_n 3, 1) := by decide +kernel
theorem zd_S_firstMissing_34 : decode zb_S_firstMissing 34 = .ok (.iload_n 3, 1) := by decide +kernel
theorem zd_S_firstMissing_35 : decode zb_S_firstMissing 35 = .ok (.ifCond .eq 26, 3) := by decide +kernel
theorem zd_S_firstMissing_38 : decode zb_S_firstMissing 38 = .ok (.aload_n 0, 1) := by decide +kernel
theorem zd_S_firstMissing_39 : decode zb_S_firstMissing 39 = .ok (.getfield 9, 3) := by decide +kernel
theorem zd_S_firstMissing_42 : decode zb_S_firstMissing 42 = .ok (.iload_n 2, 1) := by decide +kernel
theorem zd_S_firstMissing_43 : decode zb_S_firstMissing 43 = .ok (.iaload, 1) := by decide +kernel
theorem zd_S_firstMissing_44 : decode zb_S_firstMissing 44 = .ok (.iconst (-1), 1) := by decide +kernel
theorem zd_S_firstMissing_45 : decode zb_S_firstMissing 45 = .ok (.if_icmp .ne 16, 3) := by decide +kernel
theorem zd_S_firstMissing_48 : decode zb_S_firstMissing 48 = .ok (.iload_n 1, 1) := by decide +kernel
theorem zd_S_firstMissing_49 : decode zb_S_firstMissing 49 = .ok (.iload_n 2, 1) := by decide +kernel
theorem zd_S_firstMissing_50 : decode zb_S_firstMissing 50 = .ok (.invokestatic 51, 3) := by decide +kernel
theorem zd_S_firstMissing_53 : decode zb_S_firstMissing 53 = .ok (.invokestatic 54, 3) := by decide +kernel
theorem zd_S_firstMissing_56 : decode zb_S_firstMissing 56 = .ok (.ifCond .ne 5, 3) := by decide +kernel
theorem zd_S_firstMissing_59 : decode zb_S_firstMissing 59 = .ok (.iload_n 2, 1) := by decide +kernel
theorem zd_S_firstMissing_60 : decode zb_S_firstMissing 60 = .ok (.ireturn, 1) := by decide +kernel
theorem zd_S_firstMissing_61 : decode zb_S_firstMissing 61 = .ok (.iinc 2 1, 3) := by decide +kernel
theorem zd_S_firstMissing_64 : decode zb_S_firstMissing 64 = .ok (.goto (-62), 3) := by decide +kernel
theorem zd_S_firstMissing_67 : decode zb_S_firstMissing 67 = .ok (.iconst (-1), 1) := by decide +kernel
theorem zd_S_firstMissing_68 : decode zb_S_firstMissing 68 = .ok (.ireturn, 1) := by decide +kernel
abbrev zy_S_total : MethodName := ⟨"DeclareForms$Sheet", "total", "(I)J"⟩
abbrev zb_S_total : ByteArray := prog_5_method_13_code
theorem zh_S_total : zy_S_total.cls ≠ "java/lang/invoke/MethodHandle" ∧ zy_S_total.cls ≠ "java/lang/invoke/VarHandle" ∧ (parseMethodDescriptor zy_S_total.desc).map (fun d => d.parameters.length) = some 1 := by decide +kernel
theorem zd_S_total_0 : decode zb_S_total 0 = .ok (.lconst 0, 1) := by decide +kernel
theorem zd_S_total_1 : decode zb_S_total 1 = .ok (.lstore_n 2, 1) := by decide +kernel
theorem zd_S_total_2 : decode zb_S_total 2 = .ok (.iconst 1, 1) := by decide +kernel
theorem zd_S_total_3 : decode zb_S_total 3 = .ok (.istore 4, 2) := by decide +kernel
theorem zd_S_total_5 : decode zb_S_total 5 = .ok (.iload 4, 2) := by decide +kernel
theorem zd_S_total_7 : decode zb_S_total 7 = .ok (.bipush 30, 2) := by decide +kernel
theorem zd_S_total_9 : decode zb_S_total 9 = .ok (.if_icmp .gt 28, 3) := by decide +kernel
theorem zd_S_total_12 : decode zb_S_total 12 = .ok (.lload_n 2, 1) := by decide +kernel
theorem zd_S_total_13 : decode zb_S_total 13 = .ok (.iconst 0, 1) := by decide +kernel
theorem zd_S_total_14 : decode zb_S_total 14 = .ok (.aload_n 0, 1) := by decide +kernel
theorem zd_S_total_15 : decode zb_S_total 15 = .ok (.aload_n 0, 1) := by decide +kernel
theorem zd_S_total_16 : decode zb_S_total 16 = .ok (.iload_n 1, 1) := by decide +kernel
theorem zd_S_total_17 : decode zb_S_total 17 = .ok (.iload 4, 2) := by decide +kernel
theorem zd_S_total_19 : decode zb_S_total 19 = .ok (.invokevirtual 58, 3) := by decide +kernel
theorem zd_S_total_22 : decode zb_S_total 22 = .ok (.invokevirtual 61, 3) := by decide +kernel
theorem zd_S_total_25 : decode zb_S_total 25 = .ok (.invokestatic 68, 3) := by decide +kernel
theorem zd_S_total_28 : decode zb_S_total 28 = .ok (.i2l, 1) := by decide +kernel
theorem zd_S_total_29 : decode zb_S_total 29 = .ok (.ladd, 1) := by decide +kernel
theorem zd_S_total_30 : decode zb_S_total 30 = .ok (.lstore_n 2, 1) := by decide +kernel
theorem zd_S_total_31 : decode zb_S_total 31 = .ok (.iinc 4 1, 3) := by decide +kernel
theorem zd_S_total_34 : decode zb_S_total 34 = .ok (.goto (-29), 3) := by decide +kernel
theorem zd_S_total_37 : decode zb_S_total 37 = .ok (.lload_n 2, 1) := by decide +kernel
theorem zd_S_total_38 : decode zb_S_total 38 = .ok (.lreturn, 1) := by decide +kernel
abbrev zy_S_sumIsWrong : MethodName := ⟨"DeclareForms$Sheet", "sumIsWrong", "(II)Z"⟩
abbrev zb_S_sumIsWrong : ByteArray := prog_5_method_12_code
theorem zh_S_sumIsWrong : zy_S_sumIsWrong.cls ≠ "java/lang/invoke/MethodHandle" ∧ zy_S_sumIsWrong.cls ≠ "java/lang/invoke/VarHandle" ∧ (parseMethodDescriptor zy_S_sumIsWrong.desc).map (fun d => d.parameters.length) = some 2 := by decide +kernel
theorem zd_S_sumIsWrong_0 : decode zb_S_sumIsWrong 0 = .ok (.aload_n 0, 1) := by decide +kernel
theorem zd_S_sumIsWrong_1 : decode zb_S_sumIsWrong 1 = .ok (.aload_n 0, 1) := by decide +kernel
theorem zd_S_sumIsWrong_2 : decode zb_S_sumIsWrong 2 = .ok (.iload_n 1, 1) := by decide +kernel
theorem zd_S_sumIsWrong_3 : decode zb_S_sumIsWrong 3 = .ok (.iconst 0, 1) := by decide +kernel
theorem zd_S_sumIsWrong_4 : decode zb_S_sumIsWrong 4 = .ok (.invokevirtual 58, 3) := by decide +kernel
theorem zd_S_sumIsWrong_7 : decode zb_S_sumIsWrong 7 = .ok (.invokevirtual 61, 3) := by decide +kernel
theorem zd_S_sumIsWrong_10 : decode zb_S_sumIsWrong 10 = .ok (.istore_n 3, 1) := by decide +kernel
theorem zd_S_sumIsWrong_11 : decode zb_S_sumIsWrong 11 = .ok (.iload_n 3, 1) := by decide +kernel
theorem zd_S_sumIsWrong_12 : decode zb_S_sumIsWrong 12 = .ok (.iconst (-1), 1) := by decide +kernel
theorem zd_S_sumIsWrong_13 : decode zb_S_sumIsWrong 13 = .ok (.if_icmp .eq 18, 3) := by decide +kernel
theorem zd_S_sumIsWrong_16 : decode zb_S_sumIsWrong 16 = .ok (.iload_n 3, 1) := by decide +kernel
theorem zd_S_sumIsWrong_17 : decode zb_S_sumIsWrong 17 = .ok (.i2l, 1) := by decide +kernel
theorem zd_S_sumIsWrong_18 : decode zb_S_sumIsWrong 18 = .ok (.aload_n 0, 1) := by decide +kernel
theorem zd_S_sumIsWrong_19 : decode zb_S_sumIsWrong 19 = .ok (.iload_n 2, 1) := by decide +kernel
theorem zd_S_sumIsWrong_20 : decode zb_S_sumIsWrong 20 = .ok (.invokevirtual 64, 3) := by decide +kernel
theorem zd_S_sumIsWrong_23 : decode zb_S_sumIsWrong 23 = .ok (.lcmp, 1) := by decide +kernel
theorem zd_S_sumIsWrong_24 : decode zb_S_sumIsWrong 24 = .ok (.ifCond .eq 7, 3) := by decide +kernel
theorem zd_S_sumIsWrong_27 : decode zb_S_sumIsWrong 27 = .ok (.iconst 1, 1) := by decide +kernel
theorem zd_S_sumIsWrong_28 : decode zb_S_sumIsWrong 28 = .ok (.goto 4, 3) := by decide +kernel
theorem zd_S_sumIsWrong_31 : decode zb_S_sumIsWrong 31 = .ok (.iconst 0, 1) := by decide +kernel
theorem zd_S_sumIsWrong_32 : decode zb_S_sumIsWrong 32 = .ok (.ireturn, 1) := by decide +kernel
abbrev zy_S_setSlot : MethodName := ⟨"DeclareForms$Sheet", "setSlot", "(I)I"⟩
abbrev zb_S_setSlot : ByteArray := prog_5_method_14_code
theorem zh_S_setSlot : zy_S_setSlot.cls ≠ "java/lang/invoke/MethodHandle" ∧ zy_S_setSlot.cls ≠ "java/lang/invoke/VarHandle" ∧ (parseMethodDescriptor zy_S_setSlot.desc).map (fun d => d.parameters.length) = some 1 := by decide +kernel
theorem zd_S_setSlot_0 : decode zb_S_setSlot 0 = .ok (.iconst 0, 1) := by decide +kernel
theorem zd_S_setSlot_1 : decode zb_S_setSlot 1 = .ok (.istore_n 2, 1) := by decide +kernel
theorem zd_S_setSlot_2 : decode zb_S_setSlot 2 = .ok (.iconst 0, 1) := by decide +kernel
theorem zd_S_setSlot_3 : decode zb_S_setSlot 3 = .ok (.istore_n 3, 1) := by decide +kernel
theorem zd_S_setSlot_4 : decode zb_S_setSlot 4 = .ok (.iload_n 3, 1) := by decide +kernel
theorem zd_S_setSlot_5 : decode zb_S_setSlot 5 = .ok (.aload_n 0, 1) := by decide +kernel
theorem zd_S_setSlot_6 : decode zb_S_setSlot 6 = .ok (.getfield 9, 3) := by decide +kernel
theorem zd_S_setSlot_9 : decode zb_S_setSlot 9 = .ok (.arraylength, 1) := by decide +kernel
theorem zd_S_setSlot_10 : decode zb_S_setSlot 10 = .ok (.if_icmp .ge 29, 3) := by decide +kernel
theorem zd_S_setSlot_13 : decode zb_S_setSlot 13 = .ok (.aload_n 0, 1) := by decide +kernel
theorem zd_S_setSlot_14 : decode zb_S_setSlot 14 = .ok (.getfield 9, 3) := by decide +kernel
theorem zd_S_setSlot_17 : decode zb_S_setSlot 17 = .ok (.iload_n 3, 1) := by decide +kernel
theorem zd_S_setSlot_18 : decode zb_S_setSlot 18 = .ok (.iaload, 1) := by decide +kernel
theorem zd_S_setSlot_19 : decode zb_S_setSlot 19 = .ok (.iconst (-1), 1) := by decide +kernel
theorem zd_S_setSlot_20 : decode zb_S_setSlot 20 = .ok (.if_icmp .eq 13, 3) := by decide +kernel
theorem zd_S_setSlot_23 : decode zb_S_setSlot 23 = .ok (.iload_n 2, 1) := by decide +kernel
theorem zd_S_setSlot_24 : decode zb_S_setSlot 24 = .ok (.iload_n 1, 1) := by decide +kernel
theorem zd_S_setSlot_25 : decode zb_S_setSlot 25 = .ok (.if_icmp .ne 5, 3) := by decide +kernel
theorem zd_S_setSlot_28 : decode zb_S_setSlot 28 = .ok (.iload_n 3, 1) := by decide +kernel
theorem zd_S_setSlot_29 : decode zb_S_setSlot 29 = .ok (.ireturn, 1) := by decide +kernel
theorem zd_S_setSlot_30 : decode zb_S_setSlot 30 = .ok (.iinc 2 1, 3) := by decide +kernel
theorem zd_S_setSlot_33 : decode zb_S_setSlot 33 = .ok (.iinc 3 1, 3) := by decide +kernel
theorem zd_S_setSlot_36 : decode zb_S_setSlot 36 = .ok (.goto (-32), 3) := by decide +kernel
theorem zd_S_setSlot_39 : decode zb_S_setSlot 39 = .ok (.iconst (-1), 1) := by decide +kernel
theorem zd_S_setSlot_40 : decode zb_S_setSlot 40 = .ok (.ireturn, 1) := by decide +kernel
abbrev zy_C_find : MethodName := ⟨"DeclareForms$Codes", "find", "(I)I"⟩
abbrev zb_C_find : ByteArray := prog_2_method_5_code
theorem zh_C_find : zy_C_find.cls ≠ "java/lang/invoke/MethodHandle" ∧ zy_C_find.cls ≠ "java/lang/invoke/VarHandle" ∧ (parseMethodDescriptor zy_C_find.desc).map (fun d => d.parameters.length) = some 1 := by decide +kernel
theorem zd_C_find_0 : decode zb_C_find 0 = .ok (.iconst 0, 1) := by decide +kernel
theorem zd_C_find_1 : decode zb_C_find 1 = .ok (.istore_n 2, 1) := by decide +kernel
theorem zd_C_find_2 : decode zb_C_find 2 = .ok (.iload_n 2, 1) := by decide +kernel
theorem zd_C_find_3 : decode zb_C_find 3 = .ok (.aload_n 0, 1) := by decide +kernel
theorem zd_C_find_4 : decode zb_C_find 4 = .ok (.getfield 22, 3) := by decide +kernel
theorem zd_C_find_7 : decode zb_C_find 7 = .ok (.if_icmp .ge 21, 3) := by decide +kernel
theorem zd_C_find_10 : decode zb_C_find 10 = .ok (.aload_n 0, 1) := by decide +kernel
theorem zd_C_find_11 : decode zb_C_find 11 = .ok (.getfield 9, 3) := by decide +kernel
theorem zd_C_find_14 : decode zb_C_find 14 = .ok (.iload_n 2, 1) := by decide +kernel
theorem zd_C_find_15 : decode zb_C_find 15 = .ok (.iaload, 1) := by decide +kernel
theorem zd_C_find_16 : decode zb_C_find 16 = .ok (.iload_n 1, 1) := by decide +kernel
theorem zd_C_find_17 : decode zb_C_find 17 = .ok (.if_icmp .ne 5, 3) := by decide +kernel
theorem zd_C_find_20 : decode zb_C_find 20 = .ok (.iload_n 2, 1) := by decide +kernel
theorem zd_C_find_21 : decode zb_C_find 21 = .ok (.ireturn, 1) := by decide +kernel
theorem zd_C_find_22 : decode zb_C_find 22 = .ok (.iinc 2 1, 3) := by decide +kernel
theorem zd_C_find_25 : decode zb_C_find 25 = .ok (.goto (-23), 3) := by decide +kernel
theorem zd_C_find_28 : decode zb_C_find 28 = .ok (.iconst (-1), 1) := by decide +kernel
theorem zd_C_find_29 : decode zb_C_find 29 = .ok (.ireturn, 1) := by decide +kernel
abbrev zy_C_tell : MethodName := ⟨"DeclareForms$Codes", "tell", "(II)Z"⟩
abbrev zb_C_tell : ByteArray := prog_2_method_2_code
theorem zh_C_tell : zy_C_tell.cls ≠ "java/lang/invoke/MethodHandle" ∧ zy_C_tell.cls ≠ "java/lang/invoke/VarHandle" ∧ (parseMethodDescriptor zy_C_tell.desc).map (fun d => d.parameters.length) = some 2 := by decide +kernel
theorem zd_C_tell_0 : decode zb_C_tell 0 = .ok (.aload_n 0, 1) := by decide +kernel
theorem zd_C_tell_1 : decode zb_C_tell 1 = .ok (.iload_n 1, 1) := by decide +kernel
theorem zd_C_tell_2 : decode zb_C_tell 2 = .ok (.invokevirtual 18, 3) := by decide +kernel
theorem zd_C_tell_5 : decode zb_C_tell 5 = .ok (.istore_n 3, 1) := by decide +kernel
theorem zd_C_tell_6 : decode zb_C_tell 6 = .ok (.iload_n 3, 1) := by decide +kernel
theorem zd_C_tell_7 : decode zb_C_tell 7 = .ok (.iconst (-1), 1) := by decide +kernel
theorem zd_C_tell_8 : decode zb_C_tell 8 = .ok (.if_icmp .ne 36, 3) := by decide +kernel
theorem zd_C_tell_11 : decode zb_C_tell 11 = .ok (.aload_n 0, 1) := by decide +kernel
theorem zd_C_tell_12 : decode zb_C_tell 12 = .ok (.getfield 22, 3) := by decide +kernel
theorem zd_C_tell_15 : decode zb_C_tell 15 = .ok (.bipush 20, 2) := by decide +kernel
theorem zd_C_tell_17 : decode zb_C_tell 17 = .ok (.if_icmp .lt 5, 3) := by decide +kernel
theorem zd_C_tell_20 : decode zb_C_tell 20 = .ok (.iconst 0, 1) := by decide +kernel
theorem zd_C_tell_21 : decode zb_C_tell 21 = .ok (.ireturn, 1) := by decide +kernel
theorem zd_C_tell_22 : decode zb_C_tell 22 = .ok (.aload_n 0, 1) := by decide +kernel
theorem zd_C_tell_23 : decode zb_C_tell 23 = .ok (.getfield 22, 3) := by decide +kernel
theorem zd_C_tell_26 : decode zb_C_tell 26 = .ok (.istore_n 3, 1) := by decide +kernel
theorem zd_C_tell_27 : decode zb_C_tell 27 = .ok (.aload_n 0, 1) := by decide +kernel
theorem zd_C_tell_28 : decode zb_C_tell 28 = .ok (.dup, 1) := by decide +kernel
theorem zd_C_tell_29 : decode zb_C_tell 29 = .ok (.getfield 22, 3) := by decide +kernel
theorem zd_C_tell_32 : decode zb_C_tell 32 = .ok (.iconst 1, 1) := by decide +kernel
theorem zd_C_tell_33 : decode zb_C_tell 33 = .ok (.iadd, 1) := by decide +kernel
theorem zd_C_tell_34 : decode zb_C_tell 34 = .ok (.putfield 22, 3) := by decide +kernel
theorem zd_C_tell_37 : decode zb_C_tell 37 = .ok (.aload_n 0, 1) := by decide +kernel
theorem zd_C_tell_38 : decode zb_C_tell 38 = .ok (.getfield 9, 3) := by decide +kernel
theorem zd_C_tell_41 : decode zb_C_tell 41 = .ok (.iload_n 3, 1) := by decide +kernel
theorem zd_C_tell_42 : decode zb_C_tell 42 = .ok (.iload_n 1, 1) := by decide +kernel
theorem zd_C_tell_43 : decode zb_C_tell 43 = .ok (.iastore, 1) := by decide +kernel
theorem zd_C_tell_44 : decode zb_C_tell 44 = .ok (.aload_n 0, 1) := by decide +kernel
theorem zd_C_tell_45 : decode zb_C_tell 45 = .ok (.getfield 15, 3) := by decide +kernel
theorem zd_C_tell_48 : decode zb_C_tell 48 = .ok (.iload_n 3, 1) := by decide +kernel
theorem zd_C_tell_49 : decode zb_C_tell 49 = .ok (.iload_n 2, 1) := by decide +kernel
theorem zd_C_tell_50 : decode zb_C_tell 50 = .ok (.iastore, 1) := by decide +kernel
theorem zd_C_tell_51 : decode zb_C_tell 51 = .ok (.iconst 1, 1) := by decide +kernel
theorem zd_C_tell_52 : decode zb_C_tell 52 = .ok (.ireturn, 1) := by decide +kernel
abbrev zy_C_isGood : MethodName := ⟨"DeclareForms$Codes", "isGood", "(II)Z"⟩
abbrev zb_C_isGood : ByteArray := prog_2_method_3_code
theorem zh_C_isGood : zy_C_isGood.cls ≠ "java/lang/invoke/MethodHandle" ∧ zy_C_isGood.cls ≠ "java/lang/invoke/VarHandle" ∧ (parseMethodDescriptor zy_C_isGood.desc).map (fun d => d.parameters.length) = some 2 := by decide +kernel
theorem zd_C_isGood_0 : decode zb_C_isGood 0 = .ok (.aload_n 0, 1) := by decide +kernel
theorem zd_C_isGood_1 : decode zb_C_isGood 1 = .ok (.iload_n 1, 1) := by decide +kernel
theorem zd_C_isGood_2 : decode zb_C_isGood 2 = .ok (.invokevirtual 18, 3) := by decide +kernel
theorem zd_C_isGood_5 : decode zb_C_isGood 5 = .ok (.istore_n 3, 1) := by decide +kernel
theorem zd_C_isGood_6 : decode zb_C_isGood 6 = .ok (.iload_n 3, 1) := by decide +kernel
theorem zd_C_isGood_7 : decode zb_C_isGood 7 = .ok (.iconst (-1), 1) := by decide +kernel
theorem zd_C_isGood_8 : decode zb_C_isGood 8 = .ok (.if_icmp .eq 17, 3) := by decide +kernel
theorem zd_C_isGood_11 : decode zb_C_isGood 11 = .ok (.aload_n 0, 1) := by decide +kernel
theorem zd_C_isGood_12 : decode zb_C_isGood 12 = .ok (.getfield 15, 3) := by decide +kernel
theorem zd_C_isGood_15 : decode zb_C_isGood 15 = .ok (.iload_n 3, 1) := by decide +kernel
theorem zd_C_isGood_16 : decode zb_C_isGood 16 = .ok (.iaload, 1) := by decide +kernel
theorem zd_C_isGood_17 : decode zb_C_isGood 17 = .ok (.iload_n 2, 1) := by decide +kernel
theorem zd_C_isGood_18 : decode zb_C_isGood 18 = .ok (.if_icmp .lt 7, 3) := by decide +kernel
theorem zd_C_isGood_21 : decode zb_C_isGood 21 = .ok (.iconst 1, 1) := by decide +kernel
theorem zd_C_isGood_22 : decode zb_C_isGood 22 = .ok (.goto 4, 3) := by decide +kernel
theorem zd_C_isGood_25 : decode zb_C_isGood 25 = .ok (.iconst 0, 1) := by decide +kernel
theorem zd_C_isGood_26 : decode zb_C_isGood 26 = .ok (.ireturn, 1) := by decide +kernel
abbrev zy_C_goodCount : MethodName := ⟨"DeclareForms$Codes", "goodCount", "(I)I"⟩
abbrev zb_C_goodCount : ByteArray := prog_2_method_4_code
theorem zh_C_goodCount : zy_C_goodCount.cls ≠ "java/lang/invoke/MethodHandle" ∧ zy_C_goodCount.cls ≠ "java/lang/invoke/VarHandle" ∧ (parseMethodDescriptor zy_C_goodCount.desc).map (fun d => d.parameters.length) = some 1 := by decide +kernel
theorem zd_C_goodCount_0 : decode zb_C_goodCount 0 = .ok (.iconst 0, 1) := by decide +kernel
theorem zd_C_goodCount_1 : decode zb_C_goodCount 1 = .ok (.istore_n 2, 1) := by decide +kernel
theorem zd_C_goodCount_2 : decode zb_C_goodCount 2 = .ok (.iconst 0, 1) := by decide +kernel
theorem zd_C_goodCount_3 : decode zb_C_goodCount 3 = .ok (.istore_n 3, 1) := by decide +kernel
theorem zd_C_goodCount_4 : decode zb_C_goodCount 4 = .ok (.iload_n 3, 1) := by decide +kernel
theorem zd_C_goodCount_5 : decode zb_C_goodCount 5 = .ok (.aload_n 0, 1) := by decide +kernel
theorem zd_C_goodCount_6 : decode zb_C_goodCount 6 = .ok (.getfield 22, 3) := by decide +kernel
theorem zd_C_goodCount_9 : decode zb_C_goodCount 9 = .ok (.if_icmp .ge 22, 3) := by decide +kernel
theorem zd_C_goodCount_12 : decode zb_C_goodCount 12 = .ok (.aload_n 0, 1) := by decide +kernel
theorem zd_C_goodCount_13 : decode zb_C_goodCount 13 = .ok (.getfield 15, 3) := by decide +kernel
theorem zd_C_goodCount_16 : decode zb_C_goodCount 16 = .ok (.iload_n 3, 1) := by decide +kernel
theorem zd_C_goodCount_17 : decode zb_C_goodCount 17 = .ok (.iaload, 1) := by decide +kernel
theorem zd_C_goodCount_18 : decode zb_C_goodCount 18 = .ok (.iload_n 1, 1) := by decide +kernel
theorem zd_C_goodCount_19 : decode zb_C_goodCount 19 = .ok (.if_icmp .lt 6, 3) := by decide +kernel
theorem zd_C_goodCount_22 : decode zb_C_goodCount 22 = .ok (.iinc 2 1, 3) := by decide +kernel
theorem zd_C_goodCount_25 : decode zb_C_goodCount 25 = .ok (.iinc 3 1, 3) := by decide +kernel
theorem zd_C_goodCount_28 : decode zb_C_goodCount 28 = .ok (.goto (-24), 3) := by decide +kernel
theorem zd_C_goodCount_31 : decode zb_C_goodCount 31 = .ok (.iload_n 2, 1) := by decide +kernel
theorem zd_C_goodCount_32 : decode zb_C_goodCount 32 = .ok (.ireturn, 1) := by decide +kernel
abbrev zy_P_size : MethodName := ⟨"DeclareForms$Papers", "size", "()I"⟩
abbrev zb_P_size : ByteArray := prog_3_method_2_code
theorem zh_P_size : zy_P_size.cls ≠ "java/lang/invoke/MethodHandle" ∧ zy_P_size.cls ≠ "java/lang/invoke/VarHandle" ∧ (parseMethodDescriptor zy_P_size.desc).map (fun d => d.parameters.length) = some 0 := by decide +kernel
theorem zd_P_size_0 : decode zb_P_size 0 = .ok (.aload_n 0, 1) := by decide +kernel
theorem zd_P_size_1 : decode zb_P_size 1 = .ok (.getfield 21, 3) := by decide +kernel
theorem zd_P_size_4 : decode zb_P_size 4 = .ok (.ireturn, 1) := by decide +kernel
abbrev zy_P_find : MethodName := ⟨"DeclareForms$Papers", "find", "(I)I"⟩
abbrev zb_P_find : ByteArray := prog_3_method_4_code
theorem zh_P_find : zy_P_find.cls ≠ "java/lang/invoke/MethodHandle" ∧ zy_P_find.cls ≠ "java/lang/invoke/VarHandle" ∧ (parseMethodDescriptor zy_P_find.desc).map (fun d => d.parameters.length) = some 1 := by decide +kernel
theorem zd_P_find_0 : decode zb_P_find 0 = .ok (.iconst 0, 1) := by decide +kernel
theorem zd_P_find_1 : decode zb_P_find 1 = .ok (.istore_n 2, 1) := by decide +kernel
theorem zd_P_find_2 : decode zb_P_find 2 = .ok (.iload_n 2, 1) := by decide +kernel
theorem zd_P_find_3 : decode zb_P_find 3 = .ok (.aload_n 0, 1) := by decide +kernel
theorem zd_P_find_4 : decode zb_P_find 4 = .ok (.getfield 21, 3) := by decide +kernel
theorem zd_P_find_7 : decode zb_P_find 7 = .ok (.if_icmp .ge 21, 3) := by decide +kernel
theorem zd_P_find_10 : decode zb_P_find 10 = .ok (.aload_n 0, 1) := by decide +kernel
theorem zd_P_find_11 : decode zb_P_find 11 = .ok (.getfield 9, 3) := by decide +kernel
theorem zd_P_find_14 : decode zb_P_find 14 = .ok (.iload_n 2, 1) := by decide +kernel
theorem zd_P_find_15 : decode zb_P_find 15 = .ok (.iaload, 1) := by decide +kernel
theorem zd_P_find_16 : decode zb_P_find 16 = .ok (.iload_n 1, 1) := by decide +kernel
theorem zd_P_find_17 : decode zb_P_find 17 = .ok (.if_icmp .ne 5, 3) := by decide +kernel
theorem zd_P_find_20 : decode zb_P_find 20 = .ok (.iload_n 2, 1) := by decide +kernel
theorem zd_P_find_21 : decode zb_P_find 21 = .ok (.ireturn, 1) := by decide +kernel
theorem zd_P_find_22 : decode zb_P_find 22 = .ok (.iinc 2 1, 3) := by decide +kernel
theorem zd_P_find_25 : decode zb_P_find 25 = .ok (.goto (-23), 3) := by decide +kernel
theorem zd_P_find_28 : decode zb_P_find 28 = .ok (.iconst (-1), 1) := by decide +kernel
theorem zd_P_find_29 : decode zb_P_find 29 = .ok (.ireturn, 1) := by decide +kernel
abbrev zy_P_register : MethodName := ⟨"DeclareForms$Papers", "register", "(II)Z"⟩
abbrev zb_P_register : ByteArray := prog_3_method_3_code
theorem zh_P_register : zy_P_register.cls ≠ "java/lang/invoke/MethodHandle" ∧ zy_P_register.cls ≠ "java/lang/invoke/VarHandle" ∧ (parseMethodDescriptor zy_P_register.desc).map (fun d => d.parameters.length) = some 2 := by decide +kernel
theorem zd_P_register_0 : decode zb_P_register 0 = .ok (.aload_n 0, 1) := by decide +kernel
theorem zd_P_register_1 : decode zb_P_register 1 = .ok (.getfield 21, 3) := by decide +kernel
theorem zd_P_register_4 : decode zb_P_register 4 = .ok (.bipush 20, 2) := by decide +kernel
theorem zd_P_register_6 : decode zb_P_register 6 = .ok (.if_icmp .ge 12, 3) := by decide +kernel
theorem zd_P_register_9 : decode zb_P_register 9 = .ok (.aload_n 0, 1) := by decide +kernel
theorem zd_P_register_10 : decode zb_P_register 10 = .ok (.iload_n 1, 1) := by decide +kernel
theorem zd_P_register_11 : decode zb_P_register 11 = .ok (.invokevirtual 25, 3) := by decide +kernel
theorem zd_P_register_14 : decode zb_P_register 14 = .ok (.iconst (-1), 1) := by decide +kernel
theorem zd_P_register_15 : decode zb_P_register 15 = .ok (.if_icmp .eq 5, 3) := by decide +kernel
theorem zd_P_register_18 : decode zb_P_register 18 = .ok (.iconst 0, 1) := by decide +kernel
theorem zd_P_register_19 : decode zb_P_register 19 = .ok (.ireturn, 1) := by decide +kernel
theorem zd_P_register_20 : decode zb_P_register 20 = .ok (.aload_n 0, 1) := by decide +kernel
theorem zd_P_register_21 : decode zb_P_register 21 = .ok (.getfield 9, 3) := by decide +kernel
theorem zd_P_register_24 : decode zb_P_register 24 = .ok (.aload_n 0, 1) := by decide +kernel
theorem zd_P_register_25 : decode zb_P_register 25 = .ok (.getfield 21, 3) := by decide +kernel
theorem zd_P_register_28 : decode zb_P_register 28 = .ok (.iload_n 1, 1) := by decide +kernel
theorem zd_P_register_29 : decode zb_P_register 29 = .ok (.iastore, 1) := by decide +kernel
theorem zd_P_register_30 : decode zb_P_register 30 = .ok (.aload_n 0, 1) := by decide +kernel
theorem zd_P_register_31 : decode zb_P_register 31 = .ok (.getfield 15, 3) := by decide +kernel
theorem zd_P_register_34 : decode zb_P_register 34 = .ok (.aload_n 0, 1) := by decide +kernel
theorem zd_P_register_35 : decode zb_P_register 35 = .ok (.getfield 21, 3) := by decide +kernel
theorem zd_P_register_38 : decode zb_P_register 38 = .ok (.iload_n 2, 1) := by decide +kernel
theorem zd_P_register_39 : decode zb_P_register 39 = .ok (.iastore, 1) := by decide +kernel
theorem zd_P_register_40 : decode zb_P_register 40 = .ok (.aload_n 0, 1) := by decide +kernel
theorem zd_P_register_41 : decode zb_P_register 41 = .ok (.dup, 1) := by decide +kernel
theorem zd_P_register_42 : decode zb_P_register 42 = .ok (.getfield 21, 3) := by decide +kernel
theorem zd_P_register_45 : decode zb_P_register 45 = .ok (.iconst 1, 1) := by decide +kernel
theorem zd_P_register_46 : decode zb_P_register 46 = .ok (.iadd, 1) := by decide +kernel
theorem zd_P_register_47 : decode zb_P_register 47 = .ok (.putfield 21, 3) := by decide +kernel
theorem zd_P_register_50 : decode zb_P_register 50 = .ok (.iconst 1, 1) := by decide +kernel
theorem zd_P_register_51 : decode zb_P_register 51 = .ok (.ireturn, 1) := by decide +kernel
abbrev zy_P_balanceOf : MethodName := ⟨"DeclareForms$Papers", "balanceOf", "(I)I"⟩
abbrev zb_P_balanceOf : ByteArray := prog_3_method_5_code
theorem zh_P_balanceOf : zy_P_balanceOf.cls ≠ "java/lang/invoke/MethodHandle" ∧ zy_P_balanceOf.cls ≠ "java/lang/invoke/VarHandle" ∧ (parseMethodDescriptor zy_P_balanceOf.desc).map (fun d => d.parameters.length) = some 1 := by decide +kernel
theorem zd_P_balanceOf_0 : decode zb_P_balanceOf 0 = .ok (.aload_n 0, 1) := by decide +kernel
theorem zd_P_balanceOf_1 : decode zb_P_balanceOf 1 = .ok (.iload_n 1, 1) := by decide +kernel
theorem zd_P_balanceOf_2 : decode zb_P_balanceOf 2 = .ok (.invokevirtual 25, 3) := by decide +kernel
theorem zd_P_balanceOf_5 : decode zb_P_balanceOf 5 = .ok (.istore_n 2, 1) := by decide +kernel
theorem zd_P_balanceOf_6 : decode zb_P_balanceOf 6 = .ok (.iload_n 2, 1) := by decide +kernel
theorem zd_P_balanceOf_7 : decode zb_P_balanceOf 7 = .ok (.iconst (-1), 1) := by decide +kernel
theorem zd_P_balanceOf_8 : decode zb_P_balanceOf 8 = .ok (.if_icmp .ne 7, 3) := by decide +kernel
theorem zd_P_balanceOf_11 : decode zb_P_balanceOf 11 = .ok (.iconst (-1), 1) := by decide +kernel
theorem zd_P_balanceOf_12 : decode zb_P_balanceOf 12 = .ok (.goto 9, 3) := by decide +kernel
theorem zd_P_balanceOf_15 : decode zb_P_balanceOf 15 = .ok (.aload_n 0, 1) := by decide +kernel
theorem zd_P_balanceOf_16 : decode zb_P_balanceOf 16 = .ok (.getfield 15, 3) := by decide +kernel
theorem zd_P_balanceOf_19 : decode zb_P_balanceOf 19 = .ok (.iload_n 2, 1) := by decide +kernel
theorem zd_P_balanceOf_20 : decode zb_P_balanceOf 20 = .ok (.iaload, 1) := by decide +kernel
theorem zd_P_balanceOf_21 : decode zb_P_balanceOf 21 = .ok (.ireturn, 1) := by decide +kernel
abbrev zy_P_take : MethodName := ⟨"DeclareForms$Papers", "take", "(III)I"⟩
abbrev zb_P_take : ByteArray := prog_3_method_6_code
theorem zh_P_take : zy_P_take.cls ≠ "java/lang/invoke/MethodHandle" ∧ zy_P_take.cls ≠ "java/lang/invoke/VarHandle" ∧ (parseMethodDescriptor zy_P_take.desc).map (fun d => d.parameters.length) = some 3 := by decide +kernel
theorem zd_P_take_0 : decode zb_P_take 0 = .ok (.iload_n 1, 1) := by decide +kernel
theorem zd_P_take_1 : decode zb_P_take 1 = .ok (.ifCond .lt 31, 3) := by decide +kernel
theorem zd_P_take_4 : decode zb_P_take 4 = .ok (.iload_n 1, 1) := by decide +kernel
theorem zd_P_take_5 : decode zb_P_take 5 = .ok (.bipush 30, 2) := by decide +kernel
theorem zd_P_take_7 : decode zb_P_take 7 = .ok (.if_icmp .gt 25, 3) := by decide +kernel
theorem zd_P_take_10 : decode zb_P_take 10 = .ok (.iload_n 2, 1) := by decide +kernel
theorem zd_P_take_11 : decode zb_P_take 11 = .ok (.ifCond .lt 21, 3) := by decide +kernel
theorem zd_P_take_14 : decode zb_P_take 14 = .ok (.iload_n 2, 1) := by decide +kernel
theorem zd_P_take_15 : decode zb_P_take 15 = .ok (.aload_n 0, 1) := by decide +kernel
theorem zd_P_take_16 : decode zb_P_take 16 = .ok (.getfield 21, 3) := by decide +kernel
theorem zd_P_take_19 : decode zb_P_take 19 = .ok (.if_icmp .ge 13, 3) := by decide +kernel
theorem zd_P_take_22 : decode zb_P_take 22 = .ok (.aload_n 0, 1) := by decide +kernel
theorem zd_P_take_23 : decode zb_P_take 23 = .ok (.getfield 15, 3) := by decide +kernel
theorem zd_P_take_26 : decode zb_P_take 26 = .ok (.iload_n 2, 1) := by decide +kernel
theorem zd_P_take_27 : decode zb_P_take 27 = .ok (.iaload, 1) := by decide +kernel
theorem zd_P_take_28 : decode zb_P_take 28 = .ok (.iload_n 3, 1) := by decide +kernel
theorem zd_P_take_29 : decode zb_P_take 29 = .ok (.if_icmp .ge 5, 3) := by decide +kernel
theorem zd_P_take_32 : decode zb_P_take 32 = .ok (.iconst (-1), 1) := by decide +kernel
theorem zd_P_take_33 : decode zb_P_take 33 = .ok (.ireturn, 1) := by decide +kernel
theorem zd_P_take_34 : decode zb_P_take 34 = .ok (.aload_n 0, 1) := by decide +kernel
theorem zd_P_take_35 : decode zb_P_take 35 = .ok (.getfield 15, 3) := by decide +kernel
theorem zd_P_take_38 : decode zb_P_take 38 = .ok (.iload_n 2, 1) := by decide +kernel
theorem zd_P_take_39 : decode zb_P_take 39 = .ok (.dup2, 1) := by decide +kernel
theorem zd_P_take_40 : decode zb_P_take 40 = .ok (.iaload, 1) := by decide +kernel
theorem zd_P_take_41 : decode zb_P_take 41 = .ok (.iload_n 3, 1) := by decide +kernel
theorem zd_P_take_42 : decode zb_P_take 42 = .ok (.isub, 1) := by decide +kernel
theorem zd_P_take_43 : decode zb_P_take 43 = .ok (.iastore, 1) := by decide +kernel
theorem zd_P_take_44 : decode zb_P_take 44 = .ok (.aload_n 0, 1) := by decide +kernel
theorem zd_P_take_45 : decode zb_P_take 45 = .ok (.getfield 18, 3) := by decide +kernel
theorem zd_P_take_48 : decode zb_P_take 48 = .ok (.iload_n 1, 1) := by decide +kernel
theorem zd_P_take_49 : decode zb_P_take 49 = .ok (.bipush 20, 2) := by decide +kernel
theorem zd_P_take_51 : decode zb_P_take 51 = .ok (.imul, 1) := by decide +kernel
theorem zd_P_take_52 : decode zb_P_take 52 = .ok (.iload_n 2, 1) := by decide +kernel
theorem zd_P_take_53 : decode zb_P_take 53 = .ok (.iadd, 1) := by decide +kernel
theorem zd_P_take_54 : decode zb_P_take 54 = .ok (.dup2, 1) := by decide +kernel
theorem zd_P_take_55 : decode zb_P_take 55 = .ok (.iaload, 1) := by decide +kernel
theorem zd_P_take_56 : decode zb_P_take 56 = .ok (.iload_n 3, 1) := by decide +kernel
theorem zd_P_take_57 : decode zb_P_take 57 = .ok (.iadd, 1) := by decide +kernel
theorem zd_P_take_58 : decode zb_P_take 58 = .ok (.iastore, 1) := by decide +kernel
theorem zd_P_take_59 : decode zb_P_take 59 = .ok (.aload_n 0, 1) := by decide +kernel
theorem zd_P_take_60 : decode zb_P_take 60 = .ok (.getfield 15, 3) := by decide +kernel
theorem zd_P_take_63 : decode zb_P_take 63 = .ok (.iload_n 2, 1) := by decide +kernel
theorem zd_P_take_64 : decode zb_P_take 64 = .ok (.iaload, 1) := by decide +kernel
theorem zd_P_take_65 : decode zb_P_take 65 = .ok (.ireturn, 1) := by decide +kernel
abbrev zy_P_giveBack : MethodName := ⟨"DeclareForms$Papers", "giveBack", "(I)V"⟩
abbrev zb_P_giveBack : ByteArray := prog_3_method_7_code
theorem zh_P_giveBack : zy_P_giveBack.cls ≠ "java/lang/invoke/MethodHandle" ∧ zy_P_giveBack.cls ≠ "java/lang/invoke/VarHandle" ∧ (parseMethodDescriptor zy_P_giveBack.desc).map (fun d => d.parameters.length) = some 1 := by decide +kernel
theorem zd_P_giveBack_0 : decode zb_P_giveBack 0 = .ok (.iload_n 1, 1) := by decide +kernel
theorem zd_P_giveBack_1 : decode zb_P_giveBack 1 = .ok (.ifCond .lt 9, 3) := by decide +kernel
theorem zd_P_giveBack_4 : decode zb_P_giveBack 4 = .ok (.iload_n 1, 1) := by decide +kernel
theorem zd_P_giveBack_5 : decode zb_P_giveBack 5 = .ok (.bipush 30, 2) := by decide +kernel
theorem zd_P_giveBack_7 : decode zb_P_giveBack 7 = .ok (.if_icmp .le 4, 3) := by decide +kernel
theorem zd_P_giveBack_10 : decode zb_P_giveBack 10 = .ok (.return_, 1) := by decide +kernel
theorem zd_P_giveBack_11 : decode zb_P_giveBack 11 = .ok (.iconst 0, 1) := by decide +kernel
theorem zd_P_giveBack_12 : decode zb_P_giveBack 12 = .ok (.istore_n 2, 1) := by decide +kernel
theorem zd_P_giveBack_13 : decode zb_P_giveBack 13 = .ok (.iload_n 2, 1) := by decide +kernel
theorem zd_P_giveBack_14 : decode zb_P_giveBack 14 = .ok (.aload_n 0, 1) := by decide +kernel
theorem zd_P_giveBack_15 : decode zb_P_giveBack 15 = .ok (.getfield 21, 3) := by decide +kernel
theorem zd_P_giveBack_18 : decode zb_P_giveBack 18 = .ok (.if_icmp .ge 29, 3) := by decide +kernel
theorem zd_P_giveBack_21 : decode zb_P_giveBack 21 = .ok (.aload_n 0, 1) := by decide +kernel
theorem zd_P_giveBack_22 : decode zb_P_giveBack 22 = .ok (.getfield 15, 3) := by decide +kernel
theorem zd_P_giveBack_25 : decode zb_P_giveBack 25 = .ok (.iload_n 2, 1) := by decide +kernel
theorem zd_P_giveBack_26 : decode zb_P_giveBack 26 = .ok (.dup2, 1) := by decide +kernel
theorem zd_P_giveBack_27 : decode zb_P_giveBack 27 = .ok (.iaload, 1) := by decide +kernel
theorem zd_P_giveBack_28 : decode zb_P_giveBack 28 = .ok (.aload_n 0, 1) := by decide +kernel
theorem zd_P_giveBack_29 : decode zb_P_giveBack 29 = .ok (.getfield 18, 3) := by decide +kernel
theorem zd_P_giveBack_32 : decode zb_P_giveBack 32 = .ok (.iload_n 1, 1) := by decide +kernel
theorem zd_P_giveBack_33 : decode zb_P_giveBack 33 = .ok (.bipush 20, 2) := by decide +kernel
theorem zd_P_giveBack_35 : decode zb_P_giveBack 35 = .ok (.imul, 1) := by decide +kernel
theorem zd_P_giveBack_36 : decode zb_P_giveBack 36 = .ok (.iload_n 2, 1) := by decide +kernel
theorem zd_P_giveBack_37 : decode zb_P_giveBack 37 = .ok (.iadd, 1) := by decide +kernel
theorem zd_P_giveBack_38 : decode zb_P_giveBack 38 = .ok (.iaload, 1) := by decide +kernel
theorem zd_P_giveBack_39 : decode zb_P_giveBack 39 = .ok (.iadd, 1) := by decide +kernel
theorem zd_P_giveBack_40 : decode zb_P_giveBack 40 = .ok (.iastore, 1) := by decide +kernel
theorem zd_P_giveBack_41 : decode zb_P_giveBack 41 = .ok (.iinc 2 1, 3) := by decide +kernel
theorem zd_P_giveBack_44 : decode zb_P_giveBack 44 = .ok (.goto (-31), 3) := by decide +kernel
theorem zd_P_giveBack_47 : decode zb_P_giveBack 47 = .ok (.return_, 1) := by decide +kernel
abbrev zy_R_wholeRows : MethodName := ⟨"DeclareForms$Reader", "wholeRows", "()I"⟩
abbrev zb_R_wholeRows : ByteArray := prog_4_method_2_code
theorem zh_R_wholeRows : zy_R_wholeRows.cls ≠ "java/lang/invoke/MethodHandle" ∧ zy_R_wholeRows.cls ≠ "java/lang/invoke/VarHandle" ∧ (parseMethodDescriptor zy_R_wholeRows.desc).map (fun d => d.parameters.length) = some 0 := by decide +kernel
theorem zd_R_wholeRows_0 : decode zb_R_wholeRows 0 = .ok (.aload_n 0, 1) := by decide +kernel
theorem zd_R_wholeRows_1 : decode zb_R_wholeRows 1 = .ok (.getfield 9, 3) := by decide +kernel
theorem zd_R_wholeRows_4 : decode zb_R_wholeRows 4 = .ok (.ireturn, 1) := by decide +kernel
abbrev zy_R_latestFields : MethodName := ⟨"DeclareForms$Reader", "latestFields", "()I"⟩
abbrev zb_R_latestFields : ByteArray := prog_4_method_3_code
theorem zh_R_latestFields : zy_R_latestFields.cls ≠ "java/lang/invoke/MethodHandle" ∧ zy_R_latestFields.cls ≠ "java/lang/invoke/VarHandle" ∧ (parseMethodDescriptor zy_R_latestFields.desc).map (fun d => d.parameters.length) = some 0 := by decide +kernel
theorem zd_R_latestFields_0 : decode zb_R_latestFields 0 = .ok (.aload_n 0, 1) := by decide +kernel
theorem zd_R_latestFields_1 : decode zb_R_latestFields 1 = .ok (.getfield 15, 3) := by decide +kernel
theorem zd_R_latestFields_4 : decode zb_R_latestFields 4 = .ok (.ireturn, 1) := by decide +kernel
abbrev zy_R_takeKind : MethodName := ⟨"DeclareForms$Reader", "takeKind", "(I)Z"⟩
abbrev zb_R_takeKind : ByteArray := prog_4_method_6_code
theorem zh_R_takeKind : zy_R_takeKind.cls ≠ "java/lang/invoke/MethodHandle" ∧ zy_R_takeKind.cls ≠ "java/lang/invoke/VarHandle" ∧ (parseMethodDescriptor zy_R_takeKind.desc).map (fun d => d.parameters.length) = some 1 := by decide +kernel
theorem zd_R_takeKind_0 : decode zb_R_takeKind 0 = .ok (.aload_n 0, 1) := by decide +kernel
theorem zd_R_takeKind_1 : decode zb_R_takeKind 1 = .ok (.iload_n 1, 1) := by decide +kernel
theorem zd_R_takeKind_2 : decode zb_R_takeKind 2 = .ok (.putfield 49, 3) := by decide +kernel
theorem zd_R_takeKind_5 : decode zb_R_takeKind 5 = .ok (.aload_n 0, 1) := by decide +kernel
theorem zd_R_takeKind_6 : decode zb_R_takeKind 6 = .ok (.iconst (-1), 1) := by decide +kernel
theorem zd_R_takeKind_7 : decode zb_R_takeKind 7 = .ok (.putfield 52, 3) := by decide +kernel
theorem zd_R_takeKind_10 : decode zb_R_takeKind 10 = .ok (.iload_n 1, 1) := by decide +kernel
theorem zd_R_takeKind_11 : decode zb_R_takeKind 11 = .ok (.iconst 3, 1) := by decide +kernel
theorem zd_R_takeKind_12 : decode zb_R_takeKind 12 = .ok (.if_icmp .gt 7, 3) := by decide +kernel
theorem zd_R_takeKind_15 : decode zb_R_takeKind 15 = .ok (.iconst 1, 1) := by decide +kernel
theorem zd_R_takeKind_16 : decode zb_R_takeKind 16 = .ok (.goto 4, 3) := by decide +kernel
theorem zd_R_takeKind_19 : decode zb_R_takeKind 19 = .ok (.iconst 0, 1) := by decide +kernel
theorem zd_R_takeKind_20 : decode zb_R_takeKind 20 = .ok (.ireturn, 1) := by decide +kernel
abbrev zy_R_takeHigher : MethodName := ⟨"DeclareForms$Reader", "takeHigher", "(I)Z"⟩
abbrev zb_R_takeHigher : ByteArray := prog_4_method_7_code
theorem zh_R_takeHigher : zy_R_takeHigher.cls ≠ "java/lang/invoke/MethodHandle" ∧ zy_R_takeHigher.cls ≠ "java/lang/invoke/VarHandle" ∧ (parseMethodDescriptor zy_R_takeHigher.desc).map (fun d => d.parameters.length) = some 1 := by decide +kernel
theorem zd_R_takeHigher_0 : decode zb_R_takeHigher 0 = .ok (.aload_n 0, 1) := by decide +kernel
theorem zd_R_takeHigher_1 : decode zb_R_takeHigher 1 = .ok (.iload_n 1, 1) := by decide +kernel
theorem zd_R_takeHigher_2 : decode zb_R_takeHigher 2 = .ok (.sipush 256, 3) := by decide +kernel
theorem zd_R_takeHigher_5 : decode zb_R_takeHigher 5 = .ok (.imul, 1) := by decide +kernel
theorem zd_R_takeHigher_6 : decode zb_R_takeHigher 6 = .ok (.putfield 28, 3) := by decide +kernel
theorem zd_R_takeHigher_9 : decode zb_R_takeHigher 9 = .ok (.aload_n 0, 1) := by decide +kernel
theorem zd_R_takeHigher_10 : decode zb_R_takeHigher 10 = .ok (.getfield 28, 3) := by decide +kernel
theorem zd_R_takeHigher_13 : decode zb_R_takeHigher 13 = .ok (.sipush 610, 3) := by decide +kernel
theorem zd_R_takeHigher_16 : decode zb_R_takeHigher 16 = .ok (.if_icmp .gt 7, 3) := by decide +kernel
theorem zd_R_takeHigher_19 : decode zb_R_takeHigher 19 = .ok (.iconst 1, 1) := by decide +kernel
theorem zd_R_takeHigher_20 : decode zb_R_takeHigher 20 = .ok (.goto 4, 3) := by decide +kernel
theorem zd_R_takeHigher_23 : decode zb_R_takeHigher 23 = .ok (.iconst 0, 1) := by decide +kernel
theorem zd_R_takeHigher_24 : decode zb_R_takeHigher 24 = .ok (.ireturn, 1) := by decide +kernel
abbrev zy_R_takeLower : MethodName := ⟨"DeclareForms$Reader", "takeLower", "(I)Z"⟩
abbrev zb_R_takeLower : ByteArray := prog_4_method_8_code
theorem zh_R_takeLower : zy_R_takeLower.cls ≠ "java/lang/invoke/MethodHandle" ∧ zy_R_takeLower.cls ≠ "java/lang/invoke/VarHandle" ∧ (parseMethodDescriptor zy_R_takeLower.desc).map (fun d => d.parameters.length) = some 1 := by decide +kernel
theorem zd_R_takeLower_0 : decode zb_R_takeLower 0 = .ok (.aload_n 0, 1) := by decide +kernel
theorem zd_R_takeLower_1 : decode zb_R_takeLower 1 = .ok (.dup, 1) := by decide +kernel
theorem zd_R_takeLower_2 : decode zb_R_takeLower 2 = .ok (.getfield 28, 3) := by decide +kernel
theorem zd_R_takeLower_5 : decode zb_R_takeLower 5 = .ok (.iload_n 1, 1) := by decide +kernel
theorem zd_R_takeLower_6 : decode zb_R_takeLower 6 = .ok (.iadd, 1) := by decide +kernel
theorem zd_R_takeLower_7 : decode zb_R_takeLower 7 = .ok (.putfield 28, 3) := by decide +kernel
theorem zd_R_takeLower_10 : decode zb_R_takeLower 10 = .ok (.aload_n 0, 1) := by decide +kernel
theorem zd_R_takeLower_11 : decode zb_R_takeLower 11 = .ok (.aload_n 0, 1) := by decide +kernel
theorem zd_R_takeLower_12 : decode zb_R_takeLower 12 = .ok (.getfield 28, 3) := by decide +kernel
theorem zd_R_takeLower_15 : decode zb_R_takeLower 15 = .ok (.putfield 25, 3) := by decide +kernel
theorem zd_R_takeLower_18 : decode zb_R_takeLower 18 = .ok (.aload_n 0, 1) := by decide +kernel
theorem zd_R_takeLower_19 : decode zb_R_takeLower 19 = .ok (.getfield 28, 3) := by decide +kernel
theorem zd_R_takeLower_22 : decode zb_R_takeLower 22 = .ok (.sipush 610, 3) := by decide +kernel
theorem zd_R_takeLower_25 : decode zb_R_takeLower 25 = .ok (.if_icmp .gt 7, 3) := by decide +kernel
theorem zd_R_takeLower_28 : decode zb_R_takeLower 28 = .ok (.iconst 1, 1) := by decide +kernel
theorem zd_R_takeLower_29 : decode zb_R_takeLower 29 = .ok (.goto 4, 3) := by decide +kernel
theorem zd_R_takeLower_32 : decode zb_R_takeLower 32 = .ok (.iconst 0, 1) := by decide +kernel
theorem zd_R_takeLower_33 : decode zb_R_takeLower 33 = .ok (.ireturn, 1) := by decide +kernel
abbrev zy_R_takeField : MethodName := ⟨"DeclareForms$Reader", "takeField", "(I)Z"⟩
abbrev zb_R_takeField : ByteArray := prog_4_method_9_code
theorem zh_R_takeField : zy_R_takeField.cls ≠ "java/lang/invoke/MethodHandle" ∧ zy_R_takeField.cls ≠ "java/lang/invoke/VarHandle" ∧ (parseMethodDescriptor zy_R_takeField.desc).map (fun d => d.parameters.length) = some 1 := by decide +kernel
theorem zd_R_takeField_0 : decode zb_R_takeField 0 = .ok (.aload_n 0, 1) := by decide +kernel
theorem zd_R_takeField_1 : decode zb_R_takeField 1 = .ok (.iload_n 1, 1) := by decide +kernel
theorem zd_R_takeField_2 : decode zb_R_takeField 2 = .ok (.putfield 55, 3) := by decide +kernel
theorem zd_R_takeField_5 : decode zb_R_takeField 5 = .ok (.iload_n 1, 1) := by decide +kernel
theorem zd_R_takeField_6 : decode zb_R_takeField 6 = .ok (.bipush 19, 2) := by decide +kernel
theorem zd_R_takeField_8 : decode zb_R_takeField 8 = .ok (.if_icmp .gt 19, 3) := by decide +kernel
theorem zd_R_takeField_11 : decode zb_R_takeField 11 = .ok (.aload_n 0, 1) := by decide +kernel
theorem zd_R_takeField_12 : decode zb_R_takeField 12 = .ok (.getfield 49, 3) := by decide +kernel
theorem zd_R_takeField_15 : decode zb_R_takeField 15 = .ok (.iload_n 1, 1) := by decide +kernel
theorem zd_R_takeField_16 : decode zb_R_takeField 16 = .ok (.invokestatic 58, 3) := by decide +kernel
theorem zd_R_takeField_19 : decode zb_R_takeField 19 = .ok (.iconst 3, 1) := by decide +kernel
theorem zd_R_takeField_20 : decode zb_R_takeField 20 = .ok (.if_icmp .eq 7, 3) := by decide +kernel
theorem zd_R_takeField_23 : decode zb_R_takeField 23 = .ok (.iconst 1, 1) := by decide +kernel
theorem zd_R_takeField_24 : decode zb_R_takeField 24 = .ok (.goto 4, 3) := by decide +kernel
theorem zd_R_takeField_27 : decode zb_R_takeField 27 = .ok (.iconst 0, 1) := by decide +kernel
theorem zd_R_takeField_28 : decode zb_R_takeField 28 = .ok (.ireturn, 1) := by decide +kernel
abbrev zy_R_takeLine : MethodName := ⟨"DeclareForms$Reader", "takeLine", "(I)Z"⟩
abbrev zb_R_takeLine : ByteArray := prog_4_method_10_code
theorem zh_R_takeLine : zy_R_takeLine.cls ≠ "java/lang/invoke/MethodHandle" ∧ zy_R_takeLine.cls ≠ "java/lang/invoke/VarHandle" ∧ (parseMethodDescriptor zy_R_takeLine.desc).map (fun d => d.parameters.length) = some 1 := by decide +kernel
theorem zd_R_takeLine_0 : decode zb_R_takeLine 0 = .ok (.aload_n 0, 1) := by decide +kernel
theorem zd_R_takeLine_1 : decode zb_R_takeLine 1 = .ok (.getfield 55, 3) := by decide +kernel
theorem zd_R_takeLine_4 : decode zb_R_takeLine 4 = .ok (.bipush 10, 2) := by decide +kernel
theorem zd_R_takeLine_6 : decode zb_R_takeLine 6 = .ok (.if_icmp .ge 15, 3) := by decide +kernel
theorem zd_R_takeLine_9 : decode zb_R_takeLine 9 = .ok (.iload_n 1, 1) := by decide +kernel
theorem zd_R_takeLine_10 : decode zb_R_takeLine 10 = .ok (.ifCond .ne 7, 3) := by decide +kernel
theorem zd_R_takeLine_13 : decode zb_R_takeLine 13 = .ok (.iconst 1, 1) := by decide +kernel
theorem zd_R_takeLine_14 : decode zb_R_takeLine 14 = .ok (.goto 23, 3) := by decide +kernel
theorem zd_R_takeLine_17 : decode zb_R_takeLine 17 = .ok (.iconst 0, 1) := by decide +kernel
theorem zd_R_takeLine_18 : decode zb_R_takeLine 18 = .ok (.goto 19, 3) := by decide +kernel
theorem zd_R_takeLine_21 : decode zb_R_takeLine 21 = .ok (.iload_n 1, 1) := by decide +kernel
theorem zd_R_takeLine_22 : decode zb_R_takeLine 22 = .ok (.iconst 1, 1) := by decide +kernel
theorem zd_R_takeLine_23 : decode zb_R_takeLine 23 = .ok (.if_icmp .lt 13, 3) := by decide +kernel
theorem zd_R_takeLine_26 : decode zb_R_takeLine 26 = .ok (.iload_n 1, 1) := by decide +kernel
theorem zd_R_takeLine_27 : decode zb_R_takeLine 27 = .ok (.bipush 30, 2) := by decide +kernel
theorem zd_R_takeLine_29 : decode zb_R_takeLine 29 = .ok (.if_icmp .gt 7, 3) := by decide +kernel
theorem zd_R_takeLine_32 : decode zb_R_takeLine 32 = .ok (.iconst 1, 1) := by decide +kernel
theorem zd_R_takeLine_33 : decode zb_R_takeLine 33 = .ok (.goto 4, 3) := by decide +kernel
theorem zd_R_takeLine_36 : decode zb_R_takeLine 36 = .ok (.iconst 0, 1) := by decide +kernel
theorem zd_R_takeLine_37 : decode zb_R_takeLine 37 = .ok (.istore_n 2, 1) := by decide +kernel
theorem zd_R_takeLine_38 : decode zb_R_takeLine 38 = .ok (.iload_n 1, 1) := by decide +kernel
theorem zd_R_takeLine_39 : decode zb_R_takeLine 39 = .ok (.bipush 10, 2) := by decide +kernel
theorem zd_R_takeLine_41 : decode zb_R_takeLine 41 = .ok (.imul, 1) := by decide +kernel
theorem zd_R_takeLine_42 : decode zb_R_takeLine 42 = .ok (.aload_n 0, 1) := by decide +kernel
theorem zd_R_takeLine_43 : decode zb_R_takeLine 43 = .ok (.getfield 55, 3) := by decide +kernel
theorem zd_R_takeLine_46 : decode zb_R_takeLine 46 = .ok (.bipush 10, 2) := by decide +kernel
theorem zd_R_takeLine_48 : decode zb_R_takeLine 48 = .ok (.irem, 1) := by decide +kernel
theorem zd_R_takeLine_49 : decode zb_R_takeLine 49 = .ok (.iadd, 1) := by decide +kernel
theorem zd_R_takeLine_50 : decode zb_R_takeLine 50 = .ok (.istore_n 3, 1) := by decide +kernel
theorem zd_R_takeLine_51 : decode zb_R_takeLine 51 = .ok (.iload_n 3, 1) := by decide +kernel
theorem zd_R_takeLine_52 : decode zb_R_takeLine 52 = .ok (.aload_n 0, 1) := by decide +kernel
theorem zd_R_takeLine_53 : decode zb_R_takeLine 53 = .ok (.getfield 52, 3) := by decide +kernel
theorem zd_R_takeLine_56 : decode zb_R_takeLine 56 = .ok (.if_icmp .le 7, 3) := by decide +kernel
theorem zd_R_takeLine_59 : decode zb_R_takeLine 59 = .ok (.iconst 1, 1) := by decide +kernel
theorem zd_R_takeLine_60 : decode zb_R_takeLine 60 = .ok (.goto 4, 3) := by decide +kernel
theorem zd_R_takeLine_63 : decode zb_R_takeLine 63 = .ok (.iconst 0, 1) := by decide +kernel
theorem zd_R_takeLine_64 : decode zb_R_takeLine 64 = .ok (.istore 4, 2) := by decide +kernel
theorem zd_R_takeLine_66 : decode zb_R_takeLine 66 = .ok (.aload_n 0, 1) := by decide +kernel
theorem zd_R_takeLine_67 : decode zb_R_takeLine 67 = .ok (.iload_n 3, 1) := by decide +kernel
theorem zd_R_takeLine_68 : decode zb_R_takeLine 68 = .ok (.putfield 52, 3) := by decide +kernel
theorem zd_R_takeLine_71 : decode zb_R_takeLine 71 = .ok (.aload_n 0, 1) := by decide +kernel
theorem zd_R_takeLine_72 : decode zb_R_takeLine 72 = .ok (.lconst 0, 1) := by decide +kernel
theorem zd_R_takeLine_73 : decode zb_R_takeLine 73 = .ok (.putfield 62, 3) := by decide +kernel
theorem zd_R_takeLine_76 : decode zb_R_takeLine 76 = .ok (.iload_n 2, 1) := by decide +kernel
theorem zd_R_takeLine_77 : decode zb_R_takeLine 77 = .ok (.ifCond .eq 12, 3) := by decide +kernel
theorem zd_R_takeLine_80 : decode zb_R_takeLine 80 = .ok (.iload 4, 2) := by decide +kernel
theorem zd_R_takeLine_82 : decode zb_R_takeLine 82 = .ok (.ifCond .eq 7, 3) := by decide +kernel
theorem zd_R_takeLine_85 : decode zb_R_takeLine 85 = .ok (.iconst 1, 1) := by decide +kernel
theorem zd_R_takeLine_86 : decode zb_R_takeLine 86 = .ok (.goto 4, 3) := by decide +kernel
theorem zd_R_takeLine_89 : decode zb_R_takeLine 89 = .ok (.iconst 0, 1) := by decide +kernel
theorem zd_R_takeLine_90 : decode zb_R_takeLine 90 = .ok (.ireturn, 1) := by decide +kernel
abbrev zy_R_takeValue : MethodName := ⟨"DeclareForms$Reader", "takeValue", "(I)Z"⟩
abbrev zb_R_takeValue : ByteArray := prog_4_method_11_code
theorem zh_R_takeValue : zy_R_takeValue.cls ≠ "java/lang/invoke/MethodHandle" ∧ zy_R_takeValue.cls ≠ "java/lang/invoke/VarHandle" ∧ (parseMethodDescriptor zy_R_takeValue.desc).map (fun d => d.parameters.length) = some 1 := by decide +kernel
theorem zd_R_takeValue_0 : decode zb_R_takeValue 0 = .ok (.aload_n 0, 1) := by decide +kernel
theorem zd_R_takeValue_1 : decode zb_R_takeValue 1 = .ok (.aload_n 0, 1) := by decide +kernel
theorem zd_R_takeValue_2 : decode zb_R_takeValue 2 = .ok (.getfield 62, 3) := by decide +kernel
theorem zd_R_takeValue_5 : decode zb_R_takeValue 5 = .ok (.ldc2_w 66, 3) := by decide +kernel
theorem zd_R_takeValue_8 : decode zb_R_takeValue 8 = .ok (.lmul, 1) := by decide +kernel
theorem zd_R_takeValue_9 : decode zb_R_takeValue 9 = .ok (.iload_n 1, 1) := by decide +kernel
theorem zd_R_takeValue_10 : decode zb_R_takeValue 10 = .ok (.i2l, 1) := by decide +kernel
theorem zd_R_takeValue_11 : decode zb_R_takeValue 11 = .ok (.ladd, 1) := by decide +kernel
theorem zd_R_takeValue_12 : decode zb_R_takeValue 12 = .ok (.putfield 62, 3) := by decide +kernel
theorem zd_R_takeValue_15 : decode zb_R_takeValue 15 = .ok (.aload_n 0, 1) := by decide +kernel
theorem zd_R_takeValue_16 : decode zb_R_takeValue 16 = .ok (.getfield 22, 3) := by decide +kernel
theorem zd_R_takeValue_19 : decode zb_R_takeValue 19 = .ok (.bipush 8, 2) := by decide +kernel
theorem zd_R_takeValue_21 : decode zb_R_takeValue 21 = .ok (.if_icmp .ne 14, 3) := by decide +kernel
theorem zd_R_takeValue_24 : decode zb_R_takeValue 24 = .ok (.aload_n 0, 1) := by decide +kernel
theorem zd_R_takeValue_25 : decode zb_R_takeValue 25 = .ok (.getfield 62, 3) := by decide +kernel
theorem zd_R_takeValue_28 : decode zb_R_takeValue 28 = .ok (.ldc2_w 68, 3) := by decide +kernel
theorem zd_R_takeValue_31 : decode zb_R_takeValue 31 = .ok (.lcmp, 1) := by decide +kernel
theorem zd_R_takeValue_32 : decode zb_R_takeValue 32 = .ok (.ifCond .gt 7, 3) := by decide +kernel
theorem zd_R_takeValue_35 : decode zb_R_takeValue 35 = .ok (.iconst 1, 1) := by decide +kernel
theorem zd_R_takeValue_36 : decode zb_R_takeValue 36 = .ok (.goto 4, 3) := by decide +kernel
theorem zd_R_takeValue_39 : decode zb_R_takeValue 39 = .ok (.iconst 0, 1) := by decide +kernel
theorem zd_R_takeValue_40 : decode zb_R_takeValue 40 = .ok (.ireturn, 1) := by decide +kernel
abbrev zy_R_stands : MethodName := ⟨"DeclareForms$Reader", "stands", "(I)Z"⟩
abbrev zb_R_stands : ByteArray := prog_4_method_5_code
theorem zh_R_stands : zy_R_stands.cls ≠ "java/lang/invoke/MethodHandle" ∧ zy_R_stands.cls ≠ "java/lang/invoke/VarHandle" ∧ (parseMethodDescriptor zy_R_stands.desc).map (fun d => d.parameters.length) = some 1 := by decide +kernel
theorem zd_R_stands_0 : decode zb_R_stands 0 = .ok (.aload_n 0, 1) := by decide +kernel
theorem zd_R_stands_1 : decode zb_R_stands 1 = .ok (.getfield 22, 3) := by decide +kernel
theorem zd_R_stands_4 : decode zb_R_stands 4 = .ok (.tableswitch 66 0 4 #[36, 42, 48, 54, 60], 36) := by decide +kernel
theorem zd_R_stands_40 : decode zb_R_stands 40 = .ok (.aload_n 0, 1) := by decide +kernel
theorem zd_R_stands_41 : decode zb_R_stands 41 = .ok (.iload_n 1, 1) := by decide +kernel
theorem zd_R_stands_42 : decode zb_R_stands 42 = .ok (.invokevirtual 31, 3) := by decide +kernel
theorem zd_R_stands_45 : decode zb_R_stands 45 = .ok (.ireturn, 1) := by decide +kernel
theorem zd_R_stands_46 : decode zb_R_stands 46 = .ok (.aload_n 0, 1) := by decide +kernel
theorem zd_R_stands_47 : decode zb_R_stands 47 = .ok (.iload_n 1, 1) := by decide +kernel
theorem zd_R_stands_48 : decode zb_R_stands 48 = .ok (.invokevirtual 34, 3) := by decide +kernel
theorem zd_R_stands_51 : decode zb_R_stands 51 = .ok (.ireturn, 1) := by decide +kernel
theorem zd_R_stands_52 : decode zb_R_stands 52 = .ok (.aload_n 0, 1) := by decide +kernel
theorem zd_R_stands_53 : decode zb_R_stands 53 = .ok (.iload_n 1, 1) := by decide +kernel
theorem zd_R_stands_54 : decode zb_R_stands 54 = .ok (.invokevirtual 37, 3) := by decide +kernel
theorem zd_R_stands_57 : decode zb_R_stands 57 = .ok (.ireturn, 1) := by decide +kernel
theorem zd_R_stands_58 : decode zb_R_stands 58 = .ok (.aload_n 0, 1) := by decide +kernel
theorem zd_R_stands_59 : decode zb_R_stands 59 = .ok (.iload_n 1, 1) := by decide +kernel
theorem zd_R_stands_60 : decode zb_R_stands 60 = .ok (.invokevirtual 40, 3) := by decide +kernel
theorem zd_R_stands_63 : decode zb_R_stands 63 = .ok (.ireturn, 1) := by decide +kernel
theorem zd_R_stands_64 : decode zb_R_stands 64 = .ok (.aload_n 0, 1) := by decide +kernel
theorem zd_R_stands_65 : decode zb_R_stands 65 = .ok (.iload_n 1, 1) := by decide +kernel
theorem zd_R_stands_66 : decode zb_R_stands 66 = .ok (.invokevirtual 43, 3) := by decide +kernel
theorem zd_R_stands_69 : decode zb_R_stands 69 = .ok (.ireturn, 1) := by decide +kernel
theorem zd_R_stands_70 : decode zb_R_stands 70 = .ok (.aload_n 0, 1) := by decide +kernel
theorem zd_R_stands_71 : decode zb_R_stands 71 = .ok (.iload_n 1, 1) := by decide +kernel
theorem zd_R_stands_72 : decode zb_R_stands 72 = .ok (.invokevirtual 46, 3) := by decide +kernel
theorem zd_R_stands_75 : decode zb_R_stands 75 = .ok (.ireturn, 1) := by decide +kernel
abbrev zy_R_accept : MethodName := ⟨"DeclareForms$Reader", "accept", "(I)I"⟩
abbrev zb_R_accept : ByteArray := prog_4_method_4_code
theorem zh_R_accept : zy_R_accept.cls ≠ "java/lang/invoke/MethodHandle" ∧ zy_R_accept.cls ≠ "java/lang/invoke/VarHandle" ∧ (parseMethodDescriptor zy_R_accept.desc).map (fun d => d.parameters.length) = some 1 := by decide +kernel
theorem zd_R_accept_0 : decode zb_R_accept 0 = .ok (.aload_n 0, 1) := by decide +kernel
theorem zd_R_accept_1 : decode zb_R_accept 1 = .ok (.iload_n 1, 1) := by decide +kernel
theorem zd_R_accept_2 : decode zb_R_accept 2 = .ok (.invokevirtual 18, 3) := by decide +kernel
theorem zd_R_accept_5 : decode zb_R_accept 5 = .ok (.ifCond .ne 10, 3) := by decide +kernel
theorem zd_R_accept_8 : decode zb_R_accept 8 = .ok (.aload_n 0, 1) := by decide +kernel
theorem zd_R_accept_9 : decode zb_R_accept 9 = .ok (.iconst 0, 1) := by decide +kernel
theorem zd_R_accept_10 : decode zb_R_accept 10 = .ok (.putfield 22, 3) := by decide +kernel
theorem zd_R_accept_13 : decode zb_R_accept 13 = .ok (.iconst (-1), 1) := by decide +kernel
theorem zd_R_accept_14 : decode zb_R_accept 14 = .ok (.ireturn, 1) := by decide +kernel
theorem zd_R_accept_15 : decode zb_R_accept 15 = .ok (.aload_n 0, 1) := by decide +kernel
theorem zd_R_accept_16 : decode zb_R_accept 16 = .ok (.getfield 22, 3) := by decide +kernel
theorem zd_R_accept_19 : decode zb_R_accept 19 = .ok (.bipush 8, 2) := by decide +kernel
theorem zd_R_accept_21 : decode zb_R_accept 21 = .ok (.if_icmp .ne 13, 3) := by decide +kernel
theorem zd_R_accept_24 : decode zb_R_accept 24 = .ok (.aload_n 0, 1) := by decide +kernel
theorem zd_R_accept_25 : decode zb_R_accept 25 = .ok (.dup, 1) := by decide +kernel
theorem zd_R_accept_26 : decode zb_R_accept 26 = .ok (.getfield 25, 3) := by decide +kernel
theorem zd_R_accept_29 : decode zb_R_accept 29 = .ok (.iconst 1, 1) := by decide +kernel
theorem zd_R_accept_30 : decode zb_R_accept 30 = .ok (.isub, 1) := by decide +kernel
theorem zd_R_accept_31 : decode zb_R_accept 31 = .ok (.putfield 25, 3) := by decide +kernel
theorem zd_R_accept_34 : decode zb_R_accept 34 = .ok (.aload_n 0, 1) := by decide +kernel
theorem zd_R_accept_35 : decode zb_R_accept 35 = .ok (.getfield 22, 3) := by decide +kernel
theorem zd_R_accept_38 : decode zb_R_accept 38 = .ok (.iconst 2, 1) := by decide +kernel
theorem zd_R_accept_39 : decode zb_R_accept 39 = .ok (.if_icmp .eq 12, 3) := by decide +kernel
theorem zd_R_accept_42 : decode zb_R_accept 42 = .ok (.aload_n 0, 1) := by decide +kernel
theorem zd_R_accept_43 : decode zb_R_accept 43 = .ok (.getfield 22, 3) := by decide +kernel
theorem zd_R_accept_46 : decode zb_R_accept 46 = .ok (.bipush 8, 2) := by decide +kernel
theorem zd_R_accept_48 : decode zb_R_accept 48 = .ok (.if_icmp .ne 35, 3) := by decide +kernel
theorem zd_R_accept_51 : decode zb_R_accept 51 = .ok (.aload_n 0, 1) := by decide +kernel
theorem zd_R_accept_52 : decode zb_R_accept 52 = .ok (.getfield 25, 3) := by decide +kernel
theorem zd_R_accept_55 : decode zb_R_accept 55 = .ok (.ifCond .ne 28, 3) := by decide +kernel
theorem zd_R_accept_58 : decode zb_R_accept 58 = .ok (.aload_n 0, 1) := by decide +kernel
theorem zd_R_accept_59 : decode zb_R_accept 59 = .ok (.dup, 1) := by decide +kernel
theorem zd_R_accept_60 : decode zb_R_accept 60 = .ok (.getfield 9, 3) := by decide +kernel
theorem zd_R_accept_63 : decode zb_R_accept 63 = .ok (.iconst 1, 1) := by decide +kernel
theorem zd_R_accept_64 : decode zb_R_accept 64 = .ok (.iadd, 1) := by decide +kernel
theorem zd_R_accept_65 : decode zb_R_accept 65 = .ok (.putfield 9, 3) := by decide +kernel
theorem zd_R_accept_68 : decode zb_R_accept 68 = .ok (.aload_n 0, 1) := by decide +kernel
theorem zd_R_accept_69 : decode zb_R_accept 69 = .ok (.aload_n 0, 1) := by decide +kernel
theorem zd_R_accept_70 : decode zb_R_accept 70 = .ok (.getfield 28, 3) := by decide +kernel
theorem zd_R_accept_73 : decode zb_R_accept 73 = .ok (.putfield 15, 3) := by decide +kernel
theorem zd_R_accept_76 : decode zb_R_accept 76 = .ok (.aload_n 0, 1) := by decide +kernel
theorem zd_R_accept_77 : decode zb_R_accept 77 = .ok (.iconst 0, 1) := by decide +kernel
theorem zd_R_accept_78 : decode zb_R_accept 78 = .ok (.putfield 22, 3) := by decide +kernel
theorem zd_R_accept_81 : decode zb_R_accept 81 = .ok (.iconst 1, 1) := by decide +kernel
theorem zd_R_accept_82 : decode zb_R_accept 82 = .ok (.ireturn, 1) := by decide +kernel
theorem zd_R_accept_83 : decode zb_R_accept 83 = .ok (.aload_n 0, 1) := by decide +kernel
theorem zd_R_accept_84 : decode zb_R_accept 84 = .ok (.aload_n 0, 1) := by decide +kernel
theorem zd_R_accept_85 : decode zb_R_accept 85 = .ok (.getfield 22, 3) := by decide +kernel
theorem zd_R_accept_88 : decode zb_R_accept 88 = .ok (.bipush 8, 2) := by decide +kernel
theorem zd_R_accept_90 : decode zb_R_accept 90 = .ok (.if_icmp .ne 7, 3) := by decide +kernel
theorem zd_R_accept_93 : decode zb_R_accept 93 = .ok (.iconst 3, 1) := by decide +kernel
theorem zd_R_accept_94 : decode zb_R_accept 94 = .ok (.goto 9, 3) := by decide +kernel
theorem zd_R_accept_97 : decode zb_R_accept 97 = .ok (.aload_n 0, 1) := by decide +kernel
theorem zd_R_accept_98 : decode zb_R_accept 98 = .ok (.getfield 22, 3) := by decide +kernel
theorem zd_R_accept_101 : decode zb_R_accept 101 = .ok (.iconst 1, 1) := by decide +kernel
theorem zd_R_accept_102 : decode zb_R_accept 102 = .ok (.iadd, 1) := by decide +kernel
theorem zd_R_accept_103 : decode zb_R_accept 103 = .ok (.putfield 22, 3) := by decide +kernel
theorem zd_R_accept_106 : decode zb_R_accept 106 = .ok (.iconst 0, 1) := by decide +kernel
theorem zd_R_accept_107 : decode zb_R_accept 107 = .ok (.ireturn, 1) := by decide +kernel
abbrev zy_X_firstWithoutGoodCode : MethodName := ⟨"DeclareForms", "firstWithoutGoodCode", "()I"⟩
abbrev zb_X_firstWithoutGoodCode : ByteArray := prog_1_method_27_code
theorem zh_X_firstWithoutGoodCode : zy_X_firstWithoutGoodCode.cls ≠ "java/lang/invoke/MethodHandle" ∧ zy_X_firstWithoutGoodCode.cls ≠ "java/lang/invoke/VarHandle" ∧ (parseMethodDescriptor zy_X_firstWithoutGoodCode.desc).map (fun d => d.parameters.length) = some 0 := by decide +kernel
theorem zd_X_firstWithoutGoodCode_0 : decode zb_X_firstWithoutGoodCode 0 = .ok (.iconst 1, 1) := by decide +kernel
theorem zd_X_firstWithoutGoodCode_1 : decode zb_X_firstWithoutGoodCode 1 = .ok (.istore_n 1, 1) := by decide +kernel
theorem zd_X_firstWithoutGoodCode_2 : decode zb_X_firstWithoutGoodCode 2 = .ok (.iload_n 1, 1) := by decide +kernel
theorem zd_X_firstWithoutGoodCode_3 : decode zb_X_firstWithoutGoodCode 3 = .ok (.bipush 30, 2) := by decide +kernel
theorem zd_X_firstWithoutGoodCode_5 : decode zb_X_firstWithoutGoodCode 5 = .ok (.if_icmp .gt 51, 3) := by decide +kernel
theorem zd_X_firstWithoutGoodCode_8 : decode zb_X_firstWithoutGoodCode 8 = .ok (.aload_n 0, 1) := by decide +kernel
theorem zd_X_firstWithoutGoodCode_9 : decode zb_X_firstWithoutGoodCode 9 = .ok (.getfield 25, 3) := by decide +kernel
theorem zd_X_firstWithoutGoodCode_12 : decode zb_X_firstWithoutGoodCode 12 = .ok (.bipush 10, 2) := by decide +kernel
theorem zd_X_firstWithoutGoodCode_14 : decode zb_X_firstWithoutGoodCode 14 = .ok (.iload_n 1, 1) := by decide +kernel
theorem zd_X_firstWithoutGoodCode_15 : decode zb_X_firstWithoutGoodCode 15 = .ok (.invokevirtual 84, 3) := by decide +kernel
theorem zd_X_firstWithoutGoodCode_18 : decode zb_X_firstWithoutGoodCode 18 = .ok (.istore_n 2, 1) := by decide +kernel
theorem zd_X_firstWithoutGoodCode_19 : decode zb_X_firstWithoutGoodCode 19 = .ok (.aload_n 0, 1) := by decide +kernel
theorem zd_X_firstWithoutGoodCode_20 : decode zb_X_firstWithoutGoodCode 20 = .ok (.getfield 25, 3) := by decide +kernel
theorem zd_X_firstWithoutGoodCode_23 : decode zb_X_firstWithoutGoodCode 23 = .ok (.iload_n 2, 1) := by decide +kernel
theorem zd_X_firstWithoutGoodCode_24 : decode zb_X_firstWithoutGoodCode 24 = .ok (.invokevirtual 103, 3) := by decide +kernel
theorem zd_X_firstWithoutGoodCode_27 : decode zb_X_firstWithoutGoodCode 27 = .ok (.istore_n 3, 1) := by decide +kernel
theorem zd_X_firstWithoutGoodCode_28 : decode zb_X_firstWithoutGoodCode 28 = .ok (.iload_n 3, 1) := by decide +kernel
theorem zd_X_firstWithoutGoodCode_29 : decode zb_X_firstWithoutGoodCode 29 = .ok (.iconst (-1), 1) := by decide +kernel
theorem zd_X_firstWithoutGoodCode_30 : decode zb_X_firstWithoutGoodCode 30 = .ok (.if_icmp .eq 20, 3) := by decide +kernel
theorem zd_X_firstWithoutGoodCode_33 : decode zb_X_firstWithoutGoodCode 33 = .ok (.aload_n 0, 1) := by decide +kernel
theorem zd_X_firstWithoutGoodCode_34 : decode zb_X_firstWithoutGoodCode 34 = .ok (.getfield 32, 3) := by decide +kernel
theorem zd_X_firstWithoutGoodCode_37 : decode zb_X_firstWithoutGoodCode 37 = .ok (.iload_n 3, 1) := by decide +kernel
theorem zd_X_firstWithoutGoodCode_38 : decode zb_X_firstWithoutGoodCode 38 = .ok (.aload_n 0, 1) := by decide +kernel
theorem zd_X_firstWithoutGoodCode_39 : decode zb_X_firstWithoutGoodCode 39 = .ok (.getfield 50, 3) := by decide +kernel
theorem zd_X_firstWithoutGoodCode_42 : decode zb_X_firstWithoutGoodCode 42 = .ok (.invokevirtual 205, 3) := by decide +kernel
theorem zd_X_firstWithoutGoodCode_45 : decode zb_X_firstWithoutGoodCode 45 = .ok (.ifCond .ne 5, 3) := by decide +kernel
theorem zd_X_firstWithoutGoodCode_48 : decode zb_X_firstWithoutGoodCode 48 = .ok (.iload_n 2, 1) := by decide +kernel
theorem zd_X_firstWithoutGoodCode_49 : decode zb_X_firstWithoutGoodCode 49 = .ok (.ireturn, 1) := by decide +kernel
theorem zd_X_firstWithoutGoodCode_50 : decode zb_X_firstWithoutGoodCode 50 = .ok (.iinc 1 1, 3) := by decide +kernel
theorem zd_X_firstWithoutGoodCode_53 : decode zb_X_firstWithoutGoodCode 53 = .ok (.goto (-51), 3) := by decide +kernel
theorem zd_X_firstWithoutGoodCode_56 : decode zb_X_firstWithoutGoodCode 56 = .ok (.iconst (-1), 1) := by decide +kernel
theorem zd_X_firstWithoutGoodCode_57 : decode zb_X_firstWithoutGoodCode 57 = .ok (.ireturn, 1) := by decide +kernel
abbrev zy_X_check : MethodName := ⟨"DeclareForms", "check", "()I"⟩
abbrev zb_X_check : ByteArray := prog_1_method_10_code
theorem zh_X_check : zy_X_check.cls ≠ "java/lang/invoke/MethodHandle" ∧ zy_X_check.cls ≠ "java/lang/invoke/VarHandle" ∧ (parseMethodDescriptor zy_X_check.desc).map (fun d => d.parameters.length) = some 0 := by decide +kernel
theorem zd_X_check_0 : decode zb_X_check 0 = .ok (.aload_n 0, 1) := by decide +kernel
theorem zd_X_check_1 : decode zb_X_check 1 = .ok (.getfield 25, 3) := by decide +kernel
theorem zd_X_check_4 : decode zb_X_check 4 = .ok (.aload_n 0, 1) := by decide +kernel
theorem zd_X_check_5 : decode zb_X_check 5 = .ok (.getfield 18, 3) := by decide +kernel
theorem zd_X_check_8 : decode zb_X_check 8 = .ok (.invokevirtual 115, 3) := by decide +kernel
theorem zd_X_check_11 : decode zb_X_check 11 = .ok (.istore_n 1, 1) := by decide +kernel
theorem zd_X_check_12 : decode zb_X_check 12 = .ok (.iload_n 1, 1) := by decide +kernel
theorem zd_X_check_13 : decode zb_X_check 13 = .ok (.iconst (-1), 1) := by decide +kernel
theorem zd_X_check_14 : decode zb_X_check 14 = .ok (.if_icmp .eq 11, 3) := by decide +kernel
theorem zd_X_check_17 : decode zb_X_check 17 = .ok (.ldc 118, 2) := by decide +kernel
theorem zd_X_check_19 : decode zb_X_check 19 = .ok (.iload_n 1, 1) := by decide +kernel
theorem zd_X_check_20 : decode zb_X_check 20 = .ok (.invokestatic 119, 3) := by decide +kernel
theorem zd_X_check_23 : decode zb_X_check 23 = .ok (.iadd, 1) := by decide +kernel
theorem zd_X_check_24 : decode zb_X_check 24 = .ok (.ireturn, 1) := by decide +kernel
theorem zd_X_check_25 : decode zb_X_check 25 = .ok (.aload_n 0, 1) := by decide +kernel
theorem zd_X_check_26 : decode zb_X_check 26 = .ok (.getfield 25, 3) := by decide +kernel
theorem zd_X_check_29 : decode zb_X_check 29 = .ok (.iconst 2, 1) := by decide +kernel
theorem zd_X_check_30 : decode zb_X_check 30 = .ok (.bipush 12, 2) := by decide +kernel
theorem zd_X_check_32 : decode zb_X_check 32 = .ok (.invokevirtual 122, 3) := by decide +kernel
theorem zd_X_check_35 : decode zb_X_check 35 = .ok (.ifCond .eq 6, 3) := by decide +kernel
theorem zd_X_check_38 : decode zb_X_check 38 = .ok (.ldc 125, 2) := by decide +kernel
theorem zd_X_check_40 : decode zb_X_check 40 = .ok (.ireturn, 1) := by decide +kernel
theorem zd_X_check_41 : decode zb_X_check 41 = .ok (.aload_n 0, 1) := by decide +kernel
theorem zd_X_check_42 : decode zb_X_check 42 = .ok (.getfield 25, 3) := by decide +kernel
theorem zd_X_check_45 : decode zb_X_check 45 = .ok (.iconst 3, 1) := by decide +kernel
theorem zd_X_check_46 : decode zb_X_check 46 = .ok (.bipush 13, 2) := by decide +kernel
theorem zd_X_check_48 : decode zb_X_check 48 = .ok (.invokevirtual 122, 3) := by decide +kernel
theorem zd_X_check_51 : decode zb_X_check 51 = .ok (.ifCond .eq 6, 3) := by decide +kernel
theorem zd_X_check_54 : decode zb_X_check 54 = .ok (.ldc 126, 2) := by decide +kernel
theorem zd_X_check_56 : decode zb_X_check 56 = .ok (.ireturn, 1) := by decide +kernel
theorem zd_X_check_57 : decode zb_X_check 57 = .ok (.aload_n 0, 1) := by decide +kernel
theorem zd_X_check_58 : decode zb_X_check 58 = .ok (.invokevirtual 127, 3) := by decide +kernel
theorem zd_X_check_61 : decode zb_X_check 61 = .ok (.istore_n 2, 1) := by decide +kernel
theorem zd_X_check_62 : decode zb_X_check 62 = .ok (.iload_n 2, 1) := by decide +kernel
theorem zd_X_check_63 : decode zb_X_check 63 = .ok (.iconst (-1), 1) := by decide +kernel
theorem zd_X_check_64 : decode zb_X_check 64 = .ok (.if_icmp .eq 11, 3) := by decide +kernel
theorem zd_X_check_67 : decode zb_X_check 67 = .ok (.ldc 130, 2) := by decide +kernel
theorem zd_X_check_69 : decode zb_X_check 69 = .ok (.iload_n 2, 1) := by decide +kernel
theorem zd_X_check_70 : decode zb_X_check 70 = .ok (.invokestatic 119, 3) := by decide +kernel
theorem zd_X_check_73 : decode zb_X_check 73 = .ok (.iadd, 1) := by decide +kernel
theorem zd_X_check_74 : decode zb_X_check 74 = .ok (.ireturn, 1) := by decide +kernel
theorem zd_X_check_75 : decode zb_X_check 75 = .ok (.aload_n 0, 1) := by decide +kernel
theorem zd_X_check_76 : decode zb_X_check 76 = .ok (.getfield 25, 3) := by decide +kernel
theorem zd_X_check_79 : decode zb_X_check 79 = .ok (.invokevirtual 131, 3) := by decide +kernel
theorem zd_X_check_82 : decode zb_X_check 82 = .ok (.ifCond .ne 8, 3) := by decide +kernel
theorem zd_X_check_85 : decode zb_X_check 85 = .ok (.ldc 134, 2) := by decide +kernel
theorem zd_X_check_87 : decode zb_X_check 87 = .ok (.goto 4, 3) := by decide +kernel
theorem zd_X_check_90 : decode zb_X_check 90 = .ok (.iconst 0, 1) := by decide +kernel
theorem zd_X_check_91 : decode zb_X_check 91 = .ok (.ireturn, 1) := by decide +kernel
abbrev zy_X_pack : MethodName := ⟨"DeclareForms", "pack", "()I"⟩
abbrev zb_X_pack : ByteArray := prog_1_method_16_code
theorem zh_X_pack : zy_X_pack.cls ≠ "java/lang/invoke/MethodHandle" ∧ zy_X_pack.cls ≠ "java/lang/invoke/VarHandle" ∧ (parseMethodDescriptor zy_X_pack.desc).map (fun d => d.parameters.length) = some 0 := by decide +kernel
theorem zd_X_pack_0 : decode zb_X_pack 0 = .ok (.iconst 3, 1) := by decide +kernel
theorem zd_X_pack_1 : decode zb_X_pack 1 = .ok (.bipush 6, 2) := by decide +kernel
theorem zd_X_pack_3 : decode zb_X_pack 3 = .ok (.aload_n 0, 1) := by decide +kernel
theorem zd_X_pack_4 : decode zb_X_pack 4 = .ok (.getfield 25, 3) := by decide +kernel
theorem zd_X_pack_7 : decode zb_X_pack 7 = .ok (.invokevirtual 158, 3) := by decide +kernel
theorem zd_X_pack_10 : decode zb_X_pack 10 = .ok (.imul, 1) := by decide +kernel
theorem zd_X_pack_11 : decode zb_X_pack 11 = .ok (.iadd, 1) := by decide +kernel
theorem zd_X_pack_12 : decode zb_X_pack 12 = .ok (.ireturn, 1) := by decide +kernel
abbrev zy_X_packedByte : MethodName := ⟨"DeclareForms", "packedByte", "(II)B"⟩
abbrev zb_X_packedByte : ByteArray := prog_1_method_26_code
theorem zh_X_packedByte : zy_X_packedByte.cls ≠ "java/lang/invoke/MethodHandle" ∧ zy_X_packedByte.cls ≠ "java/lang/invoke/VarHandle" ∧ (parseMethodDescriptor zy_X_packedByte.desc).map (fun d => d.parameters.length) = some 2 := by decide +kernel
theorem zd_X_packedByte_0 : decode zb_X_packedByte 0 = .ok (.iload_n 2, 1) := by decide +kernel
theorem zd_X_packedByte_1 : decode zb_X_packedByte 1 = .ok (.ifCond .ne 9, 3) := by decide +kernel
theorem zd_X_packedByte_4 : decode zb_X_packedByte 4 = .ok (.iload_n 1, 1) := by decide +kernel
theorem zd_X_packedByte_5 : decode zb_X_packedByte 5 = .ok (.invokestatic 202, 3) := by decide +kernel
theorem zd_X_packedByte_8 : decode zb_X_packedByte 8 = .ok (.i2b, 1) := by decide +kernel
theorem zd_X_packedByte_9 : decode zb_X_packedByte 9 = .ok (.ireturn, 1) := by decide +kernel
theorem zd_X_packedByte_10 : decode zb_X_packedByte 10 = .ok (.iload_n 2, 1) := by decide +kernel
theorem zd_X_packedByte_11 : decode zb_X_packedByte 11 = .ok (.iconst 1, 1) := by decide +kernel
theorem zd_X_packedByte_12 : decode zb_X_packedByte 12 = .ok (.if_icmp .ne 9, 3) := by decide +kernel
theorem zd_X_packedByte_15 : decode zb_X_packedByte 15 = .ok (.iload_n 1, 1) := by decide +kernel
theorem zd_X_packedByte_16 : decode zb_X_packedByte 16 = .ok (.invokestatic 199, 3) := by decide +kernel
theorem zd_X_packedByte_19 : decode zb_X_packedByte 19 = .ok (.i2b, 1) := by decide +kernel
theorem zd_X_packedByte_20 : decode zb_X_packedByte 20 = .ok (.ireturn, 1) := by decide +kernel
theorem zd_X_packedByte_21 : decode zb_X_packedByte 21 = .ok (.aload_n 0, 1) := by decide +kernel
theorem zd_X_packedByte_22 : decode zb_X_packedByte 22 = .ok (.getfield 25, 3) := by decide +kernel
theorem zd_X_packedByte_25 : decode zb_X_packedByte 25 = .ok (.iload_n 1, 1) := by decide +kernel
theorem zd_X_packedByte_26 : decode zb_X_packedByte 26 = .ok (.invokevirtual 103, 3) := by decide +kernel
theorem zd_X_packedByte_29 : decode zb_X_packedByte 29 = .ok (.iconst 5, 1) := by decide +kernel
theorem zd_X_packedByte_30 : decode zb_X_packedByte 30 = .ok (.iload_n 2, 1) := by decide +kernel
theorem zd_X_packedByte_31 : decode zb_X_packedByte 31 = .ok (.isub, 1) := by decide +kernel
theorem zd_X_packedByte_32 : decode zb_X_packedByte 32 = .ok (.invokestatic 169, 3) := by decide +kernel
theorem zd_X_packedByte_35 : decode zb_X_packedByte 35 = .ok (.ireturn, 1) := by decide +kernel
abbrev zy_X_remove : MethodName := ⟨"DeclareForms", "remove", "(I)I"⟩
abbrev zb_X_remove : ByteArray := prog_1_method_3_code
theorem zh_X_remove : zy_X_remove.cls ≠ "java/lang/invoke/MethodHandle" ∧ zy_X_remove.cls ≠ "java/lang/invoke/VarHandle" ∧ (parseMethodDescriptor zy_X_remove.desc).map (fun d => d.parameters.length) = some 1 := by decide +kernel
theorem zd_X_remove_0 : decode zb_X_remove 0 = .ok (.aload_n 0, 1) := by decide +kernel
theorem zd_X_remove_1 : decode zb_X_remove 1 = .ok (.getfield 53, 3) := by decide +kernel
theorem zd_X_remove_4 : decode zb_X_remove 4 = .ok (.ifCond .ne 14, 3) := by decide +kernel
theorem zd_X_remove_7 : decode zb_X_remove 7 = .ok (.aload_n 0, 1) := by decide +kernel
theorem zd_X_remove_8 : decode zb_X_remove 8 = .ok (.getfield 25, 3) := by decide +kernel
theorem zd_X_remove_11 : decode zb_X_remove 11 = .ok (.iload_n 1, 1) := by decide +kernel
theorem zd_X_remove_12 : decode zb_X_remove 12 = .ok (.invokevirtual 72, 3) := by decide +kernel
theorem zd_X_remove_15 : decode zb_X_remove 15 = .ok (.ifCond .ne 5, 3) := by decide +kernel
theorem zd_X_remove_18 : decode zb_X_remove 18 = .ok (.iconst (-1), 1) := by decide +kernel
theorem zd_X_remove_19 : decode zb_X_remove 19 = .ok (.ireturn, 1) := by decide +kernel
theorem zd_X_remove_20 : decode zb_X_remove 20 = .ok (.aload_n 0, 1) := by decide +kernel
theorem zd_X_remove_21 : decode zb_X_remove 21 = .ok (.getfield 39, 3) := by decide +kernel
theorem zd_X_remove_24 : decode zb_X_remove 24 = .ok (.iload_n 1, 1) := by decide +kernel
theorem zd_X_remove_25 : decode zb_X_remove 25 = .ok (.invokevirtual 76, 3) := by decide +kernel
theorem zd_X_remove_28 : decode zb_X_remove 28 = .ok (.aload_n 0, 1) := by decide +kernel
theorem zd_X_remove_29 : decode zb_X_remove 29 = .ok (.getfield 25, 3) := by decide +kernel
theorem zd_X_remove_32 : decode zb_X_remove 32 = .ok (.iload_n 1, 1) := by decide +kernel
theorem zd_X_remove_33 : decode zb_X_remove 33 = .ok (.invokevirtual 80, 3) := by decide +kernel
theorem zd_X_remove_36 : decode zb_X_remove 36 = .ok (.ireturn, 1) := by decide +kernel
abbrev zy_X_clear : MethodName := ⟨"DeclareForms", "clear", "(II)Z"⟩
abbrev zb_X_clear : ByteArray := prog_1_method_5_code
theorem zh_X_clear : zy_X_clear.cls ≠ "java/lang/invoke/MethodHandle" ∧ zy_X_clear.cls ≠ "java/lang/invoke/VarHandle" ∧ (parseMethodDescriptor zy_X_clear.desc).map (fun d => d.parameters.length) = some 2 := by decide +kernel
theorem zd_X_clear_0 : decode zb_X_clear 0 = .ok (.aload_n 0, 1) := by decide +kernel
theorem zd_X_clear_1 : decode zb_X_clear 1 = .ok (.getfield 25, 3) := by decide +kernel
theorem zd_X_clear_4 : decode zb_X_clear 4 = .ok (.iload_n 1, 1) := by decide +kernel
theorem zd_X_clear_5 : decode zb_X_clear 5 = .ok (.iload_n 2, 1) := by decide +kernel
theorem zd_X_clear_6 : decode zb_X_clear 6 = .ok (.invokevirtual 84, 3) := by decide +kernel
theorem zd_X_clear_9 : decode zb_X_clear 9 = .ok (.istore_n 3, 1) := by decide +kernel
theorem zd_X_clear_10 : decode zb_X_clear 10 = .ok (.aload_n 0, 1) := by decide +kernel
theorem zd_X_clear_11 : decode zb_X_clear 11 = .ok (.getfield 53, 3) := by decide +kernel
theorem zd_X_clear_14 : decode zb_X_clear 14 = .ok (.ifCond .ne 20, 3) := by decide +kernel
theorem zd_X_clear_17 : decode zb_X_clear 17 = .ok (.iload_n 3, 1) := by decide +kernel
theorem zd_X_clear_18 : decode zb_X_clear 18 = .ok (.iconst (-1), 1) := by decide +kernel
theorem zd_X_clear_19 : decode zb_X_clear 19 = .ok (.if_icmp .eq 15, 3) := by decide +kernel
theorem zd_X_clear_22 : decode zb_X_clear 22 = .ok (.aload_n 0, 1) := by decide +kernel
theorem zd_X_clear_23 : decode zb_X_clear 23 = .ok (.getfield 25, 3) := by decide +kernel
theorem zd_X_clear_26 : decode zb_X_clear 26 = .ok (.iload_n 3, 1) := by decide +kernel
theorem zd_X_clear_27 : decode zb_X_clear 27 = .ok (.invokevirtual 103, 3) := by decide +kernel
theorem zd_X_clear_30 : decode zb_X_clear 30 = .ok (.iconst (-1), 1) := by decide +kernel
theorem zd_X_clear_31 : decode zb_X_clear 31 = .ok (.if_icmp .ne 5, 3) := by decide +kernel
theorem zd_X_clear_34 : decode zb_X_clear 34 = .ok (.iconst 0, 1) := by decide +kernel
theorem zd_X_clear_35 : decode zb_X_clear 35 = .ok (.ireturn, 1) := by decide +kernel
theorem zd_X_clear_36 : decode zb_X_clear 36 = .ok (.aload_n 0, 1) := by decide +kernel
theorem zd_X_clear_37 : decode zb_X_clear 37 = .ok (.getfield 25, 3) := by decide +kernel
theorem zd_X_clear_40 : decode zb_X_clear 40 = .ok (.iload_n 3, 1) := by decide +kernel
theorem zd_X_clear_41 : decode zb_X_clear 41 = .ok (.iconst (-1), 1) := by decide +kernel
theorem zd_X_clear_42 : decode zb_X_clear 42 = .ok (.invokevirtual 99, 3) := by decide +kernel
theorem zd_X_clear_45 : decode zb_X_clear 45 = .ok (.iconst 1, 1) := by decide +kernel
theorem zd_X_clear_46 : decode zb_X_clear 46 = .ok (.ireturn, 1) := by decide +kernel
abbrev zy_X_code : MethodName := ⟨"DeclareForms", "code", "(JI)Z"⟩
abbrev zb_X_code : ByteArray := prog_1_method_8_code
theorem zh_X_code : zy_X_code.cls ≠ "java/lang/invoke/MethodHandle" ∧ zy_X_code.cls ≠ "java/lang/invoke/VarHandle" ∧ (parseMethodDescriptor zy_X_code.desc).map (fun d => d.parameters.length) = some 2 := by decide +kernel
theorem zd_X_code_0 : decode zb_X_code 0 = .ok (.lload_n 1, 1) := by decide +kernel
theorem zd_X_code_1 : decode zb_X_code 1 = .ok (.invokestatic 87, 3) := by decide +kernel
theorem zd_X_code_4 : decode zb_X_code 4 = .ok (.ifCond .eq 13, 3) := by decide +kernel
theorem zd_X_code_7 : decode zb_X_code 7 = .ok (.iload_n 3, 1) := by decide +kernel
theorem zd_X_code_8 : decode zb_X_code 8 = .ok (.ifCond .lt 9, 3) := by decide +kernel
theorem zd_X_code_11 : decode zb_X_code 11 = .ok (.iload_n 3, 1) := by decide +kernel
theorem zd_X_code_12 : decode zb_X_code 12 = .ok (.ldc 110, 2) := by decide +kernel
theorem zd_X_code_14 : decode zb_X_code 14 = .ok (.if_icmp .le 5, 3) := by decide +kernel
theorem zd_X_code_17 : decode zb_X_code 17 = .ok (.iconst 0, 1) := by decide +kernel
theorem zd_X_code_18 : decode zb_X_code 18 = .ok (.ireturn, 1) := by decide +kernel
theorem zd_X_code_19 : decode zb_X_code 19 = .ok (.aload_n 0, 1) := by decide +kernel
theorem zd_X_code_20 : decode zb_X_code 20 = .ok (.getfield 32, 3) := by decide +kernel
theorem zd_X_code_23 : decode zb_X_code 23 = .ok (.lload_n 1, 1) := by decide +kernel
theorem zd_X_code_24 : decode zb_X_code 24 = .ok (.l2i, 1) := by decide +kernel
theorem zd_X_code_25 : decode zb_X_code 25 = .ok (.iload_n 3, 1) := by decide +kernel
theorem zd_X_code_26 : decode zb_X_code 26 = .ok (.invokevirtual 111, 3) := by decide +kernel
theorem zd_X_code_29 : decode zb_X_code 29 = .ok (.ireturn, 1) := by decide +kernel
abbrev zy_X_day : MethodName := ⟨"DeclareForms", "day", "(I)Z"⟩
abbrev zb_X_day : ByteArray := prog_1_method_9_code
theorem zh_X_day : zy_X_day.cls ≠ "java/lang/invoke/MethodHandle" ∧ zy_X_day.cls ≠ "java/lang/invoke/VarHandle" ∧ (parseMethodDescriptor zy_X_day.desc).map (fun d => d.parameters.length) = some 1 := by decide +kernel
theorem zd_X_day_0 : decode zb_X_day 0 = .ok (.iload_n 1, 1) := by decide +kernel
theorem zd_X_day_1 : decode zb_X_day 1 = .ok (.aload_n 0, 1) := by decide +kernel
theorem zd_X_day_2 : decode zb_X_day 2 = .ok (.getfield 50, 3) := by decide +kernel
theorem zd_X_day_5 : decode zb_X_day 5 = .ok (.if_icmp .lt 9, 3) := by decide +kernel
theorem zd_X_day_8 : decode zb_X_day 8 = .ok (.iload_n 1, 1) := by decide +kernel
theorem zd_X_day_9 : decode zb_X_day 9 = .ok (.ldc 110, 2) := by decide +kernel
theorem zd_X_day_11 : decode zb_X_day 11 = .ok (.if_icmp .le 5, 3) := by decide +kernel
theorem zd_X_day_14 : decode zb_X_day 14 = .ok (.iconst 0, 1) := by decide +kernel
theorem zd_X_day_15 : decode zb_X_day 15 = .ok (.ireturn, 1) := by decide +kernel
theorem zd_X_day_16 : decode zb_X_day 16 = .ok (.aload_n 0, 1) := by decide +kernel
theorem zd_X_day_17 : decode zb_X_day 17 = .ok (.iload_n 1, 1) := by decide +kernel
theorem zd_X_day_18 : decode zb_X_day 18 = .ok (.putfield 50, 3) := by decide +kernel
theorem zd_X_day_21 : decode zb_X_day 21 = .ok (.iconst 1, 1) := by decide +kernel
theorem zd_X_day_22 : decode zb_X_day 22 = .ok (.ireturn, 1) := by decide +kernel
abbrev zy_X_lodge : MethodName := ⟨"DeclareForms", "lodge", "()I"⟩
abbrev zb_X_lodge : ByteArray := prog_1_method_11_code
theorem zh_X_lodge : zy_X_lodge.cls ≠ "java/lang/invoke/MethodHandle" ∧ zy_X_lodge.cls ≠ "java/lang/invoke/VarHandle" ∧ (parseMethodDescriptor zy_X_lodge.desc).map (fun d => d.parameters.length) = some 0 := by decide +kernel
theorem zd_X_lodge_0 : decode zb_X_lodge 0 = .ok (.aload_n 0, 1) := by decide +kernel
theorem zd_X_lodge_1 : decode zb_X_lodge 1 = .ok (.getfield 53, 3) := by decide +kernel
theorem zd_X_lodge_4 : decode zb_X_lodge 4 = .ok (.ifCond .ne 10, 3) := by decide +kernel
theorem zd_X_lodge_7 : decode zb_X_lodge 7 = .ok (.aload_n 0, 1) := by decide +kernel
theorem zd_X_lodge_8 : decode zb_X_lodge 8 = .ok (.invokevirtual 135, 3) := by decide +kernel
theorem zd_X_lodge_11 : decode zb_X_lodge 11 = .ok (.ifCond .eq 5, 3) := by decide +kernel
theorem zd_X_lodge_14 : decode zb_X_lodge 14 = .ok (.iconst 0, 1) := by decide +kernel
theorem zd_X_lodge_15 : decode zb_X_lodge 15 = .ok (.ireturn, 1) := by decide +kernel
theorem zd_X_lodge_16 : decode zb_X_lodge 16 = .ok (.aload_n 0, 1) := by decide +kernel
theorem zd_X_lodge_17 : decode zb_X_lodge 17 = .ok (.iconst 1, 1) := by decide +kernel
theorem zd_X_lodge_18 : decode zb_X_lodge 18 = .ok (.putfield 53, 3) := by decide +kernel
theorem zd_X_lodge_21 : decode zb_X_lodge 21 = .ok (.iconst 1, 1) := by decide +kernel
theorem zd_X_lodge_22 : decode zb_X_lodge 22 = .ok (.ireturn, 1) := by decide +kernel
abbrev zy_X_paper : MethodName := ⟨"DeclareForms", "paper", "(II)Z"⟩
abbrev zb_X_paper : ByteArray := prog_1_method_13_code
theorem zh_X_paper : zy_X_paper.cls ≠ "java/lang/invoke/MethodHandle" ∧ zy_X_paper.cls ≠ "java/lang/invoke/VarHandle" ∧ (parseMethodDescriptor zy_X_paper.desc).map (fun d => d.parameters.length) = some 2 := by decide +kernel
theorem zd_X_paper_0 : decode zb_X_paper 0 = .ok (.iload_n 1, 1) := by decide +kernel
theorem zd_X_paper_1 : decode zb_X_paper 1 = .ok (.iconst 1, 1) := by decide +kernel
theorem zd_X_paper_2 : decode zb_X_paper 2 = .ok (.if_icmp .lt 19, 3) := by decide +kernel
theorem zd_X_paper_5 : decode zb_X_paper 5 = .ok (.iload_n 1, 1) := by decide +kernel
theorem zd_X_paper_6 : decode zb_X_paper 6 = .ok (.ldc 118, 2) := by decide +kernel
theorem zd_X_paper_8 : decode zb_X_paper 8 = .ok (.if_icmp .gt 13, 3) := by decide +kernel
theorem zd_X_paper_11 : decode zb_X_paper 11 = .ok (.iload_n 2, 1) := by decide +kernel
theorem zd_X_paper_12 : decode zb_X_paper 12 = .ok (.ifCond .lt 9, 3) := by decide +kernel
theorem zd_X_paper_15 : decode zb_X_paper 15 = .ok (.iload_n 2, 1) := by decide +kernel
theorem zd_X_paper_16 : decode zb_X_paper 16 = .ok (.ldc 118, 2) := by decide +kernel
theorem zd_X_paper_18 : decode zb_X_paper 18 = .ok (.if_icmp .le 5, 3) := by decide +kernel
theorem zd_X_paper_21 : decode zb_X_paper 21 = .ok (.iconst 0, 1) := by decide +kernel
theorem zd_X_paper_22 : decode zb_X_paper 22 = .ok (.ireturn, 1) := by decide +kernel
theorem zd_X_paper_23 : decode zb_X_paper 23 = .ok (.aload_n 0, 1) := by decide +kernel
theorem zd_X_paper_24 : decode zb_X_paper 24 = .ok (.getfield 39, 3) := by decide +kernel
theorem zd_X_paper_27 : decode zb_X_paper 27 = .ok (.iload_n 1, 1) := by decide +kernel
theorem zd_X_paper_28 : decode zb_X_paper 28 = .ok (.iload_n 2, 1) := by decide +kernel
theorem zd_X_paper_29 : decode zb_X_paper 29 = .ok (.invokevirtual 140, 3) := by decide +kernel
theorem zd_X_paper_32 : decode zb_X_paper 32 = .ok (.ireturn, 1) := by decide +kernel
abbrev zy_X_read : MethodName := ⟨"DeclareForms", "read", "(B)I"⟩
abbrev zb_X_read : ByteArray := prog_1_method_18_code
theorem zh_X_read : zy_X_read.cls ≠ "java/lang/invoke/MethodHandle" ∧ zy_X_read.cls ≠ "java/lang/invoke/VarHandle" ∧ (parseMethodDescriptor zy_X_read.desc).map (fun d => d.parameters.length) = some 1 := by decide +kernel
theorem zd_X_read_0 : decode zb_X_read 0 = .ok (.aload_n 0, 1) := by decide +kernel
theorem zd_X_read_1 : decode zb_X_read 1 = .ok (.getfield 46, 3) := by decide +kernel
theorem zd_X_read_4 : decode zb_X_read 4 = .ok (.iload_n 1, 1) := by decide +kernel
theorem zd_X_read_5 : decode zb_X_read 5 = .ok (.sipush 255, 3) := by decide +kernel
theorem zd_X_read_8 : decode zb_X_read 8 = .ok (.iand, 1) := by decide +kernel
theorem zd_X_read_9 : decode zb_X_read 9 = .ok (.invokevirtual 179, 3) := by decide +kernel
theorem zd_X_read_12 : decode zb_X_read 12 = .ok (.ireturn, 1) := by decide +kernel
abbrev zy_X_count : MethodName := ⟨"DeclareForms", "count", "(I)I"⟩
abbrev zb_X_count : ByteArray := prog_1_method_19_code
theorem zh_X_count : zy_X_count.cls ≠ "java/lang/invoke/MethodHandle" ∧ zy_X_count.cls ≠ "java/lang/invoke/VarHandle" ∧ (parseMethodDescriptor zy_X_count.desc).map (fun d => d.parameters.length) = some 1 := by decide +kernel
theorem zd_X_count_0 : decode zb_X_count 0 = .ok (.iload_n 1, 1) := by decide +kernel
theorem zd_X_count_1 : decode zb_X_count 1 = .ok (.tableswitch 126 0 8 #[51, 59, 67, 80, 92, 100, 105, 110, 118], 51) := by decide +kernel
theorem zd_X_count_52 : decode zb_X_count 52 = .ok (.aload_n 0, 1) := by decide +kernel
theorem zd_X_count_53 : decode zb_X_count 53 = .ok (.getfield 25, 3) := by decide +kernel
theorem zd_X_count_56 : decode zb_X_count 56 = .ok (.invokevirtual 131, 3) := by decide +kernel
theorem zd_X_count_59 : decode zb_X_count 59 = .ok (.ireturn, 1) := by decide +kernel
theorem zd_X_count_60 : decode zb_X_count 60 = .ok (.aload_n 0, 1) := by decide +kernel
theorem zd_X_count_61 : decode zb_X_count 61 = .ok (.getfield 25, 3) := by decide +kernel
theorem zd_X_count_64 : decode zb_X_count 64 = .ok (.invokevirtual 158, 3) := by decide +kernel
theorem zd_X_count_67 : decode zb_X_count 67 = .ok (.ireturn, 1) := by decide +kernel
theorem zd_X_count_68 : decode zb_X_count 68 = .ok (.aload_n 0, 1) := by decide +kernel
theorem zd_X_count_69 : decode zb_X_count 69 = .ok (.getfield 53, 3) := by decide +kernel
theorem zd_X_count_72 : decode zb_X_count 72 = .ok (.ifCond .eq 7, 3) := by decide +kernel
theorem zd_X_count_75 : decode zb_X_count 75 = .ok (.iconst 1, 1) := by decide +kernel
theorem zd_X_count_76 : decode zb_X_count 76 = .ok (.goto 4, 3) := by decide +kernel
theorem zd_X_count_79 : decode zb_X_count 79 = .ok (.iconst 0, 1) := by decide +kernel
theorem zd_X_count_80 : decode zb_X_count 80 = .ok (.ireturn, 1) := by decide +kernel
theorem zd_X_count_81 : decode zb_X_count 81 = .ok (.aload_n 0, 1) := by decide +kernel
theorem zd_X_count_82 : decode zb_X_count 82 = .ok (.getfield 32, 3) := by decide +kernel
theorem zd_X_count_85 : decode zb_X_count 85 = .ok (.aload_n 0, 1) := by decide +kernel
theorem zd_X_count_86 : decode zb_X_count 86 = .ok (.getfield 50, 3) := by decide +kernel
theorem zd_X_count_89 : decode zb_X_count 89 = .ok (.invokevirtual 182, 3) := by decide +kernel
theorem zd_X_count_92 : decode zb_X_count 92 = .ok (.ireturn, 1) := by decide +kernel
theorem zd_X_count_93 : decode zb_X_count 93 = .ok (.aload_n 0, 1) := by decide +kernel
theorem zd_X_count_94 : decode zb_X_count 94 = .ok (.getfield 39, 3) := by decide +kernel
theorem zd_X_count_97 : decode zb_X_count 97 = .ok (.invokevirtual 185, 3) := by decide +kernel
theorem zd_X_count_100 : decode zb_X_count 100 = .ok (.ireturn, 1) := by decide +kernel
theorem zd_X_count_101 : decode zb_X_count 101 = .ok (.aload_n 0, 1) := by decide +kernel
theorem zd_X_count_102 : decode zb_X_count 102 = .ok (.getfield 50, 3) := by decide +kernel
theorem zd_X_count_105 : decode zb_X_count 105 = .ok (.ireturn, 1) := by decide +kernel
theorem zd_X_count_106 : decode zb_X_count 106 = .ok (.aload_n 0, 1) := by decide +kernel
theorem zd_X_count_107 : decode zb_X_count 107 = .ok (.getfield 18, 3) := by decide +kernel
theorem zd_X_count_110 : decode zb_X_count 110 = .ok (.ireturn, 1) := by decide +kernel
theorem zd_X_count_111 : decode zb_X_count 111 = .ok (.aload_n 0, 1) := by decide +kernel
theorem zd_X_count_112 : decode zb_X_count 112 = .ok (.getfield 46, 3) := by decide +kernel
theorem zd_X_count_115 : decode zb_X_count 115 = .ok (.invokevirtual 188, 3) := by decide +kernel
theorem zd_X_count_118 : decode zb_X_count 118 = .ok (.ireturn, 1) := by decide +kernel
theorem zd_X_count_119 : decode zb_X_count 119 = .ok (.aload_n 0, 1) := by decide +kernel
theorem zd_X_count_120 : decode zb_X_count 120 = .ok (.getfield 46, 3) := by decide +kernel
theorem zd_X_count_123 : decode zb_X_count 123 = .ok (.invokevirtual 191, 3) := by decide +kernel
theorem zd_X_count_126 : decode zb_X_count 126 = .ok (.ireturn, 1) := by decide +kernel
theorem zd_X_count_127 : decode zb_X_count 127 = .ok (.iload_n 1, 1) := by decide +kernel
theorem zd_X_count_128 : decode zb_X_count 128 = .ok (.bipush 100, 2) := by decide +kernel
theorem zd_X_count_130 : decode zb_X_count 130 = .ok (.if_icmp .ge 7, 3) := by decide +kernel
theorem zd_X_count_133 : decode zb_X_count 133 = .ok (.iconst (-1), 1) := by decide +kernel
theorem zd_X_count_134 : decode zb_X_count 134 = .ok (.goto 14, 3) := by decide +kernel
theorem zd_X_count_137 : decode zb_X_count 137 = .ok (.aload_n 0, 1) := by decide +kernel
theorem zd_X_count_138 : decode zb_X_count 138 = .ok (.getfield 39, 3) := by decide +kernel
theorem zd_X_count_141 : decode zb_X_count 141 = .ok (.iload_n 1, 1) := by decide +kernel
theorem zd_X_count_142 : decode zb_X_count 142 = .ok (.bipush 100, 2) := by decide +kernel
theorem zd_X_count_144 : decode zb_X_count 144 = .ok (.isub, 1) := by decide +kernel
theorem zd_X_count_145 : decode zb_X_count 145 = .ok (.invokevirtual 194, 3) := by decide +kernel
theorem zd_X_count_148 : decode zb_X_count 148 = .ok (.ireturn, 1) := by decide +kernel
abbrev zy_X_line : MethodName := ⟨"DeclareForms", "line", "()I"⟩
abbrev zb_X_line : ByteArray := prog_1_method_2_code
theorem zh_X_line : zy_X_line.cls ≠ "java/lang/invoke/MethodHandle" ∧ zy_X_line.cls ≠ "java/lang/invoke/VarHandle" ∧ (parseMethodDescriptor zy_X_line.desc).map (fun d => d.parameters.length) = some 0 := by decide +kernel
theorem zd_X_line_0 : decode zb_X_line 0 = .ok (.aload_n 0, 1) := by decide +kernel
theorem zd_X_line_1 : decode zb_X_line 1 = .ok (.getfield 53, 3) := by decide +kernel
theorem zd_X_line_4 : decode zb_X_line 4 = .ok (.ifCond .ne 13, 3) := by decide +kernel
theorem zd_X_line_7 : decode zb_X_line 7 = .ok (.aload_n 0, 1) := by decide +kernel
theorem zd_X_line_8 : decode zb_X_line 8 = .ok (.getfield 25, 3) := by decide +kernel
theorem zd_X_line_11 : decode zb_X_line 11 = .ok (.invokevirtual 57, 3) := by decide +kernel
theorem zd_X_line_14 : decode zb_X_line 14 = .ok (.ifCond .eq 13, 3) := by decide +kernel
theorem zd_X_line_17 : decode zb_X_line 17 = .ok (.new 61, 3) := by decide +kernel
theorem zd_X_line_20 : decode zb_X_line 20 = .ok (.dup, 1) := by decide +kernel
theorem zd_X_line_21 : decode zb_X_line 21 = .ok (.ldc 63, 2) := by decide +kernel
theorem zd_X_line_23 : decode zb_X_line 23 = .ok (.invokespecial 65, 3) := by decide +kernel
theorem zd_X_line_26 : decode zb_X_line 26 = .ok (.athrow, 1) := by decide +kernel
theorem zd_X_line_27 : decode zb_X_line 27 = .ok (.aload_n 0, 1) := by decide +kernel
theorem zd_X_line_28 : decode zb_X_line 28 = .ok (.getfield 25, 3) := by decide +kernel
theorem zd_X_line_31 : decode zb_X_line 31 = .ok (.invokevirtual 68, 3) := by decide +kernel
theorem zd_X_line_34 : decode zb_X_line 34 = .ok (.ireturn, 1) := by decide +kernel
abbrev zy_X_field : MethodName := ⟨"DeclareForms", "field", "(IIJ)I"⟩
abbrev zb_X_field : ByteArray := prog_1_method_4_code
theorem zh_X_field : zy_X_field.cls ≠ "java/lang/invoke/MethodHandle" ∧ zy_X_field.cls ≠ "java/lang/invoke/VarHandle" ∧ (parseMethodDescriptor zy_X_field.desc).map (fun d => d.parameters.length) = some 3 := by decide +kernel
theorem zd_X_field_0 : decode zb_X_field 0 = .ok (.aload_n 0, 1) := by decide +kernel
theorem zd_X_field_1 : decode zb_X_field 1 = .ok (.getfield 25, 3) := by decide +kernel
theorem zd_X_field_4 : decode zb_X_field 4 = .ok (.iload_n 1, 1) := by decide +kernel
theorem zd_X_field_5 : decode zb_X_field 5 = .ok (.iload_n 2, 1) := by decide +kernel
theorem zd_X_field_6 : decode zb_X_field 6 = .ok (.invokevirtual 84, 3) := by decide +kernel
theorem zd_X_field_9 : decode zb_X_field 9 = .ok (.istore 5, 2) := by decide +kernel
theorem zd_X_field_11 : decode zb_X_field 11 = .ok (.iload 5, 2) := by decide +kernel
theorem zd_X_field_13 : decode zb_X_field 13 = .ok (.iconst (-1), 1) := by decide +kernel
theorem zd_X_field_14 : decode zb_X_field 14 = .ok (.if_icmp .eq 10, 3) := by decide +kernel
theorem zd_X_field_17 : decode zb_X_field 17 = .ok (.lload_n 3, 1) := by decide +kernel
theorem zd_X_field_18 : decode zb_X_field 18 = .ok (.invokestatic 87, 3) := by decide +kernel
theorem zd_X_field_21 : decode zb_X_field 21 = .ok (.ifCond .ne 13, 3) := by decide +kernel
theorem zd_X_field_24 : decode zb_X_field 24 = .ok (.new 91, 3) := by decide +kernel
theorem zd_X_field_27 : decode zb_X_field 27 = .ok (.dup, 1) := by decide +kernel
theorem zd_X_field_28 : decode zb_X_field 28 = .ok (.ldc 93, 2) := by decide +kernel
theorem zd_X_field_30 : decode zb_X_field 30 = .ok (.invokespecial 95, 3) := by decide +kernel
theorem zd_X_field_33 : decode zb_X_field 33 = .ok (.athrow, 1) := by decide +kernel
theorem zd_X_field_34 : decode zb_X_field 34 = .ok (.aload_n 0, 1) := by decide +kernel
theorem zd_X_field_35 : decode zb_X_field 35 = .ok (.getfield 53, 3) := by decide +kernel
theorem zd_X_field_38 : decode zb_X_field 38 = .ok (.ifCond .ne 15, 3) := by decide +kernel
theorem zd_X_field_41 : decode zb_X_field 41 = .ok (.aload_n 0, 1) := by decide +kernel
theorem zd_X_field_42 : decode zb_X_field 42 = .ok (.getfield 18, 3) := by decide +kernel
theorem zd_X_field_45 : decode zb_X_field 45 = .ok (.iload_n 1, 1) := by decide +kernel
theorem zd_X_field_46 : decode zb_X_field 46 = .ok (.invokestatic 96, 3) := by decide +kernel
theorem zd_X_field_49 : decode zb_X_field 49 = .ok (.iconst 3, 1) := by decide +kernel
theorem zd_X_field_50 : decode zb_X_field 50 = .ok (.if_icmp .ne 5, 3) := by decide +kernel
theorem zd_X_field_53 : decode zb_X_field 53 = .ok (.iconst 0, 1) := by decide +kernel
theorem zd_X_field_54 : decode zb_X_field 54 = .ok (.ireturn, 1) := by decide +kernel
theorem zd_X_field_55 : decode zb_X_field 55 = .ok (.aload_n 0, 1) := by decide +kernel
theorem zd_X_field_56 : decode zb_X_field 56 = .ok (.getfield 25, 3) := by decide +kernel
theorem zd_X_field_59 : decode zb_X_field 59 = .ok (.iload 5, 2) := by decide +kernel
theorem zd_X_field_61 : decode zb_X_field 61 = .ok (.lload_n 3, 1) := by decide +kernel
theorem zd_X_field_62 : decode zb_X_field 62 = .ok (.l2i, 1) := by decide +kernel
theorem zd_X_field_63 : decode zb_X_field 63 = .ok (.invokevirtual 99, 3) := by decide +kernel
theorem zd_X_field_66 : decode zb_X_field 66 = .ok (.iconst 1, 1) := by decide +kernel
theorem zd_X_field_67 : decode zb_X_field 67 = .ok (.ireturn, 1) := by decide +kernel
abbrev zy_X_value : MethodName := ⟨"DeclareForms", "value", "(II)J"⟩
abbrev zb_X_value : ByteArray := prog_1_method_6_code
theorem zh_X_value : zy_X_value.cls ≠ "java/lang/invoke/MethodHandle" ∧ zy_X_value.cls ≠ "java/lang/invoke/VarHandle" ∧ (parseMethodDescriptor zy_X_value.desc).map (fun d => d.parameters.length) = some 2 := by decide +kernel
theorem zd_X_value_0 : decode zb_X_value 0 = .ok (.aload_n 0, 1) := by decide +kernel
theorem zd_X_value_1 : decode zb_X_value 1 = .ok (.getfield 25, 3) := by decide +kernel
theorem zd_X_value_4 : decode zb_X_value 4 = .ok (.iload_n 1, 1) := by decide +kernel
theorem zd_X_value_5 : decode zb_X_value 5 = .ok (.iload_n 2, 1) := by decide +kernel
theorem zd_X_value_6 : decode zb_X_value 6 = .ok (.invokevirtual 84, 3) := by decide +kernel
theorem zd_X_value_9 : decode zb_X_value 9 = .ok (.istore_n 3, 1) := by decide +kernel
theorem zd_X_value_10 : decode zb_X_value 10 = .ok (.iload_n 3, 1) := by decide +kernel
theorem zd_X_value_11 : decode zb_X_value 11 = .ok (.iconst (-1), 1) := by decide +kernel
theorem zd_X_value_12 : decode zb_X_value 12 = .ok (.if_icmp .ne 13, 3) := by decide +kernel
theorem zd_X_value_15 : decode zb_X_value 15 = .ok (.new 91, 3) := by decide +kernel
theorem zd_X_value_18 : decode zb_X_value 18 = .ok (.dup, 1) := by decide +kernel
theorem zd_X_value_19 : decode zb_X_value 19 = .ok (.ldc 106, 2) := by decide +kernel
theorem zd_X_value_21 : decode zb_X_value 21 = .ok (.invokespecial 95, 3) := by decide +kernel
theorem zd_X_value_24 : decode zb_X_value 24 = .ok (.athrow, 1) := by decide +kernel
theorem zd_X_value_25 : decode zb_X_value 25 = .ok (.aload_n 0, 1) := by decide +kernel
theorem zd_X_value_26 : decode zb_X_value 26 = .ok (.getfield 25, 3) := by decide +kernel
theorem zd_X_value_29 : decode zb_X_value 29 = .ok (.iload_n 3, 1) := by decide +kernel
theorem zd_X_value_30 : decode zb_X_value 30 = .ok (.invokevirtual 103, 3) := by decide +kernel
theorem zd_X_value_33 : decode zb_X_value 33 = .ok (.i2l, 1) := by decide +kernel
theorem zd_X_value_34 : decode zb_X_value 34 = .ok (.lreturn, 1) := by decide +kernel
abbrev zy_X_need : MethodName := ⟨"DeclareForms", "need", "(I)I"⟩
abbrev zb_X_need : ByteArray := prog_1_method_7_code
theorem zh_X_need : zy_X_need.cls ≠ "java/lang/invoke/MethodHandle" ∧ zy_X_need.cls ≠ "java/lang/invoke/VarHandle" ∧ (parseMethodDescriptor zy_X_need.desc).map (fun d => d.parameters.length) = some 1 := by decide +kernel
theorem zd_X_need_0 : decode zb_X_need 0 = .ok (.iload_n 1, 1) := by decide +kernel
theorem zd_X_need_1 : decode zb_X_need 1 = .ok (.ifCond .lt 9, 3) := by decide +kernel
theorem zd_X_need_4 : decode zb_X_need 4 = .ok (.iload_n 1, 1) := by decide +kernel
theorem zd_X_need_5 : decode zb_X_need 5 = .ok (.bipush 19, 2) := by decide +kernel
theorem zd_X_need_7 : decode zb_X_need 7 = .ok (.if_icmp .le 13, 3) := by decide +kernel
theorem zd_X_need_10 : decode zb_X_need 10 = .ok (.new 91, 3) := by decide +kernel
theorem zd_X_need_13 : decode zb_X_need 13 = .ok (.dup, 1) := by decide +kernel
theorem zd_X_need_14 : decode zb_X_need 14 = .ok (.ldc 108, 2) := by decide +kernel
theorem zd_X_need_16 : decode zb_X_need 16 = .ok (.invokespecial 95, 3) := by decide +kernel
theorem zd_X_need_19 : decode zb_X_need 19 = .ok (.athrow, 1) := by decide +kernel
theorem zd_X_need_20 : decode zb_X_need 20 = .ok (.aload_n 0, 1) := by decide +kernel
theorem zd_X_need_21 : decode zb_X_need 21 = .ok (.getfield 18, 3) := by decide +kernel
theorem zd_X_need_24 : decode zb_X_need 24 = .ok (.iload_n 1, 1) := by decide +kernel
theorem zd_X_need_25 : decode zb_X_need 25 = .ok (.invokestatic 96, 3) := by decide +kernel
theorem zd_X_need_28 : decode zb_X_need 28 = .ok (.ireturn, 1) := by decide +kernel
abbrev zy_X_amend : MethodName := ⟨"DeclareForms", "amend", "(IIJ)I"⟩
abbrev zb_X_amend : ByteArray := prog_1_method_12_code
theorem zh_X_amend : zy_X_amend.cls ≠ "java/lang/invoke/MethodHandle" ∧ zy_X_amend.cls ≠ "java/lang/invoke/VarHandle" ∧ (parseMethodDescriptor zy_X_amend.desc).map (fun d => d.parameters.length) = some 3 := by decide +kernel
theorem zd_X_amend_0 : decode zb_X_amend 0 = .ok (.aload_n 0, 1) := by decide +kernel
theorem zd_X_amend_1 : decode zb_X_amend 1 = .ok (.getfield 25, 3) := by decide +kernel
theorem zd_X_amend_4 : decode zb_X_amend 4 = .ok (.iload_n 1, 1) := by decide +kernel
theorem zd_X_amend_5 : decode zb_X_amend 5 = .ok (.iload_n 2, 1) := by decide +kernel
theorem zd_X_amend_6 : decode zb_X_amend 6 = .ok (.invokevirtual 84, 3) := by decide +kernel
theorem zd_X_amend_9 : decode zb_X_amend 9 = .ok (.istore 5, 2) := by decide +kernel
theorem zd_X_amend_11 : decode zb_X_amend 11 = .ok (.iload 5, 2) := by decide +kernel
theorem zd_X_amend_13 : decode zb_X_amend 13 = .ok (.iconst (-1), 1) := by decide +kernel
theorem zd_X_amend_14 : decode zb_X_amend 14 = .ok (.if_icmp .eq 10, 3) := by decide +kernel
theorem zd_X_amend_17 : decode zb_X_amend 17 = .ok (.lload_n 3, 1) := by decide +kernel
theorem zd_X_amend_18 : decode zb_X_amend 18 = .ok (.invokestatic 87, 3) := by decide +kernel
theorem zd_X_amend_21 : decode zb_X_amend 21 = .ok (.ifCond .ne 13, 3) := by decide +kernel
theorem zd_X_amend_24 : decode zb_X_amend 24 = .ok (.new 91, 3) := by decide +kernel
theorem zd_X_amend_27 : decode zb_X_amend 27 = .ok (.dup, 1) := by decide +kernel
theorem zd_X_amend_28 : decode zb_X_amend 28 = .ok (.ldc 93, 2) := by decide +kernel
theorem zd_X_amend_30 : decode zb_X_amend 30 = .ok (.invokespecial 95, 3) := by decide +kernel
theorem zd_X_amend_33 : decode zb_X_amend 33 = .ok (.athrow, 1) := by decide +kernel
theorem zd_X_amend_34 : decode zb_X_amend 34 = .ok (.aload_n 0, 1) := by decide +kernel
theorem zd_X_amend_35 : decode zb_X_amend 35 = .ok (.getfield 53, 3) := by decide +kernel
theorem zd_X_amend_38 : decode zb_X_amend 38 = .ok (.ifCond .ne 13, 3) := by decide +kernel
theorem zd_X_amend_41 : decode zb_X_amend 41 = .ok (.new 61, 3) := by decide +kernel
theorem zd_X_amend_44 : decode zb_X_amend 44 = .ok (.dup, 1) := by decide +kernel
theorem zd_X_amend_45 : decode zb_X_amend 45 = .ok (.ldc 138, 2) := by decide +kernel
theorem zd_X_amend_47 : decode zb_X_amend 47 = .ok (.invokespecial 65, 3) := by decide +kernel
theorem zd_X_amend_50 : decode zb_X_amend 50 = .ok (.athrow, 1) := by decide +kernel
theorem zd_X_amend_51 : decode zb_X_amend 51 = .ok (.iload_n 1, 1) := by decide +kernel
theorem zd_X_amend_52 : decode zb_X_amend 52 = .ok (.iconst 3, 1) := by decide +kernel
theorem zd_X_amend_53 : decode zb_X_amend 53 = .ok (.irem, 1) := by decide +kernel
theorem zd_X_amend_54 : decode zb_X_amend 54 = .ok (.ifCond .eq 15, 3) := by decide +kernel
theorem zd_X_amend_57 : decode zb_X_amend 57 = .ok (.aload_n 0, 1) := by decide +kernel
theorem zd_X_amend_58 : decode zb_X_amend 58 = .ok (.getfield 18, 3) := by decide +kernel
theorem zd_X_amend_61 : decode zb_X_amend 61 = .ok (.iload_n 1, 1) := by decide +kernel
theorem zd_X_amend_62 : decode zb_X_amend 62 = .ok (.invokestatic 96, 3) := by decide +kernel
theorem zd_X_amend_65 : decode zb_X_amend 65 = .ok (.iconst 3, 1) := by decide +kernel
theorem zd_X_amend_66 : decode zb_X_amend 66 = .ok (.if_icmp .ne 5, 3) := by decide +kernel
theorem zd_X_amend_69 : decode zb_X_amend 69 = .ok (.iconst 0, 1) := by decide +kernel
theorem zd_X_amend_70 : decode zb_X_amend 70 = .ok (.ireturn, 1) := by decide +kernel
theorem zd_X_amend_71 : decode zb_X_amend 71 = .ok (.aload_n 0, 1) := by decide +kernel
theorem zd_X_amend_72 : decode zb_X_amend 72 = .ok (.getfield 25, 3) := by decide +kernel
theorem zd_X_amend_75 : decode zb_X_amend 75 = .ok (.iload 5, 2) := by decide +kernel
theorem zd_X_amend_77 : decode zb_X_amend 77 = .ok (.invokevirtual 103, 3) := by decide +kernel
theorem zd_X_amend_80 : decode zb_X_amend 80 = .ok (.istore 6, 2) := by decide +kernel
theorem zd_X_amend_82 : decode zb_X_amend 82 = .ok (.aload_n 0, 1) := by decide +kernel
theorem zd_X_amend_83 : decode zb_X_amend 83 = .ok (.getfield 25, 3) := by decide +kernel
theorem zd_X_amend_86 : decode zb_X_amend 86 = .ok (.iload 5, 2) := by decide +kernel
theorem zd_X_amend_88 : decode zb_X_amend 88 = .ok (.lload_n 3, 1) := by decide +kernel
theorem zd_X_amend_89 : decode zb_X_amend 89 = .ok (.l2i, 1) := by decide +kernel
theorem zd_X_amend_90 : decode zb_X_amend 90 = .ok (.invokevirtual 99, 3) := by decide +kernel
theorem zd_X_amend_93 : decode zb_X_amend 93 = .ok (.aload_n 0, 1) := by decide +kernel
theorem zd_X_amend_94 : decode zb_X_amend 94 = .ok (.invokevirtual 135, 3) := by decide +kernel
theorem zd_X_amend_97 : decode zb_X_amend 97 = .ok (.ifCond .eq 16, 3) := by decide +kernel
theorem zd_X_amend_100 : decode zb_X_amend 100 = .ok (.aload_n 0, 1) := by decide +kernel
theorem zd_X_amend_101 : decode zb_X_amend 101 = .ok (.getfield 25, 3) := by decide +kernel
theorem zd_X_amend_104 : decode zb_X_amend 104 = .ok (.iload 5, 2) := by decide +kernel
theorem zd_X_amend_106 : decode zb_X_amend 106 = .ok (.iload 6, 2) := by decide +kernel
theorem zd_X_amend_108 : decode zb_X_amend 108 = .ok (.invokevirtual 99, 3) := by decide +kernel
theorem zd_X_amend_111 : decode zb_X_amend 111 = .ok (.iconst 0, 1) := by decide +kernel
theorem zd_X_amend_112 : decode zb_X_amend 112 = .ok (.ireturn, 1) := by decide +kernel
theorem zd_X_amend_113 : decode zb_X_amend 113 = .ok (.iconst 1, 1) := by decide +kernel
theorem zd_X_amend_114 : decode zb_X_amend 114 = .ok (.ireturn, 1) := by decide +kernel
abbrev zy_X_draw : MethodName := ⟨"DeclareForms", "draw", "(III)I"⟩
abbrev zb_X_draw : ByteArray := prog_1_method_14_code
theorem zh_X_draw : zy_X_draw.cls ≠ "java/lang/invoke/MethodHandle" ∧ zy_X_draw.cls ≠ "java/lang/invoke/VarHandle" ∧ (parseMethodDescriptor zy_X_draw.desc).map (fun d => d.parameters.length) = some 3 := by decide +kernel
theorem zd_X_draw_0 : decode zb_X_draw 0 = .ok (.aload_n 0, 1) := by decide +kernel
theorem zd_X_draw_1 : decode zb_X_draw 1 = .ok (.getfield 39, 3) := by decide +kernel
theorem zd_X_draw_4 : decode zb_X_draw 4 = .ok (.iload_n 2, 1) := by decide +kernel
theorem zd_X_draw_5 : decode zb_X_draw 5 = .ok (.invokevirtual 143, 3) := by decide +kernel
theorem zd_X_draw_8 : decode zb_X_draw 8 = .ok (.istore 4, 2) := by decide +kernel
theorem zd_X_draw_10 : decode zb_X_draw 10 = .ok (.aload_n 0, 1) := by decide +kernel
theorem zd_X_draw_11 : decode zb_X_draw 11 = .ok (.getfield 25, 3) := by decide +kernel
theorem zd_X_draw_14 : decode zb_X_draw 14 = .ok (.iload_n 1, 1) := by decide +kernel
theorem zd_X_draw_15 : decode zb_X_draw 15 = .ok (.invokevirtual 72, 3) := by decide +kernel
theorem zd_X_draw_18 : decode zb_X_draw 18 = .ok (.ifCond .eq 20, 3) := by decide +kernel
theorem zd_X_draw_21 : decode zb_X_draw 21 = .ok (.iload 4, 2) := by decide +kernel
theorem zd_X_draw_23 : decode zb_X_draw 23 = .ok (.iconst (-1), 1) := by decide +kernel
theorem zd_X_draw_24 : decode zb_X_draw 24 = .ok (.if_icmp .eq 14, 3) := by decide +kernel
theorem zd_X_draw_27 : decode zb_X_draw 27 = .ok (.iload_n 3, 1) := by decide +kernel
theorem zd_X_draw_28 : decode zb_X_draw 28 = .ok (.iconst 1, 1) := by decide +kernel
theorem zd_X_draw_29 : decode zb_X_draw 29 = .ok (.if_icmp .lt 9, 3) := by decide +kernel
theorem zd_X_draw_32 : decode zb_X_draw 32 = .ok (.iload_n 3, 1) := by decide +kernel
theorem zd_X_draw_33 : decode zb_X_draw 33 = .ok (.ldc 118, 2) := by decide +kernel
theorem zd_X_draw_35 : decode zb_X_draw 35 = .ok (.if_icmp .le 13, 3) := by decide +kernel
theorem zd_X_draw_38 : decode zb_X_draw 38 = .ok (.new 91, 3) := by decide +kernel
theorem zd_X_draw_41 : decode zb_X_draw 41 = .ok (.dup, 1) := by decide +kernel
theorem zd_X_draw_42 : decode zb_X_draw 42 = .ok (.ldc 146, 2) := by decide +kernel
theorem zd_X_draw_44 : decode zb_X_draw 44 = .ok (.invokespecial 95, 3) := by decide +kernel
theorem zd_X_draw_47 : decode zb_X_draw 47 = .ok (.athrow, 1) := by decide +kernel
theorem zd_X_draw_48 : decode zb_X_draw 48 = .ok (.aload_n 0, 1) := by decide +kernel
theorem zd_X_draw_49 : decode zb_X_draw 49 = .ok (.getfield 53, 3) := by decide +kernel
theorem zd_X_draw_52 : decode zb_X_draw 52 = .ok (.ifCond .eq 7, 3) := by decide +kernel
theorem zd_X_draw_55 : decode zb_X_draw 55 = .ok (.iconst (-1), 1) := by decide +kernel
theorem zd_X_draw_56 : decode zb_X_draw 56 = .ok (.goto 14, 3) := by decide +kernel
theorem zd_X_draw_59 : decode zb_X_draw 59 = .ok (.aload_n 0, 1) := by decide +kernel
theorem zd_X_draw_60 : decode zb_X_draw 60 = .ok (.getfield 39, 3) := by decide +kernel
theorem zd_X_draw_63 : decode zb_X_draw 63 = .ok (.iload_n 1, 1) := by decide +kernel
theorem zd_X_draw_64 : decode zb_X_draw 64 = .ok (.iload 4, 2) := by decide +kernel
theorem zd_X_draw_66 : decode zb_X_draw 66 = .ok (.iload_n 3, 1) := by decide +kernel
theorem zd_X_draw_67 : decode zb_X_draw 67 = .ok (.invokevirtual 148, 3) := by decide +kernel
theorem zd_X_draw_70 : decode zb_X_draw 70 = .ok (.ireturn, 1) := by decide +kernel
abbrev zy_X_sum : MethodName := ⟨"DeclareForms", "sum", "(I)J"⟩
abbrev zb_X_sum : ByteArray := prog_1_method_15_code
theorem zh_X_sum : zy_X_sum.cls ≠ "java/lang/invoke/MethodHandle" ∧ zy_X_sum.cls ≠ "java/lang/invoke/VarHandle" ∧ (parseMethodDescriptor zy_X_sum.desc).map (fun d => d.parameters.length) = some 1 := by decide +kernel
theorem zd_X_sum_0 : decode zb_X_sum 0 = .ok (.iload_n 1, 1) := by decide +kernel
theorem zd_X_sum_1 : decode zb_X_sum 1 = .ok (.bipush 10, 2) := by decide +kernel
theorem zd_X_sum_3 : decode zb_X_sum 3 = .ok (.if_icmp .lt 9, 3) := by decide +kernel
theorem zd_X_sum_6 : decode zb_X_sum 6 = .ok (.iload_n 1, 1) := by decide +kernel
theorem zd_X_sum_7 : decode zb_X_sum 7 = .ok (.bipush 19, 2) := by decide +kernel
theorem zd_X_sum_9 : decode zb_X_sum 9 = .ok (.if_icmp .le 13, 3) := by decide +kernel
theorem zd_X_sum_12 : decode zb_X_sum 12 = .ok (.new 91, 3) := by decide +kernel
theorem zd_X_sum_15 : decode zb_X_sum 15 = .ok (.dup, 1) := by decide +kernel
theorem zd_X_sum_16 : decode zb_X_sum 16 = .ok (.ldc 152, 2) := by decide +kernel
theorem zd_X_sum_18 : decode zb_X_sum 18 = .ok (.invokespecial 95, 3) := by decide +kernel
theorem zd_X_sum_21 : decode zb_X_sum 21 = .ok (.athrow, 1) := by decide +kernel
theorem zd_X_sum_22 : decode zb_X_sum 22 = .ok (.aload_n 0, 1) := by decide +kernel
theorem zd_X_sum_23 : decode zb_X_sum 23 = .ok (.getfield 25, 3) := by decide +kernel
theorem zd_X_sum_26 : decode zb_X_sum 26 = .ok (.iload_n 1, 1) := by decide +kernel
theorem zd_X_sum_27 : decode zb_X_sum 27 = .ok (.invokevirtual 154, 3) := by decide +kernel
theorem zd_X_sum_30 : decode zb_X_sum 30 = .ok (.lreturn, 1) := by decide +kernel
abbrev zy_X_octet : MethodName := ⟨"DeclareForms", "octet", "(I)B"⟩
abbrev zb_X_octet : ByteArray := prog_1_method_17_code
theorem zh_X_octet : zy_X_octet.cls ≠ "java/lang/invoke/MethodHandle" ∧ zy_X_octet.cls ≠ "java/lang/invoke/VarHandle" ∧ (parseMethodDescriptor zy_X_octet.desc).map (fun d => d.parameters.length) = some 1 := by decide +kernel
theorem zd_X_octet_0 : decode zb_X_octet 0 = .ok (.iload_n 1, 1) := by decide +kernel
theorem zd_X_octet_1 : decode zb_X_octet 1 = .ok (.ifCond .lt 11, 3) := by decide +kernel
theorem zd_X_octet_4 : decode zb_X_octet 4 = .ok (.iload_n 1, 1) := by decide +kernel
theorem zd_X_octet_5 : decode zb_X_octet 5 = .ok (.aload_n 0, 1) := by decide +kernel
theorem zd_X_octet_6 : decode zb_X_octet 6 = .ok (.invokevirtual 161, 3) := by decide +kernel
theorem zd_X_octet_9 : decode zb_X_octet 9 = .ok (.if_icmp .lt 13, 3) := by decide +kernel
theorem zd_X_octet_12 : decode zb_X_octet 12 = .ok (.new 164, 3) := by decide +kernel
theorem zd_X_octet_15 : decode zb_X_octet 15 = .ok (.dup, 1) := by decide +kernel
theorem zd_X_octet_16 : decode zb_X_octet 16 = .ok (.ldc 166, 2) := by decide +kernel
theorem zd_X_octet_18 : decode zb_X_octet 18 = .ok (.invokespecial 168, 3) := by decide +kernel
theorem zd_X_octet_21 : decode zb_X_octet 21 = .ok (.athrow, 1) := by decide +kernel
theorem zd_X_octet_22 : decode zb_X_octet 22 = .ok (.iload_n 1, 1) := by decide +kernel
theorem zd_X_octet_23 : decode zb_X_octet 23 = .ok (.ifCond .ne 9, 3) := by decide +kernel
theorem zd_X_octet_26 : decode zb_X_octet 26 = .ok (.aload_n 0, 1) := by decide +kernel
theorem zd_X_octet_27 : decode zb_X_octet 27 = .ok (.getfield 18, 3) := by decide +kernel
theorem zd_X_octet_30 : decode zb_X_octet 30 = .ok (.i2b, 1) := by decide +kernel
theorem zd_X_octet_31 : decode zb_X_octet 31 = .ok (.ireturn, 1) := by decide +kernel
theorem zd_X_octet_32 : decode zb_X_octet 32 = .ok (.iload_n 1, 1) := by decide +kernel
theorem zd_X_octet_33 : decode zb_X_octet 33 = .ok (.iconst 3, 1) := by decide +kernel
theorem zd_X_octet_34 : decode zb_X_octet 34 = .ok (.if_icmp .ge 17, 3) := by decide +kernel
theorem zd_X_octet_37 : decode zb_X_octet 37 = .ok (.aload_n 0, 1) := by decide +kernel
theorem zd_X_octet_38 : decode zb_X_octet 38 = .ok (.getfield 25, 3) := by decide +kernel
theorem zd_X_octet_41 : decode zb_X_octet 41 = .ok (.invokevirtual 158, 3) := by decide +kernel
theorem zd_X_octet_44 : decode zb_X_octet 44 = .ok (.iconst 2, 1) := by decide +kernel
theorem zd_X_octet_45 : decode zb_X_octet 45 = .ok (.iload_n 1, 1) := by decide +kernel
theorem zd_X_octet_46 : decode zb_X_octet 46 = .ok (.isub, 1) := by decide +kernel
theorem zd_X_octet_47 : decode zb_X_octet 47 = .ok (.invokestatic 169, 3) := by decide +kernel
theorem zd_X_octet_50 : decode zb_X_octet 50 = .ok (.ireturn, 1) := by decide +kernel
theorem zd_X_octet_51 : decode zb_X_octet 51 = .ok (.aload_n 0, 1) := by decide +kernel
theorem zd_X_octet_52 : decode zb_X_octet 52 = .ok (.getfield 25, 3) := by decide +kernel
theorem zd_X_octet_55 : decode zb_X_octet 55 = .ok (.iload_n 1, 1) := by decide +kernel
theorem zd_X_octet_56 : decode zb_X_octet 56 = .ok (.iconst 3, 1) := by decide +kernel
theorem zd_X_octet_57 : decode zb_X_octet 57 = .ok (.isub, 1) := by decide +kernel
theorem zd_X_octet_58 : decode zb_X_octet 58 = .ok (.bipush 6, 2) := by decide +kernel
theorem zd_X_octet_60 : decode zb_X_octet 60 = .ok (.idiv, 1) := by decide +kernel
theorem zd_X_octet_61 : decode zb_X_octet 61 = .ok (.invokevirtual 173, 3) := by decide +kernel
theorem zd_X_octet_64 : decode zb_X_octet 64 = .ok (.istore_n 2, 1) := by decide +kernel
theorem zd_X_octet_65 : decode zb_X_octet 65 = .ok (.aload_n 0, 1) := by decide +kernel
theorem zd_X_octet_66 : decode zb_X_octet 66 = .ok (.iload_n 2, 1) := by decide +kernel
theorem zd_X_octet_67 : decode zb_X_octet 67 = .ok (.iload_n 1, 1) := by decide +kernel
theorem zd_X_octet_68 : decode zb_X_octet 68 = .ok (.iconst 3, 1) := by decide +kernel
theorem zd_X_octet_69 : decode zb_X_octet 69 = .ok (.isub, 1) := by decide +kernel
theorem zd_X_octet_70 : decode zb_X_octet 70 = .ok (.bipush 6, 2) := by decide +kernel
theorem zd_X_octet_72 : decode zb_X_octet 72 = .ok (.irem, 1) := by decide +kernel
theorem zd_X_octet_73 : decode zb_X_octet 73 = .ok (.invokevirtual 176, 3) := by decide +kernel
theorem zd_X_octet_76 : decode zb_X_octet 76 = .ok (.ireturn, 1) := by decide +kernel
abbrev zy_F_fill : MethodName := ⟨"java/util/Arrays", "fill", "([II)V"⟩
abbrev zb_F_fill : ByteArray := prog_16_method_103_code
theorem zh_F_fill : zy_F_fill.cls ≠ "java/lang/invoke/MethodHandle" ∧ zy_F_fill.cls ≠ "java/lang/invoke/VarHandle" ∧ (parseMethodDescriptor zy_F_fill.desc).map (fun d => d.parameters.length) = some 2 := by decide +kernel
theorem zd_F_fill_0 : decode zb_F_fill 0 = .ok (.iconst 0, 1) := by decide +kernel
theorem zd_F_fill_1 : decode zb_F_fill 1 = .ok (.istore_n 2, 1) := by decide +kernel
theorem zd_F_fill_2 : decode zb_F_fill 2 = .ok (.aload_n 0, 1) := by decide +kernel
theorem zd_F_fill_3 : decode zb_F_fill 3 = .ok (.arraylength, 1) := by decide +kernel
theorem zd_F_fill_4 : decode zb_F_fill 4 = .ok (.istore_n 3, 1) := by decide +kernel
theorem zd_F_fill_5 : decode zb_F_fill 5 = .ok (.iload_n 2, 1) := by decide +kernel
theorem zd_F_fill_6 : decode zb_F_fill 6 = .ok (.iload_n 3, 1) := by decide +kernel
theorem zd_F_fill_7 : decode zb_F_fill 7 = .ok (.if_icmp .ge 13, 3) := by decide +kernel
theorem zd_F_fill_10 : decode zb_F_fill 10 = .ok (.aload_n 0, 1) := by decide +kernel
theorem zd_F_fill_11 : decode zb_F_fill 11 = .ok (.iload_n 2, 1) := by decide +kernel
theorem zd_F_fill_12 : decode zb_F_fill 12 = .ok (.iload_n 1, 1) := by decide +kernel
theorem zd_F_fill_13 : decode zb_F_fill 13 = .ok (.iastore, 1) := by decide +kernel
theorem zd_F_fill_14 : decode zb_F_fill 14 = .ok (.iinc 2 1, 3) := by decide +kernel
theorem zd_F_fill_17 : decode zb_F_fill 17 = .ok (.goto (-12), 3) := by decide +kernel
theorem zd_F_fill_20 : decode zb_F_fill 20 = .ok (.return_, 1) := by decide +kernel
abbrev zy_S_init : MethodName := ⟨"DeclareForms$Sheet", "<init>", "()V"⟩
abbrev zb_S_init : ByteArray := prog_5_method_1_code
theorem zh_S_init : zy_S_init.cls ≠ "java/lang/invoke/MethodHandle" ∧ zy_S_init.cls ≠ "java/lang/invoke/VarHandle" ∧ (parseMethodDescriptor zy_S_init.desc).map (fun d => d.parameters.length) = some 0 := by decide +kernel
theorem zd_S_init_0 : decode zb_S_init 0 = .ok (.aload_n 0, 1) := by decide +kernel
theorem zd_S_init_1 : decode zb_S_init 1 = .ok (.invokespecial 3, 3) := by decide +kernel
theorem zd_S_init_4 : decode zb_S_init 4 = .ok (.aload_n 0, 1) := by decide +kernel
theorem zd_S_init_5 : decode zb_S_init 5 = .ok (.sipush 310, 3) := by decide +kernel
theorem zd_S_init_8 : decode zb_S_init 8 = .ok (.newarray .int, 2) := by decide +kernel
theorem zd_S_init_10 : decode zb_S_init 10 = .ok (.putfield 9, 3) := by decide +kernel
theorem zd_S_init_13 : decode zb_S_init 13 = .ok (.aload_n 0, 1) := by decide +kernel
theorem zd_S_init_14 : decode zb_S_init 14 = .ok (.bipush 31, 2) := by decide +kernel
theorem zd_S_init_16 : decode zb_S_init 16 = .ok (.newarray .boolean, 2) := by decide +kernel
theorem zd_S_init_18 : decode zb_S_init 18 = .ok (.putfield 15, 3) := by decide +kernel
theorem zd_S_init_21 : decode zb_S_init 21 = .ok (.aload_n 0, 1) := by decide +kernel
theorem zd_S_init_22 : decode zb_S_init 22 = .ok (.getfield 9, 3) := by decide +kernel
theorem zd_S_init_25 : decode zb_S_init 25 = .ok (.iconst (-1), 1) := by decide +kernel
theorem zd_S_init_26 : decode zb_S_init 26 = .ok (.invokestatic 19, 3) := by decide +kernel
theorem zd_S_init_29 : decode zb_S_init 29 = .ok (.return_, 1) := by decide +kernel
abbrev zy_C_init : MethodName := ⟨"DeclareForms$Codes", "<init>", "()V"⟩
abbrev zb_C_init : ByteArray := prog_2_method_1_code
theorem zh_C_init : zy_C_init.cls ≠ "java/lang/invoke/MethodHandle" ∧ zy_C_init.cls ≠ "java/lang/invoke/VarHandle" ∧ (parseMethodDescriptor zy_C_init.desc).map (fun d => d.parameters.length) = some 0 := by decide +kernel
theorem zd_C_init_0 : decode zb_C_init 0 = .ok (.aload_n 0, 1) := by decide +kernel
theorem zd_C_init_1 : decode zb_C_init 1 = .ok (.invokespecial 3, 3) := by decide +kernel
theorem zd_C_init_4 : decode zb_C_init 4 = .ok (.aload_n 0, 1) := by decide +kernel
theorem zd_C_init_5 : decode zb_C_init 5 = .ok (.bipush 20, 2) := by decide +kernel
theorem zd_C_init_7 : decode zb_C_init 7 = .ok (.newarray .int, 2) := by decide +kernel
theorem zd_C_init_9 : decode zb_C_init 9 = .ok (.putfield 9, 3) := by decide +kernel
theorem zd_C_init_12 : decode zb_C_init 12 = .ok (.aload_n 0, 1) := by decide +kernel
theorem zd_C_init_13 : decode zb_C_init 13 = .ok (.bipush 20, 2) := by decide +kernel
theorem zd_C_init_15 : decode zb_C_init 15 = .ok (.newarray .int, 2) := by decide +kernel
theorem zd_C_init_17 : decode zb_C_init 17 = .ok (.putfield 15, 3) := by decide +kernel
theorem zd_C_init_20 : decode zb_C_init 20 = .ok (.return_, 1) := by decide +kernel
abbrev zy_P_init : MethodName := ⟨"DeclareForms$Papers", "<init>", "()V"⟩
abbrev zb_P_init : ByteArray := prog_3_method_1_code
theorem zh_P_init : zy_P_init.cls ≠ "java/lang/invoke/MethodHandle" ∧ zy_P_init.cls ≠ "java/lang/invoke/VarHandle" ∧ (parseMethodDescriptor zy_P_init.desc).map (fun d => d.parameters.length) = some 0 := by decide +kernel
theorem zd_P_init_0 : decode zb_P_init 0 = .ok (.aload_n 0, 1) := by decide +kernel
theorem zd_P_init_1 : decode zb_P_init 1 = .ok (.invokespecial 3, 3) := by decide +kernel
theorem zd_P_init_4 : decode zb_P_init 4 = .ok (.aload_n 0, 1) := by decide +kernel
theorem zd_P_init_5 : decode zb_P_init 5 = .ok (.bipush 20, 2) := by decide +kernel
theorem zd_P_init_7 : decode zb_P_init 7 = .ok (.newarray .int, 2) := by decide +kernel
theorem zd_P_init_9 : decode zb_P_init 9 = .ok (.putfield 9, 3) := by decide +kernel
theorem zd_P_init_12 : decode zb_P_init 12 = .ok (.aload_n 0, 1) := by decide +kernel
theorem zd_P_init_13 : decode zb_P_init 13 = .ok (.bipush 20, 2) := by decide +kernel
theorem zd_P_init_15 : decode zb_P_init 15 = .ok (.newarray .int, 2) := by decide +kernel
theorem zd_P_init_17 : decode zb_P_init 17 = .ok (.putfield 15, 3) := by decide +kernel
theorem zd_P_init_20 : decode zb_P_init 20 = .ok (.aload_n 0, 1) := by decide +kernel
theorem zd_P_init_21 : decode zb_P_init 21 = .ok (.sipush 620, 3) := by decide +kernel
theorem zd_P_init_24 : decode zb_P_init 24 = .ok (.newarray .int, 2) := by decide +kernel
theorem zd_P_init_26 : decode zb_P_init 26 = .ok (.putfield 18, 3) := by decide +kernel
theorem zd_P_init_29 : decode zb_P_init 29 = .ok (.return_, 1) := by decide +kernel
abbrev zy_R_init : MethodName := ⟨"DeclareForms$Reader", "<init>", "()V"⟩
abbrev zb_R_init : ByteArray := prog_4_method_1_code
theorem zh_R_init : zy_R_init.cls ≠ "java/lang/invoke/MethodHandle" ∧ zy_R_init.cls ≠ "java/lang/invoke/VarHandle" ∧ (parseMethodDescriptor zy_R_init.desc).map (fun d => d.parameters.length) = some 0 := by decide +kernel
theorem zd_R_init_0 : decode zb_R_init 0 = .ok (.aload_n 0, 1) := by decide +kernel
theorem zd_R_init_1 : decode zb_R_init 1 = .ok (.invokespecial 3, 3) := by decide +kernel
theorem zd_R_init_4 : decode zb_R_init 4 = .ok (.return_, 1) := by decide +kernel
abbrev zy_X_init : MethodName := ⟨"DeclareForms", "<init>", "(I)V"⟩
abbrev zb_X_init : ByteArray := prog_1_method_1_code
theorem zh_X_init : zy_X_init.cls ≠ "java/lang/invoke/MethodHandle" ∧ zy_X_init.cls ≠ "java/lang/invoke/VarHandle" ∧ (parseMethodDescriptor zy_X_init.desc).map (fun d => d.parameters.length) = some 1 := by decide +kernel
theorem zd_X_init_0 : decode zb_X_init 0 = .ok (.aload_n 0, 1) := by decide +kernel
theorem zd_X_init_1 : decode zb_X_init 1 = .ok (.invokespecial 1, 3) := by decide +kernel
theorem zd_X_init_4 : decode zb_X_init 4 = .ok (.aload_n 0, 1) := by decide +kernel
theorem zd_X_init_5 : decode zb_X_init 5 = .ok (.iconst 0, 1) := by decide +kernel
theorem zd_X_init_6 : decode zb_X_init 6 = .ok (.iconst 3, 1) := by decide +kernel
theorem zd_X_init_7 : decode zb_X_init 7 = .ok (.iload_n 1, 1) := by decide +kernel
theorem zd_X_init_8 : decode zb_X_init 8 = .ok (.invokestatic 9, 3) := by decide +kernel
theorem zd_X_init_11 : decode zb_X_init 11 = .ok (.invokestatic 15, 3) := by decide +kernel
theorem zd_X_init_14 : decode zb_X_init 14 = .ok (.putfield 18, 3) := by decide +kernel
theorem zd_X_init_17 : decode zb_X_init 17 = .ok (.aload_n 0, 1) := by decide +kernel
theorem zd_X_init_18 : decode zb_X_init 18 = .ok (.new 22, 3) := by decide +kernel
theorem zd_X_init_21 : decode zb_X_init 21 = .ok (.dup, 1) := by decide +kernel
theorem zd_X_init_22 : decode zb_X_init 22 = .ok (.invokespecial 24, 3) := by decide +kernel
theorem zd_X_init_25 : decode zb_X_init 25 = .ok (.putfield 25, 3) := by decide +kernel
theorem zd_X_init_28 : decode zb_X_init 28 = .ok (.aload_n 0, 1) := by decide +kernel
theorem zd_X_init_29 : decode zb_X_init 29 = .ok (.new 29, 3) := by decide +kernel
theorem zd_X_init_32 : decode zb_X_init 32 = .ok (.dup, 1) := by decide +kernel
theorem zd_X_init_33 : decode zb_X_init 33 = .ok (.invokespecial 31, 3) := by decide +kernel
theorem zd_X_init_36 : decode zb_X_init 36 = .ok (.putfield 32, 3) := by decide +kernel
theorem zd_X_init_39 : decode zb_X_init 39 = .ok (.aload_n 0, 1) := by decide +kernel
theorem zd_X_init_40 : decode zb_X_init 40 = .ok (.new 36, 3) := by decide +kernel
theorem zd_X_init_43 : decode zb_X_init 43 = .ok (.dup, 1) := by decide +kernel
theorem zd_X_init_44 : decode zb_X_init 44 = .ok (.invokespecial 38, 3) := by decide +kernel
theorem zd_X_init_47 : decode zb_X_init 47 = .ok (.putfield 39, 3) := by decide +kernel
theorem zd_X_init_50 : decode zb_X_init 50 = .ok (.aload_n 0, 1) := by decide +kernel
theorem zd_X_init_51 : decode zb_X_init 51 = .ok (.new 43, 3) := by decide +kernel
theorem zd_X_init_54 : decode zb_X_init 54 = .ok (.dup, 1) := by decide +kernel
theorem zd_X_init_55 : decode zb_X_init 55 = .ok (.invokespecial 45, 3) := by decide +kernel
theorem zd_X_init_58 : decode zb_X_init 58 = .ok (.putfield 46, 3) := by decide +kernel
theorem zd_X_init_61 : decode zb_X_init 61 = .ok (.aload_n 0, 1) := by decide +kernel
theorem zd_X_init_62 : decode zb_X_init 62 = .ok (.iconst 0, 1) := by decide +kernel
theorem zd_X_init_63 : decode zb_X_init 63 = .ok (.putfield 50, 3) := by decide +kernel
theorem zd_X_init_66 : decode zb_X_init 66 = .ok (.aload_n 0, 1) := by decide +kernel
theorem zd_X_init_67 : decode zb_X_init 67 = .ok (.iconst 0, 1) := by decide +kernel
theorem zd_X_init_68 : decode zb_X_init 68 = .ok (.putfield 53, 3) := by decide +kernel
theorem zd_X_init_71 : decode zb_X_init 71 = .ok (.return_, 1) := by decide +kernel
def zz_nest : List (String × Nat × MethodName × String) := [("DeclareForms$Sheet", 51, ⟨"DeclareForms", "fieldOf", "(I)I"⟩, "DeclareForms"), ("DeclareForms$Sheet", 54, ⟨"DeclareForms", "needBy", "(II)I"⟩, "DeclareForms"), ("DeclareForms$Sheet", 47, ⟨"DeclareForms", "lineOf", "(I)I"⟩, "DeclareForms"), ("DeclareForms$Reader", 58, ⟨"DeclareForms", "needBy", "(II)I"⟩, "DeclareForms"), ("DeclareForms", 31, ⟨"DeclareForms$Codes", "<init>", "()V"⟩, "DeclareForms"), ("DeclareForms", 38, ⟨"DeclareForms$Papers", "<init>", "()V"⟩, "DeclareForms"), ("DeclareForms", 45, ⟨"DeclareForms$Reader", "<init>", "()V"⟩, "DeclareForms")]
def zz_strs : List (String × Nat × String) := [("DeclareForms", 63, "no further line"), ("DeclareForms", 93, "no such field, line or value"), ("DeclareForms", 106, "no such field or line"), ("DeclareForms", 108, "no such field"), ("DeclareForms", 138, "not lodged"), ("DeclareForms", 146, "no such line, paper or amount"), ("DeclareForms", 152, "no field of lines"), ("DeclareForms", 166, "no such byte")]
def zz_decl : List MethodName := [⟨"java/lang/RuntimeException", "<init>", "(Ljava/lang/String;)V"⟩, ⟨"java/lang/Exception", "<init>", "(Ljava/lang/String;)V"⟩, ⟨"java/lang/Throwable", "<init>", "(Ljava/lang/String;)V"⟩]
def zz_cast : List String := ["java/lang/IllegalStateException", "java/lang/IllegalArgumentException", "java/lang/IndexOutOfBoundsException"]
