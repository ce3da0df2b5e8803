abbrev zu_S : Type := (Nat → Int32) × (Nat → Int32) × Nat × Int32 × Int32
abbrev zu_C : Type := (Nat → Int32) × (Nat → Int32) × Nat
abbrev zu_P : Type := (Nat → Int32) × (Nat → Int32) × (Nat → Int32) × Nat
abbrev zu_R : Type := Int32 × Int32 × Int32 × Int32 × Int32 × Int32 × Int64 × Int32 × Int32
abbrev zu_X : Type := Int32 × zu_S × zu_C × zu_P × zu_R × Int32 × Int32
abbrev zu_F : Type := (Nat → Int32)
abbrev zu_H : Type := zu_X × (Nat → Int64)
abbrev zw_S (cI cZ cL : ClassId) (a0 a1 a2 : Nat) (st : zu_S) : va_W := [(a0, .inr (1, [.ref a1, .ref a2, .int (nI st.2.2.1), .int st.2.2.2.1, .int st.2.2.2.2])), (a1, .inl (cI, 310, .inl st.1)), (a2, .inl (cZ, 31, .inl st.2.1))]
abbrev zw_C (cI cZ cL : ClassId) (a0 a1 a2 : Nat) (st : zu_C) : va_W := [(a0, .inr (2, [.ref a1, .ref a2, .int (nI st.2.2)])), (a1, .inl (cI, 20, .inl st.1)), (a2, .inl (cI, 20, .inl st.2.1))]
abbrev zw_P (cI cZ cL : ClassId) (a0 a1 a2 a3 : Nat) (st : zu_P) : va_W := [(a0, .inr (3, [.ref a1, .ref a2, .ref a3, .int (nI st.2.2.2)])), (a1, .inl (cI, 20, .inl st.1)), (a2, .inl (cI, 20, .inl st.2.1)), (a3, .inl (cI, 620, .inl st.2.2.1))]
abbrev zw_R (cI cZ cL : ClassId) (a0 : Nat) (st : zu_R) : va_W := [(a0, .inr (4, [.int st.1, .int st.2.1, .int st.2.2.1, .int st.2.2.2.1, .int st.2.2.2.2.1, .int st.2.2.2.2.2.1, .long st.2.2.2.2.2.2.1, .int st.2.2.2.2.2.2.2.1, .int st.2.2.2.2.2.2.2.2]))]
abbrev zw_X (cI cZ cL : ClassId) (a0 a1 a2 a3 a4 a5 a6 a7 a8 a9 a10 a11 : Nat) (st : zu_X) : va_W := [(a0, .inr (0, [.int st.1, .ref a1, .ref a4, .ref a7, .ref a11, .int st.2.2.2.2.2.1, .int st.2.2.2.2.2.2])), (a1, .inr (1, [.ref a2, .ref a3, .int (nI st.2.1.2.2.1), .int st.2.1.2.2.2.1, .int st.2.1.2.2.2.2])), (a2, .inl (cI, 310, .inl st.2.1.1)), (a3, .inl (cZ, 31, .inl st.2.1.2.1)), (a4, .inr (2, [.ref a5, .ref a6, .int (nI st.2.2.1.2.2)])), (a5, .inl (cI, 20, .inl st.2.2.1.1)), (a6, .inl (cI, 20, .inl st.2.2.1.2.1)), (a7, .inr (3, [.ref a8, .ref a9, .ref a10, .int (nI st.2.2.2.1.2.2.2)])), (a8, .inl (cI, 20, .inl st.2.2.2.1.1)), (a9, .inl (cI, 20, .inl st.2.2.2.1.2.1)), (a10, .inl (cI, 620, .inl st.2.2.2.1.2.2.1)), (a11, .inr (4, [.int st.2.2.2.2.1.1, .int st.2.2.2.2.1.2.1, .int st.2.2.2.2.1.2.2.1, .int st.2.2.2.2.1.2.2.2.1, .int st.2.2.2.2.1.2.2.2.2.1, .int st.2.2.2.2.1.2.2.2.2.2.1, .long st.2.2.2.2.1.2.2.2.2.2.2.1, .int st.2.2.2.2.1.2.2.2.2.2.2.2.1, .int st.2.2.2.2.1.2.2.2.2.2.2.2.2]))]
abbrev zw_F (cI cZ cL : ClassId) (a0 : Nat) (st : zu_F) : va_W := [(a0, .inl (cI, 310, .inl st))]
abbrev zw_H (cI cZ cL : ClassId) (a0 a1 a2 a3 a4 a5 a6 a7 a8 a9 a10 a11 a12 : Nat) (st : zu_H) : va_W := [(a0, .inr (0, [.int st.1.1, .ref a1, .ref a4, .ref a7, .ref a11, .int st.1.2.2.2.2.2.1, .int st.1.2.2.2.2.2.2])), (a1, .inr (1, [.ref a2, .ref a3, .int (nI st.1.2.1.2.2.1), .int st.1.2.1.2.2.2.1, .int st.1.2.1.2.2.2.2])), (a2, .inl (cI, 310, .inl st.1.2.1.1)), (a3, .inl (cZ, 31, .inl st.1.2.1.2.1)), (a4, .inr (2, [.ref a5, .ref a6, .int (nI st.1.2.2.1.2.2)])), (a5, .inl (cI, 20, .inl st.1.2.2.1.1)), (a6, .inl (cI, 20, .inl st.1.2.2.1.2.1)), (a7, .inr (3, [.ref a8, .ref a9, .ref a10, .int (nI st.1.2.2.2.1.2.2.2)])), (a8, .inl (cI, 20, .inl st.1.2.2.2.1.1)), (a9, .inl (cI, 20, .inl st.1.2.2.2.1.2.1)), (a10, .inl (cI, 620, .inl st.1.2.2.2.1.2.2.1)), (a11, .inr (4, [.int st.1.2.2.2.2.1.1, .int st.1.2.2.2.2.1.2.1, .int st.1.2.2.2.2.1.2.2.1, .int st.1.2.2.2.2.1.2.2.2.1, .int st.1.2.2.2.2.1.2.2.2.2.1, .int st.1.2.2.2.2.1.2.2.2.2.2.1, .long st.1.2.2.2.2.1.2.2.2.2.2.2.1, .int st.1.2.2.2.2.1.2.2.2.2.2.2.2.1, .int st.1.2.2.2.2.1.2.2.2.2.2.2.2.2])), (a12, .inl (cL, 1, .inr (.inl st.2)))]
def zf_X_isValue (p0 : Int64) : Int32 :=
  if (lg_cmp p0 0) < 0 then 0
  else if 0 < (lg_cmp p0 1000000000) then 0
  else 1
theorem zo_X_isValue (p0 : Int64) : narrow .boolean (.int (zf_X_isValue p0)) = .int (zf_X_isValue p0) := by
  unfold zf_X_isValue
  by_cases h1 : (lg_cmp p0 0) < 0
  · rw [if_pos h1]
    exact narrow_b0
  · rw [if_neg h1]
    by_cases h2 : 0 < (lg_cmp p0 1000000000)
    · rw [if_pos h2]
      exact narrow_b0
    · rw [if_neg h2]
      exact narrow_b1
def zf_X_needBy (p0 : Int32) (p1 : Int32) : Int32 :=
  ((3 * p1) + (5 * p0)) - ((3 * p1) + (5 * p0)) / 4 * 4
def zf_X_lineOf (p0 : Int32) : Int32 :=
  p0 / 10
def zf_X_fieldOf (p0 : Int32) : Int32 :=
  if 10 ≤ p0 then 10 + (p0 - p0 / 10 * 10)
  else p0
def zf_X_placeOf (p0 : Int32) : Int32 :=
  (100 * (zf_X_lineOf p0)) + (zf_X_fieldOf p0)
def zf_X_byteOf (p0 : Int32) (p1 : Int32) : Int32 :=
  ((p0.toUInt32 >>> ((8 * p1).toUInt32 &&& Int32.toUInt32 31)).toInt32).toInt8.toInt32
theorem zo_X_byteOf (p0 : Int32) (p1 : Int32) : narrow .byte (.int (zf_X_byteOf p0 p1)) = .int (zf_X_byteOf p0 p1) := by
  unfold zf_X_byteOf
  exact (pk_nb _)
def zf_S_isFull (st : zu_S) : Int32 :=
  if (nI st.2.2.1) < 30 then 0
  else 1
theorem zo_S_isFull (st : zu_S) : narrow .boolean (.int (zf_S_isFull st)) = .int (zf_S_isFull st) := by
  unfold zf_S_isFull
  by_cases h3 : (nI st.2.2.1) < 30
  · rw [if_pos h3]
    exact narrow_b0
  · rw [if_neg h3]
    exact narrow_b1
def zf_S_hasLine (st : zu_S) (p1 : Int32) : Int32 :=
  if p1 < 1 then 0
  else if 30 < p1 then 0
  else if (st.2.1 p1.toNatClampNeg) = 0 then 0
  else 1
theorem zo_S_hasLine (st : zu_S) (p1 : Int32) : narrow .boolean (.int (zf_S_hasLine st p1)) = .int (zf_S_hasLine st p1) := by
  unfold zf_S_hasLine
  by_cases h4 : p1 < 1
  · rw [if_pos h4]
    exact narrow_b0
  · rw [if_neg h4]
    by_cases h5 : 30 < p1
    · rw [if_pos h5]
      exact narrow_b0
    · rw [if_neg h5]
      by_cases h6 : (st.2.1 p1.toNatClampNeg) = 0
      · rw [if_pos h6]
        exact narrow_b0
      · rw [if_neg h6]
        exact narrow_b1
def zf_S_lineCount (st : zu_S) : Int32 :=
  st.2.2.2.1
def zf_S_setCount (st : zu_S) : Int32 :=
  st.2.2.2.2
def zf_S_openLine (st : zu_S) : Int32 × zu_S :=
  if (zf_S_isFull st) = 0 then (nI (st.2.2.1 + 1), (st.1, (upd st.2.1 (nI (st.2.2.1 + 1)).toNatClampNeg 1), (st.2.2.1 + 1), st.2.2.2.1 + 1, st.2.2.2.2))
  else ((-1), st)
def zf_S_slotOf (st : zu_S) (p1 : Int32) (p2 : Int32) : Int32 :=
  if p1 < 0 then (-1)
  else if p1 ≤ 19 then (if 10 ≤ p1 then (if (zf_S_hasLine st p2) = 0 then (-1)
      else ((p2 * 10) + p1) - 10)
    else if p2 = 0 then p1
    else (-1))
  else (-1)
def zf_S_valueAt (st : zu_S) (p1 : Int32) : Int32 :=
  if p1 < 0 then (-1)
  else if p1 < 310 then st.1 p1.toNatClampNeg
  else (-1)
def zf_S_put (st : zu_S) (p1 : Int32) (p2 : Int32) : zu_S :=
  if p1 < 0 then st
  else if p1 < 310 then (if (st.1 p1.toNatClampNeg) = (-1) then (if p2 = (-1) then ((upd st.1 p1.toNatClampNeg p2), st.2.1, st.2.2.1, st.2.2.2.1, st.2.2.2.2)
      else ((upd st.1 p1.toNatClampNeg p2), st.2.1, st.2.2.1, st.2.2.2.1, st.2.2.2.2 + 1))
    else if p2 = (-1) then ((upd st.1 p1.toNatClampNeg p2), st.2.1, st.2.2.1, st.2.2.2.1, st.2.2.2.2 - 1)
    else ((upd st.1 p1.toNatClampNeg p2), st.2.1, st.2.2.1, st.2.2.2.1, (st.2.2.2.2 - 1) + 1))
  else st
def zf_S_dropLine_L17 (p1 : Int32) (x2 : Int32) : Nat → Nat → zu_S → Int32 × zu_S
  | 0, k, st => (x2 - st.2.2.2.2, (st.1, (upd st.2.1 p1.toNatClampNeg 0), st.2.2.1, st.2.2.2.1 - 1, st.2.2.2.2))
  | mm + 1, k, st => zf_S_dropLine_L17 p1 x2 mm (k + 1) (zf_S_put st ((p1 * 10) + (nI k)) (-1))
def zf_S_dropLine (st : zu_S) (p1 : Int32) : Int32 × zu_S :=
  if (zf_S_hasLine st p1) = 0 then ((-1), st)
  else zf_S_dropLine_L17 p1 st.2.2.2.2 10 0 st
def zf_S_firstMissing_L2 (st : zu_S) (p1 : Int32) : Nat → Nat → Int32
  | 0, k => (-1)
  | mm + 1, k => if (nI k) < 10 then (if (st.1 k) = (-1) then (if (zf_X_needBy p1 (zf_X_fieldOf (nI k))) = 0 then nI k
        else zf_S_firstMissing_L2 st p1 mm (k + 1))
      else zf_S_firstMissing_L2 st p1 mm (k + 1))
    else if (zf_S_hasLine st (zf_X_lineOf (nI k))) = 0 then zf_S_firstMissing_L2 st p1 mm (k + 1)
    else if (st.1 k) = (-1) then (if (zf_X_needBy p1 (zf_X_fieldOf (nI k))) = 0 then nI k
      else zf_S_firstMissing_L2 st p1 mm (k + 1))
    else zf_S_firstMissing_L2 st p1 mm (k + 1)
def zf_S_firstMissing (st : zu_S) (p1 : Int32) : Int32 :=
  zf_S_firstMissing_L2 st p1 310 0
def zf_S_total_L5 (st : zu_S) (p1 : Int32) : Nat → Nat → Int64 → Int64
  | 0, k, x2 => x2
  | mm + 1, k, x2 => zf_S_total_L5 st p1 mm (k + 1) (x2 + ((if 0 < (zf_S_valueAt st (zf_S_slotOf st p1 (nI k))) then (zf_S_valueAt st (zf_S_slotOf st p1 (nI k))) else 0).toInt64))
def zf_S_total (st : zu_S) (p1 : Int32) : Int64 :=
  zf_S_total_L5 st p1 30 1 0
def zf_S_sumIsWrong (st : zu_S) (p1 : Int32) (p2 : Int32) : Int32 :=
  if (zf_S_valueAt st (zf_S_slotOf st p1 0)) = (-1) then 0
  else if (lg_cmp ((zf_S_valueAt st (zf_S_slotOf st p1 0)).toInt64) (zf_S_total st p2)) = 0 then 0
  else 1
theorem zo_S_sumIsWrong (st : zu_S) (p1 : Int32) (p2 : Int32) : narrow .boolean (.int (zf_S_sumIsWrong st p1 p2)) = .int (zf_S_sumIsWrong st p1 p2) := by
  unfold zf_S_sumIsWrong
  by_cases h7 : (zf_S_valueAt st (zf_S_slotOf st p1 0)) = (-1)
  · rw [if_pos h7]
    exact narrow_b0
  · rw [if_neg h7]
    by_cases h8 : (lg_cmp ((zf_S_valueAt st (zf_S_slotOf st p1 0)).toInt64) (zf_S_total st p2)) = 0
    · rw [if_pos h8]
      exact narrow_b0
    · rw [if_neg h8]
      exact narrow_b1
def zf_S_setSlot_L4 (st : zu_S) (p1 : Int32) : Nat → Nat → Int32 → Int32
  | 0, k, x2 => (-1)
  | mm + 1, k, x2 => if (st.1 k) = (-1) then zf_S_setSlot_L4 st p1 mm (k + 1) x2
    else if x2 = p1 then nI k
    else zf_S_setSlot_L4 st p1 mm (k + 1) (x2 + 1)
def zf_S_setSlot (st : zu_S) (p1 : Int32) : Int32 :=
  zf_S_setSlot_L4 st p1 310 0 0
def zf_C_find_L2 (st : zu_C) (p1 : Int32) : Nat → Nat → Int32
  | 0, k => (-1)
  | mm + 1, k => if (st.1 k) = p1 then nI k
    else zf_C_find_L2 st p1 mm (k + 1)
def zf_C_find (st : zu_C) (p1 : Int32) : Int32 :=
  zf_C_find_L2 st p1 st.2.2 0
def zf_C_tell (st : zu_C) (p1 : Int32) (p2 : Int32) : Int32 × zu_C :=
  if (zf_C_find st p1) = (-1) then (if (nI st.2.2) < 20 then (1, ((upd st.1 st.2.2 p1), (upd st.2.1 st.2.2 p2), (st.2.2 + 1)))
    else (0, st))
  else (1, (st.1, (upd st.2.1 (zf_C_find st p1).toNatClampNeg p2), st.2.2))
theorem zo_C_tell (st : zu_C) (p1 : Int32) (p2 : Int32) : narrow .boolean (.int ((zf_C_tell st p1 p2).1)) = .int ((zf_C_tell st p1 p2).1) := by
  unfold zf_C_tell
  by_cases h9 : (zf_C_find st p1) = (-1)
  · rw [if_pos h9]
    by_cases h10 : (nI st.2.2) < 20
    · rw [if_pos h10]
      exact narrow_b1
    · rw [if_neg h10]
      exact narrow_b0
  · rw [if_neg h9]
    exact narrow_b1
def zf_C_isGood (st : zu_C) (p1 : Int32) (p2 : Int32) : Int32 :=
  if (zf_C_find st p1) = (-1) then 0
  else if (st.2.1 (zf_C_find st p1).toNatClampNeg) < p2 then 0
  else 1
theorem zo_C_isGood (st : zu_C) (p1 : Int32) (p2 : Int32) : narrow .boolean (.int (zf_C_isGood st p1 p2)) = .int (zf_C_isGood st p1 p2) := by
  unfold zf_C_isGood
  by_cases h11 : (zf_C_find st p1) = (-1)
  · rw [if_pos h11]
    exact narrow_b0
  · rw [if_neg h11]
    by_cases h12 : (st.2.1 (zf_C_find st p1).toNatClampNeg) < p2
    · rw [if_pos h12]
      exact narrow_b0
    · rw [if_neg h12]
      exact narrow_b1
def zf_C_goodCount_L4 (st : zu_C) (p1 : Int32) : Nat → Nat → Int32 → Int32
  | 0, k, x2 => x2
  | mm + 1, k, x2 => if (st.2.1 k) < p1 then zf_C_goodCount_L4 st p1 mm (k + 1) x2
    else zf_C_goodCount_L4 st p1 mm (k + 1) (x2 + 1)
def zf_C_goodCount (st : zu_C) (p1 : Int32) : Int32 :=
  zf_C_goodCount_L4 st p1 st.2.2 0 0
def zf_P_size (st : zu_P) : Int32 :=
  nI st.2.2.2
def zf_P_find_L2 (st : zu_P) (p1 : Int32) : Nat → Nat → Int32
  | 0, k => (-1)
  | mm + 1, k => if (st.1 k) = p1 then nI k
    else zf_P_find_L2 st p1 mm (k + 1)
def zf_P_find (st : zu_P) (p1 : Int32) : Int32 :=
  zf_P_find_L2 st p1 st.2.2.2 0
def zf_P_register (st : zu_P) (p1 : Int32) (p2 : Int32) : Int32 × zu_P :=
  if 20 ≤ (nI st.2.2.2) then (0, st)
  else if (zf_P_find st p1) = (-1) then (1, ((upd st.1 st.2.2.2 p1), (upd st.2.1 st.2.2.2 p2), st.2.2.1, (st.2.2.2 + 1)))
  else (0, st)
theorem zo_P_register (st : zu_P) (p1 : Int32) (p2 : Int32) : narrow .boolean (.int ((zf_P_register st p1 p2).1)) = .int ((zf_P_register st p1 p2).1) := by
  unfold zf_P_register
  by_cases h13 : 20 ≤ (nI st.2.2.2)
  · rw [if_pos h13]
    exact narrow_b0
  · rw [if_neg h13]
    by_cases h14 : (zf_P_find st p1) = (-1)
    · rw [if_pos h14]
      exact narrow_b1
    · rw [if_neg h14]
      exact narrow_b0
def zf_P_balanceOf (st : zu_P) (p1 : Int32) : Int32 :=
  if (zf_P_find st p1) = (-1) then (-1)
  else st.2.1 (zf_P_find st p1).toNatClampNeg
def zf_P_take (st : zu_P) (p1 : Int32) (p2 : Int32) (p3 : Int32) : Int32 × zu_P :=
  if p1 < 0 then ((-1), st)
  else if 30 < p1 then ((-1), st)
  else if p2 < 0 then ((-1), st)
  else if (nI st.2.2.2) ≤ p2 then ((-1), st)
  else if p3 ≤ (st.2.1 p2.toNatClampNeg) then ((upd st.2.1 p2.toNatClampNeg ((st.2.1 p2.toNatClampNeg) - p3)) p2.toNatClampNeg, (st.1, (upd st.2.1 p2.toNatClampNeg ((st.2.1 p2.toNatClampNeg) - p3)), (upd st.2.2.1 ((p1 * 20) + p2).toNatClampNeg ((st.2.2.1 ((p1 * 20) + p2).toNatClampNeg) + p3)), st.2.2.2))
  else ((-1), st)
def zf_P_giveBack_L13 (p1 : Int32) : Nat → Nat → zu_P → zu_P
  | 0, k, st => st
  | mm + 1, k, st => zf_P_giveBack_L13 p1 mm (k + 1) (st.1, (upd st.2.1 k ((st.2.1 k) + (st.2.2.1 ((p1 * 20) + (nI k)).toNatClampNeg))), st.2.2.1, st.2.2.2)
def zf_P_giveBack (st : zu_P) (p1 : Int32) : zu_P :=
  if p1 < 0 then st
  else if p1 ≤ 30 then zf_P_giveBack_L13 p1 st.2.2.2 0 st
  else st
def zf_R_wholeRows (st : zu_R) : Int32 :=
  st.2.2.2.2.2.2.2.1
def zf_R_latestFields (st : zu_R) : Int32 :=
  st.2.2.2.2.2.2.2.2
def zf_R_takeKind (st : zu_R) (p1 : Int32) : Int32 × zu_R :=
  if 3 < p1 then (0, (st.1, p1, st.2.2.1, st.2.2.2.1, st.2.2.2.2.1, (-1), st.2.2.2.2.2.2.1, st.2.2.2.2.2.2.2.1, st.2.2.2.2.2.2.2.2))
  else (1, (st.1, p1, st.2.2.1, st.2.2.2.1, st.2.2.2.2.1, (-1), st.2.2.2.2.2.2.1, st.2.2.2.2.2.2.2.1, st.2.2.2.2.2.2.2.2))
theorem zo_R_takeKind (st : zu_R) (p1 : Int32) : narrow .boolean (.int ((zf_R_takeKind st p1).1)) = .int ((zf_R_takeKind st p1).1) := by
  unfold zf_R_takeKind
  by_cases h15 : 3 < p1
  · rw [if_pos h15]
    exact narrow_b0
  · rw [if_neg h15]
    exact narrow_b1
def zf_R_takeHigher (st : zu_R) (p1 : Int32) : Int32 × zu_R :=
  if 610 < (p1 * 256) then (0, (st.1, st.2.1, p1 * 256, st.2.2.2.1, st.2.2.2.2.1, st.2.2.2.2.2.1, st.2.2.2.2.2.2.1, st.2.2.2.2.2.2.2.1, st.2.2.2.2.2.2.2.2))
  else (1, (st.1, st.2.1, p1 * 256, st.2.2.2.1, st.2.2.2.2.1, st.2.2.2.2.2.1, st.2.2.2.2.2.2.1, st.2.2.2.2.2.2.2.1, st.2.2.2.2.2.2.2.2))
theorem zo_R_takeHigher (st : zu_R) (p1 : Int32) : narrow .boolean (.int ((zf_R_takeHigher st p1).1)) = .int ((zf_R_takeHigher st p1).1) := by
  unfold zf_R_takeHigher
  by_cases h16 : 610 < (p1 * 256)
  · rw [if_pos h16]
    exact narrow_b0
  · rw [if_neg h16]
    exact narrow_b1
def zf_R_takeLower (st : zu_R) (p1 : Int32) : Int32 × zu_R :=
  if 610 < (st.2.2.1 + p1) then (0, (st.1, st.2.1, st.2.2.1 + p1, st.2.2.1 + p1, st.2.2.2.2.1, st.2.2.2.2.2.1, st.2.2.2.2.2.2.1, st.2.2.2.2.2.2.2.1, st.2.2.2.2.2.2.2.2))
  else (1, (st.1, st.2.1, st.2.2.1 + p1, st.2.2.1 + p1, st.2.2.2.2.1, st.2.2.2.2.2.1, st.2.2.2.2.2.2.1, st.2.2.2.2.2.2.2.1, st.2.2.2.2.2.2.2.2))
theorem zo_R_takeLower (st : zu_R) (p1 : Int32) : narrow .boolean (.int ((zf_R_takeLower st p1).1)) = .int ((zf_R_takeLower st p1).1) := by
  unfold zf_R_takeLower
  by_cases h17 : 610 < (st.2.2.1 + p1)
  · rw [if_pos h17]
    exact narrow_b0
  · rw [if_neg h17]
    exact narrow_b1
def zf_R_takeField (st : zu_R) (p1 : Int32) : Int32 × zu_R :=
  if 19 < p1 then (0, (st.1, st.2.1, st.2.2.1, st.2.2.2.1, p1, st.2.2.2.2.2.1, st.2.2.2.2.2.2.1, st.2.2.2.2.2.2.2.1, st.2.2.2.2.2.2.2.2))
  else if (zf_X_needBy st.2.1 p1) = 3 then (0, (st.1, st.2.1, st.2.2.1, st.2.2.2.1, p1, st.2.2.2.2.2.1, st.2.2.2.2.2.2.1, st.2.2.2.2.2.2.2.1, st.2.2.2.2.2.2.2.2))
  else (1, (st.1, st.2.1, st.2.2.1, st.2.2.2.1, p1, st.2.2.2.2.2.1, st.2.2.2.2.2.2.1, st.2.2.2.2.2.2.2.1, st.2.2.2.2.2.2.2.2))
theorem zo_R_takeField (st : zu_R) (p1 : Int32) : narrow .boolean (.int ((zf_R_takeField st p1).1)) = .int ((zf_R_takeField st p1).1) := by
  unfold zf_R_takeField
  by_cases h18 : 19 < p1
  · rw [if_pos h18]
    exact narrow_b0
  · rw [if_neg h18]
    by_cases h19 : (zf_X_needBy st.2.1 p1) = 3
    · rw [if_pos h19]
      exact narrow_b0
    · rw [if_neg h19]
      exact narrow_b1
def zf_R_takeLine (st : zu_R) (p1 : Int32) : Int32 × zu_R :=
  if 10 ≤ st.2.2.2.2.1 then (if p1 < 1 then (if ((p1 * 10) + (st.2.2.2.2.1 - st.2.2.2.2.1 / 10 * 10)) ≤ st.2.2.2.2.2.1 then (0, (st.1, st.2.1, st.2.2.1, st.2.2.2.1, st.2.2.2.2.1, (p1 * 10) + (st.2.2.2.2.1 - st.2.2.2.2.1 / 10 * 10), 0, st.2.2.2.2.2.2.2.1, st.2.2.2.2.2.2.2.2))
      else (0, (st.1, st.2.1, st.2.2.1, st.2.2.2.1, st.2.2.2.2.1, (p1 * 10) + (st.2.2.2.2.1 - st.2.2.2.2.1 / 10 * 10), 0, st.2.2.2.2.2.2.2.1, st.2.2.2.2.2.2.2.2)))
    else if 30 < p1 then (if ((p1 * 10) + (st.2.2.2.2.1 - st.2.2.2.2.1 / 10 * 10)) ≤ st.2.2.2.2.2.1 then (0, (st.1, st.2.1, st.2.2.1, st.2.2.2.1, st.2.2.2.2.1, (p1 * 10) + (st.2.2.2.2.1 - st.2.2.2.2.1 / 10 * 10), 0, st.2.2.2.2.2.2.2.1, st.2.2.2.2.2.2.2.2))
      else (0, (st.1, st.2.1, st.2.2.1, st.2.2.2.1, st.2.2.2.2.1, (p1 * 10) + (st.2.2.2.2.1 - st.2.2.2.2.1 / 10 * 10), 0, st.2.2.2.2.2.2.2.1, st.2.2.2.2.2.2.2.2)))
    else if ((p1 * 10) + (st.2.2.2.2.1 - st.2.2.2.2.1 / 10 * 10)) ≤ st.2.2.2.2.2.1 then (0, (st.1, st.2.1, st.2.2.1, st.2.2.2.1, st.2.2.2.2.1, (p1 * 10) + (st.2.2.2.2.1 - st.2.2.2.2.1 / 10 * 10), 0, st.2.2.2.2.2.2.2.1, st.2.2.2.2.2.2.2.2))
    else (1, (st.1, st.2.1, st.2.2.1, st.2.2.2.1, st.2.2.2.2.1, (p1 * 10) + (st.2.2.2.2.1 - st.2.2.2.2.1 / 10 * 10), 0, st.2.2.2.2.2.2.2.1, st.2.2.2.2.2.2.2.2)))
  else if p1 = 0 then (if ((p1 * 10) + (st.2.2.2.2.1 - st.2.2.2.2.1 / 10 * 10)) ≤ st.2.2.2.2.2.1 then (0, (st.1, st.2.1, st.2.2.1, st.2.2.2.1, st.2.2.2.2.1, (p1 * 10) + (st.2.2.2.2.1 - st.2.2.2.2.1 / 10 * 10), 0, st.2.2.2.2.2.2.2.1, st.2.2.2.2.2.2.2.2))
    else (1, (st.1, st.2.1, st.2.2.1, st.2.2.2.1, st.2.2.2.2.1, (p1 * 10) + (st.2.2.2.2.1 - st.2.2.2.2.1 / 10 * 10), 0, st.2.2.2.2.2.2.2.1, st.2.2.2.2.2.2.2.2)))
  else if ((p1 * 10) + (st.2.2.2.2.1 - st.2.2.2.2.1 / 10 * 10)) ≤ st.2.2.2.2.2.1 then (0, (st.1, st.2.1, st.2.2.1, st.2.2.2.1, st.2.2.2.2.1, (p1 * 10) + (st.2.2.2.2.1 - st.2.2.2.2.1 / 10 * 10), 0, st.2.2.2.2.2.2.2.1, st.2.2.2.2.2.2.2.2))
  else (0, (st.1, st.2.1, st.2.2.1, st.2.2.2.1, st.2.2.2.2.1, (p1 * 10) + (st.2.2.2.2.1 - st.2.2.2.2.1 / 10 * 10), 0, st.2.2.2.2.2.2.2.1, st.2.2.2.2.2.2.2.2))
theorem zo_R_takeLine (st : zu_R) (p1 : Int32) : narrow .boolean (.int ((zf_R_takeLine st p1).1)) = .int ((zf_R_takeLine st p1).1) := by
  unfold zf_R_takeLine
  by_cases h20 : 10 ≤ st.2.2.2.2.1
  · rw [if_pos h20]
    by_cases h21 : p1 < 1
    · rw [if_pos h21]
      by_cases h22 : ((p1 * 10) + (st.2.2.2.2.1 - st.2.2.2.2.1 / 10 * 10)) ≤ st.2.2.2.2.2.1
      · rw [if_pos h22]
        exact narrow_b0
      · rw [if_neg h22]
        exact narrow_b0
    · rw [if_neg h21]
      by_cases h23 : 30 < p1
      · rw [if_pos h23]
        by_cases h24 : ((p1 * 10) + (st.2.2.2.2.1 - st.2.2.2.2.1 / 10 * 10)) ≤ st.2.2.2.2.2.1
        · rw [if_pos h24]
          exact narrow_b0
        · rw [if_neg h24]
          exact narrow_b0
      · rw [if_neg h23]
        by_cases h25 : ((p1 * 10) + (st.2.2.2.2.1 - st.2.2.2.2.1 / 10 * 10)) ≤ st.2.2.2.2.2.1
        · rw [if_pos h25]
          exact narrow_b0
        · rw [if_neg h25]
          exact narrow_b1
  · rw [if_neg h20]
    by_cases h26 : p1 = 0
    · rw [if_pos h26]
      by_cases h27 : ((p1 * 10) + (st.2.2.2.2.1 - st.2.2.2.2.1 / 10 * 10)) ≤ st.2.2.2.2.2.1
      · rw [if_pos h27]
        exact narrow_b0
      · rw [if_neg h27]
        exact narrow_b1
    · rw [if_neg h26]
      by_cases h28 : ((p1 * 10) + (st.2.2.2.2.1 - st.2.2.2.2.1 / 10 * 10)) ≤ st.2.2.2.2.2.1
      · rw [if_pos h28]
        exact narrow_b0
      · rw [if_neg h28]
        exact narrow_b0
def zf_R_takeValue (st : zu_R) (p1 : Int32) : Int32 × zu_R :=
  if st.1 = 8 then (if 0 < (lg_cmp ((st.2.2.2.2.2.2.1 * 256) + p1.toInt64) 1000000000) then (0, (st.1, st.2.1, st.2.2.1, st.2.2.2.1, st.2.2.2.2.1, st.2.2.2.2.2.1, (st.2.2.2.2.2.2.1 * 256) + p1.toInt64, st.2.2.2.2.2.2.2.1, st.2.2.2.2.2.2.2.2))
    else (1, (st.1, st.2.1, st.2.2.1, st.2.2.2.1, st.2.2.2.2.1, st.2.2.2.2.2.1, (st.2.2.2.2.2.2.1 * 256) + p1.toInt64, st.2.2.2.2.2.2.2.1, st.2.2.2.2.2.2.2.2)))
  else (1, (st.1, st.2.1, st.2.2.1, st.2.2.2.1, st.2.2.2.2.1, st.2.2.2.2.2.1, (st.2.2.2.2.2.2.1 * 256) + p1.toInt64, st.2.2.2.2.2.2.2.1, st.2.2.2.2.2.2.2.2))
theorem zo_R_takeValue (st : zu_R) (p1 : Int32) : narrow .boolean (.int ((zf_R_takeValue st p1).1)) = .int ((zf_R_takeValue st p1).1) := by
  unfold zf_R_takeValue
  by_cases h29 : st.1 = 8
  · rw [if_pos h29]
    by_cases h30 : 0 < (lg_cmp ((st.2.2.2.2.2.2.1 * 256) + p1.toInt64) 1000000000)
    · rw [if_pos h30]
      exact narrow_b0
    · rw [if_neg h30]
      exact narrow_b1
  · rw [if_neg h29]
    exact narrow_b1
def zf_R_stands (st : zu_R) (p1 : Int32) : Int32 × zu_R :=
  if st.1 = 0 then ((zf_R_takeKind st p1).1, (zf_R_takeKind st p1).2)
  else if st.1 = 1 then ((zf_R_takeHigher st p1).1, (zf_R_takeHigher st p1).2)
  else if st.1 = 2 then ((zf_R_takeLower st p1).1, (zf_R_takeLower st p1).2)
  else if st.1 = 3 then ((zf_R_takeField st p1).1, (zf_R_takeField st p1).2)
  else if st.1 = 4 then ((zf_R_takeLine st p1).1, (zf_R_takeLine st p1).2)
  else ((zf_R_takeValue st p1).1, (zf_R_takeValue st p1).2)
theorem zo_R_stands (st : zu_R) (p1 : Int32) : narrow .boolean (.int ((zf_R_stands st p1).1)) = .int ((zf_R_stands st p1).1) := by
  unfold zf_R_stands
  by_cases h31 : st.1 = 0
  · rw [if_pos h31]
    exact (zo_R_takeKind st p1)
  · rw [if_neg h31]
    by_cases h32 : st.1 = 1
    · rw [if_pos h32]
      exact (zo_R_takeHigher st p1)
    · rw [if_neg h32]
      by_cases h33 : st.1 = 2
      · rw [if_pos h33]
        exact (zo_R_takeLower st p1)
      · rw [if_neg h33]
        by_cases h34 : st.1 = 3
        · rw [if_pos h34]
          exact (zo_R_takeField st p1)
        · rw [if_neg h34]
          by_cases h35 : st.1 = 4
          · rw [if_pos h35]
            exact (zo_R_takeLine st p1)
          · rw [if_neg h35]
            exact (zo_R_takeValue st p1)
def zf_R_accept (st : zu_R) (p1 : Int32) : Int32 × zu_R :=
  if ((zf_R_stands st p1).1) = 0 then ((-1), (0, ((zf_R_stands st p1).2).2.1, ((zf_R_stands st p1).2).2.2.1, ((zf_R_stands st p1).2).2.2.2.1, ((zf_R_stands st p1).2).2.2.2.2.1, ((zf_R_stands st p1).2).2.2.2.2.2.1, ((zf_R_stands st p1).2).2.2.2.2.2.2.1, ((zf_R_stands st p1).2).2.2.2.2.2.2.2.1, ((zf_R_stands st p1).2).2.2.2.2.2.2.2.2))
  else if (((zf_R_stands st p1).2).1) = 8 then (if (((zf_R_stands st p1).2).1) = 2 then (if ((((zf_R_stands st p1).2).2.2.2.1) - 1) = 0 then (1, (0, ((zf_R_stands st p1).2).2.1, ((zf_R_stands st p1).2).2.2.1, (((zf_R_stands st p1).2).2.2.2.1) - 1, ((zf_R_stands st p1).2).2.2.2.2.1, ((zf_R_stands st p1).2).2.2.2.2.2.1, ((zf_R_stands st p1).2).2.2.2.2.2.2.1, (((zf_R_stands st p1).2).2.2.2.2.2.2.2.1) + 1, ((zf_R_stands st p1).2).2.2.1))
      else (0, (3, ((zf_R_stands st p1).2).2.1, ((zf_R_stands st p1).2).2.2.1, (((zf_R_stands st p1).2).2.2.2.1) - 1, ((zf_R_stands st p1).2).2.2.2.2.1, ((zf_R_stands st p1).2).2.2.2.2.2.1, ((zf_R_stands st p1).2).2.2.2.2.2.2.1, ((zf_R_stands st p1).2).2.2.2.2.2.2.2.1, ((zf_R_stands st p1).2).2.2.2.2.2.2.2.2)))
    else if ((((zf_R_stands st p1).2).2.2.2.1) - 1) = 0 then (1, (0, ((zf_R_stands st p1).2).2.1, ((zf_R_stands st p1).2).2.2.1, (((zf_R_stands st p1).2).2.2.2.1) - 1, ((zf_R_stands st p1).2).2.2.2.2.1, ((zf_R_stands st p1).2).2.2.2.2.2.1, ((zf_R_stands st p1).2).2.2.2.2.2.2.1, (((zf_R_stands st p1).2).2.2.2.2.2.2.2.1) + 1, ((zf_R_stands st p1).2).2.2.1))
    else (0, (3, ((zf_R_stands st p1).2).2.1, ((zf_R_stands st p1).2).2.2.1, (((zf_R_stands st p1).2).2.2.2.1) - 1, ((zf_R_stands st p1).2).2.2.2.2.1, ((zf_R_stands st p1).2).2.2.2.2.2.1, ((zf_R_stands st p1).2).2.2.2.2.2.2.1, ((zf_R_stands st p1).2).2.2.2.2.2.2.2.1, ((zf_R_stands st p1).2).2.2.2.2.2.2.2.2)))
  else if (((zf_R_stands st p1).2).1) = 2 then (if (((zf_R_stands st p1).2).2.2.2.1) = 0 then (1, (0, ((zf_R_stands st p1).2).2.1, ((zf_R_stands st p1).2).2.2.1, ((zf_R_stands st p1).2).2.2.2.1, ((zf_R_stands st p1).2).2.2.2.2.1, ((zf_R_stands st p1).2).2.2.2.2.2.1, ((zf_R_stands st p1).2).2.2.2.2.2.2.1, (((zf_R_stands st p1).2).2.2.2.2.2.2.2.1) + 1, ((zf_R_stands st p1).2).2.2.1))
    else (0, ((((zf_R_stands st p1).2).1) + 1, ((zf_R_stands st p1).2).2.1, ((zf_R_stands st p1).2).2.2.1, ((zf_R_stands st p1).2).2.2.2.1, ((zf_R_stands st p1).2).2.2.2.2.1, ((zf_R_stands st p1).2).2.2.2.2.2.1, ((zf_R_stands st p1).2).2.2.2.2.2.2.1, ((zf_R_stands st p1).2).2.2.2.2.2.2.2.1, ((zf_R_stands st p1).2).2.2.2.2.2.2.2.2)))
  else (0, ((((zf_R_stands st p1).2).1) + 1, ((zf_R_stands st p1).2).2.1, ((zf_R_stands st p1).2).2.2.1, ((zf_R_stands st p1).2).2.2.2.1, ((zf_R_stands st p1).2).2.2.2.2.1, ((zf_R_stands st p1).2).2.2.2.2.2.1, ((zf_R_stands st p1).2).2.2.2.2.2.2.1, ((zf_R_stands st p1).2).2.2.2.2.2.2.2.1, ((zf_R_stands st p1).2).2.2.2.2.2.2.2.2))
def zf_X_firstWithoutGoodCode_L2 (st : zu_X) : Nat → Nat → Int32
  | 0, k => (-1)
  | mm + 1, k => if (zf_S_valueAt st.2.1 (zf_S_slotOf st.2.1 10 (nI k))) = (-1) then zf_X_firstWithoutGoodCode_L2 st mm (k + 1)
    else if (zf_C_isGood st.2.2.1 (zf_S_valueAt st.2.1 (zf_S_slotOf st.2.1 10 (nI k))) st.2.2.2.2.2.1) = 0 then (zf_S_slotOf st.2.1 10 (nI k))
    else zf_X_firstWithoutGoodCode_L2 st mm (k + 1)
def zf_X_firstWithoutGoodCode (st : zu_X) : Int32 :=
  zf_X_firstWithoutGoodCode_L2 st 30 1
def zf_X_check (st : zu_X) : Int32 :=
  if (zf_S_firstMissing st.2.1 st.1) = (-1) then (if (zf_S_sumIsWrong st.2.1 2 12) = 0 then (if (zf_S_sumIsWrong st.2.1 3 13) = 0 then (if (zf_X_firstWithoutGoodCode st) = (-1) then (if (zf_S_lineCount st.2.1) = 0 then 5000000
          else 0)
        else 4000000 + (zf_X_placeOf (zf_X_firstWithoutGoodCode st)))
      else 3000000)
    else 2000000)
  else 1000000 + (zf_X_placeOf (zf_S_firstMissing st.2.1 st.1))
def zf_X_pack (st : zu_X) : Int32 :=
  3 + (6 * (zf_S_setCount st.2.1))
def zf_X_packedByte (st : zu_X) (p1 : Int32) (p2 : Int32) : Int32 :=
  if p2 = 0 then (zf_X_fieldOf p1).toInt8.toInt32
  else if p2 = 1 then (zf_X_lineOf p1).toInt8.toInt32
  else (zf_X_byteOf (zf_S_valueAt st.2.1 p1) (5 - p2))
theorem zo_X_packedByte (st : zu_X) (p1 : Int32) (p2 : Int32) : narrow .byte (.int (zf_X_packedByte st p1 p2)) = .int (zf_X_packedByte st p1 p2) := by
  unfold zf_X_packedByte
  by_cases h36 : p2 = 0
  · rw [if_pos h36]
    exact (pk_nb _)
  · rw [if_neg h36]
    by_cases h37 : p2 = 1
    · rw [if_pos h37]
      exact (pk_nb _)
    · rw [if_neg h37]
      exact (zo_X_byteOf (zf_S_valueAt st.2.1 p1) (5 - p2))
def zf_X_remove (st : zu_X) (p1 : Int32) : Int32 × zu_X :=
  if st.2.2.2.2.2.2 = 0 then (if (zf_S_hasLine st.2.1 p1) = 0 then ((-1), st)
    else ((zf_S_dropLine st.2.1 p1).1, (st.1, (zf_S_dropLine st.2.1 p1).2, st.2.2.1, (zf_P_giveBack st.2.2.2.1 p1), st.2.2.2.2.1, st.2.2.2.2.2.1, st.2.2.2.2.2.2)))
  else ((-1), st)
def zf_X_clear (st : zu_X) (p1 : Int32) (p2 : Int32) : Int32 × zu_X :=
  if st.2.2.2.2.2.2 = 0 then (if (zf_S_slotOf st.2.1 p1 p2) = (-1) then (0, st)
    else if (zf_S_valueAt st.2.1 (zf_S_slotOf st.2.1 p1 p2)) = (-1) then (0, st)
    else (1, (st.1, (zf_S_put st.2.1 (zf_S_slotOf st.2.1 p1 p2) (-1)), st.2.2.1, st.2.2.2.1, st.2.2.2.2.1, st.2.2.2.2.2.1, st.2.2.2.2.2.2)))
  else (0, st)
theorem zo_X_clear (st : zu_X) (p1 : Int32) (p2 : Int32) : narrow .boolean (.int ((zf_X_clear st p1 p2).1)) = .int ((zf_X_clear st p1 p2).1) := by
  unfold zf_X_clear
  by_cases h38 : st.2.2.2.2.2.2 = 0
  · rw [if_pos h38]
    by_cases h39 : (zf_S_slotOf st.2.1 p1 p2) = (-1)
    · rw [if_pos h39]
      exact narrow_b0
    · rw [if_neg h39]
      by_cases h40 : (zf_S_valueAt st.2.1 (zf_S_slotOf st.2.1 p1 p2)) = (-1)
      · rw [if_pos h40]
        exact narrow_b0
      · rw [if_neg h40]
        exact narrow_b1
  · rw [if_neg h38]
    exact narrow_b0
def zf_X_code (st : zu_X) (p1 : Int64) (p3 : Int32) : Int32 × zu_X :=
  if (zf_X_isValue p1) = 0 then (0, st)
  else if p3 < 0 then (0, st)
  else if p3 ≤ 100000 then ((zf_C_tell st.2.2.1 p1.toInt32 p3).1, (st.1, st.2.1, (zf_C_tell st.2.2.1 p1.toInt32 p3).2, st.2.2.2.1, st.2.2.2.2.1, st.2.2.2.2.2.1, st.2.2.2.2.2.2))
  else (0, st)
theorem zo_X_code (st : zu_X) (p1 : Int64) (p3 : Int32) : narrow .boolean (.int ((zf_X_code st p1 p3).1)) = .int ((zf_X_code st p1 p3).1) := by
  unfold zf_X_code
  by_cases h41 : (zf_X_isValue p1) = 0
  · rw [if_pos h41]
    exact narrow_b0
  · rw [if_neg h41]
    by_cases h42 : p3 < 0
    · rw [if_pos h42]
      exact narrow_b0
    · rw [if_neg h42]
      by_cases h43 : p3 ≤ 100000
      · rw [if_pos h43]
        exact (zo_C_tell st.2.2.1 p1.toInt32 p3)
      · rw [if_neg h43]
        exact narrow_b0
def zf_X_day (st : zu_X) (p1 : Int32) : Int32 × zu_X :=
  if p1 < st.2.2.2.2.2.1 then (0, st)
  else if p1 ≤ 100000 then (1, (st.1, st.2.1, st.2.2.1, st.2.2.2.1, st.2.2.2.2.1, p1, st.2.2.2.2.2.2))
  else (0, st)
theorem zo_X_day (st : zu_X) (p1 : Int32) : narrow .boolean (.int ((zf_X_day st p1).1)) = .int ((zf_X_day st p1).1) := by
  unfold zf_X_day
  by_cases h44 : p1 < st.2.2.2.2.2.1
  · rw [if_pos h44]
    exact narrow_b0
  · rw [if_neg h44]
    by_cases h45 : p1 ≤ 100000
    · rw [if_pos h45]
      exact narrow_b1
    · rw [if_neg h45]
      exact narrow_b0
def zf_X_lodge (st : zu_X) : Int32 × zu_X :=
  if st.2.2.2.2.2.2 = 0 then (if (zf_X_check st) = 0 then (1, (st.1, st.2.1, st.2.2.1, st.2.2.2.1, st.2.2.2.2.1, st.2.2.2.2.2.1, 1))
    else (0, st))
  else (0, st)
def zf_X_paper (st : zu_X) (p1 : Int32) (p2 : Int32) : Int32 × zu_X :=
  if p1 < 1 then (0, st)
  else if 1000000 < p1 then (0, st)
  else if p2 < 0 then (0, st)
  else if p2 ≤ 1000000 then ((zf_P_register st.2.2.2.1 p1 p2).1, (st.1, st.2.1, st.2.2.1, (zf_P_register st.2.2.2.1 p1 p2).2, st.2.2.2.2.1, st.2.2.2.2.2.1, st.2.2.2.2.2.2))
  else (0, st)
theorem zo_X_paper (st : zu_X) (p1 : Int32) (p2 : Int32) : narrow .boolean (.int ((zf_X_paper st p1 p2).1)) = .int ((zf_X_paper st p1 p2).1) := by
  unfold zf_X_paper
  by_cases h46 : p1 < 1
  · rw [if_pos h46]
    exact narrow_b0
  · rw [if_neg h46]
    by_cases h47 : 1000000 < p1
    · rw [if_pos h47]
      exact narrow_b0
    · rw [if_neg h47]
      by_cases h48 : p2 < 0
      · rw [if_pos h48]
        exact narrow_b0
      · rw [if_neg h48]
        by_cases h49 : p2 ≤ 1000000
        · rw [if_pos h49]
          exact (zo_P_register st.2.2.2.1 p1 p2)
        · rw [if_neg h49]
          exact narrow_b0
def zf_X_read (st : zu_X) (p1 : Int32) : Int32 × zu_X :=
  ((zf_R_accept st.2.2.2.2.1 (p1 &&& 255)).1, (st.1, st.2.1, st.2.2.1, st.2.2.2.1, (zf_R_accept st.2.2.2.2.1 (p1 &&& 255)).2, st.2.2.2.2.2.1, st.2.2.2.2.2.2))
def zf_X_count (st : zu_X) (p1 : Int32) : Int32 :=
  if p1 = 0 then (zf_S_lineCount st.2.1)
  else if p1 = 1 then (zf_S_setCount st.2.1)
  else if p1 = 2 then (if st.2.2.2.2.2.2 = 0 then 0
    else 1)
  else if p1 = 3 then (zf_C_goodCount st.2.2.1 st.2.2.2.2.2.1)
  else if p1 = 4 then (zf_P_size st.2.2.2.1)
  else if p1 = 5 then st.2.2.2.2.2.1
  else if p1 = 6 then st.1
  else if p1 = 7 then (zf_R_wholeRows st.2.2.2.2.1)
  else if p1 = 8 then (zf_R_latestFields st.2.2.2.2.1)
  else if 100 ≤ p1 then (zf_P_balanceOf st.2.2.2.1 (p1 - 100))
  else (-1)
def zf_X_line (st : zu_X) : Nat × Int32 × zu_X :=
  if st.2.2.2.2.2.2 = 0 then (if (zf_S_isFull st.2.1) = 0 then (0, (zf_S_openLine st.2.1).1, (st.1, (zf_S_openLine st.2.1).2, st.2.2.1, st.2.2.2.1, st.2.2.2.2.1, st.2.2.2.2.2.1, st.2.2.2.2.2.2))
    else (1, 0, st))
  else (1, 0, st)
def zf_X_field (st : zu_X) (p1 : Int32) (p2 : Int32) (p3 : Int64) : Nat × Int32 × zu_X :=
  if (zf_S_slotOf st.2.1 p1 p2) = (-1) then (1, 0, st)
  else if (zf_X_isValue p3) = 0 then (1, 0, st)
  else if st.2.2.2.2.2.2 = 0 then (if (zf_X_needBy st.1 p1) = 3 then (0, 0, st)
    else (0, 1, (st.1, (zf_S_put st.2.1 (zf_S_slotOf st.2.1 p1 p2) p3.toInt32), st.2.2.1, st.2.2.2.1, st.2.2.2.2.1, st.2.2.2.2.2.1, st.2.2.2.2.2.2)))
  else (0, 0, st)
def zf_X_value (st : zu_X) (p1 : Int32) (p2 : Int32) : Nat × Int64 :=
  if (zf_S_slotOf st.2.1 p1 p2) = (-1) then (1, 0)
  else (0, (zf_S_valueAt st.2.1 (zf_S_slotOf st.2.1 p1 p2)).toInt64)
def zf_X_need (st : zu_X) (p1 : Int32) : Nat × Int32 :=
  if p1 < 0 then (1, 0)
  else if p1 ≤ 19 then (0, (zf_X_needBy st.1 p1))
  else (1, 0)
def zf_X_amend (st : zu_X) (p1 : Int32) (p2 : Int32) (p3 : Int64) : Nat × Int32 × zu_X :=
  if (zf_S_slotOf st.2.1 p1 p2) = (-1) then (1, 0, st)
  else if (zf_X_isValue p3) = 0 then (1, 0, st)
  else if st.2.2.2.2.2.2 = 0 then (2, 0, st)
  else if (p1 - p1 / 3 * 3) = 0 then (0, 0, st)
  else if (zf_X_needBy st.1 p1) = 3 then (0, 0, st)
  else if (zf_X_check (st.1, (zf_S_put st.2.1 (zf_S_slotOf st.2.1 p1 p2) p3.toInt32), st.2.2.1, st.2.2.2.1, st.2.2.2.2.1, st.2.2.2.2.2.1, st.2.2.2.2.2.2)) = 0 then (0, 1, (st.1, (zf_S_put st.2.1 (zf_S_slotOf st.2.1 p1 p2) p3.toInt32), st.2.2.1, st.2.2.2.1, st.2.2.2.2.1, st.2.2.2.2.2.1, st.2.2.2.2.2.2))
  else (0, 0, (st.1, (zf_S_put (zf_S_put st.2.1 (zf_S_slotOf st.2.1 p1 p2) p3.toInt32) (zf_S_slotOf st.2.1 p1 p2) (zf_S_valueAt st.2.1 (zf_S_slotOf st.2.1 p1 p2))), st.2.2.1, st.2.2.2.1, st.2.2.2.2.1, st.2.2.2.2.2.1, st.2.2.2.2.2.2))
def zf_X_draw (st : zu_X) (p1 : Int32) (p2 : Int32) (p3 : Int32) : Nat × Int32 × zu_X :=
  if (zf_S_hasLine st.2.1 p1) = 0 then (1, 0, st)
  else if (zf_P_find st.2.2.2.1 p2) = (-1) then (1, 0, st)
  else if p3 < 1 then (1, 0, st)
  else if p3 ≤ 1000000 then (if st.2.2.2.2.2.2 = 0 then (0, (zf_P_take st.2.2.2.1 p1 (zf_P_find st.2.2.2.1 p2) p3).1, (st.1, st.2.1, st.2.2.1, (zf_P_take st.2.2.2.1 p1 (zf_P_find st.2.2.2.1 p2) p3).2, st.2.2.2.2.1, st.2.2.2.2.2.1, st.2.2.2.2.2.2))
    else (0, (-1), st))
  else (1, 0, st)
def zf_X_sum (st : zu_X) (p1 : Int32) : Nat × Int64 :=
  if p1 < 10 then (1, 0)
  else if p1 ≤ 19 then (0, (zf_S_total st.2.1 p1))
  else (1, 0)
def zf_X_octet (st : zu_X) (p1 : Int32) : Nat × Int32 :=
  if p1 < 0 then (1, 0)
  else if p1 < (zf_X_pack st) then (if p1 = 0 then (0, st.1.toInt8.toInt32)
    else if 3 ≤ p1 then (0, (zf_X_packedByte st (zf_S_setSlot st.2.1 ((p1 - 3) / 6)) ((p1 - 3) - (p1 - 3) / 6 * 6)))
    else (0, (zf_X_byteOf (zf_S_setCount st.2.1) (2 - p1))))
  else (1, 0)
def zf_F_fill_L5 (p1 : Int32) (x3 : Int32) : Nat → Nat → zu_F → zu_F
  | 0, k, st => st
  | mm + 1, k, st => zf_F_fill_L5 p1 x3 mm (k + 1) ((upd st k p1))
def zf_F_fill (st : zu_F) (p1 : Int32) : zu_F :=
  zf_F_fill_L5 p1 310 310 0 st
/-! places that the class looks at, in range -/
theorem zx_line {x : Int32} (h1 : ¬ x < 1) (h2 : ¬ 30 < x) : vp_in x 31 := by
  rw [vp_in_iff]
  rw [Int32.lt_iff_toInt_lt] at h1 h2
  have e1 : (1 : Int32).toInt = 1 := by decide
  have e2 : (30 : Int32).toInt = 30 := by decide
  omega
theorem zx_slot {x : Int32} (h1 : ¬ x < 0) (h2 : x < 310) : vp_in x 310 := by
  rw [vp_in_iff]
  rw [Int32.lt_iff_toInt_lt] at h1 h2
  have e1 : (0 : Int32).toInt = 0 := by decide
  have e2 : (310 : Int32).toInt = 310 := by decide
  omega
theorem zx_has {st : zu_S} {x : Int32} (h : ¬ zf_S_hasLine st x = 0) : vp_in x 31 := by
  by_cases h1 : x < 1
  · exact absurd (by rw [zf_S_hasLine, if_pos h1]) h
  · by_cases h2 : 30 < x
    · exact absurd (by rw [zf_S_hasLine, if_neg h1, if_pos h2]) h
    · exact zx_line h1 h2
theorem zx_h20 {n : Nat} (hh : n ≤ 20) (h : nI n < 20) : n < 20 := by
  rcases Nat.lt_or_ge n 20 with q | q
  · exact q
  · exact absurd h (nI_nlt (b := 20) q (by omega))
theorem zx_h20n {n : Nat} (hh : n ≤ 20) (h : ¬ 20 ≤ nI n) : n < 20 := by
  rcases Nat.lt_or_ge n 20 with q | q
  · exact q
  · exact absurd (nI_le (a := 20) q (by omega)) h
theorem zx_open {st : zu_S} (hm : st.2.2.1 ≤ 30) (h : zf_S_isFull st = 0) : vp_in (nI (st.2.2.1 + 1)) 31 := by
  have h1 : nI st.2.2.1 < 30 := by
    by_cases h1 : nI st.2.2.1 < 30
    · exact h1
    · rw [zf_S_isFull, if_neg h1] at h; exact absurd h (by decide)
  have h2 : st.2.2.1 < 30 := by
    rcases Nat.lt_or_ge st.2.2.1 30 with q | q
    · exact q
    · exact absurd h1 (nI_nlt (b := 30) q (by omega))
  exact vp_in_nI (by omega) (by decide)
theorem zq_cfind (st : zu_C) (v : Int32) : ∀ mm k : Nat, zf_C_find_L2 st v mm k = (-1) ∨ ∃ j : Nat, k ≤ j ∧ j < k + mm ∧ zf_C_find_L2 st v mm k = nI j ∧ st.1 j = v := by
  intro mm
  induction mm with
  | zero => intro k; exact Or.inl rfl
  | succ mm ih =>
    intro k
    by_cases h : st.1 k = v
    · exact Or.inr ⟨k, Nat.le_refl k, by omega, by rw [zf_C_find_L2, if_pos h], h⟩
    · rw [zf_C_find_L2, if_neg h]
      rcases ih (k + 1) with q | ⟨j, h1, h2, h3, h4⟩
      · exact Or.inl q
      · exact Or.inr ⟨j, by omega, by omega, h3, h4⟩
theorem zx_cfind {st : zu_C} {v : Int32} (hh : st.2.2 ≤ 20) (h : ¬ zf_C_find st v = (-1)) : vp_in (zf_C_find st v) 20 := by
  rcases zq_cfind st v st.2.2 0 with q | ⟨j, h1, h2, h3, h4⟩
  · exact absurd q h
  · rw [zf_C_find, h3]
    exact vp_in_nI (by omega) (by decide)
theorem zq_pfind (st : zu_P) (v : Int32) : ∀ mm k : Nat, zf_P_find_L2 st v mm k = (-1) ∨ ∃ j : Nat, k ≤ j ∧ j < k + mm ∧ zf_P_find_L2 st v mm k = nI j ∧ st.1 j = v := by
  intro mm
  induction mm with
  | zero => intro k; exact Or.inl rfl
  | succ mm ih =>
    intro k
    by_cases h : st.1 k = v
    · exact Or.inr ⟨k, Nat.le_refl k, by omega, by rw [zf_P_find_L2, if_pos h], h⟩
    · rw [zf_P_find_L2, if_neg h]
      rcases ih (k + 1) with q | ⟨j, h1, h2, h3, h4⟩
      · exact Or.inl q
      · exact Or.inr ⟨j, by omega, by omega, h3, h4⟩
theorem zx_pfind {st : zu_P} {v : Int32} (hh : st.2.2.2 ≤ 20) (h : ¬ zf_P_find st v = (-1)) : vp_in (zf_P_find st v) 20 := by
  rcases zq_pfind st v st.2.2.2 0 with q | ⟨j, h1, h2, h3, h4⟩
  · exact absurd q h
  · rw [zf_P_find, h3]
    exact vp_in_nI (by omega) (by decide)
theorem zx_at {n : Nat} {x : Int32} (hh : n ≤ 20) (h1 : ¬ x < 0) (h2 : ¬ nI n ≤ x) : vp_in x 20 := by
  rw [vp_in_iff]
  rw [Int32.lt_iff_toInt_lt] at h1
  rw [Int32.le_iff_toInt_le, nI_toInt (by omega)] at h2
  have e1 : (0 : Int32).toInt = 0 := by decide
  omega
theorem zx_dk {x : Int32} {k : Nat} (h1 : ¬ x < 0) (h2 : x ≤ 30) (hk : k < 20) : vp_in ((x * 20) + (nI k)) 620 := by
  obtain ⟨a, ha, rfl⟩ := nI_of2 (M := 30) (n := 30) (by decide) h1 h2
  rw [show (20 : Int32) = nI 20 from rfl, pk_mul, nI_add]
  exact vp_in_nI (by omega) (by decide)
theorem zx_dr {n : Nat} {x y : Int32} (hh : n ≤ 20) (h1 : ¬ x < 0) (h2 : ¬ 30 < x) (h3 : ¬ y < 0) (h4 : ¬ nI n ≤ y) : vp_in ((x * 20) + y) 620 := by
  have h5 := zx_at hh h3 h4
  obtain ⟨b, hb, rfl⟩ := vp_in_of h5 (by decide)
  refine zx_dk h1 ?_ hb
  rw [Int32.lt_iff_toInt_lt] at h2
  rw [Int32.le_iff_toInt_le]
  omega

