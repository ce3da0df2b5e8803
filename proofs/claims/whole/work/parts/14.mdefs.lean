abbrev zu_M : Type := Int32 × Int32 × Nat × (Nat → Int32) × (Nat → Int64) × Int32 × Int32 × Nat × (Nat → Int64) × (Nat → Int32) × Nat × (Nat → Int32) × (Nat → Int32) × (Nat → Int32) × Int32 × Int32 × Int32 × Int32 × Int32 × Int64 × Int32 × Int32
abbrev zv_M (cI cZ cL : ClassId) (a0 a1 a2 a3 a4 a5 a6 a7 : Nat) (w0 : Int32) (w1 : Int32) (w2 : Nat) (w3 : Nat → Int32) (w4 : Nat → Int64) (w5 : Int32) (w6 : Int32) (w7 : Nat) (w8 : Nat → Int64) (w9 : Nat → Int32) (w10 : Nat) (w11 : Nat → Int32) (w12 : Nat → Int32) (w13 : Nat → Int32) (w14 : Int32) (w15 : Int32) (w16 : Int32) (w17 : Int32) (w18 : Int32) (w19 : Int64) (w20 : Int32) (w21 : Int32) : va_W := [(a0, .inr (5, [.int w0, .int w1, .int (nI w2), .ref a1, .ref a2, .int w5, .int w6, .int (nI w7), .ref a3, .ref a4, .int (nI w10), .ref a5, .ref a6, .ref a7, .int w14, .int w15, .int w16, .int w17, .int w18, .long w19, .int w20, .int w21])), (a1, .inl (cZ, 31, .inl w3)), (a2, .inl (cL, 310, .inr (.inl w4))), (a3, .inl (cL, 20, .inr (.inl w8))), (a4, .inl (cI, 20, .inl w9)), (a5, .inl (cI, 20, .inl w11)), (a6, .inl (cI, 20, .inl w12)), (a7, .inl (cI, 620, .inl w13))]
def zf_M_thrown (w0 : Int32) : Int32 :=
  w0
def zf_M_refuse (w0 : Int32) (p1 : Int32) : Int32 × Int32 :=
  (0, p1)
def zf_M_in (p0 : Int64) (p2 : Int64) (p4 : Int64) : Int32 :=
  if (lg_cmp p0 p2) < 0 then 0
  else if 0 < (lg_cmp p0 p4) then 0
  else 1
theorem zo_M_in (p0 : Int64) (p2 : Int64) (p4 : Int64) : narrow .boolean (.int (zf_M_in p0 p2 p4)) = .int (zf_M_in p0 p2 p4) := by
  unfold zf_M_in
  by_cases h50 : (lg_cmp p0 p2) < 0
  · rw [if_pos h50]
    exact narrow_b0
  · rw [if_neg h50]
    by_cases h51 : 0 < (lg_cmp p0 p4)
    · rw [if_pos h51]
      exact narrow_b0
    · rw [if_neg h51]
      exact narrow_b1
def zf_M_isLine (w2 : Nat) (w3 : Nat → Int32) (p1 : Int32) : Int32 :=
  if p1 < 1 then 0
  else if (nI w2) < p1 then 0
  else if (w3 p1.toNatClampNeg) = 0 then 1
  else 0
theorem zo_M_isLine (w2 : Nat) (w3 : Nat → Int32) (p1 : Int32) : narrow .boolean (.int (zf_M_isLine w2 w3 p1)) = .int (zf_M_isLine w2 w3 p1) := by
  unfold zf_M_isLine
  by_cases h52 : p1 < 1
  · rw [if_pos h52]
    exact narrow_b0
  · rw [if_neg h52]
    by_cases h53 : (nI w2) < p1
    · rw [if_pos h53]
      exact narrow_b0
    · rw [if_neg h53]
      by_cases h54 : (w3 p1.toNatClampNeg) = 0
      · rw [if_pos h54]
        exact narrow_b1
      · rw [if_neg h54]
        exact narrow_b0
def zf_M_isPlace (w2 : Nat) (w3 : Nat → Int32) (p1 : Int32) (p2 : Int32) : Int32 :=
  if p2 = 0 then (zf_M_in p1.toInt64 0 9)
  else if (zf_M_in p1.toInt64 10 19) = 0 then 0
  else if (zf_M_isLine w2 w3 p2) = 0 then 0
  else 1
theorem zo_M_isPlace (w2 : Nat) (w3 : Nat → Int32) (p1 : Int32) (p2 : Int32) : narrow .boolean (.int (zf_M_isPlace w2 w3 p1 p2)) = .int (zf_M_isPlace w2 w3 p1 p2) := by
  unfold zf_M_isPlace
  by_cases h55 : p2 = 0
  · rw [if_pos h55]
    exact (zo_M_in p1.toInt64 0 9)
  · rw [if_neg h55]
    by_cases h56 : (zf_M_in p1.toInt64 10 19) = 0
    · rw [if_pos h56]
      exact narrow_b0
    · rw [if_neg h56]
      by_cases h57 : (zf_M_isLine w2 w3 p2) = 0
      · rw [if_pos h57]
        exact narrow_b0
      · rw [if_neg h57]
        exact narrow_b1
def zf_M_at (p0 : Int32) (p1 : Int32) : Int32 :=
  (10 * p1) + (p0 - p0 / 10 * 10)
def zf_M_needOf (p0 : Int32) (p1 : Int32) : Int32 :=
  ((3 * p0) + (5 * p1)) - ((3 * p0) + (5 * p1)) / 4 * 4
def zf_M_line (w0 : Int32) (w2 : Nat) (w5 : Int32) : Int32 × Int32 × Nat :=
  if (nI w2) = 30 then ((zf_M_refuse w0 1).1, (zf_M_refuse w0 1).2, w2)
  else if w5 = 0 then (nI (w2 + 1), 0, (w2 + 1))
  else ((zf_M_refuse w0 1).1, (zf_M_refuse w0 1).2, w2)
def zf_M_setIn_L7 (w4 : Nat → Int64) (p1 : Int32) : Nat → Nat → Int32 → Int32
  | 0, k, x2 => x2
  | mm + 1, k, x2 => if (lg_cmp (w4 ((10 * p1) + (nI k)).toNatClampNeg) (-1)) = 0 then zf_M_setIn_L7 w4 p1 mm (k + 1) (x2 + 0)
    else zf_M_setIn_L7 w4 p1 mm (k + 1) (x2 + 1)
def zf_M_setIn (w4 : Nat → Int64) (p1 : Int32) : Int32 :=
  zf_M_setIn_L7 w4 p1 10 0 0
def zf_M_remove_L68 (w0 : Int32) (w2 : Nat) (w3 : Nat → Int32) (w4 : Nat → Int64) (w5 : Int32) (w10 : Nat) (p1 : Int32) (x2 : Int32) : Nat → Nat → (Nat → Int32) → (Nat → Int32) → Int32 × Int32 × (Nat → Int32) × (Nat → Int64) × (Nat → Int32) × (Nat → Int32)
  | 0, k, w12, w13 => (x2, w0, w3, w4, w12, w13)
  | mm + 1, k, w12, w13 => zf_M_remove_L68 w0 w2 w3 w4 w5 w10 p1 x2 mm (k + 1) (upd w12 k ((w12 k) + (w13 ((20 * p1) + (nI k)).toNatClampNeg))) (upd w13 ((20 * p1) + (nI k)).toNatClampNeg 0)
def zf_M_remove_L40 (w0 : Int32) (w2 : Nat) (w3 : Nat → Int32) (w5 : Int32) (w10 : Nat) (w12 : Nat → Int32) (w13 : Nat → Int32) (p1 : Int32) (x2 : Int32) : Nat → Nat → (Nat → Int64) → Int32 × Int32 × (Nat → Int32) × (Nat → Int64) × (Nat → Int32) × (Nat → Int32)
  | 0, k, w4 => zf_M_remove_L68 w0 w2 w3 w4 w5 w10 p1 x2 w10 0 w12 w13
  | mm + 1, k, w4 => zf_M_remove_L40 w0 w2 w3 w5 w10 w12 w13 p1 x2 mm (k + 1) (vp_updL w4 ((10 * p1) + (nI k)).toNatClampNeg (-1))
def zf_M_remove (w0 : Int32) (w2 : Nat) (w3 : Nat → Int32) (w4 : Nat → Int64) (w5 : Int32) (w10 : Nat) (w12 : Nat → Int32) (w13 : Nat → Int32) (p1 : Int32) : Int32 × Int32 × (Nat → Int32) × (Nat → Int64) × (Nat → Int32) × (Nat → Int32) :=
  if (zf_M_isLine w2 w3 p1) = 0 then ((-1), 0, w3, w4, w12, w13)
  else if w5 = 0 then zf_M_remove_L40 0 w2 (upd w3 p1.toNatClampNeg 1) w5 w10 w12 w13 p1 (zf_M_setIn w4 p1) 10 0 w4
  else ((-1), 0, w3, w4, w12, w13)
def zf_M_field (w0 : Int32) (w1 : Int32) (w2 : Nat) (w3 : Nat → Int32) (w4 : Nat → Int64) (w5 : Int32) (p1 : Int32) (p2 : Int32) (p3 : Int64) : Int32 × Int32 × (Nat → Int64) :=
  if (zf_M_isPlace w2 w3 p1 p2) = 0 then ((zf_M_refuse w0 1).1, (zf_M_refuse w0 1).2, w4)
  else if (zf_M_in p3 0 1000000000) = 0 then ((zf_M_refuse w0 1).1, (zf_M_refuse w0 1).2, w4)
  else if (zf_M_needOf p1 w1) = 3 then (0, 0, w4)
  else if w5 = 0 then (1, 0, (vp_updL w4 (zf_M_at p1 p2).toNatClampNeg p3))
  else (0, 0, w4)
def zf_M_clear (w0 : Int32) (w2 : Nat) (w3 : Nat → Int32) (w4 : Nat → Int64) (w5 : Int32) (p1 : Int32) (p2 : Int32) : Int32 × Int32 × (Nat → Int64) :=
  if (zf_M_isPlace w2 w3 p1 p2) = 0 then (0, 0, w4)
  else if w5 = 0 then (if (lg_cmp (w4 (zf_M_at p1 p2).toNatClampNeg) (-1)) = 0 then (0, 0, w4)
    else (1, 0, (vp_updL w4 (zf_M_at p1 p2).toNatClampNeg (-1))))
  else (0, 0, w4)
theorem zo_M_clear (w0 : Int32) (w2 : Nat) (w3 : Nat → Int32) (w4 : Nat → Int64) (w5 : Int32) (p1 : Int32) (p2 : Int32) : narrow .boolean (.int ((zf_M_clear w0 w2 w3 w4 w5 p1 p2).1)) = .int ((zf_M_clear w0 w2 w3 w4 w5 p1 p2).1) := by
  unfold zf_M_clear
  by_cases h58 : (zf_M_isPlace w2 w3 p1 p2) = 0
  · rw [if_pos h58]
    exact narrow_b0
  · rw [if_neg h58]
    by_cases h59 : w5 = 0
    · rw [if_pos h59]
      by_cases h60 : (lg_cmp (w4 (zf_M_at p1 p2).toNatClampNeg) (-1)) = 0
      · rw [if_pos h60]
        exact narrow_b0
      · rw [if_neg h60]
        exact narrow_b1
    · rw [if_neg h59]
      exact narrow_b0
def zf_M_value (w0 : Int32) (w2 : Nat) (w3 : Nat → Int32) (w4 : Nat → Int64) (p1 : Int32) (p2 : Int32) : Int64 × Int32 :=
  if (zf_M_isPlace w2 w3 p1 p2) = 0 then (0, 1)
  else (w4 (zf_M_at p1 p2).toNatClampNeg, 0)
def zf_M_need (w0 : Int32) (w1 : Int32) (p1 : Int32) : Int32 × Int32 :=
  if (zf_M_in p1.toInt64 0 19) = 0 then (0, 1)
  else ((zf_M_needOf p1 w1), 0)
def zf_M_code_L33 (w0 : Int32) (w7 : Nat) (w8 : Nat → Int64) (w9 : Nat → Int32) (p1 : Int64) (p3 : Int32) : Nat → Nat → Int32 × Int32 × Nat × (Nat → Int64) × (Nat → Int32)
  | 0, k => if (nI w7) = 20 then (0, w0, w7, w8, w9)
    else (1, w0, (w7 + 1), (vp_updL w8 w7 p1), (upd w9 w7 p3))
  | mm + 1, k => if (lg_cmp (w8 k) p1) = 0 then (1, w0, w7, w8, (upd w9 k p3))
    else zf_M_code_L33 w0 w7 w8 w9 p1 p3 mm (k + 1)
def zf_M_code (w0 : Int32) (w7 : Nat) (w8 : Nat → Int64) (w9 : Nat → Int32) (p1 : Int64) (p3 : Int32) : Int32 × Int32 × Nat × (Nat → Int64) × (Nat → Int32) :=
  if (zf_M_in p1 0 1000000000) = 0 then (0, 0, w7, w8, w9)
  else if (zf_M_in p3.toInt64 0 100000) = 0 then (0, 0, w7, w8, w9)
  else zf_M_code_L33 0 w7 w8 w9 p1 p3 w7 0
def zf_M_day (w0 : Int32) (w6 : Int32) (p1 : Int32) : Int32 × Int32 × Int32 :=
  if (zf_M_in p1.toInt64 w6.toInt64 100000) = 0 then (0, 0, w6)
  else (1, 0, p1)
theorem zo_M_day (w0 : Int32) (w6 : Int32) (p1 : Int32) : narrow .boolean (.int ((zf_M_day w0 w6 p1).1)) = .int ((zf_M_day w0 w6 p1).1) := by
  unfold zf_M_day
  by_cases h61 : (zf_M_in p1.toInt64 w6.toInt64 100000) = 0
  · rw [if_pos h61]
    exact narrow_b0
  · rw [if_neg h61]
    exact narrow_b1
def zf_M_sumOf_L5 (w2 : Nat) (w4 : Nat → Int64) (p1 : Int32) : Nat → Nat → Int64 → Int64
  | 0, k, x2 => x2
  | mm + 1, k, x2 => if (lg_cmp (w4 (zf_M_at p1 (nI k)).toNatClampNeg) (-1)) = 0 then zf_M_sumOf_L5 w2 w4 p1 mm (k + 1) (x2 + 0)
    else zf_M_sumOf_L5 w2 w4 p1 mm (k + 1) (x2 + (w4 (zf_M_at p1 (nI k)).toNatClampNeg))
def zf_M_sumOf (w2 : Nat) (w4 : Nat → Int64) (p1 : Int32) : Int64 :=
  zf_M_sumOf_L5 w2 w4 p1 w2 1 0
def zf_M_isGood_L5 (w6 : Int32) (w7 : Nat) (w8 : Nat → Int64) (w9 : Nat → Int32) (p1 : Int64) : Nat → Nat → Int32 → Int32
  | 0, k, x3 => x3
  | mm + 1, k, x3 => if x3 = 0 then (if (lg_cmp (w8 k) p1) = 0 then (if (w9 k) < w6 then zf_M_isGood_L5 w6 w7 w8 w9 p1 mm (k + 1) 0
        else zf_M_isGood_L5 w6 w7 w8 w9 p1 mm (k + 1) 1)
      else zf_M_isGood_L5 w6 w7 w8 w9 p1 mm (k + 1) 0)
    else zf_M_isGood_L5 w6 w7 w8 w9 p1 mm (k + 1) 1
def zf_M_isGood (w6 : Int32) (w7 : Nat) (w8 : Nat → Int64) (w9 : Nat → Int32) (p1 : Int64) : Int32 :=
  zf_M_isGood_L5 w6 w7 w8 w9 p1 w7 0 0
def zf_M_isSum (w2 : Nat) (w4 : Nat → Int64) (p1 : Int32) : Int32 :=
  if (lg_cmp (w4 p1.toNatClampNeg) (-1)) = 0 then 1
  else if (lg_cmp (w4 p1.toNatClampNeg) (zf_M_sumOf w2 w4 (p1 + 10))) = 0 then 1
  else 0
theorem zo_M_isSum (w2 : Nat) (w4 : Nat → Int64) (p1 : Int32) : narrow .boolean (.int (zf_M_isSum w2 w4 p1)) = .int (zf_M_isSum w2 w4 p1) := by
  unfold zf_M_isSum
  by_cases h62 : (lg_cmp (w4 p1.toNatClampNeg) (-1)) = 0
  · rw [if_pos h62]
    exact narrow_b1
  · rw [if_neg h62]
    by_cases h63 : (lg_cmp (w4 p1.toNatClampNeg) (zf_M_sumOf w2 w4 (p1 + 10))) = 0
    · rw [if_pos h63]
      exact narrow_b1
    · rw [if_neg h63]
      exact narrow_b0
def zf_M_broken_L164 (w1 : Int32) (w2 : Nat) (w3 : Nat → Int32) (w4 : Nat → Int64) (w6 : Int32) (w7 : Nat) (w8 : Nat → Int64) (w9 : Nat → Int32) (x1 : Int32) : Nat → Nat → Int32
  | 0, k => if x1 = 0 then 5000000
    else 0
  | mm + 1, k => if (lg_cmp (w4 (10 * (nI k)).toNatClampNeg) (-1)) = 0 then zf_M_broken_L164 w1 w2 w3 w4 w6 w7 w8 w9 x1 mm (k + 1)
    else if (zf_M_isGood w6 w7 w8 w9 (w4 (10 * (nI k)).toNatClampNeg)) = 0 then (4000000 + (100 * (nI k))) + 10
    else zf_M_broken_L164 w1 w2 w3 w4 w6 w7 w8 w9 x1 mm (k + 1)
def zf_M_broken_L33 (w1 : Int32) (w2 : Nat) (w3 : Nat → Int32) (w4 : Nat → Int64) (w6 : Int32) (w7 : Nat) (w8 : Nat → Int64) (w9 : Nat → Int32) (x1 : Int32) (x2 : Nat) (x3 : Int32) : Nat → Nat → Option Int32
  | 0, k => none
  | mm + 1, k => if x3 = 0 then none
    else if (nI x2) = 0 then (if (zf_M_needOf (nI k) w1) = 0 then (if (lg_cmp (w4 ((10 * (nI x2)) + (nI k)).toNatClampNeg) (-1)) = 0 then some ((1000000 + (100 * (nI x2))) + (nI k))
        else zf_M_broken_L33 w1 w2 w3 w4 w6 w7 w8 w9 x1 x2 x3 mm (k + 1))
      else zf_M_broken_L33 w1 w2 w3 w4 w6 w7 w8 w9 x1 x2 x3 mm (k + 1))
    else if (zf_M_needOf (10 + (nI k)) w1) = 0 then (if (lg_cmp (w4 ((10 * (nI x2)) + (nI k)).toNatClampNeg) (-1)) = 0 then some ((1000000 + (100 * (nI x2))) + (10 + (nI k)))
      else zf_M_broken_L33 w1 w2 w3 w4 w6 w7 w8 w9 x1 x2 x3 mm (k + 1))
    else zf_M_broken_L33 w1 w2 w3 w4 w6 w7 w8 w9 x1 x2 x3 mm (k + 1)
def zf_M_broken_L4 (w1 : Int32) (w2 : Nat) (w3 : Nat → Int32) (w4 : Nat → Int64) (w6 : Int32) (w7 : Nat) (w8 : Nat → Int64) (w9 : Nat → Int32) : Nat → Nat → Int32 → Int32
  | 0, k, x1 => if (zf_M_isSum w2 w4 2) = 0 then 2000000
    else if (zf_M_isSum w2 w4 3) = 0 then 3000000
    else zf_M_broken_L164 w1 w2 w3 w4 w6 w7 w8 w9 x1 w2 1
  | mm + 1, k, x1 => if (nI k) = 0 then (if zf_M_broken_L33 w1 w2 w3 w4 w6 w7 w8 w9 x1 k 1 10 0 = none then (if (nI k) ≤ 0 then zf_M_broken_L4 w1 w2 w3 w4 w6 w7 w8 w9 mm (k + 1) (x1 + 0)
        else zf_M_broken_L4 w1 w2 w3 w4 w6 w7 w8 w9 mm (k + 1) (x1 + 1))
      else (zf_M_broken_L33 w1 w2 w3 w4 w6 w7 w8 w9 x1 k 1 10 0).getD 0)
    else if (zf_M_isLine w2 w3 (nI k)) = 0 then (if zf_M_broken_L33 w1 w2 w3 w4 w6 w7 w8 w9 x1 k 0 10 0 = none then (if (nI k) ≤ 0 then zf_M_broken_L4 w1 w2 w3 w4 w6 w7 w8 w9 mm (k + 1) (x1 + 0)
        else zf_M_broken_L4 w1 w2 w3 w4 w6 w7 w8 w9 mm (k + 1) (x1 + 0))
      else (zf_M_broken_L33 w1 w2 w3 w4 w6 w7 w8 w9 x1 k 0 10 0).getD 0)
    else if zf_M_broken_L33 w1 w2 w3 w4 w6 w7 w8 w9 x1 k 1 10 0 = none then (if (nI k) ≤ 0 then zf_M_broken_L4 w1 w2 w3 w4 w6 w7 w8 w9 mm (k + 1) (x1 + 0)
      else zf_M_broken_L4 w1 w2 w3 w4 w6 w7 w8 w9 mm (k + 1) (x1 + 1))
    else (zf_M_broken_L33 w1 w2 w3 w4 w6 w7 w8 w9 x1 k 1 10 0).getD 0
def zf_M_broken (w1 : Int32) (w2 : Nat) (w3 : Nat → Int32) (w4 : Nat → Int64) (w6 : Int32) (w7 : Nat) (w8 : Nat → Int64) (w9 : Nat → Int32) : Int32 :=
  zf_M_broken_L4 w1 w2 w3 w4 w6 w7 w8 w9 (w2 + 1) 0 0
def zf_M_check (w0 : Int32) (w1 : Int32) (w2 : Nat) (w3 : Nat → Int32) (w4 : Nat → Int64) (w6 : Int32) (w7 : Nat) (w8 : Nat → Int64) (w9 : Nat → Int32) : Int32 × Int32 :=
  ((zf_M_broken w1 w2 w3 w4 w6 w7 w8 w9), 0)
def zf_M_lodge (w0 : Int32) (w1 : Int32) (w2 : Nat) (w3 : Nat → Int32) (w4 : Nat → Int64) (w5 : Int32) (w6 : Int32) (w7 : Nat) (w8 : Nat → Int64) (w9 : Nat → Int32) : Int32 × Int32 × Int32 :=
  if w5 = 0 then (if (zf_M_broken w1 w2 w3 w4 w6 w7 w8 w9) = 0 then (1, 0, 1)
    else (0, 0, w5))
  else (0, 0, w5)
def zf_M_amend (w0 : Int32) (w1 : Int32) (w2 : Nat) (w3 : Nat → Int32) (w4 : Nat → Int64) (w5 : Int32) (w6 : Int32) (w7 : Nat) (w8 : Nat → Int64) (w9 : Nat → Int32) (p1 : Int32) (p2 : Int32) (p3 : Int64) : Int32 × Int32 × (Nat → Int64) :=
  if (zf_M_isPlace w2 w3 p1 p2) = 0 then ((zf_M_refuse w0 1).1, (zf_M_refuse w0 1).2, w4)
  else if (zf_M_in p3 0 1000000000) = 0 then ((zf_M_refuse w0 1).1, (zf_M_refuse w0 1).2, w4)
  else if w5 = 0 then ((zf_M_refuse w0 2).1, (zf_M_refuse w0 2).2, w4)
  else if (p1 - p1 / 3 * 3) = 0 then (0, 0, w4)
  else if (zf_M_needOf p1 w1) = 3 then (0, 0, w4)
  else if (zf_M_broken w1 w2 w3 (vp_updL w4 (zf_M_at p1 p2).toNatClampNeg p3) w6 w7 w8 w9) = 0 then (1, 0, (vp_updL w4 (zf_M_at p1 p2).toNatClampNeg p3))
  else (0, 0, (vp_updL (vp_updL w4 (zf_M_at p1 p2).toNatClampNeg p3) (zf_M_at p1 p2).toNatClampNeg (w4 (zf_M_at p1 p2).toNatClampNeg)))
def zf_M_paperOf_L4 (w10 : Nat) (w11 : Nat → Int32) (p1 : Int32) : Nat → Nat → Int32 → Int32
  | 0, k, x2 => x2
  | mm + 1, k, x2 => if (w11 k) = p1 then zf_M_paperOf_L4 w10 w11 p1 mm (k + 1) (nI k)
    else zf_M_paperOf_L4 w10 w11 p1 mm (k + 1) x2
def zf_M_paperOf (w10 : Nat) (w11 : Nat → Int32) (p1 : Int32) : Int32 :=
  zf_M_paperOf_L4 w10 w11 p1 w10 0 (-1)
def zf_M_paper (w0 : Int32) (w10 : Nat) (w11 : Nat → Int32) (w12 : Nat → Int32) (p1 : Int32) (p2 : Int32) : Int32 × Int32 × Nat × (Nat → Int32) × (Nat → Int32) :=
  if (zf_M_in p1.toInt64 1 1000000) = 0 then (0, 0, w10, w11, w12)
  else if (zf_M_in p2.toInt64 0 1000000) = 0 then (0, 0, w10, w11, w12)
  else if 0 ≤ (zf_M_paperOf w10 w11 p1) then (0, 0, w10, w11, w12)
  else if (nI w10) = 20 then (0, 0, w10, w11, w12)
  else (1, 0, (w10 + 1), (upd w11 w10 p1), (upd w12 w10 p2))
theorem zo_M_paper (w0 : Int32) (w10 : Nat) (w11 : Nat → Int32) (w12 : Nat → Int32) (p1 : Int32) (p2 : Int32) : narrow .boolean (.int ((zf_M_paper w0 w10 w11 w12 p1 p2).1)) = .int ((zf_M_paper w0 w10 w11 w12 p1 p2).1) := by
  unfold zf_M_paper
  by_cases h64 : (zf_M_in p1.toInt64 1 1000000) = 0
  · rw [if_pos h64]
    exact narrow_b0
  · rw [if_neg h64]
    by_cases h65 : (zf_M_in p2.toInt64 0 1000000) = 0
    · rw [if_pos h65]
      exact narrow_b0
    · rw [if_neg h65]
      by_cases h66 : 0 ≤ (zf_M_paperOf w10 w11 p1)
      · rw [if_pos h66]
        exact narrow_b0
      · rw [if_neg h66]
        by_cases h67 : (nI w10) = 20
        · rw [if_pos h67]
          exact narrow_b0
        · rw [if_neg h67]
          exact narrow_b1
def zf_M_draw (w0 : Int32) (w2 : Nat) (w3 : Nat → Int32) (w5 : Int32) (w10 : Nat) (w11 : Nat → Int32) (w12 : Nat → Int32) (w13 : Nat → Int32) (p1 : Int32) (p2 : Int32) (p3 : Int32) : Int32 × Int32 × (Nat → Int32) × (Nat → Int32) :=
  if (zf_M_isLine w2 w3 p1) = 0 then ((zf_M_refuse w0 1).1, (zf_M_refuse w0 1).2, w12, w13)
  else if (zf_M_paperOf w10 w11 p2) < 0 then ((zf_M_refuse w0 1).1, (zf_M_refuse w0 1).2, w12, w13)
  else if (zf_M_in p3.toInt64 1 1000000) = 0 then ((zf_M_refuse w0 1).1, (zf_M_refuse w0 1).2, w12, w13)
  else if w5 = 0 then (if p3 ≤ (w12 (zf_M_paperOf w10 w11 p2).toNatClampNeg) then ((upd w12 (zf_M_paperOf w10 w11 p2).toNatClampNeg ((w12 (zf_M_paperOf w10 w11 p2).toNatClampNeg) - p3)) (zf_M_paperOf w10 w11 p2).toNatClampNeg, 0, (upd w12 (zf_M_paperOf w10 w11 p2).toNatClampNeg ((w12 (zf_M_paperOf w10 w11 p2).toNatClampNeg) - p3)), (upd w13 ((20 * p1) + (zf_M_paperOf w10 w11 p2)).toNatClampNeg ((w13 ((20 * p1) + (zf_M_paperOf w10 w11 p2)).toNatClampNeg) + p3)))
    else ((-1), 0, w12, w13))
  else ((-1), 0, w12, w13)
def zf_M_sum (w0 : Int32) (w2 : Nat) (w4 : Nat → Int64) (p1 : Int32) : Int64 × Int32 :=
  if (zf_M_in p1.toInt64 10 19) = 0 then (0, 1)
  else ((zf_M_sumOf w2 w4 p1), 0)
def zf_M_set_L4 (w2 : Nat) (w4 : Nat → Int64) : Nat → Nat → Int32 → Int32
  | 0, k, x1 => x1
  | mm + 1, k, x1 => zf_M_set_L4 w2 w4 mm (k + 1) (x1 + (zf_M_setIn w4 (nI k)))
def zf_M_set (w2 : Nat) (w4 : Nat → Int64) : Int32 :=
  zf_M_set_L4 w2 w4 (w2 + 1) 0 0
def zf_M_pack (w0 : Int32) (w2 : Nat) (w4 : Nat → Int64) : Int32 × Int32 :=
  (3 + (6 * (zf_M_set w2 w4)), 0)
def zf_M_placeOf_L4 (w4 : Nat → Int64) (p1 : Int32) : Nat → Nat → Int32 → Int32
  | 0, k, x2 => 0
  | mm + 1, k, x2 => if (lg_cmp (w4 k) (-1)) = 0 then zf_M_placeOf_L4 w4 p1 mm (k + 1) (x2 - 0)
    else if x2 ≤ 0 then nI k
    else zf_M_placeOf_L4 w4 p1 mm (k + 1) (x2 - 1)
def zf_M_placeOf (w4 : Nat → Int64) (p1 : Int32) : Int32 :=
  zf_M_placeOf_L4 w4 p1 310 0 p1
def zf_M_octet (w0 : Int32) (w1 : Int32) (w2 : Nat) (w4 : Nat → Int64) (p1 : Int32) : Int32 × Int32 :=
  if p1 < 0 then (0, 1)
  else if p1 < (3 + (6 * (zf_M_set w2 w4))) then (if 3 ≤ p1 then (if ((p1 - 3) - (p1 - 3) / 6 * 6) = 0 then (if ((zf_M_placeOf w4 ((p1 - 3) / 6)) / 10) = 0 then ((((zf_M_placeOf w4 ((p1 - 3) / 6)).toInt64).toInt32).toInt8.toInt32, 0)
        else ((((10 + ((zf_M_placeOf w4 ((p1 - 3) / 6)) - (zf_M_placeOf w4 ((p1 - 3) / 6)) / 10 * 10)).toInt64).toInt32).toInt8.toInt32, 0))
      else if ((p1 - 3) - (p1 - 3) / 6 * 6) = 1 then (((((zf_M_placeOf w4 ((p1 - 3) / 6)) / 10).toInt64).toInt32).toInt8.toInt32, 0)
      else ((((w4 (zf_M_placeOf w4 ((p1 - 3) / 6)).toNatClampNeg) >>> ((8 * (5 - ((p1 - 3) - (p1 - 3) / 6 * 6))).toInt64 &&& 63)).toInt32).toInt8.toInt32, 0))
    else if p1 = 0 then (w1.toInt8.toInt32, 0)
    else if p1 = 1 then (((zf_M_set w2 w4) >>> (8 &&& 31)).toInt8.toInt32, 0)
    else ((zf_M_set w2 w4).toInt8.toInt32, 0))
  else (0, 1)
theorem zo_M_octet (w0 : Int32) (w1 : Int32) (w2 : Nat) (w4 : Nat → Int64) (p1 : Int32) : narrow .byte (.int ((zf_M_octet w0 w1 w2 w4 p1).1)) = .int ((zf_M_octet w0 w1 w2 w4 p1).1) := by
  unfold zf_M_octet
  by_cases h68 : p1 < 0
  · rw [if_pos h68]
    exact rfl
  · rw [if_neg h68]
    by_cases h69 : p1 < (3 + (6 * (zf_M_set w2 w4)))
    · rw [if_pos h69]
      by_cases h70 : 3 ≤ p1
      · rw [if_pos h70]
        by_cases h71 : ((p1 - 3) - (p1 - 3) / 6 * 6) = 0
        · rw [if_pos h71]
          by_cases h72 : ((zf_M_placeOf w4 ((p1 - 3) / 6)) / 10) = 0
          · rw [if_pos h72]
            exact (pk_nb _)
          · rw [if_neg h72]
            exact (pk_nb _)
        · rw [if_neg h71]
          by_cases h73 : ((p1 - 3) - (p1 - 3) / 6 * 6) = 1
          · rw [if_pos h73]
            exact (pk_nb _)
          · rw [if_neg h73]
            exact (pk_nb _)
      · rw [if_neg h70]
        by_cases h74 : p1 = 0
        · rw [if_pos h74]
          exact (pk_nb _)
        · rw [if_neg h74]
          by_cases h75 : p1 = 1
          · rw [if_pos h75]
            exact (pk_nb _)
          · rw [if_neg h75]
            exact (pk_nb _)
    · rw [if_neg h69]
      exact rfl
def zf_M_ends (w14 : Int32) (p1 : Int32) : Int32 × Int32 :=
  (p1, 0)
def zf_M_whole (w14 : Int32) (w16 : Int32) (w20 : Int32) (w21 : Int32) : Int32 × Int32 × Int32 × Int32 :=
  ((zf_M_ends w14 1).1, (zf_M_ends w14 1).2, w20 + 1, w16)
def zf_M_begins (w14 : Int32) (w15 : Int32) (w16 : Int32) (w17 : Int32) (w20 : Int32) (w21 : Int32) (p1 : Int32) : Int32 × Int32 × Int32 × Int32 × Int32 × Int32 × Int32 :=
  if w14 = 0 then (if p1 ≤ 3 then (0, 1, p1, w16, w17, w20, w21)
    else ((zf_M_ends 1 (-1)).1, (zf_M_ends 1 (-1)).2, p1, w16, w17, w20, w21))
  else if w14 = 1 then (if (256 * p1) ≤ 610 then (0, 2, w15, 256 * p1, w17, w20, w21)
    else ((zf_M_ends 2 (-1)).1, (zf_M_ends 2 (-1)).2, w15, 256 * p1, w17, w20, w21))
  else if (w16 + p1) ≤ 610 then (if (w16 + p1) = 0 then ((zf_M_whole 3 (w16 + p1) w20 w21).1, (zf_M_whole 3 (w16 + p1) w20 w21).2.1, w15, w16 + p1, (-1), (zf_M_whole 3 (w16 + p1) w20 w21).2.2.1, (zf_M_whole 3 (w16 + p1) w20 w21).2.2.2)
    else (0, 3, w15, w16 + p1, (-1), w20, w21))
  else ((zf_M_ends 3 (-1)).1, (zf_M_ends 3 (-1)).2, w15, w16 + p1, (-1), w20, w21)
def zf_M_read (w0 : Int32) (w14 : Int32) (w15 : Int32) (w16 : Int32) (w17 : Int32) (w18 : Int32) (w19 : Int64) (w20 : Int32) (w21 : Int32) (p1 : Int32) : Int32 × Int32 × Int32 × Int32 × Int32 × Int32 × Int32 × Int64 × Int32 × Int32 :=
  if 3 ≤ w14 then (if ((w14 - 3) - (w14 - 3) / 6 * 6) = 0 then (if 19 < (p1 &&& 255) then ((zf_M_ends (w14 + 1) (-1)).1, 0, (zf_M_ends (w14 + 1) (-1)).2, w15, w16, w17, p1 &&& 255, w19, w20, w21)
      else if (zf_M_needOf (p1 &&& 255) w15) = 3 then ((zf_M_ends (w14 + 1) (-1)).1, 0, (zf_M_ends (w14 + 1) (-1)).2, w15, w16, w17, p1 &&& 255, w19, w20, w21)
      else (0, 0, w14 + 1, w15, w16, w17, p1 &&& 255, w19, w20, w21))
    else if ((w14 - 3) - (w14 - 3) / 6 * 6) = 1 then (if 10 ≤ w18 then (if ((10 * (p1 &&& 255)) + (w18 - w18 / 10 * 10)) ≤ w17 then (if (zf_M_in ((p1 &&& 255).toInt64) 1 30) = 0 then ((zf_M_ends (w14 + 1) (-1)).1, 0, (zf_M_ends (w14 + 1) (-1)).2, w15, w16, (10 * (p1 &&& 255)) + (w18 - w18 / 10 * 10), w18, 0, w20, w21)
          else ((zf_M_ends (w14 + 1) (-1)).1, 0, (zf_M_ends (w14 + 1) (-1)).2, w15, w16, (10 * (p1 &&& 255)) + (w18 - w18 / 10 * 10), w18, 0, w20, w21))
        else if (zf_M_in ((p1 &&& 255).toInt64) 1 30) = 0 then ((zf_M_ends (w14 + 1) (-1)).1, 0, (zf_M_ends (w14 + 1) (-1)).2, w15, w16, (10 * (p1 &&& 255)) + (w18 - w18 / 10 * 10), w18, 0, w20, w21)
        else (0, 0, w14 + 1, w15, w16, (10 * (p1 &&& 255)) + (w18 - w18 / 10 * 10), w18, 0, w20, w21))
      else if (p1 &&& 255) = 0 then (if ((10 * (p1 &&& 255)) + (w18 - w18 / 10 * 10)) ≤ w17 then ((zf_M_ends (w14 + 1) (-1)).1, 0, (zf_M_ends (w14 + 1) (-1)).2, w15, w16, (10 * (p1 &&& 255)) + (w18 - w18 / 10 * 10), w18, 0, w20, w21)
        else (0, 0, w14 + 1, w15, w16, (10 * (p1 &&& 255)) + (w18 - w18 / 10 * 10), w18, 0, w20, w21))
      else if ((10 * (p1 &&& 255)) + (w18 - w18 / 10 * 10)) ≤ w17 then ((zf_M_ends (w14 + 1) (-1)).1, 0, (zf_M_ends (w14 + 1) (-1)).2, w15, w16, (10 * (p1 &&& 255)) + (w18 - w18 / 10 * 10), w18, 0, w20, w21)
      else ((zf_M_ends (w14 + 1) (-1)).1, 0, (zf_M_ends (w14 + 1) (-1)).2, w15, w16, (10 * (p1 &&& 255)) + (w18 - w18 / 10 * 10), w18, 0, w20, w21))
    else if 5 ≤ ((w14 - 3) - (w14 - 3) / 6 * 6) then (if (lg_cmp ((256 * w19) + ((p1 &&& 255).toInt64)) 1000000000) ≤ 0 then (if (w14 + 1) = (3 + (6 * w16)) then ((zf_M_whole (w14 + 1) w16 w20 w21).1, 0, (zf_M_whole (w14 + 1) w16 w20 w21).2.1, w15, w16, w17, w18, (256 * w19) + ((p1 &&& 255).toInt64), (zf_M_whole (w14 + 1) w16 w20 w21).2.2.1, (zf_M_whole (w14 + 1) w16 w20 w21).2.2.2)
        else (0, 0, w14 + 1, w15, w16, w17, w18, (256 * w19) + ((p1 &&& 255).toInt64), w20, w21))
      else ((zf_M_ends (w14 + 1) (-1)).1, 0, (zf_M_ends (w14 + 1) (-1)).2, w15, w16, w17, w18, (256 * w19) + ((p1 &&& 255).toInt64), w20, w21))
    else (0, 0, w14 + 1, w15, w16, w17, w18, (256 * w19) + ((p1 &&& 255).toInt64), w20, w21))
  else ((zf_M_begins w14 w15 w16 w17 w20 w21 (p1 &&& 255)).1, 0, (zf_M_begins w14 w15 w16 w17 w20 w21 (p1 &&& 255)).2.1, (zf_M_begins w14 w15 w16 w17 w20 w21 (p1 &&& 255)).2.2.1, (zf_M_begins w14 w15 w16 w17 w20 w21 (p1 &&& 255)).2.2.2.1, (zf_M_begins w14 w15 w16 w17 w20 w21 (p1 &&& 255)).2.2.2.2.1, w18, w19, (zf_M_begins w14 w15 w16 w17 w20 w21 (p1 &&& 255)).2.2.2.2.2.1, (zf_M_begins w14 w15 w16 w17 w20 w21 (p1 &&& 255)).2.2.2.2.2.2)
def zf_M_count_L74 (w0 : Int32) (w1 : Int32) (w2 : Nat) (w3 : Nat → Int32) (w4 : Nat → Int64) (w5 : Int32) (w6 : Int32) (w7 : Nat) (w9 : Nat → Int32) (w10 : Nat) (w11 : Nat → Int32) (w12 : Nat → Int32) (w20 : Int32) (w21 : Int32) (p1 : Int32) (x2 : Int32) : Nat → Nat → Int32 → Int32 × Int32
  | 0, k, x3 => if p1 = 0 then (x2, w0)
    else if p1 = 1 then ((zf_M_set w2 w4), w0)
    else if p1 = 2 then (if w5 = 0 then (0, w0)
      else (1, w0))
    else if p1 = 3 then (x3, w0)
    else if p1 = 4 then (nI w10, w0)
    else if p1 = 5 then (w6, w0)
    else if p1 = 6 then (w1, w0)
    else if p1 = 7 then (w20, w0)
    else if p1 = 8 then (w21, w0)
    else ((-1), w0)
  | mm + 1, k, x3 => if (w9 k) < w6 then zf_M_count_L74 w0 w1 w2 w3 w4 w5 w6 w7 w9 w10 w11 w12 w20 w21 p1 x2 mm (k + 1) (x3 + 0)
    else zf_M_count_L74 w0 w1 w2 w3 w4 w5 w6 w7 w9 w10 w11 w12 w20 w21 p1 x2 mm (k + 1) (x3 + 1)
def zf_M_count_L39 (w0 : Int32) (w1 : Int32) (w2 : Nat) (w3 : Nat → Int32) (w4 : Nat → Int64) (w5 : Int32) (w6 : Int32) (w7 : Nat) (w9 : Nat → Int32) (w10 : Nat) (w11 : Nat → Int32) (w12 : Nat → Int32) (w20 : Int32) (w21 : Int32) (p1 : Int32) : Nat → Nat → Int32 → Int32 × Int32
  | 0, k, x2 => zf_M_count_L74 w0 w1 w2 w3 w4 w5 w6 w7 w9 w10 w11 w12 w20 w21 p1 x2 w7 0 0
  | mm + 1, k, x2 => if (zf_M_isLine w2 w3 (nI k)) = 0 then zf_M_count_L39 w0 w1 w2 w3 w4 w5 w6 w7 w9 w10 w11 w12 w20 w21 p1 mm (k + 1) (x2 + 0)
    else zf_M_count_L39 w0 w1 w2 w3 w4 w5 w6 w7 w9 w10 w11 w12 w20 w21 p1 mm (k + 1) (x2 + 1)
def zf_M_count (w0 : Int32) (w1 : Int32) (w2 : Nat) (w3 : Nat → Int32) (w4 : Nat → Int64) (w5 : Int32) (w6 : Int32) (w7 : Nat) (w9 : Nat → Int32) (w10 : Nat) (w11 : Nat → Int32) (w12 : Nat → Int32) (w20 : Int32) (w21 : Int32) (p1 : Int32) : Int32 × Int32 :=
  if p1 < 100 then zf_M_count_L39 0 w1 w2 w3 w4 w5 w6 w7 w9 w10 w11 w12 w20 w21 p1 w2 1 0
  else if 0 ≤ (zf_M_paperOf w10 w11 (p1 - 100)) then (w12 (zf_M_paperOf w10 w11 (p1 - 100)).toNatClampNeg, 0)
  else ((-1), 0)
def zf_M_init_L86 (w1 : Int32) (p1 : Int32) : Nat → Nat → (Nat → Int64) → Int32 × (Nat → Int64)
  | 0, k, w4 => (w1, w4)
  | mm + 1, k, w4 => zf_M_init_L86 w1 p1 mm (k + 1) (vp_updL w4 k (-1))
def zf_M_init (w1 : Int32) (w4 : Nat → Int64) (p1 : Int32) : Int32 × (Nat → Int64) :=
  if 0 ≤ p1 then (if p1 ≤ 3 then zf_M_init_L86 p1 p1 310 0 w4
    else zf_M_init_L86 3 p1 310 0 w4)
  else zf_M_init_L86 0 p1 310 0 w4
def zs_M (p1 : Int32) : zu_M := (0, (zf_M_init 0 (fun _ => 0) p1).1, 0, (fun _ => 0), (zf_M_init 0 (fun _ => 0) p1).2, 0, 0, 0, (fun _ => 0), (fun _ => 0), 0, (fun _ => 0), (fun _ => 0), (fun _ => 0), 0, 0, 0, 0, 0, 0, 0, 0)
/-! places that the model looks at, in range -/
theorem zy_in {x a b : Int64} (h : ¬ zf_M_in x a b = 0) : a ≤ x ∧ x ≤ b := by
  by_cases h1 : lg_cmp x a < 0
  · exact absurd (by rw [zf_M_in, if_pos h1]) h
  · by_cases h2 : 0 < lg_cmp x b
    · exact absurd (by rw [zf_M_in, if_neg h1, if_pos h2]) h
    · rw [lg_cmp_lt] at h1
      rw [lg_cmp_gt] at h2
      exact ⟨Int64.not_lt.mp h1, Int64.not_lt.mp h2⟩
theorem zy_in0 {x a b : Int64} (h : zf_M_in x a b = 0) : ¬ (a ≤ x ∧ x ≤ b) := by
  intro ⟨h1, h2⟩
  have e1 : ¬ lg_cmp x a < 0 := by rw [lg_cmp_lt]; exact Int64.not_lt.mpr h1
  have e2 : ¬ 0 < lg_cmp x b := by rw [lg_cmp_gt]; exact Int64.not_lt.mpr h2
  rw [zf_M_in, if_neg e1, if_neg e2] at h
  exact absurd h (by decide)
theorem zy_ml {n : Nat} {x : Int32} (hm : n ≤ 30) (h1 : ¬ x < 1) (h2 : ¬ nI n < x) : vp_in x 31 := by
  rw [vp_in_iff]
  rw [Int32.lt_iff_toInt_lt] at h1 h2
  rw [nI_toInt (by omega)] at h2
  have e1 : (1 : Int32).toInt = 1 := by decide
  omega
theorem zy_isl {n : Nat} {g : Nat → Int32} {x : Int32} (hm : n ≤ 30) (h : ¬ zf_M_isLine n g x = 0) : vp_in x 31 := by
  by_cases h1 : x < 1
  · exact absurd (by rw [zf_M_isLine, if_pos h1]) h
  · by_cases h2 : nI n < x
    · exact absurd (by rw [zf_M_isLine, if_neg h1, if_pos h2]) h
    · exact zy_ml hm h1 h2
theorem zy_lkN (a k : Nat) : (10 * nI a) + nI k = nI (10 * a + k) := by
  rw [show (10 : Int32) = nI 10 from rfl, pk_mul, nI_add]
theorem zy_20N (a k : Nat) : (20 * nI a) + nI k = nI (20 * a + k) := by
  rw [show (20 : Int32) = nI 20 from rfl, pk_mul, nI_add]
theorem zy_lk {x : Int32} {k : Nat} (h : vp_in x 31) (hk : k < 10) : vp_in ((10 * x) + (nI k)) 310 := by
  obtain ⟨a, ha, rfl⟩ := vp_in_of h (by decide)
  rw [zy_lkN]
  exact vp_in_nI (by omega) (by decide)
theorem zy_10T {x : Int32} {k : Nat} (h : vp_in x 31) (hk : k = 10) : (10 * x) + 10 ≤ (10 * x) + (nI k) := by
  subst hk
  exact Int32.le_refl _
theorem zy_10F {x : Int32} {k : Nat} (h : vp_in x 31) (hk : k < 10) : ¬ (10 * x) + 10 ≤ (10 * x) + (nI k) := by
  obtain ⟨a, ha, rfl⟩ := vp_in_of h (by decide)
  rw [zy_lkN, show (10 * nI a) + (10 : Int32) = nI (10 * a + 10) from zy_lkN a 10]
  exact nI_ge (by omega) (by omega)
theorem zy_20 {x : Int32} {k : Nat} (h : vp_in x 31) (hk : k < 20) : vp_in ((20 * x) + (nI k)) 620 := by
  obtain ⟨a, ha, rfl⟩ := vp_in_of h (by decide)
  rw [zy_20N]
  exact vp_in_nI (by omega) (by decide)
theorem zy_20r {x y : Int32} (h : vp_in x 31) (h2 : vp_in y 20) : vp_in ((20 * x) + y) 620 := by
  obtain ⟨b, hb, rfl⟩ := vp_in_of h2 (by decide)
  exact zy_20 h hb
theorem zy_atN {f : Nat} (l : Nat) (hf : f < 2 ^ 31) : zf_M_at (nI f) (nI l) = nI (10 * l + f % 10) := by
  rw [zf_M_at, show nI f - nI f / 10 * 10 = nI (f % 10) from pk_rem (d := 10) hf (by decide) (by decide), zy_lkN]
theorem zy_at {f : Int32} {k : Nat} (hf : ¬ f < 0) (hk : k ≤ 30) : vp_in (zf_M_at f (nI k)) 310 := by
  obtain ⟨j, hj, rfl⟩ := nI_of hf
  rw [zy_atN k hj]
  have := Nat.mod_lt j (show 0 < 10 by decide)
  exact vp_in_nI (by omega) (by decide)
theorem zy_inI {x : Int32} {a b : Int64} (h : ¬ zf_M_in x.toInt64 a b = 0) : a.toInt ≤ x.toInt ∧ x.toInt ≤ b.toInt := by
  have := zy_in h
  rw [Int64.le_iff_toInt_le, Int64.le_iff_toInt_le, Int32.toInt_toInt64] at this
  exact this
theorem zy_inI0 {x : Int32} {a b : Int64} (h : zf_M_in x.toInt64 a b = 0) : ¬ (a.toInt ≤ x.toInt ∧ x.toInt ≤ b.toInt) := by
  have := zy_in0 h
  rw [Int64.le_iff_toInt_le, Int64.le_iff_toInt_le, Int32.toInt_toInt64] at this
  exact this
theorem zy_nn {x : Int32} (h : 0 ≤ x.toInt) : ¬ x < 0 := by
  rw [Int32.lt_iff_toInt_lt]
  have e1 : (0 : Int32).toInt = 0 := by decide
  omega
theorem zy_place {n : Nat} {g : Nat → Int32} {f x : Int32} (hm : n ≤ 30) (h : ¬ zf_M_isPlace n g f x = 0) : vp_in (zf_M_at f x) 310 := by
  by_cases h1 : x = 0
  · rw [zf_M_isPlace, if_pos h1] at h
    have h2 := (zy_inI h).1
    subst h1
    exact zy_at (k := 0) (zy_nn h2) (by decide)
  · rw [zf_M_isPlace, if_neg h1] at h
    by_cases h2 : zf_M_in f.toInt64 10 19 = 0
    · rw [if_pos h2] at h
      exact absurd rfl h
    · rw [if_neg h2] at h
      by_cases h3 : zf_M_isLine n g x = 0
      · rw [if_pos h3] at h
        exact absurd rfl h
      · obtain ⟨a, ha, rfl⟩ := vp_in_of (zy_isl hm h3) (by decide)
        have h4 := (zy_inI h2).1
        have e : (10 : Int64).toInt = 10 := by decide
        exact zy_at (zy_nn (by omega)) (by omega)
theorem zy_n20 {n : Nat} (h : n ≤ 20) (h2 : ¬ nI n = 20) : n < 20 := by
  rcases Nat.lt_or_ge n 20 with q | q
  · exact q
  · exact absurd (show nI n = 20 by rw [show n = 20 by omega]; rfl) h2
theorem zy_23 {x : Int32} (h : x = 2 ∨ x = 3) : vp_in x 310 := by
  rcases h with rfl | rfl
  · exact vp_in_nI (n := 2) (by decide) (by decide)
  · exact vp_in_nI (n := 3) (by decide) (by decide)
theorem zy_23f {x : Int32} (h : x = 2 ∨ x = 3) : ¬ x + 10 < 0 := by
  rcases h with rfl | rfl <;> decide
theorem zy_l10 {k : Nat} (hk : k ≤ 30) : vp_in (10 * (nI k)) 310 := by
  rw [show (10 : Int32) = nI 10 from rfl, pk_mul]
  exact vp_in_nI (by omega) (by decide)
theorem zy_sumf {x : Int32} (h : ¬ zf_M_in x.toInt64 10 19 = 0) : ¬ x < 0 := by
  have h4 := (zy_inI h).1
  have e : (10 : Int64).toInt = 10 := by decide
  exact zy_nn (by omega)
theorem zy_mpo (n : Nat) (f : Nat → Int32) (v : Int32) : ∀ (mm k : Nat) (x : Int32), zf_M_paperOf_L4 n f v mm k x = x ∨ ∃ j : Nat, k ≤ j ∧ j < k + mm ∧ zf_M_paperOf_L4 n f v mm k x = nI j ∧ f j = v := by
  intro mm
  induction mm with
  | zero => intro k x; exact Or.inl rfl
  | succ mm ih =>
    intro k x
    by_cases h : f k = v
    · rw [zf_M_paperOf_L4, if_pos h]
      rcases ih (k + 1) (nI k) with q | ⟨j, h1, h2, h3, h4⟩
      · exact Or.inr ⟨k, Nat.le_refl k, by omega, q, h⟩
      · exact Or.inr ⟨j, by omega, by omega, h3, h4⟩
    · rw [zf_M_paperOf_L4, if_neg h]
      rcases ih (k + 1) x with q | ⟨j, h1, h2, h3, h4⟩
      · exact Or.inl q
      · exact Or.inr ⟨j, by omega, by omega, h3, h4⟩
theorem zy_mpf {n : Nat} {f : Nat → Int32} {v : Int32} (hp : n ≤ 20) (h : ¬ zf_M_paperOf n f v < 0) : vp_in (zf_M_paperOf n f v) 20 := by
  rcases zy_mpo n f v n 0 (-1) with q | ⟨j, h1, h2, h3, h4⟩
  · exact absurd (show zf_M_paperOf n f v < 0 by rw [zf_M_paperOf, q]; decide) h
  · rw [zf_M_paperOf, h3]
    exact vp_in_nI (by omega) (by decide)
theorem zy_mpf2 {n : Nat} {f : Nat → Int32} {v : Int32} (hp : n ≤ 20) (h : 0 ≤ zf_M_paperOf n f v) : vp_in (zf_M_paperOf n f v) 20 := zy_mpf hp (Int32.not_lt.mpr h)
/-- from place k on, in mm places, more than x are set -/
def zy_more (w4 : Nat → Int64) : Nat → Nat → Int32 → Prop
  | 0, _, _ => False
  | mm + 1, k, x => if (lg_cmp (w4 k) (-1)) = 0 then zy_more w4 mm (k + 1) (x - 0) else if x ≤ 0 then True else zy_more w4 mm (k + 1) (x - 1)
theorem zy_plcN (w4 : Nat → Int64) (p : Int32) : ∀ (mm k : Nat) (x : Int32), zy_more w4 mm k x → ∃ j : Nat, k ≤ j ∧ j < k + mm ∧ zf_M_placeOf_L4 w4 p mm k x = nI j ∧ ¬ w4 j = -1 := by
  intro mm
  induction mm with
  | zero => intro k x h; exact h.elim
  | succ mm ih =>
    intro k x h
    rw [zy_more] at h
    rw [zf_M_placeOf_L4]
    by_cases h1 : lg_cmp (w4 k) (-1) = 0
    · rw [if_pos h1] at h ⊢
      obtain ⟨j, a, b, c, d⟩ := ih _ _ h
      exact ⟨j, by omega, by omega, c, d⟩
    · rw [if_neg h1] at h ⊢
      by_cases h2 : x ≤ 0
      · rw [if_pos h2]
        exact ⟨k, by omega, by omega, rfl, fun z => h1 ((lg_cmp_eq _ _).mpr z)⟩
      · rw [if_neg h2] at h ⊢
        obtain ⟨j, a, b, c, d⟩ := ih _ _ h
        exact ⟨j, by omega, by omega, c, d⟩
theorem zy_plc {w4 : Nat → Int64} {x : Int32} (h : zy_more w4 310 0 x) : vp_in (zf_M_placeOf w4 x) 310 := by
  obtain ⟨j, a, b, c, d⟩ := zy_plcN w4 x 310 0 x h
  rw [zf_M_placeOf, c]
  exact vp_in_nI (by omega) (by decide)

