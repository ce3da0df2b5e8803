/-! WHAT BOTH SIDES SAY: counts, the sheet against the model's lines and values -/
def ze_c (P : Nat → Bool) : Nat → Nat → Nat
  | 0, _ => 0
  | n + 1, k => (if P k then 1 else 0) + ze_c P n (k + 1)
theorem ze_c_add (P : Nat → Bool) : ∀ a b k : Nat, ze_c P (a + b) k = ze_c P a k + ze_c P b (k + a) := by
  intro a
  induction a with
  | zero => intro b k; rw [Nat.zero_add, ze_c, Nat.zero_add, Nat.add_zero]
  | succ a ih =>
    intro b k
    rw [show a + 1 + b = (a + b) + 1 by omega, ze_c, ze_c, ih, show k + 1 + a = k + (a + 1) by omega]
    omega
theorem ze_c_congr {P Q : Nat → Bool} : ∀ n k : Nat, (∀ i, k ≤ i → i < k + n → P i = Q i) → ze_c P n k = ze_c Q n k := by
  intro n
  induction n with
  | zero => intro k _; rfl
  | succ n ih =>
    intro k h
    rw [ze_c, ze_c, h k (by omega) (by omega), ih (k + 1) (fun i h1 h2 => h i (by omega) (by omega))]
theorem ze_c_le (P : Nat → Bool) : ∀ n k : Nat, ze_c P n k ≤ n := by
  intro n
  induction n with
  | zero => intro k; exact Nat.le_refl 0
  | succ n ih =>
    intro k
    rw [ze_c]
    have := ih (k + 1)
    split <;> omega
theorem ze_c_zero {P : Nat → Bool} : ∀ n k : Nat, (∀ i, k ≤ i → i < k + n → P i = false) → ze_c P n k = 0 := by
  intro n
  induction n with
  | zero => intro k _; rfl
  | succ n ih =>
    intro k h
    rw [ze_c, h k (by omega) (by omega), ih (k + 1) (fun i h1 h2 => h i (by omega) (by omega))]
    rfl
/-- one place differs -/
theorem ze_c_one {P Q : Nat → Bool} {j : Nat} : ∀ n k : Nat, k ≤ j → j < k + n → (∀ i, i ≠ j → P i = Q i) → ze_c P n k + (if Q j then 1 else 0) = ze_c Q n k + (if P j then 1 else 0) := by
  intro n
  induction n with
  | zero => intro k h1 h2; omega
  | succ n ih =>
    intro k h1 h2 h
    rw [ze_c, ze_c]
    by_cases e : k = j
    · subst e
      rw [ze_c_congr (P := P) (Q := Q) n (k + 1) (fun i h3 _ => h i (by omega))]
      omega
    · have := ih (k + 1) (by omega) (by omega) h
      rw [h k e]
      omega
def ze_set (v : Nat → Int32) : Nat → Bool := fun i => decide (¬ v i = -1)
theorem ze_set_t {v : Nat → Int32} {i : Nat} (h : ¬ v i = -1) : ze_set v i = true := decide_eq_true h
theorem ze_set_f {v : Nat → Int32} {i : Nat} (h : v i = -1) : ze_set v i = false := decide_eq_false (fun g => g h)
def ze_ok (x : Int32) : Prop := x = -1 ∨ ∃ n : Nat, n ≤ 1000000000 ∧ x = nI n
theorem ze_m1 (x : Int32) : lg_cmp x.toInt64 (-1) = 0 ↔ x = -1 := by
  rw [lg_cmp_eq]
  constructor
  · intro h
    have h2 := congrArg Int64.toInt h
    rw [Int32.toInt_toInt64] at h2
    exact Int32.toInt_inj.mp (by rw [h2]; decide)
  · intro h; rw [h]; decide
theorem ze_nm1 {n : Nat} (h : n < 2 ^ 31) : ¬ nI n = -1 := by
  intro e
  have := congrArg Int32.toInt e
  rw [nI_toInt h] at this
  have e2 : (-1 : Int32).toInt = -1 := by decide
  omega
/-- the sheet and the model's lines and values -/
abbrev ze_S (s : zu_S) (w2 : Nat) (w3 : Nat → Int32) (w4 : Nat → Int64) : Prop := (s.2.2.1 = w2) ∧ (w2 ≤ 30) ∧ (∀ i, i < 310 → w4 i = (s.1 i).toInt64) ∧ (∀ i, i < 310 → ze_ok (s.1 i)) ∧ (∀ l, 1 ≤ l → l ≤ 30 → (s.2.1 l = 0 ↔ ¬ (l ≤ w2 ∧ w3 l = 0))) ∧ (s.2.1 0 = 0) ∧ (∀ l, w2 < l → l ≤ 30 → w3 l = 0) ∧ (∀ l, l ≤ 30 → s.2.1 l = 0 ∨ s.2.1 l = 1) ∧ (∀ i, 10 ≤ i → i < 310 → s.2.1 (i / 10) = 0 → s.1 i = -1) ∧ (s.2.2.2.1 = nI (ze_c (fun l => decide (¬ s.2.1 l = 0)) 31 0)) ∧ (s.2.2.2.2 = nI (ze_c (ze_set s.1) 310 0))
theorem ze_S.made {s : zu_S} {w2 : Nat} {w3 : Nat → Int32} {w4 : Nat → Int64} (h : ze_S s w2 w3 w4) : s.2.2.1 = w2 := h.1
theorem ze_S.m30 {s : zu_S} {w2 : Nat} {w3 : Nat → Int32} {w4 : Nat → Int64} (h : ze_S s w2 w3 w4) : w2 ≤ 30 := h.2.1
theorem ze_S.val {s : zu_S} {w2 : Nat} {w3 : Nat → Int32} {w4 : Nat → Int64} (h : ze_S s w2 w3 w4) : ∀ i, i < 310 → w4 i = (s.1 i).toInt64 := h.2.2.1
theorem ze_S.ok {s : zu_S} {w2 : Nat} {w3 : Nat → Int32} {w4 : Nat → Int64} (h : ze_S s w2 w3 w4) : ∀ i, i < 310 → ze_ok (s.1 i) := h.2.2.2.1
theorem ze_S.opn {s : zu_S} {w2 : Nat} {w3 : Nat → Int32} {w4 : Nat → Int64} (h : ze_S s w2 w3 w4) : ∀ l, 1 ≤ l → l ≤ 30 → (s.2.1 l = 0 ↔ ¬ (l ≤ w2 ∧ w3 l = 0)) := h.2.2.2.2.1
theorem ze_S.o0 {s : zu_S} {w2 : Nat} {w3 : Nat → Int32} {w4 : Nat → Int64} (h : ze_S s w2 w3 w4) : s.2.1 0 = 0 := h.2.2.2.2.2.1
theorem ze_S.g0 {s : zu_S} {w2 : Nat} {w3 : Nat → Int32} {w4 : Nat → Int64} (h : ze_S s w2 w3 w4) : ∀ l, w2 < l → l ≤ 30 → w3 l = 0 := h.2.2.2.2.2.2.1
theorem ze_S.bit {s : zu_S} {w2 : Nat} {w3 : Nat → Int32} {w4 : Nat → Int64} (h : ze_S s w2 w3 w4) : ∀ l, l ≤ 30 → s.2.1 l = 0 ∨ s.2.1 l = 1 := h.2.2.2.2.2.2.2.1
theorem ze_S.off {s : zu_S} {w2 : Nat} {w3 : Nat → Int32} {w4 : Nat → Int64} (h : ze_S s w2 w3 w4) : ∀ i, 10 ≤ i → i < 310 → s.2.1 (i / 10) = 0 → s.1 i = -1 := h.2.2.2.2.2.2.2.2.1
theorem ze_S.opened {s : zu_S} {w2 : Nat} {w3 : Nat → Int32} {w4 : Nat → Int64} (h : ze_S s w2 w3 w4) : s.2.2.2.1 = nI (ze_c (fun l => decide (¬ s.2.1 l = 0)) 31 0) := h.2.2.2.2.2.2.2.2.2.1
theorem ze_S.filled {s : zu_S} {w2 : Nat} {w3 : Nat → Int32} {w4 : Nat → Int64} (h : ze_S s w2 w3 w4) : s.2.2.2.2 = nI (ze_c (ze_set s.1) 310 0) := h.2.2.2.2.2.2.2.2.2.2
theorem ze_S.mk {s : zu_S} {w2 : Nat} {w3 : Nat → Int32} {w4 : Nat → Int64} (made : s.2.2.1 = w2) (m30 : w2 ≤ 30) (val : ∀ i, i < 310 → w4 i = (s.1 i).toInt64) (ok : ∀ i, i < 310 → ze_ok (s.1 i)) (opn : ∀ l, 1 ≤ l → l ≤ 30 → (s.2.1 l = 0 ↔ ¬ (l ≤ w2 ∧ w3 l = 0))) (o0 : s.2.1 0 = 0) (g0 : ∀ l, w2 < l → l ≤ 30 → w3 l = 0) (bit : ∀ l, l ≤ 30 → s.2.1 l = 0 ∨ s.2.1 l = 1) (off : ∀ i, 10 ≤ i → i < 310 → s.2.1 (i / 10) = 0 → s.1 i = -1) (opened : s.2.2.2.1 = nI (ze_c (fun l => decide (¬ s.2.1 l = 0)) 31 0)) (filled : s.2.2.2.2 = nI (ze_c (ze_set s.1) 310 0)) : ze_S s w2 w3 w4 := ⟨made, m30, val, ok, opn, o0, g0, bit, off, opened, filled⟩
theorem ze_i32 (x : Int32) {n : Nat} (hn : n < 2 ^ 31) : x < 1 ∨ nI n < x ∨ ∃ l : Nat, 1 ≤ l ∧ l ≤ n ∧ x = nI l := by
  by_cases h1 : x < 1
  · exact Or.inl h1
  · by_cases h2 : nI n < x
    · exact Or.inr (Or.inl h2)
    · refine Or.inr (Or.inr ?_)
      have h3 : ¬ x < 0 := by
        rw [Int32.lt_iff_toInt_lt] at h1 ⊢
        have e1 : (1 : Int32).toInt = 1 := by decide
        have e0 : (0 : Int32).toInt = 0 := by decide
        omega
      obtain ⟨j, hj, rfl⟩ := nI_of h3
      rw [Int32.lt_iff_toInt_lt, nI_toInt hj, show (1 : Int32).toInt = 1 by decide] at h1
      rw [Int32.lt_iff_toInt_lt, nI_toInt hj, nI_toInt hn] at h2
      exact ⟨j, by omega, by omega, rfl⟩
theorem ze_hasN {s : zu_S} {l : Nat} (h1 : 1 ≤ l) (h2 : l ≤ 30) : zf_S_hasLine s (nI l) = if s.2.1 l = 0 then 0 else 1 := by
  rw [zf_S_hasLine, if_neg (show ¬ nI l < 1 from nI_nlt (b := 1) h1 (by omega)), if_neg (show ¬ 30 < nI l from nI_nlt (a := 30) h2 (by omega)), nI_clamp (by omega)]
theorem ze_islN {w2 : Nat} {w3 : Nat → Int32} {l : Nat} (hm : w2 ≤ 30) (h1 : 1 ≤ l) (h2 : l ≤ 30) : zf_M_isLine w2 w3 (nI l) = if l ≤ w2 ∧ w3 l = 0 then 1 else 0 := by
  rw [zf_M_isLine, if_neg (show ¬ nI l < 1 from nI_nlt (b := 1) h1 (by omega)), nI_clamp (by omega)]
  by_cases h3 : l ≤ w2
  · rw [if_neg (nI_nlt h3 (by omega))]
    by_cases h4 : w3 l = 0
    · rw [if_pos h4, if_pos ⟨h3, h4⟩]
    · rw [if_neg h4, if_neg (fun h => h4 h.2)]
  · rw [if_pos (nI_lt (by omega) (by omega)), if_neg (fun h => h3 h.1)]
theorem ze_has {s : zu_S} {w2 : Nat} {w3 : Nat → Int32} {w4 : Nat → Int64} (h : ze_S s w2 w3 w4) (p : Int32) : zf_S_hasLine s p = zf_M_isLine w2 w3 p := by
  rcases ze_i32 p (n := 30) (by decide) with h1 | h1 | ⟨l, h1, h2, rfl⟩
  · rw [zf_S_hasLine, if_pos h1, zf_M_isLine, if_pos h1]
  · by_cases h0 : p < 1
    · rw [zf_S_hasLine, if_pos h0, zf_M_isLine, if_pos h0]
    · rw [zf_S_hasLine, if_neg h0, if_pos (show 30 < p from h1), zf_M_isLine, if_neg h0, if_pos]
      have h3 : nI w2 ≤ nI 30 := nI_le h.m30 (by decide)
      rw [Int32.lt_iff_toInt_lt] at h1 ⊢
      rw [Int32.le_iff_toInt_le] at h3
      omega
  · rw [ze_hasN h1 h2, ze_islN h.m30 h1 h2]
    have := h.opn l h1 h2
    by_cases h3 : s.2.1 l = 0
    · rw [if_pos h3, if_neg (this.mp h3)]
    · rw [if_neg h3, if_pos (Classical.not_not.mp (fun g => h3 (this.mpr g)))]
/-- a place of the sheet -/
def ze_pl (s : zu_S) (i : Nat) : Prop := i < 310 ∧ (i < 10 ∨ ¬ s.2.1 (i / 10) = 0)
theorem ze_lo {x : Int32} {a : Nat} (ha : a < 2 ^ 31) (h : ¬ nI a ≤ x) : x.toInt < a := by
  rw [Int32.le_iff_toInt_le, nI_toInt ha] at h
  omega
theorem ze_inT {x : Int32} {a b : Int64} (h : a.toInt ≤ x.toInt ∧ x.toInt ≤ b.toInt) : ¬ zf_M_in x.toInt64 a b = 0 := fun g => zy_inI0 g h
theorem ze_inF {x : Int32} {a b : Int64} (h : ¬ (a.toInt ≤ x.toInt ∧ x.toInt ≤ b.toInt)) : zf_M_in x.toInt64 a b = 0 := Classical.byContradiction (fun g => h (zy_inI g))
theorem ze_fld (f : Int32) : f < 0 ∨ (∃ j : Nat, j < 10 ∧ f = nI j) ∨ (∃ j : Nat, j < 10 ∧ f = nI (10 + j)) ∨ 19 < f := by
  by_cases h1 : f < 0
  · exact Or.inl h1
  · obtain ⟨j, hj, rfl⟩ := nI_of h1
    rcases Nat.lt_or_ge j 10 with q | q
    · exact Or.inr (Or.inl ⟨j, q, rfl⟩)
    · rcases Nat.lt_or_ge j 20 with r | r
      · exact Or.inr (Or.inr (Or.inl ⟨j - 10, by omega, by rw [show 10 + (j - 10) = j by omega]⟩))
      · exact Or.inr (Or.inr (Or.inr (show nI 19 < nI j from nI_lt (by omega) hj)))
/-- the slot that the class finds is the place that the model finds -/
theorem ze_slot {s : zu_S} {w2 : Nat} {w3 : Nat → Int32} {w4 : Nat → Int64} (h : ze_S s w2 w3 w4) (f p : Int32) : (zf_M_isPlace w2 w3 f p = 0 ∧ zf_S_slotOf s f p = -1) ∨ (¬ zf_M_isPlace w2 w3 f p = 0 ∧ ∃ i : Nat, ze_pl s i ∧ zf_S_slotOf s f p = nI i ∧ zf_M_at f p = nI i) := by
  have e0 : (0 : Int64).toInt = 0 := by decide
  have e9 : (9 : Int64).toInt = 9 := by decide
  have e10 : (10 : Int64).toInt = 10 := by decide
  have e19 : (19 : Int64).toInt = 19 := by decide
  have i0 : (0 : Int32).toInt = 0 := by decide
  have i19 : (19 : Int32).toInt = 19 := by decide
  rcases ze_fld f with hf | ⟨j, hj, rfl⟩ | ⟨j, hj, rfl⟩ | hf
  · refine Or.inl ⟨?_, by rw [zf_S_slotOf, if_pos hf]⟩
    rw [Int32.lt_iff_toInt_lt] at hf
    rw [zf_M_isPlace]
    by_cases hp : p = 0
    · rw [if_pos hp, ze_inF (by omega)]
    · rw [if_neg hp, if_pos (ze_inF (by omega))]
  · have t := nI_toInt (n := j) (by omega)
    have n0 : ¬ nI j < 0 := nI_pos (by omega)
    have n19 : nI j ≤ 19 := nI_le (b := 19) (by omega) (by decide)
    have n10 : ¬ 10 ≤ nI j := nI_ge (b := 10) (by omega) (by decide)
    by_cases hp : p = 0
    · refine Or.inr ⟨by rw [zf_M_isPlace, if_pos hp]; exact ze_inT (by omega), j, ⟨by omega, Or.inl hj⟩, ?_, ?_⟩
      · rw [zf_S_slotOf, if_neg n0, if_pos n19, if_neg n10, if_pos hp]
      · rw [hp, show (0 : Int32) = nI 0 from rfl, zy_atN 0 (by omega), show 10 * 0 + j % 10 = j by omega]
    · refine Or.inl ⟨?_, by rw [zf_S_slotOf, if_neg n0, if_pos n19, if_neg n10, if_neg hp]⟩
      rw [zf_M_isPlace, if_neg hp, if_pos (ze_inF (by omega))]
  · have t := nI_toInt (n := 10 + j) (by omega)
    have n0 : ¬ nI (10 + j) < 0 := nI_pos (by omega)
    have n19 : nI (10 + j) ≤ 19 := nI_le (b := 19) (by omega) (by decide)
    have n10 : 10 ≤ nI (10 + j) := nI_le (a := 10) (by omega) (by omega)
    have hs : zf_S_slotOf s (nI (10 + j)) p = if zf_S_hasLine s p = 0 then -1 else ((p * 10) + nI (10 + j)) - 10 := by
      rw [zf_S_slotOf, if_neg n0, if_pos n19, if_pos n10]
    by_cases hp : p = 0
    · refine Or.inl ⟨by rw [zf_M_isPlace, if_pos hp, ze_inF (by omega)], ?_⟩
      rw [hs, if_pos]
      rw [hp, zf_S_hasLine, if_pos (by decide)]
    · have hin : ¬ zf_M_in (nI (10 + j)).toInt64 10 19 = 0 := ze_inT (by omega)
      by_cases hl : zf_M_isLine w2 w3 p = 0
      · exact Or.inl ⟨by rw [zf_M_isPlace, if_neg hp, if_neg hin, if_pos hl], by rw [hs, ze_has h, if_pos hl]⟩
      · obtain ⟨l, hl1, rfl⟩ := vp_in_of (zy_isl h.m30 hl) (by decide)
        have l1 : 1 ≤ l := by
          rcases Nat.eq_zero_or_pos l with e | e
          · exact absurd (by rw [e]; rfl) hp
          · exact e
        refine Or.inr ⟨by rw [zf_M_isPlace, if_neg hp, if_neg hin, if_neg hl]; decide, 10 * l + j, ⟨by omega, Or.inr ?_⟩, ?_, ?_⟩
        · rw [show (10 * l + j) / 10 = l by omega]
          intro g
          rw [← ze_has h, ze_hasN l1 (by omega), if_pos g] at hl
          exact hl rfl
        · rw [hs, ze_has h, if_neg hl, show (10 : Int32) = nI 10 from rfl, pk_mul, nI_add, pk_sub (by omega)]
          congr 1
          omega
        · rw [zy_atN l (by omega)]
          congr 1
          omega
  · refine Or.inl ⟨?_, ?_⟩
    · rw [Int32.lt_iff_toInt_lt] at hf
      rw [zf_M_isPlace]
      by_cases hp : p = 0
      · rw [if_pos hp, ze_inF (by omega)]
      · rw [if_neg hp, if_pos (ze_inF (by omega))]
    · rw [zf_S_slotOf, if_neg, if_neg]
      · rw [Int32.le_iff_toInt_le]; rw [Int32.lt_iff_toInt_lt] at hf; omega
      · rw [Int32.lt_iff_toInt_lt] at hf ⊢; omega
theorem ze_vAt (s : zu_S) {i : Nat} (h : i < 310) : zf_S_valueAt s (nI i) = s.1 i := by
  rw [zf_S_valueAt, if_neg (nI_pos (by omega)), if_pos (show nI i < 310 from nI_lt (b := 310) h (by decide)), nI_clamp (by omega)]
theorem ze_vNo (s : zu_S) : zf_S_valueAt s (-1) = -1 := by rw [zf_S_valueAt, if_pos (by decide)]
/-! setting and clearing a place; the sums; what is set -/
theorem ze_putE (s : zu_S) {i : Nat} (hi : i < 310) (x : Int32) (hf : s.2.2.2.2 = nI (ze_c (ze_set s.1) 310 0)) : zf_S_put s (nI i) x = (upd s.1 i x, s.2.1, s.2.2.1, s.2.2.2.1, nI (ze_c (ze_set (upd s.1 i x)) 310 0)) := by
  have hc := ze_c_one (P := ze_set (upd s.1 i x)) (Q := ze_set s.1) (j := i) 310 0 (by omega) (by omega) (fun k hk => by rw [ze_set, ze_set, pk_un hk])
  rw [zf_S_put, if_neg (nI_pos (by omega)), if_pos (show nI i < 310 from nI_lt (b := 310) hi (by decide)), nI_clamp (by omega)]
  generalize ze_c (ze_set s.1) 310 0 = c at hc hf
  generalize ze_c (ze_set (upd s.1 i x)) 310 0 = c' at hc
  by_cases h1 : s.1 i = -1
  · rw [if_pos h1]
    rw [ze_set_f h1] at hc
    by_cases h2 : x = -1
    · rw [if_pos h2]
      rw [ze_set_f (show upd s.1 i x i = -1 by rw [pk_us]; exact h2)] at hc
      rw [hf, show c = c' by simpa using hc.symm]
    · rw [if_neg h2]
      rw [ze_set_t (show ¬ upd s.1 i x i = -1 by rw [pk_us]; exact h2)] at hc
      rw [hf, show c' = c + 1 by simpa using hc, nI_1]
  · rw [if_neg h1]
    rw [ze_set_t h1] at hc
    by_cases h2 : x = -1
    · rw [if_pos h2]
      rw [ze_set_f (show upd s.1 i x i = -1 by rw [pk_us]; exact h2)] at hc
      rw [hf, show c = c' + 1 by simpa using hc.symm, nI_pred]
    · rw [if_neg h2]
      rw [ze_set_t (show ¬ upd s.1 i x i = -1 by rw [pk_us]; exact h2)] at hc
      have e : c' = c := by simpa using hc
      subst e
      rw [hf, Int32.sub_add_cancel]
theorem ze_put {s : zu_S} {w2 : Nat} {w3 : Nat → Int32} {w4 : Nat → Int64} (h : ze_S s w2 w3 w4) {i : Nat} (hi : ze_pl s i) {x : Int32} (hx : ze_ok x) : ze_S (zf_S_put s (nI i) x) w2 w3 (vp_updL w4 i x.toInt64) := by
  rw [ze_putE s hi.1 x h.filled]
  exact ze_S.mk
    (made := h.made)
    (m30 := h.m30)
    (val := fun j hj => by
      by_cases e : j = i
      · subst e; show _ = (upd s.1 j x j).toInt64; rw [pk_us, pk_uLs]
      · show _ = (upd s.1 i x j).toInt64; rw [pk_un e, pk_uLn e]; exact h.val j hj)
    (ok := fun j hj => by
      show ze_ok (upd s.1 i x j)
      by_cases e : j = i
      · subst e; rw [pk_us]; exact hx
      · rw [pk_un e]; exact h.ok j hj)
    (opn := h.opn)
    (o0 := h.o0)
    (g0 := h.g0)
    (bit := h.bit)
    (off := fun j h1 h2 h3 => by
      show upd s.1 i x j = -1
      have e : j ≠ i := fun e => by
        subst e
        rcases hi.2 with g | g
        · omega
        · exact g h3
      rw [pk_un e]; exact h.off j h1 h2 h3)
    (opened := h.opened)
    (filled := rfl)
theorem ze_put_o {s : zu_S} {i : Nat} (hi : i < 310) (x : Int32) : (zf_S_put s (nI i) x).2.1 = s.2.1 ∧ (zf_S_put s (nI i) x).1 = upd s.1 i x := by
  rw [zf_S_put, if_neg (nI_pos (by omega)), if_pos (show nI i < 310 from nI_lt (b := 310) hi (by decide)), nI_clamp (by omega)]
  by_cases h1 : s.1 i = -1 <;> by_cases h2 : x = -1 <;> simp only [h1, h2, if_true, if_false, and_self]
theorem ze_okV {x : Int64} (h : ¬ zf_M_in x 0 1000000000 = 0) : ze_ok x.toInt32 ∧ x.toInt32.toInt64 = x := by
  obtain ⟨h1, h2⟩ := zy_in h
  obtain ⟨k, hk, rfl⟩ := pk_lOf (Int64.not_lt.mpr h1)
  have h3 : k ≤ 1000000000 := (pk_lLE hk (b := 1000000000) (by decide)).mp h2
  rw [lN_i]
  exact ⟨Or.inr ⟨k, h3, rfl⟩, nI_l (by omega)⟩
/-! the sums -/
theorem ze_line {s : zu_S} {w2 : Nat} {w3 : Nat → Int32} {w4 : Nat → Int64} (h : ze_S s w2 w3 w4) {f l : Nat} (hf : f < 10) (h1 : 1 ≤ l) (h2 : l ≤ 30) : zf_S_valueAt s (zf_S_slotOf s (nI (10 + f)) (nI l)) = s.1 (10 * l + f) ∧ zf_M_at (nI (10 + f)) (nI l) = nI (10 * l + f) ∧ (¬ s.2.1 l = 0 → zf_S_slotOf s (nI (10 + f)) (nI l) = nI (10 * l + f)) := by
  have n0 : ¬ nI (10 + f) < 0 := nI_pos (by omega)
  have n19 : nI (10 + f) ≤ 19 := nI_le (b := 19) (by omega) (by decide)
  have n10 : 10 ≤ nI (10 + f) := nI_le (a := 10) (by omega) (by omega)
  have hs : zf_S_slotOf s (nI (10 + f)) (nI l) = if zf_S_hasLine s (nI l) = 0 then -1 else ((nI l * 10) + nI (10 + f)) - 10 := by
    rw [zf_S_slotOf, if_neg n0, if_pos n19, if_pos n10]
  have e : ((nI l * 10) + nI (10 + f)) - 10 = nI (10 * l + f) := by
    rw [show (10 : Int32) = nI 10 from rfl, pk_mul, nI_add, pk_sub (by omega)]
    congr 1
    omega
  have ea : zf_M_at (nI (10 + f)) (nI l) = nI (10 * l + f) := by
    rw [zy_atN l (by omega)]
    congr 1
    omega
  rw [hs, ze_hasN h1 h2, e]
  by_cases g : s.2.1 l = 0
  · rw [if_pos g, if_pos rfl, ze_vNo]
    exact ⟨(h.off (10 * l + f) (by omega) (by omega) (by rw [show (10 * l + f) / 10 = l by omega]; exact g)).symm, ea, fun q => absurd g q⟩
  · rw [if_neg g, if_neg (by decide), ze_vAt s (by omega)]
    exact ⟨rfl, ea, fun _ => rfl⟩
theorem ze_max {x : Int32} (h : ze_ok x) : (if 0 < x then x else 0).toInt64 = if x = -1 then 0 else x.toInt64 := by
  rcases h with rfl | ⟨n, hn, rfl⟩
  · decide
  · rw [if_neg (ze_nm1 (by omega))]
    by_cases h : 0 < nI n
    · rw [if_pos h]
    · rw [if_neg h]
      rcases Nat.eq_zero_or_pos n with e | e
      · subst e; rfl
      · exact absurd (nI_lt (a := 0) e (by omega)) h
theorem ze_sumL {s : zu_S} {w2 : Nat} {w3 : Nat → Int32} {w4 : Nat → Int64} (h : ze_S s w2 w3 w4) {f : Nat} (hf : f < 10) : ∀ (mm r k : Nat) (x : Int64), 1 ≤ k → k + mm ≤ 31 → zf_S_total_L5 s (nI (10 + f)) (mm + r) k x = zf_S_total_L5 s (nI (10 + f)) r (k + mm) (zf_M_sumOf_L5 w2 w4 (nI (10 + f)) mm k x) := by
  intro mm
  induction mm with
  | zero => intro r k x _ _; rw [Nat.zero_add, Nat.add_zero, zf_M_sumOf_L5]
  | succ mm ih =>
    intro r k x h1 h2
    obtain ⟨e1, e2, -⟩ := ze_line h hf h1 (by omega)
    rw [show mm + 1 + r = (mm + r) + 1 by omega, zf_S_total_L5, ih r (k + 1) _ (by omega) (by omega), zf_M_sumOf_L5, e1, e2, nI_clamp (by omega), h.val _ (by omega), ze_max (h.ok _ (by omega)), show k + 1 + mm = k + (mm + 1) by omega]
    by_cases g : s.1 (10 * k + f) = -1
    · rw [if_pos g, if_pos ((ze_m1 _).mpr g)]
    · rw [if_neg g, if_neg (fun q => g ((ze_m1 _).mp q))]
theorem ze_sumR {s : zu_S} {w2 : Nat} {w3 : Nat → Int32} {w4 : Nat → Int64} (h : ze_S s w2 w3 w4) {f : Nat} (hf : f < 10) : ∀ (r k : Nat) (x : Int64), w2 < k → k + r = 31 → zf_S_total_L5 s (nI (10 + f)) r k x = x := by
  intro r
  induction r with
  | zero => intro k x _ _; rw [zf_S_total_L5]
  | succ r ih =>
    intro k x h1 h2
    obtain ⟨e1, -, -⟩ := ze_line h hf (l := k) (by omega) (by omega)
    have ho : s.2.1 k = 0 := (h.opn k (by omega) (by omega)).mpr (fun g => by omega)
    rw [zf_S_total_L5, ih (k + 1) _ (by omega) (by omega), e1, h.off (10 * k + f) (by omega) (by omega) (by rw [show (10 * k + f) / 10 = k by omega]; exact ho), if_neg (by decide)]
    exact Int64.add_zero x
theorem ze_sum {s : zu_S} {w2 : Nat} {w3 : Nat → Int32} {w4 : Nat → Int64} (h : ze_S s w2 w3 w4) {f : Nat} (hf : f < 10) : zf_S_total s (nI (10 + f)) = zf_M_sumOf w2 w4 (nI (10 + f)) := by
  have := h.m30
  rw [zf_S_total, show (30 : Nat) = w2 + (30 - w2) by omega, ze_sumL h hf _ _ 1 0 (by omega) (by omega), ze_sumR h hf _ _ _ (by omega) (by omega), zf_M_sumOf]
/-! how many are set -/
theorem ze_setInL {s : zu_S} {w2 : Nat} {w3 : Nat → Int32} {w4 : Nat → Int64} (h : ze_S s w2 w3 w4) {l : Nat} (hl : l ≤ 30) : ∀ (mm k : Nat) (x : Int32), k + mm ≤ 10 → zf_M_setIn_L7 w4 (nI l) mm k x = x + nI (ze_c (ze_set s.1) mm (10 * l + k)) := by
  intro mm
  induction mm with
  | zero => intro k x _; rw [zf_M_setIn_L7, ze_c, nI_0, Int32.add_zero]
  | succ mm ih =>
    intro k x h1
    rw [zf_M_setIn_L7, zy_lkN, nI_clamp (by omega), h.val _ (by omega), ih _ _ (by omega), ih _ _ (by omega), ze_c, show 10 * l + (k + 1) = 10 * l + k + 1 by omega]
    by_cases g : s.1 (10 * l + k) = -1
    · rw [if_pos ((ze_m1 _).mpr g), ze_set_f g]
      simp
    · rw [if_neg (fun q => g ((ze_m1 _).mp q)), ze_set_t g, Int32.add_assoc]
      rw [show (1 : Int32) = nI 1 from rfl, nI_add]
      rfl
theorem ze_setIn {s : zu_S} {w2 : Nat} {w3 : Nat → Int32} {w4 : Nat → Int64} (h : ze_S s w2 w3 w4) {l : Nat} (hl : l ≤ 30) : zf_M_setIn w4 (nI l) = nI (ze_c (ze_set s.1) 10 (10 * l)) := by
  rw [zf_M_setIn, ze_setInL h hl _ _ _ (by omega), Int32.zero_add, Nat.add_zero]
theorem ze_setL {s : zu_S} {w2 : Nat} {w3 : Nat → Int32} {w4 : Nat → Int64} (h : ze_S s w2 w3 w4) : ∀ (mm k : Nat) (x : Int32), k + mm ≤ 31 → zf_M_set_L4 w2 w4 mm k x = x + nI (ze_c (ze_set s.1) (10 * mm) (10 * k)) := by
  intro mm
  induction mm with
  | zero => intro k x _; rw [zf_M_set_L4, Nat.mul_zero, ze_c, nI_0, Int32.add_zero]
  | succ mm ih =>
    intro k x h1
    rw [zf_M_set_L4, ze_setIn h (by omega), ih _ _ (by omega), show 10 * (mm + 1) = 10 + 10 * mm by omega, ze_c_add, Int32.add_assoc, nI_add, show 10 * (k + 1) = 10 * k + 10 by omega]
theorem ze_setN {s : zu_S} {w2 : Nat} {w3 : Nat → Int32} {w4 : Nat → Int64} (h : ze_S s w2 w3 w4) : zf_M_set w2 w4 = s.2.2.2.2 := by
  have hm := h.m30
  rw [zf_M_set, ze_setL h _ _ _ (by omega), Int32.zero_add, h.filled, show (310 : Nat) = 10 * (w2 + 1) + (310 - 10 * (w2 + 1)) by omega, ze_c_add, ze_c_zero (310 - 10 * (w2 + 1))]
  · rfl
  · intro i h1 h2
    exact ze_set_f (h.off i (by omega) (by omega) ((h.opn (i / 10) (by omega) (by omega)).mpr (fun g => by omega)))
/-! the codes -/
abbrev ze_C (c : zu_C) (w7 : Nat) (w8 : Nat → Int64) (w9 : Nat → Int32) : Prop := (c.2.2 = w7) ∧ (w7 ≤ 20) ∧ (∀ i, i < w7 → w8 i = (c.1 i).toInt64) ∧ (∀ i, i < w7 → c.2.1 i = w9 i) ∧ (∀ i j, i < j → j < w7 → ¬ c.1 i = c.1 j)
theorem ze_C.n {c : zu_C} {w7 : Nat} {w8 : Nat → Int64} {w9 : Nat → Int32} (h : ze_C c w7 w8 w9) : c.2.2 = w7 := h.1
theorem ze_C.le {c : zu_C} {w7 : Nat} {w8 : Nat → Int64} {w9 : Nat → Int32} (h : ze_C c w7 w8 w9) : w7 ≤ 20 := h.2.1
theorem ze_C.val {c : zu_C} {w7 : Nat} {w8 : Nat → Int64} {w9 : Nat → Int32} (h : ze_C c w7 w8 w9) : ∀ i, i < w7 → w8 i = (c.1 i).toInt64 := h.2.2.1
theorem ze_C.day {c : zu_C} {w7 : Nat} {w8 : Nat → Int64} {w9 : Nat → Int32} (h : ze_C c w7 w8 w9) : ∀ i, i < w7 → c.2.1 i = w9 i := h.2.2.2.1
theorem ze_C.ne {c : zu_C} {w7 : Nat} {w8 : Nat → Int64} {w9 : Nat → Int32} (h : ze_C c w7 w8 w9) : ∀ i j, i < j → j < w7 → ¬ c.1 i = c.1 j := h.2.2.2.2
theorem ze_C.mk {c : zu_C} {w7 : Nat} {w8 : Nat → Int64} {w9 : Nat → Int32} (n : c.2.2 = w7) (le : w7 ≤ 20) (val : ∀ i, i < w7 → w8 i = (c.1 i).toInt64) (day : ∀ i, i < w7 → c.2.1 i = w9 i) (ne : ∀ i j, i < j → j < w7 → ¬ c.1 i = c.1 j) : ze_C c w7 w8 w9 := ⟨n, le, val, day, ne⟩
theorem ze_inj (x y : Int32) : lg_cmp x.toInt64 y.toInt64 = 0 ↔ x = y := by
  rw [lg_cmp_eq]
  constructor
  · intro h
    have h2 := congrArg Int64.toInt h
    rw [Int32.toInt_toInt64, Int32.toInt_toInt64] at h2
    exact Int32.toInt_inj.mp h2
  · intro h; rw [h]
theorem ze_cf (c : zu_C) (v : Int32) : ∀ mm k : Nat, (zf_C_find_L2 c v mm k = -1 ∧ ∀ i, k ≤ i → i < k + mm → ¬ c.1 i = v) ∨ ∃ j : Nat, k ≤ j ∧ j < k + mm ∧ zf_C_find_L2 c v mm k = nI j ∧ c.1 j = v := by
  intro mm
  induction mm with
  | zero => intro k; exact Or.inl ⟨rfl, fun i h1 h2 => by omega⟩
  | succ mm ih =>
    intro k
    by_cases h : c.1 k = v
    · exact Or.inr ⟨k, Nat.le_refl k, by omega, by rw [zf_C_find_L2, if_pos h], h⟩
    · rw [zf_C_find_L2, if_neg h]
      rcases ih (k + 1) with ⟨q, r⟩ | ⟨j, h1, h2, h3, h4⟩
      · exact Or.inl ⟨q, fun i h1 h2 => by
          by_cases e : i = k
          · rw [e]; exact h
          · exact r i (by omega) (by omega)⟩
      · exact Or.inr ⟨j, by omega, by omega, h3, h4⟩
theorem ze_ig1 (w6 : Int32) (w7 : Nat) (w8 : Nat → Int64) (w9 : Nat → Int32) (v : Int64) : ∀ mm k : Nat, zf_M_isGood_L5 w6 w7 w8 w9 v mm k 1 = 1 := by
  intro mm
  induction mm with
  | zero => intro k; rfl
  | succ mm ih => intro k; rw [zf_M_isGood_L5, if_neg (by decide), ih]
theorem ze_ig0 (w6 : Int32) (w7 : Nat) (w8 : Nat → Int64) (w9 : Nat → Int32) (v : Int64) : ∀ mm k : Nat, (∀ i, k ≤ i → i < k + mm → w8 i = v → w9 i < w6) → zf_M_isGood_L5 w6 w7 w8 w9 v mm k 0 = 0 := by
  intro mm
  induction mm with
  | zero => intro k _; rfl
  | succ mm ih =>
    intro k h
    rw [zf_M_isGood_L5, if_pos rfl, ih (k + 1) (fun i h1 h2 => h i (by omega) (by omega))]
    by_cases g : lg_cmp (w8 k) v = 0
    · rw [if_pos g, if_pos (h k (by omega) (by omega) ((lg_cmp_eq _ _).mp g))]
    · rw [if_neg g]
theorem ze_igE (w6 : Int32) (w7 : Nat) (w8 : Nat → Int64) (w9 : Nat → Int32) (v : Int64) : ∀ mm k : Nat, (∃ i, k ≤ i ∧ i < k + mm ∧ w8 i = v ∧ ¬ w9 i < w6) → zf_M_isGood_L5 w6 w7 w8 w9 v mm k 0 = 1 := by
  intro mm
  induction mm with
  | zero => intro k ⟨i, h1, h2, _⟩; omega
  | succ mm ih =>
    intro k ⟨i, h1, h2, h3, h4⟩
    rw [zf_M_isGood_L5, if_pos rfl]
    by_cases e : i = k
    · subst e
      rw [if_pos ((lg_cmp_eq _ _).mpr h3), if_neg h4, ze_ig1]
    · have r := ih (k + 1) ⟨i, by omega, by omega, h3, h4⟩
      by_cases g : lg_cmp (w8 k) v = 0
      · rw [if_pos g]
        by_cases g2 : w9 k < w6
        · rw [if_pos g2, r]
        · rw [if_neg g2, ze_ig1]
      · rw [if_neg g, r]
theorem ze_good {c : zu_C} {w7 : Nat} {w8 : Nat → Int64} {w9 : Nat → Int32} (h : ze_C c w7 w8 w9) (v w6 : Int32) : zf_C_isGood c v w6 = zf_M_isGood w6 w7 w8 w9 v.toInt64 := by
  have hv : ∀ i, i < w7 → (w8 i = v.toInt64 ↔ c.1 i = v) := fun i hi => by
    rw [h.val i hi, ← lg_cmp_eq, ze_inj]
  rw [zf_C_isGood, zf_M_isGood, zf_C_find, h.n]
  rcases ze_cf c v w7 0 with ⟨q, r⟩ | ⟨j, h1, h2, h3, h4⟩
  · rw [if_pos q, ze_ig0]
    intro i g1 g2 g3
    exact absurd ((hv i (by omega)).mp g3) (r i g1 g2)
  · have h20 := h.le
    rw [h3, if_neg (ze_nm1 (by omega)), nI_clamp (by omega), h.day j (by omega)]
    by_cases g : w9 j < w6
    · rw [if_pos g, ze_ig0]
      intro i g1 g2 g3
      have e := (hv i (by omega)).mp g3
      rcases Nat.lt_trichotomy i j with q | q | q
      · exact absurd (e.trans h4.symm) (h.ne i j q (by omega))
      · rw [q]; exact g
      · exact absurd (h4.trans e.symm) (h.ne j i q (by omega))
    · rw [if_neg g, ze_igE]
      exact ⟨j, h1, h2, (hv j (by omega)).mpr h4, g⟩
/-! the first broken thing -/
theorem ze_lo10 {l k : Nat} (hl : l ≤ 30) (hk : k < 10) : zf_X_lineOf (nI (10 * l + k)) = nI l := by
  rw [zf_X_lineOf, show (10 : Int32) = nI 10 from rfl, pk_div (by omega) (by decide) (by decide)]
  congr 1
  omega
theorem ze_fo10 {l k : Nat} (hl : l ≤ 30) (hk : k < 10) : zf_X_fieldOf (nI (10 * l + k)) = if l = 0 then nI k else 10 + nI k := by
  rw [zf_X_fieldOf]
  by_cases h : l = 0
  · subst h
    rw [if_pos rfl, Nat.mul_zero, Nat.zero_add, if_neg (show ¬ 10 ≤ nI k from nI_ge (b := 10) hk (by decide))]
  · rw [if_neg h, if_pos (show 10 ≤ nI (10 * l + k) from nI_le (a := 10) (by omega) (by omega)), show (10 : Int32) = nI 10 from rfl, pk_rem (by omega) (by decide) (by decide)]
    congr 2
    omega
theorem ze_skip {s : zu_S} {l : Nat} (hl : l ≤ 30) (h1 : 1 ≤ l) (ho : s.2.1 l = 0) (kd : Int32) (m : Nat) : ∀ mm k : Nat, k + mm = 10 → zf_S_firstMissing_L2 s kd (mm + m) (10 * l + k) = zf_S_firstMissing_L2 s kd m (10 * l + 10) := by
  intro mm
  induction mm with
  | zero => intro k hk; rw [Nat.zero_add, show k = 10 by omega]
  | succ mm ih =>
    intro k hk
    rw [show mm + 1 + m = (mm + m) + 1 by omega, zf_S_firstMissing_L2, if_neg (show ¬ nI (10 * l + k) < 10 from nI_nlt (b := 10) (by omega) (by omega)), ze_lo10 hl (by omega), ze_hasN h1 hl, if_pos ho, if_pos rfl]
    exact ih (k + 1) (by omega)
theorem ze_b33n (w1 : Int32) (w2 : Nat) (w3 : Nat → Int32) (w4 : Nat → Int64) (w6 : Int32) (w7 : Nat) (w8 : Nat → Int64) (w9 : Nat → Int32) (x1 : Int32) (l : Nat) : ∀ mm k : Nat, zf_M_broken_L33 w1 w2 w3 w4 w6 w7 w8 w9 x1 l 0 mm k = none := by
  intro mm k
  cases mm with
  | zero => rfl
  | succ mm => rw [zf_M_broken_L33, if_pos rfl]
theorem ze_b33 {s : zu_S} {w2 : Nat} {w3 : Nat → Int32} {w4 : Nat → Int64} (h : ze_S s w2 w3 w4) (w1 w6 : Int32) (w7 : Nat) (w8 : Nat → Int64) (w9 : Nat → Int32) (x1 : Int32) {l : Nat} (hl : l ≤ 30) (ho : l = 0 ∨ ¬ s.2.1 l = 0) (m : Nat) : ∀ mm k : Nat, k + mm = 10 →
    (zf_M_broken_L33 w1 w2 w3 w4 w6 w7 w8 w9 x1 l 1 mm k = none ∧ zf_S_firstMissing_L2 s w1 (mm + m) (10 * l + k) = zf_S_firstMissing_L2 s w1 m (10 * l + 10)) ∨ (∃ j : Nat, j < 310 ∧ zf_M_broken_L33 w1 w2 w3 w4 w6 w7 w8 w9 x1 l 1 mm k = some (1000000 + zf_X_placeOf (nI j)) ∧ zf_S_firstMissing_L2 s w1 (mm + m) (10 * l + k) = nI j) := by
  intro mm
  induction mm with
  | zero => intro k hk; exact Or.inl ⟨rfl, by rw [Nat.zero_add, show k = 10 by omega]⟩
  | succ mm ih =>
    intro k hk
    have hM : zf_M_broken_L33 w1 w2 w3 w4 w6 w7 w8 w9 x1 l 1 (mm + 1) k = if zf_X_needBy w1 (zf_X_fieldOf (nI (10 * l + k))) = 0 then (if s.1 (10 * l + k) = -1 then some (1000000 + zf_X_placeOf (nI (10 * l + k))) else zf_M_broken_L33 w1 w2 w3 w4 w6 w7 w8 w9 x1 l 1 mm (k + 1)) else zf_M_broken_L33 w1 w2 w3 w4 w6 w7 w8 w9 x1 l 1 mm (k + 1) := by
      rw [zf_M_broken_L33, if_neg (by decide), zy_lkN, nI_clamp (by omega), h.val _ (by omega), ze_fo10 hl (by omega), zf_X_placeOf, ze_lo10 hl (by omega), ze_fo10 hl (by omega)]
      have e : (lg_cmp (s.1 (10 * l + k)).toInt64 (-1) = 0) = (s.1 (10 * l + k) = -1) := propext (ze_m1 _)
      simp only [e]
      by_cases hl0 : l = 0
      · rw [if_pos (show nI l = 0 by rw [hl0]; rfl), if_pos hl0, Int32.add_assoc]
        rfl
      · rw [if_neg (nI_ne0 (by omega) (by omega)), if_neg hl0, Int32.add_assoc]
        rfl
    have hC : zf_S_firstMissing_L2 s w1 (mm + 1 + m) (10 * l + k) = if s.1 (10 * l + k) = -1 then (if zf_X_needBy w1 (zf_X_fieldOf (nI (10 * l + k))) = 0 then nI (10 * l + k) else zf_S_firstMissing_L2 s w1 (mm + m) (10 * l + k + 1)) else zf_S_firstMissing_L2 s w1 (mm + m) (10 * l + k + 1) := by
      rw [show mm + 1 + m = (mm + m) + 1 by omega, zf_S_firstMissing_L2]
      by_cases hl0 : l = 0
      · rw [if_pos (show nI (10 * l + k) < 10 from nI_lt (b := 10) (by omega) (by decide))]
      · have ho' : ¬ s.2.1 l = 0 := by
          rcases ho with g | g
          · exact absurd g hl0
          · exact g
        rw [if_neg (show ¬ nI (10 * l + k) < 10 from nI_nlt (b := 10) (by omega) (by omega)), ze_lo10 hl (by omega), ze_hasN (by omega) hl, if_neg ho', if_neg (by decide)]
    rw [hM, hC]
    by_cases a : s.1 (10 * l + k) = -1
    · rw [if_pos a, if_pos a]
      by_cases b : zf_X_needBy w1 (zf_X_fieldOf (nI (10 * l + k))) = 0
      · rw [if_pos b, if_pos b]
        exact Or.inr ⟨10 * l + k, by omega, rfl, rfl⟩
      · rw [if_neg b, if_neg b]
        exact ih (k + 1) (by omega)
    · rw [if_neg a, if_neg a, ite_self]
      exact ih (k + 1) (by omega)
theorem ze_fmR {s : zu_S} {w2 : Nat} {w3 : Nat → Int32} {w4 : Nat → Int64} (h : ze_S s w2 w3 w4) (kd : Int32) : ∀ m k : Nat, k + m = 310 → 10 * (w2 + 1) ≤ k → zf_S_firstMissing_L2 s kd m k = -1 := by
  intro m
  induction m with
  | zero => intro k _ _; rfl
  | succ m ih =>
    intro k h1 h2
    have ho : s.2.1 (k / 10) = 0 := (h.opn (k / 10) (by omega) (by omega)).mpr (fun g => by omega)
    have e : nI k = nI (10 * (k / 10) + k % 10) := by congr 1; omega
    rw [zf_S_firstMissing_L2, if_neg (show ¬ nI k < 10 from nI_nlt (b := 10) (by omega) (by omega)), e, ze_lo10 (by omega) (by omega), ze_hasN (by omega) (by omega), if_pos ho, if_pos rfl]
    exact ih (k + 1) (by omega) (by omega)
def ze_open (s : zu_S) : Nat → Bool := fun l => decide (¬ s.2.1 l = 0)
/-- what follows when nothing is missing -/
def ze_tail (w1 : Int32) (w2 : Nat) (w3 : Nat → Int32) (w4 : Nat → Int64) (w6 : Int32) (w7 : Nat) (w8 : Nat → Int64) (w9 : Nat → Int32) (x1 : Int32) : Int32 :=
  if (zf_M_isSum w2 w4 2) = 0 then 2000000
  else if (zf_M_isSum w2 w4 3) = 0 then 3000000
  else zf_M_broken_L164 w1 w2 w3 w4 w6 w7 w8 w9 x1 w2 1
theorem ze_b4 {s : zu_S} {w2 : Nat} {w3 : Nat → Int32} {w4 : Nat → Int64} (h : ze_S s w2 w3 w4) (w1 w6 : Int32) (w7 : Nat) (w8 : Nat → Int64) (w9 : Nat → Int32) : ∀ (mm k : Nat) (x1 : Int32), k + mm = w2 + 1 →
    (zf_S_firstMissing_L2 s w1 (310 - 10 * k) (10 * k) = -1 ∧ zf_M_broken_L4 w1 w2 w3 w4 w6 w7 w8 w9 mm k x1 = ze_tail w1 w2 w3 w4 w6 w7 w8 w9 (x1 + nI (ze_c (ze_open s) mm k))) ∨ (∃ j : Nat, j < 310 ∧ zf_S_firstMissing_L2 s w1 (310 - 10 * k) (10 * k) = nI j ∧ zf_M_broken_L4 w1 w2 w3 w4 w6 w7 w8 w9 mm k x1 = 1000000 + zf_X_placeOf (nI j)) := by
  have hm := h.m30
  intro mm
  induction mm with
  | zero =>
    intro k x1 hk
    refine Or.inl ⟨ze_fmR h w1 _ _ (by omega) (by omega), ?_⟩
    rw [zf_M_broken_L4, ze_tail, ze_c, nI_0, Int32.add_zero]
  | succ mm ih =>
    intro k x1 hk
    have e310 : 310 - 10 * k = 10 + (310 - 10 * (k + 1)) := by omega
    have e10 : 10 * k + 10 = 10 * (k + 1) := by omega
    by_cases k0 : k = 0
    · have hL : zf_M_broken_L4 w1 w2 w3 w4 w6 w7 w8 w9 (mm + 1) k x1 = if zf_M_broken_L33 w1 w2 w3 w4 w6 w7 w8 w9 x1 k 1 10 0 = none then zf_M_broken_L4 w1 w2 w3 w4 w6 w7 w8 w9 mm (k + 1) (x1 + 0) else (zf_M_broken_L33 w1 w2 w3 w4 w6 w7 w8 w9 x1 k 1 10 0).getD 0 := by
        rw [zf_M_broken_L4, if_pos (show nI k = 0 by rw [k0]; rfl), if_pos (show nI k ≤ 0 by rw [k0]; decide)]
      have hc : ze_c (ze_open s) (mm + 1) k = ze_c (ze_open s) mm (k + 1) := by
        rw [ze_c, show ze_open s k = false from decide_eq_false (fun g => g (by rw [k0]; exact h.o0))]
        simp
      rw [hL, hc]
      rcases ze_b33 h w1 w6 w7 w8 w9 x1 (l := k) (by omega) (Or.inl k0) (310 - 10 * (k + 1)) 10 0 (by omega) with ⟨q1, q2⟩ | ⟨j, q0, q1, q2⟩
      · rw [if_pos q1, e310]
        have q2 : zf_S_firstMissing_L2 s w1 (10 + (310 - 10 * (k + 1))) (10 * k) = zf_S_firstMissing_L2 s w1 (310 - 10 * (k + 1)) (10 * k + 10) := q2
        rw [q2, e10]
        have := ih (k + 1) (x1 + 0) (by omega)
        rw [Int32.add_zero] at this ⊢
        exact this
      · rw [if_neg (by rw [q1]; simp), q1, e310]
        exact Or.inr ⟨j, q0, q2, rfl⟩
    · by_cases hi : s.2.1 k = 0
      · have hL : zf_M_broken_L4 w1 w2 w3 w4 w6 w7 w8 w9 (mm + 1) k x1 = zf_M_broken_L4 w1 w2 w3 w4 w6 w7 w8 w9 mm (k + 1) (x1 + 0) := by
          rw [zf_M_broken_L4, if_neg (nI_ne0 (by omega) (by omega)), ← ze_has h, ze_hasN (by omega) (by omega), if_pos hi, if_pos rfl, ze_b33n, if_pos rfl, ite_self]
        have hc : ze_c (ze_open s) (mm + 1) k = ze_c (ze_open s) mm (k + 1) := by
          rw [ze_c, show ze_open s k = false from decide_eq_false (fun g => g hi)]
          simp
        rw [hL, hc, e310]
        have q2 := ze_skip (s := s) (l := k) (by omega) (by omega) hi w1 (310 - 10 * (k + 1)) 10 0 (by omega)
        have q2 : zf_S_firstMissing_L2 s w1 (10 + (310 - 10 * (k + 1))) (10 * k) = zf_S_firstMissing_L2 s w1 (310 - 10 * (k + 1)) (10 * k + 10) := q2
        rw [q2, e10]
        have := ih (k + 1) (x1 + 0) (by omega)
        rw [Int32.add_zero] at this ⊢
        exact this
      · have hL : zf_M_broken_L4 w1 w2 w3 w4 w6 w7 w8 w9 (mm + 1) k x1 = if zf_M_broken_L33 w1 w2 w3 w4 w6 w7 w8 w9 x1 k 1 10 0 = none then zf_M_broken_L4 w1 w2 w3 w4 w6 w7 w8 w9 mm (k + 1) (x1 + 1) else (zf_M_broken_L33 w1 w2 w3 w4 w6 w7 w8 w9 x1 k 1 10 0).getD 0 := by
          rw [zf_M_broken_L4, if_neg (nI_ne0 (by omega) (by omega)), ← ze_has h, ze_hasN (by omega) (by omega), if_neg hi, if_neg (by decide), if_neg (nI_nle (by omega) (by omega))]
        have hc : ze_c (ze_open s) (mm + 1) k = 1 + ze_c (ze_open s) mm (k + 1) := by
          rw [ze_c, show ze_open s k = true from decide_eq_true hi]
          simp
        rw [hL, hc]
        rcases ze_b33 h w1 w6 w7 w8 w9 x1 (l := k) (by omega) (Or.inr hi) (310 - 10 * (k + 1)) 10 0 (by omega) with ⟨q1, q2⟩ | ⟨j, q0, q1, q2⟩
        · rw [if_pos q1, e310]
          have q2 : zf_S_firstMissing_L2 s w1 (10 + (310 - 10 * (k + 1))) (10 * k) = zf_S_firstMissing_L2 s w1 (310 - 10 * (k + 1)) (10 * k + 10) := q2
          rw [q2, e10]
          have := ih (k + 1) (x1 + 1) (by omega)
          rw [Int32.add_assoc, show (1 : Int32) = nI 1 from rfl, nI_add] at this
          exact this
        · rw [if_neg (by rw [q1]; simp), q1, e310]
          exact Or.inr ⟨j, q0, q2, rfl⟩
theorem ze_isSum {s : zu_S} {w2 : Nat} {w3 : Nat → Int32} {w4 : Nat → Int64} (h : ze_S s w2 w3 w4) {f : Nat} (hf : f < 10) : zf_S_sumIsWrong s (nI f) (nI (10 + f)) = if zf_M_isSum w2 w4 (nI f) = 0 then 1 else 0 := by
  have hs : zf_S_slotOf s (nI f) 0 = nI f := by
    rw [zf_S_slotOf, if_neg (nI_pos (by omega)), if_pos (show nI f ≤ 19 from nI_le (b := 19) (by omega) (by decide)), if_neg (show ¬ 10 ≤ nI f from nI_ge (b := 10) hf (by decide)), if_pos rfl]
  rw [zf_S_sumIsWrong, zf_M_isSum, hs, ze_vAt s (by omega), nI_clamp (by omega), h.val f (by omega), ze_sum h hf, show nI f + 10 = nI (10 + f) by rw [show (10 : Int32) = nI 10 from rfl, nI_add, Nat.add_comm]]
  by_cases g : s.1 f = -1
  · rw [if_pos g, if_pos ((ze_m1 _).mpr g)]
    rfl
  · rw [if_neg g, if_neg (fun q => g ((ze_m1 _).mp q))]
    by_cases g2 : lg_cmp (s.1 f).toInt64 (zf_M_sumOf w2 w4 (nI (10 + f))) = 0
    · rw [if_pos g2, if_pos g2]; rfl
    · rw [if_neg g2, if_neg g2]; rfl
theorem ze_fwR {st : zu_X} {w2 : Nat} {w3 : Nat → Int32} {w4 : Nat → Int64} (h : ze_S st.2.1 w2 w3 w4) : ∀ (r k : Nat), w2 < k → k + r = 31 → zf_X_firstWithoutGoodCode_L2 st r k = -1 := by
  intro r
  induction r with
  | zero => intro k _ _; rfl
  | succ r ih =>
    intro k h1 h2
    obtain ⟨e1, -, -⟩ := ze_line h (f := 0) (by decide) (l := k) (by omega) (by omega)
    have ho : st.2.1.2.1 k = 0 := (h.opn k (by omega) (by omega)).mpr (fun g => by omega)
    rw [zf_X_firstWithoutGoodCode_L2, show (10 : Int32) = nI (10 + 0) from rfl, e1, if_pos (h.off (10 * k + 0) (by omega) (by omega) (by rw [show (10 * k + 0) / 10 = k by omega]; exact ho))]
    exact ih (k + 1) (by omega) (by omega)
theorem ze_b164 {st : zu_X} {w1 : Int32} {w2 : Nat} {w3 : Nat → Int32} {w4 : Nat → Int64} {w6 : Int32} {w7 : Nat} {w8 : Nat → Int64} {w9 : Nat → Int32} (h : ze_S st.2.1 w2 w3 w4) (hc : ze_C st.2.2.1 w7 w8 w9) (ht : st.2.2.2.2.2.1 = w6) (x1 : Int32) : ∀ (mm k : Nat), 1 ≤ k → k + mm = w2 + 1 →
    (zf_X_firstWithoutGoodCode_L2 st (mm + (30 - w2)) k = -1 ∧ zf_M_broken_L164 w1 w2 w3 w4 w6 w7 w8 w9 x1 mm k = if x1 = 0 then 5000000 else 0) ∨ (∃ l : Nat, 1 ≤ l ∧ l ≤ 30 ∧ zf_X_firstWithoutGoodCode_L2 st (mm + (30 - w2)) k = nI (10 * l + 0) ∧ zf_M_broken_L164 w1 w2 w3 w4 w6 w7 w8 w9 x1 mm k = (4000000 + (100 * (nI l))) + 10) := by
  have hm := h.m30
  intro mm
  induction mm with
  | zero =>
    intro k h1 h2
    exact Or.inl ⟨by rw [Nat.zero_add]; exact ze_fwR h _ _ (by omega) (by omega), by rw [zf_M_broken_L164]⟩
  | succ mm ih =>
    intro k h1 h2
    obtain ⟨e1, -, e3⟩ := ze_line h (f := 0) (by decide) (l := k) (by omega) (by omega)
    rw [show mm + 1 + (30 - w2) = (mm + (30 - w2)) + 1 by omega, zf_X_firstWithoutGoodCode_L2, zf_M_broken_L164, show zf_S_slotOf st.2.1 10 (nI k) = zf_S_slotOf st.2.1 (nI (10 + 0)) (nI k) from rfl, e1, show (10 * nI k : Int32) = nI (10 * k + 0) by rw [show (10 : Int32) = nI 10 from rfl, pk_mul]; rfl, nI_clamp (by omega), h.val _ (by omega)]
    by_cases g : st.2.1.1 (10 * k + 0) = -1
    · rw [if_pos g, if_pos ((ze_m1 _).mpr g)]
      exact ih (k + 1) (by omega) (by omega)
    · rw [if_neg g, if_neg (fun q => g ((ze_m1 _).mp q)), ht, ze_good hc]
      by_cases g2 : zf_M_isGood w6 w7 w8 w9 (st.2.1.1 (10 * k + 0)).toInt64 = 0
      · rw [if_pos g2, if_pos g2]
        refine Or.inr ⟨k, h1, by omega, e3 (fun q => g (h.off (10 * k + 0) (by omega) (by omega) (by rw [show (10 * k + 0) / 10 = k by omega]; exact q))), rfl⟩
      · rw [if_neg g2, if_neg g2]
        exact ih (k + 1) (by omega) (by omega)
theorem ze_check {st : zu_X} {w1 : Int32} {w2 : Nat} {w3 : Nat → Int32} {w4 : Nat → Int64} {w6 : Int32} {w7 : Nat} {w8 : Nat → Int64} {w9 : Nat → Int32} (hk : st.1 = w1) (h : ze_S st.2.1 w2 w3 w4) (hc : ze_C st.2.2.1 w7 w8 w9) (ht : st.2.2.2.2.2.1 = w6) : zf_X_check st = zf_M_broken w1 w2 w3 w4 w6 w7 w8 w9 := by
  have hm := h.m30
  rw [zf_X_check, zf_M_broken, zf_S_firstMissing, hk]
  rcases ze_b4 h w1 w6 w7 w8 w9 (w2 + 1) 0 0 (by omega) with ⟨q1, q2⟩ | ⟨j, q0, q1, q2⟩
  · rw [if_pos (show zf_S_firstMissing_L2 st.2.1 w1 310 0 = -1 from q1), q2, ze_tail, show zf_S_sumIsWrong st.2.1 2 12 = _ from ze_isSum h (f := 2) (by decide), show zf_S_sumIsWrong st.2.1 3 13 = _ from ze_isSum h (f := 3) (by decide)]
    rw [show (nI 2) = (2 : Int32) from rfl, show (nI 3) = (3 : Int32) from rfl]
    by_cases g2 : zf_M_isSum w2 w4 2 = 0
    · rw [if_pos g2, if_pos g2, if_neg (by decide)]
    · rw [if_neg g2, if_neg g2, if_pos rfl]
      by_cases g3 : zf_M_isSum w2 w4 3 = 0
      · rw [if_pos g3, if_pos g3, if_neg (by decide)]
      · rw [if_neg g3, if_neg g3, if_pos rfl]
        have hx : (0 : Int32) + nI (ze_c (ze_open st.2.1) (w2 + 1) 0) = zf_S_lineCount st.2.1 := by
          rw [Int32.zero_add, zf_S_lineCount, h.opened, show (31 : Nat) = (w2 + 1) + (30 - w2) by omega, ze_c_add (fun l => decide (¬ st.2.1.2.1 l = 0)) (w2 + 1) (30 - w2), ze_c_zero (30 - w2)]
          · rfl
          · intro i h1 h2
            exact decide_eq_false (fun g => g ((h.opn i (by omega) (by omega)).mpr (fun g => by omega)))
        rw [hx, zf_X_firstWithoutGoodCode]
        rcases ze_b164 (w1 := w1) h hc ht (zf_S_lineCount st.2.1) w2 1 (by omega) (by omega) with ⟨r1, r2⟩ | ⟨l, l1, l2, r1, r2⟩
        · rw [show w2 + (30 - w2) = 30 by omega] at r1
          rw [if_pos r1, r2]
        · rw [show w2 + (30 - w2) = 30 by omega] at r1
          rw [if_neg (by rw [r1]; exact ze_nm1 (by omega)), r1, r2, zf_X_placeOf, ze_lo10 (by omega) (by decide), ze_fo10 (by omega) (by decide), if_neg (by omega), nI_0, Int32.add_zero, Int32.add_assoc]
  · rw [if_neg (show ¬ zf_S_firstMissing_L2 st.2.1 w1 310 0 = -1 by rw [show zf_S_firstMissing_L2 st.2.1 w1 310 0 = nI j from q1]; exact ze_nm1 (by omega)), show zf_S_firstMissing_L2 st.2.1 w1 310 0 = nI j from q1, q2]
/-! a line that goes, a line that comes -/
theorem ze_drop {w2 : Nat} {w3 : Nat → Int32} {l : Nat} (hl : l ≤ 30) (x2 xm w0 : Int32) (w3g : Nat → Int32) (w5 : Int32) (w10 : Nat) (w12 w13 : Nat → Int32) : ∀ (mm k : Nat) (s : zu_S) (w4 : Nat → Int64), k + mm = 10 → ze_S s w2 w3 w4 → (l = 0 ∨ ¬ s.2.1 l = 0) → (∀ i, i < k → s.1 (10 * l + i) = -1) →
    ∃ (s' : zu_S) (w4' : Nat → Int64), ze_S s' w2 w3 w4' ∧ s'.2.1 = s.2.1 ∧ (∀ i, i < 10 → s'.1 (10 * l + i) = -1) ∧ (∀ i, i < 10 * l ∨ 10 * l + 10 ≤ i → s'.1 i = s.1 i) ∧ s'.2.2.2.1 = s.2.2.2.1 ∧
      zf_S_dropLine_L17 (nI l) x2 mm k s = (x2 - s'.2.2.2.2, (s'.1, (upd s'.2.1 l 0), s'.2.2.1, s'.2.2.2.1 - 1, s'.2.2.2.2)) ∧
      zf_M_remove_L40 w0 w2 w3g w5 w10 w12 w13 (nI l) xm mm k w4 = zf_M_remove_L68 w0 w2 w3g w4' w5 w10 (nI l) xm w10 0 w12 w13 := by
  intro mm
  induction mm with
  | zero =>
    intro k s w4 hk h ho hz
    exact ⟨s, w4, h, rfl, fun i hi => hz i (by omega), fun _ _ => rfl, rfl, by rw [zf_S_dropLine_L17, nI_clamp (by omega)], by rw [zf_M_remove_L40]⟩
  | succ mm ih =>
    intro k s w4 hk h ho hz
    have hpl : ze_pl s (10 * l + k) := ⟨by omega, by
      rcases ho with g | g
      · exact Or.inl (by omega)
      · exact Or.inr (by rw [show (10 * l + k) / 10 = l by omega]; exact g)⟩
    have h' := ze_put h hpl (x := -1) (Or.inl rfl)
    obtain ⟨po, pv⟩ := ze_put_o (s := s) (i := 10 * l + k) (by omega) (-1)
    obtain ⟨s', w4', a1, a2, a3, a4, a5, a6, a7⟩ := ih (k + 1) _ _ (by omega) h' (by rw [po]; exact ho) (fun i hi => by
      rw [pv]
      by_cases e : i = k
      · rw [e, pk_us]
      · rw [pk_un (by omega)]; exact hz i (by omega))
    refine ⟨s', w4', a1, by rw [a2, po], a3, fun i hi => by rw [a4 i hi, pv, pk_un (by omega)], ?_, ?_, ?_⟩
    · rw [a5, ze_putE s (by omega) _ h.filled]
    · rw [zf_S_dropLine_L17, show (nI l * 10) + nI k = nI (10 * l + k) by rw [show (10 : Int32) = nI 10 from rfl, pk_mul, nI_add, Nat.mul_comm]]
      exact a6
    · rw [zf_M_remove_L40, zy_lkN, nI_clamp (by omega)]
      exact a7
theorem ze_close {s : zu_S} {w2 : Nat} {w3 : Nat → Int32} {w4 : Nat → Int64} (h : ze_S s w2 w3 w4) {l : Nat} (h1 : 1 ≤ l) (h2 : l ≤ 30) (ho : ¬ s.2.1 l = 0) (hz : ∀ i, i < 10 → s.1 (10 * l + i) = -1) : ze_S (s.1, (upd s.2.1 l 0), s.2.2.1, s.2.2.2.1 - 1, s.2.2.2.2) w2 (upd w3 l 1) w4 := by
  have hw : l ≤ w2 ∧ w3 l = 0 := Classical.not_not.mp (fun g => ho ((h.opn l h1 h2).mpr g))
  exact ze_S.mk
    (made := h.made)
    (m30 := h.m30)
    (val := h.val)
    (ok := h.ok)
    (opn := fun j g1 g2 => by
      show upd s.2.1 l 0 j = 0 ↔ ¬ (j ≤ w2 ∧ upd w3 l 1 j = 0)
      by_cases e : j = l
      · subst e
        rw [pk_us, pk_us]
        exact ⟨fun _ g => absurd g.2 (by decide), fun _ => rfl⟩
      · rw [pk_un e, pk_un e]; exact h.opn j g1 g2)
    (o0 := by show upd s.2.1 l 0 0 = 0; rw [pk_un (by omega)]; exact h.o0)
    (g0 := fun j g1 g2 => by rw [pk_un (by omega)]; exact h.g0 j g1 g2)
    (bit := fun j hj => by
      show upd s.2.1 l 0 j = 0 ∨ upd s.2.1 l 0 j = 1
      by_cases e : j = l
      · subst e; rw [pk_us]; exact Or.inl rfl
      · rw [pk_un e]; exact h.bit j hj)
    (off := fun i g1 g2 g3 => by
      show s.1 i = -1
      by_cases e : i / 10 = l
      · have := hz (i % 10) (by omega)
        rw [show 10 * l + i % 10 = i by omega] at this
        exact this
      · have g3 : upd s.2.1 l 0 (i / 10) = 0 := g3
        rw [pk_un e] at g3
        exact h.off i g1 g2 g3)
    (opened := by
      show s.2.2.2.1 - 1 = nI (ze_c (fun j => decide (¬ upd s.2.1 l 0 j = 0)) 31 0)
      have hc := ze_c_one (P := fun j => decide (¬ upd s.2.1 l 0 j = 0)) (Q := fun j => decide (¬ s.2.1 j = 0)) (j := l) 31 0 (by omega) (by omega) (fun k hk => by simp only [pk_un hk])
      simp only [pk_us, ho] at hc
      rw [h.opened]
      generalize ze_c (fun j => decide (¬ s.2.1 j = 0)) 31 0 = c at hc ⊢
      rw [show c = ze_c (fun j => decide (¬ upd s.2.1 l 0 j = 0)) 31 0 + 1 by simpa using hc.symm, nI_pred])
    (filled := h.filled)
theorem ze_line1 {s : zu_S} {w2 : Nat} {w3 : Nat → Int32} {w4 : Nat → Int64} (h : ze_S s w2 w3 w4) (hl : w2 < 30) : ze_S (s.1, (upd s.2.1 (w2 + 1) 1), (s.2.2.1 + 1), s.2.2.2.1 + 1, s.2.2.2.2) (w2 + 1) w3 w4 := by
  have ho : s.2.1 (w2 + 1) = 0 := (h.opn (w2 + 1) (by omega) (by omega)).mpr (fun g => by omega)
  exact ze_S.mk
    (made := by show s.2.2.1 + 1 = w2 + 1; rw [h.made])
    (m30 := by omega)
    (val := h.val)
    (ok := h.ok)
    (opn := fun j g1 g2 => by
      show upd s.2.1 (w2 + 1) 1 j = 0 ↔ ¬ (j ≤ w2 + 1 ∧ w3 j = 0)
      by_cases e : j = w2 + 1
      · subst e
        rw [pk_us]
        exact ⟨fun g => absurd g (by decide), fun g => absurd ⟨Nat.le_refl _, h.g0 _ (by omega) (by omega)⟩ g⟩
      · rw [pk_un e, h.opn j g1 g2]
        exact not_congr ⟨fun g => ⟨by omega, g.2⟩, fun g => ⟨by omega, g.2⟩⟩)
    (o0 := by show upd s.2.1 (w2 + 1) 1 0 = 0; rw [pk_un (by omega)]; exact h.o0)
    (g0 := fun j g1 g2 => h.g0 j (by omega) g2)
    (bit := fun j hj => by
      show upd s.2.1 (w2 + 1) 1 j = 0 ∨ upd s.2.1 (w2 + 1) 1 j = 1
      by_cases e : j = w2 + 1
      · subst e; rw [pk_us]; exact Or.inr rfl
      · rw [pk_un e]; exact h.bit j hj)
    (off := fun i g1 g2 g3 => by
      show s.1 i = -1
      have g3 : upd s.2.1 (w2 + 1) 1 (i / 10) = 0 := g3
      by_cases e : i / 10 = w2 + 1
      · rw [e, pk_us] at g3
        exact absurd g3 (by decide)
      · rw [pk_un e] at g3
        exact h.off i g1 g2 g3)
    (opened := by
      show s.2.2.2.1 + 1 = nI (ze_c (fun j => decide (¬ upd s.2.1 (w2 + 1) 1 j = 0)) 31 0)
      have hc := ze_c_one (P := fun j => decide (¬ upd s.2.1 (w2 + 1) 1 j = 0)) (Q := fun j => decide (¬ s.2.1 j = 0)) (j := w2 + 1) 31 0 (by omega) (by omega) (fun k hk => by simp only [pk_un hk])
      simp only [pk_us, ho] at hc
      rw [h.opened]
      generalize ze_c (fun j => decide (¬ s.2.1 j = 0)) 31 0 = c at hc ⊢
      rw [show ze_c (fun j => decide (¬ upd s.2.1 (w2 + 1) 1 j = 0)) 31 0 = c + 1 by simpa using hc, nI_1])
    (filled := h.filled)
/-! the papers -/
abbrev ze_P (p : zu_P) (w3 : Nat → Int32) (w10 : Nat) (w11 w12 w13 : Nat → Int32) : Prop := (p.2.2.2 = w10) ∧ (w10 ≤ 20) ∧ (∀ i, i < w10 → p.1 i = w11 i) ∧ (∀ i, i < w10 → p.2.1 i = w12 i) ∧ (∀ i j, i < j → j < w10 → ¬ p.1 i = p.1 j) ∧ (∀ l, 1 ≤ l → l ≤ 30 → w3 l = 0 → ∀ i, i < 20 → p.2.2.1 (20 * l + i) = w13 (20 * l + i))
theorem ze_P.n {p : zu_P} {w3 : Nat → Int32} {w10 : Nat} {w11 w12 w13 : Nat → Int32} (h : ze_P p w3 w10 w11 w12 w13) : p.2.2.2 = w10 := h.1
theorem ze_P.le {p : zu_P} {w3 : Nat → Int32} {w10 : Nat} {w11 w12 w13 : Nat → Int32} (h : ze_P p w3 w10 w11 w12 w13) : w10 ≤ 20 := h.2.1
theorem ze_P.num {p : zu_P} {w3 : Nat → Int32} {w10 : Nat} {w11 w12 w13 : Nat → Int32} (h : ze_P p w3 w10 w11 w12 w13) : ∀ i, i < w10 → p.1 i = w11 i := h.2.2.1
theorem ze_P.bal {p : zu_P} {w3 : Nat → Int32} {w10 : Nat} {w11 w12 w13 : Nat → Int32} (h : ze_P p w3 w10 w11 w12 w13) : ∀ i, i < w10 → p.2.1 i = w12 i := h.2.2.2.1
theorem ze_P.ne {p : zu_P} {w3 : Nat → Int32} {w10 : Nat} {w11 w12 w13 : Nat → Int32} (h : ze_P p w3 w10 w11 w12 w13) : ∀ i j, i < j → j < w10 → ¬ p.1 i = p.1 j := h.2.2.2.2.1
theorem ze_P.drw {p : zu_P} {w3 : Nat → Int32} {w10 : Nat} {w11 w12 w13 : Nat → Int32} (h : ze_P p w3 w10 w11 w12 w13) : ∀ l, 1 ≤ l → l ≤ 30 → w3 l = 0 → ∀ i, i < 20 → p.2.2.1 (20 * l + i) = w13 (20 * l + i) := h.2.2.2.2.2
theorem ze_P.mk {p : zu_P} {w3 : Nat → Int32} {w10 : Nat} {w11 w12 w13 : Nat → Int32} (n : p.2.2.2 = w10) (le : w10 ≤ 20) (num : ∀ i, i < w10 → p.1 i = w11 i) (bal : ∀ i, i < w10 → p.2.1 i = w12 i) (ne : ∀ i j, i < j → j < w10 → ¬ p.1 i = p.1 j) (drw : ∀ l, 1 ≤ l → l ≤ 30 → w3 l = 0 → ∀ i, i < 20 → p.2.2.1 (20 * l + i) = w13 (20 * l + i)) : ze_P p w3 w10 w11 w12 w13 := ⟨n, le, num, bal, ne, drw⟩
theorem ze_pf (p : zu_P) (v : Int32) : ∀ mm k : Nat, (zf_P_find_L2 p v mm k = -1 ∧ ∀ i, k ≤ i → i < k + mm → ¬ p.1 i = v) ∨ ∃ j : Nat, k ≤ j ∧ j < k + mm ∧ zf_P_find_L2 p v mm k = nI j ∧ p.1 j = v := by
  intro mm
  induction mm with
  | zero => intro k; exact Or.inl ⟨rfl, fun i h1 h2 => by omega⟩
  | succ mm ih =>
    intro k
    by_cases h : p.1 k = v
    · exact Or.inr ⟨k, Nat.le_refl k, by omega, by rw [zf_P_find_L2, if_pos h], h⟩
    · rw [zf_P_find_L2, if_neg h]
      rcases ih (k + 1) with ⟨q, r⟩ | ⟨j, h1, h2, h3, h4⟩
      · exact Or.inl ⟨q, fun i h1 h2 => by
          by_cases e : i = k
          · rw [e]; exact h
          · exact r i (by omega) (by omega)⟩
      · exact Or.inr ⟨j, by omega, by omega, h3, h4⟩
theorem ze_mp (n : Nat) (f : Nat → Int32) (v : Int32) : ∀ (mm k : Nat) (x : Int32), (zf_M_paperOf_L4 n f v mm k x = x ∧ ∀ i, k ≤ i → i < k + mm → ¬ f i = v) ∨ ∃ j : Nat, k ≤ j ∧ j < k + mm ∧ zf_M_paperOf_L4 n f v mm k x = nI j ∧ f j = v := by
  intro mm
  induction mm with
  | zero => intro k x; exact Or.inl ⟨rfl, fun i h1 h2 => by omega⟩
  | succ mm ih =>
    intro k x
    by_cases h : f k = v
    · rw [zf_M_paperOf_L4, if_pos h]
      rcases ih (k + 1) (nI k) with ⟨q, r⟩ | ⟨j, h1, h2, h3, h4⟩
      · exact Or.inr ⟨k, Nat.le_refl k, by omega, q, h⟩
      · exact Or.inr ⟨j, by omega, by omega, h3, h4⟩
    · rw [zf_M_paperOf_L4, if_neg h]
      rcases ih (k + 1) x with ⟨q, r⟩ | ⟨j, h1, h2, h3, h4⟩
      · exact Or.inl ⟨q, fun i h1 h2 => by
          by_cases e : i = k
          · rw [e]; exact h
          · exact r i (by omega) (by omega)⟩
      · exact Or.inr ⟨j, by omega, by omega, h3, h4⟩
theorem ze_find {p : zu_P} {w3 : Nat → Int32} {w10 : Nat} {w11 w12 w13 : Nat → Int32} (h : ze_P p w3 w10 w11 w12 w13) (v : Int32) : (zf_P_find p v = -1 ∧ zf_M_paperOf w10 w11 v = -1 ∧ ∀ i, i < w10 → ¬ p.1 i = v) ∨ ∃ j : Nat, j < w10 ∧ zf_P_find p v = nI j ∧ zf_M_paperOf w10 w11 v = nI j := by
  rw [zf_P_find, zf_M_paperOf, h.n]
  rcases ze_pf p v w10 0 with ⟨q, r⟩ | ⟨j, h1, h2, h3, h4⟩
  · refine Or.inl ⟨q, ?_, fun i hi => r i (by omega) (by omega)⟩
    rcases ze_mp w10 w11 v w10 0 (-1) with ⟨q', r'⟩ | ⟨j', g1, g2, g3, g4⟩
    · exact q'
    · exact absurd ((h.num j' (by omega)).trans g4) (r j' (by omega) (by omega))
  · refine Or.inr ⟨j, by omega, h3, ?_⟩
    rcases ze_mp w10 w11 v w10 0 (-1) with ⟨q', r'⟩ | ⟨j', g1, g2, g3, g4⟩
    · exact absurd ((h.num j (by omega)).symm.trans h4) (r' j (by omega) (by omega))
    · have e' : p.1 j' = v := (h.num j' (by omega)).trans g4
      rcases Nat.lt_trichotomy j j' with e | e | e
      · exact absurd (h4.trans e'.symm) (h.ne j j' e (by omega))
      · rw [g3, e]
      · exact absurd (e'.trans h4.symm) (h.ne j' j e (by omega))
theorem ze_give {w10 : Nat} {w2 : Nat} {l : Nat} (hl : l ≤ 30) (h20 : w10 ≤ 20) (x2 w0 : Int32) (w3g : Nat → Int32) (w4 : Nat → Int64) (w5 : Int32) : ∀ (mm k : Nat) (p : zu_P) (w12 w13 : Nat → Int32), k + mm = w10 → (∀ i, i < w10 → p.2.1 i = w12 i) → (∀ i, k ≤ i → i < 20 → p.2.2.1 (20 * l + i) = w13 (20 * l + i)) →
    ∃ (b : Nat → Int32) (w12' w13' : Nat → Int32), zf_P_giveBack_L13 (nI l) mm k p = (p.1, b, p.2.2.1, p.2.2.2) ∧ zf_M_remove_L68 w0 w2 w3g w4 w5 w10 (nI l) x2 mm k w12 w13 = (x2, w0, w3g, w4, w12', w13') ∧ (∀ i, i < w10 → b i = w12' i) ∧ (∀ q, q < 20 * l ∨ 20 * l + 20 ≤ q → w13' q = w13 q) := by
  intro mm
  induction mm with
  | zero =>
    intro k p w12 w13 hk h1 h2
    exact ⟨p.2.1, w12, w13, by rw [zf_P_giveBack_L13], by rw [zf_M_remove_L68], h1, fun _ _ => rfl⟩
  | succ mm ih =>
    intro k p w12 w13 hk h1 h2
    have e20 : (nI l * 20) + nI k = nI (20 * l + k) := by rw [show (20 : Int32) = nI 20 from rfl, pk_mul, nI_add, Nat.mul_comm]
    obtain ⟨b, w12', w13', a1, a2, a3, a4⟩ := ih (k + 1) (p.1, (upd p.2.1 k ((p.2.1 k) + (p.2.2.1 (20 * l + k)))), p.2.2.1, p.2.2.2) (upd w12 k ((w12 k) + (w13 (20 * l + k)))) (upd w13 (20 * l + k) 0) (by omega) (fun i hi => by
        show upd p.2.1 k _ i = upd w12 k _ i
        by_cases e : i = k
        · subst e; rw [pk_us, pk_us, h1 i hi, h2 i (by omega) (by omega)]
        · rw [pk_un e, pk_un e]; exact h1 i hi) (fun i g1 g2 => by
        show p.2.2.1 _ = _
        rw [pk_un (by omega)]; exact h2 i (by omega) g2)
    refine ⟨b, w12', w13', ?_, ?_, a3, fun q hq => by rw [a4 q hq, pk_un (by omega)]⟩
    · rw [zf_P_giveBack_L13, e20, nI_clamp (by omega)]; exact a1
    · rw [zf_M_remove_L68, zy_20N, nI_clamp (by omega)]; exact a2
/-! the reader's relation, and all together -/
abbrev ze_Q (r : zu_R) (w14 w15 w16 w17 w18 : Int32) (w19 : Int64) (w20 w21 : Int32) : Prop := (r.2.2.2.2.2.2.2.1 = w20) ∧ (r.2.2.2.2.2.2.2.2 = w21) ∧ ((w14 = 0 ∧ r.1 = 0) ∨ (w14 = 1 ∧ r.1 = 1 ∧ r.2.1 = w15 ∧ r.2.2.2.2.2.1 = -1) ∨ (w14 = 2 ∧ r.1 = 2 ∧ r.2.1 = w15 ∧ r.2.2.2.2.2.1 = -1 ∧ r.2.2.1 = w16 ∧ ∃ c : Nat, c ≤ 610 ∧ w16 = nI c) ∨ (∃ c j q : Nat, c ≤ 610 ∧ j < c ∧ q < 6 ∧ w14 = nI (3 + 6 * j + q) ∧ r.1 = nI (3 + q) ∧ r.2.1 = w15 ∧ r.2.2.1 = w16 ∧ w16 = nI c ∧ r.2.2.2.1 = nI (c - j) ∧ r.2.2.2.2.2.1 = w17 ∧ (1 ≤ q → r.2.2.2.2.1 = w18) ∧ (2 ≤ q → r.2.2.2.2.2.2.1 = w19)))
theorem ze_Q.whole {r : zu_R} {w14 w15 w16 w17 w18 : Int32} {w19 : Int64} {w20 w21 : Int32} (h : ze_Q r w14 w15 w16 w17 w18 w19 w20 w21) : r.2.2.2.2.2.2.2.1 = w20 := h.1
theorem ze_Q.latest {r : zu_R} {w14 w15 w16 w17 w18 : Int32} {w19 : Int64} {w20 w21 : Int32} (h : ze_Q r w14 w15 w16 w17 w18 w19 w20 w21) : r.2.2.2.2.2.2.2.2 = w21 := h.2.1
theorem ze_Q.at_ {r : zu_R} {w14 w15 w16 w17 w18 : Int32} {w19 : Int64} {w20 w21 : Int32} (h : ze_Q r w14 w15 w16 w17 w18 w19 w20 w21) : (w14 = 0 ∧ r.1 = 0) ∨ (w14 = 1 ∧ r.1 = 1 ∧ r.2.1 = w15 ∧ r.2.2.2.2.2.1 = -1) ∨ (w14 = 2 ∧ r.1 = 2 ∧ r.2.1 = w15 ∧ r.2.2.2.2.2.1 = -1 ∧ r.2.2.1 = w16 ∧ ∃ c : Nat, c ≤ 610 ∧ w16 = nI c) ∨ (∃ c j q : Nat, c ≤ 610 ∧ j < c ∧ q < 6 ∧ w14 = nI (3 + 6 * j + q) ∧ r.1 = nI (3 + q) ∧ r.2.1 = w15 ∧ r.2.2.1 = w16 ∧ w16 = nI c ∧ r.2.2.2.1 = nI (c - j) ∧ r.2.2.2.2.2.1 = w17 ∧ (1 ≤ q → r.2.2.2.2.1 = w18) ∧ (2 ≤ q → r.2.2.2.2.2.2.1 = w19)) := h.2.2
theorem ze_Q.mk {r : zu_R} {w14 w15 w16 w17 w18 : Int32} {w19 : Int64} {w20 w21 : Int32} (whole : r.2.2.2.2.2.2.2.1 = w20) (latest : r.2.2.2.2.2.2.2.2 = w21) (at_ : (w14 = 0 ∧ r.1 = 0) ∨ (w14 = 1 ∧ r.1 = 1 ∧ r.2.1 = w15 ∧ r.2.2.2.2.2.1 = -1) ∨ (w14 = 2 ∧ r.1 = 2 ∧ r.2.1 = w15 ∧ r.2.2.2.2.2.1 = -1 ∧ r.2.2.1 = w16 ∧ ∃ c : Nat, c ≤ 610 ∧ w16 = nI c) ∨ (∃ c j q : Nat, c ≤ 610 ∧ j < c ∧ q < 6 ∧ w14 = nI (3 + 6 * j + q) ∧ r.1 = nI (3 + q) ∧ r.2.1 = w15 ∧ r.2.2.1 = w16 ∧ w16 = nI c ∧ r.2.2.2.1 = nI (c - j) ∧ r.2.2.2.2.2.1 = w17 ∧ (1 ≤ q → r.2.2.2.2.1 = w18) ∧ (2 ≤ q → r.2.2.2.2.2.2.1 = w19))) : ze_Q r w14 w15 w16 w17 w18 w19 w20 w21 := ⟨whole, latest, at_⟩
abbrev ze_R (st : zu_X) (w1 : Int32) (w2 : Nat) (w3 : Nat → Int32) (w4 : Nat → Int64) (w5 w6 : Int32) (w7 : Nat) (w8 : Nat → Int64) (w9 : Nat → Int32) (w10 : Nat) (w11 w12 w13 : Nat → Int32) (w14 w15 w16 w17 w18 : Int32) (w19 : Int64) (w20 w21 : Int32) : Prop := (st.1 = w1) ∧ (ze_S st.2.1 w2 w3 w4) ∧ (ze_C st.2.2.1 w7 w8 w9) ∧ (ze_P st.2.2.2.1 w3 w10 w11 w12 w13) ∧ (ze_Q st.2.2.2.2.1 w14 w15 w16 w17 w18 w19 w20 w21) ∧ (st.2.2.2.2.2.1 = w6) ∧ (st.2.2.2.2.2.2 = w5)
theorem ze_R.kd {st : zu_X} {w1 : Int32} {w2 : Nat} {w3 : Nat → Int32} {w4 : Nat → Int64} {w5 w6 : Int32} {w7 : Nat} {w8 : Nat → Int64} {w9 : Nat → Int32} {w10 : Nat} {w11 w12 w13 : Nat → Int32} {w14 w15 w16 w17 w18 : Int32} {w19 : Int64} {w20 w21 : Int32} (h : ze_R st w1 w2 w3 w4 w5 w6 w7 w8 w9 w10 w11 w12 w13 w14 w15 w16 w17 w18 w19 w20 w21) : st.1 = w1 := h.1
theorem ze_R.S {st : zu_X} {w1 : Int32} {w2 : Nat} {w3 : Nat → Int32} {w4 : Nat → Int64} {w5 w6 : Int32} {w7 : Nat} {w8 : Nat → Int64} {w9 : Nat → Int32} {w10 : Nat} {w11 w12 w13 : Nat → Int32} {w14 w15 w16 w17 w18 : Int32} {w19 : Int64} {w20 w21 : Int32} (h : ze_R st w1 w2 w3 w4 w5 w6 w7 w8 w9 w10 w11 w12 w13 w14 w15 w16 w17 w18 w19 w20 w21) : ze_S st.2.1 w2 w3 w4 := h.2.1
theorem ze_R.C {st : zu_X} {w1 : Int32} {w2 : Nat} {w3 : Nat → Int32} {w4 : Nat → Int64} {w5 w6 : Int32} {w7 : Nat} {w8 : Nat → Int64} {w9 : Nat → Int32} {w10 : Nat} {w11 w12 w13 : Nat → Int32} {w14 w15 w16 w17 w18 : Int32} {w19 : Int64} {w20 w21 : Int32} (h : ze_R st w1 w2 w3 w4 w5 w6 w7 w8 w9 w10 w11 w12 w13 w14 w15 w16 w17 w18 w19 w20 w21) : ze_C st.2.2.1 w7 w8 w9 := h.2.2.1
theorem ze_R.P {st : zu_X} {w1 : Int32} {w2 : Nat} {w3 : Nat → Int32} {w4 : Nat → Int64} {w5 w6 : Int32} {w7 : Nat} {w8 : Nat → Int64} {w9 : Nat → Int32} {w10 : Nat} {w11 w12 w13 : Nat → Int32} {w14 w15 w16 w17 w18 : Int32} {w19 : Int64} {w20 w21 : Int32} (h : ze_R st w1 w2 w3 w4 w5 w6 w7 w8 w9 w10 w11 w12 w13 w14 w15 w16 w17 w18 w19 w20 w21) : ze_P st.2.2.2.1 w3 w10 w11 w12 w13 := h.2.2.2.1
theorem ze_R.Q {st : zu_X} {w1 : Int32} {w2 : Nat} {w3 : Nat → Int32} {w4 : Nat → Int64} {w5 w6 : Int32} {w7 : Nat} {w8 : Nat → Int64} {w9 : Nat → Int32} {w10 : Nat} {w11 w12 w13 : Nat → Int32} {w14 w15 w16 w17 w18 : Int32} {w19 : Int64} {w20 w21 : Int32} (h : ze_R st w1 w2 w3 w4 w5 w6 w7 w8 w9 w10 w11 w12 w13 w14 w15 w16 w17 w18 w19 w20 w21) : ze_Q st.2.2.2.2.1 w14 w15 w16 w17 w18 w19 w20 w21 := h.2.2.2.2.1
theorem ze_R.td {st : zu_X} {w1 : Int32} {w2 : Nat} {w3 : Nat → Int32} {w4 : Nat → Int64} {w5 w6 : Int32} {w7 : Nat} {w8 : Nat → Int64} {w9 : Nat → Int32} {w10 : Nat} {w11 w12 w13 : Nat → Int32} {w14 w15 w16 w17 w18 : Int32} {w19 : Int64} {w20 w21 : Int32} (h : ze_R st w1 w2 w3 w4 w5 w6 w7 w8 w9 w10 w11 w12 w13 w14 w15 w16 w17 w18 w19 w20 w21) : st.2.2.2.2.2.1 = w6 := h.2.2.2.2.2.1
theorem ze_R.ld {st : zu_X} {w1 : Int32} {w2 : Nat} {w3 : Nat → Int32} {w4 : Nat → Int64} {w5 w6 : Int32} {w7 : Nat} {w8 : Nat → Int64} {w9 : Nat → Int32} {w10 : Nat} {w11 w12 w13 : Nat → Int32} {w14 w15 w16 w17 w18 : Int32} {w19 : Int64} {w20 w21 : Int32} (h : ze_R st w1 w2 w3 w4 w5 w6 w7 w8 w9 w10 w11 w12 w13 w14 w15 w16 w17 w18 w19 w20 w21) : st.2.2.2.2.2.2 = w5 := h.2.2.2.2.2.2
theorem ze_R.mk {st : zu_X} {w1 : Int32} {w2 : Nat} {w3 : Nat → Int32} {w4 : Nat → Int64} {w5 w6 : Int32} {w7 : Nat} {w8 : Nat → Int64} {w9 : Nat → Int32} {w10 : Nat} {w11 w12 w13 : Nat → Int32} {w14 w15 w16 w17 w18 : Int32} {w19 : Int64} {w20 w21 : Int32} (kd : st.1 = w1) (S : ze_S st.2.1 w2 w3 w4) (C : ze_C st.2.2.1 w7 w8 w9) (P : ze_P st.2.2.2.1 w3 w10 w11 w12 w13) (Q : ze_Q st.2.2.2.2.1 w14 w15 w16 w17 w18 w19 w20 w21) (td : st.2.2.2.2.2.1 = w6) (ld : st.2.2.2.2.2.2 = w5) : ze_R st w1 w2 w3 w4 w5 w6 w7 w8 w9 w10 w11 w12 w13 w14 w15 w16 w17 w18 w19 w20 w21 := ⟨kd, S, C, P, Q, td, ld⟩
section ZQ
variable {st : zu_X} {w1 : Int32} {w2 : Nat} {w3 : Nat → Int32} {w4 : Nat → Int64} {w5 w6 : Int32} {w7 : Nat} {w8 : Nat → Int64} {w9 : Nat → Int32} {w10 : Nat} {w11 w12 w13 : Nat → Int32} {w14 w15 w16 w17 w18 : Int32} {w19 : Int64} {w20 w21 : Int32}
theorem ze_need (k f : Int32) : zf_X_needBy k f = zf_M_needOf f k := rfl
theorem ze_isV (v : Int64) : zf_X_isValue v = zf_M_in v 0 1000000000 := rfl
theorem zq_line (h : ze_R st w1 w2 w3 w4 w5 w6 w7 w8 w9 w10 w11 w12 w13 w14 w15 w16 w17 w18 w19 w20 w21) (w0 : Int32) :
    nI (zf_X_line st).1 = (zf_M_line w0 w2 w5).2.1 ∧ ((zf_X_line st).1 = 0 → (zf_X_line st).2.1 = (zf_M_line w0 w2 w5).1) ∧ ze_R (zf_X_line st).2.2 w1 (zf_M_line w0 w2 w5).2.2 w3 w4 w5 w6 w7 w8 w9 w10 w11 w12 w13 w14 w15 w16 w17 w18 w19 w20 w21 := by
  have hm := h.S.m30
  by_cases hl : w5 = 0
  · by_cases hf : w2 = 30
    · have e1 : zf_X_line st = (1, 0, st) := by
        rw [zf_X_line, h.ld, if_pos hl, if_neg]
        rw [zf_S_isFull, h.S.made, if_neg (by rw [hf]; decide)]
        decide
      have e2 : zf_M_line w0 w2 w5 = (0, 1, w2) := by
        rw [zf_M_line, if_pos (show nI w2 = 30 by rw [hf]; rfl)]
        rfl
      rw [e1, e2]
      exact ⟨rfl, fun g => absurd g Nat.one_ne_zero, h⟩
    · have hi : zf_S_isFull st.2.1 = 0 := by rw [zf_S_isFull, h.S.made, if_pos (show nI w2 < 30 from nI_lt (b := 30) (by omega) (by decide))]
      have e1 : zf_X_line st = (0, nI (w2 + 1), (st.1, (st.2.1.1, (upd st.2.1.2.1 (w2 + 1) 1), (st.2.1.2.2.1 + 1), st.2.1.2.2.2.1 + 1, st.2.1.2.2.2.2), st.2.2.1, st.2.2.2.1, st.2.2.2.2.1, st.2.2.2.2.2.1, st.2.2.2.2.2.2)) := by
        rw [zf_X_line, if_pos (h.ld.trans hl), if_pos hi, zf_S_openLine, if_pos hi, h.S.made, nI_clamp (by omega)]
      have e2 : zf_M_line w0 w2 w5 = (nI (w2 + 1), 0, w2 + 1) := by
        rw [zf_M_line, if_neg (show ¬ nI w2 = 30 from fun g => hf ((nI_eq (b := 30) (by omega) (by decide)).mp g)), if_pos hl]
      rw [e1, e2]
      exact ⟨rfl, fun _ => rfl, ⟨h.kd, ze_line1 h.S (by omega), h.C, h.P, h.Q, h.td, h.ld⟩⟩
  · have e1 : zf_X_line st = (1, 0, st) := by rw [zf_X_line, h.ld, if_neg hl]
    have e2 : zf_M_line w0 w2 w5 = (0, 1, w2) := by
      rw [zf_M_line, if_neg hl, ite_self]
      rfl
    rw [e1, e2]
    exact ⟨rfl, fun g => absurd g Nat.one_ne_zero, h⟩
theorem zq_remove (h : ze_R st w1 w2 w3 w4 w5 w6 w7 w8 w9 w10 w11 w12 w13 w14 w15 w16 w17 w18 w19 w20 w21) (w0 p : Int32) :
    (zf_X_remove st p).1 = (zf_M_remove w0 w2 w3 w4 w5 w10 w12 w13 p).1 ∧ ze_R (zf_X_remove st p).2 w1 w2 (zf_M_remove w0 w2 w3 w4 w5 w10 w12 w13 p).2.2.1 (zf_M_remove w0 w2 w3 w4 w5 w10 w12 w13 p).2.2.2.1 w5 w6 w7 w8 w9 w10 w11 (zf_M_remove w0 w2 w3 w4 w5 w10 w12 w13 p).2.2.2.2.1 (zf_M_remove w0 w2 w3 w4 w5 w10 w12 w13 p).2.2.2.2.2 w14 w15 w16 w17 w18 w19 w20 w21 := by
  by_cases hl : zf_M_isLine w2 w3 p = 0
  · have e1 : zf_X_remove st p = (-1, st) := by rw [zf_X_remove, ze_has h.S, if_pos hl, ite_self]
    have e2 : zf_M_remove w0 w2 w3 w4 w5 w10 w12 w13 p = (-1, 0, w3, w4, w12, w13) := by rw [zf_M_remove, if_pos hl]
    rw [e1, e2]
    exact ⟨rfl, h⟩
  · by_cases h5 : w5 = 0
    · have hx := hl
      rw [← ze_has h.S] at hx
      have hp1 : ¬ p < 1 := fun g => hl (by rw [zf_M_isLine, if_pos g])
      obtain ⟨l, l30, rfl⟩ := vp_in_of (zy_isl h.S.m30 hl) (by decide)
      have l1 : 1 ≤ l := by
        rcases Nat.eq_zero_or_pos l with e | e
        · rw [e] at hp1; exact absurd (by decide) hp1
        · exact e
      have ho : ¬ st.2.1.2.1 l = 0 := fun g => hx (by rw [ze_hasN l1 (by omega), if_pos g])
      have hw : w3 l = 0 := (Classical.not_not.mp (fun g => ho ((h.S.opn l l1 (by omega)).mpr g))).2
      obtain ⟨s', w4', a1, a2, a3, a4, a5, a6, a7⟩ := ze_drop (w2 := w2) (w3 := w3) (l := l) (by omega) st.2.1.2.2.2.2 (zf_M_setIn w4 (nI l)) 0 (upd w3 l 1) w5 w10 w12 w13 10 0 st.2.1 w4 rfl h.S (Or.inr ho) (fun i hi => by omega)
      obtain ⟨b, w12', w13', b1, b2, b3, b4⟩ := ze_give (w10 := w10) (w2 := w2) (l := l) (by omega) h.P.le (zf_M_setIn w4 (nI l)) 0 (upd w3 l 1) w4' w5 w10 0 st.2.2.2.1 w12 w13 (by omega) h.P.bal (fun i _ hi => h.P.drw l l1 (by omega) hw i hi)
      have hn : st.2.1.2.2.2.2 - s'.2.2.2.2 = zf_M_setIn w4 (nI l) := by
        have sp : ∀ P : Nat → Bool, ze_c P 310 0 = ze_c P (10 * l) 0 + (ze_c P 10 (10 * l) + ze_c P (300 - 10 * l) (10 * l + 10)) := fun P => by
          rw [show (310 : Nat) = 10 * l + (10 + (300 - 10 * l)) by omega, ze_c_add P (10 * l), ze_c_add P 10, Nat.zero_add]
        rw [ze_setIn h.S (by omega), h.S.filled, a1.filled, sp, sp (ze_set s'.1)]
        rw [ze_c_congr (P := ze_set s'.1) (Q := ze_set st.2.1.1) (10 * l) 0 (fun i _ hi => by rw [ze_set, ze_set, a4 i (by omega)]), ze_c_zero (P := ze_set s'.1) 10 (10 * l) (fun i g1 g2 => ze_set_f (by
            have := a3 (i - 10 * l) (by omega)
            rw [show 10 * l + (i - 10 * l) = i by omega] at this
            exact this)), ze_c_congr (P := ze_set s'.1) (Q := ze_set st.2.1.1) (300 - 10 * l) (10 * l + 10) (fun i g1 _ => by rw [ze_set, ze_set, a4 i (by omega)])]
        rw [pk_sub (by omega)]
        congr 1
        omega
      have e1 : zf_X_remove st (nI l) = (zf_M_setIn w4 (nI l), (st.1, (s'.1, (upd s'.2.1 l 0), s'.2.2.1, s'.2.2.2.1 - 1, s'.2.2.2.2), st.2.2.1, (st.2.2.2.1.1, b, st.2.2.2.1.2.2.1, st.2.2.2.1.2.2.2), st.2.2.2.2.1, st.2.2.2.2.2.1, st.2.2.2.2.2.2)) := by
        rw [zf_X_remove, if_pos (h.ld.trans h5), if_neg hx, zf_S_dropLine, if_neg hx, a6, hn, zf_P_giveBack, if_neg (nI_pos (by omega)), if_pos (show nI l ≤ 30 from nI_le (b := 30) (by omega) (by decide)), h.P.n, b1, h.P.n]
      have e2 : zf_M_remove w0 w2 w3 w4 w5 w10 w12 w13 (nI l) = (zf_M_setIn w4 (nI l), 0, upd w3 l 1, w4', w12', w13') := by
        rw [zf_M_remove, if_neg hl, if_pos h5, nI_clamp (by omega), a7, b2]
      rw [e1, e2]
      refine ⟨rfl, ⟨h.kd, ze_close a1 l1 (by omega) (by rw [a2]; exact ho) a3, h.C, ⟨h.P.n, h.P.le, h.P.num, b3, h.P.ne, ?_⟩, h.Q, h.td, h.ld⟩⟩
      intro j j1 j30 hj i hi
      have hj : upd w3 l 1 j = 0 := hj
      have e : j ≠ l := fun e => by rw [e, pk_us] at hj; exact absurd hj (by decide)
      rw [pk_un e] at hj
      show st.2.2.2.1.2.2.1 _ = w13' _
      rw [b4 _ (by omega)]
      exact h.P.drw j j1 j30 hj i hi
    · have e1 : zf_X_remove st p = (-1, st) := by rw [zf_X_remove, if_neg (fun g => h5 (h.ld.symm.trans g))]
      have e2 : zf_M_remove w0 w2 w3 w4 w5 w10 w12 w13 p = (-1, 0, w3, w4, w12, w13) := by rw [zf_M_remove, if_neg hl, if_neg h5]
      rw [e1, e2]
      exact ⟨rfl, h⟩
end ZQ

