theorem ze_in32 (x a b : Int32) : zf_M_in x.toInt64 a.toInt64 b.toInt64 = if x < a then 0 else if x ≤ b then 1 else 0 := by
  rw [zf_M_in]
  by_cases h1 : x < a
  · rw [if_pos h1, if_pos]
    rw [lg_cmp_lt, Int64.lt_iff_toInt_lt, Int32.toInt_toInt64, Int32.toInt_toInt64]
    exact Int32.lt_iff_toInt_lt.mp h1
  · rw [if_neg h1, if_neg]
    · by_cases h2 : x ≤ b
      · rw [if_pos h2, if_neg]
        rw [lg_cmp_gt, Int64.lt_iff_toInt_lt, Int32.toInt_toInt64, Int32.toInt_toInt64]
        rw [Int32.le_iff_toInt_le] at h2
        omega
      · rw [if_neg h2, if_pos]
        rw [lg_cmp_gt, Int64.lt_iff_toInt_lt, Int32.toInt_toInt64, Int32.toInt_toInt64]
        rw [Int32.le_iff_toInt_le] at h2
        omega
    · rw [lg_cmp_lt, Int64.lt_iff_toInt_lt, Int32.toInt_toInt64, Int32.toInt_toInt64]
      rw [Int32.lt_iff_toInt_lt] at h1
      exact h1
section ZQ
variable {st : zu_X} {w1 : Int32} {w2 : Nat} {w3 : Nat → Int32} {w4 : Nat → Int64} {w5 w6 : Int32} {w7 : Nat} {w8 : Nat → Int64} {w9 : Nat → Int32} {w10 : Nat} {w11 w12 w13 : Nat → Int32} {w14 w15 w16 w17 w18 : Int32} {w19 : Int64} {w20 w21 : Int32}
theorem zq_field (h : ze_R st w1 w2 w3 w4 w5 w6 w7 w8 w9 w10 w11 w12 w13 w14 w15 w16 w17 w18 w19 w20 w21) (w0 f p : Int32) (v : Int64) :
    nI (zf_X_field st f p v).1 = (zf_M_field w0 w1 w2 w3 w4 w5 f p v).2.1 ∧ ((zf_X_field st f p v).1 = 0 → (zf_X_field st f p v).2.1 = (zf_M_field w0 w1 w2 w3 w4 w5 f p v).1) ∧ ze_R (zf_X_field st f p v).2.2 w1 w2 w3 (zf_M_field w0 w1 w2 w3 w4 w5 f p v).2.2 w5 w6 w7 w8 w9 w10 w11 w12 w13 w14 w15 w16 w17 w18 w19 w20 w21 := by
  rcases ze_slot h.S f p with ⟨g1, g2⟩ | ⟨g1, i, gi, g2, g3⟩
  · have e1 : zf_X_field st f p v = (1, 0, st) := by rw [zf_X_field, if_pos g2]
    have e2 : zf_M_field w0 w1 w2 w3 w4 w5 f p v = (0, 1, w4) := by rw [zf_M_field, if_pos g1]; rfl
    rw [e1, e2]
    exact ⟨rfl, fun g => absurd g Nat.one_ne_zero, h⟩
  · have hi := gi.1
    have n1 : ¬ zf_S_slotOf st.2.1 f p = -1 := by rw [g2]; exact ze_nm1 (by omega)
    by_cases hv : zf_M_in v 0 1000000000 = 0
    · have e1 : zf_X_field st f p v = (1, 0, st) := by rw [zf_X_field, if_neg n1, if_pos (show zf_X_isValue v = 0 from hv)]
      have e2 : zf_M_field w0 w1 w2 w3 w4 w5 f p v = (0, 1, w4) := by rw [zf_M_field, if_neg g1, if_pos hv]; rfl
      rw [e1, e2]
      exact ⟨rfl, fun g => absurd g Nat.one_ne_zero, h⟩
    · have hv' : ¬ zf_X_isValue v = 0 := hv
      by_cases h5 : w5 = 0
      · by_cases hn : zf_M_needOf f w1 = 3
        · have e1 : zf_X_field st f p v = (0, 0, st) := by rw [zf_X_field, if_neg n1, if_neg hv', if_pos (h.ld.trans h5), h.kd, if_pos (show zf_X_needBy w1 f = 3 from hn)]
          have e2 : zf_M_field w0 w1 w2 w3 w4 w5 f p v = (0, 0, w4) := by rw [zf_M_field, if_neg g1, if_neg hv, if_pos hn]
          rw [e1, e2]
          exact ⟨rfl, fun _ => rfl, h⟩
        · have e1 : zf_X_field st f p v = (0, 1, (st.1, (zf_S_put st.2.1 (nI i) v.toInt32), st.2.2.1, st.2.2.2.1, st.2.2.2.2.1, st.2.2.2.2.2.1, st.2.2.2.2.2.2)) := by rw [zf_X_field, if_neg n1, if_neg hv', if_pos (h.ld.trans h5), if_neg (show ¬ zf_X_needBy st.1 f = 3 by rw [h.kd]; exact hn), g2]
          have e2 : zf_M_field w0 w1 w2 w3 w4 w5 f p v = (1, 0, vp_updL w4 i v) := by rw [zf_M_field, if_neg g1, if_neg hv, if_neg hn, if_pos h5, g3, nI_clamp (by omega)]
          rw [e1, e2]
          obtain ⟨o1, o2⟩ := ze_okV hv
          have := ze_put h.S gi o1
          rw [o2] at this
          exact ⟨rfl, fun _ => rfl, ⟨h.kd, this, h.C, h.P, h.Q, h.td, h.ld⟩⟩
      · have e1 : zf_X_field st f p v = (0, 0, st) := by rw [zf_X_field, if_neg n1, if_neg hv', if_neg (fun g => h5 (h.ld.symm.trans g))]
        have e2 : zf_M_field w0 w1 w2 w3 w4 w5 f p v = (0, 0, w4) := by rw [zf_M_field, if_neg g1, if_neg hv, if_neg h5, ite_self]
        rw [e1, e2]
        exact ⟨rfl, fun _ => rfl, h⟩
theorem zq_clear (h : ze_R st w1 w2 w3 w4 w5 w6 w7 w8 w9 w10 w11 w12 w13 w14 w15 w16 w17 w18 w19 w20 w21) (w0 f p : Int32) :
    (zf_X_clear st f p).1 = (zf_M_clear w0 w2 w3 w4 w5 f p).1 ∧ ze_R (zf_X_clear st f p).2 w1 w2 w3 (zf_M_clear w0 w2 w3 w4 w5 f p).2.2 w5 w6 w7 w8 w9 w10 w11 w12 w13 w14 w15 w16 w17 w18 w19 w20 w21 := by
  rcases ze_slot h.S f p with ⟨g1, g2⟩ | ⟨g1, i, gi, g2, g3⟩
  · have e1 : zf_X_clear st f p = (0, st) := by rw [zf_X_clear, if_pos g2, ite_self]
    have e2 : zf_M_clear w0 w2 w3 w4 w5 f p = (0, 0, w4) := by rw [zf_M_clear, if_pos g1]
    rw [e1, e2]
    exact ⟨rfl, h⟩
  · have hi := gi.1
    have n1 : ¬ zf_S_slotOf st.2.1 f p = -1 := by rw [g2]; exact ze_nm1 (by omega)
    by_cases h5 : w5 = 0
    · by_cases hv : st.2.1.1 i = -1
      · have e1 : zf_X_clear st f p = (0, st) := by rw [zf_X_clear, if_pos (h.ld.trans h5), if_neg n1, g2, ze_vAt _ hi, if_pos hv]
        have e2 : zf_M_clear w0 w2 w3 w4 w5 f p = (0, 0, w4) := by rw [zf_M_clear, if_neg g1, if_pos h5, g3, nI_clamp (by omega), h.S.val i hi, if_pos ((ze_m1 _).mpr hv)]
        rw [e1, e2]
        exact ⟨rfl, h⟩
      · have e1 : zf_X_clear st f p = (1, (st.1, (zf_S_put st.2.1 (nI i) (-1)), st.2.2.1, st.2.2.2.1, st.2.2.2.2.1, st.2.2.2.2.2.1, st.2.2.2.2.2.2)) := by rw [zf_X_clear, if_pos (h.ld.trans h5), if_neg n1, g2, ze_vAt _ hi, if_neg hv]
        have e2 : zf_M_clear w0 w2 w3 w4 w5 f p = (1, 0, vp_updL w4 i (-1)) := by rw [zf_M_clear, if_neg g1, if_pos h5, g3, nI_clamp (by omega), h.S.val i hi, if_neg (fun g => hv ((ze_m1 _).mp g))]
        rw [e1, e2]
        exact ⟨rfl, ⟨h.kd, ze_put h.S gi (x := -1) (Or.inl rfl), h.C, h.P, h.Q, h.td, h.ld⟩⟩
    · have e1 : zf_X_clear st f p = (0, st) := by rw [zf_X_clear, if_neg (fun g => h5 (h.ld.symm.trans g))]
      have e2 : zf_M_clear w0 w2 w3 w4 w5 f p = (0, 0, w4) := by rw [zf_M_clear, if_neg g1, if_neg h5]
      rw [e1, e2]
      exact ⟨rfl, h⟩
theorem zq_value (h : ze_R st w1 w2 w3 w4 w5 w6 w7 w8 w9 w10 w11 w12 w13 w14 w15 w16 w17 w18 w19 w20 w21) (w0 f p : Int32) :
    nI (zf_X_value st f p).1 = (zf_M_value w0 w2 w3 w4 f p).2 ∧ ((zf_X_value st f p).1 = 0 → (zf_X_value st f p).2 = (zf_M_value w0 w2 w3 w4 f p).1) := by
  rcases ze_slot h.S f p with ⟨g1, g2⟩ | ⟨g1, i, gi, g2, g3⟩
  · have e1 : zf_X_value st f p = (1, 0) := by rw [zf_X_value, if_pos g2]
    have e2 : zf_M_value w0 w2 w3 w4 f p = (0, 1) := by rw [zf_M_value, if_pos g1]
    rw [e1, e2]
    exact ⟨rfl, fun g => absurd g Nat.one_ne_zero⟩
  · have hi := gi.1
    have n1 : ¬ zf_S_slotOf st.2.1 f p = -1 := by rw [g2]; exact ze_nm1 (by omega)
    have e1 : zf_X_value st f p = (0, (st.2.1.1 i).toInt64) := by rw [zf_X_value, if_neg n1, g2, ze_vAt _ hi]
    have e2 : zf_M_value w0 w2 w3 w4 f p = ((st.2.1.1 i).toInt64, 0) := by rw [zf_M_value, if_neg g1, g3, nI_clamp (by omega), h.S.val i hi]
    rw [e1, e2]
    exact ⟨rfl, fun _ => rfl⟩
theorem zq_need (h : ze_R st w1 w2 w3 w4 w5 w6 w7 w8 w9 w10 w11 w12 w13 w14 w15 w16 w17 w18 w19 w20 w21) (w0 f : Int32) :
    nI (zf_X_need st f).1 = (zf_M_need w0 w1 f).2 ∧ ((zf_X_need st f).1 = 0 → (zf_X_need st f).2 = (zf_M_need w0 w1 f).1) := by
  rw [zf_X_need, zf_M_need, show zf_M_in f.toInt64 0 19 = _ from ze_in32 f 0 19, h.kd]
  by_cases h1 : f < 0
  · rw [if_pos h1, if_pos h1]
    exact ⟨rfl, fun g => absurd g Nat.one_ne_zero⟩
  · rw [if_neg h1, if_neg h1]
    by_cases h2 : f ≤ 19
    · rw [if_pos h2, if_pos h2]
      exact ⟨rfl, fun _ => rfl⟩
    · rw [if_neg h2, if_neg h2]
      exact ⟨rfl, fun g => absurd g Nat.one_ne_zero⟩
/-! codes -/
theorem ze_cdN (w0 : Int32) (w7 : Nat) (w8 : Nat → Int64) (w9 : Nat → Int32) (v : Int64) (d : Int32) : ∀ mm k : Nat, ((∀ i, k ≤ i → i < k + mm → ¬ w8 i = v) ∧ zf_M_code_L33 w0 w7 w8 w9 v d mm k = zf_M_code_L33 w0 w7 w8 w9 v d 0 0) ∨ ∃ j : Nat, k ≤ j ∧ j < k + mm ∧ w8 j = v ∧ zf_M_code_L33 w0 w7 w8 w9 v d mm k = (1, w0, w7, w8, upd w9 j d) := by
  intro mm
  induction mm with
  | zero => intro k; exact Or.inl ⟨fun i h1 h2 => by omega, by rw [zf_M_code_L33, zf_M_code_L33]⟩
  | succ mm ih =>
    intro k
    by_cases h : lg_cmp (w8 k) v = 0
    · exact Or.inr ⟨k, Nat.le_refl k, by omega, (lg_cmp_eq _ _).mp h, by rw [zf_M_code_L33, if_pos h]⟩
    · rw [show zf_M_code_L33 w0 w7 w8 w9 v d (mm + 1) k = zf_M_code_L33 w0 w7 w8 w9 v d mm (k + 1) by rw [zf_M_code_L33, if_neg h]]
      rcases ih (k + 1) with ⟨q, r⟩ | ⟨j, h1, h2, h3, h4⟩
      · exact Or.inl ⟨fun i h1 h2 => by
          by_cases e : i = k
          · rw [e]; exact fun g => h ((lg_cmp_eq _ _).mpr g)
          · exact q i (by omega) (by omega), r⟩
      · exact Or.inr ⟨j, by omega, by omega, h3, h4⟩
theorem ze_tell {c : zu_C} (h : ze_C c w7 w8 w9) (v : Int32) (d w0 : Int32) : (zf_C_tell c v d).1 = (zf_M_code_L33 w0 w7 w8 w9 v.toInt64 d w7 0).1 ∧ (zf_M_code_L33 w0 w7 w8 w9 v.toInt64 d w7 0).2.1 = w0 ∧ ze_C (zf_C_tell c v d).2 (zf_M_code_L33 w0 w7 w8 w9 v.toInt64 d w7 0).2.2.1 (zf_M_code_L33 w0 w7 w8 w9 v.toInt64 d w7 0).2.2.2.1 (zf_M_code_L33 w0 w7 w8 w9 v.toInt64 d w7 0).2.2.2.2 := by
  have h20 := h.le
  have hv : ∀ i, i < w7 → (w8 i = v.toInt64 ↔ c.1 i = v) := fun i hi => by
    rw [h.val i hi, ← lg_cmp_eq, ze_inj]
  rcases ze_cf c v w7 0 with ⟨q, r⟩ | ⟨j, h1, h2, h3, h4⟩
  · have hM : zf_M_code_L33 w0 w7 w8 w9 v.toInt64 d w7 0 = zf_M_code_L33 w0 w7 w8 w9 v.toInt64 d 0 0 := by
      rcases ze_cdN w0 w7 w8 w9 v.toInt64 d w7 0 with ⟨a1, a2⟩ | ⟨j, a1, a2, a3, a4⟩
      · exact a2
      · exact absurd ((hv j (by omega)).mp a3) (r j (by omega) (by omega))
    rw [hM, zf_M_code_L33, zf_C_tell, zf_C_find, h.n, if_pos q]
    by_cases hf : w7 = 20
    · rw [if_pos (show nI w7 = 20 by rw [hf]; rfl), if_neg (show ¬ nI w7 < 20 by rw [hf]; decide)]
      exact ⟨rfl, rfl, h⟩
    · rw [if_neg (show ¬ nI w7 = 20 from fun g => hf ((nI_eq (b := 20) (by omega) (by decide)).mp g)), if_pos (show nI w7 < 20 from nI_lt (b := 20) (by omega) (by decide))]
      refine ⟨rfl, rfl, ⟨rfl, by show w7 + 1 ≤ 20; omega, ?_, ?_, ?_⟩⟩
      · intro i hi
        have hi : i < w7 + 1 := hi
        show vp_updL w8 w7 _ i = (upd c.1 w7 v i).toInt64
        by_cases e : i = w7
        · subst e; rw [pk_us, pk_uLs]
        · rw [pk_un e, pk_uLn e]; exact h.val i (by omega)
      · intro i hi
        have hi : i < w7 + 1 := hi
        show upd c.2.1 w7 d i = upd w9 w7 d i
        by_cases e : i = w7
        · subst e; rw [pk_us, pk_us]
        · rw [pk_un e, pk_un e]; exact h.day i (by omega)
      · intro i j hij hj
        have hj : j < w7 + 1 := hj
        show ¬ upd c.1 w7 v i = upd c.1 w7 v j
        rw [pk_un (show i ≠ w7 by omega)]
        by_cases e : j = w7
        · subst e; rw [pk_us]; exact r i (by omega) (by omega)
        · rw [pk_un e]; exact h.ne i j hij (by omega)
  · have hM : zf_M_code_L33 w0 w7 w8 w9 v.toInt64 d w7 0 = (1, w0, w7, w8, upd w9 j d) := by
      rcases ze_cdN w0 w7 w8 w9 v.toInt64 d w7 0 with ⟨a1, a2⟩ | ⟨j', a1, a2, a3, a4⟩
      · exact absurd ((hv j (by omega)).mpr h4) (a1 j (by omega) (by omega))
      · have e' := (hv j' (by omega)).mp a3
        rcases Nat.lt_trichotomy j j' with e | e | e
        · exact absurd (h4.trans e'.symm) (h.ne j j' e (by omega))
        · rw [a4, e]
        · exact absurd (e'.trans h4.symm) (h.ne j' j e (by omega))
    have hC : zf_C_tell c v d = (1, (c.1, upd c.2.1 j d, c.2.2)) := by
      rw [zf_C_tell, zf_C_find, h.n, h3, if_neg (ze_nm1 (by omega)), nI_clamp (by omega)]
    rw [hM, hC]
    refine ⟨rfl, rfl, ⟨h.n, h20, h.val, ?_, h.ne⟩⟩
    intro i hi
    show upd c.2.1 j d i = upd w9 j d i
    by_cases e : i = j
    · subst e; rw [pk_us, pk_us]
    · rw [pk_un e, pk_un e]; exact h.day i hi
theorem zq_code (h : ze_R st w1 w2 w3 w4 w5 w6 w7 w8 w9 w10 w11 w12 w13 w14 w15 w16 w17 w18 w19 w20 w21) (w0 : Int32) (v : Int64) (d : Int32) :
    (zf_X_code st v d).1 = (zf_M_code w0 w7 w8 w9 v d).1 ∧ ze_R (zf_X_code st v d).2 w1 w2 w3 w4 w5 w6 (zf_M_code w0 w7 w8 w9 v d).2.2.1 (zf_M_code w0 w7 w8 w9 v d).2.2.2.1 (zf_M_code w0 w7 w8 w9 v d).2.2.2.2 w10 w11 w12 w13 w14 w15 w16 w17 w18 w19 w20 w21 := by
  rw [zf_X_code, zf_M_code, show zf_M_in d.toInt64 0 100000 = _ from ze_in32 d 0 100000, ze_isV]
  by_cases h1 : zf_M_in v 0 1000000000 = 0
  · rw [if_pos h1, if_pos h1]
    exact ⟨rfl, h⟩
  · rw [if_neg h1, if_neg h1]
    by_cases h2 : d < 0
    · rw [if_pos h2, if_pos h2]
      exact ⟨rfl, h⟩
    · rw [if_neg h2, if_neg h2]
      by_cases h3 : d ≤ 100000
      · rw [if_pos h3, if_pos h3, if_neg (by decide)]
        obtain ⟨a, b, c⟩ := ze_tell h.C v.toInt32 d 0
        rw [(ze_okV h1).2] at a b c
        exact ⟨a, ⟨h.kd, h.S, c, h.P, h.Q, h.td, h.ld⟩⟩
      · rw [if_neg h3, if_neg h3]
        exact ⟨rfl, h⟩
theorem zq_day (h : ze_R st w1 w2 w3 w4 w5 w6 w7 w8 w9 w10 w11 w12 w13 w14 w15 w16 w17 w18 w19 w20 w21) (w0 d : Int32) :
    (zf_X_day st d).1 = (zf_M_day w0 w6 d).1 ∧ ze_R (zf_X_day st d).2 w1 w2 w3 w4 w5 (zf_M_day w0 w6 d).2.2 w7 w8 w9 w10 w11 w12 w13 w14 w15 w16 w17 w18 w19 w20 w21 := by
  rw [zf_X_day, zf_M_day, show zf_M_in d.toInt64 w6.toInt64 100000 = _ from ze_in32 d w6 100000]
  by_cases h2 : d < w6
  · rw [if_pos (show d < st.2.2.2.2.2.1 by rw [h.td]; exact h2), if_pos h2]
    exact ⟨rfl, h⟩
  · rw [if_neg (show ¬ d < st.2.2.2.2.2.1 by rw [h.td]; exact h2), if_neg h2]
    by_cases h3 : d ≤ 100000
    · rw [if_pos h3, if_pos h3, if_neg (by decide)]
      exact ⟨rfl, ⟨h.kd, h.S, h.C, h.P, h.Q, rfl, h.ld⟩⟩
    · rw [if_neg h3, if_neg h3]
      exact ⟨rfl, h⟩
theorem zq_check (h : ze_R st w1 w2 w3 w4 w5 w6 w7 w8 w9 w10 w11 w12 w13 w14 w15 w16 w17 w18 w19 w20 w21) (w0 : Int32) : zf_X_check st = (zf_M_check w0 w1 w2 w3 w4 w6 w7 w8 w9).1 := ze_check h.kd h.S h.C h.td
theorem zq_lodge (h : ze_R st w1 w2 w3 w4 w5 w6 w7 w8 w9 w10 w11 w12 w13 w14 w15 w16 w17 w18 w19 w20 w21) (w0 : Int32) :
    (zf_X_lodge st).1 = (zf_M_lodge w0 w1 w2 w3 w4 w5 w6 w7 w8 w9).1 ∧ ze_R (zf_X_lodge st).2 w1 w2 w3 w4 (zf_M_lodge w0 w1 w2 w3 w4 w5 w6 w7 w8 w9).2.2 w6 w7 w8 w9 w10 w11 w12 w13 w14 w15 w16 w17 w18 w19 w20 w21 := by
  rw [zf_X_lodge, zf_M_lodge, ze_check h.kd h.S h.C h.td]
  by_cases h5 : w5 = 0
  · rw [if_pos (h.ld.trans h5), if_pos h5]
    by_cases h2 : zf_M_broken w1 w2 w3 w4 w6 w7 w8 w9 = 0
    · rw [if_pos h2, if_pos h2]
      exact ⟨rfl, ⟨h.kd, h.S, h.C, h.P, h.Q, h.td, rfl⟩⟩
    · rw [if_neg h2, if_neg h2]
      exact ⟨rfl, h⟩
  · rw [if_neg (fun g => h5 (h.ld.symm.trans g)), if_neg h5]
    exact ⟨rfl, h⟩
theorem zq_amend (h : ze_R st w1 w2 w3 w4 w5 w6 w7 w8 w9 w10 w11 w12 w13 w14 w15 w16 w17 w18 w19 w20 w21) (w0 f p : Int32) (v : Int64) :
    nI (zf_X_amend st f p v).1 = (zf_M_amend w0 w1 w2 w3 w4 w5 w6 w7 w8 w9 f p v).2.1 ∧ ((zf_X_amend st f p v).1 = 0 → (zf_X_amend st f p v).2.1 = (zf_M_amend w0 w1 w2 w3 w4 w5 w6 w7 w8 w9 f p v).1) ∧ ze_R (zf_X_amend st f p v).2.2 w1 w2 w3 (zf_M_amend w0 w1 w2 w3 w4 w5 w6 w7 w8 w9 f p v).2.2 w5 w6 w7 w8 w9 w10 w11 w12 w13 w14 w15 w16 w17 w18 w19 w20 w21 := by
  rcases ze_slot h.S f p with ⟨g1, g2⟩ | ⟨g1, i, gi, g2, g3⟩
  · have e1 : zf_X_amend st f p v = (1, 0, st) := by rw [zf_X_amend, if_pos g2]
    have e2 : zf_M_amend w0 w1 w2 w3 w4 w5 w6 w7 w8 w9 f p v = (0, 1, w4) := by rw [zf_M_amend, if_pos g1]; rfl
    rw [e1, e2]
    exact ⟨rfl, fun g => absurd g Nat.one_ne_zero, h⟩
  · have hi := gi.1
    have n1 : ¬ zf_S_slotOf st.2.1 f p = -1 := by rw [g2]; exact ze_nm1 (by omega)
    by_cases hv : zf_M_in v 0 1000000000 = 0
    · have e1 : zf_X_amend st f p v = (1, 0, st) := by rw [zf_X_amend, if_neg n1, if_pos (show zf_X_isValue v = 0 from hv)]
      have e2 : zf_M_amend w0 w1 w2 w3 w4 w5 w6 w7 w8 w9 f p v = (0, 1, w4) := by rw [zf_M_amend, if_neg g1, if_pos hv]; rfl
      rw [e1, e2]
      exact ⟨rfl, fun g => absurd g Nat.one_ne_zero, h⟩
    · have hv' : ¬ zf_X_isValue v = 0 := hv
      by_cases h5 : w5 = 0
      · have e1 : zf_X_amend st f p v = (2, 0, st) := by rw [zf_X_amend, if_neg n1, if_neg hv', if_pos (h.ld.trans h5)]
        have e2 : zf_M_amend w0 w1 w2 w3 w4 w5 w6 w7 w8 w9 f p v = (0, 2, w4) := by rw [zf_M_amend, if_neg g1, if_neg hv, if_pos h5]; rfl
        rw [e1, e2]
        exact ⟨rfl, fun g => absurd (show (2 : Nat) = 0 from g) (by decide), h⟩
      · have h5' : ¬ st.2.2.2.2.2.2 = 0 := fun g => h5 (h.ld.symm.trans g)
        by_cases h3 : f - f / 3 * 3 = 0
        · have e1 : zf_X_amend st f p v = (0, 0, st) := by rw [zf_X_amend, if_neg n1, if_neg hv', if_neg h5', if_pos h3]
          have e2 : zf_M_amend w0 w1 w2 w3 w4 w5 w6 w7 w8 w9 f p v = (0, 0, w4) := by rw [zf_M_amend, if_neg g1, if_neg hv, if_neg h5, if_pos h3]
          rw [e1, e2]
          exact ⟨rfl, fun _ => rfl, h⟩
        · by_cases hn : zf_M_needOf f w1 = 3
          · have e1 : zf_X_amend st f p v = (0, 0, st) := by rw [zf_X_amend, if_neg n1, if_neg hv', if_neg h5', if_neg h3, h.kd, if_pos (show zf_X_needBy w1 f = 3 from hn)]
            have e2 : zf_M_amend w0 w1 w2 w3 w4 w5 w6 w7 w8 w9 f p v = (0, 0, w4) := by rw [zf_M_amend, if_neg g1, if_neg hv, if_neg h5, if_neg h3, if_pos hn]
            rw [e1, e2]
            exact ⟨rfl, fun _ => rfl, h⟩
          · obtain ⟨o1, o2⟩ := ze_okV hv
            have hS := ze_put h.S gi o1
            rw [o2] at hS
            have hR : ze_R (st.1, (zf_S_put st.2.1 (nI i) v.toInt32), st.2.2.1, st.2.2.2.1, st.2.2.2.2.1, st.2.2.2.2.2.1, st.2.2.2.2.2.2) w1 w2 w3 (vp_updL w4 i v) w5 w6 w7 w8 w9 w10 w11 w12 w13 w14 w15 w16 w17 w18 w19 w20 w21 := ⟨h.kd, hS, h.C, h.P, h.Q, h.td, h.ld⟩
            have hc := ze_check hR.kd hR.S hR.C hR.td
            have hn' : ¬ zf_X_needBy st.1 f = 3 := by rw [h.kd]; exact hn
            by_cases hb : zf_M_broken w1 w2 w3 (vp_updL w4 i v) w6 w7 w8 w9 = 0
            · have e1 : zf_X_amend st f p v = (0, 1, (st.1, (zf_S_put st.2.1 (nI i) v.toInt32), st.2.2.1, st.2.2.2.1, st.2.2.2.2.1, st.2.2.2.2.2.1, st.2.2.2.2.2.2)) := by rw [zf_X_amend, if_neg n1, if_neg hv', if_neg h5', if_neg h3, if_neg hn', g2, if_pos (hc.trans hb)]
              have e2 : zf_M_amend w0 w1 w2 w3 w4 w5 w6 w7 w8 w9 f p v = (1, 0, vp_updL w4 i v) := by rw [zf_M_amend, if_neg g1, if_neg hv, if_neg h5, if_neg h3, if_neg hn, g3, nI_clamp (by omega), if_pos hb]
              rw [e1, e2]
              exact ⟨rfl, fun _ => rfl, hR⟩
            · have e1 : zf_X_amend st f p v = (0, 0, (st.1, (zf_S_put (zf_S_put st.2.1 (nI i) v.toInt32) (nI i) (st.2.1.1 i)), st.2.2.1, st.2.2.2.1, st.2.2.2.2.1, st.2.2.2.2.2.1, st.2.2.2.2.2.2)) := by rw [zf_X_amend, if_neg n1, if_neg hv', if_neg h5', if_neg h3, if_neg hn', g2, if_neg (fun g => hb (hc.symm.trans g)), ze_vAt _ hi]
              have e2 : zf_M_amend w0 w1 w2 w3 w4 w5 w6 w7 w8 w9 f p v = (0, 0, vp_updL (vp_updL w4 i v) i (st.2.1.1 i).toInt64) := by rw [zf_M_amend, if_neg g1, if_neg hv, if_neg h5, if_neg h3, if_neg hn, g3, nI_clamp (by omega), if_neg hb, h.S.val i hi]
              rw [e1, e2]
              have gi' : ze_pl (zf_S_put st.2.1 (nI i) v.toInt32) i := ⟨hi, by rw [(ze_put_o hi _).1]; exact gi.2⟩
              exact ⟨rfl, fun _ => rfl, ⟨h.kd, ze_put hS gi' (h.S.ok i hi), h.C, h.P, h.Q, h.td, h.ld⟩⟩
end ZQ
section ZQ
variable {st : zu_X} {w1 : Int32} {w2 : Nat} {w3 : Nat → Int32} {w4 : Nat → Int64} {w5 w6 : Int32} {w7 : Nat} {w8 : Nat → Int64} {w9 : Nat → Int32} {w10 : Nat} {w11 w12 w13 : Nat → Int32} {w14 w15 w16 w17 w18 : Int32} {w19 : Int64} {w20 w21 : Int32}
theorem zq_paper (h : ze_R st w1 w2 w3 w4 w5 w6 w7 w8 w9 w10 w11 w12 w13 w14 w15 w16 w17 w18 w19 w20 w21) (w0 v b : Int32) :
    (zf_X_paper st v b).1 = (zf_M_paper w0 w10 w11 w12 v b).1 ∧ ze_R (zf_X_paper st v b).2 w1 w2 w3 w4 w5 w6 w7 w8 w9 (zf_M_paper w0 w10 w11 w12 v b).2.2.1 (zf_M_paper w0 w10 w11 w12 v b).2.2.2.1 (zf_M_paper w0 w10 w11 w12 v b).2.2.2.2 w13 w14 w15 w16 w17 w18 w19 w20 w21 := by
  have h20 := h.P.le
  rw [zf_X_paper, zf_M_paper, show zf_M_in v.toInt64 1 1000000 = _ from ze_in32 v 1 1000000, show zf_M_in b.toInt64 0 1000000 = _ from ze_in32 b 0 1000000]
  by_cases h1 : v < 1
  · rw [if_pos h1, if_pos h1]; exact ⟨rfl, h⟩
  · rw [if_neg h1, if_neg h1]
    by_cases h2 : v ≤ 1000000
    · rw [if_pos h2, if_neg (Int32.not_lt.mpr h2), if_neg (show ¬ (1 : Int32) = 0 by decide)]
      by_cases h3 : b < 0
      · rw [if_pos h3, if_pos h3]; exact ⟨rfl, h⟩
      · rw [if_neg h3, if_neg h3]
        by_cases h4 : b ≤ 1000000
        · rw [if_pos h4, if_pos h4, if_neg (show ¬ (1 : Int32) = 0 by decide)]
          rcases ze_find h.P v with ⟨a1, a2, a3⟩ | ⟨j, a0, a1, a2⟩
          · rw [a2, if_neg (show ¬ (0 : Int32) ≤ -1 by decide)]
            by_cases hf : w10 = 20
            · rw [if_pos (show nI w10 = 20 by rw [hf]; rfl), zf_P_register, h.P.n, if_pos (show 20 ≤ nI w10 by rw [hf]; decide)]
              exact ⟨rfl, h⟩
            · have e1 : zf_P_register st.2.2.2.1 v b = (1, ((upd st.2.2.2.1.1 w10 v), (upd st.2.2.2.1.2.1 w10 b), st.2.2.2.1.2.2.1, (w10 + 1))) := by
                rw [zf_P_register, h.P.n, if_neg (show ¬ 20 ≤ nI w10 from nI_ge (b := 20) (by omega) (by decide)), if_pos a1]
              rw [if_neg (show ¬ nI w10 = 20 from fun g => hf ((nI_eq (b := 20) (by omega) (by decide)).mp g)), e1]
              refine ⟨rfl, ⟨h.kd, h.S, h.C, ⟨rfl, by show w10 + 1 ≤ 20; omega, ?_, ?_, ?_, h.P.drw⟩, h.Q, h.td, h.ld⟩⟩
              · intro i hi
                have hi : i < w10 + 1 := hi
                show upd _ w10 v i = upd w11 w10 v i
                by_cases e : i = w10
                · subst e; rw [pk_us, pk_us]
                · rw [pk_un e, pk_un e]; exact h.P.num i (by omega)
              · intro i hi
                have hi : i < w10 + 1 := hi
                show upd _ w10 b i = upd w12 w10 b i
                by_cases e : i = w10
                · subst e; rw [pk_us, pk_us]
                · rw [pk_un e, pk_un e]; exact h.P.bal i (by omega)
              · intro i j hij hj
                have hj : j < w10 + 1 := hj
                show ¬ upd st.2.2.2.1.1 w10 v i = upd st.2.2.2.1.1 w10 v j
                rw [pk_un (show i ≠ w10 by omega)]
                by_cases e : j = w10
                · subst e; rw [pk_us]; exact a3 i (by omega)
                · rw [pk_un e]; exact h.P.ne i j hij (by omega)
          · have e1 : zf_P_register st.2.2.2.1 v b = (0, st.2.2.2.1) := by
              rw [zf_P_register, a1, if_neg (ze_nm1 (by omega)), ite_self]
            rw [a2, if_pos (nI_pos' (by omega)), e1]
            exact ⟨rfl, h⟩
        · rw [if_neg h4, if_neg h4]; exact ⟨rfl, h⟩
    · rw [if_neg h2, if_pos (Int32.not_le.mp h2)]; exact ⟨rfl, h⟩
theorem zq_draw (h : ze_R st w1 w2 w3 w4 w5 w6 w7 w8 w9 w10 w11 w12 w13 w14 w15 w16 w17 w18 w19 w20 w21) (w0 p v n : Int32) :
    nI (zf_X_draw st p v n).1 = (zf_M_draw w0 w2 w3 w5 w10 w11 w12 w13 p v n).2.1 ∧ ((zf_X_draw st p v n).1 = 0 → (zf_X_draw st p v n).2.1 = (zf_M_draw w0 w2 w3 w5 w10 w11 w12 w13 p v n).1) ∧ ze_R (zf_X_draw st p v n).2.2 w1 w2 w3 w4 w5 w6 w7 w8 w9 w10 w11 (zf_M_draw w0 w2 w3 w5 w10 w11 w12 w13 p v n).2.2.1 (zf_M_draw w0 w2 w3 w5 w10 w11 w12 w13 p v n).2.2.2 w14 w15 w16 w17 w18 w19 w20 w21 := by
  have h20 := h.P.le
  rw [zf_X_draw, zf_M_draw, ze_has h.S, show zf_M_in n.toInt64 1 1000000 = _ from ze_in32 n 1 1000000]
  by_cases hl : zf_M_isLine w2 w3 p = 0
  · rw [if_pos hl, if_pos hl]
    exact ⟨rfl, fun g => absurd g Nat.one_ne_zero, h⟩
  · rw [if_neg hl, if_neg hl]
    rcases ze_find h.P v with ⟨a1, a2, a3⟩ | ⟨j, a0, a1, a2⟩
    · rw [a2, if_pos a1, if_pos (by decide)]
      exact ⟨rfl, fun g => absurd g Nat.one_ne_zero, h⟩
    · rw [a1, a2, if_neg (ze_nm1 (by omega)), if_neg (nI_pos (by omega)), nI_clamp (by omega)]
      by_cases h1 : n < 1
      · rw [if_pos h1, if_pos h1]
        exact ⟨rfl, fun g => absurd g Nat.one_ne_zero, h⟩
      · rw [if_neg h1, if_neg h1]
        by_cases h2 : n ≤ 1000000
        · rw [if_pos h2, if_pos h2, if_neg (show ¬ (1 : Int32) = 0 by decide)]
          by_cases h5 : w5 = 0
          · rw [if_pos (h.ld.trans h5), if_pos h5]
            have hp1 : ¬ p < 1 := fun g => hl (by rw [zf_M_isLine, if_pos g])
            obtain ⟨l, l30, rfl⟩ := vp_in_of (zy_isl h.S.m30 hl) (by decide)
            have e20 : (nI l * 20) + nI j = nI (20 * l + j) := by rw [show (20 : Int32) = nI 20 from rfl, pk_mul, nI_add, Nat.mul_comm]
            have et : zf_P_take st.2.2.2.1 (nI l) (nI j) n = if n ≤ w12 j then (w12 j - n, (st.2.2.2.1.1, (upd st.2.2.2.1.2.1 j (w12 j - n)), (upd st.2.2.2.1.2.2.1 (20 * l + j) ((st.2.2.2.1.2.2.1 (20 * l + j)) + n)), st.2.2.2.1.2.2.2)) else (-1, st.2.2.2.1) := by
              rw [zf_P_take, if_neg (nI_pos (by omega)), if_neg (show ¬ 30 < nI l from nI_nlt (a := 30) (by omega) (by omega)), if_neg (nI_pos (by omega)), h.P.n, if_neg (nI_ge a0 (by omega)), nI_clamp (by omega), e20, nI_clamp (by omega), h.P.bal j a0, pk_us]
            rw [et, zy_20N, nI_clamp (by omega)]
            by_cases hb : n ≤ w12 j
            · rw [if_pos hb, if_pos hb, pk_us]
              refine ⟨rfl, fun _ => rfl, ⟨h.kd, h.S, h.C, ⟨h.P.n, h.P.le, h.P.num, ?_, h.P.ne, ?_⟩, h.Q, h.td, h.ld⟩⟩
              · intro i hi
                show upd _ j _ i = upd w12 j _ i
                by_cases e : i = j
                · subst e; rw [pk_us, pk_us]
                · rw [pk_un e, pk_un e]; exact h.P.bal i hi
              · intro q q1 q30 hq i hi
                have hq : w3 q = 0 := hq
                show upd _ (20 * l + j) _ (20 * q + i) = upd w13 (20 * l + j) _ (20 * q + i)
                have hd := h.P.drw q q1 q30 hq i hi
                by_cases e : 20 * q + i = 20 * l + j
                · rw [e, pk_us, pk_us, ← e, hd]
                · rw [pk_un e, pk_un e]; exact hd
            · rw [if_neg hb, if_neg hb]
              exact ⟨rfl, fun _ => rfl, h⟩
          · rw [if_neg (fun g => h5 (h.ld.symm.trans g)), if_neg h5]
            exact ⟨rfl, fun _ => rfl, h⟩
        · rw [if_neg h2, if_neg h2]
          exact ⟨rfl, fun g => absurd g Nat.one_ne_zero, h⟩
theorem zq_sum (h : ze_R st w1 w2 w3 w4 w5 w6 w7 w8 w9 w10 w11 w12 w13 w14 w15 w16 w17 w18 w19 w20 w21) (w0 f : Int32) :
    nI (zf_X_sum st f).1 = (zf_M_sum w0 w2 w4 f).2 ∧ ((zf_X_sum st f).1 = 0 → (zf_X_sum st f).2 = (zf_M_sum w0 w2 w4 f).1) := by
  rw [zf_X_sum, zf_M_sum, show zf_M_in f.toInt64 10 19 = _ from ze_in32 f 10 19]
  by_cases h1 : f < 10
  · rw [if_pos h1, if_pos h1]
    exact ⟨rfl, fun g => absurd g Nat.one_ne_zero⟩
  · rw [if_neg h1, if_neg h1]
    by_cases h2 : f ≤ 19
    · rw [if_pos h2, if_pos h2, if_neg (by decide)]
      rcases ze_fld f with hf | ⟨j, hj, rfl⟩ | ⟨j, hj, rfl⟩ | hf
      · exact absurd (show f < 10 by rw [Int32.lt_iff_toInt_lt] at hf ⊢; have e0 : (0 : Int32).toInt = 0 := by decide
                                     have e1 : (10 : Int32).toInt = 10 := by decide
                                     omega) h1
      · exact absurd (nI_lt (b := 10) hj (by decide)) h1
      · exact ⟨rfl, fun _ => ze_sum h.S hj⟩
      · exact absurd hf (Int32.not_lt.mpr h2)
    · rw [if_neg h2, if_neg h2]
      exact ⟨rfl, fun g => absurd g Nat.one_ne_zero⟩
theorem zq_pack (h : ze_R st w1 w2 w3 w4 w5 w6 w7 w8 w9 w10 w11 w12 w13 w14 w15 w16 w17 w18 w19 w20 w21) (w0 : Int32) : zf_X_pack st = (zf_M_pack w0 w2 w4).1 := by
  rw [zf_X_pack, zf_M_pack, ze_setN h.S, zf_S_setCount]
/-! counts -/
theorem ze_lines {s : zu_S} (h : ze_S s w2 w3 w4) (w0 : Int32) (w7 : Nat) (w9 : Nat → Int32) (w10 : Nat) (w11 w12 : Nat → Int32) (w20 w21 p : Int32) : ∀ (mm k : Nat) (x : Int32), 1 ≤ k → k + mm = w2 + 1 → zf_M_count_L39 w0 w1 w2 w3 w4 w5 w6 w7 w9 w10 w11 w12 w20 w21 p mm k x = zf_M_count_L74 w0 w1 w2 w3 w4 w5 w6 w7 w9 w10 w11 w12 w20 w21 p (x + nI (ze_c (ze_open s) mm k)) w7 0 0 := by
  have hm := h.m30
  intro mm
  induction mm with
  | zero => intro k x _ _; rw [zf_M_count_L39, ze_c, nI_0, Int32.add_zero]
  | succ mm ih =>
    intro k x h1 h2
    rw [zf_M_count_L39, ih _ _ (by omega) (by omega), ih _ _ (by omega) (by omega), ← ze_has h, ze_hasN h1 (by omega), ze_c]
    by_cases hi : s.2.1 k = 0
    · rw [if_pos hi, if_pos rfl, show ze_open s k = false from decide_eq_false (fun g => g hi), Int32.add_zero]
      simp
    · rw [if_neg hi, if_neg (by decide), show ze_open s k = true from decide_eq_true hi, Int32.add_assoc, show (1 : Int32) = nI 1 from rfl, nI_add]
      rfl
theorem ze_goods {c : zu_C} (h : ze_C c w7 w8 w9) (w0 : Int32) (w10 : Nat) (w11 w12 : Nat → Int32) (w20 w21 p x2 : Int32) : ∀ (mm k : Nat) (x : Int32), k + mm = w7 → zf_M_count_L74 w0 w1 w2 w3 w4 w5 w6 w7 w9 w10 w11 w12 w20 w21 p x2 mm k x = zf_M_count_L74 w0 w1 w2 w3 w4 w5 w6 w7 w9 w10 w11 w12 w20 w21 p x2 0 0 (zf_C_goodCount_L4 c w6 mm k x) := by
  intro mm
  induction mm with
  | zero => intro k x _; rw [zf_C_goodCount_L4, zf_M_count_L74, zf_M_count_L74]
  | succ mm ih =>
    intro k x h1
    rw [show zf_M_count_L74 w0 w1 w2 w3 w4 w5 w6 w7 w9 w10 w11 w12 w20 w21 p x2 (mm + 1) k x = if (w9 k) < w6 then zf_M_count_L74 w0 w1 w2 w3 w4 w5 w6 w7 w9 w10 w11 w12 w20 w21 p x2 mm (k + 1) (x + 0) else zf_M_count_L74 w0 w1 w2 w3 w4 w5 w6 w7 w9 w10 w11 w12 w20 w21 p x2 mm (k + 1) (x + 1) from rfl, ih _ _ (by omega), ih _ _ (by omega), zf_C_goodCount_L4, h.day k (by omega), Int32.add_zero]
    by_cases g : w9 k < w6
    · rw [if_pos g, if_pos g]
    · rw [if_neg g, if_neg g]
theorem zq_count (h : ze_R st w1 w2 w3 w4 w5 w6 w7 w8 w9 w10 w11 w12 w13 w14 w15 w16 w17 w18 w19 w20 w21) (w0 p : Int32) : zf_X_count st p = (zf_M_count w0 w1 w2 w3 w4 w5 w6 w7 w9 w10 w11 w12 w20 w21 p).1 := by
  have hm := h.S.m30
  have h20 := h.P.le
  by_cases hp : p < 100
  · have hx : (0 : Int32) + nI (ze_c (ze_open st.2.1) w2 1) = zf_S_lineCount st.2.1 := by
      rw [Int32.zero_add, zf_S_lineCount, h.S.opened, show (31 : Nat) = (1 + w2) + (30 - w2) by omega, ze_c_add (fun l => decide (¬ st.2.1.2.1 l = 0)) (1 + w2) (30 - w2), ze_c_zero (30 - w2), ze_c_add (fun l => decide (¬ st.2.1.2.1 l = 0)) 1 w2]
      · rw [show ze_c (fun l => decide (¬ st.2.1.2.1 l = 0)) 1 0 = 0 by
          rw [ze_c, ze_c]
          simp [h.S.o0]]
        rw [Nat.zero_add, Nat.add_zero, Nat.zero_add]
        rfl
      · intro i h1 h2
        exact decide_eq_false (fun g => g ((h.S.opn i (by omega) (by omega)).mpr (fun g => by omega)))
    have hg : zf_C_goodCount_L4 st.2.2.1 w6 w7 0 0 = zf_C_goodCount st.2.2.1 w6 := by rw [zf_C_goodCount, h.C.n]
    rw [zf_M_count, if_pos hp, ze_lines h.S _ _ _ _ _ _ _ _ _ _ _ _ (by omega) (by omega), ze_goods h.C _ _ _ _ _ _ _ _ _ _ _ (by omega), hx, hg, zf_M_count_L74, zf_X_count, ze_setN h.S, h.td, h.kd, h.ld]
    by_cases c0 : p = 0
    · rw [if_pos c0, if_pos c0]
    rw [if_neg c0, if_neg c0]
    by_cases c1 : p = 1
    · rw [if_pos c1, if_pos c1, zf_S_setCount]
    rw [if_neg c1, if_neg c1]
    by_cases c2 : p = 2
    · rw [if_pos c2, if_pos c2]
      by_cases h5 : w5 = 0
      · rw [if_pos h5, if_pos h5]
      · rw [if_neg h5, if_neg h5]
    rw [if_neg c2, if_neg c2]
    by_cases c3 : p = 3
    · rw [if_pos c3, if_pos c3]
    rw [if_neg c3, if_neg c3]
    by_cases c4 : p = 4
    · rw [if_pos c4, if_pos c4, zf_P_size, h.P.n]
    rw [if_neg c4, if_neg c4]
    by_cases c5 : p = 5
    · rw [if_pos c5, if_pos c5]
    rw [if_neg c5, if_neg c5]
    by_cases c6 : p = 6
    · rw [if_pos c6, if_pos c6]
    rw [if_neg c6, if_neg c6]
    by_cases c7 : p = 7
    · rw [if_pos c7, if_pos c7, zf_R_wholeRows, h.Q.whole]
    rw [if_neg c7, if_neg c7]
    by_cases c8 : p = 8
    · rw [if_pos c8, if_pos c8, zf_R_latestFields, h.Q.latest]
    rw [if_neg c8, if_neg c8, if_neg (Int32.not_le.mpr hp)]
  · have hc : ∀ q : Int32, q < 100 → ¬ p = q := fun q hq e => hp (e ▸ hq)
    rw [zf_M_count, if_neg hp, zf_X_count, if_neg (hc 0 (by decide)), if_neg (hc 1 (by decide)), if_neg (hc 2 (by decide)), if_neg (hc 3 (by decide)), if_neg (hc 4 (by decide)), if_neg (hc 5 (by decide)), if_neg (hc 6 (by decide)), if_neg (hc 7 (by decide)), if_neg (hc 8 (by decide)), if_pos (Int32.not_lt.mp hp), zf_P_balanceOf]
    rcases ze_find h.P (p - 100) with ⟨a1, a2, a3⟩ | ⟨j, a0, a1, a2⟩
    · rw [if_pos a1, a2, if_neg (by decide)]
    · rw [a1, a2, if_neg (ze_nm1 (by omega)), if_pos (nI_pos' (by omega)), nI_clamp (by omega), h.P.bal j a0]
end ZQ
/-! octet -/
theorem ze_more {s : zu_S} {w2 : Nat} {w3 : Nat → Int32} {w4 : Nat → Int64} (h : ze_S s w2 w3 w4) : ∀ mm k n : Nat, k + mm ≤ 310 → n < ze_c (ze_set s.1) mm k → zy_more w4 mm k (nI n) := by
  intro mm
  induction mm with
  | zero => intro k n _ hn; exact absurd hn (Nat.not_lt_zero n)
  | succ mm ih =>
    intro k n hk hn
    rw [ze_c] at hn
    have hle := ze_c_le (ze_set s.1) mm (k + 1)
    rw [zy_more, h.val k (by omega)]
    by_cases g : s.1 k = -1
    · rw [ze_set_f g] at hn
      rw [if_pos ((ze_m1 _).mpr g), Int32.sub_zero]
      exact ih (k + 1) n (by omega) (by simpa using hn)
    · rw [ze_set_t g] at hn
      rw [if_neg (fun q => g ((ze_m1 _).mp q))]
      rcases Nat.eq_zero_or_pos n with e | e
      · rw [if_pos (show nI n ≤ 0 by rw [e]; decide)]; exact trivial
      · obtain ⟨n', rfl⟩ : ∃ n', n = n' + 1 := ⟨n - 1, by omega⟩
        have hn' : n' + 1 < 1 + ze_c (ze_set s.1) mm (k + 1) := hn
        rw [if_neg (nI_nle (by omega) (by omega)), nI_pred]
        exact ih (k + 1) n' (by omega) (by omega)
theorem ze_slotP {s : zu_S} {w2 : Nat} {w3 : Nat → Int32} {w4 : Nat → Int64} (h : ze_S s w2 w3 w4) (q : Int32) {N : Nat} (hN : N < 1000) : ∀ mm k n b : Nat, k + mm ≤ 310 → n + b = N → n < ze_c (ze_set s.1) mm k → zf_S_setSlot_L4 s (nI N) mm k (nI b) = zf_M_placeOf_L4 w4 q mm k (nI n) := by
  intro mm
  induction mm with
  | zero => intro k n b _ _ hn; exact absurd hn (Nat.not_lt_zero n)
  | succ mm ih =>
    intro k n b hk hb hn
    rw [ze_c] at hn
    have hle := ze_c_le (ze_set s.1) mm (k + 1)
    rw [zf_S_setSlot_L4, zf_M_placeOf_L4, h.val k (by omega)]
    by_cases g : s.1 k = -1
    · rw [ze_set_f g] at hn
      rw [if_pos g, if_pos ((ze_m1 _).mpr g), Int32.sub_zero]
      exact ih (k + 1) n b (by omega) hb (by simpa using hn)
    · rw [ze_set_t g] at hn
      rw [if_neg g, if_neg (fun q => g ((ze_m1 _).mp q))]
      rcases Nat.eq_zero_or_pos n with e | e
      · rw [if_pos (show nI n ≤ 0 by rw [e]; decide), if_pos (show nI b = nI N by rw [show b = N by omega])]
      · obtain ⟨n', rfl⟩ : ∃ n', n = n' + 1 := ⟨n - 1, by omega⟩
        have hn' : n' + 1 < 1 + ze_c (ze_set s.1) mm (k + 1) := hn
        rw [if_neg (nI_nle (by omega) (by omega)), nI_pred, if_neg (fun e => absurd ((nI_eq (by omega) (by omega)).mp e) (by omega)), nI_1]
        exact ih (k + 1) n' (b + 1) (by omega) (by omega) (by omega)
theorem ze_lshr {a : Nat} (ha : a < 2 ^ 31) (s : Int64) (k : Nat) (hs : (s.toBitVec.smod 64).toNat = k) : ((lN a) >>> s).toInt32 = nI (a / 2 ^ k) := by
  have h1 : ((lN a) >>> s) = lN (a / 2 ^ k) := by
    apply Int64.toBitVec_inj.mp
    rw [Int64.toBitVec_shiftRight]
    have hm : (lN a).toBitVec.msb = false := by
      rw [BitVec.msb_eq_decide]
      have : (lN a).toBitVec.toNat = a := by
        show a % 2 ^ 64 = a
        exact Nat.mod_eq_of_lt (by omega)
      rw [this]
      exact decide_eq_false (by omega)
    apply BitVec.eq_of_toNat_eq
    rw [BitVec.sshiftRight', BitVec.sshiftRight_eq_of_msb_false hm, hs]
    rw [BitVec.toNat_ushiftRight, Nat.shiftRight_eq_div_pow]
    have e1 : (lN a).toBitVec.toNat = a := by
      show a % 2 ^ 64 = a
      exact Nat.mod_eq_of_lt (by omega)
    have e2 : (lN (a / 2 ^ k)).toBitVec.toNat = a / 2 ^ k := by
      show a / 2 ^ k % 2 ^ 64 = _
      have := Nat.div_le_self a (2 ^ k)
      exact Nat.mod_eq_of_lt (by omega)
    rw [e1, e2]
  rw [h1, lN_i]
theorem ze_byte {a q : Nat} (ha : a < 2 ^ 31) (hq : 2 ≤ q) (hq5 : q < 6) : zf_X_byteOf (nI a) (5 - nI q) = (((nI a).toInt64 >>> ((8 * (5 - nI q)).toInt64 &&& 63)).toInt32).toInt8.toInt32 := by
  rw [zf_X_byteOf, nI_l ha]
  rcases (show q = 2 ∨ q = 3 ∨ q = 4 ∨ q = 5 by omega) with rfl | rfl | rfl | rfl
  · rw [pk_ushrN (by omega) _ 24 (by decide), ze_lshr ha _ 24 (by decide)]
  · rw [pk_ushrN (by omega) _ 16 (by decide), ze_lshr ha _ 16 (by decide)]
  · rw [pk_ushrN (by omega) _ 8 (by decide), ze_lshr ha _ 8 (by decide)]
  · rw [pk_ushrN (by omega) _ 0 (by decide), ze_lshr ha _ 0 (by decide)]
section ZQ
variable {st : zu_X} {w1 : Int32} {w2 : Nat} {w3 : Nat → Int32} {w4 : Nat → Int64} {w5 w6 : Int32} {w7 : Nat} {w8 : Nat → Int64} {w9 : Nat → Int32} {w10 : Nat} {w11 w12 w13 : Nat → Int32} {w14 w15 w16 w17 w18 : Int32} {w19 : Int64} {w20 w21 : Int32}
theorem ze_octA (h : ze_R st w1 w2 w3 w4 w5 w6 w7 w8 w9 w10 w11 w12 w13 w14 w15 w16 w17 w18 w19 w20 w21) {p : Int32} (h1 : ¬ p < 0) (h2 : p < (3 + (6 * (zf_M_set w2 w4)))) (h3 : 3 ≤ p) : ∃ n q : Nat, n < ze_c (ze_set st.2.1.1) 310 0 ∧ q < 6 ∧ (p - 3) / 6 = nI n ∧ (p - 3) - (p - 3) / 6 * 6 = nI q := by
  have hle := ze_c_le (ze_set st.2.1.1) 310 0
  rw [ze_setN h.S, h.S.filled] at h2
  generalize ze_c (ze_set st.2.1.1) 310 0 = c at hle h2
  obtain ⟨m, hm, rfl⟩ := nI_of h1
  rw [show (3 + (6 * nI c) : Int32) = nI (3 + 6 * c) by rw [show (6 : Int32) = nI 6 from rfl, pk_mul, show (3 : Int32) = nI 3 from rfl, nI_add]] at h2
  have h2 := (nI_ltI hm (by omega)).mp h2
  have h3 : 3 ≤ m := (nI_leI (a := 3) (by decide) hm).mp h3
  have e3 : nI m - 3 = nI (m - 3) := pk_sub (b := 3) h3
  refine ⟨(m - 3) / 6, (m - 3) % 6, by omega, by omega, ?_, ?_⟩
  · rw [e3]; exact pk_div (d := 6) (by omega) (by decide) (by decide)
  · rw [e3]; exact pk_rem (d := 6) (by omega) (by decide) (by decide)
theorem zq_octH (h : ze_R st w1 w2 w3 w4 w5 w6 w7 w8 w9 w10 w11 w12 w13 w14 w15 w16 w17 w18 w19 w20 w21) (p : Int32) : ¬ p < 0 → p < (3 + (6 * (zf_M_set w2 w4))) → 3 ≤ p → zy_more w4 310 0 ((p - 3) / 6) := by
  intro h1 h2 h3
  obtain ⟨n, q, a1, a2, a3, a4⟩ := ze_octA h h1 h2 h3
  rw [a3]
  exact ze_more h.S 310 0 n (by omega) a1
theorem zq_octet (h : ze_R st w1 w2 w3 w4 w5 w6 w7 w8 w9 w10 w11 w12 w13 w14 w15 w16 w17 w18 w19 w20 w21) (w0 p : Int32) :
    nI (zf_X_octet st p).1 = (zf_M_octet w0 w1 w2 w4 p).2 ∧ ((zf_X_octet st p).1 = 0 → (zf_X_octet st p).2 = (zf_M_octet w0 w1 w2 w4 p).1) := by
  have hle := ze_c_le (ze_set st.2.1.1) 310 0
  by_cases h1 : p < 0
  · rw [zf_X_octet, zf_M_octet, if_pos h1, if_pos h1]
    exact ⟨rfl, fun g => absurd g Nat.one_ne_zero⟩
  · by_cases h2 : p < (3 + (6 * (zf_M_set w2 w4)))
    · have h2' : p < zf_X_pack st := by rw [zq_pack h w0]; exact h2
      by_cases h3 : 3 ≤ p
      · have h0 : ¬ p = 0 := fun e => by rw [e] at h3; exact absurd h3 (by decide)
        obtain ⟨n, q, a1, a2, a3, a4⟩ := ze_octA h h1 h2 h3
        obtain ⟨j, b1, b2, b3, b4⟩ := zy_plcN w4 (nI n) 310 0 (nI n) (ze_more h.S 310 0 n (by omega) a1)
        have ep : zf_M_placeOf w4 (nI n) = nI j := b3
        have es : zf_S_setSlot st.2.1 (nI n) = nI j := by
          rw [zf_S_setSlot, ← b3]
          exact ze_slotP h.S (nI n) (N := n) (by omega) 310 0 n 0 (by omega) (by omega) a1
        have hj : j < 310 := by omega
        have e1 : zf_X_octet st p = (0, zf_X_packedByte st (nI j) (nI q)) := by
          rw [zf_X_octet, if_neg h1, if_pos h2', if_neg h0, if_pos h3, a4, a3, es]
        have e2 : zf_M_octet w0 w1 w2 w4 p = (zf_X_packedByte st (nI j) (nI q), 0) := by
          rw [zf_M_octet, if_neg h1, if_pos h2, if_pos h3, a4, a3, ep, zf_X_packedByte, nI_clamp (by omega), h.S.val j hj]
          have ed : nI j / 10 = nI (j / 10) := pk_div (d := 10) (by omega) (by decide) (by decide)
          by_cases q0 : nI q = 0
          · rw [if_pos q0, if_pos q0, ed, zf_X_fieldOf]
            rcases Nat.lt_or_ge j 10 with g | g
            · rw [if_pos (show nI (j / 10) = 0 by rw [show j / 10 = 0 by omega]; rfl), if_neg (show ¬ 10 ≤ nI j from nI_ge (b := 10) g (by decide))]
              simp
            · rw [if_neg (nI_ne0 (by omega) (by omega)), if_pos (show 10 ≤ nI j from nI_le (a := 10) g (by omega)), ed]
              simp
          · rw [if_neg q0, if_neg q0]
            by_cases q1 : nI q = 1
            · rw [if_pos q1, if_pos q1, zf_X_lineOf]
              simp
            · rw [if_neg q1, if_neg q1, ze_vAt _ hj]
              have hq2 : 2 ≤ q := by
                rcases (show q = 0 ∨ q = 1 ∨ 2 ≤ q by omega) with e | e | e
                · exact absurd (by rw [e]; rfl) q0
                · exact absurd (by rw [e]; rfl) q1
                · exact e
              rcases h.S.ok j hj with e | ⟨a, ha, e⟩
              · exact absurd (by rw [h.S.val j hj, e]; decide) b4
              · rw [e, ze_byte (by omega) hq2 a2]
        rw [e1, e2]
        exact ⟨rfl, fun _ => rfl⟩
      · obtain ⟨m, hm, rfl⟩ := nI_of h1
        have h3 : m < 3 := Nat.lt_of_not_le (fun g => h3 (nI_le (a := 3) g hm))
        rw [zf_X_octet, zf_M_octet, if_neg h1, if_pos h2', if_neg h1, if_pos h2, if_neg (show ¬ 3 ≤ nI m from nI_ge (b := 3) h3 (by decide)), if_neg (show ¬ 3 ≤ nI m from nI_ge (b := 3) h3 (by decide)), h.kd, ze_setN h.S, zf_S_setCount, h.S.filled]
        generalize ze_c (ze_set st.2.1.1) 310 0 = c at hle
        rcases (show m = 0 ∨ m = 1 ∨ m = 2 by omega) with rfl | rfl | rfl
        · rw [if_pos (show nI 0 = 0 from rfl), if_pos (show nI 0 = 0 from rfl)]
          exact ⟨rfl, fun _ => rfl⟩
        · rw [if_neg (by decide), if_neg (by decide), if_pos (show nI 1 = 1 from rfl)]
          refine ⟨rfl, fun _ => ?_⟩
          show zf_X_byteOf (nI c) (2 - nI 1) = _
          rw [zf_X_byteOf, pk_ushrN (by omega) _ 8 (by decide), pk_shrN (by omega) _ 8 (by decide)]
        · rw [if_neg (by decide), if_neg (by decide), if_neg (by decide)]
          refine ⟨rfl, fun _ => ?_⟩
          show zf_X_byteOf (nI c) (2 - nI 2) = (nI c).toInt8.toInt32
          rw [zf_X_byteOf, pk_ushrN (by omega) _ 0 (by decide), Nat.pow_zero, Nat.div_one]
    · rw [zf_X_octet, zf_M_octet, if_neg h1, if_neg h1, if_neg h2, if_neg (show ¬ p < zf_X_pack st by rw [zq_pack h w0]; exact h2)]
      exact ⟨rfl, fun g => absurd g Nat.one_ne_zero⟩
end ZQ
/-! read -/
theorem ze_acc {r r' : zu_R} {b k : Int32} (hs : zf_R_stands r b = (k, r')) : zf_R_accept r b = if k = 0 then (-1, (0, r'.2)) else if r'.1 = 8 then (if r'.2.2.2.1 - 1 = 0 then (1, (0, r'.2.1, r'.2.2.1, r'.2.2.2.1 - 1, r'.2.2.2.2.1, r'.2.2.2.2.2.1, r'.2.2.2.2.2.2.1, r'.2.2.2.2.2.2.2.1 + 1, r'.2.2.1)) else (0, (3, r'.2.1, r'.2.2.1, r'.2.2.2.1 - 1, r'.2.2.2.2))) else if r'.1 = 2 then (if r'.2.2.2.1 = 0 then (1, (0, r'.2.1, r'.2.2.1, r'.2.2.2.1, r'.2.2.2.2.1, r'.2.2.2.2.2.1, r'.2.2.2.2.2.2.1, r'.2.2.2.2.2.2.2.1 + 1, r'.2.2.1)) else (0, (r'.1 + 1, r'.2))) else (0, (r'.1 + 1, r'.2)) := by
  rw [zf_R_accept, hs, ite_self]
theorem ze_read {r : zu_R} {w14 w15 w16 w17 w18 : Int32} {w19 : Int64} {w20 w21 : Int32} (h : ze_Q r w14 w15 w16 w17 w18 w19 w20 w21) (w0 p : Int32) : (zf_R_accept r (p &&& 255)).1 = (zf_M_read w0 w14 w15 w16 w17 w18 w19 w20 w21 p).1 ∧ ze_Q (zf_R_accept r (p &&& 255)).2 (zf_M_read w0 w14 w15 w16 w17 w18 w19 w20 w21 p).2.2.1 (zf_M_read w0 w14 w15 w16 w17 w18 w19 w20 w21 p).2.2.2.1 (zf_M_read w0 w14 w15 w16 w17 w18 w19 w20 w21 p).2.2.2.2.1 (zf_M_read w0 w14 w15 w16 w17 w18 w19 w20 w21 p).2.2.2.2.2.1 (zf_M_read w0 w14 w15 w16 w17 w18 w19 w20 w21 p).2.2.2.2.2.2.1 (zf_M_read w0 w14 w15 w16 w17 w18 w19 w20 w21 p).2.2.2.2.2.2.2.1 (zf_M_read w0 w14 w15 w16 w17 w18 w19 w20 w21 p).2.2.2.2.2.2.2.2.1 (zf_M_read w0 w14 w15 w16 w17 w18 w19 w20 w21 p).2.2.2.2.2.2.2.2.2 := by
  obtain ⟨v, hv, hb⟩ := pk_andE p (m := 255) 8 (by decide)
  have hv : v < 256 := hv
  obtain ⟨pl, rk, fs, fl, rf, ls, rv, wh, la⟩ := r
  obtain ⟨hw, hl, hat⟩ := h
  dsimp only at hw hl hat
  subst hw hl
  rw [zf_M_read, hb]
  rcases hat with ⟨e14, e1⟩ | ⟨e14, e1, e2, e3⟩ | ⟨e14, e1, e2, e3, e4, c, hc, ec⟩ | ⟨c, j, q, hc, hj, hq, e14, e1, e2, e3, ec, e4, e5, e6, e7⟩
  · subst e1 e14
    rw [if_neg (by decide), zf_M_begins, if_pos rfl]
    have hs : zf_R_stands (0, rk, fs, fl, rf, ls, rv, wh, la) (nI v) = if 3 < nI v then (0, (0, nI v, fs, fl, rf, -1, rv, wh, la)) else (1, (0, nI v, fs, fl, rf, -1, rv, wh, la)) := by
      rw [zf_R_stands, if_pos rfl, zf_R_takeKind]
    by_cases h3 : nI v ≤ 3
    · rw [if_neg (Int32.not_lt.mpr h3)] at hs
      rw [if_pos h3, ze_acc hs, if_neg (show ¬ (1 : Int32) = 0 by decide), if_neg (fun g => absurd (show (0 : Int32) = 8 from g) (by decide)), if_neg (fun g => absurd (show (0 : Int32) = 2 from g) (by decide))]
      exact ⟨rfl, rfl, rfl, Or.inr (Or.inl ⟨rfl, rfl, rfl, rfl⟩)⟩
    · rw [if_pos (Int32.not_le.mp h3)] at hs
      rw [if_neg h3, ze_acc hs, if_pos rfl]
      exact ⟨rfl, rfl, rfl, Or.inl ⟨rfl, rfl⟩⟩
  · subst e1 e14 e2 e3
    rw [if_neg (by decide), zf_M_begins, if_neg (by decide), if_pos rfl]
    have hs : zf_R_stands (1, rk, fs, fl, rf, -1, rv, wh, la) (nI v) = if 610 < nI v * 256 then (0, (1, rk, nI v * 256, fl, rf, -1, rv, wh, la)) else (1, (1, rk, nI v * 256, fl, rf, -1, rv, wh, la)) := by
      rw [zf_R_stands, if_neg (show ¬ (1 : Int32) = 0 by decide), if_pos rfl, zf_R_takeHigher]
    have em : nI v * 256 = nI (256 * v) := by rw [show (256 : Int32) = nI 256 from rfl, pk_mul, Nat.mul_comm]
    have em2 : 256 * nI v = nI (256 * v) := by rw [show (256 : Int32) = nI 256 from rfl, pk_mul]
    rw [em] at hs
    rw [em2]
    by_cases h3 : nI (256 * v) ≤ 610
    · rw [if_neg (Int32.not_lt.mpr h3)] at hs
      rw [if_pos h3, ze_acc hs, if_neg (show ¬ (1 : Int32) = 0 by decide), if_neg (fun g => absurd (show (1 : Int32) = 8 from g) (by decide)), if_neg (fun g => absurd (show (1 : Int32) = 2 from g) (by decide))]
      exact ⟨rfl, rfl, rfl, Or.inr (Or.inr (Or.inl ⟨rfl, rfl, rfl, rfl, rfl, 256 * v, (nI_leI (b := 610) (by omega) (by decide)).mp h3, rfl⟩))⟩
    · rw [if_pos (Int32.not_le.mp h3)] at hs
      rw [if_neg h3, ze_acc hs, if_pos rfl]
      exact ⟨rfl, rfl, rfl, Or.inl ⟨rfl, rfl⟩⟩
  · subst e1 e14 e2 e3 e4 ec
    rw [if_neg (by decide), zf_M_begins, if_neg (by decide), if_neg (by decide), nI_add]
    have hs : zf_R_stands (2, rk, nI c, fl, rf, -1, rv, wh, la) (nI v) = if 610 < nI (c + v) then (0, (2, rk, nI (c + v), nI (c + v), rf, -1, rv, wh, la)) else (1, (2, rk, nI (c + v), nI (c + v), rf, -1, rv, wh, la)) := by
      rw [zf_R_stands, if_neg (show ¬ (2 : Int32) = 0 by decide), if_neg (show ¬ (2 : Int32) = 1 by decide), if_pos rfl, zf_R_takeLower, nI_add]
    by_cases h3 : nI (c + v) ≤ 610
    · have h610 : c + v ≤ 610 := (nI_leI (b := 610) (by omega) (by decide)).mp h3
      rw [if_neg (Int32.not_lt.mpr h3)] at hs
      rw [if_pos h3, ze_acc hs, if_neg (show ¬ (1 : Int32) = 0 by decide), if_neg (fun g => absurd (show (2 : Int32) = 8 from g) (by decide)), if_pos rfl]
      by_cases h0 : nI (c + v) = 0
      · rw [if_pos h0, if_pos h0]
        exact ⟨rfl, rfl, rfl, Or.inl ⟨rfl, rfl⟩⟩
      · have hp : 0 < c + v := Nat.pos_of_ne_zero (fun e => h0 (by rw [e]; rfl))
        rw [if_neg h0, if_neg h0]
        exact ⟨rfl, rfl, rfl, Or.inr (Or.inr (Or.inr ⟨c + v, 0, 0, h610, hp, by decide, rfl, rfl, rfl, rfl, rfl, rfl, rfl, fun g => absurd g (by decide), fun g => absurd g (by decide)⟩))⟩
    · rw [if_pos (Int32.not_le.mp h3)] at hs
      rw [if_neg h3, ze_acc hs, if_pos rfl]
      exact ⟨rfl, rfl, rfl, Or.inl ⟨rfl, rfl⟩⟩
  · subst e2 e3 e4 e5
    have h3 : 3 ≤ w14 := by rw [e14]; exact nI_le (a := 3) (by omega) (by omega)
    have hr : (w14 - 3) - (w14 - 3) / 6 * 6 = nI q := by
      rw [e14, show nI (3 + 6 * j + q) - 3 = nI (3 + 6 * j + q - 3) from pk_sub (b := 3) (by omega), show nI (3 + 6 * j + q - 3) - nI (3 + 6 * j + q - 3) / 6 * 6 = nI ((3 + 6 * j + q - 3) % 6) from pk_rem (d := 6) (by omega) (by decide) (by decide)]
      congr 1
      omega
    have hn : w14 + 1 = nI (3 + 6 * j + (q + 1)) := by rw [e14, nI_1]; rfl
    rw [if_pos h3, hr, hn]
    rcases (show q = 0 ∨ q = 1 ∨ q = 5 ∨ (2 ≤ q ∧ q ≤ 4) by omega) with q0 | q1 | q5 | ⟨q2, q4⟩
    · subst q0
      have e1 : pl = 3 := e1
      subst e1
      rw [if_pos (show nI 0 = 0 from rfl)]
      have hs : zf_R_stands (3, rk, fs, nI (c - j), rf, ls, rv, wh, la) (nI v) = if 19 < nI v then (0, (3, rk, fs, nI (c - j), nI v, ls, rv, wh, la)) else if zf_M_needOf (nI v) rk = 3 then (0, (3, rk, fs, nI (c - j), nI v, ls, rv, wh, la)) else (1, (3, rk, fs, nI (c - j), nI v, ls, rv, wh, la)) := by
        rw [zf_R_stands, if_neg (show ¬ (3 : Int32) = 0 by decide), if_neg (show ¬ (3 : Int32) = 1 by decide), if_neg (show ¬ (3 : Int32) = 2 by decide), if_pos rfl, zf_R_takeField]
        rfl
      by_cases h19 : 19 < nI v
      · rw [if_pos h19] at hs
        rw [if_pos h19, ze_acc hs, if_pos rfl]
        exact ⟨rfl, rfl, rfl, Or.inl ⟨rfl, rfl⟩⟩
      · rw [if_neg h19] at hs
        rw [if_neg h19]
        by_cases hne : zf_M_needOf (nI v) rk = 3
        · rw [if_pos hne] at hs
          rw [if_pos hne, ze_acc hs, if_pos rfl]
          exact ⟨rfl, rfl, rfl, Or.inl ⟨rfl, rfl⟩⟩
        · rw [if_neg hne] at hs
          rw [if_neg hne, ze_acc hs, if_neg (show ¬ (1 : Int32) = 0 by decide), if_neg (fun g => absurd (show (3 : Int32) = 8 from g) (by decide)), if_neg (fun g => absurd (show (3 : Int32) = 2 from g) (by decide))]
          exact ⟨rfl, rfl, rfl, Or.inr (Or.inr (Or.inr ⟨c, j, 1, hc, hj, by decide, rfl, rfl, rfl, rfl, ec, rfl, rfl, fun _ => rfl, fun g => absurd g (by decide)⟩))⟩
    · subst q1
      have e1 : pl = 4 := e1
      have e6' : rf = w18 := e6 (by decide)
      subst e1 e6'
      rw [if_neg (show ¬ nI 1 = 0 by decide), if_pos (show nI 1 = 1 from rfl)]
      have ec10 : nI v * 10 = 10 * nI v := Int32.mul_comm _ _
      have hs : ∃ k : Int32, zf_R_stands (4, rk, fs, nI (c - j), rf, ls, rv, wh, la) (nI v) = (k, (4, rk, fs, nI (c - j), rf, (10 * nI v) + (rf - rf / 10 * 10), 0, wh, la)) ∧ k = (if 10 ≤ rf then (if nI v < 1 then 0 else if 30 < nI v then 0 else if (10 * nI v) + (rf - rf / 10 * 10) ≤ ls then 0 else 1) else if nI v = 0 then (if (10 * nI v) + (rf - rf / 10 * 10) ≤ ls then 0 else 1) else 0) := by
        rw [zf_R_stands, if_neg (show ¬ (4 : Int32) = 0 by decide), if_neg (show ¬ (4 : Int32) = 1 by decide), if_neg (show ¬ (4 : Int32) = 2 by decide), if_neg (show ¬ (4 : Int32) = 3 by decide), if_pos rfl, zf_R_takeLine, ec10]
        by_cases a1 : 10 ≤ rf
        · rw [if_pos a1, if_pos a1]
          by_cases a2 : nI v < 1
          · rw [if_pos a2, if_pos a2, ite_self]; exact ⟨0, rfl, rfl⟩
          · rw [if_neg a2, if_neg a2]
            by_cases a3 : 30 < nI v
            · rw [if_pos a3, if_pos a3, ite_self]; exact ⟨0, rfl, rfl⟩
            · rw [if_neg a3, if_neg a3]
              by_cases a4 : (10 * nI v) + (rf - rf / 10 * 10) ≤ ls
              · rw [if_pos a4, if_pos a4]; exact ⟨0, rfl, rfl⟩
              · rw [if_neg a4, if_neg a4]; exact ⟨1, rfl, rfl⟩
        · rw [if_neg a1, if_neg a1]
          by_cases a2 : nI v = 0
          · rw [if_pos a2, if_pos a2]
            by_cases a4 : (10 * nI v) + (rf - rf / 10 * 10) ≤ ls
            · rw [if_pos a4, if_pos a4]; exact ⟨0, rfl, rfl⟩
            · rw [if_neg a4, if_neg a4]; exact ⟨1, rfl, rfl⟩
          · rw [if_neg a2, if_neg a2, ite_self]; exact ⟨0, rfl, rfl⟩
      obtain ⟨k, hs, hk⟩ := hs
      have hgood : ∀ (w15' w16' : Int32), ze_Q (4 + 1, rk, fs, nI (c - j), rf, (10 * nI v) + (rf - rf / 10 * 10), 0, wh, la) (nI (3 + 6 * j + (1 + 1))) rk fs ((10 * nI v) + (rf - rf / 10 * 10)) rf 0 wh la := fun _ _ =>
        ⟨rfl, rfl, Or.inr (Or.inr (Or.inr ⟨c, j, 2, hc, hj, by decide, rfl, rfl, rfl, rfl, ec, rfl, rfl, fun _ => rfl, fun _ => rfl⟩))⟩
      have hbad : ze_Q (0, rk, fs, nI (c - j), rf, (10 * nI v) + (rf - rf / 10 * 10), 0, wh, la) 0 rk fs ((10 * nI v) + (rf - rf / 10 * 10)) rf 0 wh la := ⟨rfl, rfl, Or.inl ⟨rfl, rfl⟩⟩
      rw [show zf_M_in (nI v).toInt64 1 30 = _ from ze_in32 (nI v) 1 30]
      rw [ze_acc hs]
      by_cases a1 : 10 ≤ rf
      · rw [if_pos a1] at hk
        rw [if_pos a1]
        by_cases a2 : nI v < 1
        · rw [if_pos a2] at hk
          rw [if_pos hk, if_pos a2]
          by_cases a4 : (10 * nI v) + (rf - rf / 10 * 10) ≤ ls
          · rw [if_pos a4, ite_self]
            exact ⟨rfl, hbad⟩
          · rw [if_neg a4, if_pos rfl]
            exact ⟨rfl, hbad⟩
        · rw [if_neg a2] at hk
          rw [if_neg a2]
          by_cases a3 : nI v ≤ 30
          · rw [if_neg (Int32.not_lt.mpr a3)] at hk
            rw [if_pos a3]
            by_cases a4 : (10 * nI v) + (rf - rf / 10 * 10) ≤ ls
            · rw [if_pos a4] at hk
              rw [if_pos hk, if_pos a4, ite_self]
              exact ⟨rfl, hbad⟩
            · rw [if_neg a4] at hk
              rw [if_neg (show ¬ k = 0 by rw [hk]; decide), if_neg (show ¬ (4 : Int32) = 8 by decide), if_neg (show ¬ (4 : Int32) = 2 by decide), if_neg a4, if_neg (show ¬ (1 : Int32) = 0 by decide)]
              exact ⟨rfl, hgood 0 0⟩
          · rw [if_pos (Int32.not_le.mp a3)] at hk
            rw [if_pos hk, if_neg a3]
            by_cases a4 : (10 * nI v) + (rf - rf / 10 * 10) ≤ ls
            · rw [if_pos a4, ite_self]
              exact ⟨rfl, hbad⟩
            · rw [if_neg a4, if_pos rfl]
              exact ⟨rfl, hbad⟩
      · rw [if_neg a1] at hk
        rw [if_neg a1]
        by_cases a2 : nI v = 0
        · rw [if_pos a2] at hk
          rw [if_pos a2]
          by_cases a4 : (10 * nI v) + (rf - rf / 10 * 10) ≤ ls
          · rw [if_pos a4] at hk
            rw [if_pos hk, if_pos a4]
            exact ⟨rfl, hbad⟩
          · rw [if_neg a4] at hk
            rw [if_neg (show ¬ k = 0 by rw [hk]; decide), if_neg (show ¬ (4 : Int32) = 8 by decide), if_neg (show ¬ (4 : Int32) = 2 by decide), if_neg a4]
            exact ⟨rfl, hgood 0 0⟩
        · rw [if_neg a2] at hk
          rw [if_pos hk, if_neg a2, ite_self]
          exact ⟨rfl, hbad⟩
    · subst q5
      have e1 : pl = 8 := e1
      have e6' : rf = w18 := e6 (by decide)
      have e7' : rv = w19 := e7 (by decide)
      subst e1 e6' e7'
      rw [if_neg (show ¬ nI 5 = 0 by decide), if_neg (show ¬ nI 5 = 1 by decide), if_pos (show 5 ≤ nI 5 by decide)]
      have em : rv * 256 = 256 * rv := Int64.mul_comm _ _
      have hs : zf_R_stands (8, rk, fs, nI (c - j), rf, ls, rv, wh, la) (nI v) = if 0 < lg_cmp (256 * rv + (nI v).toInt64) 1000000000 then (0, (8, rk, fs, nI (c - j), rf, ls, 256 * rv + (nI v).toInt64, wh, la)) else (1, (8, rk, fs, nI (c - j), rf, ls, 256 * rv + (nI v).toInt64, wh, la)) := by
        rw [zf_R_stands, if_neg (show ¬ (8 : Int32) = 0 by decide), if_neg (show ¬ (8 : Int32) = 1 by decide), if_neg (show ¬ (8 : Int32) = 2 by decide), if_neg (show ¬ (8 : Int32) = 3 by decide), if_neg (show ¬ (8 : Int32) = 4 by decide), zf_R_takeValue, if_pos rfl, em]
      by_cases a1 : lg_cmp (256 * rv + (nI v).toInt64) 1000000000 ≤ 0
      · rw [if_neg (Int32.not_lt.mpr a1)] at hs
        rw [if_pos a1, ze_acc hs, if_neg (show ¬ (1 : Int32) = 0 by decide), if_pos (show (8 : Int32) = 8 from rfl)]
        have ecj : nI (c - j) - 1 = nI (c - (j + 1)) := by
          rw [show c - j = (c - (j + 1)) + 1 by omega, nI_pred]
        have e9 : (nI (3 + 6 * j + (5 + 1)) = 3 + (6 * fs)) ↔ j + 1 = c := by
          rw [ec, show (3 + 6 * nI c : Int32) = nI (3 + 6 * c) by rw [show (6 : Int32) = nI 6 from rfl, pk_mul, show (3 : Int32) = nI 3 from rfl, nI_add], nI_eq (by omega) (by omega)]
          omega
        rw [show (8, rk, fs, nI (c - j), rf, ls, 256 * rv + (nI v).toInt64, wh, la).2.2.2.1 = nI (c - j) from rfl, ecj]
        by_cases a2 : j + 1 = c
        · rw [if_pos (show nI (c - (j + 1)) = 0 by rw [show c - (j + 1) = 0 by omega]; rfl), if_pos (e9.mpr a2)]
          exact ⟨rfl, rfl, rfl, Or.inl ⟨rfl, rfl⟩⟩
        · rw [if_neg (nI_ne0 (by omega) (by omega)), if_neg (fun g => a2 (e9.mp g))]
          exact ⟨rfl, rfl, rfl, Or.inr (Or.inr (Or.inr ⟨c, j + 1, 0, hc, by omega, by decide, by rw [show 3 + 6 * (j + 1) + 0 = 3 + 6 * j + (5 + 1) by omega], rfl, rfl, rfl, ec, rfl, rfl, fun g => absurd g (by decide), fun g => absurd g (by decide)⟩))⟩
      · rw [if_pos (Int32.not_le.mp a1)] at hs
        rw [if_neg a1, ze_acc hs, if_pos rfl]
        exact ⟨rfl, rfl, rfl, Or.inl ⟨rfl, rfl⟩⟩
    · have e6' : rf = w18 := e6 (by omega)
      have e7' : rv = w19 := e7 q2
      subst e6' e7'
      have em : rv * 256 = 256 * rv := Int64.mul_comm _ _
      have hpn : ∀ a : Nat, a ≤ 4 ∨ a = 8 → ¬ pl = nI a := fun a ha g => by
        rw [e1] at g
        have := (nI_eq (by omega) (by omega)).mp g
        omega
      rw [if_neg (nI_ne0 (by omega) (by omega)), if_neg (show ¬ nI q = 1 from fun g => absurd ((nI_eq (b := 1) (by omega) (by decide)).mp g) (by omega)), if_neg (show ¬ 5 ≤ nI q from nI_ge (b := 5) (by omega) (by decide))]
      have hs : zf_R_stands (pl, rk, fs, nI (c - j), rf, ls, rv, wh, la) (nI v) = (1, (pl, rk, fs, nI (c - j), rf, ls, 256 * rv + (nI v).toInt64, wh, la)) := by
        rw [zf_R_stands, if_neg (show ¬ pl = 0 from hpn 0 (by omega)), if_neg (show ¬ pl = 1 from hpn 1 (by omega)), if_neg (show ¬ pl = 2 from hpn 2 (by omega)), if_neg (show ¬ pl = 3 from hpn 3 (by omega)), if_neg (show ¬ pl = 4 from hpn 4 (by omega)), zf_R_takeValue, if_neg (show ¬ pl = 8 from hpn 8 (by omega)), em]
      rw [ze_acc hs, if_neg (show ¬ (1 : Int32) = 0 by decide), if_neg (show ¬ pl = 8 from hpn 8 (by omega)), if_neg (show ¬ pl = 2 from hpn 2 (by omega))]
      refine ⟨rfl, rfl, rfl, Or.inr (Or.inr (Or.inr ⟨c, j, q + 1, hc, hj, by omega, rfl, ?_, rfl, rfl, ec, rfl, rfl, fun _ => rfl, fun _ => rfl⟩))⟩
      show pl + 1 = nI (3 + (q + 1))
      rw [e1, nI_1]
      rfl
section ZQ
variable {st : zu_X} {w1 : Int32} {w2 : Nat} {w3 : Nat → Int32} {w4 : Nat → Int64} {w5 w6 : Int32} {w7 : Nat} {w8 : Nat → Int64} {w9 : Nat → Int32} {w10 : Nat} {w11 w12 w13 : Nat → Int32} {w14 w15 w16 w17 w18 : Int32} {w19 : Int64} {w20 w21 : Int32}
theorem zq_read (h : ze_R st w1 w2 w3 w4 w5 w6 w7 w8 w9 w10 w11 w12 w13 w14 w15 w16 w17 w18 w19 w20 w21) (w0 p : Int32) :
    (zf_X_read st p).1 = (zf_M_read w0 w14 w15 w16 w17 w18 w19 w20 w21 p).1 ∧ ze_R (zf_X_read st p).2 w1 w2 w3 w4 w5 w6 w7 w8 w9 w10 w11 w12 w13 (zf_M_read w0 w14 w15 w16 w17 w18 w19 w20 w21 p).2.2.1 (zf_M_read w0 w14 w15 w16 w17 w18 w19 w20 w21 p).2.2.2.1 (zf_M_read w0 w14 w15 w16 w17 w18 w19 w20 w21 p).2.2.2.2.1 (zf_M_read w0 w14 w15 w16 w17 w18 w19 w20 w21 p).2.2.2.2.2.1 (zf_M_read w0 w14 w15 w16 w17 w18 w19 w20 w21 p).2.2.2.2.2.2.1 (zf_M_read w0 w14 w15 w16 w17 w18 w19 w20 w21 p).2.2.2.2.2.2.2.1 (zf_M_read w0 w14 w15 w16 w17 w18 w19 w20 w21 p).2.2.2.2.2.2.2.2.1 (zf_M_read w0 w14 w15 w16 w17 w18 w19 w20 w21 p).2.2.2.2.2.2.2.2.2 := by
  obtain ⟨a, b⟩ := ze_read h.Q w0 p
  exact ⟨a, ⟨h.kd, h.S, h.C, h.P, b, h.td, h.ld⟩⟩
/-! the start -/
theorem ze_fillC (p x3 : Int32) : ∀ (mm k : Nat) (f : Nat → Int32) (i : Nat), zf_F_fill_L5 p x3 mm k f i = if k ≤ i ∧ i < k + mm then p else f i := by
  intro mm
  induction mm with
  | zero => intro k f i; rw [zf_F_fill_L5, if_neg (by omega)]
  | succ mm ih =>
    intro k f i
    rw [zf_F_fill_L5, ih]
    by_cases e : i = k
    · subst e; rw [if_neg (by omega), if_pos (by omega), pk_us]
    · rw [pk_un e]
      by_cases g : k ≤ i ∧ i < k + (mm + 1)
      · rw [if_pos g, if_pos (by omega)]
      · rw [if_neg g, if_neg (by omega)]
theorem ze_fillM (w1 p : Int32) : ∀ (mm k : Nat) (f : Nat → Int64), (zf_M_init_L86 w1 p mm k f).1 = w1 ∧ ∀ i : Nat, (zf_M_init_L86 w1 p mm k f).2 i = if k ≤ i ∧ i < k + mm then -1 else f i := by
  intro mm
  induction mm with
  | zero => intro k f; exact ⟨rfl, fun i => by rw [zf_M_init_L86, if_neg (by omega)]⟩
  | succ mm ih =>
    intro k f
    rw [zf_M_init_L86]
    refine ⟨(ih _ _).1, fun i => ?_⟩
    rw [(ih _ _).2]
    by_cases e : i = k
    · subst e; rw [if_neg (by omega), if_pos (by omega), pk_uLs]
    · rw [pk_uLn e]
      by_cases g : k ≤ i ∧ i < k + (mm + 1)
      · rw [if_pos g, if_pos (by omega)]
      · rw [if_neg g, if_neg (by omega)]
theorem ze_initM (p : Int32) : (zf_M_init 0 (fun _ => 0) p).1 = (if 0 ≤ p then (if p ≤ 3 then p else 3) else 0) ∧ ∀ i, i < 310 → (zf_M_init 0 (fun _ => 0) p).2 i = -1 := by
  rw [zf_M_init]
  by_cases h1 : 0 ≤ p
  · rw [if_pos h1, if_pos h1]
    by_cases h2 : p ≤ 3
    · rw [if_pos h2, if_pos h2]
      exact ⟨(ze_fillM _ _ _ _ _).1, fun i hi => by rw [(ze_fillM _ _ _ _ _).2, if_pos (by omega)]⟩
    · rw [if_neg h2, if_neg h2]
      exact ⟨(ze_fillM _ _ _ _ _).1, fun i hi => by rw [(ze_fillM _ _ _ _ _).2, if_pos (by omega)]⟩
  · rw [if_neg h1, if_neg h1]
    exact ⟨(ze_fillM _ _ _ _ _).1, fun i hi => by rw [(ze_fillM _ _ _ _ _).2, if_pos (by omega)]⟩
theorem zq_init (p : Int32) : ze_R (zs_X p) (zs_M p).2.1 0 (fun _ => 0) (zs_M p).2.2.2.2.1 0 0 0 (fun _ => 0) (fun _ => 0) 0 (fun _ => 0) (fun _ => 0) (fun _ => 0) 0 0 0 0 0 0 0 0 := by
  have hv : ∀ i, i < 310 → zf_F_fill (fun _ => 0) (-1) i = -1 := fun i hi => by rw [zf_F_fill, ze_fillC, if_pos (by omega)]
  have eM : (zs_M p).2.2.2.2.1 = (zf_M_init 0 (fun _ => 0) p).2 := by rw [zs_M]
  have eX : (zs_X p).2.1.1 = zf_F_fill (fun _ => 0) (-1) := by rw [zs_X, zs_S]
  refine ⟨?_, ?_, ⟨rfl, by decide, fun i hi => by omega, fun i hi => by omega, fun i j _ hj => by omega⟩, ⟨rfl, by decide, fun i hi => by omega, fun i hi => by omega, fun i j _ hj => by omega, fun _ _ _ _ _ _ => rfl⟩, ⟨rfl, rfl, Or.inl ⟨rfl, rfl⟩⟩, rfl, rfl⟩
  · show (if 0 < (if p < 3 then p else 3) then (if p < 3 then p else 3) else 0) = (zf_M_init 0 (fun _ => 0) p).1
    rw [(ze_initM p).1]
    by_cases h1 : 0 ≤ p
    · rw [if_pos h1]
      by_cases h2 : p < 3
      · rw [if_pos h2, if_pos (Int32.le_of_lt h2)]
        by_cases h3 : 0 < p
        · rw [if_pos h3]
        · rw [if_neg h3]; exact Int32.le_antisymm h1 (Int32.not_lt.mp h3)
      · rw [if_neg h2, if_pos (by decide)]
        by_cases h4 : p ≤ 3
        · rw [if_pos h4]; exact Int32.le_antisymm (Int32.not_lt.mp h2) h4
        · rw [if_neg h4]
    · have h0 : p < 0 := Int32.not_le.mp h1
      have h3 : p < 3 := Int32.lt_trans h0 (by decide)
      rw [if_neg h1, if_pos h3, if_neg (fun g => h1 (Int32.le_of_lt g))]
  · exact ze_S.mk
      (made := rfl)
      (m30 := by decide)
      (val := fun i hi => by
        rw [eM, eX, (ze_initM p).2 i hi, hv i hi]; decide)
      (ok := fun i hi => Or.inl (by rw [eX]; exact hv i hi))
      (opn := fun l h1 h2 => ⟨fun _ g => by omega, fun _ => rfl⟩)
      (o0 := rfl)
      (g0 := fun _ _ _ => rfl)
      (bit := fun _ _ => Or.inl rfl)
      (off := fun i _ h2 _ => by rw [eX]; exact hv i h2)
      (opened := by
        rw [ze_c_zero (P := fun l => decide (¬ (zs_X p).2.1.2.1 l = 0)) 31 0 (fun i _ _ => decide_eq_false (fun g => g rfl))]
        rfl)
      (filled := by
        rw [eX, ze_c_zero 310 0 (fun i _ h2 => ze_set_f (hv i (by omega)))]
        rfl)
end ZQ
theorem zl_H_line (st : zu_X) (o : Nat → Int64)  : (zf_H_line (st, o)).1 = nI (zf_X_line st).1 ∧ (zf_H_line (st, o)).2.1 = (zf_X_line st).2.2 ∧ ((zf_H_line (st, o)).1 = 0 → (zf_X_line st).1 = 0 ∧ (zf_H_line (st, o)).2.2 0 = (zf_X_line st).2.1.toInt64) := by
  have hk : (zf_X_line st).1 = 0 ∨ (zf_X_line st).1 = 1 := by
    unfold zf_X_line
    (repeat' split) <;> simp
  have hH : zf_H_line (st, o) = if (zf_X_line st).1 = 0 then (0, (zf_X_line st).2.2, vp_updL o 0 ((zf_X_line st).2.1.toInt64)) else (1, (zf_X_line st).2.2, o) := rfl
  rw [hH]
  rcases hk with h | h
  · rw [if_pos h, h]
    exact ⟨rfl, rfl, fun _ => ⟨rfl, pk_uLs (f := o) (k := 0)⟩⟩
  · rw [if_neg (show ¬ (zf_X_line st).1 = 0 by rw [h]; decide), h]
    exact ⟨rfl, rfl, fun g => absurd (show (1 : Int32) = 0 from g) (by decide)⟩
theorem zl_H_field (st : zu_X) (o : Nat → Int64) (p1 : Int32) (p2 : Int32) (p3 : Int64) : (zf_H_field (st, o) p1 p2 p3).1 = nI (zf_X_field st p1 p2 p3).1 ∧ (zf_H_field (st, o) p1 p2 p3).2.1 = (zf_X_field st p1 p2 p3).2.2 ∧ ((zf_H_field (st, o) p1 p2 p3).1 = 0 → (zf_X_field st p1 p2 p3).1 = 0 ∧ (zf_H_field (st, o) p1 p2 p3).2.2 0 = (zf_X_field st p1 p2 p3).2.1.toInt64) := by
  have hk : (zf_X_field st p1 p2 p3).1 = 0 ∨ (zf_X_field st p1 p2 p3).1 = 1 := by
    unfold zf_X_field
    (repeat' split) <;> simp
  have hH : zf_H_field (st, o) p1 p2 p3 = if (zf_X_field st p1 p2 p3).1 = 0 then (0, (zf_X_field st p1 p2 p3).2.2, vp_updL o 0 ((zf_X_field st p1 p2 p3).2.1.toInt64)) else (1, (zf_X_field st p1 p2 p3).2.2, o) := rfl
  rw [hH]
  rcases hk with h | h
  · rw [if_pos h, h]
    exact ⟨rfl, rfl, fun _ => ⟨rfl, pk_uLs (f := o) (k := 0)⟩⟩
  · rw [if_neg (show ¬ (zf_X_field st p1 p2 p3).1 = 0 by rw [h]; decide), h]
    exact ⟨rfl, rfl, fun g => absurd (show (1 : Int32) = 0 from g) (by decide)⟩
theorem zl_H_value (st : zu_X) (o : Nat → Int64) (p1 : Int32) (p2 : Int32) : (zf_H_value (st, o) p1 p2).1 = nI (zf_X_value st p1 p2).1 ∧ (zf_H_value (st, o) p1 p2).2.1 = st ∧ ((zf_H_value (st, o) p1 p2).1 = 0 → (zf_X_value st p1 p2).1 = 0 ∧ (zf_H_value (st, o) p1 p2).2.2 0 = (zf_X_value st p1 p2).2) := by
  have hk : (zf_X_value st p1 p2).1 = 0 ∨ (zf_X_value st p1 p2).1 = 1 := by
    unfold zf_X_value
    (repeat' split) <;> simp
  have hH : zf_H_value (st, o) p1 p2 = if (zf_X_value st p1 p2).1 = 0 then (0, st, vp_updL o 0 ((zf_X_value st p1 p2).2)) else (1, st, o) := rfl
  rw [hH]
  rcases hk with h | h
  · rw [if_pos h, h]
    exact ⟨rfl, rfl, fun _ => ⟨rfl, pk_uLs (f := o) (k := 0)⟩⟩
  · rw [if_neg (show ¬ (zf_X_value st p1 p2).1 = 0 by rw [h]; decide), h]
    exact ⟨rfl, rfl, fun g => absurd (show (1 : Int32) = 0 from g) (by decide)⟩
theorem zl_H_need (st : zu_X) (o : Nat → Int64) (p1 : Int32) : (zf_H_need (st, o) p1).1 = nI (zf_X_need st p1).1 ∧ (zf_H_need (st, o) p1).2.1 = st ∧ ((zf_H_need (st, o) p1).1 = 0 → (zf_X_need st p1).1 = 0 ∧ (zf_H_need (st, o) p1).2.2 0 = (zf_X_need st p1).2.toInt64) := by
  have hk : (zf_X_need st p1).1 = 0 ∨ (zf_X_need st p1).1 = 1 := by
    unfold zf_X_need
    (repeat' split) <;> simp
  have hH : zf_H_need (st, o) p1 = if (zf_X_need st p1).1 = 0 then (0, st, vp_updL o 0 ((zf_X_need st p1).2.toInt64)) else (1, st, o) := rfl
  rw [hH]
  rcases hk with h | h
  · rw [if_pos h, h]
    exact ⟨rfl, rfl, fun _ => ⟨rfl, pk_uLs (f := o) (k := 0)⟩⟩
  · rw [if_neg (show ¬ (zf_X_need st p1).1 = 0 by rw [h]; decide), h]
    exact ⟨rfl, rfl, fun g => absurd (show (1 : Int32) = 0 from g) (by decide)⟩
theorem zl_H_amend (st : zu_X) (o : Nat → Int64) (p1 : Int32) (p2 : Int32) (p3 : Int64) : (zf_H_amend (st, o) p1 p2 p3).1 = nI (zf_X_amend st p1 p2 p3).1 ∧ (zf_H_amend (st, o) p1 p2 p3).2.1 = (zf_X_amend st p1 p2 p3).2.2 ∧ ((zf_H_amend (st, o) p1 p2 p3).1 = 0 → (zf_X_amend st p1 p2 p3).1 = 0 ∧ (zf_H_amend (st, o) p1 p2 p3).2.2 0 = (zf_X_amend st p1 p2 p3).2.1.toInt64) := by
  have hk : (zf_X_amend st p1 p2 p3).1 = 0 ∨ (zf_X_amend st p1 p2 p3).1 = 1 ∨ (zf_X_amend st p1 p2 p3).1 = 2 := by
    unfold zf_X_amend
    (repeat' split) <;> simp
  have hH : zf_H_amend (st, o) p1 p2 p3 = if (zf_X_amend st p1 p2 p3).1 = 0 then (0, (zf_X_amend st p1 p2 p3).2.2, vp_updL o 0 ((zf_X_amend st p1 p2 p3).2.1.toInt64)) else if (zf_X_amend st p1 p2 p3).1 = 1 then (1, (zf_X_amend st p1 p2 p3).2.2, o) else (2, (zf_X_amend st p1 p2 p3).2.2, o) := rfl
  rw [hH]
  rcases hk with h | h | h
  · rw [if_pos h, h]
    exact ⟨rfl, rfl, fun _ => ⟨rfl, pk_uLs (f := o) (k := 0)⟩⟩
  · rw [if_neg (show ¬ (zf_X_amend st p1 p2 p3).1 = 0 by rw [h]; decide), if_pos h, h]
    exact ⟨rfl, rfl, fun g => absurd (show (1 : Int32) = 0 from g) (by decide)⟩
  · rw [if_neg (show ¬ (zf_X_amend st p1 p2 p3).1 = 0 by rw [h]; decide), if_neg (show ¬ (zf_X_amend st p1 p2 p3).1 = 1 by rw [h]; decide), h]
    exact ⟨rfl, rfl, fun g => absurd (show (2 : Int32) = 0 from g) (by decide)⟩
theorem zl_H_draw (st : zu_X) (o : Nat → Int64) (p1 : Int32) (p2 : Int32) (p3 : Int32) : (zf_H_draw (st, o) p1 p2 p3).1 = nI (zf_X_draw st p1 p2 p3).1 ∧ (zf_H_draw (st, o) p1 p2 p3).2.1 = (zf_X_draw st p1 p2 p3).2.2 ∧ ((zf_H_draw (st, o) p1 p2 p3).1 = 0 → (zf_X_draw st p1 p2 p3).1 = 0 ∧ (zf_H_draw (st, o) p1 p2 p3).2.2 0 = (zf_X_draw st p1 p2 p3).2.1.toInt64) := by
  have hk : (zf_X_draw st p1 p2 p3).1 = 0 ∨ (zf_X_draw st p1 p2 p3).1 = 1 := by
    unfold zf_X_draw
    (repeat' split) <;> simp
  have hH : zf_H_draw (st, o) p1 p2 p3 = if (zf_X_draw st p1 p2 p3).1 = 0 then (0, (zf_X_draw st p1 p2 p3).2.2, vp_updL o 0 ((zf_X_draw st p1 p2 p3).2.1.toInt64)) else (1, (zf_X_draw st p1 p2 p3).2.2, o) := rfl
  rw [hH]
  rcases hk with h | h
  · rw [if_pos h, h]
    exact ⟨rfl, rfl, fun _ => ⟨rfl, pk_uLs (f := o) (k := 0)⟩⟩
  · rw [if_neg (show ¬ (zf_X_draw st p1 p2 p3).1 = 0 by rw [h]; decide), h]
    exact ⟨rfl, rfl, fun g => absurd (show (1 : Int32) = 0 from g) (by decide)⟩
theorem zl_H_sum (st : zu_X) (o : Nat → Int64) (p1 : Int32) : (zf_H_sum (st, o) p1).1 = nI (zf_X_sum st p1).1 ∧ (zf_H_sum (st, o) p1).2.1 = st ∧ ((zf_H_sum (st, o) p1).1 = 0 → (zf_X_sum st p1).1 = 0 ∧ (zf_H_sum (st, o) p1).2.2 0 = (zf_X_sum st p1).2) := by
  have hk : (zf_X_sum st p1).1 = 0 ∨ (zf_X_sum st p1).1 = 1 := by
    unfold zf_X_sum
    (repeat' split) <;> simp
  have hH : zf_H_sum (st, o) p1 = if (zf_X_sum st p1).1 = 0 then (0, st, vp_updL o 0 ((zf_X_sum st p1).2)) else (1, st, o) := rfl
  rw [hH]
  rcases hk with h | h
  · rw [if_pos h, h]
    exact ⟨rfl, rfl, fun _ => ⟨rfl, pk_uLs (f := o) (k := 0)⟩⟩
  · rw [if_neg (show ¬ (zf_X_sum st p1).1 = 0 by rw [h]; decide), h]
    exact ⟨rfl, rfl, fun g => absurd (show (1 : Int32) = 0 from g) (by decide)⟩
theorem zl_H_octet (st : zu_X) (o : Nat → Int64) (p1 : Int32) : (zf_H_octet (st, o) p1).1 = nI (zf_X_octet st p1).1 ∧ (zf_H_octet (st, o) p1).2.1 = st ∧ ((zf_H_octet (st, o) p1).1 = 0 → (zf_X_octet st p1).1 = 0 ∧ (zf_H_octet (st, o) p1).2.2 0 = (zf_X_octet st p1).2.toInt64) := by
  have hk : (zf_X_octet st p1).1 = 0 ∨ (zf_X_octet st p1).1 = 1 := by
    unfold zf_X_octet
    (repeat' split) <;> simp
  have hH : zf_H_octet (st, o) p1 = if (zf_X_octet st p1).1 = 0 then (0, st, vp_updL o 0 ((zf_X_octet st p1).2.toInt64)) else (1, st, o) := rfl
  rw [hH]
  rcases hk with h | h
  · rw [if_pos h, h]
    exact ⟨rfl, rfl, fun _ => ⟨rfl, pk_uLs (f := o) (k := 0)⟩⟩
  · rw [if_neg (show ¬ (zf_X_octet st p1).1 = 0 by rw [h]; decide), h]
    exact ⟨rfl, rfl, fun g => absurd (show (1 : Int32) = 0 from g) (by decide)⟩
