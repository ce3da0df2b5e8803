set_option maxHeartbeats 4000000 in
set_option maxRecDepth 100000 in
theorem zc_M_thrown (l : Launch) (dC : Nat → ClassId) (dI : Nat → Nat → Nat) (cI cZ cL : ClassId) (a0 a1 a2 a3 a4 a5 a6 a7 : Nat) (sz : Nat) (w0 : Int32) (w1 : Int32) (w2 : Nat) (w3 : Nat → Int32) (w4 : Nat → Int64) (w5 : Int32) (w6 : Int32) (w7 : Nat) (w8 : Nat → Int64) (w9 : Nat → Int32) (w10 : Nat) (w11 : Nat → Int32) (w12 : Nat → Int32) (w13 : Nat → Int32) (w14 : Int32) (w15 : Int32) (w16 : Int32) (w17 : Int32) (w18 : Int32) (w19 : Int64) (w20 : Int32) (w21 : Int32)  : Met l zy_M_thrown (zz_ws zy_M_thrown zb_M_thrown 1 (some .int)) ({ frames := 0, cells := 0, slots := 0, locals := 0 } : Room) (va_Pc ([.ref a0] : List Value) (zz_P (dC, dI) (zz_ty cI cZ cL) sz (zv_M cI cZ cL a0 a1 a2 a3 a4 a5 a6 a7 w0 w1 w2 w3 w4 w5 w6 w7 w8 w9 w10 w11 w12 w13 w14 w15 w16 w17 w18 w19 w20 w21))) (zz_Ki (zf_M_thrown w0)) 0 0 (fun _ => False) := by
  refine zz_ofK (by decide) (Nat.le_of_ble_eq_true rfl) ?_
  intro p e s m below meth c C0 hK hP hD ls hl
  obtain ⟨hx, hb, hr, hml, hown, htB, hlocks, hE⟩ := id C0
  have hl : lv_has ls 1 [(0, .ref a0)] := hl
  refine lv_aload_n hx hb zd_M_thrown_0 rfl (lv_at hl 0 rfl) ?_
  refine va_get (D := (dC, dI)) (ci := 5) (v := .int w0) (C := zr_M) (T := zF_M) (N := 22) hx hb htB zi_M hown hK hP 0 rfl rfl 0 (by decide) (htB _ zk_d62d4141) (fun _ h9 => h9) rfl zd_M_thrown_1 ?_
  rw [(show zf_M_thrown w0 = w0 from by first | rfl | (rw [zf_M_thrown]))]
  exact zz_kiret hx hb hr hlocks zd_M_thrown_4 rfl
set_option maxHeartbeats 4000000 in
set_option maxRecDepth 100000 in
theorem zc_M_refuse (l : Launch) (dC : Nat → ClassId) (dI : Nat → Nat → Nat) (cI cZ cL : ClassId) (a0 a1 a2 a3 a4 a5 a6 a7 : Nat) (sz : Nat) (w0 : Int32) (w1 : Int32) (w2 : Nat) (w3 : Nat → Int32) (w4 : Nat → Int64) (w5 : Int32) (w6 : Int32) (w7 : Nat) (w8 : Nat → Int64) (w9 : Nat → Int32) (w10 : Nat) (w11 : Nat → Int32) (w12 : Nat → Int32) (w13 : Nat → Int32) (w14 : Int32) (w15 : Int32) (w16 : Int32) (w17 : Int32) (w18 : Int32) (w19 : Int64) (w20 : Int32) (w21 : Int32) (p1 : Int32)  : Met l zy_M_refuse (zz_ws zy_M_refuse zb_M_refuse 2 (some .int)) ({ frames := 0, cells := 0, slots := 0, locals := 0 } : Room) (va_Pc ([.ref a0, .int p1] : List Value) (zz_P (dC, dI) (zz_ty cI cZ cL) sz (zv_M cI cZ cL a0 a1 a2 a3 a4 a5 a6 a7 w0 w1 w2 w3 w4 w5 w6 w7 w8 w9 w10 w11 w12 w13 w14 w15 w16 w17 w18 w19 w20 w21))) (zz_Qi (dC, dI) (zz_ty cI cZ cL) (va_A (zv_M cI cZ cL a0 a1 a2 a3 a4 a5 a6 a7 w0 w1 w2 w3 w4 w5 w6 w7 w8 w9 w10 w11 w12 w13 w14 w15 w16 w17 w18 w19 w20 w21) sz) ((zf_M_refuse w0 p1).1) (zv_M cI cZ cL a0 a1 a2 a3 a4 a5 a6 a7 ((zf_M_refuse w0 p1).2) w1 w2 w3 w4 w5 w6 w7 w8 w9 w10 w11 w12 w13 w14 w15 w16 w17 w18 w19 w20 w21)) 0 0 (va_A (zv_M cI cZ cL a0 a1 a2 a3 a4 a5 a6 a7 w0 w1 w2 w3 w4 w5 w6 w7 w8 w9 w10 w11 w12 w13 w14 w15 w16 w17 w18 w19 w20 w21) sz) := by
  refine zz_ofW (Q := fun A => (zz_Qi (dC, dI) (zz_ty cI cZ cL) A ((zf_M_refuse w0 p1).1) (zv_M cI cZ cL a0 a1 a2 a3 a4 a5 a6 a7 ((zf_M_refuse w0 p1).2) w1 w2 w3 w4 w5 w6 w7 w8 w9 w10 w11 w12 w13 w14 w15 w16 w17 w18 w19 w20 w21))) (by decide) (Nat.le_of_ble_eq_true rfl) ?_
  intro p e s m below meth c A C0 _ hA hK hP hD _ ls hl
  obtain ⟨hx, hb, hr, hml, hown, htB, hlocks, hE⟩ := id C0
  have hS : va_S A s.heap s.heap [] := va_S.rf
  have hl : lv_has ls 2 [(0, .ref a0), (1, .int p1)] := hl
  refine lv_aload_n hx hb zd_M_refuse_0 rfl (lv_at hl 0 rfl) ?_
  refine lv_iload_n hx hb zd_M_refuse_1 rfl (lv_at hl 1 rfl) ?_
  refine va_put (D := (dC, dI)) (ci := 5) (v := .int p1) (C := zr_M) (T := zF_M) (N := 22) hx hb htB zi_M zT_M zT_M_ok zn_M hown hK hP hD hS 0 rfl rfl 0 (by decide) (htB _ zk_d62d4141) (fun _ h9 => h9) rfl (zT_M_ok 0 (by decide)) rfl rfl (Nat.le_of_ble_eq_true rfl) zd_M_refuse_2 (fun H locs hP hD hS => ?_)
  have hP : va_P (dC, dI) zz_cl (zv_M cI cZ cL a0 a1 a2 a3 a4 a5 a6 a7 p1 w1 w2 w3 w4 w5 w6 w7 w8 w9 w10 w11 w12 w13 w14 w15 w16 w17 w18 w19 w20 w21) H := hP
  have hD : va_D A (zv_M cI cZ cL a0 a1 a2 a3 a4 a5 a6 a7 p1 w1 w2 w3 w4 w5 w6 w7 w8 w9 w10 w11 w12 w13 w14 w15 w16 w17 w18 w19 w20 w21) := hD
  refine lv_iconst (v := 0) hx hb zd_M_refuse_5 (by decide) ?_
  rw [(show zf_M_refuse w0 p1 = (0, p1) from by first | rfl | (rw [zf_M_refuse]))]
  exact zz_iret hx hb hr hlocks hK hP hD hS zd_M_refuse_6 rfl
set_option maxHeartbeats 4000000 in
set_option maxRecDepth 100000 in
theorem zc_M_in (l : Launch) (dC : Nat → ClassId) (dI : Nat → Nat → Nat) (cI cZ cL : ClassId) (sz : Nat) (p0 : Int64) (p2 : Int64) (p4 : Int64)  : Met l zy_M_in (zz_ws zy_M_in zb_M_in 6 (some .boolean)) ({ frames := 0, cells := 0, slots := 0, locals := 0 } : Room) (va_Pc ([.long p0, .long p2, .long p4] : List Value) (zz_P (dC, dI) (zz_ty cI cZ cL) sz [])) (zz_Ki (zf_M_in p0 p2 p4)) 0 0 (fun _ => False) := by
  refine zz_ofK (by decide) (Nat.le_of_ble_eq_true rfl) ?_
  intro p e s m below meth c C0 hK hP hD ls hl
  obtain ⟨hx, hb, hr, hml, hown, htB, hlocks, hE⟩ := id C0
  have hl : lv_has ls 6 [(0, .long p0), (2, .long p2), (4, .long p4)] := hl
  refine lv_lload_n hx hb zd_M_in_0 rfl (lv_at hl 0 rfl) ?_
  refine lv_lload_n hx hb zd_M_in_1 rfl (lv_at hl 1 rfl) ?_
  refine W.lcmp hx hb zd_M_in_2 ?_
  refine lv_if_lt (tgt := 17) hx hb zd_M_in_3 (by decide) (fun c_3 => ?_) (fun c_3 => ?_)
  · refine lv_iconst (v := 0) hx hb zd_M_in_17 (by decide) ?_
    rw [(show zf_M_in p0 p2 p4 = 0 from by rw [zf_M_in, if_pos c_3])]
    exact zz_kzret hx hb hr hlocks narrow_b0 zd_M_in_18 rfl
  · refine lv_lload_n hx hb zd_M_in_6 rfl (lv_at hl 0 rfl) ?_
    refine lv_lload hx hb zd_M_in_7 (lv_at hl 2 rfl) ?_
    refine W.lcmp hx hb zd_M_in_9 ?_
    refine lv_if_gt (tgt := 17) hx hb zd_M_in_10 (by decide) (fun c_10 => ?_) (fun c_10 => ?_)
    · refine lv_iconst (v := 0) hx hb zd_M_in_17 (by decide) ?_
      rw [(show zf_M_in p0 p2 p4 = 0 from by rw [zf_M_in, if_neg c_3, if_pos c_10])]
      exact zz_kzret hx hb hr hlocks narrow_b0 zd_M_in_18 rfl
    · refine lv_iconst (v := 1) hx hb zd_M_in_13 (by decide) ?_
      refine lv_goto (tgt := 18) hx hb zd_M_in_14 (by decide) ?_
      rw [(show zf_M_in p0 p2 p4 = 1 from by rw [zf_M_in, if_neg c_3, if_neg c_10])]
      exact zz_kzret hx hb hr hlocks narrow_b1 zd_M_in_18 rfl
set_option maxHeartbeats 4000000 in
set_option maxRecDepth 100000 in
theorem zc_M_isLine (l : Launch) (dC : Nat → ClassId) (dI : Nat → Nat → Nat) (cI cZ cL : ClassId) (a0 a1 a2 a3 a4 a5 a6 a7 : Nat) (sz : Nat) (w0 : Int32) (w1 : Int32) (w2 : Nat) (w3 : Nat → Int32) (w4 : Nat → Int64) (w5 : Int32) (w6 : Int32) (w7 : Nat) (w8 : Nat → Int64) (w9 : Nat → Int32) (w10 : Nat) (w11 : Nat → Int32) (w12 : Nat → Int32) (w13 : Nat → Int32) (w14 : Int32) (w15 : Int32) (w16 : Int32) (w17 : Int32) (w18 : Int32) (w19 : Int64) (w20 : Int32) (w21 : Int32) (p1 : Int32) (hm : w2 ≤ 30) : Met l zy_M_isLine (zz_ws zy_M_isLine zb_M_isLine 2 (some .boolean)) ({ frames := 0, cells := 0, slots := 0, locals := 0 } : Room) (va_Pc ([.ref a0, .int p1] : List Value) (zz_P (dC, dI) (zz_ty cI cZ cL) sz (zv_M cI cZ cL a0 a1 a2 a3 a4 a5 a6 a7 w0 w1 w2 w3 w4 w5 w6 w7 w8 w9 w10 w11 w12 w13 w14 w15 w16 w17 w18 w19 w20 w21))) (zz_Ki (zf_M_isLine w2 w3 p1)) 0 0 (fun _ => False) := by
  refine zz_ofK (by decide) (Nat.le_of_ble_eq_true rfl) ?_
  intro p e s m below meth c C0 hK hP hD ls hl
  obtain ⟨hx, hb, hr, hml, hown, htB, hlocks, hE⟩ := id C0
  have hl : lv_has ls 2 [(0, .ref a0), (1, .int p1)] := hl
  refine lv_iload_n hx hb zd_M_isLine_0 rfl (lv_at hl 1 rfl) ?_
  refine lv_iconst (v := 1) hx hb zd_M_isLine_1 (by decide) ?_
  refine lv_icmp_lt (tgt := 43) hx hb zd_M_isLine_2 (by decide) (fun c_2 => ?_) (fun c_2 => ?_)
  · refine lv_iconst (v := 0) hx hb zd_M_isLine_43 (by decide) ?_
    rw [(show zf_M_isLine w2 w3 p1 = 0 from by rw [zf_M_isLine, if_pos c_2])]
    exact zz_kzret hx hb hr hlocks narrow_b0 zd_M_isLine_44 rfl
  · refine lv_iload_n hx hb zd_M_isLine_5 rfl (lv_at hl 1 rfl) ?_
    refine lv_aload_n hx hb zd_M_isLine_6 rfl (lv_at hl 0 rfl) ?_
    refine va_get (D := (dC, dI)) (ci := 5) (v := .int (nI w2)) (C := zr_M) (T := zF_M) (N := 22) hx hb htB zi_M hown hK hP 0 rfl rfl 2 (by decide) (htB _ zk_d4ba64b0) (fun _ h9 => h9) rfl zd_M_isLine_7 ?_
    refine lv_icmp_gt (tgt := 43) hx hb zd_M_isLine_10 (by decide) (fun c_10 => ?_) (fun c_10 => ?_)
    · refine lv_iconst (v := 0) hx hb zd_M_isLine_43 (by decide) ?_
      rw [(show zf_M_isLine w2 w3 p1 = 0 from by rw [zf_M_isLine, if_neg c_2, if_pos c_10])]
      exact zz_kzret hx hb hr hlocks narrow_b0 zd_M_isLine_44 rfl
    · refine lv_aload_n hx hb zd_M_isLine_13 rfl (lv_at hl 0 rfl) ?_
      refine va_get (D := (dC, dI)) (ci := 5) (v := .ref a1) (C := zr_M) (T := zF_M) (N := 22) hx hb htB zi_M hown hK hP 0 rfl rfl 3 (by decide) (htB _ zk_a9873276) (fun _ h9 => h9) rfl zd_M_isLine_14 ?_
      refine lv_iload_n hx hb zd_M_isLine_17 rfl (lv_at hl 1 rfl) ?_
      refine lv_iconst (v := 1) hx hb zd_M_isLine_18 (by decide) ?_
      refine lv_icmp_lt (tgt := 34) hx hb zd_M_isLine_19 (by decide) (fun c_ => absurd c_ c_2) (fun _ => ?_)
      refine lv_iload_n hx hb zd_M_isLine_22 rfl (lv_at hl 1 rfl) ?_
      refine lv_aload_n hx hb zd_M_isLine_23 rfl (lv_at hl 0 rfl) ?_
      refine va_get (D := (dC, dI)) (ci := 5) (v := .int (nI w2)) (C := zr_M) (T := zF_M) (N := 22) hx hb htB zi_M hown hK hP 0 rfl rfl 2 (by decide) (htB _ zk_d4ba64b0) (fun _ h9 => h9) rfl zd_M_isLine_24 ?_
      refine lv_icmp_gt (tgt := 34) hx hb zd_M_isLine_27 (by decide) (fun c_ => absurd c_ c_10) (fun _ => ?_)
      refine lv_iload_n hx hb zd_M_isLine_30 rfl (lv_at hl 1 rfl) ?_
      refine lv_goto (tgt := 35) hx hb zd_M_isLine_31 (by decide) ?_
      refine va_zald hx hb hK hP 1 1 rfl rfl (zy_ml hm c_2 c_10) zd_M_isLine_35 ?_
      refine lv_if_ne (tgt := 43) hx hb zd_M_isLine_36 (by decide) (fun c_36 => ?_) (fun c_36 => ?_)
      · refine lv_iconst (v := 0) hx hb zd_M_isLine_43 (by decide) ?_
        rw [(show zf_M_isLine w2 w3 p1 = 0 from by rw [zf_M_isLine, if_neg c_2, if_neg c_10, if_neg c_36])]
        exact zz_kzret hx hb hr hlocks narrow_b0 zd_M_isLine_44 rfl
      · refine lv_iconst (v := 1) hx hb zd_M_isLine_39 (by decide) ?_
        refine lv_goto (tgt := 44) hx hb zd_M_isLine_40 (by decide) ?_
        rw [(show zf_M_isLine w2 w3 p1 = 1 from by rw [zf_M_isLine, if_neg c_2, if_neg c_10, if_pos c_36])]
        exact zz_kzret hx hb hr hlocks narrow_b1 zd_M_isLine_44 rfl
set_option maxHeartbeats 4000000 in
set_option maxRecDepth 100000 in
theorem zc_M_isPlace (l : Launch) (dC : Nat → ClassId) (dI : Nat → Nat → Nat) (cI cZ cL : ClassId) (a0 a1 a2 a3 a4 a5 a6 a7 : Nat) (sz : Nat) (w0 : Int32) (w1 : Int32) (w2 : Nat) (w3 : Nat → Int32) (w4 : Nat → Int64) (w5 : Int32) (w6 : Int32) (w7 : Nat) (w8 : Nat → Int64) (w9 : Nat → Int32) (w10 : Nat) (w11 : Nat → Int32) (w12 : Nat → Int32) (w13 : Nat → Int32) (w14 : Int32) (w15 : Int32) (w16 : Int32) (w17 : Int32) (w18 : Int32) (w19 : Int64) (w20 : Int32) (w21 : Int32) (p1 : Int32) (p2 : Int32) (hm : w2 ≤ 30) : Met l zy_M_isPlace (zz_ws zy_M_isPlace zb_M_isPlace 3 (some .boolean)) ({ frames := 1, cells := 0, slots := 0, locals := 25 } : Room) (va_Pc ([.ref a0, .int p1, .int p2] : List Value) (zz_P (dC, dI) (zz_ty cI cZ cL) sz (zv_M cI cZ cL a0 a1 a2 a3 a4 a5 a6 a7 w0 w1 w2 w3 w4 w5 w6 w7 w8 w9 w10 w11 w12 w13 w14 w15 w16 w17 w18 w19 w20 w21))) (zz_Ki (zf_M_isPlace w2 w3 p1 p2)) 0 0 (fun _ => False) := by
  refine zz_ofK (by decide) (Nat.le_of_ble_eq_true rfl) ?_
  intro p e s m below meth c C0 hK hP hD ls hl
  obtain ⟨hx, hb, hr, hml, hown, htB, hlocks, hE⟩ := id C0
  have hl : lv_has ls 3 [(0, .ref a0), (1, .int p1), (2, .int p2)] := hl
  refine lv_iload_n hx hb zd_M_isPlace_0 rfl (lv_at hl 2 rfl) ?_
  refine lv_if_ne (tgt := 16) hx hb zd_M_isPlace_1 (by decide) (fun c_1 => ?_) (fun c_1 => ?_)
  · refine lv_iload_n hx hb zd_M_isPlace_16 rfl (lv_at hl 1 rfl) ?_
    refine lv_i2l hx hb zd_M_isPlace_17 rfl ?_
    refine lv_ldc2 (v := 10) hx hb hown (htB _ zk_7987f3f8) zd_M_isPlace_18 ?_
    refine lv_ldc2 (v := 19) hx hb hown (htB _ zk_ff0c3da7) zd_M_isPlace_21 ?_
    refine zz_ki (va_runS (As := [.long p1.toInt64, .long 10, .long 19]) (rest := []) ⟨hx, hb, hml, hown, htB⟩ (zc_M_in l dC dI cI cZ cL  s.heap.size  p1.toInt64 10 19 ) (va_cwS 3 htB (zz_gS zk_3b1d8f54 zk_5de93d87 zk_91cc3b19 zk_d5048d4e) rfl rfl rfl zh_M_in ⟨Nat.le_of_ble_eq_true rfl, Nat.le_of_ble_eq_true rfl⟩) (zz_preS hP hD hK hE [] (by decide) rfl) rfl rfl hl.1 rfl (lv_room (Nat.le_of_ble_eq_true rfl)) zd_M_isPlace_24 ⟨Nat.le_of_ble_eq_true rfl, Nat.le_of_ble_eq_true rfl⟩) ?_
    refine lv_if_eq (tgt := 42) hx hb zd_M_isPlace_27 (by decide) (fun c_27 => ?_) (fun c_27 => ?_)
    · refine lv_iconst (v := 0) hx hb zd_M_isPlace_42 (by decide) ?_
      rw [(show zf_M_isPlace w2 w3 p1 p2 = 0 from by rw [zf_M_isPlace, if_neg c_1, if_pos c_27])]
      exact zz_kzret hx hb hr hlocks narrow_b0 zd_M_isPlace_43 rfl
    · refine lv_aload_n hx hb zd_M_isPlace_30 rfl (lv_at hl 0 rfl) ?_
      refine lv_iload_n hx hb zd_M_isPlace_31 rfl (lv_at hl 2 rfl) ?_
      refine zz_ki (va_runV (As := [.int p2]) (rest := []) ⟨hx, hb, hml, hown, htB⟩ (zc_M_isLine l dC dI cI cZ cL a0 a1 a2 a3 a4 a5 a6 a7 s.heap.size w0 w1 w2 w3 w4 w5 w6 w7 w8 w9 w10 w11 w12 w13 w14 w15 w16 w17 w18 w19 w20 w21 p2 hm) (cwV 1 htB (zz_gV zk_42c4ccab zk_0528e464 zk_1a6dee55 zk_91cc3b19 zk_8cffb020) rfl rfl rfl ⟨rfl, zh_M_isLine⟩ ⟨Nat.le_of_ble_eq_true rfl, Nat.le_of_ble_eq_true rfl⟩) (zz_preV (ci := 5) (q := (zr_M, zF_M, 22)) hP hD hK hE [0, 1, 2, 3, 4, 5, 6, 7] (by decide) rfl rfl rfl) rfl rfl hl.1 rfl (lv_room (Nat.le_of_ble_eq_true rfl)) zd_M_isPlace_32 ⟨Nat.le_of_ble_eq_true rfl, Nat.le_of_ble_eq_true rfl⟩) ?_
      refine lv_if_eq (tgt := 42) hx hb zd_M_isPlace_35 (by decide) (fun c_35 => ?_) (fun c_35 => ?_)
      · refine lv_iconst (v := 0) hx hb zd_M_isPlace_42 (by decide) ?_
        rw [(show zf_M_isPlace w2 w3 p1 p2 = 0 from by rw [zf_M_isPlace, if_neg c_1, if_neg c_27, if_pos c_35])]
        exact zz_kzret hx hb hr hlocks narrow_b0 zd_M_isPlace_43 rfl
      · refine lv_iconst (v := 1) hx hb zd_M_isPlace_38 (by decide) ?_
        refine lv_goto (tgt := 43) hx hb zd_M_isPlace_39 (by decide) ?_
        rw [(show zf_M_isPlace w2 w3 p1 p2 = 1 from by rw [zf_M_isPlace, if_neg c_1, if_neg c_27, if_neg c_35])]
        exact zz_kzret hx hb hr hlocks narrow_b1 zd_M_isPlace_43 rfl
  · refine lv_iload_n hx hb zd_M_isPlace_4 rfl (lv_at hl 1 rfl) ?_
    refine lv_i2l hx hb zd_M_isPlace_5 rfl ?_
    refine lv_lconst (v := 0) hx hb zd_M_isPlace_6 (by decide) ?_
    refine lv_ldc2 (v := 9) hx hb hown (htB _ zk_c16f9ca1) zd_M_isPlace_7 ?_
    refine zz_ki (va_runS (As := [.long p1.toInt64, .long 0, .long 9]) (rest := []) ⟨hx, hb, hml, hown, htB⟩ (zc_M_in l dC dI cI cZ cL  s.heap.size  p1.toInt64 0 9 ) (va_cwS 3 htB (zz_gS zk_3b1d8f54 zk_5de93d87 zk_91cc3b19 zk_d5048d4e) rfl rfl rfl zh_M_in ⟨Nat.le_of_ble_eq_true rfl, Nat.le_of_ble_eq_true rfl⟩) (zz_preS hP hD hK hE [] (by decide) rfl) rfl rfl hl.1 rfl (lv_room (Nat.le_of_ble_eq_true rfl)) zd_M_isPlace_10 ⟨Nat.le_of_ble_eq_true rfl, Nat.le_of_ble_eq_true rfl⟩) ?_
    refine lv_goto (tgt := 43) hx hb zd_M_isPlace_13 (by decide) ?_
    rw [(show zf_M_isPlace w2 w3 p1 p2 = (zf_M_in p1.toInt64 0 9) from by rw [zf_M_isPlace, if_pos c_1])]
    exact zz_kzret hx hb hr hlocks (zo_M_in p1.toInt64 0 9) zd_M_isPlace_43 rfl
set_option maxHeartbeats 4000000 in
set_option maxRecDepth 100000 in
theorem zc_M_at (l : Launch) (dC : Nat → ClassId) (dI : Nat → Nat → Nat) (cI cZ cL : ClassId) (sz : Nat) (p0 : Int32) (p1 : Int32)  : Met l zy_M_at (zz_ws zy_M_at zb_M_at 2 (some .int)) ({ frames := 0, cells := 0, slots := 0, locals := 0 } : Room) (va_Pc ([.int p0, .int p1] : List Value) (zz_P (dC, dI) (zz_ty cI cZ cL) sz [])) (zz_Ki (zf_M_at p0 p1)) 0 0 (fun _ => False) := by
  refine zz_ofK (by decide) (Nat.le_of_ble_eq_true rfl) ?_
  intro p e s m below meth c C0 hK hP hD ls hl
  obtain ⟨hx, hb, hr, hml, hown, htB, hlocks, hE⟩ := id C0
  have hl : lv_has ls 2 [(0, .int p0), (1, .int p1)] := hl
  refine lv_bipush (v := 10) hx hb zd_M_at_0 (by decide) ?_
  refine lv_iload_n hx hb zd_M_at_2 rfl (lv_at hl 1 rfl) ?_
  refine lv_imul hx hb zd_M_at_3 ?_
  refine lv_iload_n hx hb zd_M_at_4 rfl (lv_at hl 0 rfl) ?_
  refine lv_bipush (v := 10) hx hb zd_M_at_5 (by decide) ?_
  refine lv_irem hx hb zd_M_at_7 (by decide) ?_
  refine lv_iadd hx hb zd_M_at_8 ?_
  rw [(show zf_M_at p0 p1 = (10 * p1) + (p0 - p0 / 10 * 10) from by first | rfl | (rw [zf_M_at]))]
  exact zz_kiret hx hb hr hlocks zd_M_at_9 rfl
set_option maxHeartbeats 4000000 in
set_option maxRecDepth 100000 in
theorem zc_M_needOf (l : Launch) (dC : Nat → ClassId) (dI : Nat → Nat → Nat) (cI cZ cL : ClassId) (sz : Nat) (p0 : Int32) (p1 : Int32)  : Met l zy_M_needOf (zz_ws zy_M_needOf zb_M_needOf 2 (some .int)) ({ frames := 0, cells := 0, slots := 0, locals := 0 } : Room) (va_Pc ([.int p0, .int p1] : List Value) (zz_P (dC, dI) (zz_ty cI cZ cL) sz [])) (zz_Ki (zf_M_needOf p0 p1)) 0 0 (fun _ => False) := by
  refine zz_ofK (by decide) (Nat.le_of_ble_eq_true rfl) ?_
  intro p e s m below meth c C0 hK hP hD ls hl
  obtain ⟨hx, hb, hr, hml, hown, htB, hlocks, hE⟩ := id C0
  have hl : lv_has ls 2 [(0, .int p0), (1, .int p1)] := hl
  refine lv_iconst (v := 3) hx hb zd_M_needOf_0 (by decide) ?_
  refine lv_iload_n hx hb zd_M_needOf_1 rfl (lv_at hl 0 rfl) ?_
  refine lv_imul hx hb zd_M_needOf_2 ?_
  refine lv_iconst (v := 5) hx hb zd_M_needOf_3 (by decide) ?_
  refine lv_iload_n hx hb zd_M_needOf_4 rfl (lv_at hl 1 rfl) ?_
  refine lv_imul hx hb zd_M_needOf_5 ?_
  refine lv_iadd hx hb zd_M_needOf_6 ?_
  refine lv_iconst (v := 4) hx hb zd_M_needOf_7 (by decide) ?_
  refine lv_irem hx hb zd_M_needOf_8 (by decide) ?_
  rw [(show zf_M_needOf p0 p1 = ((3 * p0) + (5 * p1)) - ((3 * p0) + (5 * p1)) / 4 * 4 from by first | rfl | (rw [zf_M_needOf]))]
  exact zz_kiret hx hb hr hlocks zd_M_needOf_9 rfl
set_option maxHeartbeats 4000000 in
set_option maxRecDepth 100000 in
theorem zc_M_line (l : Launch) (dC : Nat → ClassId) (dI : Nat → Nat → Nat) (cI cZ cL : ClassId) (a0 a1 a2 a3 a4 a5 a6 a7 : Nat) (sz : Nat) (w0 : Int32) (w1 : Int32) (w2 : Nat) (w3 : Nat → Int32) (w4 : Nat → Int64) (w5 : Int32) (w6 : Int32) (w7 : Nat) (w8 : Nat → Int64) (w9 : Nat → Int32) (w10 : Nat) (w11 : Nat → Int32) (w12 : Nat → Int32) (w13 : Nat → Int32) (w14 : Int32) (w15 : Int32) (w16 : Int32) (w17 : Int32) (w18 : Int32) (w19 : Int64) (w20 : Int32) (w21 : Int32)  : Met l zy_M_line (zz_ws zy_M_line zb_M_line 1 (some .int)) ({ frames := 1, cells := 0, slots := 0, locals := 21 } : Room) (va_Pc ([.ref a0] : List Value) (zz_P (dC, dI) (zz_ty cI cZ cL) sz (zv_M cI cZ cL a0 a1 a2 a3 a4 a5 a6 a7 w0 w1 w2 w3 w4 w5 w6 w7 w8 w9 w10 w11 w12 w13 w14 w15 w16 w17 w18 w19 w20 w21))) (zz_Qi (dC, dI) (zz_ty cI cZ cL) (va_A (zv_M cI cZ cL a0 a1 a2 a3 a4 a5 a6 a7 w0 w1 w2 w3 w4 w5 w6 w7 w8 w9 w10 w11 w12 w13 w14 w15 w16 w17 w18 w19 w20 w21) sz) ((zf_M_line w0 w2 w5).1) (zv_M cI cZ cL a0 a1 a2 a3 a4 a5 a6 a7 ((zf_M_line w0 w2 w5).2.1) w1 ((zf_M_line w0 w2 w5).2.2) w3 w4 w5 w6 w7 w8 w9 w10 w11 w12 w13 w14 w15 w16 w17 w18 w19 w20 w21)) 0 0 (va_A (zv_M cI cZ cL a0 a1 a2 a3 a4 a5 a6 a7 w0 w1 w2 w3 w4 w5 w6 w7 w8 w9 w10 w11 w12 w13 w14 w15 w16 w17 w18 w19 w20 w21) sz) := by
  refine zz_ofW (Q := fun A => (zz_Qi (dC, dI) (zz_ty cI cZ cL) A ((zf_M_line w0 w2 w5).1) (zv_M cI cZ cL a0 a1 a2 a3 a4 a5 a6 a7 ((zf_M_line w0 w2 w5).2.1) w1 ((zf_M_line w0 w2 w5).2.2) w3 w4 w5 w6 w7 w8 w9 w10 w11 w12 w13 w14 w15 w16 w17 w18 w19 w20 w21))) (by decide) (Nat.le_of_ble_eq_true rfl) ?_
  intro p e s m below meth c A C0 _ hA hK hP hD _ ls hl
  obtain ⟨hx, hb, hr, hml, hown, htB, hlocks, hE⟩ := id C0
  have hS : va_S A s.heap s.heap [] := va_S.rf
  have hl : lv_has ls 1 [(0, .ref a0)] := hl
  refine lv_aload_n hx hb zd_M_line_0 rfl (lv_at hl 0 rfl) ?_
  refine va_get (D := (dC, dI)) (ci := 5) (v := .int (nI w2)) (C := zr_M) (T := zF_M) (N := 22) hx hb htB zi_M hown hK hP 0 rfl rfl 2 (by decide) (htB _ zk_d4ba64b0) (fun _ h9 => h9) rfl zd_M_line_1 ?_
  refine lv_bipush (v := 30) hx hb zd_M_line_4 (by decide) ?_
  refine lv_icmp_eq (tgt := 16) hx hb zd_M_line_6 (by decide) (fun c_6 => ?_) (fun c_6 => ?_)
  · refine lv_aload_n hx hb zd_M_line_16 rfl (lv_at hl 0 rfl) ?_
    refine lv_iconst (v := 1) hx hb zd_M_line_17 (by decide) ?_
    refine zz_ci (va_runV (As := [.int 1]) (rest := []) ⟨hx, hb, hml, hown, htB⟩ (zc_M_refuse l dC dI cI cZ cL a0 a1 a2 a3 a4 a5 a6 a7 s.heap.size w0 w1 w2 w3 w4 w5 w6 w7 w8 w9 w10 w11 w12 w13 w14 w15 w16 w17 w18 w19 w20 w21 1 ) (cwV 1 htB (zz_gV zk_05b1c230 zk_32615e0d zk_05b898fc zk_91cc3b19 zk_5f584b7b) rfl rfl rfl ⟨rfl, zh_M_refuse⟩ ⟨Nat.le_of_ble_eq_true rfl, Nat.le_of_ble_eq_true rfl⟩) (zz_preV (ci := 5) (q := (zr_M, zF_M, 22)) hP hD hK hE [0, 1, 2, 3, 4, 5, 6, 7] (by decide) rfl rfl rfl) rfl rfl hl.1 rfl (lv_room (Nat.le_of_ble_eq_true rfl)) zd_M_line_18 ⟨Nat.le_of_ble_eq_true rfl, Nat.le_of_ble_eq_true rfl⟩) hP hD hS hA [0, 1, 2, 3, 4, 5, 6, 7] [] [0, 1, 2, 3, 4, 5, 6, 7] rfl rfl (by decide) (by decide) (by decide) rfl (fun H locs hP hD hS => ?_)
    have hP : va_P (dC, dI) zz_cl (zv_M cI cZ cL a0 a1 a2 a3 a4 a5 a6 a7 ((zf_M_refuse w0 1).2) w1 w2 w3 w4 w5 w6 w7 w8 w9 w10 w11 w12 w13 w14 w15 w16 w17 w18 w19 w20 w21) H := hP
    have hD : va_D A (zv_M cI cZ cL a0 a1 a2 a3 a4 a5 a6 a7 ((zf_M_refuse w0 1).2) w1 w2 w3 w4 w5 w6 w7 w8 w9 w10 w11 w12 w13 w14 w15 w16 w17 w18 w19 w20 w21) := hD
    rw [(show zf_M_line w0 w2 w5 = ((zf_M_refuse w0 1).1, (zf_M_refuse w0 1).2, w2) from by rw [zf_M_line, if_pos c_6])]
    exact zz_iret hx hb hr hlocks hK hP hD hS zd_M_line_21 rfl
  · refine lv_aload_n hx hb zd_M_line_9 rfl (lv_at hl 0 rfl) ?_
    refine va_get (D := (dC, dI)) (ci := 5) (v := .int w5) (C := zr_M) (T := zF_M) (N := 22) hx hb htB zi_M hown hK hP 0 rfl rfl 5 (by decide) (htB _ zk_ceae0b21) (fun _ h9 => h9) rfl zd_M_line_10 ?_
    refine lv_if_eq (tgt := 22) hx hb zd_M_line_13 (by decide) (fun c_13 => ?_) (fun c_13 => ?_)
    · refine lv_aload_n hx hb zd_M_line_22 rfl (lv_at hl 0 rfl) ?_
      refine lv_iconst (v := 0) hx hb zd_M_line_23 (by decide) ?_
      refine va_put (D := (dC, dI)) (ci := 5) (v := .int 0) (C := zr_M) (T := zF_M) (N := 22) hx hb htB zi_M zT_M zT_M_ok zn_M hown hK hP hD hS 0 rfl rfl 0 (by decide) (htB _ zk_d62d4141) (fun _ h9 => h9) rfl (zT_M_ok 0 (by decide)) rfl rfl (Nat.le_of_ble_eq_true rfl) zd_M_line_24 (fun H locs hP hD hS => ?_)
      have hP : va_P (dC, dI) zz_cl (zv_M cI cZ cL a0 a1 a2 a3 a4 a5 a6 a7 0 w1 w2 w3 w4 w5 w6 w7 w8 w9 w10 w11 w12 w13 w14 w15 w16 w17 w18 w19 w20 w21) H := hP
      have hD : va_D A (zv_M cI cZ cL a0 a1 a2 a3 a4 a5 a6 a7 0 w1 w2 w3 w4 w5 w6 w7 w8 w9 w10 w11 w12 w13 w14 w15 w16 w17 w18 w19 w20 w21) := hD
      refine lv_aload_n hx hb zd_M_line_27 rfl (lv_at hl 0 rfl) ?_
      refine lv_dup hx hb zd_M_line_28 rfl ?_
      refine va_get (D := (dC, dI)) (ci := 5) (v := .int (nI w2)) (C := zr_M) (T := zF_M) (N := 22) hx hb htB zi_M hown hK hP 0 rfl rfl 2 (by decide) (htB _ zk_d4ba64b0) (fun _ h9 => h9) rfl zd_M_line_29 ?_
      refine lv_iconst (v := 1) hx hb zd_M_line_32 (by decide) ?_
      refine lv_iadd hx hb zd_M_line_33 ?_
      rw [nI_1 w2]
      refine va_put (D := (dC, dI)) (ci := 5) (v := .int (nI (w2 + 1))) (C := zr_M) (T := zF_M) (N := 22) hx hb htB zi_M zT_M zT_M_ok zn_M hown hK hP hD hS 0 rfl rfl 2 (by decide) (htB _ zk_d4ba64b0) (fun _ h9 => h9) rfl (zT_M_ok 2 (by decide)) rfl rfl (Nat.le_of_ble_eq_true rfl) zd_M_line_34 (fun H locs hP hD hS => ?_)
      have hP : va_P (dC, dI) zz_cl (zv_M cI cZ cL a0 a1 a2 a3 a4 a5 a6 a7 0 w1 (w2 + 1) w3 w4 w5 w6 w7 w8 w9 w10 w11 w12 w13 w14 w15 w16 w17 w18 w19 w20 w21) H := hP
      have hD : va_D A (zv_M cI cZ cL a0 a1 a2 a3 a4 a5 a6 a7 0 w1 (w2 + 1) w3 w4 w5 w6 w7 w8 w9 w10 w11 w12 w13 w14 w15 w16 w17 w18 w19 w20 w21) := hD
      refine lv_aload_n hx hb zd_M_line_37 rfl (lv_at hl 0 rfl) ?_
      refine va_get (D := (dC, dI)) (ci := 5) (v := .int (nI (w2 + 1))) (C := zr_M) (T := zF_M) (N := 22) hx hb htB zi_M hown hK hP 0 rfl rfl 2 (by decide) (htB _ zk_d4ba64b0) (fun _ h9 => h9) rfl zd_M_line_38 ?_
      rw [(show zf_M_line w0 w2 w5 = (nI (w2 + 1), 0, (w2 + 1)) from by rw [zf_M_line, if_neg c_6, if_pos c_13])]
      exact zz_iret hx hb hr hlocks hK hP hD hS zd_M_line_41 rfl
    · refine lv_aload_n hx hb zd_M_line_16 rfl (lv_at hl 0 rfl) ?_
      refine lv_iconst (v := 1) hx hb zd_M_line_17 (by decide) ?_
      refine zz_ci (va_runV (As := [.int 1]) (rest := []) ⟨hx, hb, hml, hown, htB⟩ (zc_M_refuse l dC dI cI cZ cL a0 a1 a2 a3 a4 a5 a6 a7 s.heap.size w0 w1 w2 w3 w4 w5 w6 w7 w8 w9 w10 w11 w12 w13 w14 w15 w16 w17 w18 w19 w20 w21 1 ) (cwV 1 htB (zz_gV zk_05b1c230 zk_32615e0d zk_05b898fc zk_91cc3b19 zk_5f584b7b) rfl rfl rfl ⟨rfl, zh_M_refuse⟩ ⟨Nat.le_of_ble_eq_true rfl, Nat.le_of_ble_eq_true rfl⟩) (zz_preV (ci := 5) (q := (zr_M, zF_M, 22)) hP hD hK hE [0, 1, 2, 3, 4, 5, 6, 7] (by decide) rfl rfl rfl) rfl rfl hl.1 rfl (lv_room (Nat.le_of_ble_eq_true rfl)) zd_M_line_18 ⟨Nat.le_of_ble_eq_true rfl, Nat.le_of_ble_eq_true rfl⟩) hP hD hS hA [0, 1, 2, 3, 4, 5, 6, 7] [] [0, 1, 2, 3, 4, 5, 6, 7] rfl rfl (by decide) (by decide) (by decide) rfl (fun H locs hP hD hS => ?_)
      have hP : va_P (dC, dI) zz_cl (zv_M cI cZ cL a0 a1 a2 a3 a4 a5 a6 a7 ((zf_M_refuse w0 1).2) w1 w2 w3 w4 w5 w6 w7 w8 w9 w10 w11 w12 w13 w14 w15 w16 w17 w18 w19 w20 w21) H := hP
      have hD : va_D A (zv_M cI cZ cL a0 a1 a2 a3 a4 a5 a6 a7 ((zf_M_refuse w0 1).2) w1 w2 w3 w4 w5 w6 w7 w8 w9 w10 w11 w12 w13 w14 w15 w16 w17 w18 w19 w20 w21) := hD
      rw [(show zf_M_line w0 w2 w5 = ((zf_M_refuse w0 1).1, (zf_M_refuse w0 1).2, w2) from by rw [zf_M_line, if_neg c_6, if_neg c_13])]
      exact zz_iret hx hb hr hlocks hK hP hD hS zd_M_line_21 rfl
set_option maxHeartbeats 4000000 in
set_option maxRecDepth 100000 in
theorem zp_M_setIn_7 {p : Program} {l : Launch} {e : Env} {s : State} {m : MethodId} {below : List Frame} {meth : Method} {c : Code} (dC : Nat → ClassId) (dI : Nat → Nat → Nat) (cI cZ cL : ClassId) (a0 a1 a2 a3 a4 a5 a6 a7 : Nat) (w0 : Int32) (w1 : Int32) (w2 : Nat) (w3 : Nat → Int32) (w4 : Nat → Int64) (w5 : Int32) (w6 : Int32) (w7 : Nat) (w8 : Nat → Int64) (w9 : Nat → Int32) (w10 : Nat) (w11 : Nat → Int32) (w12 : Nat → Int32) (w13 : Nat → Int32) (w14 : Int32) (w15 : Int32) (w16 : Int32) (w17 : Int32) (w18 : Int32) (w19 : Int64) (w20 : Int32) (w21 : Int32) (p1 : Int32) (hv : vp_in p1 31) (C0 : zz_C p s m ([.ref a0, .int p1] : List Value).toArray meth c zb_M_setIn 4 (some .int) zy_M_setIn.cls) (hK : va_K (dC, dI) zz_cl (zz_ty cI cZ cL) s) (hP : va_P (dC, dI) zz_cl (zv_M cI cZ cL a0 a1 a2 a3 a4 a5 a6 a7 w0 w1 w2 w3 w4 w5 w6 w7 w8 w9 w10 w11 w12 w13 w14 w15 w16 w17 w18 w19 w20 w21) s.heap) (hD : va_D (fun _ => True) (zv_M cI cZ cL a0 a1 a2 a3 a4 a5 a6 a7 w0 w1 w2 w3 w4 w5 w6 w7 w8 w9 w10 w11 w12 w13 w14 w15 w16 w17 w18 w19 w20 w21)) :
    ∀ (mm k : Nat), k + mm = 10 → ∀ (x2 : Int32), ∀ ls : Array Slot, lv_has ls 4 [(0, .ref a0), (1, .int p1), (2, .int x2), (3, .int ((10 * p1) + (nI k)))] →
    W p l e ({ frames := 0, cells := 0, slots := 0, locals := 0 } : Room) s m ([.ref a0, .int p1] : List Value).toArray below meth c s.heap [] 0 0 (MQ below (zz_Ki (zf_M_setIn_L7 w4 p1 mm k x2)) ([.ref a0, .int p1] : List Value).toArray s 0 0 (fun _ => False)) (F0 m 7 ls []) := by
  obtain ⟨hx, hb, hr, hml, hown, htB, hlocks, hE⟩ := id C0
  intro mm
  induction mm with
  | zero =>
    intro k hk x2 ls hl
    refine lv_iload_n hx hb zd_M_setIn_7 rfl (lv_at hl 3 rfl) ?_
    refine lv_bipush (v := 10) hx hb zd_M_setIn_8 (by decide) ?_
    refine lv_iload_n hx hb zd_M_setIn_10 rfl (lv_at hl 1 rfl) ?_
    refine lv_imul hx hb zd_M_setIn_11 ?_
    refine lv_bipush (v := 10) hx hb zd_M_setIn_12 (by decide) ?_
    refine lv_iadd hx hb zd_M_setIn_14 ?_
    refine lv_icmp_ge (tgt := 45) hx hb zd_M_setIn_15 (by decide) (fun _ => ?_) (fun c_ => absurd (zy_10T hv (by omega)) c_)
    refine lv_iload_n hx hb zd_M_setIn_45 rfl (lv_at hl 2 rfl) ?_
    rw [(show zf_M_setIn_L7 w4 p1 0 k x2 = x2 from by first | rfl | (rw [zf_M_setIn_L7]))]
    exact zz_kiret hx hb hr hlocks zd_M_setIn_46 rfl
  | succ mm ih =>
    intro k hk x2 ls hl
    refine lv_iload_n hx hb zd_M_setIn_7 rfl (lv_at hl 3 rfl) ?_
    refine lv_bipush (v := 10) hx hb zd_M_setIn_8 (by decide) ?_
    refine lv_iload_n hx hb zd_M_setIn_10 rfl (lv_at hl 1 rfl) ?_
    refine lv_imul hx hb zd_M_setIn_11 ?_
    refine lv_bipush (v := 10) hx hb zd_M_setIn_12 (by decide) ?_
    refine lv_iadd hx hb zd_M_setIn_14 ?_
    refine lv_icmp_ge (tgt := 45) hx hb zd_M_setIn_15 (by decide) (fun c_ => absurd c_ (zy_10F hv (by omega))) (fun _ => ?_)
    refine lv_iload_n hx hb zd_M_setIn_18 rfl (lv_at hl 2 rfl) ?_
    refine lv_aload_n hx hb zd_M_setIn_19 rfl (lv_at hl 0 rfl) ?_
    refine va_get (D := (dC, dI)) (ci := 5) (v := .ref a2) (C := zr_M) (T := zF_M) (N := 22) hx hb htB zi_M hown hK hP 0 rfl rfl 4 (by decide) (htB _ zk_8e1cf9a2) (fun _ h9 => h9) rfl zd_M_setIn_20 ?_
    refine lv_iload_n hx hb zd_M_setIn_23 rfl (lv_at hl 3 rfl) ?_
    refine va_lald hx hb hK hP 2 2 rfl rfl (zy_lk hv (by omega)) zd_M_setIn_24 ?_
    refine lv_ldc2 (v := (-1)) hx hb hown (htB _ zk_1ad41f20) zd_M_setIn_25 ?_
    refine W.lcmp hx hb zd_M_setIn_28 ?_
    refine lv_if_ne (tgt := 36) hx hb zd_M_setIn_29 (by decide) (fun c_29 => ?_) (fun c_29 => ?_)
    · refine lv_iconst (v := 1) hx hb zd_M_setIn_36 (by decide) ?_
      refine lv_iadd hx hb zd_M_setIn_37 ?_
      refine lv_istore_n (lv' := [(2, .int (x2 + 1)), (0, .ref a0), (1, .int p1), (3, .int ((10 * p1) + (nI k)))]) hx hb zd_M_setIn_38 rfl hl (by decide) rfl (fun ls hl => ?_)
      refine lv_iinc (v := (10 * p1) + (nI (k + 1))) (lv' := [(3, .int ((10 * p1) + (nI (k + 1)))), (2, .int (x2 + 1)), (0, .ref a0), (1, .int p1)]) hx hb zd_M_setIn_39 hl (k := 3) rfl (zz_incb _ k) (by decide) rfl (fun ls hl => ?_)
      refine lv_goto (tgt := 7) hx hb zd_M_setIn_42 (by decide) ?_
      rw [(show zf_M_setIn_L7 w4 p1 (mm + 1) k x2 = zf_M_setIn_L7 w4 p1 mm (k + 1) (x2 + 1) from by rw [zf_M_setIn_L7, if_neg c_29])]
      exact ih (k + 1) (by omega) (x2 + 1)   _ (lv_sub hl [2, 3, 1, 0] rfl)
    · refine lv_iconst (v := 0) hx hb zd_M_setIn_32 (by decide) ?_
      refine lv_goto (tgt := 37) hx hb zd_M_setIn_33 (by decide) ?_
      refine lv_iadd hx hb zd_M_setIn_37 ?_
      refine lv_istore_n (lv' := [(2, .int (x2 + 0)), (0, .ref a0), (1, .int p1), (3, .int ((10 * p1) + (nI k)))]) hx hb zd_M_setIn_38 rfl hl (by decide) rfl (fun ls hl => ?_)
      refine lv_iinc (v := (10 * p1) + (nI (k + 1))) (lv' := [(3, .int ((10 * p1) + (nI (k + 1)))), (2, .int (x2 + 0)), (0, .ref a0), (1, .int p1)]) hx hb zd_M_setIn_39 hl (k := 3) rfl (zz_incb _ k) (by decide) rfl (fun ls hl => ?_)
      refine lv_goto (tgt := 7) hx hb zd_M_setIn_42 (by decide) ?_
      rw [(show zf_M_setIn_L7 w4 p1 (mm + 1) k x2 = zf_M_setIn_L7 w4 p1 mm (k + 1) (x2 + 0) from by rw [zf_M_setIn_L7, if_pos c_29])]
      exact ih (k + 1) (by omega) (x2 + 0)   _ (lv_sub hl [2, 3, 1, 0] rfl)
set_option maxHeartbeats 4000000 in
set_option maxRecDepth 100000 in
theorem zc_M_setIn (l : Launch) (dC : Nat → ClassId) (dI : Nat → Nat → Nat) (cI cZ cL : ClassId) (a0 a1 a2 a3 a4 a5 a6 a7 : Nat) (sz : Nat) (w0 : Int32) (w1 : Int32) (w2 : Nat) (w3 : Nat → Int32) (w4 : Nat → Int64) (w5 : Int32) (w6 : Int32) (w7 : Nat) (w8 : Nat → Int64) (w9 : Nat → Int32) (w10 : Nat) (w11 : Nat → Int32) (w12 : Nat → Int32) (w13 : Nat → Int32) (w14 : Int32) (w15 : Int32) (w16 : Int32) (w17 : Int32) (w18 : Int32) (w19 : Int64) (w20 : Int32) (w21 : Int32) (p1 : Int32) (hv : vp_in p1 31) : Met l zy_M_setIn (zz_ws zy_M_setIn zb_M_setIn 4 (some .int)) ({ frames := 0, cells := 0, slots := 0, locals := 0 } : Room) (va_Pc ([.ref a0, .int p1] : List Value) (zz_P (dC, dI) (zz_ty cI cZ cL) sz (zv_M cI cZ cL a0 a1 a2 a3 a4 a5 a6 a7 w0 w1 w2 w3 w4 w5 w6 w7 w8 w9 w10 w11 w12 w13 w14 w15 w16 w17 w18 w19 w20 w21))) (zz_Ki (zf_M_setIn w4 p1)) 0 0 (fun _ => False) := by
  refine zz_ofK (by decide) (Nat.le_of_ble_eq_true rfl) ?_
  intro p e s m below meth c C0 hK hP hD ls hl
  obtain ⟨hx, hb, hr, hml, hown, htB, hlocks, hE⟩ := id C0
  have hl : lv_has ls 4 [(0, .ref a0), (1, .int p1)] := hl
  refine lv_iconst (v := 0) hx hb zd_M_setIn_0 (by decide) ?_
  refine lv_istore_n (lv' := [(2, .int 0), (0, .ref a0), (1, .int p1)]) hx hb zd_M_setIn_1 rfl hl (by decide) rfl (fun ls hl => ?_)
  refine lv_bipush (v := 10) hx hb zd_M_setIn_2 (by decide) ?_
  refine lv_iload_n hx hb zd_M_setIn_4 rfl (lv_at hl 2 rfl) ?_
  refine lv_imul hx hb zd_M_setIn_5 ?_
  refine lv_istore_n (lv' := [(3, .int (10 * p1)), (2, .int 0), (0, .ref a0), (1, .int p1)]) hx hb zd_M_setIn_6 rfl hl (by decide) rfl (fun ls hl => ?_)
  rw [(show zf_M_setIn w4 p1 = zf_M_setIn_L7 w4 p1 10 0 0 from by first | rfl | (rw [zf_M_setIn]))]
  exact zp_M_setIn_7 dC dI cI cZ cL a0 a1 a2 a3 a4 a5 a6 a7 w0 w1 w2 w3 w4 w5 w6 w7 w8 w9 w10 w11 w12 w13 w14 w15 w16 w17 w18 w19 w20 w21 p1 hv C0 hK hP hD 10 0 (by omega) 0   _ (by rw [zz_add0]; exact lv_sub hl [2, 3, 1, 0] rfl)
set_option maxHeartbeats 4000000 in
set_option maxRecDepth 100000 in
theorem zp_M_remove_68 {p : Program} {l : Launch} {e : Env} {s : State} {m : MethodId} {below : List Frame} {meth : Method} {c : Code} {A : Nat → Prop} (dC : Nat → ClassId) (dI : Nat → Nat → Nat) (cI cZ cL : ClassId) (a0 a1 a2 a3 a4 a5 a6 a7 : Nat) (w0 : Int32) (w1 : Int32) (w2 : Nat) (w3 : Nat → Int32) (w4 : Nat → Int64) (w5 : Int32) (w6 : Int32) (w7 : Nat) (w8 : Nat → Int64) (w9 : Nat → Int32) (w10 : Nat) (w11 : Nat → Int32) (w14 : Int32) (w15 : Int32) (w16 : Int32) (w17 : Int32) (w18 : Int32) (w19 : Int64) (w20 : Int32) (w21 : Int32) (p1 : Int32) (x2 : Int32) (hm : w2 ≤ 30) (hp : w10 ≤ 20) (hv : vp_in p1 31) (C0 : zz_C p s m ([.ref a0, .int p1] : List Value).toArray meth c zb_M_remove 4 (some .int) zy_M_remove.cls) (hA : ∀ q : Nat, s.heap.size ≤ q → A q) (hK : va_K (dC, dI) zz_cl (zz_ty cI cZ cL) s) :
    ∀ (mm k : Nat), k + mm = w10 → ∀ (w12 : Nat → Int32) (w13 : Nat → Int32), ∀ (H : Heap) (locs : List Loc), va_P (dC, dI) zz_cl (zv_M cI cZ cL a0 a1 a2 a3 a4 a5 a6 a7 w0 w1 w2 w3 w4 w5 w6 w7 w8 w9 w10 w11 w12 w13 w14 w15 w16 w17 w18 w19 w20 w21) H → va_D A (zv_M cI cZ cL a0 a1 a2 a3 a4 a5 a6 a7 w0 w1 w2 w3 w4 w5 w6 w7 w8 w9 w10 w11 w12 w13 w14 w15 w16 w17 w18 w19 w20 w21) → va_S A s.heap H locs → ∀ ls : Array Slot, lv_has ls 4 [(0, .ref a0), (1, .int p1), (2, .int x2), (3, .int (nI k))] →
    W p l e ({ frames := 1, cells := 0, slots := 0, locals := 23 } : Room) s m ([.ref a0, .int p1] : List Value).toArray below meth c H locs 0 0 (MQ below (zz_Qi (dC, dI) (zz_ty cI cZ cL) A ((zf_M_remove_L68 w0 w2 w3 w4 w5 w10 p1 x2 mm k w12 w13).1) (zv_M cI cZ cL a0 a1 a2 a3 a4 a5 a6 a7 ((zf_M_remove_L68 w0 w2 w3 w4 w5 w10 p1 x2 mm k w12 w13).2.1) w1 w2 ((zf_M_remove_L68 w0 w2 w3 w4 w5 w10 p1 x2 mm k w12 w13).2.2.1) ((zf_M_remove_L68 w0 w2 w3 w4 w5 w10 p1 x2 mm k w12 w13).2.2.2.1) w5 w6 w7 w8 w9 w10 w11 ((zf_M_remove_L68 w0 w2 w3 w4 w5 w10 p1 x2 mm k w12 w13).2.2.2.2.1) ((zf_M_remove_L68 w0 w2 w3 w4 w5 w10 p1 x2 mm k w12 w13).2.2.2.2.2) w14 w15 w16 w17 w18 w19 w20 w21)) ([.ref a0, .int p1] : List Value).toArray s 0 0 A) (F0 m 68 ls []) := by
  obtain ⟨hx, hb, hr, hml, hown, htB, hlocks, hE⟩ := id C0
  intro mm
  induction mm with
  | zero =>
    intro k hk w12 w13 H locs hP hD hS ls hl
    refine lv_iload_n hx hb zd_M_remove_68 rfl (lv_at hl 3 rfl) ?_
    refine lv_aload_n hx hb zd_M_remove_69 rfl (lv_at hl 0 rfl) ?_
    refine va_get (D := (dC, dI)) (ci := 5) (v := .int (nI w10)) (C := zr_M) (T := zF_M) (N := 22) hx hb htB zi_M hown hK hP 0 rfl rfl 10 (by decide) (htB _ zk_b8d6ae4f) (fun _ h9 => h9) rfl zd_M_remove_70 ?_
    refine lv_icmp_ge (tgt := 114) hx hb zd_M_remove_73 (by decide) (fun _ => ?_) (fun c_ => absurd (zz_geT (b := w10) rfl (by omega) (by omega)) c_)
    refine lv_iload_n hx hb zd_M_remove_114 rfl (lv_at hl 2 rfl) ?_
    rw [(show zf_M_remove_L68 w0 w2 w3 w4 w5 w10 p1 x2 0 k w12 w13 = (x2, w0, w3, w4, w12, w13) from by first | rfl | (rw [zf_M_remove_L68]))]
    exact zz_iret hx hb hr hlocks hK hP hD hS zd_M_remove_115 rfl
  | succ mm ih =>
    intro k hk w12 w13 H locs hP hD hS ls hl
    refine lv_iload_n hx hb zd_M_remove_68 rfl (lv_at hl 3 rfl) ?_
    refine lv_aload_n hx hb zd_M_remove_69 rfl (lv_at hl 0 rfl) ?_
    refine va_get (D := (dC, dI)) (ci := 5) (v := .int (nI w10)) (C := zr_M) (T := zF_M) (N := 22) hx hb htB zi_M hown hK hP 0 rfl rfl 10 (by decide) (htB _ zk_b8d6ae4f) (fun _ h9 => h9) rfl zd_M_remove_70 ?_
    refine lv_icmp_ge (tgt := 114) hx hb zd_M_remove_73 (by decide) (fun c_ => absurd c_ (zz_geF (b := w10) rfl (by omega) (by omega))) (fun _ => ?_)
    refine lv_aload_n hx hb zd_M_remove_76 rfl (lv_at hl 0 rfl) ?_
    refine va_get (D := (dC, dI)) (ci := 5) (v := .ref a6) (C := zr_M) (T := zF_M) (N := 22) hx hb htB zi_M hown hK hP 0 rfl rfl 12 (by decide) (htB _ zk_efdf3cf0) (fun _ h9 => h9) rfl zd_M_remove_77 ?_
    refine lv_iload_n hx hb zd_M_remove_80 rfl (lv_at hl 3 rfl) ?_
    refine lv_dup2_11 hx hb zd_M_remove_81 rfl rfl ?_
    refine zz_iald hx hb hK hP 6 0 rfl rfl (by omega) (by decide) zd_M_remove_82 ?_
    refine lv_aload_n hx hb zd_M_remove_83 rfl (lv_at hl 0 rfl) ?_
    refine va_get (D := (dC, dI)) (ci := 5) (v := .ref a7) (C := zr_M) (T := zF_M) (N := 22) hx hb htB zi_M hown hK hP 0 rfl rfl 13 (by decide) (htB _ zk_590f42cd) (fun _ h9 => h9) rfl zd_M_remove_84 ?_
    refine lv_bipush (v := 20) hx hb zd_M_remove_87 (by decide) ?_
    refine lv_iload_n hx hb zd_M_remove_89 rfl (lv_at hl 1 rfl) ?_
    refine lv_imul hx hb zd_M_remove_90 ?_
    refine lv_iload_n hx hb zd_M_remove_91 rfl (lv_at hl 3 rfl) ?_
    refine lv_iadd hx hb zd_M_remove_92 ?_
    refine va_iald hx hb hK hP 7 0 rfl rfl (zy_20 hv (by omega)) zd_M_remove_93 ?_
    refine lv_iadd hx hb zd_M_remove_94 ?_
    refine zz_iast hx hb hK hP hD hS 6 0 rfl rfl (by omega) (by decide) zd_M_remove_95 (fun H locs hP hD hS => ?_)
    have hP : va_P (dC, dI) zz_cl (zv_M cI cZ cL a0 a1 a2 a3 a4 a5 a6 a7 w0 w1 w2 w3 w4 w5 w6 w7 w8 w9 w10 w11 (upd w12 k ((w12 k) + (w13 ((20 * p1) + (nI k)).toNatClampNeg))) w13 w14 w15 w16 w17 w18 w19 w20 w21) H := hP
    have hD : va_D A (zv_M cI cZ cL a0 a1 a2 a3 a4 a5 a6 a7 w0 w1 w2 w3 w4 w5 w6 w7 w8 w9 w10 w11 (upd w12 k ((w12 k) + (w13 ((20 * p1) + (nI k)).toNatClampNeg))) w13 w14 w15 w16 w17 w18 w19 w20 w21) := hD
    refine lv_aload_n hx hb zd_M_remove_96 rfl (lv_at hl 0 rfl) ?_
    refine va_get (D := (dC, dI)) (ci := 5) (v := .ref a7) (C := zr_M) (T := zF_M) (N := 22) hx hb htB zi_M hown hK hP 0 rfl rfl 13 (by decide) (htB _ zk_590f42cd) (fun _ h9 => h9) rfl zd_M_remove_97 ?_
    refine lv_bipush (v := 20) hx hb zd_M_remove_100 (by decide) ?_
    refine lv_iload_n hx hb zd_M_remove_102 rfl (lv_at hl 1 rfl) ?_
    refine lv_imul hx hb zd_M_remove_103 ?_
    refine lv_iload_n hx hb zd_M_remove_104 rfl (lv_at hl 3 rfl) ?_
    refine lv_iadd hx hb zd_M_remove_105 ?_
    refine lv_iconst (v := 0) hx hb zd_M_remove_106 (by decide) ?_
    refine va_iast hx hb hK hP hD hS 7 0 rfl rfl (zy_20 hv (by omega)) zd_M_remove_107 (fun H locs hP hD hS => ?_)
    have hP : va_P (dC, dI) zz_cl (zv_M cI cZ cL a0 a1 a2 a3 a4 a5 a6 a7 w0 w1 w2 w3 w4 w5 w6 w7 w8 w9 w10 w11 (upd w12 k ((w12 k) + (w13 ((20 * p1) + (nI k)).toNatClampNeg))) (upd w13 ((20 * p1) + (nI k)).toNatClampNeg 0) w14 w15 w16 w17 w18 w19 w20 w21) H := hP
    have hD : va_D A (zv_M cI cZ cL a0 a1 a2 a3 a4 a5 a6 a7 w0 w1 w2 w3 w4 w5 w6 w7 w8 w9 w10 w11 (upd w12 k ((w12 k) + (w13 ((20 * p1) + (nI k)).toNatClampNeg))) (upd w13 ((20 * p1) + (nI k)).toNatClampNeg 0) w14 w15 w16 w17 w18 w19 w20 w21) := hD
    refine lv_iinc (v := nI (k + 1)) (lv' := [(3, .int (nI (k + 1))), (0, .ref a0), (1, .int p1), (2, .int x2)]) hx hb zd_M_remove_108 hl (k := 3) rfl (nI_1 k) (by decide) rfl (fun ls hl => ?_)
    refine lv_goto (tgt := 68) hx hb zd_M_remove_111 (by decide) ?_
    rw [(show zf_M_remove_L68 w0 w2 w3 w4 w5 w10 p1 x2 (mm + 1) k w12 w13 = zf_M_remove_L68 w0 w2 w3 w4 w5 w10 p1 x2 mm (k + 1) (upd w12 k ((w12 k) + (w13 ((20 * p1) + (nI k)).toNatClampNeg))) (upd w13 ((20 * p1) + (nI k)).toNatClampNeg 0) from by first | rfl | (rw [zf_M_remove_L68]))]
    exact ih (k + 1) (by omega) (upd w12 k ((w12 k) + (w13 ((20 * p1) + (nI k)).toNatClampNeg))) (upd w13 ((20 * p1) + (nI k)).toNatClampNeg 0)   _ _ hP hD hS _ (lv_sub hl [1, 2, 3, 0] rfl)
set_option maxHeartbeats 4000000 in
set_option maxRecDepth 100000 in
theorem zp_M_remove_40 {p : Program} {l : Launch} {e : Env} {s : State} {m : MethodId} {below : List Frame} {meth : Method} {c : Code} {A : Nat → Prop} (dC : Nat → ClassId) (dI : Nat → Nat → Nat) (cI cZ cL : ClassId) (a0 a1 a2 a3 a4 a5 a6 a7 : Nat) (w0 : Int32) (w1 : Int32) (w2 : Nat) (w3 : Nat → Int32) (w5 : Int32) (w6 : Int32) (w7 : Nat) (w8 : Nat → Int64) (w9 : Nat → Int32) (w10 : Nat) (w11 : Nat → Int32) (w12 : Nat → Int32) (w13 : Nat → Int32) (w14 : Int32) (w15 : Int32) (w16 : Int32) (w17 : Int32) (w18 : Int32) (w19 : Int64) (w20 : Int32) (w21 : Int32) (p1 : Int32) (x2 : Int32) (hm : w2 ≤ 30) (hp : w10 ≤ 20) (hv : vp_in p1 31) (C0 : zz_C p s m ([.ref a0, .int p1] : List Value).toArray meth c zb_M_remove 4 (some .int) zy_M_remove.cls) (hA : ∀ q : Nat, s.heap.size ≤ q → A q) (hK : va_K (dC, dI) zz_cl (zz_ty cI cZ cL) s) :
    ∀ (mm k : Nat), k + mm = 10 → ∀ (w4 : Nat → Int64), ∀ (H : Heap) (locs : List Loc), va_P (dC, dI) zz_cl (zv_M cI cZ cL a0 a1 a2 a3 a4 a5 a6 a7 w0 w1 w2 w3 w4 w5 w6 w7 w8 w9 w10 w11 w12 w13 w14 w15 w16 w17 w18 w19 w20 w21) H → va_D A (zv_M cI cZ cL a0 a1 a2 a3 a4 a5 a6 a7 w0 w1 w2 w3 w4 w5 w6 w7 w8 w9 w10 w11 w12 w13 w14 w15 w16 w17 w18 w19 w20 w21) → va_S A s.heap H locs → ∀ ls : Array Slot, lv_has ls 4 [(0, .ref a0), (1, .int p1), (2, .int x2), (3, .int ((10 * p1) + (nI k)))] →
    W p l e ({ frames := 1, cells := 0, slots := 0, locals := 23 } : Room) s m ([.ref a0, .int p1] : List Value).toArray below meth c H locs 0 0 (MQ below (zz_Qi (dC, dI) (zz_ty cI cZ cL) A ((zf_M_remove_L40 w0 w2 w3 w5 w10 w12 w13 p1 x2 mm k w4).1) (zv_M cI cZ cL a0 a1 a2 a3 a4 a5 a6 a7 ((zf_M_remove_L40 w0 w2 w3 w5 w10 w12 w13 p1 x2 mm k w4).2.1) w1 w2 ((zf_M_remove_L40 w0 w2 w3 w5 w10 w12 w13 p1 x2 mm k w4).2.2.1) ((zf_M_remove_L40 w0 w2 w3 w5 w10 w12 w13 p1 x2 mm k w4).2.2.2.1) w5 w6 w7 w8 w9 w10 w11 ((zf_M_remove_L40 w0 w2 w3 w5 w10 w12 w13 p1 x2 mm k w4).2.2.2.2.1) ((zf_M_remove_L40 w0 w2 w3 w5 w10 w12 w13 p1 x2 mm k w4).2.2.2.2.2) w14 w15 w16 w17 w18 w19 w20 w21)) ([.ref a0, .int p1] : List Value).toArray s 0 0 A) (F0 m 40 ls []) := by
  obtain ⟨hx, hb, hr, hml, hown, htB, hlocks, hE⟩ := id C0
  intro mm
  induction mm with
  | zero =>
    intro k hk w4 H locs hP hD hS ls hl
    refine lv_iload_n hx hb zd_M_remove_40 rfl (lv_at hl 3 rfl) ?_
    refine lv_bipush (v := 10) hx hb zd_M_remove_41 (by decide) ?_
    refine lv_iload_n hx hb zd_M_remove_43 rfl (lv_at hl 1 rfl) ?_
    refine lv_imul hx hb zd_M_remove_44 ?_
    refine lv_bipush (v := 10) hx hb zd_M_remove_45 (by decide) ?_
    refine lv_iadd hx hb zd_M_remove_47 ?_
    refine lv_icmp_ge (tgt := 66) hx hb zd_M_remove_48 (by decide) (fun _ => ?_) (fun c_ => absurd (zy_10T hv (by omega)) c_)
    refine lv_iconst (v := 0) hx hb zd_M_remove_66 (by decide) ?_
    refine lv_istore_n (lv' := [(3, .int 0), (0, .ref a0), (1, .int p1), (2, .int x2)]) hx hb zd_M_remove_67 rfl hl (by decide) rfl (fun ls hl => ?_)
    rw [(show zf_M_remove_L40 w0 w2 w3 w5 w10 w12 w13 p1 x2 0 k w4 = zf_M_remove_L68 w0 w2 w3 w4 w5 w10 p1 x2 w10 0 w12 w13 from by first | rfl | (rw [zf_M_remove_L40]))]
    exact zp_M_remove_68 dC dI cI cZ cL a0 a1 a2 a3 a4 a5 a6 a7 w0 w1 w2 w3 w4 w5 w6 w7 w8 w9 w10 w11 w14 w15 w16 w17 w18 w19 w20 w21 p1 x2 hm hp hv C0 hA hK w10 0 (by omega) w12 w13   _ _ hP hD hS _ (lv_sub hl [1, 2, 3, 0] rfl)
  | succ mm ih =>
    intro k hk w4 H locs hP hD hS ls hl
    refine lv_iload_n hx hb zd_M_remove_40 rfl (lv_at hl 3 rfl) ?_
    refine lv_bipush (v := 10) hx hb zd_M_remove_41 (by decide) ?_
    refine lv_iload_n hx hb zd_M_remove_43 rfl (lv_at hl 1 rfl) ?_
    refine lv_imul hx hb zd_M_remove_44 ?_
    refine lv_bipush (v := 10) hx hb zd_M_remove_45 (by decide) ?_
    refine lv_iadd hx hb zd_M_remove_47 ?_
    refine lv_icmp_ge (tgt := 66) hx hb zd_M_remove_48 (by decide) (fun c_ => absurd c_ (zy_10F hv (by omega))) (fun _ => ?_)
    refine lv_aload_n hx hb zd_M_remove_51 rfl (lv_at hl 0 rfl) ?_
    refine va_get (D := (dC, dI)) (ci := 5) (v := .ref a2) (C := zr_M) (T := zF_M) (N := 22) hx hb htB zi_M hown hK hP 0 rfl rfl 4 (by decide) (htB _ zk_8e1cf9a2) (fun _ h9 => h9) rfl zd_M_remove_52 ?_
    refine lv_iload_n hx hb zd_M_remove_55 rfl (lv_at hl 3 rfl) ?_
    refine lv_ldc2 (v := (-1)) hx hb hown (htB _ zk_1ad41f20) zd_M_remove_56 ?_
    refine va_last hx hb hK hP hD hS 2 2 rfl rfl (zy_lk hv (by omega)) zd_M_remove_59 (fun H locs hP hD hS => ?_)
    have hP : va_P (dC, dI) zz_cl (zv_M cI cZ cL a0 a1 a2 a3 a4 a5 a6 a7 w0 w1 w2 w3 (vp_updL w4 ((10 * p1) + (nI k)).toNatClampNeg (-1)) w5 w6 w7 w8 w9 w10 w11 w12 w13 w14 w15 w16 w17 w18 w19 w20 w21) H := hP
    have hD : va_D A (zv_M cI cZ cL a0 a1 a2 a3 a4 a5 a6 a7 w0 w1 w2 w3 (vp_updL w4 ((10 * p1) + (nI k)).toNatClampNeg (-1)) w5 w6 w7 w8 w9 w10 w11 w12 w13 w14 w15 w16 w17 w18 w19 w20 w21) := hD
    refine lv_iinc (v := (10 * p1) + (nI (k + 1))) (lv' := [(3, .int ((10 * p1) + (nI (k + 1)))), (0, .ref a0), (1, .int p1), (2, .int x2)]) hx hb zd_M_remove_60 hl (k := 3) rfl (zz_incb _ k) (by decide) rfl (fun ls hl => ?_)
    refine lv_goto (tgt := 40) hx hb zd_M_remove_63 (by decide) ?_
    rw [(show zf_M_remove_L40 w0 w2 w3 w5 w10 w12 w13 p1 x2 (mm + 1) k w4 = zf_M_remove_L40 w0 w2 w3 w5 w10 w12 w13 p1 x2 mm (k + 1) (vp_updL w4 ((10 * p1) + (nI k)).toNatClampNeg (-1)) from by first | rfl | (rw [zf_M_remove_L40]))]
    exact ih (k + 1) (by omega) (vp_updL w4 ((10 * p1) + (nI k)).toNatClampNeg (-1))   _ _ hP hD hS _ (lv_sub hl [1, 2, 3, 0] rfl)
set_option maxHeartbeats 4000000 in
set_option maxRecDepth 100000 in
theorem zc_M_remove (l : Launch) (dC : Nat → ClassId) (dI : Nat → Nat → Nat) (cI cZ cL : ClassId) (a0 a1 a2 a3 a4 a5 a6 a7 : Nat) (sz : Nat) (w0 : Int32) (w1 : Int32) (w2 : Nat) (w3 : Nat → Int32) (w4 : Nat → Int64) (w5 : Int32) (w6 : Int32) (w7 : Nat) (w8 : Nat → Int64) (w9 : Nat → Int32) (w10 : Nat) (w11 : Nat → Int32) (w12 : Nat → Int32) (w13 : Nat → Int32) (w14 : Int32) (w15 : Int32) (w16 : Int32) (w17 : Int32) (w18 : Int32) (w19 : Int64) (w20 : Int32) (w21 : Int32) (p1 : Int32) (hm : w2 ≤ 30) (hp : w10 ≤ 20) : Met l zy_M_remove (zz_ws zy_M_remove zb_M_remove 4 (some .int)) ({ frames := 1, cells := 0, slots := 0, locals := 23 } : Room) (va_Pc ([.ref a0, .int p1] : List Value) (zz_P (dC, dI) (zz_ty cI cZ cL) sz (zv_M cI cZ cL a0 a1 a2 a3 a4 a5 a6 a7 w0 w1 w2 w3 w4 w5 w6 w7 w8 w9 w10 w11 w12 w13 w14 w15 w16 w17 w18 w19 w20 w21))) (zz_Qi (dC, dI) (zz_ty cI cZ cL) (va_A (zv_M cI cZ cL a0 a1 a2 a3 a4 a5 a6 a7 w0 w1 w2 w3 w4 w5 w6 w7 w8 w9 w10 w11 w12 w13 w14 w15 w16 w17 w18 w19 w20 w21) sz) ((zf_M_remove w0 w2 w3 w4 w5 w10 w12 w13 p1).1) (zv_M cI cZ cL a0 a1 a2 a3 a4 a5 a6 a7 ((zf_M_remove w0 w2 w3 w4 w5 w10 w12 w13 p1).2.1) w1 w2 ((zf_M_remove w0 w2 w3 w4 w5 w10 w12 w13 p1).2.2.1) ((zf_M_remove w0 w2 w3 w4 w5 w10 w12 w13 p1).2.2.2.1) w5 w6 w7 w8 w9 w10 w11 ((zf_M_remove w0 w2 w3 w4 w5 w10 w12 w13 p1).2.2.2.2.1) ((zf_M_remove w0 w2 w3 w4 w5 w10 w12 w13 p1).2.2.2.2.2) w14 w15 w16 w17 w18 w19 w20 w21)) 0 0 (va_A (zv_M cI cZ cL a0 a1 a2 a3 a4 a5 a6 a7 w0 w1 w2 w3 w4 w5 w6 w7 w8 w9 w10 w11 w12 w13 w14 w15 w16 w17 w18 w19 w20 w21) sz) := by
  refine zz_ofW (Q := fun A => (zz_Qi (dC, dI) (zz_ty cI cZ cL) A ((zf_M_remove w0 w2 w3 w4 w5 w10 w12 w13 p1).1) (zv_M cI cZ cL a0 a1 a2 a3 a4 a5 a6 a7 ((zf_M_remove w0 w2 w3 w4 w5 w10 w12 w13 p1).2.1) w1 w2 ((zf_M_remove w0 w2 w3 w4 w5 w10 w12 w13 p1).2.2.1) ((zf_M_remove w0 w2 w3 w4 w5 w10 w12 w13 p1).2.2.2.1) w5 w6 w7 w8 w9 w10 w11 ((zf_M_remove w0 w2 w3 w4 w5 w10 w12 w13 p1).2.2.2.2.1) ((zf_M_remove w0 w2 w3 w4 w5 w10 w12 w13 p1).2.2.2.2.2) w14 w15 w16 w17 w18 w19 w20 w21))) (by decide) (Nat.le_of_ble_eq_true rfl) ?_
  intro p e s m below meth c A C0 _ hA hK hP hD _ ls hl
  obtain ⟨hx, hb, hr, hml, hown, htB, hlocks, hE⟩ := id C0
  have hS : va_S A s.heap s.heap [] := va_S.rf
  have hl : lv_has ls 4 [(0, .ref a0), (1, .int p1)] := hl
  refine lv_aload_n hx hb zd_M_remove_0 rfl (lv_at hl 0 rfl) ?_
  refine lv_iconst (v := 0) hx hb zd_M_remove_1 (by decide) ?_
  refine va_put (D := (dC, dI)) (ci := 5) (v := .int 0) (C := zr_M) (T := zF_M) (N := 22) hx hb htB zi_M zT_M zT_M_ok zn_M hown hK hP hD hS 0 rfl rfl 0 (by decide) (htB _ zk_d62d4141) (fun _ h9 => h9) rfl (zT_M_ok 0 (by decide)) rfl rfl (Nat.le_of_ble_eq_true rfl) zd_M_remove_2 (fun H locs hP hD hS => ?_)
  have hP : va_P (dC, dI) zz_cl (zv_M cI cZ cL a0 a1 a2 a3 a4 a5 a6 a7 0 w1 w2 w3 w4 w5 w6 w7 w8 w9 w10 w11 w12 w13 w14 w15 w16 w17 w18 w19 w20 w21) H := hP
  have hD : va_D A (zv_M cI cZ cL a0 a1 a2 a3 a4 a5 a6 a7 0 w1 w2 w3 w4 w5 w6 w7 w8 w9 w10 w11 w12 w13 w14 w15 w16 w17 w18 w19 w20 w21) := hD
  refine lv_aload_n hx hb zd_M_remove_5 rfl (lv_at hl 0 rfl) ?_
  refine lv_iload_n hx hb zd_M_remove_6 rfl (lv_at hl 1 rfl) ?_
  refine zz_ki (va_runV (As := [.int p1]) (rest := []) ⟨hx, hb, hml, hown, htB⟩ (zc_M_isLine l dC dI cI cZ cL a0 a1 a2 a3 a4 a5 a6 a7 H.size 0 w1 w2 w3 w4 w5 w6 w7 w8 w9 w10 w11 w12 w13 w14 w15 w16 w17 w18 w19 w20 w21 p1 hm) (cwV 1 htB (zz_gV zk_42c4ccab zk_0528e464 zk_1a6dee55 zk_91cc3b19 zk_8cffb020) rfl rfl rfl ⟨rfl, zh_M_isLine⟩ ⟨Nat.le_of_ble_eq_true rfl, Nat.le_of_ble_eq_true rfl⟩) (zz_preV (ci := 5) (q := (zr_M, zF_M, 22)) hP hD hK hE [0, 1, 2, 3, 4, 5, 6, 7] (by decide) rfl rfl rfl) rfl rfl hl.1 rfl (lv_room (Nat.le_of_ble_eq_true rfl)) zd_M_remove_7 ⟨Nat.le_of_ble_eq_true rfl, Nat.le_of_ble_eq_true rfl⟩) ?_
  refine lv_if_eq (tgt := 20) hx hb zd_M_remove_10 (by decide) (fun c_10 => ?_) (fun c_10 => ?_)
  · refine lv_iconst (v := (-1)) hx hb zd_M_remove_20 (by decide) ?_
    rw [(show zf_M_remove w0 w2 w3 w4 w5 w10 w12 w13 p1 = ((-1), 0, w3, w4, w12, w13) from by rw [zf_M_remove, if_pos c_10])]
    exact zz_iret hx hb hr hlocks hK hP hD hS zd_M_remove_21 rfl
  · refine lv_aload_n hx hb zd_M_remove_13 rfl (lv_at hl 0 rfl) ?_
    refine va_get (D := (dC, dI)) (ci := 5) (v := .int w5) (C := zr_M) (T := zF_M) (N := 22) hx hb htB zi_M hown hK hP 0 rfl rfl 5 (by decide) (htB _ zk_ceae0b21) (fun _ h9 => h9) rfl zd_M_remove_14 ?_
    refine lv_if_eq (tgt := 22) hx hb zd_M_remove_17 (by decide) (fun c_17 => ?_) (fun c_17 => ?_)
    · refine lv_aload_n hx hb zd_M_remove_22 rfl (lv_at hl 0 rfl) ?_
      refine lv_iload_n hx hb zd_M_remove_23 rfl (lv_at hl 1 rfl) ?_
      refine zz_ki (va_runV (As := [.int p1]) (rest := []) ⟨hx, hb, hml, hown, htB⟩ (zc_M_setIn l dC dI cI cZ cL a0 a1 a2 a3 a4 a5 a6 a7 H.size 0 w1 w2 w3 w4 w5 w6 w7 w8 w9 w10 w11 w12 w13 w14 w15 w16 w17 w18 w19 w20 w21 p1 (zy_isl hm c_10)) (cwV 1 htB (zz_gV zk_542d7788 zk_a39ede8e zk_4cca81b9 zk_91cc3b19 zk_4a85deba) rfl rfl rfl ⟨rfl, zh_M_setIn⟩ ⟨Nat.le_of_ble_eq_true rfl, Nat.le_of_ble_eq_true rfl⟩) (zz_preV (ci := 5) (q := (zr_M, zF_M, 22)) hP hD hK hE [0, 1, 2, 3, 4, 5, 6, 7] (by decide) rfl rfl rfl) rfl rfl hl.1 rfl (lv_room (Nat.le_of_ble_eq_true rfl)) zd_M_remove_24 ⟨Nat.le_of_ble_eq_true rfl, Nat.le_of_ble_eq_true rfl⟩) ?_
      refine lv_istore_n (lv' := [(2, .int (zf_M_setIn w4 p1)), (0, .ref a0), (1, .int p1)]) hx hb zd_M_remove_27 rfl hl (by decide) rfl (fun ls hl => ?_)
      refine lv_aload_n hx hb zd_M_remove_28 rfl (lv_at hl 1 rfl) ?_
      refine va_get (D := (dC, dI)) (ci := 5) (v := .ref a1) (C := zr_M) (T := zF_M) (N := 22) hx hb htB zi_M hown hK hP 0 rfl rfl 3 (by decide) (htB _ zk_a9873276) (fun _ h9 => h9) rfl zd_M_remove_29 ?_
      refine lv_iload_n hx hb zd_M_remove_32 rfl (lv_at hl 2 rfl) ?_
      refine lv_iconst (v := 1) hx hb zd_M_remove_33 (by decide) ?_
      refine va_zast hx hb hK hP hD hS 1 1 rfl rfl (zy_isl hm c_10) zd_M_remove_34 (fun H locs hP hD hS => ?_)
      have hP : va_P (dC, dI) zz_cl (zv_M cI cZ cL a0 a1 a2 a3 a4 a5 a6 a7 0 w1 w2 (upd w3 p1.toNatClampNeg 1) w4 w5 w6 w7 w8 w9 w10 w11 w12 w13 w14 w15 w16 w17 w18 w19 w20 w21) H := hP
      have hD : va_D A (zv_M cI cZ cL a0 a1 a2 a3 a4 a5 a6 a7 0 w1 w2 (upd w3 p1.toNatClampNeg 1) w4 w5 w6 w7 w8 w9 w10 w11 w12 w13 w14 w15 w16 w17 w18 w19 w20 w21) := hD
      refine lv_bipush (v := 10) hx hb zd_M_remove_35 (by decide) ?_
      refine lv_iload_n hx hb zd_M_remove_37 rfl (lv_at hl 2 rfl) ?_
      refine lv_imul hx hb zd_M_remove_38 ?_
      refine lv_istore_n (lv' := [(3, .int (10 * p1)), (2, .int (zf_M_setIn w4 p1)), (0, .ref a0), (1, .int p1)]) hx hb zd_M_remove_39 rfl hl (by decide) rfl (fun ls hl => ?_)
      rw [(show zf_M_remove w0 w2 w3 w4 w5 w10 w12 w13 p1 = zf_M_remove_L40 0 w2 (upd w3 p1.toNatClampNeg 1) w5 w10 w12 w13 p1 (zf_M_setIn w4 p1) 10 0 w4 from by rw [zf_M_remove, if_neg c_10, if_pos c_17])]
      exact zp_M_remove_40 dC dI cI cZ cL a0 a1 a2 a3 a4 a5 a6 a7 0 w1 w2 (upd w3 p1.toNatClampNeg 1) w5 w6 w7 w8 w9 w10 w11 w12 w13 w14 w15 w16 w17 w18 w19 w20 w21 p1 (zf_M_setIn w4 p1) hm hp (zy_isl hm c_10) C0 hA hK 10 0 (by omega) w4   _ _ hP hD hS _ (by rw [zz_add0]; exact lv_sub hl [2, 3, 1, 0] rfl)
    · refine lv_iconst (v := (-1)) hx hb zd_M_remove_20 (by decide) ?_
      rw [(show zf_M_remove w0 w2 w3 w4 w5 w10 w12 w13 p1 = ((-1), 0, w3, w4, w12, w13) from by rw [zf_M_remove, if_neg c_10, if_neg c_17])]
      exact zz_iret hx hb hr hlocks hK hP hD hS zd_M_remove_21 rfl
set_option maxHeartbeats 4000000 in
set_option maxRecDepth 100000 in
theorem zc_M_field (l : Launch) (dC : Nat → ClassId) (dI : Nat → Nat → Nat) (cI cZ cL : ClassId) (a0 a1 a2 a3 a4 a5 a6 a7 : Nat) (sz : Nat) (w0 : Int32) (w1 : Int32) (w2 : Nat) (w3 : Nat → Int32) (w4 : Nat → Int64) (w5 : Int32) (w6 : Int32) (w7 : Nat) (w8 : Nat → Int64) (w9 : Nat → Int32) (w10 : Nat) (w11 : Nat → Int32) (w12 : Nat → Int32) (w13 : Nat → Int32) (w14 : Int32) (w15 : Int32) (w16 : Int32) (w17 : Int32) (w18 : Int32) (w19 : Int64) (w20 : Int32) (w21 : Int32) (p1 : Int32) (p2 : Int32) (p3 : Int64) (hm : w2 ≤ 30) : Met l zy_M_field (zz_ws zy_M_field zb_M_field 5 (some .int)) ({ frames := 2, cells := 0, slots := 0, locals := 47 } : Room) (va_Pc ([.ref a0, .int p1, .int p2, .long p3] : List Value) (zz_P (dC, dI) (zz_ty cI cZ cL) sz (zv_M cI cZ cL a0 a1 a2 a3 a4 a5 a6 a7 w0 w1 w2 w3 w4 w5 w6 w7 w8 w9 w10 w11 w12 w13 w14 w15 w16 w17 w18 w19 w20 w21))) (zz_Qi (dC, dI) (zz_ty cI cZ cL) (va_A (zv_M cI cZ cL a0 a1 a2 a3 a4 a5 a6 a7 w0 w1 w2 w3 w4 w5 w6 w7 w8 w9 w10 w11 w12 w13 w14 w15 w16 w17 w18 w19 w20 w21) sz) ((zf_M_field w0 w1 w2 w3 w4 w5 p1 p2 p3).1) (zv_M cI cZ cL a0 a1 a2 a3 a4 a5 a6 a7 ((zf_M_field w0 w1 w2 w3 w4 w5 p1 p2 p3).2.1) w1 w2 w3 ((zf_M_field w0 w1 w2 w3 w4 w5 p1 p2 p3).2.2) w5 w6 w7 w8 w9 w10 w11 w12 w13 w14 w15 w16 w17 w18 w19 w20 w21)) 0 0 (va_A (zv_M cI cZ cL a0 a1 a2 a3 a4 a5 a6 a7 w0 w1 w2 w3 w4 w5 w6 w7 w8 w9 w10 w11 w12 w13 w14 w15 w16 w17 w18 w19 w20 w21) sz) := by
  refine zz_ofW (Q := fun A => (zz_Qi (dC, dI) (zz_ty cI cZ cL) A ((zf_M_field w0 w1 w2 w3 w4 w5 p1 p2 p3).1) (zv_M cI cZ cL a0 a1 a2 a3 a4 a5 a6 a7 ((zf_M_field w0 w1 w2 w3 w4 w5 p1 p2 p3).2.1) w1 w2 w3 ((zf_M_field w0 w1 w2 w3 w4 w5 p1 p2 p3).2.2) w5 w6 w7 w8 w9 w10 w11 w12 w13 w14 w15 w16 w17 w18 w19 w20 w21))) (by decide) (Nat.le_of_ble_eq_true rfl) ?_
  intro p e s m below meth c A C0 _ hA hK hP hD _ ls hl
  obtain ⟨hx, hb, hr, hml, hown, htB, hlocks, hE⟩ := id C0
  have hS : va_S A s.heap s.heap [] := va_S.rf
  have hl : lv_has ls 5 [(0, .ref a0), (1, .int p1), (2, .int p2), (3, .long p3)] := hl
  refine lv_aload_n hx hb zd_M_field_0 rfl (lv_at hl 0 rfl) ?_
  refine lv_iload_n hx hb zd_M_field_1 rfl (lv_at hl 1 rfl) ?_
  refine lv_iload_n hx hb zd_M_field_2 rfl (lv_at hl 2 rfl) ?_
  refine zz_ki (va_runV (As := [.int p1, .int p2]) (rest := []) ⟨hx, hb, hml, hown, htB⟩ (zc_M_isPlace l dC dI cI cZ cL a0 a1 a2 a3 a4 a5 a6 a7 s.heap.size w0 w1 w2 w3 w4 w5 w6 w7 w8 w9 w10 w11 w12 w13 w14 w15 w16 w17 w18 w19 w20 w21 p1 p2 hm) (cwV 2 htB (zz_gV zk_a0f7a764 zk_92fa40ee zk_546771c0 zk_91cc3b19 zk_1add32c5) rfl rfl rfl ⟨rfl, zh_M_isPlace⟩ ⟨Nat.le_of_ble_eq_true rfl, Nat.le_of_ble_eq_true rfl⟩) (zz_preV (ci := 5) (q := (zr_M, zF_M, 22)) hP hD hK hE [0, 1, 2, 3, 4, 5, 6, 7] (by decide) rfl rfl rfl) rfl rfl hl.1 rfl (lv_room (Nat.le_of_ble_eq_true rfl)) zd_M_field_3 ⟨Nat.le_of_ble_eq_true rfl, Nat.le_of_ble_eq_true rfl⟩) ?_
  refine lv_if_eq (tgt := 20) hx hb zd_M_field_6 (by decide) (fun c_6 => ?_) (fun c_6 => ?_)
  · refine lv_aload_n hx hb zd_M_field_20 rfl (lv_at hl 0 rfl) ?_
    refine lv_iconst (v := 1) hx hb zd_M_field_21 (by decide) ?_
    refine zz_ci (va_runV (As := [.int 1]) (rest := []) ⟨hx, hb, hml, hown, htB⟩ (zc_M_refuse l dC dI cI cZ cL a0 a1 a2 a3 a4 a5 a6 a7 s.heap.size w0 w1 w2 w3 w4 w5 w6 w7 w8 w9 w10 w11 w12 w13 w14 w15 w16 w17 w18 w19 w20 w21 1 ) (cwV 1 htB (zz_gV zk_05b1c230 zk_32615e0d zk_05b898fc zk_91cc3b19 zk_5f584b7b) rfl rfl rfl ⟨rfl, zh_M_refuse⟩ ⟨Nat.le_of_ble_eq_true rfl, Nat.le_of_ble_eq_true rfl⟩) (zz_preV (ci := 5) (q := (zr_M, zF_M, 22)) hP hD hK hE [0, 1, 2, 3, 4, 5, 6, 7] (by decide) rfl rfl rfl) rfl rfl hl.1 rfl (lv_room (Nat.le_of_ble_eq_true rfl)) zd_M_field_22 ⟨Nat.le_of_ble_eq_true rfl, Nat.le_of_ble_eq_true rfl⟩) hP hD hS hA [0, 1, 2, 3, 4, 5, 6, 7] [] [0, 1, 2, 3, 4, 5, 6, 7] rfl rfl (by decide) (by decide) (by decide) rfl (fun H locs hP hD hS => ?_)
    have hP : va_P (dC, dI) zz_cl (zv_M cI cZ cL a0 a1 a2 a3 a4 a5 a6 a7 ((zf_M_refuse w0 1).2) w1 w2 w3 w4 w5 w6 w7 w8 w9 w10 w11 w12 w13 w14 w15 w16 w17 w18 w19 w20 w21) H := hP
    have hD : va_D A (zv_M cI cZ cL a0 a1 a2 a3 a4 a5 a6 a7 ((zf_M_refuse w0 1).2) w1 w2 w3 w4 w5 w6 w7 w8 w9 w10 w11 w12 w13 w14 w15 w16 w17 w18 w19 w20 w21) := hD
    rw [(show zf_M_field w0 w1 w2 w3 w4 w5 p1 p2 p3 = ((zf_M_refuse w0 1).1, (zf_M_refuse w0 1).2, w4) from by rw [zf_M_field, if_pos c_6])]
    exact zz_iret hx hb hr hlocks hK hP hD hS zd_M_field_25 rfl
  · refine lv_lload_n hx hb zd_M_field_9 rfl (lv_at hl 3 rfl) ?_
    refine lv_lconst (v := 0) hx hb zd_M_field_10 (by decide) ?_
    refine lv_ldc2 (v := 1000000000) hx hb hown (htB _ zk_37a5971a) zd_M_field_11 ?_
    refine zz_ki (va_runS (As := [.long p3, .long 0, .long 1000000000]) (rest := []) ⟨hx, hb, hml, hown, htB⟩ (zc_M_in l dC dI cI cZ cL  s.heap.size  p3 0 1000000000 ) (va_cwS 3 htB (zz_gS zk_3b1d8f54 zk_5de93d87 zk_91cc3b19 zk_d5048d4e) rfl rfl rfl zh_M_in ⟨Nat.le_of_ble_eq_true rfl, Nat.le_of_ble_eq_true rfl⟩) (zz_preS hP hD hK hE [] (by decide) rfl) rfl rfl hl.1 rfl (lv_room (Nat.le_of_ble_eq_true rfl)) zd_M_field_14 ⟨Nat.le_of_ble_eq_true rfl, Nat.le_of_ble_eq_true rfl⟩) ?_
    refine lv_if_ne (tgt := 26) hx hb zd_M_field_17 (by decide) (fun c_17 => ?_) (fun c_17 => ?_)
    · refine lv_aload_n hx hb zd_M_field_26 rfl (lv_at hl 0 rfl) ?_
      refine lv_iconst (v := 0) hx hb zd_M_field_27 (by decide) ?_
      refine va_put (D := (dC, dI)) (ci := 5) (v := .int 0) (C := zr_M) (T := zF_M) (N := 22) hx hb htB zi_M zT_M zT_M_ok zn_M hown hK hP hD hS 0 rfl rfl 0 (by decide) (htB _ zk_d62d4141) (fun _ h9 => h9) rfl (zT_M_ok 0 (by decide)) rfl rfl (Nat.le_of_ble_eq_true rfl) zd_M_field_28 (fun H locs hP hD hS => ?_)
      have hP : va_P (dC, dI) zz_cl (zv_M cI cZ cL a0 a1 a2 a3 a4 a5 a6 a7 0 w1 w2 w3 w4 w5 w6 w7 w8 w9 w10 w11 w12 w13 w14 w15 w16 w17 w18 w19 w20 w21) H := hP
      have hD : va_D A (zv_M cI cZ cL a0 a1 a2 a3 a4 a5 a6 a7 0 w1 w2 w3 w4 w5 w6 w7 w8 w9 w10 w11 w12 w13 w14 w15 w16 w17 w18 w19 w20 w21) := hD
      refine lv_iload_n hx hb zd_M_field_31 rfl (lv_at hl 1 rfl) ?_
      refine lv_aload_n hx hb zd_M_field_32 rfl (lv_at hl 0 rfl) ?_
      refine va_get (D := (dC, dI)) (ci := 5) (v := .int w1) (C := zr_M) (T := zF_M) (N := 22) hx hb htB zi_M hown hK hP 0 rfl rfl 1 (by decide) (htB _ zk_cf183326) (fun _ h9 => h9) rfl zd_M_field_33 ?_
      refine zz_ki (va_runS (As := [.int p1, .int w1]) (rest := []) ⟨hx, hb, hml, hown, htB⟩ (zc_M_needOf l dC dI cI cZ cL  H.size  p1 w1 ) (va_cwS 2 htB (zz_gS zk_69d8a7dc zk_8aca10f0 zk_91cc3b19 zk_57c855ba) rfl rfl rfl zh_M_needOf ⟨Nat.le_of_ble_eq_true rfl, Nat.le_of_ble_eq_true rfl⟩) (zz_preS hP hD hK hE [] (by decide) rfl) rfl rfl hl.1 rfl (lv_room (Nat.le_of_ble_eq_true rfl)) zd_M_field_36 ⟨Nat.le_of_ble_eq_true rfl, Nat.le_of_ble_eq_true rfl⟩) ?_
      refine lv_iconst (v := 3) hx hb zd_M_field_39 (by decide) ?_
      refine lv_icmp_eq (tgt := 50) hx hb zd_M_field_40 (by decide) (fun c_40 => ?_) (fun c_40 => ?_)
      · refine lv_iconst (v := 0) hx hb zd_M_field_50 (by decide) ?_
        rw [(show zf_M_field w0 w1 w2 w3 w4 w5 p1 p2 p3 = (0, 0, w4) from by rw [zf_M_field, if_neg c_6, if_neg c_17, if_pos c_40])]
        exact zz_iret hx hb hr hlocks hK hP hD hS zd_M_field_51 rfl
      · refine lv_aload_n hx hb zd_M_field_43 rfl (lv_at hl 0 rfl) ?_
        refine va_get (D := (dC, dI)) (ci := 5) (v := .int w5) (C := zr_M) (T := zF_M) (N := 22) hx hb htB zi_M hown hK hP 0 rfl rfl 5 (by decide) (htB _ zk_ceae0b21) (fun _ h9 => h9) rfl zd_M_field_44 ?_
        refine lv_if_eq (tgt := 52) hx hb zd_M_field_47 (by decide) (fun c_47 => ?_) (fun c_47 => ?_)
        · refine lv_aload_n hx hb zd_M_field_52 rfl (lv_at hl 0 rfl) ?_
          refine va_get (D := (dC, dI)) (ci := 5) (v := .ref a2) (C := zr_M) (T := zF_M) (N := 22) hx hb htB zi_M hown hK hP 0 rfl rfl 4 (by decide) (htB _ zk_8e1cf9a2) (fun _ h9 => h9) rfl zd_M_field_53 ?_
          refine lv_iload_n hx hb zd_M_field_56 rfl (lv_at hl 1 rfl) ?_
          refine lv_iload_n hx hb zd_M_field_57 rfl (lv_at hl 2 rfl) ?_
          refine zz_ki (va_runS (As := [.int p1, .int p2]) (rest := [.ref a2]) ⟨hx, hb, hml, hown, htB⟩ (zc_M_at l dC dI cI cZ cL  H.size  p1 p2 ) (va_cwS 2 htB (zz_gS zk_15927651 zk_e84089c4 zk_91cc3b19 zk_3702f9eb) rfl rfl rfl zh_M_at ⟨Nat.le_of_ble_eq_true rfl, Nat.le_of_ble_eq_true rfl⟩) (zz_preS hP hD hK hE [] (by decide) rfl) rfl rfl hl.1 rfl (lv_room (Nat.le_of_ble_eq_true rfl)) zd_M_field_58 ⟨Nat.le_of_ble_eq_true rfl, Nat.le_of_ble_eq_true rfl⟩) ?_
          refine lv_lload_n hx hb zd_M_field_61 rfl (lv_at hl 3 rfl) ?_
          refine va_last hx hb hK hP hD hS 2 2 rfl rfl (zy_place hm c_6) zd_M_field_62 (fun H locs hP hD hS => ?_)
          have hP : va_P (dC, dI) zz_cl (zv_M cI cZ cL a0 a1 a2 a3 a4 a5 a6 a7 0 w1 w2 w3 (vp_updL w4 (zf_M_at p1 p2).toNatClampNeg p3) w5 w6 w7 w8 w9 w10 w11 w12 w13 w14 w15 w16 w17 w18 w19 w20 w21) H := hP
          have hD : va_D A (zv_M cI cZ cL a0 a1 a2 a3 a4 a5 a6 a7 0 w1 w2 w3 (vp_updL w4 (zf_M_at p1 p2).toNatClampNeg p3) w5 w6 w7 w8 w9 w10 w11 w12 w13 w14 w15 w16 w17 w18 w19 w20 w21) := hD
          refine lv_iconst (v := 1) hx hb zd_M_field_63 (by decide) ?_
          rw [(show zf_M_field w0 w1 w2 w3 w4 w5 p1 p2 p3 = (1, 0, (vp_updL w4 (zf_M_at p1 p2).toNatClampNeg p3)) from by rw [zf_M_field, if_neg c_6, if_neg c_17, if_neg c_40, if_pos c_47])]
          exact zz_iret hx hb hr hlocks hK hP hD hS zd_M_field_64 rfl
        · refine lv_iconst (v := 0) hx hb zd_M_field_50 (by decide) ?_
          rw [(show zf_M_field w0 w1 w2 w3 w4 w5 p1 p2 p3 = (0, 0, w4) from by rw [zf_M_field, if_neg c_6, if_neg c_17, if_neg c_40, if_neg c_47])]
          exact zz_iret hx hb hr hlocks hK hP hD hS zd_M_field_51 rfl
    · refine lv_aload_n hx hb zd_M_field_20 rfl (lv_at hl 0 rfl) ?_
      refine lv_iconst (v := 1) hx hb zd_M_field_21 (by decide) ?_
      refine zz_ci (va_runV (As := [.int 1]) (rest := []) ⟨hx, hb, hml, hown, htB⟩ (zc_M_refuse l dC dI cI cZ cL a0 a1 a2 a3 a4 a5 a6 a7 s.heap.size w0 w1 w2 w3 w4 w5 w6 w7 w8 w9 w10 w11 w12 w13 w14 w15 w16 w17 w18 w19 w20 w21 1 ) (cwV 1 htB (zz_gV zk_05b1c230 zk_32615e0d zk_05b898fc zk_91cc3b19 zk_5f584b7b) rfl rfl rfl ⟨rfl, zh_M_refuse⟩ ⟨Nat.le_of_ble_eq_true rfl, Nat.le_of_ble_eq_true rfl⟩) (zz_preV (ci := 5) (q := (zr_M, zF_M, 22)) hP hD hK hE [0, 1, 2, 3, 4, 5, 6, 7] (by decide) rfl rfl rfl) rfl rfl hl.1 rfl (lv_room (Nat.le_of_ble_eq_true rfl)) zd_M_field_22 ⟨Nat.le_of_ble_eq_true rfl, Nat.le_of_ble_eq_true rfl⟩) hP hD hS hA [0, 1, 2, 3, 4, 5, 6, 7] [] [0, 1, 2, 3, 4, 5, 6, 7] rfl rfl (by decide) (by decide) (by decide) rfl (fun H locs hP hD hS => ?_)
      have hP : va_P (dC, dI) zz_cl (zv_M cI cZ cL a0 a1 a2 a3 a4 a5 a6 a7 ((zf_M_refuse w0 1).2) w1 w2 w3 w4 w5 w6 w7 w8 w9 w10 w11 w12 w13 w14 w15 w16 w17 w18 w19 w20 w21) H := hP
      have hD : va_D A (zv_M cI cZ cL a0 a1 a2 a3 a4 a5 a6 a7 ((zf_M_refuse w0 1).2) w1 w2 w3 w4 w5 w6 w7 w8 w9 w10 w11 w12 w13 w14 w15 w16 w17 w18 w19 w20 w21) := hD
      rw [(show zf_M_field w0 w1 w2 w3 w4 w5 p1 p2 p3 = ((zf_M_refuse w0 1).1, (zf_M_refuse w0 1).2, w4) from by rw [zf_M_field, if_neg c_6, if_pos c_17])]
      exact zz_iret hx hb hr hlocks hK hP hD hS zd_M_field_25 rfl
set_option maxHeartbeats 4000000 in
set_option maxRecDepth 100000 in
theorem zc_M_clear (l : Launch) (dC : Nat → ClassId) (dI : Nat → Nat → Nat) (cI cZ cL : ClassId) (a0 a1 a2 a3 a4 a5 a6 a7 : Nat) (sz : Nat) (w0 : Int32) (w1 : Int32) (w2 : Nat) (w3 : Nat → Int32) (w4 : Nat → Int64) (w5 : Int32) (w6 : Int32) (w7 : Nat) (w8 : Nat → Int64) (w9 : Nat → Int32) (w10 : Nat) (w11 : Nat → Int32) (w12 : Nat → Int32) (w13 : Nat → Int32) (w14 : Int32) (w15 : Int32) (w16 : Int32) (w17 : Int32) (w18 : Int32) (w19 : Int64) (w20 : Int32) (w21 : Int32) (p1 : Int32) (p2 : Int32) (hm : w2 ≤ 30) : Met l zy_M_clear (zz_ws zy_M_clear zb_M_clear 3 (some .boolean)) ({ frames := 2, cells := 0, slots := 0, locals := 47 } : Room) (va_Pc ([.ref a0, .int p1, .int p2] : List Value) (zz_P (dC, dI) (zz_ty cI cZ cL) sz (zv_M cI cZ cL a0 a1 a2 a3 a4 a5 a6 a7 w0 w1 w2 w3 w4 w5 w6 w7 w8 w9 w10 w11 w12 w13 w14 w15 w16 w17 w18 w19 w20 w21))) (zz_Qi (dC, dI) (zz_ty cI cZ cL) (va_A (zv_M cI cZ cL a0 a1 a2 a3 a4 a5 a6 a7 w0 w1 w2 w3 w4 w5 w6 w7 w8 w9 w10 w11 w12 w13 w14 w15 w16 w17 w18 w19 w20 w21) sz) ((zf_M_clear w0 w2 w3 w4 w5 p1 p2).1) (zv_M cI cZ cL a0 a1 a2 a3 a4 a5 a6 a7 ((zf_M_clear w0 w2 w3 w4 w5 p1 p2).2.1) w1 w2 w3 ((zf_M_clear w0 w2 w3 w4 w5 p1 p2).2.2) w5 w6 w7 w8 w9 w10 w11 w12 w13 w14 w15 w16 w17 w18 w19 w20 w21)) 0 0 (va_A (zv_M cI cZ cL a0 a1 a2 a3 a4 a5 a6 a7 w0 w1 w2 w3 w4 w5 w6 w7 w8 w9 w10 w11 w12 w13 w14 w15 w16 w17 w18 w19 w20 w21) sz) := by
  refine zz_ofW (Q := fun A => (zz_Qi (dC, dI) (zz_ty cI cZ cL) A ((zf_M_clear w0 w2 w3 w4 w5 p1 p2).1) (zv_M cI cZ cL a0 a1 a2 a3 a4 a5 a6 a7 ((zf_M_clear w0 w2 w3 w4 w5 p1 p2).2.1) w1 w2 w3 ((zf_M_clear w0 w2 w3 w4 w5 p1 p2).2.2) w5 w6 w7 w8 w9 w10 w11 w12 w13 w14 w15 w16 w17 w18 w19 w20 w21))) (by decide) (Nat.le_of_ble_eq_true rfl) ?_
  intro p e s m below meth c A C0 _ hA hK hP hD _ ls hl
  obtain ⟨hx, hb, hr, hml, hown, htB, hlocks, hE⟩ := id C0
  have hS : va_S A s.heap s.heap [] := va_S.rf
  have hl : lv_has ls 3 [(0, .ref a0), (1, .int p1), (2, .int p2)] := hl
  refine lv_aload_n hx hb zd_M_clear_0 rfl (lv_at hl 0 rfl) ?_
  refine lv_iconst (v := 0) hx hb zd_M_clear_1 (by decide) ?_
  refine va_put (D := (dC, dI)) (ci := 5) (v := .int 0) (C := zr_M) (T := zF_M) (N := 22) hx hb htB zi_M zT_M zT_M_ok zn_M hown hK hP hD hS 0 rfl rfl 0 (by decide) (htB _ zk_d62d4141) (fun _ h9 => h9) rfl (zT_M_ok 0 (by decide)) rfl rfl (Nat.le_of_ble_eq_true rfl) zd_M_clear_2 (fun H locs hP hD hS => ?_)
  have hP : va_P (dC, dI) zz_cl (zv_M cI cZ cL a0 a1 a2 a3 a4 a5 a6 a7 0 w1 w2 w3 w4 w5 w6 w7 w8 w9 w10 w11 w12 w13 w14 w15 w16 w17 w18 w19 w20 w21) H := hP
  have hD : va_D A (zv_M cI cZ cL a0 a1 a2 a3 a4 a5 a6 a7 0 w1 w2 w3 w4 w5 w6 w7 w8 w9 w10 w11 w12 w13 w14 w15 w16 w17 w18 w19 w20 w21) := hD
  refine lv_aload_n hx hb zd_M_clear_5 rfl (lv_at hl 0 rfl) ?_
  refine lv_iload_n hx hb zd_M_clear_6 rfl (lv_at hl 1 rfl) ?_
  refine lv_iload_n hx hb zd_M_clear_7 rfl (lv_at hl 2 rfl) ?_
  refine zz_ki (va_runV (As := [.int p1, .int p2]) (rest := []) ⟨hx, hb, hml, hown, htB⟩ (zc_M_isPlace l dC dI cI cZ cL a0 a1 a2 a3 a4 a5 a6 a7 H.size 0 w1 w2 w3 w4 w5 w6 w7 w8 w9 w10 w11 w12 w13 w14 w15 w16 w17 w18 w19 w20 w21 p1 p2 hm) (cwV 2 htB (zz_gV zk_a0f7a764 zk_92fa40ee zk_546771c0 zk_91cc3b19 zk_1add32c5) rfl rfl rfl ⟨rfl, zh_M_isPlace⟩ ⟨Nat.le_of_ble_eq_true rfl, Nat.le_of_ble_eq_true rfl⟩) (zz_preV (ci := 5) (q := (zr_M, zF_M, 22)) hP hD hK hE [0, 1, 2, 3, 4, 5, 6, 7] (by decide) rfl rfl rfl) rfl rfl hl.1 rfl (lv_room (Nat.le_of_ble_eq_true rfl)) zd_M_clear_8 ⟨Nat.le_of_ble_eq_true rfl, Nat.le_of_ble_eq_true rfl⟩) ?_
  refine lv_if_eq (tgt := 51) hx hb zd_M_clear_11 (by decide) (fun c_11 => ?_) (fun c_11 => ?_)
  · refine lv_iconst (v := 0) hx hb zd_M_clear_51 (by decide) ?_
    rw [(show zf_M_clear w0 w2 w3 w4 w5 p1 p2 = (0, 0, w4) from by rw [zf_M_clear, if_pos c_11])]
    exact zz_zret hx hb hr hlocks narrow_b0 hK hP hD hS zd_M_clear_52 rfl
  · refine lv_aload_n hx hb zd_M_clear_14 rfl (lv_at hl 0 rfl) ?_
    refine va_get (D := (dC, dI)) (ci := 5) (v := .int w5) (C := zr_M) (T := zF_M) (N := 22) hx hb htB zi_M hown hK hP 0 rfl rfl 5 (by decide) (htB _ zk_ceae0b21) (fun _ h9 => h9) rfl zd_M_clear_15 ?_
    refine lv_if_ne (tgt := 51) hx hb zd_M_clear_18 (by decide) (fun c_18 => ?_) (fun c_18 => ?_)
    · refine lv_iconst (v := 0) hx hb zd_M_clear_51 (by decide) ?_
      rw [(show zf_M_clear w0 w2 w3 w4 w5 p1 p2 = (0, 0, w4) from by rw [zf_M_clear, if_neg c_11, if_neg c_18])]
      exact zz_zret hx hb hr hlocks narrow_b0 hK hP hD hS zd_M_clear_52 rfl
    · refine lv_aload_n hx hb zd_M_clear_21 rfl (lv_at hl 0 rfl) ?_
      refine va_get (D := (dC, dI)) (ci := 5) (v := .ref a2) (C := zr_M) (T := zF_M) (N := 22) hx hb htB zi_M hown hK hP 0 rfl rfl 4 (by decide) (htB _ zk_8e1cf9a2) (fun _ h9 => h9) rfl zd_M_clear_22 ?_
      refine lv_aload_n hx hb zd_M_clear_25 rfl (lv_at hl 0 rfl) ?_
      refine lv_iload_n hx hb zd_M_clear_26 rfl (lv_at hl 1 rfl) ?_
      refine lv_iload_n hx hb zd_M_clear_27 rfl (lv_at hl 2 rfl) ?_
      refine zz_ki (va_runV (As := [.int p1, .int p2]) (rest := [.ref a2]) ⟨hx, hb, hml, hown, htB⟩ (zc_M_isPlace l dC dI cI cZ cL a0 a1 a2 a3 a4 a5 a6 a7 H.size 0 w1 w2 w3 w4 w5 w6 w7 w8 w9 w10 w11 w12 w13 w14 w15 w16 w17 w18 w19 w20 w21 p1 p2 hm) (cwV 2 htB (zz_gV zk_a0f7a764 zk_92fa40ee zk_546771c0 zk_91cc3b19 zk_1add32c5) rfl rfl rfl ⟨rfl, zh_M_isPlace⟩ ⟨Nat.le_of_ble_eq_true rfl, Nat.le_of_ble_eq_true rfl⟩) (zz_preV (ci := 5) (q := (zr_M, zF_M, 22)) hP hD hK hE [0, 1, 2, 3, 4, 5, 6, 7] (by decide) rfl rfl rfl) rfl rfl hl.1 rfl (lv_room (Nat.le_of_ble_eq_true rfl)) zd_M_clear_28 ⟨Nat.le_of_ble_eq_true rfl, Nat.le_of_ble_eq_true rfl⟩) ?_
      refine lv_if_eq (tgt := 42) hx hb zd_M_clear_31 (by decide) (fun c_ => absurd c_ c_11) (fun _ => ?_)
      refine lv_iload_n hx hb zd_M_clear_34 rfl (lv_at hl 1 rfl) ?_
      refine lv_iload_n hx hb zd_M_clear_35 rfl (lv_at hl 2 rfl) ?_
      refine zz_ki (va_runS (As := [.int p1, .int p2]) (rest := [.ref a2]) ⟨hx, hb, hml, hown, htB⟩ (zc_M_at l dC dI cI cZ cL  H.size  p1 p2 ) (va_cwS 2 htB (zz_gS zk_15927651 zk_e84089c4 zk_91cc3b19 zk_3702f9eb) rfl rfl rfl zh_M_at ⟨Nat.le_of_ble_eq_true rfl, Nat.le_of_ble_eq_true rfl⟩) (zz_preS hP hD hK hE [] (by decide) rfl) rfl rfl hl.1 rfl (lv_room (Nat.le_of_ble_eq_true rfl)) zd_M_clear_36 ⟨Nat.le_of_ble_eq_true rfl, Nat.le_of_ble_eq_true rfl⟩) ?_
      refine lv_goto (tgt := 43) hx hb zd_M_clear_39 (by decide) ?_
      refine va_lald hx hb hK hP 2 2 rfl rfl (zy_place hm c_11) zd_M_clear_43 ?_
      refine lv_ldc2 (v := (-1)) hx hb hown (htB _ zk_1ad41f20) zd_M_clear_44 ?_
      refine W.lcmp hx hb zd_M_clear_47 ?_
      refine lv_if_ne (tgt := 53) hx hb zd_M_clear_48 (by decide) (fun c_48 => ?_) (fun c_48 => ?_)
      · refine lv_aload_n hx hb zd_M_clear_53 rfl (lv_at hl 0 rfl) ?_
        refine va_get (D := (dC, dI)) (ci := 5) (v := .ref a2) (C := zr_M) (T := zF_M) (N := 22) hx hb htB zi_M hown hK hP 0 rfl rfl 4 (by decide) (htB _ zk_8e1cf9a2) (fun _ h9 => h9) rfl zd_M_clear_54 ?_
        refine lv_iload_n hx hb zd_M_clear_57 rfl (lv_at hl 1 rfl) ?_
        refine lv_iload_n hx hb zd_M_clear_58 rfl (lv_at hl 2 rfl) ?_
        refine zz_ki (va_runS (As := [.int p1, .int p2]) (rest := [.ref a2]) ⟨hx, hb, hml, hown, htB⟩ (zc_M_at l dC dI cI cZ cL  H.size  p1 p2 ) (va_cwS 2 htB (zz_gS zk_15927651 zk_e84089c4 zk_91cc3b19 zk_3702f9eb) rfl rfl rfl zh_M_at ⟨Nat.le_of_ble_eq_true rfl, Nat.le_of_ble_eq_true rfl⟩) (zz_preS hP hD hK hE [] (by decide) rfl) rfl rfl hl.1 rfl (lv_room (Nat.le_of_ble_eq_true rfl)) zd_M_clear_59 ⟨Nat.le_of_ble_eq_true rfl, Nat.le_of_ble_eq_true rfl⟩) ?_
        refine lv_ldc2 (v := (-1)) hx hb hown (htB _ zk_1ad41f20) zd_M_clear_62 ?_
        refine va_last hx hb hK hP hD hS 2 2 rfl rfl (zy_place hm c_11) zd_M_clear_65 (fun H locs hP hD hS => ?_)
        have hP : va_P (dC, dI) zz_cl (zv_M cI cZ cL a0 a1 a2 a3 a4 a5 a6 a7 0 w1 w2 w3 (vp_updL w4 (zf_M_at p1 p2).toNatClampNeg (-1)) w5 w6 w7 w8 w9 w10 w11 w12 w13 w14 w15 w16 w17 w18 w19 w20 w21) H := hP
        have hD : va_D A (zv_M cI cZ cL a0 a1 a2 a3 a4 a5 a6 a7 0 w1 w2 w3 (vp_updL w4 (zf_M_at p1 p2).toNatClampNeg (-1)) w5 w6 w7 w8 w9 w10 w11 w12 w13 w14 w15 w16 w17 w18 w19 w20 w21) := hD
        refine lv_iconst (v := 1) hx hb zd_M_clear_66 (by decide) ?_
        rw [(show zf_M_clear w0 w2 w3 w4 w5 p1 p2 = (1, 0, (vp_updL w4 (zf_M_at p1 p2).toNatClampNeg (-1))) from by rw [zf_M_clear, if_neg c_11, if_pos c_18, if_neg c_48])]
        exact zz_zret hx hb hr hlocks narrow_b1 hK hP hD hS zd_M_clear_67 rfl
      · refine lv_iconst (v := 0) hx hb zd_M_clear_51 (by decide) ?_
        rw [(show zf_M_clear w0 w2 w3 w4 w5 p1 p2 = (0, 0, w4) from by rw [zf_M_clear, if_neg c_11, if_pos c_18, if_pos c_48])]
        exact zz_zret hx hb hr hlocks narrow_b0 hK hP hD hS zd_M_clear_52 rfl
set_option maxHeartbeats 4000000 in
set_option maxRecDepth 100000 in
theorem zc_M_value (l : Launch) (dC : Nat → ClassId) (dI : Nat → Nat → Nat) (cI cZ cL : ClassId) (a0 a1 a2 a3 a4 a5 a6 a7 : Nat) (sz : Nat) (w0 : Int32) (w1 : Int32) (w2 : Nat) (w3 : Nat → Int32) (w4 : Nat → Int64) (w5 : Int32) (w6 : Int32) (w7 : Nat) (w8 : Nat → Int64) (w9 : Nat → Int32) (w10 : Nat) (w11 : Nat → Int32) (w12 : Nat → Int32) (w13 : Nat → Int32) (w14 : Int32) (w15 : Int32) (w16 : Int32) (w17 : Int32) (w18 : Int32) (w19 : Int64) (w20 : Int32) (w21 : Int32) (p1 : Int32) (p2 : Int32) (hm : w2 ≤ 30) : Met l zy_M_value (zz_ws zy_M_value zb_M_value 3 (some .long)) ({ frames := 2, cells := 0, slots := 0, locals := 47 } : Room) (va_Pc ([.ref a0, .int p1, .int p2] : List Value) (zz_P (dC, dI) (zz_ty cI cZ cL) sz (zv_M cI cZ cL a0 a1 a2 a3 a4 a5 a6 a7 w0 w1 w2 w3 w4 w5 w6 w7 w8 w9 w10 w11 w12 w13 w14 w15 w16 w17 w18 w19 w20 w21))) (zz_Ql (dC, dI) (zz_ty cI cZ cL) (va_A (zv_M cI cZ cL a0 a1 a2 a3 a4 a5 a6 a7 w0 w1 w2 w3 w4 w5 w6 w7 w8 w9 w10 w11 w12 w13 w14 w15 w16 w17 w18 w19 w20 w21) sz) ((zf_M_value w0 w2 w3 w4 p1 p2).1) (zv_M cI cZ cL a0 a1 a2 a3 a4 a5 a6 a7 ((zf_M_value w0 w2 w3 w4 p1 p2).2) w1 w2 w3 w4 w5 w6 w7 w8 w9 w10 w11 w12 w13 w14 w15 w16 w17 w18 w19 w20 w21)) 0 0 (va_A (zv_M cI cZ cL a0 a1 a2 a3 a4 a5 a6 a7 w0 w1 w2 w3 w4 w5 w6 w7 w8 w9 w10 w11 w12 w13 w14 w15 w16 w17 w18 w19 w20 w21) sz) := by
  refine zz_ofW (Q := fun A => (zz_Ql (dC, dI) (zz_ty cI cZ cL) A ((zf_M_value w0 w2 w3 w4 p1 p2).1) (zv_M cI cZ cL a0 a1 a2 a3 a4 a5 a6 a7 ((zf_M_value w0 w2 w3 w4 p1 p2).2) w1 w2 w3 w4 w5 w6 w7 w8 w9 w10 w11 w12 w13 w14 w15 w16 w17 w18 w19 w20 w21))) (by decide) (Nat.le_of_ble_eq_true rfl) ?_
  intro p e s m below meth c A C0 _ hA hK hP hD _ ls hl
  obtain ⟨hx, hb, hr, hml, hown, htB, hlocks, hE⟩ := id C0
  have hS : va_S A s.heap s.heap [] := va_S.rf
  have hl : lv_has ls 3 [(0, .ref a0), (1, .int p1), (2, .int p2)] := hl
  refine lv_aload_n hx hb zd_M_value_0 rfl (lv_at hl 0 rfl) ?_
  refine lv_aload_n hx hb zd_M_value_1 rfl (lv_at hl 0 rfl) ?_
  refine lv_iload_n hx hb zd_M_value_2 rfl (lv_at hl 1 rfl) ?_
  refine lv_iload_n hx hb zd_M_value_3 rfl (lv_at hl 2 rfl) ?_
  refine zz_ki (va_runV (As := [.int p1, .int p2]) (rest := [.ref a0]) ⟨hx, hb, hml, hown, htB⟩ (zc_M_isPlace l dC dI cI cZ cL a0 a1 a2 a3 a4 a5 a6 a7 s.heap.size w0 w1 w2 w3 w4 w5 w6 w7 w8 w9 w10 w11 w12 w13 w14 w15 w16 w17 w18 w19 w20 w21 p1 p2 hm) (cwV 2 htB (zz_gV zk_a0f7a764 zk_92fa40ee zk_546771c0 zk_91cc3b19 zk_1add32c5) rfl rfl rfl ⟨rfl, zh_M_isPlace⟩ ⟨Nat.le_of_ble_eq_true rfl, Nat.le_of_ble_eq_true rfl⟩) (zz_preV (ci := 5) (q := (zr_M, zF_M, 22)) hP hD hK hE [0, 1, 2, 3, 4, 5, 6, 7] (by decide) rfl rfl rfl) rfl rfl hl.1 rfl (lv_room (Nat.le_of_ble_eq_true rfl)) zd_M_value_4 ⟨Nat.le_of_ble_eq_true rfl, Nat.le_of_ble_eq_true rfl⟩) ?_
  refine lv_if_eq (tgt := 14) hx hb zd_M_value_7 (by decide) (fun c_7 => ?_) (fun c_7 => ?_)
  · refine lv_iconst (v := 1) hx hb zd_M_value_14 (by decide) ?_
    refine va_put (D := (dC, dI)) (ci := 5) (v := .int 1) (C := zr_M) (T := zF_M) (N := 22) hx hb htB zi_M zT_M zT_M_ok zn_M hown hK hP hD hS 0 rfl rfl 0 (by decide) (htB _ zk_d62d4141) (fun _ h9 => h9) rfl (zT_M_ok 0 (by decide)) rfl rfl (Nat.le_of_ble_eq_true rfl) zd_M_value_15 (fun H locs hP hD hS => ?_)
    have hP : va_P (dC, dI) zz_cl (zv_M cI cZ cL a0 a1 a2 a3 a4 a5 a6 a7 1 w1 w2 w3 w4 w5 w6 w7 w8 w9 w10 w11 w12 w13 w14 w15 w16 w17 w18 w19 w20 w21) H := hP
    have hD : va_D A (zv_M cI cZ cL a0 a1 a2 a3 a4 a5 a6 a7 1 w1 w2 w3 w4 w5 w6 w7 w8 w9 w10 w11 w12 w13 w14 w15 w16 w17 w18 w19 w20 w21) := hD
    refine lv_aload_n hx hb zd_M_value_18 rfl (lv_at hl 0 rfl) ?_
    refine va_get (D := (dC, dI)) (ci := 5) (v := .int 1) (C := zr_M) (T := zF_M) (N := 22) hx hb htB zi_M hown hK hP 0 rfl rfl 0 (by decide) (htB _ zk_d62d4141) (fun _ h9 => h9) rfl zd_M_value_19 ?_
    refine lv_if_le (tgt := 29) hx hb zd_M_value_22 (by decide) (fun c_ => absurd c_ (by decide)) (fun _ => ?_)
    refine lv_lconst (v := 0) hx hb zd_M_value_25 (by decide) ?_
    refine lv_goto (tgt := 39) hx hb zd_M_value_26 (by decide) ?_
    rw [(show zf_M_value w0 w2 w3 w4 p1 p2 = (0, 1) from by rw [zf_M_value, if_pos c_7])]
    exact zz_lret hx hb hr hlocks hK hP hD hS zd_M_value_39 rfl
  · refine lv_iconst (v := 0) hx hb zd_M_value_10 (by decide) ?_
    refine lv_goto (tgt := 15) hx hb zd_M_value_11 (by decide) ?_
    refine va_put (D := (dC, dI)) (ci := 5) (v := .int 0) (C := zr_M) (T := zF_M) (N := 22) hx hb htB zi_M zT_M zT_M_ok zn_M hown hK hP hD hS 0 rfl rfl 0 (by decide) (htB _ zk_d62d4141) (fun _ h9 => h9) rfl (zT_M_ok 0 (by decide)) rfl rfl (Nat.le_of_ble_eq_true rfl) zd_M_value_15 (fun H locs hP hD hS => ?_)
    have hP : va_P (dC, dI) zz_cl (zv_M cI cZ cL a0 a1 a2 a3 a4 a5 a6 a7 0 w1 w2 w3 w4 w5 w6 w7 w8 w9 w10 w11 w12 w13 w14 w15 w16 w17 w18 w19 w20 w21) H := hP
    have hD : va_D A (zv_M cI cZ cL a0 a1 a2 a3 a4 a5 a6 a7 0 w1 w2 w3 w4 w5 w6 w7 w8 w9 w10 w11 w12 w13 w14 w15 w16 w17 w18 w19 w20 w21) := hD
    refine lv_aload_n hx hb zd_M_value_18 rfl (lv_at hl 0 rfl) ?_
    refine va_get (D := (dC, dI)) (ci := 5) (v := .int 0) (C := zr_M) (T := zF_M) (N := 22) hx hb htB zi_M hown hK hP 0 rfl rfl 0 (by decide) (htB _ zk_d62d4141) (fun _ h9 => h9) rfl zd_M_value_19 ?_
    refine lv_if_le (tgt := 29) hx hb zd_M_value_22 (by decide) (fun _ => ?_) (fun c_ => absurd (by decide) c_)
    refine lv_aload_n hx hb zd_M_value_29 rfl (lv_at hl 0 rfl) ?_
    refine va_get (D := (dC, dI)) (ci := 5) (v := .ref a2) (C := zr_M) (T := zF_M) (N := 22) hx hb htB zi_M hown hK hP 0 rfl rfl 4 (by decide) (htB _ zk_8e1cf9a2) (fun _ h9 => h9) rfl zd_M_value_30 ?_
    refine lv_iload_n hx hb zd_M_value_33 rfl (lv_at hl 1 rfl) ?_
    refine lv_iload_n hx hb zd_M_value_34 rfl (lv_at hl 2 rfl) ?_
    refine zz_ki (va_runS (As := [.int p1, .int p2]) (rest := [.ref a2]) ⟨hx, hb, hml, hown, htB⟩ (zc_M_at l dC dI cI cZ cL  H.size  p1 p2 ) (va_cwS 2 htB (zz_gS zk_15927651 zk_e84089c4 zk_91cc3b19 zk_3702f9eb) rfl rfl rfl zh_M_at ⟨Nat.le_of_ble_eq_true rfl, Nat.le_of_ble_eq_true rfl⟩) (zz_preS hP hD hK hE [] (by decide) rfl) rfl rfl hl.1 rfl (lv_room (Nat.le_of_ble_eq_true rfl)) zd_M_value_35 ⟨Nat.le_of_ble_eq_true rfl, Nat.le_of_ble_eq_true rfl⟩) ?_
    refine va_lald hx hb hK hP 2 2 rfl rfl (zy_place hm c_7) zd_M_value_38 ?_
    rw [(show zf_M_value w0 w2 w3 w4 p1 p2 = (w4 (zf_M_at p1 p2).toNatClampNeg, 0) from by rw [zf_M_value, if_neg c_7])]
    exact zz_lret hx hb hr hlocks hK hP hD hS zd_M_value_39 rfl
set_option maxHeartbeats 4000000 in
set_option maxRecDepth 100000 in
theorem zc_M_need (l : Launch) (dC : Nat → ClassId) (dI : Nat → Nat → Nat) (cI cZ cL : ClassId) (a0 a1 a2 a3 a4 a5 a6 a7 : Nat) (sz : Nat) (w0 : Int32) (w1 : Int32) (w2 : Nat) (w3 : Nat → Int32) (w4 : Nat → Int64) (w5 : Int32) (w6 : Int32) (w7 : Nat) (w8 : Nat → Int64) (w9 : Nat → Int32) (w10 : Nat) (w11 : Nat → Int32) (w12 : Nat → Int32) (w13 : Nat → Int32) (w14 : Int32) (w15 : Int32) (w16 : Int32) (w17 : Int32) (w18 : Int32) (w19 : Int64) (w20 : Int32) (w21 : Int32) (p1 : Int32)  : Met l zy_M_need (zz_ws zy_M_need zb_M_need 2 (some .int)) ({ frames := 1, cells := 0, slots := 0, locals := 25 } : Room) (va_Pc ([.ref a0, .int p1] : List Value) (zz_P (dC, dI) (zz_ty cI cZ cL) sz (zv_M cI cZ cL a0 a1 a2 a3 a4 a5 a6 a7 w0 w1 w2 w3 w4 w5 w6 w7 w8 w9 w10 w11 w12 w13 w14 w15 w16 w17 w18 w19 w20 w21))) (zz_Qi (dC, dI) (zz_ty cI cZ cL) (va_A (zv_M cI cZ cL a0 a1 a2 a3 a4 a5 a6 a7 w0 w1 w2 w3 w4 w5 w6 w7 w8 w9 w10 w11 w12 w13 w14 w15 w16 w17 w18 w19 w20 w21) sz) ((zf_M_need w0 w1 p1).1) (zv_M cI cZ cL a0 a1 a2 a3 a4 a5 a6 a7 ((zf_M_need w0 w1 p1).2) w1 w2 w3 w4 w5 w6 w7 w8 w9 w10 w11 w12 w13 w14 w15 w16 w17 w18 w19 w20 w21)) 0 0 (va_A (zv_M cI cZ cL a0 a1 a2 a3 a4 a5 a6 a7 w0 w1 w2 w3 w4 w5 w6 w7 w8 w9 w10 w11 w12 w13 w14 w15 w16 w17 w18 w19 w20 w21) sz) := by
  refine zz_ofW (Q := fun A => (zz_Qi (dC, dI) (zz_ty cI cZ cL) A ((zf_M_need w0 w1 p1).1) (zv_M cI cZ cL a0 a1 a2 a3 a4 a5 a6 a7 ((zf_M_need w0 w1 p1).2) w1 w2 w3 w4 w5 w6 w7 w8 w9 w10 w11 w12 w13 w14 w15 w16 w17 w18 w19 w20 w21))) (by decide) (Nat.le_of_ble_eq_true rfl) ?_
  intro p e s m below meth c A C0 _ hA hK hP hD _ ls hl
  obtain ⟨hx, hb, hr, hml, hown, htB, hlocks, hE⟩ := id C0
  have hS : va_S A s.heap s.heap [] := va_S.rf
  have hl : lv_has ls 2 [(0, .ref a0), (1, .int p1)] := hl
  refine lv_aload_n hx hb zd_M_need_0 rfl (lv_at hl 0 rfl) ?_
  refine lv_iload_n hx hb zd_M_need_1 rfl (lv_at hl 1 rfl) ?_
  refine lv_i2l hx hb zd_M_need_2 rfl ?_
  refine lv_lconst (v := 0) hx hb zd_M_need_3 (by decide) ?_
  refine lv_ldc2 (v := 19) hx hb hown (htB _ zk_ff0c3da7) zd_M_need_4 ?_
  refine zz_ki (va_runS (As := [.long p1.toInt64, .long 0, .long 19]) (rest := [.ref a0]) ⟨hx, hb, hml, hown, htB⟩ (zc_M_in l dC dI cI cZ cL  s.heap.size  p1.toInt64 0 19 ) (va_cwS 3 htB (zz_gS zk_3b1d8f54 zk_5de93d87 zk_91cc3b19 zk_d5048d4e) rfl rfl rfl zh_M_in ⟨Nat.le_of_ble_eq_true rfl, Nat.le_of_ble_eq_true rfl⟩) (zz_preS hP hD hK hE [] (by decide) rfl) rfl rfl hl.1 rfl (lv_room (Nat.le_of_ble_eq_true rfl)) zd_M_need_7 ⟨Nat.le_of_ble_eq_true rfl, Nat.le_of_ble_eq_true rfl⟩) ?_
  refine lv_if_eq (tgt := 17) hx hb zd_M_need_10 (by decide) (fun c_10 => ?_) (fun c_10 => ?_)
  · refine lv_iconst (v := 1) hx hb zd_M_need_17 (by decide) ?_
    refine va_put (D := (dC, dI)) (ci := 5) (v := .int 1) (C := zr_M) (T := zF_M) (N := 22) hx hb htB zi_M zT_M zT_M_ok zn_M hown hK hP hD hS 0 rfl rfl 0 (by decide) (htB _ zk_d62d4141) (fun _ h9 => h9) rfl (zT_M_ok 0 (by decide)) rfl rfl (Nat.le_of_ble_eq_true rfl) zd_M_need_18 (fun H locs hP hD hS => ?_)
    have hP : va_P (dC, dI) zz_cl (zv_M cI cZ cL a0 a1 a2 a3 a4 a5 a6 a7 1 w1 w2 w3 w4 w5 w6 w7 w8 w9 w10 w11 w12 w13 w14 w15 w16 w17 w18 w19 w20 w21) H := hP
    have hD : va_D A (zv_M cI cZ cL a0 a1 a2 a3 a4 a5 a6 a7 1 w1 w2 w3 w4 w5 w6 w7 w8 w9 w10 w11 w12 w13 w14 w15 w16 w17 w18 w19 w20 w21) := hD
    refine lv_aload_n hx hb zd_M_need_21 rfl (lv_at hl 0 rfl) ?_
    refine va_get (D := (dC, dI)) (ci := 5) (v := .int 1) (C := zr_M) (T := zF_M) (N := 22) hx hb htB zi_M hown hK hP 0 rfl rfl 0 (by decide) (htB _ zk_d62d4141) (fun _ h9 => h9) rfl zd_M_need_22 ?_
    refine lv_if_le (tgt := 32) hx hb zd_M_need_25 (by decide) (fun c_ => absurd c_ (by decide)) (fun _ => ?_)
    refine lv_iconst (v := 0) hx hb zd_M_need_28 (by decide) ?_
    refine lv_goto (tgt := 40) hx hb zd_M_need_29 (by decide) ?_
    rw [(show zf_M_need w0 w1 p1 = (0, 1) from by rw [zf_M_need, if_pos c_10])]
    exact zz_iret hx hb hr hlocks hK hP hD hS zd_M_need_40 rfl
  · refine lv_iconst (v := 0) hx hb zd_M_need_13 (by decide) ?_
    refine lv_goto (tgt := 18) hx hb zd_M_need_14 (by decide) ?_
    refine va_put (D := (dC, dI)) (ci := 5) (v := .int 0) (C := zr_M) (T := zF_M) (N := 22) hx hb htB zi_M zT_M zT_M_ok zn_M hown hK hP hD hS 0 rfl rfl 0 (by decide) (htB _ zk_d62d4141) (fun _ h9 => h9) rfl (zT_M_ok 0 (by decide)) rfl rfl (Nat.le_of_ble_eq_true rfl) zd_M_need_18 (fun H locs hP hD hS => ?_)
    have hP : va_P (dC, dI) zz_cl (zv_M cI cZ cL a0 a1 a2 a3 a4 a5 a6 a7 0 w1 w2 w3 w4 w5 w6 w7 w8 w9 w10 w11 w12 w13 w14 w15 w16 w17 w18 w19 w20 w21) H := hP
    have hD : va_D A (zv_M cI cZ cL a0 a1 a2 a3 a4 a5 a6 a7 0 w1 w2 w3 w4 w5 w6 w7 w8 w9 w10 w11 w12 w13 w14 w15 w16 w17 w18 w19 w20 w21) := hD
    refine lv_aload_n hx hb zd_M_need_21 rfl (lv_at hl 0 rfl) ?_
    refine va_get (D := (dC, dI)) (ci := 5) (v := .int 0) (C := zr_M) (T := zF_M) (N := 22) hx hb htB zi_M hown hK hP 0 rfl rfl 0 (by decide) (htB _ zk_d62d4141) (fun _ h9 => h9) rfl zd_M_need_22 ?_
    refine lv_if_le (tgt := 32) hx hb zd_M_need_25 (by decide) (fun _ => ?_) (fun c_ => absurd (by decide) c_)
    refine lv_iload_n hx hb zd_M_need_32 rfl (lv_at hl 1 rfl) ?_
    refine lv_aload_n hx hb zd_M_need_33 rfl (lv_at hl 0 rfl) ?_
    refine va_get (D := (dC, dI)) (ci := 5) (v := .int w1) (C := zr_M) (T := zF_M) (N := 22) hx hb htB zi_M hown hK hP 0 rfl rfl 1 (by decide) (htB _ zk_cf183326) (fun _ h9 => h9) rfl zd_M_need_34 ?_
    refine zz_ki (va_runS (As := [.int p1, .int w1]) (rest := []) ⟨hx, hb, hml, hown, htB⟩ (zc_M_needOf l dC dI cI cZ cL  H.size  p1 w1 ) (va_cwS 2 htB (zz_gS zk_69d8a7dc zk_8aca10f0 zk_91cc3b19 zk_57c855ba) rfl rfl rfl zh_M_needOf ⟨Nat.le_of_ble_eq_true rfl, Nat.le_of_ble_eq_true rfl⟩) (zz_preS hP hD hK hE [] (by decide) rfl) rfl rfl hl.1 rfl (lv_room (Nat.le_of_ble_eq_true rfl)) zd_M_need_37 ⟨Nat.le_of_ble_eq_true rfl, Nat.le_of_ble_eq_true rfl⟩) ?_
    rw [(show zf_M_need w0 w1 p1 = ((zf_M_needOf p1 w1), 0) from by rw [zf_M_need, if_neg c_10])]
    exact zz_iret hx hb hr hlocks hK hP hD hS zd_M_need_40 rfl
set_option maxHeartbeats 4000000 in
set_option maxRecDepth 100000 in
theorem zp_M_code_33 {p : Program} {l : Launch} {e : Env} {s : State} {m : MethodId} {below : List Frame} {meth : Method} {c : Code} {A : Nat → Prop} (dC : Nat → ClassId) (dI : Nat → Nat → Nat) (cI cZ cL : ClassId) (a0 a1 a2 a3 a4 a5 a6 a7 : Nat) (w0 : Int32) (w1 : Int32) (w2 : Nat) (w3 : Nat → Int32) (w4 : Nat → Int64) (w5 : Int32) (w6 : Int32) (w7 : Nat) (w8 : Nat → Int64) (w9 : Nat → Int32) (w10 : Nat) (w11 : Nat → Int32) (w12 : Nat → Int32) (w13 : Nat → Int32) (w14 : Int32) (w15 : Int32) (w16 : Int32) (w17 : Int32) (w18 : Int32) (w19 : Int64) (w20 : Int32) (w21 : Int32) (p1 : Int64) (p3 : Int32) (hc : w7 ≤ 20) (C0 : zz_C p s m ([.ref a0, .long p1, .int p3] : List Value).toArray meth c zb_M_code 5 (some .boolean) zy_M_code.cls) (hA : ∀ q : Nat, s.heap.size ≤ q → A q) (hK : va_K (dC, dI) zz_cl (zz_ty cI cZ cL) s) :
    ∀ (mm k : Nat), k + mm = w7 → ∀ (H : Heap) (locs : List Loc), va_P (dC, dI) zz_cl (zv_M cI cZ cL a0 a1 a2 a3 a4 a5 a6 a7 w0 w1 w2 w3 w4 w5 w6 w7 w8 w9 w10 w11 w12 w13 w14 w15 w16 w17 w18 w19 w20 w21) H → va_D A (zv_M cI cZ cL a0 a1 a2 a3 a4 a5 a6 a7 w0 w1 w2 w3 w4 w5 w6 w7 w8 w9 w10 w11 w12 w13 w14 w15 w16 w17 w18 w19 w20 w21) → va_S A s.heap H locs → ∀ ls : Array Slot, lv_has ls 5 [(0, .ref a0), (1, .long p1), (3, .int p3), (4, .int (nI k))] →
    W p l e ({ frames := 1, cells := 0, slots := 0, locals := 25 } : Room) s m ([.ref a0, .long p1, .int p3] : List Value).toArray below meth c H locs 0 0 (MQ below (zz_Qi (dC, dI) (zz_ty cI cZ cL) A ((zf_M_code_L33 w0 w7 w8 w9 p1 p3 mm k).1) (zv_M cI cZ cL a0 a1 a2 a3 a4 a5 a6 a7 ((zf_M_code_L33 w0 w7 w8 w9 p1 p3 mm k).2.1) w1 w2 w3 w4 w5 w6 ((zf_M_code_L33 w0 w7 w8 w9 p1 p3 mm k).2.2.1) ((zf_M_code_L33 w0 w7 w8 w9 p1 p3 mm k).2.2.2.1) ((zf_M_code_L33 w0 w7 w8 w9 p1 p3 mm k).2.2.2.2) w10 w11 w12 w13 w14 w15 w16 w17 w18 w19 w20 w21)) ([.ref a0, .long p1, .int p3] : List Value).toArray s 0 0 A) (F0 m 33 ls []) := by
  obtain ⟨hx, hb, hr, hml, hown, htB, hlocks, hE⟩ := id C0
  intro mm
  induction mm with
  | zero =>
    intro k hk  H locs hP hD hS ls hl
    refine lv_iload hx hb zd_M_code_33 (lv_at hl 3 rfl) ?_
    refine lv_aload_n hx hb zd_M_code_35 rfl (lv_at hl 0 rfl) ?_
    refine va_get (D := (dC, dI)) (ci := 5) (v := .int (nI w7)) (C := zr_M) (T := zF_M) (N := 22) hx hb htB zi_M hown hK hP 0 rfl rfl 7 (by decide) (htB _ zk_62906f57) (fun _ h9 => h9) rfl zd_M_code_36 ?_
    refine lv_icmp_ge (tgt := 70) hx hb zd_M_code_39 (by decide) (fun _ => ?_) (fun c_ => absurd (zz_geT (b := w7) rfl (by omega) (by omega)) c_)
    refine lv_aload_n hx hb zd_M_code_70 rfl (lv_at hl 0 rfl) ?_
    refine va_get (D := (dC, dI)) (ci := 5) (v := .int (nI w7)) (C := zr_M) (T := zF_M) (N := 22) hx hb htB zi_M hown hK hP 0 rfl rfl 7 (by decide) (htB _ zk_62906f57) (fun _ h9 => h9) rfl zd_M_code_71 ?_
    refine lv_bipush (v := 20) hx hb zd_M_code_74 (by decide) ?_
    refine lv_icmp_ne (tgt := 81) hx hb zd_M_code_76 (by decide) (fun c_76 => ?_) (fun c_76 => ?_)
    · refine lv_aload_n hx hb zd_M_code_81 rfl (lv_at hl 0 rfl) ?_
      refine va_get (D := (dC, dI)) (ci := 5) (v := .ref a3) (C := zr_M) (T := zF_M) (N := 22) hx hb htB zi_M hown hK hP 0 rfl rfl 8 (by decide) (htB _ zk_ce2632af) (fun _ h9 => h9) rfl zd_M_code_82 ?_
      refine lv_aload_n hx hb zd_M_code_85 rfl (lv_at hl 0 rfl) ?_
      refine va_get (D := (dC, dI)) (ci := 5) (v := .int (nI w7)) (C := zr_M) (T := zF_M) (N := 22) hx hb htB zi_M hown hK hP 0 rfl rfl 7 (by decide) (htB _ zk_62906f57) (fun _ h9 => h9) rfl zd_M_code_86 ?_
      refine lv_lload_n hx hb zd_M_code_89 rfl (lv_at hl 1 rfl) ?_
      refine zz_last hx hb hK hP hD hS 3 2 rfl rfl (zy_n20 hc c_76) (by decide) zd_M_code_90 (fun H locs hP hD hS => ?_)
      have hP : va_P (dC, dI) zz_cl (zv_M cI cZ cL a0 a1 a2 a3 a4 a5 a6 a7 w0 w1 w2 w3 w4 w5 w6 w7 (vp_updL w8 w7 p1) w9 w10 w11 w12 w13 w14 w15 w16 w17 w18 w19 w20 w21) H := hP
      have hD : va_D A (zv_M cI cZ cL a0 a1 a2 a3 a4 a5 a6 a7 w0 w1 w2 w3 w4 w5 w6 w7 (vp_updL w8 w7 p1) w9 w10 w11 w12 w13 w14 w15 w16 w17 w18 w19 w20 w21) := hD
      refine lv_aload_n hx hb zd_M_code_91 rfl (lv_at hl 0 rfl) ?_
      refine va_get (D := (dC, dI)) (ci := 5) (v := .ref a4) (C := zr_M) (T := zF_M) (N := 22) hx hb htB zi_M hown hK hP 0 rfl rfl 9 (by decide) (htB _ zk_0faba23a) (fun _ h9 => h9) rfl zd_M_code_92 ?_
      refine lv_aload_n hx hb zd_M_code_95 rfl (lv_at hl 0 rfl) ?_
      refine va_get (D := (dC, dI)) (ci := 5) (v := .int (nI w7)) (C := zr_M) (T := zF_M) (N := 22) hx hb htB zi_M hown hK hP 0 rfl rfl 7 (by decide) (htB _ zk_62906f57) (fun _ h9 => h9) rfl zd_M_code_96 ?_
      refine lv_iload_n hx hb zd_M_code_99 rfl (lv_at hl 2 rfl) ?_
      refine zz_iast hx hb hK hP hD hS 4 0 rfl rfl (zy_n20 hc c_76) (by decide) zd_M_code_100 (fun H locs hP hD hS => ?_)
      have hP : va_P (dC, dI) zz_cl (zv_M cI cZ cL a0 a1 a2 a3 a4 a5 a6 a7 w0 w1 w2 w3 w4 w5 w6 w7 (vp_updL w8 w7 p1) (upd w9 w7 p3) w10 w11 w12 w13 w14 w15 w16 w17 w18 w19 w20 w21) H := hP
      have hD : va_D A (zv_M cI cZ cL a0 a1 a2 a3 a4 a5 a6 a7 w0 w1 w2 w3 w4 w5 w6 w7 (vp_updL w8 w7 p1) (upd w9 w7 p3) w10 w11 w12 w13 w14 w15 w16 w17 w18 w19 w20 w21) := hD
      refine lv_aload_n hx hb zd_M_code_101 rfl (lv_at hl 0 rfl) ?_
      refine lv_dup hx hb zd_M_code_102 rfl ?_
      refine va_get (D := (dC, dI)) (ci := 5) (v := .int (nI w7)) (C := zr_M) (T := zF_M) (N := 22) hx hb htB zi_M hown hK hP 0 rfl rfl 7 (by decide) (htB _ zk_62906f57) (fun _ h9 => h9) rfl zd_M_code_103 ?_
      refine lv_iconst (v := 1) hx hb zd_M_code_106 (by decide) ?_
      refine lv_iadd hx hb zd_M_code_107 ?_
      rw [nI_1 w7]
      refine va_put (D := (dC, dI)) (ci := 5) (v := .int (nI (w7 + 1))) (C := zr_M) (T := zF_M) (N := 22) hx hb htB zi_M zT_M zT_M_ok zn_M hown hK hP hD hS 0 rfl rfl 7 (by decide) (htB _ zk_62906f57) (fun _ h9 => h9) rfl (zT_M_ok 7 (by decide)) rfl rfl (Nat.le_of_ble_eq_true rfl) zd_M_code_108 (fun H locs hP hD hS => ?_)
      have hP : va_P (dC, dI) zz_cl (zv_M cI cZ cL a0 a1 a2 a3 a4 a5 a6 a7 w0 w1 w2 w3 w4 w5 w6 (w7 + 1) (vp_updL w8 w7 p1) (upd w9 w7 p3) w10 w11 w12 w13 w14 w15 w16 w17 w18 w19 w20 w21) H := hP
      have hD : va_D A (zv_M cI cZ cL a0 a1 a2 a3 a4 a5 a6 a7 w0 w1 w2 w3 w4 w5 w6 (w7 + 1) (vp_updL w8 w7 p1) (upd w9 w7 p3) w10 w11 w12 w13 w14 w15 w16 w17 w18 w19 w20 w21) := hD
      refine lv_iconst (v := 1) hx hb zd_M_code_111 (by decide) ?_
      rw [(show zf_M_code_L33 w0 w7 w8 w9 p1 p3 0 k = (1, w0, (w7 + 1), (vp_updL w8 w7 p1), (upd w9 w7 p3)) from by rw [zf_M_code_L33, if_neg c_76])]
      exact zz_zret hx hb hr hlocks narrow_b1 hK hP hD hS zd_M_code_112 rfl
    · refine lv_iconst (v := 0) hx hb zd_M_code_79 (by decide) ?_
      rw [(show zf_M_code_L33 w0 w7 w8 w9 p1 p3 0 k = (0, w0, w7, w8, w9) from by rw [zf_M_code_L33, if_pos c_76])]
      exact zz_zret hx hb hr hlocks narrow_b0 hK hP hD hS zd_M_code_80 rfl
  | succ mm ih =>
    intro k hk  H locs hP hD hS ls hl
    refine lv_iload hx hb zd_M_code_33 (lv_at hl 3 rfl) ?_
    refine lv_aload_n hx hb zd_M_code_35 rfl (lv_at hl 0 rfl) ?_
    refine va_get (D := (dC, dI)) (ci := 5) (v := .int (nI w7)) (C := zr_M) (T := zF_M) (N := 22) hx hb htB zi_M hown hK hP 0 rfl rfl 7 (by decide) (htB _ zk_62906f57) (fun _ h9 => h9) rfl zd_M_code_36 ?_
    refine lv_icmp_ge (tgt := 70) hx hb zd_M_code_39 (by decide) (fun c_ => absurd c_ (zz_geF (b := w7) rfl (by omega) (by omega))) (fun _ => ?_)
    refine lv_aload_n hx hb zd_M_code_42 rfl (lv_at hl 0 rfl) ?_
    refine va_get (D := (dC, dI)) (ci := 5) (v := .ref a3) (C := zr_M) (T := zF_M) (N := 22) hx hb htB zi_M hown hK hP 0 rfl rfl 8 (by decide) (htB _ zk_ce2632af) (fun _ h9 => h9) rfl zd_M_code_43 ?_
    refine lv_iload hx hb zd_M_code_46 (lv_at hl 3 rfl) ?_
    refine zz_lald hx hb hK hP 3 2 rfl rfl (by omega) (by decide) zd_M_code_48 ?_
    refine lv_lload_n hx hb zd_M_code_49 rfl (lv_at hl 1 rfl) ?_
    refine W.lcmp hx hb zd_M_code_50 ?_
    refine lv_if_ne (tgt := 64) hx hb zd_M_code_51 (by decide) (fun c_51 => ?_) (fun c_51 => ?_)
    · refine lv_iinc (v := nI (k + 1)) (lv' := [(4, .int (nI (k + 1))), (0, .ref a0), (1, .long p1), (3, .int p3)]) hx hb zd_M_code_64 hl (k := 3) rfl (nI_1 k) (by decide) rfl (fun ls hl => ?_)
      refine lv_goto (tgt := 33) hx hb zd_M_code_67 (by decide) ?_
      rw [(show zf_M_code_L33 w0 w7 w8 w9 p1 p3 (mm + 1) k = zf_M_code_L33 w0 w7 w8 w9 p1 p3 mm (k + 1) from by rw [zf_M_code_L33, if_neg c_51])]
      exact ih (k + 1) (by omega)    _ _ hP hD hS _ (lv_sub hl [1, 2, 3, 0] rfl)
    · refine lv_aload_n hx hb zd_M_code_54 rfl (lv_at hl 0 rfl) ?_
      refine va_get (D := (dC, dI)) (ci := 5) (v := .ref a4) (C := zr_M) (T := zF_M) (N := 22) hx hb htB zi_M hown hK hP 0 rfl rfl 9 (by decide) (htB _ zk_0faba23a) (fun _ h9 => h9) rfl zd_M_code_55 ?_
      refine lv_iload hx hb zd_M_code_58 (lv_at hl 3 rfl) ?_
      refine lv_iload_n hx hb zd_M_code_60 rfl (lv_at hl 2 rfl) ?_
      refine zz_iast hx hb hK hP hD hS 4 0 rfl rfl (by omega) (by decide) zd_M_code_61 (fun H locs hP hD hS => ?_)
      have hP : va_P (dC, dI) zz_cl (zv_M cI cZ cL a0 a1 a2 a3 a4 a5 a6 a7 w0 w1 w2 w3 w4 w5 w6 w7 w8 (upd w9 k p3) w10 w11 w12 w13 w14 w15 w16 w17 w18 w19 w20 w21) H := hP
      have hD : va_D A (zv_M cI cZ cL a0 a1 a2 a3 a4 a5 a6 a7 w0 w1 w2 w3 w4 w5 w6 w7 w8 (upd w9 k p3) w10 w11 w12 w13 w14 w15 w16 w17 w18 w19 w20 w21) := hD
      refine lv_iconst (v := 1) hx hb zd_M_code_62 (by decide) ?_
      rw [(show zf_M_code_L33 w0 w7 w8 w9 p1 p3 (mm + 1) k = (1, w0, w7, w8, (upd w9 k p3)) from by rw [zf_M_code_L33, if_pos c_51])]
      exact zz_zret hx hb hr hlocks narrow_b1 hK hP hD hS zd_M_code_63 rfl
set_option maxHeartbeats 4000000 in
set_option maxRecDepth 100000 in
theorem zc_M_code (l : Launch) (dC : Nat → ClassId) (dI : Nat → Nat → Nat) (cI cZ cL : ClassId) (a0 a1 a2 a3 a4 a5 a6 a7 : Nat) (sz : Nat) (w0 : Int32) (w1 : Int32) (w2 : Nat) (w3 : Nat → Int32) (w4 : Nat → Int64) (w5 : Int32) (w6 : Int32) (w7 : Nat) (w8 : Nat → Int64) (w9 : Nat → Int32) (w10 : Nat) (w11 : Nat → Int32) (w12 : Nat → Int32) (w13 : Nat → Int32) (w14 : Int32) (w15 : Int32) (w16 : Int32) (w17 : Int32) (w18 : Int32) (w19 : Int64) (w20 : Int32) (w21 : Int32) (p1 : Int64) (p3 : Int32) (hc : w7 ≤ 20) : Met l zy_M_code (zz_ws zy_M_code zb_M_code 5 (some .boolean)) ({ frames := 1, cells := 0, slots := 0, locals := 25 } : Room) (va_Pc ([.ref a0, .long p1, .int p3] : List Value) (zz_P (dC, dI) (zz_ty cI cZ cL) sz (zv_M cI cZ cL a0 a1 a2 a3 a4 a5 a6 a7 w0 w1 w2 w3 w4 w5 w6 w7 w8 w9 w10 w11 w12 w13 w14 w15 w16 w17 w18 w19 w20 w21))) (zz_Qi (dC, dI) (zz_ty cI cZ cL) (va_A (zv_M cI cZ cL a0 a1 a2 a3 a4 a5 a6 a7 w0 w1 w2 w3 w4 w5 w6 w7 w8 w9 w10 w11 w12 w13 w14 w15 w16 w17 w18 w19 w20 w21) sz) ((zf_M_code w0 w7 w8 w9 p1 p3).1) (zv_M cI cZ cL a0 a1 a2 a3 a4 a5 a6 a7 ((zf_M_code w0 w7 w8 w9 p1 p3).2.1) w1 w2 w3 w4 w5 w6 ((zf_M_code w0 w7 w8 w9 p1 p3).2.2.1) ((zf_M_code w0 w7 w8 w9 p1 p3).2.2.2.1) ((zf_M_code w0 w7 w8 w9 p1 p3).2.2.2.2) w10 w11 w12 w13 w14 w15 w16 w17 w18 w19 w20 w21)) 0 0 (va_A (zv_M cI cZ cL a0 a1 a2 a3 a4 a5 a6 a7 w0 w1 w2 w3 w4 w5 w6 w7 w8 w9 w10 w11 w12 w13 w14 w15 w16 w17 w18 w19 w20 w21) sz) := by
  refine zz_ofW (Q := fun A => (zz_Qi (dC, dI) (zz_ty cI cZ cL) A ((zf_M_code w0 w7 w8 w9 p1 p3).1) (zv_M cI cZ cL a0 a1 a2 a3 a4 a5 a6 a7 ((zf_M_code w0 w7 w8 w9 p1 p3).2.1) w1 w2 w3 w4 w5 w6 ((zf_M_code w0 w7 w8 w9 p1 p3).2.2.1) ((zf_M_code w0 w7 w8 w9 p1 p3).2.2.2.1) ((zf_M_code w0 w7 w8 w9 p1 p3).2.2.2.2) w10 w11 w12 w13 w14 w15 w16 w17 w18 w19 w20 w21))) (by decide) (Nat.le_of_ble_eq_true rfl) ?_
  intro p e s m below meth c A C0 _ hA hK hP hD _ ls hl
  obtain ⟨hx, hb, hr, hml, hown, htB, hlocks, hE⟩ := id C0
  have hS : va_S A s.heap s.heap [] := va_S.rf
  have hl : lv_has ls 5 [(0, .ref a0), (1, .long p1), (3, .int p3)] := hl
  refine lv_aload_n hx hb zd_M_code_0 rfl (lv_at hl 0 rfl) ?_
  refine lv_iconst (v := 0) hx hb zd_M_code_1 (by decide) ?_
  refine va_put (D := (dC, dI)) (ci := 5) (v := .int 0) (C := zr_M) (T := zF_M) (N := 22) hx hb htB zi_M zT_M zT_M_ok zn_M hown hK hP hD hS 0 rfl rfl 0 (by decide) (htB _ zk_d62d4141) (fun _ h9 => h9) rfl (zT_M_ok 0 (by decide)) rfl rfl (Nat.le_of_ble_eq_true rfl) zd_M_code_2 (fun H locs hP hD hS => ?_)
  have hP : va_P (dC, dI) zz_cl (zv_M cI cZ cL a0 a1 a2 a3 a4 a5 a6 a7 0 w1 w2 w3 w4 w5 w6 w7 w8 w9 w10 w11 w12 w13 w14 w15 w16 w17 w18 w19 w20 w21) H := hP
  have hD : va_D A (zv_M cI cZ cL a0 a1 a2 a3 a4 a5 a6 a7 0 w1 w2 w3 w4 w5 w6 w7 w8 w9 w10 w11 w12 w13 w14 w15 w16 w17 w18 w19 w20 w21) := hD
  refine lv_lload_n hx hb zd_M_code_5 rfl (lv_at hl 1 rfl) ?_
  refine lv_lconst (v := 0) hx hb zd_M_code_6 (by decide) ?_
  refine lv_ldc2 (v := 1000000000) hx hb hown (htB _ zk_37a5971a) zd_M_code_7 ?_
  refine zz_ki (va_runS (As := [.long p1, .long 0, .long 1000000000]) (rest := []) ⟨hx, hb, hml, hown, htB⟩ (zc_M_in l dC dI cI cZ cL  H.size  p1 0 1000000000 ) (va_cwS 3 htB (zz_gS zk_3b1d8f54 zk_5de93d87 zk_91cc3b19 zk_d5048d4e) rfl rfl rfl zh_M_in ⟨Nat.le_of_ble_eq_true rfl, Nat.le_of_ble_eq_true rfl⟩) (zz_preS hP hD hK hE [] (by decide) rfl) rfl rfl hl.1 rfl (lv_room (Nat.le_of_ble_eq_true rfl)) zd_M_code_10 ⟨Nat.le_of_ble_eq_true rfl, Nat.le_of_ble_eq_true rfl⟩) ?_
  refine lv_if_eq (tgt := 28) hx hb zd_M_code_13 (by decide) (fun c_13 => ?_) (fun c_13 => ?_)
  · refine lv_iconst (v := 0) hx hb zd_M_code_28 (by decide) ?_
    rw [(show zf_M_code w0 w7 w8 w9 p1 p3 = (0, 0, w7, w8, w9) from by rw [zf_M_code, if_pos c_13])]
    exact zz_zret hx hb hr hlocks narrow_b0 hK hP hD hS zd_M_code_29 rfl
  · refine lv_iload_n hx hb zd_M_code_16 rfl (lv_at hl 2 rfl) ?_
    refine lv_i2l hx hb zd_M_code_17 rfl ?_
    refine lv_lconst (v := 0) hx hb zd_M_code_18 (by decide) ?_
    refine lv_ldc2 (v := 100000) hx hb hown (htB _ zk_8470fb61) zd_M_code_19 ?_
    refine zz_ki (va_runS (As := [.long p3.toInt64, .long 0, .long 100000]) (rest := []) ⟨hx, hb, hml, hown, htB⟩ (zc_M_in l dC dI cI cZ cL  H.size  p3.toInt64 0 100000 ) (va_cwS 3 htB (zz_gS zk_3b1d8f54 zk_5de93d87 zk_91cc3b19 zk_d5048d4e) rfl rfl rfl zh_M_in ⟨Nat.le_of_ble_eq_true rfl, Nat.le_of_ble_eq_true rfl⟩) (zz_preS hP hD hK hE [] (by decide) rfl) rfl rfl hl.1 rfl (lv_room (Nat.le_of_ble_eq_true rfl)) zd_M_code_22 ⟨Nat.le_of_ble_eq_true rfl, Nat.le_of_ble_eq_true rfl⟩) ?_
    refine lv_if_ne (tgt := 30) hx hb zd_M_code_25 (by decide) (fun c_25 => ?_) (fun c_25 => ?_)
    · refine lv_iconst (v := 0) hx hb zd_M_code_30 (by decide) ?_
      refine lv_istore (lv' := [(4, .int 0), (0, .ref a0), (1, .long p1), (3, .int p3)]) hx hb zd_M_code_31 hl (by decide) rfl (fun ls hl => ?_)
      rw [(show zf_M_code w0 w7 w8 w9 p1 p3 = zf_M_code_L33 0 w7 w8 w9 p1 p3 w7 0 from by rw [zf_M_code, if_neg c_13, if_neg c_25])]
      exact zp_M_code_33 dC dI cI cZ cL a0 a1 a2 a3 a4 a5 a6 a7 0 w1 w2 w3 w4 w5 w6 w7 w8 w9 w10 w11 w12 w13 w14 w15 w16 w17 w18 w19 w20 w21 p1 p3 hc C0 hA hK w7 0 (by omega)    _ _ hP hD hS _ (lv_sub hl [1, 2, 3, 0] rfl)
    · refine lv_iconst (v := 0) hx hb zd_M_code_28 (by decide) ?_
      rw [(show zf_M_code w0 w7 w8 w9 p1 p3 = (0, 0, w7, w8, w9) from by rw [zf_M_code, if_neg c_13, if_pos c_25])]
      exact zz_zret hx hb hr hlocks narrow_b0 hK hP hD hS zd_M_code_29 rfl
set_option maxHeartbeats 4000000 in
set_option maxRecDepth 100000 in
theorem zc_M_day (l : Launch) (dC : Nat → ClassId) (dI : Nat → Nat → Nat) (cI cZ cL : ClassId) (a0 a1 a2 a3 a4 a5 a6 a7 : Nat) (sz : Nat) (w0 : Int32) (w1 : Int32) (w2 : Nat) (w3 : Nat → Int32) (w4 : Nat → Int64) (w5 : Int32) (w6 : Int32) (w7 : Nat) (w8 : Nat → Int64) (w9 : Nat → Int32) (w10 : Nat) (w11 : Nat → Int32) (w12 : Nat → Int32) (w13 : Nat → Int32) (w14 : Int32) (w15 : Int32) (w16 : Int32) (w17 : Int32) (w18 : Int32) (w19 : Int64) (w20 : Int32) (w21 : Int32) (p1 : Int32)  : Met l zy_M_day (zz_ws zy_M_day zb_M_day 2 (some .boolean)) ({ frames := 1, cells := 0, slots := 0, locals := 25 } : Room) (va_Pc ([.ref a0, .int p1] : List Value) (zz_P (dC, dI) (zz_ty cI cZ cL) sz (zv_M cI cZ cL a0 a1 a2 a3 a4 a5 a6 a7 w0 w1 w2 w3 w4 w5 w6 w7 w8 w9 w10 w11 w12 w13 w14 w15 w16 w17 w18 w19 w20 w21))) (zz_Qi (dC, dI) (zz_ty cI cZ cL) (va_A (zv_M cI cZ cL a0 a1 a2 a3 a4 a5 a6 a7 w0 w1 w2 w3 w4 w5 w6 w7 w8 w9 w10 w11 w12 w13 w14 w15 w16 w17 w18 w19 w20 w21) sz) ((zf_M_day w0 w6 p1).1) (zv_M cI cZ cL a0 a1 a2 a3 a4 a5 a6 a7 ((zf_M_day w0 w6 p1).2.1) w1 w2 w3 w4 w5 ((zf_M_day w0 w6 p1).2.2) w7 w8 w9 w10 w11 w12 w13 w14 w15 w16 w17 w18 w19 w20 w21)) 0 0 (va_A (zv_M cI cZ cL a0 a1 a2 a3 a4 a5 a6 a7 w0 w1 w2 w3 w4 w5 w6 w7 w8 w9 w10 w11 w12 w13 w14 w15 w16 w17 w18 w19 w20 w21) sz) := by
  refine zz_ofW (Q := fun A => (zz_Qi (dC, dI) (zz_ty cI cZ cL) A ((zf_M_day w0 w6 p1).1) (zv_M cI cZ cL a0 a1 a2 a3 a4 a5 a6 a7 ((zf_M_day w0 w6 p1).2.1) w1 w2 w3 w4 w5 ((zf_M_day w0 w6 p1).2.2) w7 w8 w9 w10 w11 w12 w13 w14 w15 w16 w17 w18 w19 w20 w21))) (by decide) (Nat.le_of_ble_eq_true rfl) ?_
  intro p e s m below meth c A C0 _ hA hK hP hD _ ls hl
  obtain ⟨hx, hb, hr, hml, hown, htB, hlocks, hE⟩ := id C0
  have hS : va_S A s.heap s.heap [] := va_S.rf
  have hl : lv_has ls 2 [(0, .ref a0), (1, .int p1)] := hl
  refine lv_aload_n hx hb zd_M_day_0 rfl (lv_at hl 0 rfl) ?_
  refine lv_iconst (v := 0) hx hb zd_M_day_1 (by decide) ?_
  refine va_put (D := (dC, dI)) (ci := 5) (v := .int 0) (C := zr_M) (T := zF_M) (N := 22) hx hb htB zi_M zT_M zT_M_ok zn_M hown hK hP hD hS 0 rfl rfl 0 (by decide) (htB _ zk_d62d4141) (fun _ h9 => h9) rfl (zT_M_ok 0 (by decide)) rfl rfl (Nat.le_of_ble_eq_true rfl) zd_M_day_2 (fun H locs hP hD hS => ?_)
  have hP : va_P (dC, dI) zz_cl (zv_M cI cZ cL a0 a1 a2 a3 a4 a5 a6 a7 0 w1 w2 w3 w4 w5 w6 w7 w8 w9 w10 w11 w12 w13 w14 w15 w16 w17 w18 w19 w20 w21) H := hP
  have hD : va_D A (zv_M cI cZ cL a0 a1 a2 a3 a4 a5 a6 a7 0 w1 w2 w3 w4 w5 w6 w7 w8 w9 w10 w11 w12 w13 w14 w15 w16 w17 w18 w19 w20 w21) := hD
  refine lv_iload_n hx hb zd_M_day_5 rfl (lv_at hl 1 rfl) ?_
  refine lv_i2l hx hb zd_M_day_6 rfl ?_
  refine lv_aload_n hx hb zd_M_day_7 rfl (lv_at hl 0 rfl) ?_
  refine va_get (D := (dC, dI)) (ci := 5) (v := .int w6) (C := zr_M) (T := zF_M) (N := 22) hx hb htB zi_M hown hK hP 0 rfl rfl 6 (by decide) (htB _ zk_edcb0cfe) (fun _ h9 => h9) rfl zd_M_day_8 ?_
  refine lv_i2l hx hb zd_M_day_11 rfl ?_
  refine lv_ldc2 (v := 100000) hx hb hown (htB _ zk_8470fb61) zd_M_day_12 ?_
  refine zz_ki (va_runS (As := [.long p1.toInt64, .long w6.toInt64, .long 100000]) (rest := []) ⟨hx, hb, hml, hown, htB⟩ (zc_M_in l dC dI cI cZ cL  H.size  p1.toInt64 w6.toInt64 100000 ) (va_cwS 3 htB (zz_gS zk_3b1d8f54 zk_5de93d87 zk_91cc3b19 zk_d5048d4e) rfl rfl rfl zh_M_in ⟨Nat.le_of_ble_eq_true rfl, Nat.le_of_ble_eq_true rfl⟩) (zz_preS hP hD hK hE [] (by decide) rfl) rfl rfl hl.1 rfl (lv_room (Nat.le_of_ble_eq_true rfl)) zd_M_day_15 ⟨Nat.le_of_ble_eq_true rfl, Nat.le_of_ble_eq_true rfl⟩) ?_
  refine lv_if_ne (tgt := 23) hx hb zd_M_day_18 (by decide) (fun c_18 => ?_) (fun c_18 => ?_)
  · refine lv_aload_n hx hb zd_M_day_23 rfl (lv_at hl 0 rfl) ?_
    refine lv_iload_n hx hb zd_M_day_24 rfl (lv_at hl 1 rfl) ?_
    refine va_put (D := (dC, dI)) (ci := 5) (v := .int p1) (C := zr_M) (T := zF_M) (N := 22) hx hb htB zi_M zT_M zT_M_ok zn_M hown hK hP hD hS 0 rfl rfl 6 (by decide) (htB _ zk_edcb0cfe) (fun _ h9 => h9) rfl (zT_M_ok 6 (by decide)) rfl rfl (Nat.le_of_ble_eq_true rfl) zd_M_day_25 (fun H locs hP hD hS => ?_)
    have hP : va_P (dC, dI) zz_cl (zv_M cI cZ cL a0 a1 a2 a3 a4 a5 a6 a7 0 w1 w2 w3 w4 w5 p1 w7 w8 w9 w10 w11 w12 w13 w14 w15 w16 w17 w18 w19 w20 w21) H := hP
    have hD : va_D A (zv_M cI cZ cL a0 a1 a2 a3 a4 a5 a6 a7 0 w1 w2 w3 w4 w5 p1 w7 w8 w9 w10 w11 w12 w13 w14 w15 w16 w17 w18 w19 w20 w21) := hD
    refine lv_iconst (v := 1) hx hb zd_M_day_28 (by decide) ?_
    rw [(show zf_M_day w0 w6 p1 = (1, 0, p1) from by rw [zf_M_day, if_neg c_18])]
    exact zz_zret hx hb hr hlocks narrow_b1 hK hP hD hS zd_M_day_29 rfl
  · refine lv_iconst (v := 0) hx hb zd_M_day_21 (by decide) ?_
    rw [(show zf_M_day w0 w6 p1 = (0, 0, w6) from by rw [zf_M_day, if_pos c_18])]
    exact zz_zret hx hb hr hlocks narrow_b0 hK hP hD hS zd_M_day_22 rfl
set_option maxHeartbeats 4000000 in
set_option maxRecDepth 100000 in
theorem zp_M_sumOf_5 {p : Program} {l : Launch} {e : Env} {s : State} {m : MethodId} {below : List Frame} {meth : Method} {c : Code} (dC : Nat → ClassId) (dI : Nat → Nat → Nat) (cI cZ cL : ClassId) (a0 a1 a2 a3 a4 a5 a6 a7 : Nat) (w0 : Int32) (w1 : Int32) (w2 : Nat) (w3 : Nat → Int32) (w4 : Nat → Int64) (w5 : Int32) (w6 : Int32) (w7 : Nat) (w8 : Nat → Int64) (w9 : Nat → Int32) (w10 : Nat) (w11 : Nat → Int32) (w12 : Nat → Int32) (w13 : Nat → Int32) (w14 : Int32) (w15 : Int32) (w16 : Int32) (w17 : Int32) (w18 : Int32) (w19 : Int64) (w20 : Int32) (w21 : Int32) (p1 : Int32) (hm : w2 ≤ 30) (hf : ¬ p1 < 0) (C0 : zz_C p s m ([.ref a0, .int p1] : List Value).toArray meth c zb_M_sumOf 5 (some .long) zy_M_sumOf.cls) (hK : va_K (dC, dI) zz_cl (zz_ty cI cZ cL) s) (hP : va_P (dC, dI) zz_cl (zv_M cI cZ cL a0 a1 a2 a3 a4 a5 a6 a7 w0 w1 w2 w3 w4 w5 w6 w7 w8 w9 w10 w11 w12 w13 w14 w15 w16 w17 w18 w19 w20 w21) s.heap) (hD : va_D (fun _ => True) (zv_M cI cZ cL a0 a1 a2 a3 a4 a5 a6 a7 w0 w1 w2 w3 w4 w5 w6 w7 w8 w9 w10 w11 w12 w13 w14 w15 w16 w17 w18 w19 w20 w21)) :
    ∀ (mm k : Nat), k + mm = w2 + 1 → ∀ (x2 : Int64), ∀ ls : Array Slot, lv_has ls 5 [(0, .ref a0), (1, .int p1), (2, .long x2), (4, .int (nI k))] →
    W p l e ({ frames := 1, cells := 0, slots := 0, locals := 21 } : Room) s m ([.ref a0, .int p1] : List Value).toArray below meth c s.heap [] 0 0 (MQ below (zz_Kl (zf_M_sumOf_L5 w2 w4 p1 mm k x2)) ([.ref a0, .int p1] : List Value).toArray s 0 0 (fun _ => False)) (F0 m 5 ls []) := by
  obtain ⟨hx, hb, hr, hml, hown, htB, hlocks, hE⟩ := id C0
  intro mm
  induction mm with
  | zero =>
    intro k hk x2 ls hl
    refine lv_iload hx hb zd_M_sumOf_5 (lv_at hl 3 rfl) ?_
    refine lv_aload_n hx hb zd_M_sumOf_7 rfl (lv_at hl 0 rfl) ?_
    refine va_get (D := (dC, dI)) (ci := 5) (v := .int (nI w2)) (C := zr_M) (T := zF_M) (N := 22) hx hb htB zi_M hown hK hP 0 rfl rfl 2 (by decide) (htB _ zk_d4ba64b0) (fun _ h9 => h9) rfl zd_M_sumOf_8 ?_
    refine lv_icmp_gt (tgt := 56) hx hb zd_M_sumOf_11 (by decide) (fun _ => ?_) (fun c_ => absurd (zz_gtT (b := w2) rfl (by omega) (by omega)) c_)
    refine lv_lload_n hx hb zd_M_sumOf_56 rfl (lv_at hl 2 rfl) ?_
    rw [(show zf_M_sumOf_L5 w2 w4 p1 0 k x2 = x2 from by first | rfl | (rw [zf_M_sumOf_L5]))]
    exact zz_klret hx hb hr hlocks zd_M_sumOf_57 rfl
  | succ mm ih =>
    intro k hk x2 ls hl
    refine lv_iload hx hb zd_M_sumOf_5 (lv_at hl 3 rfl) ?_
    refine lv_aload_n hx hb zd_M_sumOf_7 rfl (lv_at hl 0 rfl) ?_
    refine va_get (D := (dC, dI)) (ci := 5) (v := .int (nI w2)) (C := zr_M) (T := zF_M) (N := 22) hx hb htB zi_M hown hK hP 0 rfl rfl 2 (by decide) (htB _ zk_d4ba64b0) (fun _ h9 => h9) rfl zd_M_sumOf_8 ?_
    refine lv_icmp_gt (tgt := 56) hx hb zd_M_sumOf_11 (by decide) (fun c_ => absurd c_ (zz_gtF (b := w2) rfl (by omega) (by omega))) (fun _ => ?_)
    refine lv_lload_n hx hb zd_M_sumOf_14 rfl (lv_at hl 2 rfl) ?_
    refine lv_aload_n hx hb zd_M_sumOf_15 rfl (lv_at hl 0 rfl) ?_
    refine va_get (D := (dC, dI)) (ci := 5) (v := .ref a2) (C := zr_M) (T := zF_M) (N := 22) hx hb htB zi_M hown hK hP 0 rfl rfl 4 (by decide) (htB _ zk_8e1cf9a2) (fun _ h9 => h9) rfl zd_M_sumOf_16 ?_
    refine lv_iload_n hx hb zd_M_sumOf_19 rfl (lv_at hl 1 rfl) ?_
    refine lv_iload hx hb zd_M_sumOf_20 (lv_at hl 3 rfl) ?_
    refine zz_ki (va_runS (As := [.int p1, .int (nI k)]) (rest := [.ref a2, .long x2]) ⟨hx, hb, hml, hown, htB⟩ (zc_M_at l dC dI cI cZ cL  s.heap.size  p1 (nI k) ) (va_cwS 2 htB (zz_gS zk_15927651 zk_e84089c4 zk_91cc3b19 zk_3702f9eb) rfl rfl rfl zh_M_at ⟨Nat.le_of_ble_eq_true rfl, Nat.le_of_ble_eq_true rfl⟩) (zz_preS hP hD hK hE [] (by decide) rfl) rfl rfl hl.1 rfl (lv_room (Nat.le_of_ble_eq_true rfl)) zd_M_sumOf_22 ⟨Nat.le_of_ble_eq_true rfl, Nat.le_of_ble_eq_true rfl⟩) ?_
    refine va_lald hx hb hK hP 2 2 rfl rfl (zy_at hf (by omega)) zd_M_sumOf_25 ?_
    refine lv_ldc2 (v := (-1)) hx hb hown (htB _ zk_1ad41f20) zd_M_sumOf_26 ?_
    refine W.lcmp hx hb zd_M_sumOf_29 ?_
    refine lv_if_ne (tgt := 37) hx hb zd_M_sumOf_30 (by decide) (fun c_30 => ?_) (fun c_30 => ?_)
    · refine lv_aload_n hx hb zd_M_sumOf_37 rfl (lv_at hl 0 rfl) ?_
      refine va_get (D := (dC, dI)) (ci := 5) (v := .ref a2) (C := zr_M) (T := zF_M) (N := 22) hx hb htB zi_M hown hK hP 0 rfl rfl 4 (by decide) (htB _ zk_8e1cf9a2) (fun _ h9 => h9) rfl zd_M_sumOf_38 ?_
      refine lv_iload_n hx hb zd_M_sumOf_41 rfl (lv_at hl 1 rfl) ?_
      refine lv_iload hx hb zd_M_sumOf_42 (lv_at hl 3 rfl) ?_
      refine zz_ki (va_runS (As := [.int p1, .int (nI k)]) (rest := [.ref a2, .long x2]) ⟨hx, hb, hml, hown, htB⟩ (zc_M_at l dC dI cI cZ cL  s.heap.size  p1 (nI k) ) (va_cwS 2 htB (zz_gS zk_15927651 zk_e84089c4 zk_91cc3b19 zk_3702f9eb) rfl rfl rfl zh_M_at ⟨Nat.le_of_ble_eq_true rfl, Nat.le_of_ble_eq_true rfl⟩) (zz_preS hP hD hK hE [] (by decide) rfl) rfl rfl hl.1 rfl (lv_room (Nat.le_of_ble_eq_true rfl)) zd_M_sumOf_44 ⟨Nat.le_of_ble_eq_true rfl, Nat.le_of_ble_eq_true rfl⟩) ?_
      refine va_lald hx hb hK hP 2 2 rfl rfl (zy_at hf (by omega)) zd_M_sumOf_47 ?_
      refine lv_ladd hx hb zd_M_sumOf_48 ?_
      refine lv_lstore_n (lv' := [(2, .long (x2 + (w4 (zf_M_at p1 (nI k)).toNatClampNeg))), (0, .ref a0), (1, .int p1), (4, .int (nI k))]) hx hb zd_M_sumOf_49 rfl hl (by decide) rfl (fun ls hl => ?_)
      refine lv_iinc (v := nI (k + 1)) (lv' := [(4, .int (nI (k + 1))), (2, .long (x2 + (w4 (zf_M_at p1 (nI k)).toNatClampNeg))), (0, .ref a0), (1, .int p1)]) hx hb zd_M_sumOf_50 hl (k := 3) rfl (nI_1 k) (by decide) rfl (fun ls hl => ?_)
      refine lv_goto (tgt := 5) hx hb zd_M_sumOf_53 (by decide) ?_
      rw [(show zf_M_sumOf_L5 w2 w4 p1 (mm + 1) k x2 = zf_M_sumOf_L5 w2 w4 p1 mm (k + 1) (x2 + (w4 (zf_M_at p1 (nI k)).toNatClampNeg)) from by rw [zf_M_sumOf_L5, if_neg c_30])]
      exact ih (k + 1) (by omega) (x2 + (w4 (zf_M_at p1 (nI k)).toNatClampNeg))   _ (lv_sub hl [2, 3, 1, 0] rfl)
    · refine lv_lconst (v := 0) hx hb zd_M_sumOf_33 (by decide) ?_
      refine lv_goto (tgt := 48) hx hb zd_M_sumOf_34 (by decide) ?_
      refine lv_ladd hx hb zd_M_sumOf_48 ?_
      refine lv_lstore_n (lv' := [(2, .long (x2 + 0)), (0, .ref a0), (1, .int p1), (4, .int (nI k))]) hx hb zd_M_sumOf_49 rfl hl (by decide) rfl (fun ls hl => ?_)
      refine lv_iinc (v := nI (k + 1)) (lv' := [(4, .int (nI (k + 1))), (2, .long (x2 + 0)), (0, .ref a0), (1, .int p1)]) hx hb zd_M_sumOf_50 hl (k := 3) rfl (nI_1 k) (by decide) rfl (fun ls hl => ?_)
      refine lv_goto (tgt := 5) hx hb zd_M_sumOf_53 (by decide) ?_
      rw [(show zf_M_sumOf_L5 w2 w4 p1 (mm + 1) k x2 = zf_M_sumOf_L5 w2 w4 p1 mm (k + 1) (x2 + 0) from by rw [zf_M_sumOf_L5, if_pos c_30])]
      exact ih (k + 1) (by omega) (x2 + 0)   _ (lv_sub hl [2, 3, 1, 0] rfl)
set_option maxHeartbeats 4000000 in
set_option maxRecDepth 100000 in
theorem zc_M_sumOf (l : Launch) (dC : Nat → ClassId) (dI : Nat → Nat → Nat) (cI cZ cL : ClassId) (a0 a1 a2 a3 a4 a5 a6 a7 : Nat) (sz : Nat) (w0 : Int32) (w1 : Int32) (w2 : Nat) (w3 : Nat → Int32) (w4 : Nat → Int64) (w5 : Int32) (w6 : Int32) (w7 : Nat) (w8 : Nat → Int64) (w9 : Nat → Int32) (w10 : Nat) (w11 : Nat → Int32) (w12 : Nat → Int32) (w13 : Nat → Int32) (w14 : Int32) (w15 : Int32) (w16 : Int32) (w17 : Int32) (w18 : Int32) (w19 : Int64) (w20 : Int32) (w21 : Int32) (p1 : Int32) (hm : w2 ≤ 30) (hf : ¬ p1 < 0) : Met l zy_M_sumOf (zz_ws zy_M_sumOf zb_M_sumOf 5 (some .long)) ({ frames := 1, cells := 0, slots := 0, locals := 21 } : Room) (va_Pc ([.ref a0, .int p1] : List Value) (zz_P (dC, dI) (zz_ty cI cZ cL) sz (zv_M cI cZ cL a0 a1 a2 a3 a4 a5 a6 a7 w0 w1 w2 w3 w4 w5 w6 w7 w8 w9 w10 w11 w12 w13 w14 w15 w16 w17 w18 w19 w20 w21))) (zz_Kl (zf_M_sumOf w2 w4 p1)) 0 0 (fun _ => False) := by
  refine zz_ofK (by decide) (Nat.le_of_ble_eq_true rfl) ?_
  intro p e s m below meth c C0 hK hP hD ls hl
  obtain ⟨hx, hb, hr, hml, hown, htB, hlocks, hE⟩ := id C0
  have hl : lv_has ls 5 [(0, .ref a0), (1, .int p1)] := hl
  refine lv_lconst (v := 0) hx hb zd_M_sumOf_0 (by decide) ?_
  refine lv_lstore_n (lv' := [(2, .long 0), (0, .ref a0), (1, .int p1)]) hx hb zd_M_sumOf_1 rfl hl (by decide) rfl (fun ls hl => ?_)
  refine lv_iconst (v := 1) hx hb zd_M_sumOf_2 (by decide) ?_
  refine lv_istore (lv' := [(4, .int 1), (2, .long 0), (0, .ref a0), (1, .int p1)]) hx hb zd_M_sumOf_3 hl (by decide) rfl (fun ls hl => ?_)
  rw [(show zf_M_sumOf w2 w4 p1 = zf_M_sumOf_L5 w2 w4 p1 w2 1 0 from by first | rfl | (rw [zf_M_sumOf]))]
  exact zp_M_sumOf_5 dC dI cI cZ cL a0 a1 a2 a3 a4 a5 a6 a7 w0 w1 w2 w3 w4 w5 w6 w7 w8 w9 w10 w11 w12 w13 w14 w15 w16 w17 w18 w19 w20 w21 p1 hm hf C0 hK hP hD w2 1 (by omega) 0   _ (lv_sub hl [2, 3, 1, 0] rfl)
set_option maxHeartbeats 4000000 in
set_option maxRecDepth 100000 in
theorem zp_M_isGood_5 {p : Program} {l : Launch} {e : Env} {s : State} {m : MethodId} {below : List Frame} {meth : Method} {c : Code} (dC : Nat → ClassId) (dI : Nat → Nat → Nat) (cI cZ cL : ClassId) (a0 a1 a2 a3 a4 a5 a6 a7 : Nat) (w0 : Int32) (w1 : Int32) (w2 : Nat) (w3 : Nat → Int32) (w4 : Nat → Int64) (w5 : Int32) (w6 : Int32) (w7 : Nat) (w8 : Nat → Int64) (w9 : Nat → Int32) (w10 : Nat) (w11 : Nat → Int32) (w12 : Nat → Int32) (w13 : Nat → Int32) (w14 : Int32) (w15 : Int32) (w16 : Int32) (w17 : Int32) (w18 : Int32) (w19 : Int64) (w20 : Int32) (w21 : Int32) (p1 : Int64) (hc : w7 ≤ 20) (C0 : zz_C p s m ([.ref a0, .long p1] : List Value).toArray meth c zb_M_isGood 5 (some .boolean) zy_M_isGood.cls) (hK : va_K (dC, dI) zz_cl (zz_ty cI cZ cL) s) (hP : va_P (dC, dI) zz_cl (zv_M cI cZ cL a0 a1 a2 a3 a4 a5 a6 a7 w0 w1 w2 w3 w4 w5 w6 w7 w8 w9 w10 w11 w12 w13 w14 w15 w16 w17 w18 w19 w20 w21) s.heap) (hD : va_D (fun _ => True) (zv_M cI cZ cL a0 a1 a2 a3 a4 a5 a6 a7 w0 w1 w2 w3 w4 w5 w6 w7 w8 w9 w10 w11 w12 w13 w14 w15 w16 w17 w18 w19 w20 w21)) :
    ∀ (mm k : Nat), k + mm = w7 → ∀ (x3 : Int32) (hb1 : narrow .boolean (.int x3) = .int x3), ∀ ls : Array Slot, lv_has ls 5 [(0, .ref a0), (1, .long p1), (3, .int x3), (4, .int (nI k))] →
    W p l e ({ frames := 0, cells := 0, slots := 0, locals := 0 } : Room) s m ([.ref a0, .long p1] : List Value).toArray below meth c s.heap [] 0 0 (MQ below (zz_Ki (zf_M_isGood_L5 w6 w7 w8 w9 p1 mm k x3)) ([.ref a0, .long p1] : List Value).toArray s 0 0 (fun _ => False)) (F0 m 5 ls []) := by
  obtain ⟨hx, hb, hr, hml, hown, htB, hlocks, hE⟩ := id C0
  intro mm
  induction mm with
  | zero =>
    intro k hk x3 hb1 ls hl
    refine lv_iload hx hb zd_M_isGood_5 (lv_at hl 3 rfl) ?_
    refine lv_aload_n hx hb zd_M_isGood_7 rfl (lv_at hl 0 rfl) ?_
    refine va_get (D := (dC, dI)) (ci := 5) (v := .int (nI w7)) (C := zr_M) (T := zF_M) (N := 22) hx hb htB zi_M hown hK hP 0 rfl rfl 7 (by decide) (htB _ zk_62906f57) (fun _ h9 => h9) rfl zd_M_isGood_8 ?_
    refine lv_icmp_ge (tgt := 56) hx hb zd_M_isGood_11 (by decide) (fun _ => ?_) (fun c_ => absurd (zz_geT (b := w7) rfl (by omega) (by omega)) c_)
    refine lv_iload_n hx hb zd_M_isGood_56 rfl (lv_at hl 2 rfl) ?_
    rw [(show zf_M_isGood_L5 w6 w7 w8 w9 p1 0 k x3 = x3 from by first | rfl | (rw [zf_M_isGood_L5]))]
    exact zz_kzret hx hb hr hlocks hb1 zd_M_isGood_57 rfl
  | succ mm ih =>
    intro k hk x3 hb1 ls hl
    refine lv_iload hx hb zd_M_isGood_5 (lv_at hl 3 rfl) ?_
    refine lv_aload_n hx hb zd_M_isGood_7 rfl (lv_at hl 0 rfl) ?_
    refine va_get (D := (dC, dI)) (ci := 5) (v := .int (nI w7)) (C := zr_M) (T := zF_M) (N := 22) hx hb htB zi_M hown hK hP 0 rfl rfl 7 (by decide) (htB _ zk_62906f57) (fun _ h9 => h9) rfl zd_M_isGood_8 ?_
    refine lv_icmp_ge (tgt := 56) hx hb zd_M_isGood_11 (by decide) (fun c_ => absurd c_ (zz_geF (b := w7) rfl (by omega) (by omega))) (fun _ => ?_)
    refine lv_iload_n hx hb zd_M_isGood_14 rfl (lv_at hl 2 rfl) ?_
    refine lv_if_ne (tgt := 44) hx hb zd_M_isGood_15 (by decide) (fun c_15 => ?_) (fun c_15 => ?_)
    · refine lv_iconst (v := 1) hx hb zd_M_isGood_44 (by decide) ?_
      refine lv_goto (tgt := 49) hx hb zd_M_isGood_45 (by decide) ?_
      refine lv_istore_n (lv' := [(3, .int 1), (0, .ref a0), (1, .long p1), (4, .int (nI k))]) hx hb zd_M_isGood_49 rfl hl (by decide) rfl (fun ls hl => ?_)
      refine lv_iinc (v := nI (k + 1)) (lv' := [(4, .int (nI (k + 1))), (3, .int 1), (0, .ref a0), (1, .long p1)]) hx hb zd_M_isGood_50 hl (k := 3) rfl (nI_1 k) (by decide) rfl (fun ls hl => ?_)
      refine lv_goto (tgt := 5) hx hb zd_M_isGood_53 (by decide) ?_
      rw [(show zf_M_isGood_L5 w6 w7 w8 w9 p1 (mm + 1) k x3 = zf_M_isGood_L5 w6 w7 w8 w9 p1 mm (k + 1) 1 from by rw [zf_M_isGood_L5, if_neg c_15])]
      exact ih (k + 1) (by omega) 1  (by first | exact narrow_b0 | exact narrow_b1) _ (lv_sub hl [2, 3, 1, 0] rfl)
    · refine lv_aload_n hx hb zd_M_isGood_18 rfl (lv_at hl 0 rfl) ?_
      refine va_get (D := (dC, dI)) (ci := 5) (v := .ref a3) (C := zr_M) (T := zF_M) (N := 22) hx hb htB zi_M hown hK hP 0 rfl rfl 8 (by decide) (htB _ zk_ce2632af) (fun _ h9 => h9) rfl zd_M_isGood_19 ?_
      refine lv_iload hx hb zd_M_isGood_22 (lv_at hl 3 rfl) ?_
      refine zz_lald hx hb hK hP 3 2 rfl rfl (by omega) (by decide) zd_M_isGood_24 ?_
      refine lv_lload_n hx hb zd_M_isGood_25 rfl (lv_at hl 1 rfl) ?_
      refine W.lcmp hx hb zd_M_isGood_26 ?_
      refine lv_if_ne (tgt := 48) hx hb zd_M_isGood_27 (by decide) (fun c_27 => ?_) (fun c_27 => ?_)
      · refine lv_iconst (v := 0) hx hb zd_M_isGood_48 (by decide) ?_
        refine lv_istore_n (lv' := [(3, .int 0), (0, .ref a0), (1, .long p1), (4, .int (nI k))]) hx hb zd_M_isGood_49 rfl hl (by decide) rfl (fun ls hl => ?_)
        refine lv_iinc (v := nI (k + 1)) (lv' := [(4, .int (nI (k + 1))), (3, .int 0), (0, .ref a0), (1, .long p1)]) hx hb zd_M_isGood_50 hl (k := 3) rfl (nI_1 k) (by decide) rfl (fun ls hl => ?_)
        refine lv_goto (tgt := 5) hx hb zd_M_isGood_53 (by decide) ?_
        rw [(show zf_M_isGood_L5 w6 w7 w8 w9 p1 (mm + 1) k x3 = zf_M_isGood_L5 w6 w7 w8 w9 p1 mm (k + 1) 0 from by rw [zf_M_isGood_L5, if_pos c_15, if_neg c_27])]
        exact ih (k + 1) (by omega) 0  (by first | exact narrow_b0 | exact narrow_b1) _ (lv_sub hl [2, 3, 1, 0] rfl)
      · refine lv_aload_n hx hb zd_M_isGood_30 rfl (lv_at hl 0 rfl) ?_
        refine va_get (D := (dC, dI)) (ci := 5) (v := .ref a4) (C := zr_M) (T := zF_M) (N := 22) hx hb htB zi_M hown hK hP 0 rfl rfl 9 (by decide) (htB _ zk_0faba23a) (fun _ h9 => h9) rfl zd_M_isGood_31 ?_
        refine lv_iload hx hb zd_M_isGood_34 (lv_at hl 3 rfl) ?_
        refine zz_iald hx hb hK hP 4 0 rfl rfl (by omega) (by decide) zd_M_isGood_36 ?_
        refine lv_aload_n hx hb zd_M_isGood_37 rfl (lv_at hl 0 rfl) ?_
        refine va_get (D := (dC, dI)) (ci := 5) (v := .int w6) (C := zr_M) (T := zF_M) (N := 22) hx hb htB zi_M hown hK hP 0 rfl rfl 6 (by decide) (htB _ zk_edcb0cfe) (fun _ h9 => h9) rfl zd_M_isGood_38 ?_
        refine lv_icmp_lt (tgt := 48) hx hb zd_M_isGood_41 (by decide) (fun c_41 => ?_) (fun c_41 => ?_)
        · refine lv_iconst (v := 0) hx hb zd_M_isGood_48 (by decide) ?_
          refine lv_istore_n (lv' := [(3, .int 0), (0, .ref a0), (1, .long p1), (4, .int (nI k))]) hx hb zd_M_isGood_49 rfl hl (by decide) rfl (fun ls hl => ?_)
          refine lv_iinc (v := nI (k + 1)) (lv' := [(4, .int (nI (k + 1))), (3, .int 0), (0, .ref a0), (1, .long p1)]) hx hb zd_M_isGood_50 hl (k := 3) rfl (nI_1 k) (by decide) rfl (fun ls hl => ?_)
          refine lv_goto (tgt := 5) hx hb zd_M_isGood_53 (by decide) ?_
          rw [(show zf_M_isGood_L5 w6 w7 w8 w9 p1 (mm + 1) k x3 = zf_M_isGood_L5 w6 w7 w8 w9 p1 mm (k + 1) 0 from by rw [zf_M_isGood_L5, if_pos c_15, if_pos c_27, if_pos c_41])]
          exact ih (k + 1) (by omega) 0  (by first | exact narrow_b0 | exact narrow_b1) _ (lv_sub hl [2, 3, 1, 0] rfl)
        · refine lv_iconst (v := 1) hx hb zd_M_isGood_44 (by decide) ?_
          refine lv_goto (tgt := 49) hx hb zd_M_isGood_45 (by decide) ?_
          refine lv_istore_n (lv' := [(3, .int 1), (0, .ref a0), (1, .long p1), (4, .int (nI k))]) hx hb zd_M_isGood_49 rfl hl (by decide) rfl (fun ls hl => ?_)
          refine lv_iinc (v := nI (k + 1)) (lv' := [(4, .int (nI (k + 1))), (3, .int 1), (0, .ref a0), (1, .long p1)]) hx hb zd_M_isGood_50 hl (k := 3) rfl (nI_1 k) (by decide) rfl (fun ls hl => ?_)
          refine lv_goto (tgt := 5) hx hb zd_M_isGood_53 (by decide) ?_
          rw [(show zf_M_isGood_L5 w6 w7 w8 w9 p1 (mm + 1) k x3 = zf_M_isGood_L5 w6 w7 w8 w9 p1 mm (k + 1) 1 from by rw [zf_M_isGood_L5, if_pos c_15, if_pos c_27, if_neg c_41])]
          exact ih (k + 1) (by omega) 1  (by first | exact narrow_b0 | exact narrow_b1) _ (lv_sub hl [2, 3, 1, 0] rfl)
set_option maxHeartbeats 4000000 in
set_option maxRecDepth 100000 in
theorem zc_M_isGood (l : Launch) (dC : Nat → ClassId) (dI : Nat → Nat → Nat) (cI cZ cL : ClassId) (a0 a1 a2 a3 a4 a5 a6 a7 : Nat) (sz : Nat) (w0 : Int32) (w1 : Int32) (w2 : Nat) (w3 : Nat → Int32) (w4 : Nat → Int64) (w5 : Int32) (w6 : Int32) (w7 : Nat) (w8 : Nat → Int64) (w9 : Nat → Int32) (w10 : Nat) (w11 : Nat → Int32) (w12 : Nat → Int32) (w13 : Nat → Int32) (w14 : Int32) (w15 : Int32) (w16 : Int32) (w17 : Int32) (w18 : Int32) (w19 : Int64) (w20 : Int32) (w21 : Int32) (p1 : Int64) (hc : w7 ≤ 20) : Met l zy_M_isGood (zz_ws zy_M_isGood zb_M_isGood 5 (some .boolean)) ({ frames := 0, cells := 0, slots := 0, locals := 0 } : Room) (va_Pc ([.ref a0, .long p1] : List Value) (zz_P (dC, dI) (zz_ty cI cZ cL) sz (zv_M cI cZ cL a0 a1 a2 a3 a4 a5 a6 a7 w0 w1 w2 w3 w4 w5 w6 w7 w8 w9 w10 w11 w12 w13 w14 w15 w16 w17 w18 w19 w20 w21))) (zz_Ki (zf_M_isGood w6 w7 w8 w9 p1)) 0 0 (fun _ => False) := by
  refine zz_ofK (by decide) (Nat.le_of_ble_eq_true rfl) ?_
  intro p e s m below meth c C0 hK hP hD ls hl
  obtain ⟨hx, hb, hr, hml, hown, htB, hlocks, hE⟩ := id C0
  have hl : lv_has ls 5 [(0, .ref a0), (1, .long p1)] := hl
  refine lv_iconst (v := 0) hx hb zd_M_isGood_0 (by decide) ?_
  refine lv_istore_n (lv' := [(3, .int 0), (0, .ref a0), (1, .long p1)]) hx hb zd_M_isGood_1 rfl hl (by decide) rfl (fun ls hl => ?_)
  refine lv_iconst (v := 0) hx hb zd_M_isGood_2 (by decide) ?_
  refine lv_istore (lv' := [(4, .int 0), (3, .int 0), (0, .ref a0), (1, .long p1)]) hx hb zd_M_isGood_3 hl (by decide) rfl (fun ls hl => ?_)
  rw [(show zf_M_isGood w6 w7 w8 w9 p1 = zf_M_isGood_L5 w6 w7 w8 w9 p1 w7 0 0 from by first | rfl | (rw [zf_M_isGood]))]
  exact zp_M_isGood_5 dC dI cI cZ cL a0 a1 a2 a3 a4 a5 a6 a7 w0 w1 w2 w3 w4 w5 w6 w7 w8 w9 w10 w11 w12 w13 w14 w15 w16 w17 w18 w19 w20 w21 p1 hc C0 hK hP hD w7 0 (by omega) 0  narrow_b0 _ (lv_sub hl [2, 3, 1, 0] rfl)
set_option maxHeartbeats 4000000 in
set_option maxRecDepth 100000 in
theorem zc_M_isSum (l : Launch) (dC : Nat → ClassId) (dI : Nat → Nat → Nat) (cI cZ cL : ClassId) (a0 a1 a2 a3 a4 a5 a6 a7 : Nat) (sz : Nat) (w0 : Int32) (w1 : Int32) (w2 : Nat) (w3 : Nat → Int32) (w4 : Nat → Int64) (w5 : Int32) (w6 : Int32) (w7 : Nat) (w8 : Nat → Int64) (w9 : Nat → Int32) (w10 : Nat) (w11 : Nat → Int32) (w12 : Nat → Int32) (w13 : Nat → Int32) (w14 : Int32) (w15 : Int32) (w16 : Int32) (w17 : Int32) (w18 : Int32) (w19 : Int64) (w20 : Int32) (w21 : Int32) (p1 : Int32) (hm : w2 ≤ 30) (h23 : p1 = 2 ∨ p1 = 3) : Met l zy_M_isSum (zz_ws zy_M_isSum zb_M_isSum 2 (some .boolean)) ({ frames := 2, cells := 0, slots := 0, locals := 45 } : Room) (va_Pc ([.ref a0, .int p1] : List Value) (zz_P (dC, dI) (zz_ty cI cZ cL) sz (zv_M cI cZ cL a0 a1 a2 a3 a4 a5 a6 a7 w0 w1 w2 w3 w4 w5 w6 w7 w8 w9 w10 w11 w12 w13 w14 w15 w16 w17 w18 w19 w20 w21))) (zz_Ki (zf_M_isSum w2 w4 p1)) 0 0 (fun _ => False) := by
  refine zz_ofK (by decide) (Nat.le_of_ble_eq_true rfl) ?_
  intro p e s m below meth c C0 hK hP hD ls hl
  obtain ⟨hx, hb, hr, hml, hown, htB, hlocks, hE⟩ := id C0
  have hl : lv_has ls 2 [(0, .ref a0), (1, .int p1)] := hl
  refine lv_aload_n hx hb zd_M_isSum_0 rfl (lv_at hl 0 rfl) ?_
  refine va_get (D := (dC, dI)) (ci := 5) (v := .ref a2) (C := zr_M) (T := zF_M) (N := 22) hx hb htB zi_M hown hK hP 0 rfl rfl 4 (by decide) (htB _ zk_8e1cf9a2) (fun _ h9 => h9) rfl zd_M_isSum_1 ?_
  refine lv_iload_n hx hb zd_M_isSum_4 rfl (lv_at hl 1 rfl) ?_
  refine va_lald hx hb hK hP 2 2 rfl rfl (zy_23 h23) zd_M_isSum_5 ?_
  refine lv_ldc2 (v := (-1)) hx hb hown (htB _ zk_1ad41f20) zd_M_isSum_6 ?_
  refine W.lcmp hx hb zd_M_isSum_9 ?_
  refine lv_if_eq (tgt := 31) hx hb zd_M_isSum_10 (by decide) (fun c_10 => ?_) (fun c_10 => ?_)
  · refine lv_iconst (v := 1) hx hb zd_M_isSum_31 (by decide) ?_
    refine lv_goto (tgt := 36) hx hb zd_M_isSum_32 (by decide) ?_
    rw [(show zf_M_isSum w2 w4 p1 = 1 from by rw [zf_M_isSum, if_pos c_10])]
    exact zz_kzret hx hb hr hlocks narrow_b1 zd_M_isSum_36 rfl
  · refine lv_aload_n hx hb zd_M_isSum_13 rfl (lv_at hl 0 rfl) ?_
    refine va_get (D := (dC, dI)) (ci := 5) (v := .ref a2) (C := zr_M) (T := zF_M) (N := 22) hx hb htB zi_M hown hK hP 0 rfl rfl 4 (by decide) (htB _ zk_8e1cf9a2) (fun _ h9 => h9) rfl zd_M_isSum_14 ?_
    refine lv_iload_n hx hb zd_M_isSum_17 rfl (lv_at hl 1 rfl) ?_
    refine va_lald hx hb hK hP 2 2 rfl rfl (zy_23 h23) zd_M_isSum_18 ?_
    refine lv_aload_n hx hb zd_M_isSum_19 rfl (lv_at hl 0 rfl) ?_
    refine lv_iload_n hx hb zd_M_isSum_20 rfl (lv_at hl 1 rfl) ?_
    refine lv_bipush (v := 10) hx hb zd_M_isSum_21 (by decide) ?_
    refine lv_iadd hx hb zd_M_isSum_23 ?_
    refine zz_kl (va_runV (As := [.int (p1 + 10)]) (rest := [.long (w4 p1.toNatClampNeg)]) ⟨hx, hb, hml, hown, htB⟩ (zc_M_sumOf l dC dI cI cZ cL a0 a1 a2 a3 a4 a5 a6 a7 s.heap.size w0 w1 w2 w3 w4 w5 w6 w7 w8 w9 w10 w11 w12 w13 w14 w15 w16 w17 w18 w19 w20 w21 (p1 + 10) hm (zy_23f h23)) (cwV 1 htB (zz_gV zk_fe3892f0 zk_fb867ac0 zk_2ca8367b zk_91cc3b19 zk_c94fa12d) rfl rfl rfl ⟨rfl, zh_M_sumOf⟩ ⟨Nat.le_of_ble_eq_true rfl, Nat.le_of_ble_eq_true rfl⟩) (zz_preV (ci := 5) (q := (zr_M, zF_M, 22)) hP hD hK hE [0, 1, 2, 3, 4, 5, 6, 7] (by decide) rfl rfl rfl) rfl rfl hl.1 rfl (lv_room (Nat.le_of_ble_eq_true rfl)) zd_M_isSum_24 ⟨Nat.le_of_ble_eq_true rfl, Nat.le_of_ble_eq_true rfl⟩) ?_
    refine W.lcmp hx hb zd_M_isSum_27 ?_
    refine lv_if_ne (tgt := 35) hx hb zd_M_isSum_28 (by decide) (fun c_28 => ?_) (fun c_28 => ?_)
    · refine lv_iconst (v := 0) hx hb zd_M_isSum_35 (by decide) ?_
      rw [(show zf_M_isSum w2 w4 p1 = 0 from by rw [zf_M_isSum, if_neg c_10, if_neg c_28])]
      exact zz_kzret hx hb hr hlocks narrow_b0 zd_M_isSum_36 rfl
    · refine lv_iconst (v := 1) hx hb zd_M_isSum_31 (by decide) ?_
      refine lv_goto (tgt := 36) hx hb zd_M_isSum_32 (by decide) ?_
      rw [(show zf_M_isSum w2 w4 p1 = 1 from by rw [zf_M_isSum, if_neg c_10, if_pos c_28])]
      exact zz_kzret hx hb hr hlocks narrow_b1 zd_M_isSum_36 rfl
