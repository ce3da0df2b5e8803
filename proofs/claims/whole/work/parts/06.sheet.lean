set_option maxHeartbeats 4000000 in
set_option maxRecDepth 100000 in
theorem zc_X_isValue (l : Launch) (dC : Nat → ClassId) (dI : Nat → Nat → Nat) (cI cZ cL : ClassId) (sz : Nat) (p0 : Int64)  : Met l zy_X_isValue (zz_ws zy_X_isValue zb_X_isValue 2 (some .boolean)) ({ frames := 0, cells := 0, slots := 0, locals := 0 } : Room) (va_Pc ([.long p0] : List Value) (zz_P (dC, dI) (zz_ty cI cZ cL) sz [])) (zz_Ki (zf_X_isValue p0)) 0 0 (fun _ => False) := by
  refine zz_ofK (by decide) (Nat.le_of_ble_eq_true rfl) ?_
  intro p e s m below meth c C0 hK hP hD ls hl
  obtain ⟨hx, hb, hr, hml, hown, htB, hlocks, hE⟩ := id C0
  have hl : lv_has ls 2 [(0, .long p0)] := hl
  refine lv_lload_n hx hb zd_X_isValue_0 rfl (lv_at hl 0 rfl) ?_
  refine lv_lconst (v := 0) hx hb zd_X_isValue_1 (by decide) ?_
  refine W.lcmp hx hb zd_X_isValue_2 ?_
  refine lv_if_lt (tgt := 18) hx hb zd_X_isValue_3 (by decide) (fun c_3 => ?_) (fun c_3 => ?_)
  · refine lv_iconst (v := 0) hx hb zd_X_isValue_18 (by decide) ?_
    rw [(show zf_X_isValue p0 = 0 from by rw [zf_X_isValue, if_pos c_3])]
    exact zz_kzret hx hb hr hlocks narrow_b0 zd_X_isValue_19 rfl
  · refine lv_lload_n hx hb zd_X_isValue_6 rfl (lv_at hl 0 rfl) ?_
    refine lv_ldc2 (v := 1000000000) hx hb hown (htB _ zk_51b6b441) zd_X_isValue_7 ?_
    refine W.lcmp hx hb zd_X_isValue_10 ?_
    refine lv_if_gt (tgt := 18) hx hb zd_X_isValue_11 (by decide) (fun c_11 => ?_) (fun c_11 => ?_)
    · refine lv_iconst (v := 0) hx hb zd_X_isValue_18 (by decide) ?_
      rw [(show zf_X_isValue p0 = 0 from by rw [zf_X_isValue, if_neg c_3, if_pos c_11])]
      exact zz_kzret hx hb hr hlocks narrow_b0 zd_X_isValue_19 rfl
    · refine lv_iconst (v := 1) hx hb zd_X_isValue_14 (by decide) ?_
      refine lv_goto (tgt := 19) hx hb zd_X_isValue_15 (by decide) ?_
      rw [(show zf_X_isValue p0 = 1 from by rw [zf_X_isValue, if_neg c_3, if_neg c_11])]
      exact zz_kzret hx hb hr hlocks narrow_b1 zd_X_isValue_19 rfl
set_option maxHeartbeats 4000000 in
set_option maxRecDepth 100000 in
theorem zc_X_needBy (l : Launch) (dC : Nat → ClassId) (dI : Nat → Nat → Nat) (cI cZ cL : ClassId) (sz : Nat) (p0 : Int32) (p1 : Int32)  : Met l zy_X_needBy (zz_ws zy_X_needBy zb_X_needBy 2 (some .int)) ({ frames := 0, cells := 0, slots := 0, locals := 0 } : Room) (va_Pc ([.int p0, .int p1] : List Value) (zz_P (dC, dI) (zz_ty cI cZ cL) sz [])) (zz_Ki (zf_X_needBy p0 p1)) 0 0 (fun _ => False) := by
  refine zz_ofK (by decide) (Nat.le_of_ble_eq_true rfl) ?_
  intro p e s m below meth c C0 hK hP hD ls hl
  obtain ⟨hx, hb, hr, hml, hown, htB, hlocks, hE⟩ := id C0
  have hl : lv_has ls 2 [(0, .int p0), (1, .int p1)] := hl
  refine lv_iconst (v := 3) hx hb zd_X_needBy_0 (by decide) ?_
  refine lv_iload_n hx hb zd_X_needBy_1 rfl (lv_at hl 1 rfl) ?_
  refine lv_imul hx hb zd_X_needBy_2 ?_
  refine lv_iconst (v := 5) hx hb zd_X_needBy_3 (by decide) ?_
  refine lv_iload_n hx hb zd_X_needBy_4 rfl (lv_at hl 0 rfl) ?_
  refine lv_imul hx hb zd_X_needBy_5 ?_
  refine lv_iadd hx hb zd_X_needBy_6 ?_
  refine lv_iconst (v := 4) hx hb zd_X_needBy_7 (by decide) ?_
  refine lv_irem hx hb zd_X_needBy_8 (by decide) ?_
  rw [(show zf_X_needBy p0 p1 = ((3 * p1) + (5 * p0)) - ((3 * p1) + (5 * p0)) / 4 * 4 from by first | rfl | (rw [zf_X_needBy]))]
  exact zz_kiret hx hb hr hlocks zd_X_needBy_9 rfl
set_option maxHeartbeats 4000000 in
set_option maxRecDepth 100000 in
theorem zc_X_lineOf (l : Launch) (dC : Nat → ClassId) (dI : Nat → Nat → Nat) (cI cZ cL : ClassId) (sz : Nat) (p0 : Int32)  : Met l zy_X_lineOf (zz_ws zy_X_lineOf zb_X_lineOf 1 (some .int)) ({ frames := 0, cells := 0, slots := 0, locals := 0 } : Room) (va_Pc ([.int p0] : List Value) (zz_P (dC, dI) (zz_ty cI cZ cL) sz [])) (zz_Ki (zf_X_lineOf p0)) 0 0 (fun _ => False) := by
  refine zz_ofK (by decide) (Nat.le_of_ble_eq_true rfl) ?_
  intro p e s m below meth c C0 hK hP hD ls hl
  obtain ⟨hx, hb, hr, hml, hown, htB, hlocks, hE⟩ := id C0
  have hl : lv_has ls 1 [(0, .int p0)] := hl
  refine lv_iload_n hx hb zd_X_lineOf_0 rfl (lv_at hl 0 rfl) ?_
  refine lv_bipush (v := 10) hx hb zd_X_lineOf_1 (by decide) ?_
  refine lv_idiv hx hb zd_X_lineOf_3 (by decide) ?_
  rw [(show zf_X_lineOf p0 = p0 / 10 from by first | rfl | (rw [zf_X_lineOf]))]
  exact zz_kiret hx hb hr hlocks zd_X_lineOf_4 rfl
set_option maxHeartbeats 4000000 in
set_option maxRecDepth 100000 in
theorem zc_X_fieldOf (l : Launch) (dC : Nat → ClassId) (dI : Nat → Nat → Nat) (cI cZ cL : ClassId) (sz : Nat) (p0 : Int32)  : Met l zy_X_fieldOf (zz_ws zy_X_fieldOf zb_X_fieldOf 1 (some .int)) ({ frames := 0, cells := 0, slots := 0, locals := 0 } : Room) (va_Pc ([.int p0] : List Value) (zz_P (dC, dI) (zz_ty cI cZ cL) sz [])) (zz_Ki (zf_X_fieldOf p0)) 0 0 (fun _ => False) := by
  refine zz_ofK (by decide) (Nat.le_of_ble_eq_true rfl) ?_
  intro p e s m below meth c C0 hK hP hD ls hl
  obtain ⟨hx, hb, hr, hml, hown, htB, hlocks, hE⟩ := id C0
  have hl : lv_has ls 1 [(0, .int p0)] := hl
  refine lv_iload_n hx hb zd_X_fieldOf_0 rfl (lv_at hl 0 rfl) ?_
  refine lv_bipush (v := 10) hx hb zd_X_fieldOf_1 (by decide) ?_
  refine lv_icmp_ge (tgt := 10) hx hb zd_X_fieldOf_3 (by decide) (fun c_3 => ?_) (fun c_3 => ?_)
  · refine lv_bipush (v := 10) hx hb zd_X_fieldOf_10 (by decide) ?_
    refine lv_iload_n hx hb zd_X_fieldOf_12 rfl (lv_at hl 0 rfl) ?_
    refine lv_bipush (v := 10) hx hb zd_X_fieldOf_13 (by decide) ?_
    refine lv_irem hx hb zd_X_fieldOf_15 (by decide) ?_
    refine lv_iadd hx hb zd_X_fieldOf_16 ?_
    rw [(show zf_X_fieldOf p0 = 10 + (p0 - p0 / 10 * 10) from by rw [zf_X_fieldOf, if_pos c_3])]
    exact zz_kiret hx hb hr hlocks zd_X_fieldOf_17 rfl
  · refine lv_iload_n hx hb zd_X_fieldOf_6 rfl (lv_at hl 0 rfl) ?_
    refine lv_goto (tgt := 17) hx hb zd_X_fieldOf_7 (by decide) ?_
    rw [(show zf_X_fieldOf p0 = p0 from by rw [zf_X_fieldOf, if_neg c_3])]
    exact zz_kiret hx hb hr hlocks zd_X_fieldOf_17 rfl
set_option maxHeartbeats 4000000 in
set_option maxRecDepth 100000 in
theorem zc_X_placeOf (l : Launch) (dC : Nat → ClassId) (dI : Nat → Nat → Nat) (cI cZ cL : ClassId) (sz : Nat) (p0 : Int32)  : Met l zy_X_placeOf (zz_ws zy_X_placeOf zb_X_placeOf 1 (some .int)) ({ frames := 1, cells := 0, slots := 0, locals := 20 } : Room) (va_Pc ([.int p0] : List Value) (zz_P (dC, dI) (zz_ty cI cZ cL) sz [])) (zz_Ki (zf_X_placeOf p0)) 0 0 (fun _ => False) := by
  refine zz_ofK (by decide) (Nat.le_of_ble_eq_true rfl) ?_
  intro p e s m below meth c C0 hK hP hD ls hl
  obtain ⟨hx, hb, hr, hml, hown, htB, hlocks, hE⟩ := id C0
  have hl : lv_has ls 1 [(0, .int p0)] := hl
  refine lv_bipush (v := 100) hx hb zd_X_placeOf_0 (by decide) ?_
  refine lv_iload_n hx hb zd_X_placeOf_2 rfl (lv_at hl 0 rfl) ?_
  refine zz_ki (va_runS (As := [.int p0]) (rest := [.int 100]) ⟨hx, hb, hml, hown, htB⟩ (zc_X_lineOf l dC dI cI cZ cL  s.heap.size  p0 ) (va_cwS 1 htB (zz_gS zk_fcb9702c zk_bd1d2622 zk_cfe38e2e zk_7540bdb8) rfl rfl rfl zh_X_lineOf ⟨Nat.le_of_ble_eq_true rfl, Nat.le_of_ble_eq_true rfl⟩) (zz_preS hP hD hK hE [] (by decide) rfl) rfl rfl hl.1 rfl (lv_room (Nat.le_of_ble_eq_true rfl)) zd_X_placeOf_3 ⟨Nat.le_of_ble_eq_true rfl, Nat.le_of_ble_eq_true rfl⟩) ?_
  refine lv_imul hx hb zd_X_placeOf_6 ?_
  refine lv_iload_n hx hb zd_X_placeOf_7 rfl (lv_at hl 0 rfl) ?_
  refine zz_ki (va_runS (As := [.int p0]) (rest := [.int (100 * (zf_X_lineOf p0))]) ⟨hx, hb, hml, hown, htB⟩ (zc_X_fieldOf l dC dI cI cZ cL  s.heap.size  p0 ) (va_cwS 1 htB (zz_gS zk_a091db21 zk_82f2c4f0 zk_cfe38e2e zk_1944e685) rfl rfl rfl zh_X_fieldOf ⟨Nat.le_of_ble_eq_true rfl, Nat.le_of_ble_eq_true rfl⟩) (zz_preS hP hD hK hE [] (by decide) rfl) rfl rfl hl.1 rfl (lv_room (Nat.le_of_ble_eq_true rfl)) zd_X_placeOf_8 ⟨Nat.le_of_ble_eq_true rfl, Nat.le_of_ble_eq_true rfl⟩) ?_
  refine lv_iadd hx hb zd_X_placeOf_11 ?_
  rw [(show zf_X_placeOf p0 = (100 * (zf_X_lineOf p0)) + (zf_X_fieldOf p0) from by first | rfl | (rw [zf_X_placeOf]))]
  exact zz_kiret hx hb hr hlocks zd_X_placeOf_12 rfl
set_option maxHeartbeats 4000000 in
set_option maxRecDepth 100000 in
theorem zc_X_byteOf (l : Launch) (dC : Nat → ClassId) (dI : Nat → Nat → Nat) (cI cZ cL : ClassId) (sz : Nat) (p0 : Int32) (p1 : Int32)  : Met l zy_X_byteOf (zz_ws zy_X_byteOf zb_X_byteOf 2 (some .byte)) ({ frames := 0, cells := 0, slots := 0, locals := 0 } : Room) (va_Pc ([.int p0, .int p1] : List Value) (zz_P (dC, dI) (zz_ty cI cZ cL) sz [])) (zz_Ki (zf_X_byteOf p0 p1)) 0 0 (fun _ => False) := by
  refine zz_ofK (by decide) (Nat.le_of_ble_eq_true rfl) ?_
  intro p e s m below meth c C0 hK hP hD ls hl
  obtain ⟨hx, hb, hr, hml, hown, htB, hlocks, hE⟩ := id C0
  have hl : lv_has ls 2 [(0, .int p0), (1, .int p1)] := hl
  refine lv_iload_n hx hb zd_X_byteOf_0 rfl (lv_at hl 0 rfl) ?_
  refine lv_bipush (v := 8) hx hb zd_X_byteOf_1 (by decide) ?_
  refine lv_iload_n hx hb zd_X_byteOf_3 rfl (lv_at hl 1 rfl) ?_
  refine lv_imul hx hb zd_X_byteOf_4 ?_
  refine lv_iushr hx hb zd_X_byteOf_5 rfl ?_
  refine lv_i2b hx hb zd_X_byteOf_6 rfl ?_
  rw [(show zf_X_byteOf p0 p1 = ((p0.toUInt32 >>> ((8 * p1).toUInt32 &&& Int32.toUInt32 31)).toInt32).toInt8.toInt32 from by first | rfl | (rw [zf_X_byteOf]))]
  exact zz_kzret hx hb hr hlocks (pk_nb _) zd_X_byteOf_7 rfl
set_option maxHeartbeats 4000000 in
set_option maxRecDepth 100000 in
theorem zc_S_isFull (l : Launch) (dC : Nat → ClassId) (dI : Nat → Nat → Nat) (cI cZ cL : ClassId) (a0 a1 a2 : Nat) (sz : Nat) (st : zu_S)  : Met l zy_S_isFull (zz_ws zy_S_isFull zb_S_isFull 1 (some .boolean)) ({ frames := 0, cells := 0, slots := 0, locals := 0 } : Room) (va_Pc ([.ref a0] : List Value) (zz_P (dC, dI) (zz_ty cI cZ cL) sz (zw_S cI cZ cL a0 a1 a2 st))) (zz_Ki (zf_S_isFull st)) 0 0 (fun _ => False) := by
  refine zz_ofK (by decide) (Nat.le_of_ble_eq_true rfl) ?_
  intro p e s m below meth c C0 hK hP hD ls hl
  obtain ⟨hx, hb, hr, hml, hown, htB, hlocks, hE⟩ := id C0
  have hl : lv_has ls 1 [(0, .ref a0)] := hl
  refine lv_aload_n hx hb zd_S_isFull_0 rfl (lv_at hl 0 rfl) ?_
  refine va_get (D := (dC, dI)) (ci := 1) (v := .int (nI st.2.2.1)) (C := zr_S) (T := zF_S) (N := 5) hx hb htB zi_S hown hK hP 0 rfl rfl 2 (by decide) (htB _ zk_a32d7426) (fun _ h9 => h9) rfl zd_S_isFull_1 ?_
  refine lv_bipush (v := 30) hx hb zd_S_isFull_4 (by decide) ?_
  refine lv_icmp_lt (tgt := 13) hx hb zd_S_isFull_6 (by decide) (fun c_6 => ?_) (fun c_6 => ?_)
  · refine lv_iconst (v := 0) hx hb zd_S_isFull_13 (by decide) ?_
    rw [(show zf_S_isFull st = 0 from by rw [zf_S_isFull, if_pos c_6])]
    exact zz_kzret hx hb hr hlocks narrow_b0 zd_S_isFull_14 rfl
  · refine lv_iconst (v := 1) hx hb zd_S_isFull_9 (by decide) ?_
    refine lv_goto (tgt := 14) hx hb zd_S_isFull_10 (by decide) ?_
    rw [(show zf_S_isFull st = 1 from by rw [zf_S_isFull, if_neg c_6])]
    exact zz_kzret hx hb hr hlocks narrow_b1 zd_S_isFull_14 rfl
set_option maxHeartbeats 4000000 in
set_option maxRecDepth 100000 in
theorem zc_S_hasLine (l : Launch) (dC : Nat → ClassId) (dI : Nat → Nat → Nat) (cI cZ cL : ClassId) (a0 a1 a2 : Nat) (sz : Nat) (st : zu_S) (p1 : Int32)  : Met l zy_S_hasLine (zz_ws zy_S_hasLine zb_S_hasLine 2 (some .boolean)) ({ frames := 0, cells := 0, slots := 0, locals := 0 } : Room) (va_Pc ([.ref a0, .int p1] : List Value) (zz_P (dC, dI) (zz_ty cI cZ cL) sz (zw_S cI cZ cL a0 a1 a2 st))) (zz_Ki (zf_S_hasLine st p1)) 0 0 (fun _ => False) := by
  refine zz_ofK (by decide) (Nat.le_of_ble_eq_true rfl) ?_
  intro p e s m below meth c C0 hK hP hD ls hl
  obtain ⟨hx, hb, hr, hml, hown, htB, hlocks, hE⟩ := id C0
  have hl : lv_has ls 2 [(0, .ref a0), (1, .int p1)] := hl
  refine lv_iload_n hx hb zd_S_hasLine_0 rfl (lv_at hl 1 rfl) ?_
  refine lv_iconst (v := 1) hx hb zd_S_hasLine_1 (by decide) ?_
  refine lv_icmp_lt (tgt := 24) hx hb zd_S_hasLine_2 (by decide) (fun c_2 => ?_) (fun c_2 => ?_)
  · refine lv_iconst (v := 0) hx hb zd_S_hasLine_24 (by decide) ?_
    rw [(show zf_S_hasLine st p1 = 0 from by rw [zf_S_hasLine, if_pos c_2])]
    exact zz_kzret hx hb hr hlocks narrow_b0 zd_S_hasLine_25 rfl
  · refine lv_iload_n hx hb zd_S_hasLine_5 rfl (lv_at hl 1 rfl) ?_
    refine lv_bipush (v := 30) hx hb zd_S_hasLine_6 (by decide) ?_
    refine lv_icmp_gt (tgt := 24) hx hb zd_S_hasLine_8 (by decide) (fun c_8 => ?_) (fun c_8 => ?_)
    · refine lv_iconst (v := 0) hx hb zd_S_hasLine_24 (by decide) ?_
      rw [(show zf_S_hasLine st p1 = 0 from by rw [zf_S_hasLine, if_neg c_2, if_pos c_8])]
      exact zz_kzret hx hb hr hlocks narrow_b0 zd_S_hasLine_25 rfl
    · refine lv_aload_n hx hb zd_S_hasLine_11 rfl (lv_at hl 0 rfl) ?_
      refine va_get (D := (dC, dI)) (ci := 1) (v := .ref a2) (C := zr_S) (T := zF_S) (N := 5) hx hb htB zi_S hown hK hP 0 rfl rfl 1 (by decide) (htB _ zk_641e4f57) (fun _ h9 => h9) rfl zd_S_hasLine_12 ?_
      refine lv_iload_n hx hb zd_S_hasLine_15 rfl (lv_at hl 1 rfl) ?_
      refine va_zald hx hb hK hP 2 1 rfl rfl (zx_line c_2 c_8) zd_S_hasLine_16 ?_
      refine lv_if_eq (tgt := 24) hx hb zd_S_hasLine_17 (by decide) (fun c_17 => ?_) (fun c_17 => ?_)
      · refine lv_iconst (v := 0) hx hb zd_S_hasLine_24 (by decide) ?_
        rw [(show zf_S_hasLine st p1 = 0 from by rw [zf_S_hasLine, if_neg c_2, if_neg c_8, if_pos c_17])]
        exact zz_kzret hx hb hr hlocks narrow_b0 zd_S_hasLine_25 rfl
      · refine lv_iconst (v := 1) hx hb zd_S_hasLine_20 (by decide) ?_
        refine lv_goto (tgt := 25) hx hb zd_S_hasLine_21 (by decide) ?_
        rw [(show zf_S_hasLine st p1 = 1 from by rw [zf_S_hasLine, if_neg c_2, if_neg c_8, if_neg c_17])]
        exact zz_kzret hx hb hr hlocks narrow_b1 zd_S_hasLine_25 rfl
set_option maxHeartbeats 4000000 in
set_option maxRecDepth 100000 in
theorem zc_S_lineCount (l : Launch) (dC : Nat → ClassId) (dI : Nat → Nat → Nat) (cI cZ cL : ClassId) (a0 a1 a2 : Nat) (sz : Nat) (st : zu_S)  : Met l zy_S_lineCount (zz_ws zy_S_lineCount zb_S_lineCount 1 (some .int)) ({ frames := 0, cells := 0, slots := 0, locals := 0 } : Room) (va_Pc ([.ref a0] : List Value) (zz_P (dC, dI) (zz_ty cI cZ cL) sz (zw_S cI cZ cL a0 a1 a2 st))) (zz_Ki (zf_S_lineCount st)) 0 0 (fun _ => False) := by
  refine zz_ofK (by decide) (Nat.le_of_ble_eq_true rfl) ?_
  intro p e s m below meth c C0 hK hP hD ls hl
  obtain ⟨hx, hb, hr, hml, hown, htB, hlocks, hE⟩ := id C0
  have hl : lv_has ls 1 [(0, .ref a0)] := hl
  refine lv_aload_n hx hb zd_S_lineCount_0 rfl (lv_at hl 0 rfl) ?_
  refine va_get (D := (dC, dI)) (ci := 1) (v := .int st.2.2.2.1) (C := zr_S) (T := zF_S) (N := 5) hx hb htB zi_S hown hK hP 0 rfl rfl 3 (by decide) (htB _ zk_69f5fb79) (fun _ h9 => h9) rfl zd_S_lineCount_1 ?_
  rw [(show zf_S_lineCount st = st.2.2.2.1 from by first | rfl | (rw [zf_S_lineCount]))]
  exact zz_kiret hx hb hr hlocks zd_S_lineCount_4 rfl
set_option maxHeartbeats 4000000 in
set_option maxRecDepth 100000 in
theorem zc_S_setCount (l : Launch) (dC : Nat → ClassId) (dI : Nat → Nat → Nat) (cI cZ cL : ClassId) (a0 a1 a2 : Nat) (sz : Nat) (st : zu_S)  : Met l zy_S_setCount (zz_ws zy_S_setCount zb_S_setCount 1 (some .int)) ({ frames := 0, cells := 0, slots := 0, locals := 0 } : Room) (va_Pc ([.ref a0] : List Value) (zz_P (dC, dI) (zz_ty cI cZ cL) sz (zw_S cI cZ cL a0 a1 a2 st))) (zz_Ki (zf_S_setCount st)) 0 0 (fun _ => False) := by
  refine zz_ofK (by decide) (Nat.le_of_ble_eq_true rfl) ?_
  intro p e s m below meth c C0 hK hP hD ls hl
  obtain ⟨hx, hb, hr, hml, hown, htB, hlocks, hE⟩ := id C0
  have hl : lv_has ls 1 [(0, .ref a0)] := hl
  refine lv_aload_n hx hb zd_S_setCount_0 rfl (lv_at hl 0 rfl) ?_
  refine va_get (D := (dC, dI)) (ci := 1) (v := .int st.2.2.2.2) (C := zr_S) (T := zF_S) (N := 5) hx hb htB zi_S hown hK hP 0 rfl rfl 4 (by decide) (htB _ zk_93636338) (fun _ h9 => h9) rfl zd_S_setCount_1 ?_
  rw [(show zf_S_setCount st = st.2.2.2.2 from by first | rfl | (rw [zf_S_setCount]))]
  exact zz_kiret hx hb hr hlocks zd_S_setCount_4 rfl
set_option maxHeartbeats 4000000 in
set_option maxRecDepth 100000 in
theorem zc_S_openLine (l : Launch) (dC : Nat → ClassId) (dI : Nat → Nat → Nat) (cI cZ cL : ClassId) (a0 a1 a2 : Nat) (sz : Nat) (st : zu_S) (hm : st.2.2.1 ≤ 30) : Met l zy_S_openLine (zz_ws zy_S_openLine zb_S_openLine 1 (some .int)) ({ frames := 1, cells := 0, slots := 0, locals := 20 } : Room) (va_Pc ([.ref a0] : List Value) (zz_P (dC, dI) (zz_ty cI cZ cL) sz (zw_S cI cZ cL a0 a1 a2 st))) (zz_Qi (dC, dI) (zz_ty cI cZ cL) (va_A (zw_S cI cZ cL a0 a1 a2 st) sz) ((zf_S_openLine st).1) (zw_S cI cZ cL a0 a1 a2 ((zf_S_openLine st).2))) 0 0 (va_A (zw_S cI cZ cL a0 a1 a2 st) sz) := by
  refine zz_ofW (Q := fun A => (zz_Qi (dC, dI) (zz_ty cI cZ cL) A ((zf_S_openLine st).1) (zw_S cI cZ cL a0 a1 a2 ((zf_S_openLine st).2)))) (by decide) (Nat.le_of_ble_eq_true rfl) ?_
  intro p e s m below meth c A C0 _ hA hK hP hD _ ls hl
  obtain ⟨hx, hb, hr, hml, hown, htB, hlocks, hE⟩ := id C0
  have hS : va_S A s.heap s.heap [] := va_S.rf
  have hl : lv_has ls 1 [(0, .ref a0)] := hl
  refine lv_aload_n hx hb zd_S_openLine_0 rfl (lv_at hl 0 rfl) ?_
  refine zz_ki (va_runV (As := []) (rest := []) ⟨hx, hb, hml, hown, htB⟩ (zc_S_isFull l dC dI cI cZ cL a0 a1 a2 s.heap.size st  ) (cwV 0 htB (zz_gV zk_0b4b3340 zk_5ea10dbf zk_5f4fa963 zk_f1a23aa7 zk_bb1301ba) rfl rfl rfl ⟨rfl, zh_S_isFull⟩ ⟨Nat.le_of_ble_eq_true rfl, Nat.le_of_ble_eq_true rfl⟩) (zz_preV (ci := 1) (q := (zr_S, zF_S, 5)) hP hD hK hE [0, 1, 2] (by decide) rfl rfl rfl) rfl rfl hl.1 rfl (lv_room (Nat.le_of_ble_eq_true rfl)) zd_S_openLine_1 ⟨Nat.le_of_ble_eq_true rfl, Nat.le_of_ble_eq_true rfl⟩) ?_
  refine lv_if_eq (tgt := 9) hx hb zd_S_openLine_4 (by decide) (fun c_4 => ?_) (fun c_4 => ?_)
  · refine lv_aload_n hx hb zd_S_openLine_9 rfl (lv_at hl 0 rfl) ?_
    refine lv_dup hx hb zd_S_openLine_10 rfl ?_
    refine va_get (D := (dC, dI)) (ci := 1) (v := .int (nI st.2.2.1)) (C := zr_S) (T := zF_S) (N := 5) hx hb htB zi_S hown hK hP 0 rfl rfl 2 (by decide) (htB _ zk_a32d7426) (fun _ h9 => h9) rfl zd_S_openLine_11 ?_
    refine lv_iconst (v := 1) hx hb zd_S_openLine_14 (by decide) ?_
    refine lv_iadd hx hb zd_S_openLine_15 ?_
    rw [nI_1 st.2.2.1]
    refine va_put (D := (dC, dI)) (ci := 1) (v := .int (nI (st.2.2.1 + 1))) (C := zr_S) (T := zF_S) (N := 5) hx hb htB zi_S zT_S zT_S_ok zn_S hown hK hP hD hS 0 rfl rfl 2 (by decide) (htB _ zk_a32d7426) (fun _ h9 => h9) rfl (zT_S_ok 2 (by decide)) rfl rfl (Nat.le_of_ble_eq_true rfl) zd_S_openLine_16 (fun H locs hP hD hS => ?_)
    have hP : va_P (dC, dI) zz_cl (zw_S cI cZ cL a0 a1 a2 (st.1, st.2.1, (st.2.2.1 + 1), st.2.2.2.1, st.2.2.2.2)) H := hP
    have hD : va_D A (zw_S cI cZ cL a0 a1 a2 (st.1, st.2.1, (st.2.2.1 + 1), st.2.2.2.1, st.2.2.2.2)) := hD
    refine lv_aload_n hx hb zd_S_openLine_19 rfl (lv_at hl 0 rfl) ?_
    refine lv_dup hx hb zd_S_openLine_20 rfl ?_
    refine va_get (D := (dC, dI)) (ci := 1) (v := .int st.2.2.2.1) (C := zr_S) (T := zF_S) (N := 5) hx hb htB zi_S hown hK hP 0 rfl rfl 3 (by decide) (htB _ zk_69f5fb79) (fun _ h9 => h9) rfl zd_S_openLine_21 ?_
    refine lv_iconst (v := 1) hx hb zd_S_openLine_24 (by decide) ?_
    refine lv_iadd hx hb zd_S_openLine_25 ?_
    refine va_put (D := (dC, dI)) (ci := 1) (v := .int (st.2.2.2.1 + 1)) (C := zr_S) (T := zF_S) (N := 5) hx hb htB zi_S zT_S zT_S_ok zn_S hown hK hP hD hS 0 rfl rfl 3 (by decide) (htB _ zk_69f5fb79) (fun _ h9 => h9) rfl (zT_S_ok 3 (by decide)) rfl rfl (Nat.le_of_ble_eq_true rfl) zd_S_openLine_26 (fun H locs hP hD hS => ?_)
    have hP : va_P (dC, dI) zz_cl (zw_S cI cZ cL a0 a1 a2 (st.1, st.2.1, (st.2.2.1 + 1), st.2.2.2.1 + 1, st.2.2.2.2)) H := hP
    have hD : va_D A (zw_S cI cZ cL a0 a1 a2 (st.1, st.2.1, (st.2.2.1 + 1), st.2.2.2.1 + 1, st.2.2.2.2)) := hD
    refine lv_aload_n hx hb zd_S_openLine_29 rfl (lv_at hl 0 rfl) ?_
    refine va_get (D := (dC, dI)) (ci := 1) (v := .ref a2) (C := zr_S) (T := zF_S) (N := 5) hx hb htB zi_S hown hK hP 0 rfl rfl 1 (by decide) (htB _ zk_641e4f57) (fun _ h9 => h9) rfl zd_S_openLine_30 ?_
    refine lv_aload_n hx hb zd_S_openLine_33 rfl (lv_at hl 0 rfl) ?_
    refine va_get (D := (dC, dI)) (ci := 1) (v := .int (nI (st.2.2.1 + 1))) (C := zr_S) (T := zF_S) (N := 5) hx hb htB zi_S hown hK hP 0 rfl rfl 2 (by decide) (htB _ zk_a32d7426) (fun _ h9 => h9) rfl zd_S_openLine_34 ?_
    refine lv_iconst (v := 1) hx hb zd_S_openLine_37 (by decide) ?_
    refine va_zast hx hb hK hP hD hS 2 1 rfl rfl (zx_open hm c_4) zd_S_openLine_38 (fun H locs hP hD hS => ?_)
    have hP : va_P (dC, dI) zz_cl (zw_S cI cZ cL a0 a1 a2 (st.1, (upd st.2.1 (nI (st.2.2.1 + 1)).toNatClampNeg 1), (st.2.2.1 + 1), st.2.2.2.1 + 1, st.2.2.2.2)) H := hP
    have hD : va_D A (zw_S cI cZ cL a0 a1 a2 (st.1, (upd st.2.1 (nI (st.2.2.1 + 1)).toNatClampNeg 1), (st.2.2.1 + 1), st.2.2.2.1 + 1, st.2.2.2.2)) := hD
    refine lv_aload_n hx hb zd_S_openLine_39 rfl (lv_at hl 0 rfl) ?_
    refine va_get (D := (dC, dI)) (ci := 1) (v := .int (nI (st.2.2.1 + 1))) (C := zr_S) (T := zF_S) (N := 5) hx hb htB zi_S hown hK hP 0 rfl rfl 2 (by decide) (htB _ zk_a32d7426) (fun _ h9 => h9) rfl zd_S_openLine_40 ?_
    rw [(show zf_S_openLine st = (nI (st.2.2.1 + 1), (st.1, (upd st.2.1 (nI (st.2.2.1 + 1)).toNatClampNeg 1), (st.2.2.1 + 1), st.2.2.2.1 + 1, st.2.2.2.2)) from by rw [zf_S_openLine, if_pos c_4])]
    exact zz_iret hx hb hr hlocks hK hP hD hS zd_S_openLine_43 rfl
  · refine lv_iconst (v := (-1)) hx hb zd_S_openLine_7 (by decide) ?_
    rw [(show zf_S_openLine st = ((-1), st) from by rw [zf_S_openLine, if_neg c_4])]
    exact zz_iret hx hb hr hlocks hK hP hD hS zd_S_openLine_8 rfl
set_option maxHeartbeats 4000000 in
set_option maxRecDepth 100000 in
theorem zc_S_slotOf (l : Launch) (dC : Nat → ClassId) (dI : Nat → Nat → Nat) (cI cZ cL : ClassId) (a0 a1 a2 : Nat) (sz : Nat) (st : zu_S) (p1 : Int32) (p2 : Int32)  : Met l zy_S_slotOf (zz_ws zy_S_slotOf zb_S_slotOf 3 (some .int)) ({ frames := 1, cells := 0, slots := 0, locals := 21 } : Room) (va_Pc ([.ref a0, .int p1, .int p2] : List Value) (zz_P (dC, dI) (zz_ty cI cZ cL) sz (zw_S cI cZ cL a0 a1 a2 st))) (zz_Ki (zf_S_slotOf st p1 p2)) 0 0 (fun _ => False) := by
  refine zz_ofK (by decide) (Nat.le_of_ble_eq_true rfl) ?_
  intro p e s m below meth c C0 hK hP hD ls hl
  obtain ⟨hx, hb, hr, hml, hown, htB, hlocks, hE⟩ := id C0
  have hl : lv_has ls 3 [(0, .ref a0), (1, .int p1), (2, .int p2)] := hl
  refine lv_iload_n hx hb zd_S_slotOf_0 rfl (lv_at hl 1 rfl) ?_
  refine lv_if_lt (tgt := 10) hx hb zd_S_slotOf_1 (by decide) (fun c_1 => ?_) (fun c_1 => ?_)
  · refine lv_iconst (v := (-1)) hx hb zd_S_slotOf_10 (by decide) ?_
    rw [(show zf_S_slotOf st p1 p2 = (-1) from by rw [zf_S_slotOf, if_pos c_1])]
    exact zz_kiret hx hb hr hlocks zd_S_slotOf_11 rfl
  · refine lv_iload_n hx hb zd_S_slotOf_4 rfl (lv_at hl 1 rfl) ?_
    refine lv_bipush (v := 19) hx hb zd_S_slotOf_5 (by decide) ?_
    refine lv_icmp_le (tgt := 12) hx hb zd_S_slotOf_7 (by decide) (fun c_7 => ?_) (fun c_7 => ?_)
    · refine lv_iload_n hx hb zd_S_slotOf_12 rfl (lv_at hl 1 rfl) ?_
      refine lv_bipush (v := 10) hx hb zd_S_slotOf_13 (by decide) ?_
      refine lv_icmp_ge (tgt := 28) hx hb zd_S_slotOf_15 (by decide) (fun c_15 => ?_) (fun c_15 => ?_)
      · refine lv_aload_n hx hb zd_S_slotOf_28 rfl (lv_at hl 0 rfl) ?_
        refine lv_iload_n hx hb zd_S_slotOf_29 rfl (lv_at hl 2 rfl) ?_
        refine zz_ki (va_runV (As := [.int p2]) (rest := []) ⟨hx, hb, hml, hown, htB⟩ (zc_S_hasLine l dC dI cI cZ cL a0 a1 a2 s.heap.size st p2 ) (cwV 1 htB (zz_gV zk_935946c6 zk_3871fc92 zk_c72ec03e zk_f1a23aa7 zk_33cddec9) rfl rfl rfl ⟨rfl, zh_S_hasLine⟩ ⟨Nat.le_of_ble_eq_true rfl, Nat.le_of_ble_eq_true rfl⟩) (zz_preV (ci := 1) (q := (zr_S, zF_S, 5)) hP hD hK hE [0, 1, 2] (by decide) rfl rfl rfl) rfl rfl hl.1 rfl (lv_room (Nat.le_of_ble_eq_true rfl)) zd_S_slotOf_30 ⟨Nat.le_of_ble_eq_true rfl, Nat.le_of_ble_eq_true rfl⟩) ?_
        refine lv_if_eq (tgt := 48) hx hb zd_S_slotOf_33 (by decide) (fun c_33 => ?_) (fun c_33 => ?_)
        · refine lv_iconst (v := (-1)) hx hb zd_S_slotOf_48 (by decide) ?_
          rw [(show zf_S_slotOf st p1 p2 = (-1) from by rw [zf_S_slotOf, if_neg c_1, if_pos c_7, if_pos c_15, if_pos c_33])]
          exact zz_kiret hx hb hr hlocks zd_S_slotOf_49 rfl
        · refine lv_iload_n hx hb zd_S_slotOf_36 rfl (lv_at hl 2 rfl) ?_
          refine lv_bipush (v := 10) hx hb zd_S_slotOf_37 (by decide) ?_
          refine lv_imul hx hb zd_S_slotOf_39 ?_
          refine lv_iload_n hx hb zd_S_slotOf_40 rfl (lv_at hl 1 rfl) ?_
          refine lv_iadd hx hb zd_S_slotOf_41 ?_
          refine lv_bipush (v := 10) hx hb zd_S_slotOf_42 (by decide) ?_
          refine lv_isub hx hb zd_S_slotOf_44 ?_
          refine lv_goto (tgt := 49) hx hb zd_S_slotOf_45 (by decide) ?_
          rw [(show zf_S_slotOf st p1 p2 = ((p2 * 10) + p1) - 10 from by rw [zf_S_slotOf, if_neg c_1, if_pos c_7, if_pos c_15, if_neg c_33])]
          exact zz_kiret hx hb hr hlocks zd_S_slotOf_49 rfl
      · refine lv_iload_n hx hb zd_S_slotOf_18 rfl (lv_at hl 2 rfl) ?_
        refine lv_if_ne (tgt := 26) hx hb zd_S_slotOf_19 (by decide) (fun c_19 => ?_) (fun c_19 => ?_)
        · refine lv_iconst (v := (-1)) hx hb zd_S_slotOf_26 (by decide) ?_
          rw [(show zf_S_slotOf st p1 p2 = (-1) from by rw [zf_S_slotOf, if_neg c_1, if_pos c_7, if_neg c_15, if_neg c_19])]
          exact zz_kiret hx hb hr hlocks zd_S_slotOf_27 rfl
        · refine lv_iload_n hx hb zd_S_slotOf_22 rfl (lv_at hl 1 rfl) ?_
          refine lv_goto (tgt := 27) hx hb zd_S_slotOf_23 (by decide) ?_
          rw [(show zf_S_slotOf st p1 p2 = p1 from by rw [zf_S_slotOf, if_neg c_1, if_pos c_7, if_neg c_15, if_pos c_19])]
          exact zz_kiret hx hb hr hlocks zd_S_slotOf_27 rfl
    · refine lv_iconst (v := (-1)) hx hb zd_S_slotOf_10 (by decide) ?_
      rw [(show zf_S_slotOf st p1 p2 = (-1) from by rw [zf_S_slotOf, if_neg c_1, if_neg c_7])]
      exact zz_kiret hx hb hr hlocks zd_S_slotOf_11 rfl
set_option maxHeartbeats 4000000 in
set_option maxRecDepth 100000 in
theorem zc_S_valueAt (l : Launch) (dC : Nat → ClassId) (dI : Nat → Nat → Nat) (cI cZ cL : ClassId) (a0 a1 a2 : Nat) (sz : Nat) (st : zu_S) (p1 : Int32)  : Met l zy_S_valueAt (zz_ws zy_S_valueAt zb_S_valueAt 2 (some .int)) ({ frames := 0, cells := 0, slots := 0, locals := 0 } : Room) (va_Pc ([.ref a0, .int p1] : List Value) (zz_P (dC, dI) (zz_ty cI cZ cL) sz (zw_S cI cZ cL a0 a1 a2 st))) (zz_Ki (zf_S_valueAt st p1)) 0 0 (fun _ => False) := by
  refine zz_ofK (by decide) (Nat.le_of_ble_eq_true rfl) ?_
  intro p e s m below meth c C0 hK hP hD ls hl
  obtain ⟨hx, hb, hr, hml, hown, htB, hlocks, hE⟩ := id C0
  have hl : lv_has ls 2 [(0, .ref a0), (1, .int p1)] := hl
  refine lv_iload_n hx hb zd_S_valueAt_0 rfl (lv_at hl 1 rfl) ?_
  refine lv_if_lt (tgt := 13) hx hb zd_S_valueAt_1 (by decide) (fun c_1 => ?_) (fun c_1 => ?_)
  · refine lv_iconst (v := (-1)) hx hb zd_S_valueAt_13 (by decide) ?_
    refine lv_goto (tgt := 23) hx hb zd_S_valueAt_14 (by decide) ?_
    rw [(show zf_S_valueAt st p1 = (-1) from by rw [zf_S_valueAt, if_pos c_1])]
    exact zz_kiret hx hb hr hlocks zd_S_valueAt_23 rfl
  · refine lv_iload_n hx hb zd_S_valueAt_4 rfl (lv_at hl 1 rfl) ?_
    refine lv_aload_n hx hb zd_S_valueAt_5 rfl (lv_at hl 0 rfl) ?_
    refine va_get (D := (dC, dI)) (ci := 1) (v := .ref a1) (C := zr_S) (T := zF_S) (N := 5) hx hb htB zi_S hown hK hP 0 rfl rfl 0 (by decide) (htB _ zk_58041e5d) (fun _ h9 => h9) rfl zd_S_valueAt_6 ?_
    refine va_alen (v := 310) hx hb hK hP 1 0 rfl rfl rfl zd_S_valueAt_9 ?_
    refine lv_icmp_lt (tgt := 17) hx hb zd_S_valueAt_10 (by decide) (fun c_10 => ?_) (fun c_10 => ?_)
    · refine lv_aload_n hx hb zd_S_valueAt_17 rfl (lv_at hl 0 rfl) ?_
      refine va_get (D := (dC, dI)) (ci := 1) (v := .ref a1) (C := zr_S) (T := zF_S) (N := 5) hx hb htB zi_S hown hK hP 0 rfl rfl 0 (by decide) (htB _ zk_58041e5d) (fun _ h9 => h9) rfl zd_S_valueAt_18 ?_
      refine lv_iload_n hx hb zd_S_valueAt_21 rfl (lv_at hl 1 rfl) ?_
      refine va_iald hx hb hK hP 1 0 rfl rfl (zx_slot c_1 c_10) zd_S_valueAt_22 ?_
      rw [(show zf_S_valueAt st p1 = st.1 p1.toNatClampNeg from by rw [zf_S_valueAt, if_neg c_1, if_pos c_10])]
      exact zz_kiret hx hb hr hlocks zd_S_valueAt_23 rfl
    · refine lv_iconst (v := (-1)) hx hb zd_S_valueAt_13 (by decide) ?_
      refine lv_goto (tgt := 23) hx hb zd_S_valueAt_14 (by decide) ?_
      rw [(show zf_S_valueAt st p1 = (-1) from by rw [zf_S_valueAt, if_neg c_1, if_neg c_10])]
      exact zz_kiret hx hb hr hlocks zd_S_valueAt_23 rfl
set_option maxHeartbeats 4000000 in
set_option maxRecDepth 100000 in
theorem zc_S_put (l : Launch) (dC : Nat → ClassId) (dI : Nat → Nat → Nat) (cI cZ cL : ClassId) (a0 a1 a2 : Nat) (sz : Nat) (st : zu_S) (p1 : Int32) (p2 : Int32)  : Met l zy_S_put (zz_ws zy_S_put zb_S_put 3 (none)) ({ frames := 0, cells := 0, slots := 0, locals := 0 } : Room) (va_Pc ([.ref a0, .int p1, .int p2] : List Value) (zz_P (dC, dI) (zz_ty cI cZ cL) sz (zw_S cI cZ cL a0 a1 a2 st))) (zz_Qv (dC, dI) (zz_ty cI cZ cL) (va_A (zw_S cI cZ cL a0 a1 a2 st) sz) (zw_S cI cZ cL a0 a1 a2 (zf_S_put st p1 p2))) 0 0 (va_A (zw_S cI cZ cL a0 a1 a2 st) sz) := by
  refine zz_ofW (Q := fun A => (zz_Qv (dC, dI) (zz_ty cI cZ cL) A (zw_S cI cZ cL a0 a1 a2 (zf_S_put st p1 p2)))) (by decide) (Nat.le_of_ble_eq_true rfl) ?_
  intro p e s m below meth c A C0 _ hA hK hP hD _ ls hl
  obtain ⟨hx, hb, hr, hml, hown, htB, hlocks, hE⟩ := id C0
  have hS : va_S A s.heap s.heap [] := va_S.rf
  have hl : lv_has ls 3 [(0, .ref a0), (1, .int p1), (2, .int p2)] := hl
  refine lv_iload_n hx hb zd_S_put_0 rfl (lv_at hl 1 rfl) ?_
  refine lv_if_lt (tgt := 13) hx hb zd_S_put_1 (by decide) (fun c_1 => ?_) (fun c_1 => ?_)
  · rw [(show zf_S_put st p1 p2 = st from by rw [zf_S_put, if_pos c_1])]
    exact zz_vret hx hb hr hlocks hK hP hD hS zd_S_put_13
  · refine lv_iload_n hx hb zd_S_put_4 rfl (lv_at hl 1 rfl) ?_
    refine lv_aload_n hx hb zd_S_put_5 rfl (lv_at hl 0 rfl) ?_
    refine va_get (D := (dC, dI)) (ci := 1) (v := .ref a1) (C := zr_S) (T := zF_S) (N := 5) hx hb htB zi_S hown hK hP 0 rfl rfl 0 (by decide) (htB _ zk_58041e5d) (fun _ h9 => h9) rfl zd_S_put_6 ?_
    refine va_alen (v := 310) hx hb hK hP 1 0 rfl rfl rfl zd_S_put_9 ?_
    refine lv_icmp_lt (tgt := 14) hx hb zd_S_put_10 (by decide) (fun c_10 => ?_) (fun c_10 => ?_)
    · refine lv_aload_n hx hb zd_S_put_14 rfl (lv_at hl 0 rfl) ?_
      refine va_get (D := (dC, dI)) (ci := 1) (v := .ref a1) (C := zr_S) (T := zF_S) (N := 5) hx hb htB zi_S hown hK hP 0 rfl rfl 0 (by decide) (htB _ zk_58041e5d) (fun _ h9 => h9) rfl zd_S_put_15 ?_
      refine lv_iload_n hx hb zd_S_put_18 rfl (lv_at hl 1 rfl) ?_
      refine va_iald hx hb hK hP 1 0 rfl rfl (zx_slot c_1 c_10) zd_S_put_19 ?_
      refine lv_iconst (v := (-1)) hx hb zd_S_put_20 (by decide) ?_
      refine lv_icmp_eq (tgt := 34) hx hb zd_S_put_21 (by decide) (fun c_21 => ?_) (fun c_21 => ?_)
      · refine lv_iload_n hx hb zd_S_put_34 rfl (lv_at hl 2 rfl) ?_
        refine lv_iconst (v := (-1)) hx hb zd_S_put_35 (by decide) ?_
        refine lv_icmp_eq (tgt := 49) hx hb zd_S_put_36 (by decide) (fun c_36 => ?_) (fun c_36 => ?_)
        · refine lv_aload_n hx hb zd_S_put_49 rfl (lv_at hl 0 rfl) ?_
          refine va_get (D := (dC, dI)) (ci := 1) (v := .ref a1) (C := zr_S) (T := zF_S) (N := 5) hx hb htB zi_S hown hK hP 0 rfl rfl 0 (by decide) (htB _ zk_58041e5d) (fun _ h9 => h9) rfl zd_S_put_50 ?_
          refine lv_iload_n hx hb zd_S_put_53 rfl (lv_at hl 1 rfl) ?_
          refine lv_iload_n hx hb zd_S_put_54 rfl (lv_at hl 2 rfl) ?_
          refine va_iast hx hb hK hP hD hS 1 0 rfl rfl (zx_slot c_1 c_10) zd_S_put_55 (fun H locs hP hD hS => ?_)
          have hP : va_P (dC, dI) zz_cl (zw_S cI cZ cL a0 a1 a2 ((upd st.1 p1.toNatClampNeg p2), st.2.1, st.2.2.1, st.2.2.2.1, st.2.2.2.2)) H := hP
          have hD : va_D A (zw_S cI cZ cL a0 a1 a2 ((upd st.1 p1.toNatClampNeg p2), st.2.1, st.2.2.1, st.2.2.2.1, st.2.2.2.2)) := hD
          rw [(show zf_S_put st p1 p2 = ((upd st.1 p1.toNatClampNeg p2), st.2.1, st.2.2.1, st.2.2.2.1, st.2.2.2.2) from by rw [zf_S_put, if_neg c_1, if_pos c_10, if_pos c_21, if_pos c_36])]
          exact zz_vret hx hb hr hlocks hK hP hD hS zd_S_put_56
        · refine lv_aload_n hx hb zd_S_put_39 rfl (lv_at hl 0 rfl) ?_
          refine lv_dup hx hb zd_S_put_40 rfl ?_
          refine va_get (D := (dC, dI)) (ci := 1) (v := .int st.2.2.2.2) (C := zr_S) (T := zF_S) (N := 5) hx hb htB zi_S hown hK hP 0 rfl rfl 4 (by decide) (htB _ zk_93636338) (fun _ h9 => h9) rfl zd_S_put_41 ?_
          refine lv_iconst (v := 1) hx hb zd_S_put_44 (by decide) ?_
          refine lv_iadd hx hb zd_S_put_45 ?_
          refine va_put (D := (dC, dI)) (ci := 1) (v := .int (st.2.2.2.2 + 1)) (C := zr_S) (T := zF_S) (N := 5) hx hb htB zi_S zT_S zT_S_ok zn_S hown hK hP hD hS 0 rfl rfl 4 (by decide) (htB _ zk_93636338) (fun _ h9 => h9) rfl (zT_S_ok 4 (by decide)) rfl rfl (Nat.le_of_ble_eq_true rfl) zd_S_put_46 (fun H locs hP hD hS => ?_)
          have hP : va_P (dC, dI) zz_cl (zw_S cI cZ cL a0 a1 a2 (st.1, st.2.1, st.2.2.1, st.2.2.2.1, st.2.2.2.2 + 1)) H := hP
          have hD : va_D A (zw_S cI cZ cL a0 a1 a2 (st.1, st.2.1, st.2.2.1, st.2.2.2.1, st.2.2.2.2 + 1)) := hD
          refine lv_aload_n hx hb zd_S_put_49 rfl (lv_at hl 0 rfl) ?_
          refine va_get (D := (dC, dI)) (ci := 1) (v := .ref a1) (C := zr_S) (T := zF_S) (N := 5) hx hb htB zi_S hown hK hP 0 rfl rfl 0 (by decide) (htB _ zk_58041e5d) (fun _ h9 => h9) rfl zd_S_put_50 ?_
          refine lv_iload_n hx hb zd_S_put_53 rfl (lv_at hl 1 rfl) ?_
          refine lv_iload_n hx hb zd_S_put_54 rfl (lv_at hl 2 rfl) ?_
          refine va_iast hx hb hK hP hD hS 1 0 rfl rfl (zx_slot c_1 c_10) zd_S_put_55 (fun H locs hP hD hS => ?_)
          have hP : va_P (dC, dI) zz_cl (zw_S cI cZ cL a0 a1 a2 ((upd st.1 p1.toNatClampNeg p2), st.2.1, st.2.2.1, st.2.2.2.1, st.2.2.2.2 + 1)) H := hP
          have hD : va_D A (zw_S cI cZ cL a0 a1 a2 ((upd st.1 p1.toNatClampNeg p2), st.2.1, st.2.2.1, st.2.2.2.1, st.2.2.2.2 + 1)) := hD
          rw [(show zf_S_put st p1 p2 = ((upd st.1 p1.toNatClampNeg p2), st.2.1, st.2.2.1, st.2.2.2.1, st.2.2.2.2 + 1) from by rw [zf_S_put, if_neg c_1, if_pos c_10, if_pos c_21, if_neg c_36])]
          exact zz_vret hx hb hr hlocks hK hP hD hS zd_S_put_56
      · refine lv_aload_n hx hb zd_S_put_24 rfl (lv_at hl 0 rfl) ?_
        refine lv_dup hx hb zd_S_put_25 rfl ?_
        refine va_get (D := (dC, dI)) (ci := 1) (v := .int st.2.2.2.2) (C := zr_S) (T := zF_S) (N := 5) hx hb htB zi_S hown hK hP 0 rfl rfl 4 (by decide) (htB _ zk_93636338) (fun _ h9 => h9) rfl zd_S_put_26 ?_
        refine lv_iconst (v := 1) hx hb zd_S_put_29 (by decide) ?_
        refine lv_isub hx hb zd_S_put_30 ?_
        refine va_put (D := (dC, dI)) (ci := 1) (v := .int (st.2.2.2.2 - 1)) (C := zr_S) (T := zF_S) (N := 5) hx hb htB zi_S zT_S zT_S_ok zn_S hown hK hP hD hS 0 rfl rfl 4 (by decide) (htB _ zk_93636338) (fun _ h9 => h9) rfl (zT_S_ok 4 (by decide)) rfl rfl (Nat.le_of_ble_eq_true rfl) zd_S_put_31 (fun H locs hP hD hS => ?_)
        have hP : va_P (dC, dI) zz_cl (zw_S cI cZ cL a0 a1 a2 (st.1, st.2.1, st.2.2.1, st.2.2.2.1, st.2.2.2.2 - 1)) H := hP
        have hD : va_D A (zw_S cI cZ cL a0 a1 a2 (st.1, st.2.1, st.2.2.1, st.2.2.2.1, st.2.2.2.2 - 1)) := hD
        refine lv_iload_n hx hb zd_S_put_34 rfl (lv_at hl 2 rfl) ?_
        refine lv_iconst (v := (-1)) hx hb zd_S_put_35 (by decide) ?_
        refine lv_icmp_eq (tgt := 49) hx hb zd_S_put_36 (by decide) (fun c_36 => ?_) (fun c_36 => ?_)
        · refine lv_aload_n hx hb zd_S_put_49 rfl (lv_at hl 0 rfl) ?_
          refine va_get (D := (dC, dI)) (ci := 1) (v := .ref a1) (C := zr_S) (T := zF_S) (N := 5) hx hb htB zi_S hown hK hP 0 rfl rfl 0 (by decide) (htB _ zk_58041e5d) (fun _ h9 => h9) rfl zd_S_put_50 ?_
          refine lv_iload_n hx hb zd_S_put_53 rfl (lv_at hl 1 rfl) ?_
          refine lv_iload_n hx hb zd_S_put_54 rfl (lv_at hl 2 rfl) ?_
          refine va_iast hx hb hK hP hD hS 1 0 rfl rfl (zx_slot c_1 c_10) zd_S_put_55 (fun H locs hP hD hS => ?_)
          have hP : va_P (dC, dI) zz_cl (zw_S cI cZ cL a0 a1 a2 ((upd st.1 p1.toNatClampNeg p2), st.2.1, st.2.2.1, st.2.2.2.1, st.2.2.2.2 - 1)) H := hP
          have hD : va_D A (zw_S cI cZ cL a0 a1 a2 ((upd st.1 p1.toNatClampNeg p2), st.2.1, st.2.2.1, st.2.2.2.1, st.2.2.2.2 - 1)) := hD
          rw [(show zf_S_put st p1 p2 = ((upd st.1 p1.toNatClampNeg p2), st.2.1, st.2.2.1, st.2.2.2.1, st.2.2.2.2 - 1) from by rw [zf_S_put, if_neg c_1, if_pos c_10, if_neg c_21, if_pos c_36])]
          exact zz_vret hx hb hr hlocks hK hP hD hS zd_S_put_56
        · refine lv_aload_n hx hb zd_S_put_39 rfl (lv_at hl 0 rfl) ?_
          refine lv_dup hx hb zd_S_put_40 rfl ?_
          refine va_get (D := (dC, dI)) (ci := 1) (v := .int (st.2.2.2.2 - 1)) (C := zr_S) (T := zF_S) (N := 5) hx hb htB zi_S hown hK hP 0 rfl rfl 4 (by decide) (htB _ zk_93636338) (fun _ h9 => h9) rfl zd_S_put_41 ?_
          refine lv_iconst (v := 1) hx hb zd_S_put_44 (by decide) ?_
          refine lv_iadd hx hb zd_S_put_45 ?_
          refine va_put (D := (dC, dI)) (ci := 1) (v := .int ((st.2.2.2.2 - 1) + 1)) (C := zr_S) (T := zF_S) (N := 5) hx hb htB zi_S zT_S zT_S_ok zn_S hown hK hP hD hS 0 rfl rfl 4 (by decide) (htB _ zk_93636338) (fun _ h9 => h9) rfl (zT_S_ok 4 (by decide)) rfl rfl (Nat.le_of_ble_eq_true rfl) zd_S_put_46 (fun H locs hP hD hS => ?_)
          have hP : va_P (dC, dI) zz_cl (zw_S cI cZ cL a0 a1 a2 (st.1, st.2.1, st.2.2.1, st.2.2.2.1, (st.2.2.2.2 - 1) + 1)) H := hP
          have hD : va_D A (zw_S cI cZ cL a0 a1 a2 (st.1, st.2.1, st.2.2.1, st.2.2.2.1, (st.2.2.2.2 - 1) + 1)) := hD
          refine lv_aload_n hx hb zd_S_put_49 rfl (lv_at hl 0 rfl) ?_
          refine va_get (D := (dC, dI)) (ci := 1) (v := .ref a1) (C := zr_S) (T := zF_S) (N := 5) hx hb htB zi_S hown hK hP 0 rfl rfl 0 (by decide) (htB _ zk_58041e5d) (fun _ h9 => h9) rfl zd_S_put_50 ?_
          refine lv_iload_n hx hb zd_S_put_53 rfl (lv_at hl 1 rfl) ?_
          refine lv_iload_n hx hb zd_S_put_54 rfl (lv_at hl 2 rfl) ?_
          refine va_iast hx hb hK hP hD hS 1 0 rfl rfl (zx_slot c_1 c_10) zd_S_put_55 (fun H locs hP hD hS => ?_)
          have hP : va_P (dC, dI) zz_cl (zw_S cI cZ cL a0 a1 a2 ((upd st.1 p1.toNatClampNeg p2), st.2.1, st.2.2.1, st.2.2.2.1, (st.2.2.2.2 - 1) + 1)) H := hP
          have hD : va_D A (zw_S cI cZ cL a0 a1 a2 ((upd st.1 p1.toNatClampNeg p2), st.2.1, st.2.2.1, st.2.2.2.1, (st.2.2.2.2 - 1) + 1)) := hD
          rw [(show zf_S_put st p1 p2 = ((upd st.1 p1.toNatClampNeg p2), st.2.1, st.2.2.1, st.2.2.2.1, (st.2.2.2.2 - 1) + 1) from by rw [zf_S_put, if_neg c_1, if_pos c_10, if_neg c_21, if_neg c_36])]
          exact zz_vret hx hb hr hlocks hK hP hD hS zd_S_put_56
    · rw [(show zf_S_put st p1 p2 = st from by rw [zf_S_put, if_neg c_1, if_neg c_10])]
      exact zz_vret hx hb hr hlocks hK hP hD hS zd_S_put_13
set_option maxHeartbeats 4000000 in
set_option maxRecDepth 100000 in
theorem zp_S_dropLine_17 {p : Program} {l : Launch} {e : Env} {s : State} {m : MethodId} {below : List Frame} {meth : Method} {c : Code} {A : Nat → Prop} (dC : Nat → ClassId) (dI : Nat → Nat → Nat) (cI cZ cL : ClassId) (a0 a1 a2 : Nat) (p1 : Int32) (x2 : Int32) (hv : vp_in p1 31) (C0 : zz_C p s m ([.ref a0, .int p1] : List Value).toArray meth c zb_S_dropLine 4 (some .int) zy_S_dropLine.cls) (hA : ∀ q : Nat, s.heap.size ≤ q → A q) (hK : va_K (dC, dI) zz_cl (zz_ty cI cZ cL) s) :
    ∀ (mm k : Nat) (st : zu_S), k + mm = 10 → ∀ (H : Heap) (locs : List Loc), va_P (dC, dI) zz_cl (zw_S cI cZ cL a0 a1 a2 st) H → va_D A (zw_S cI cZ cL a0 a1 a2 st) → va_S A s.heap H locs → ∀ ls : Array Slot, lv_has ls 4 [(0, .ref a0), (1, .int p1), (2, .int x2), (3, .int (nI k))] →
    W p l e ({ frames := 1, cells := 0, slots := 0, locals := 22 } : Room) s m ([.ref a0, .int p1] : List Value).toArray below meth c H locs 0 0 (MQ below (zz_Qi (dC, dI) (zz_ty cI cZ cL) A ((zf_S_dropLine_L17 p1 x2 mm k st).1) (zw_S cI cZ cL a0 a1 a2 ((zf_S_dropLine_L17 p1 x2 mm k st).2))) ([.ref a0, .int p1] : List Value).toArray s 0 0 A) (F0 m 17 ls []) := by
  obtain ⟨hx, hb, hr, hml, hown, htB, hlocks, hE⟩ := id C0
  intro mm
  induction mm with
  | zero =>
    intro k st hk H locs hP hD hS ls hl
    refine lv_iload_n hx hb zd_S_dropLine_17 rfl (lv_at hl 3 rfl) ?_
    refine lv_bipush (v := 10) hx hb zd_S_dropLine_18 (by decide) ?_
    refine lv_icmp_ge (tgt := 40) hx hb zd_S_dropLine_20 (by decide) (fun _ => ?_) (fun c_ => absurd (zz_geT (b := 10) rfl (by omega) (by omega)) c_)
    refine lv_aload_n hx hb zd_S_dropLine_40 rfl (lv_at hl 0 rfl) ?_
    refine va_get (D := (dC, dI)) (ci := 1) (v := .ref a2) (C := zr_S) (T := zF_S) (N := 5) hx hb htB zi_S hown hK hP 0 rfl rfl 1 (by decide) (htB _ zk_641e4f57) (fun _ h9 => h9) rfl zd_S_dropLine_41 ?_
    refine lv_iload_n hx hb zd_S_dropLine_44 rfl (lv_at hl 1 rfl) ?_
    refine lv_iconst (v := 0) hx hb zd_S_dropLine_45 (by decide) ?_
    refine va_zast hx hb hK hP hD hS 2 1 rfl rfl hv zd_S_dropLine_46 (fun H locs hP hD hS => ?_)
    have hP : va_P (dC, dI) zz_cl (zw_S cI cZ cL a0 a1 a2 (st.1, (upd st.2.1 p1.toNatClampNeg 0), st.2.2.1, st.2.2.2.1, st.2.2.2.2)) H := hP
    have hD : va_D A (zw_S cI cZ cL a0 a1 a2 (st.1, (upd st.2.1 p1.toNatClampNeg 0), st.2.2.1, st.2.2.2.1, st.2.2.2.2)) := hD
    refine lv_aload_n hx hb zd_S_dropLine_47 rfl (lv_at hl 0 rfl) ?_
    refine lv_dup hx hb zd_S_dropLine_48 rfl ?_
    refine va_get (D := (dC, dI)) (ci := 1) (v := .int st.2.2.2.1) (C := zr_S) (T := zF_S) (N := 5) hx hb htB zi_S hown hK hP 0 rfl rfl 3 (by decide) (htB _ zk_69f5fb79) (fun _ h9 => h9) rfl zd_S_dropLine_49 ?_
    refine lv_iconst (v := 1) hx hb zd_S_dropLine_52 (by decide) ?_
    refine lv_isub hx hb zd_S_dropLine_53 ?_
    refine va_put (D := (dC, dI)) (ci := 1) (v := .int (st.2.2.2.1 - 1)) (C := zr_S) (T := zF_S) (N := 5) hx hb htB zi_S zT_S zT_S_ok zn_S hown hK hP hD hS 0 rfl rfl 3 (by decide) (htB _ zk_69f5fb79) (fun _ h9 => h9) rfl (zT_S_ok 3 (by decide)) rfl rfl (Nat.le_of_ble_eq_true rfl) zd_S_dropLine_54 (fun H locs hP hD hS => ?_)
    have hP : va_P (dC, dI) zz_cl (zw_S cI cZ cL a0 a1 a2 (st.1, (upd st.2.1 p1.toNatClampNeg 0), st.2.2.1, st.2.2.2.1 - 1, st.2.2.2.2)) H := hP
    have hD : va_D A (zw_S cI cZ cL a0 a1 a2 (st.1, (upd st.2.1 p1.toNatClampNeg 0), st.2.2.1, st.2.2.2.1 - 1, st.2.2.2.2)) := hD
    refine lv_iload_n hx hb zd_S_dropLine_57 rfl (lv_at hl 2 rfl) ?_
    refine lv_aload_n hx hb zd_S_dropLine_58 rfl (lv_at hl 0 rfl) ?_
    refine va_get (D := (dC, dI)) (ci := 1) (v := .int st.2.2.2.2) (C := zr_S) (T := zF_S) (N := 5) hx hb htB zi_S hown hK hP 0 rfl rfl 4 (by decide) (htB _ zk_93636338) (fun _ h9 => h9) rfl zd_S_dropLine_59 ?_
    refine lv_isub hx hb zd_S_dropLine_62 ?_
    rw [(show zf_S_dropLine_L17 p1 x2 0 k st = (x2 - st.2.2.2.2, (st.1, (upd st.2.1 p1.toNatClampNeg 0), st.2.2.1, st.2.2.2.1 - 1, st.2.2.2.2)) from by first | rfl | (rw [zf_S_dropLine_L17]))]
    exact zz_iret hx hb hr hlocks hK hP hD hS zd_S_dropLine_63 rfl
  | succ mm ih =>
    intro k st hk H locs hP hD hS ls hl
    refine lv_iload_n hx hb zd_S_dropLine_17 rfl (lv_at hl 3 rfl) ?_
    refine lv_bipush (v := 10) hx hb zd_S_dropLine_18 (by decide) ?_
    refine lv_icmp_ge (tgt := 40) hx hb zd_S_dropLine_20 (by decide) (fun c_ => absurd c_ (zz_geF (b := 10) rfl (by omega) (by omega))) (fun _ => ?_)
    refine lv_aload_n hx hb zd_S_dropLine_23 rfl (lv_at hl 0 rfl) ?_
    refine lv_iload_n hx hb zd_S_dropLine_24 rfl (lv_at hl 1 rfl) ?_
    refine lv_bipush (v := 10) hx hb zd_S_dropLine_25 (by decide) ?_
    refine lv_imul hx hb zd_S_dropLine_27 ?_
    refine lv_iload_n hx hb zd_S_dropLine_28 rfl (lv_at hl 3 rfl) ?_
    refine lv_iadd hx hb zd_S_dropLine_29 ?_
    refine lv_iconst (v := (-1)) hx hb zd_S_dropLine_30 (by decide) ?_
    refine zz_cv (va_runV (As := [.int ((p1 * 10) + (nI k)), .int (-1)]) (rest := []) ⟨hx, hb, hml, hown, htB⟩ (zc_S_put l dC dI cI cZ cL a0 a1 a2 H.size st ((p1 * 10) + (nI k)) (-1) ) (cwV 2 htB (zz_gV zk_46e13ae2 zk_7151ae50 zk_2e2e7b1b zk_f1a23aa7 zk_29ef983f) rfl rfl rfl ⟨rfl, zh_S_put⟩ ⟨Nat.le_of_ble_eq_true rfl, Nat.le_of_ble_eq_true rfl⟩) (zz_preV (ci := 1) (q := (zr_S, zF_S, 5)) hP hD hK hE [0, 1, 2] (by decide) rfl rfl rfl) rfl rfl hl.1 rfl (lv_room (Nat.le_of_ble_eq_true rfl)) zd_S_dropLine_31 ⟨Nat.le_of_ble_eq_true rfl, Nat.le_of_ble_eq_true rfl⟩) hP hD hS hA [0, 1, 2] [] [0, 1, 2] rfl rfl (by decide) (by decide) (by decide) rfl (fun H locs hP hD hS => ?_)
    have hP : va_P (dC, dI) zz_cl (zw_S cI cZ cL a0 a1 a2 (zf_S_put st ((p1 * 10) + (nI k)) (-1))) H := hP
    have hD : va_D A (zw_S cI cZ cL a0 a1 a2 (zf_S_put st ((p1 * 10) + (nI k)) (-1))) := hD
    refine lv_iinc (v := nI (k + 1)) (lv' := [(3, .int (nI (k + 1))), (0, .ref a0), (1, .int p1), (2, .int x2)]) hx hb zd_S_dropLine_34 hl (k := 3) rfl (nI_1 k) (by decide) rfl (fun ls hl => ?_)
    refine lv_goto (tgt := 17) hx hb zd_S_dropLine_37 (by decide) ?_
    rw [(show zf_S_dropLine_L17 p1 x2 (mm + 1) k st = zf_S_dropLine_L17 p1 x2 mm (k + 1) (zf_S_put st ((p1 * 10) + (nI k)) (-1)) from by first | rfl | (rw [zf_S_dropLine_L17]))]
    exact ih (k + 1) (zf_S_put st ((p1 * 10) + (nI k)) (-1))  (by show k + 1 + mm = 10; omega) _ _ hP hD hS _ (lv_sub hl [1, 2, 3, 0] rfl)
set_option maxHeartbeats 4000000 in
set_option maxRecDepth 100000 in
theorem zc_S_dropLine (l : Launch) (dC : Nat → ClassId) (dI : Nat → Nat → Nat) (cI cZ cL : ClassId) (a0 a1 a2 : Nat) (sz : Nat) (st : zu_S) (p1 : Int32)  : Met l zy_S_dropLine (zz_ws zy_S_dropLine zb_S_dropLine 4 (some .int)) ({ frames := 1, cells := 0, slots := 0, locals := 22 } : Room) (va_Pc ([.ref a0, .int p1] : List Value) (zz_P (dC, dI) (zz_ty cI cZ cL) sz (zw_S cI cZ cL a0 a1 a2 st))) (zz_Qi (dC, dI) (zz_ty cI cZ cL) (va_A (zw_S cI cZ cL a0 a1 a2 st) sz) ((zf_S_dropLine st p1).1) (zw_S cI cZ cL a0 a1 a2 ((zf_S_dropLine st p1).2))) 0 0 (va_A (zw_S cI cZ cL a0 a1 a2 st) sz) := by
  refine zz_ofW (Q := fun A => (zz_Qi (dC, dI) (zz_ty cI cZ cL) A ((zf_S_dropLine st p1).1) (zw_S cI cZ cL a0 a1 a2 ((zf_S_dropLine st p1).2)))) (by decide) (Nat.le_of_ble_eq_true rfl) ?_
  intro p e s m below meth c A C0 _ hA hK hP hD _ ls hl
  obtain ⟨hx, hb, hr, hml, hown, htB, hlocks, hE⟩ := id C0
  have hS : va_S A s.heap s.heap [] := va_S.rf
  have hl : lv_has ls 4 [(0, .ref a0), (1, .int p1)] := hl
  refine lv_aload_n hx hb zd_S_dropLine_0 rfl (lv_at hl 0 rfl) ?_
  refine lv_iload_n hx hb zd_S_dropLine_1 rfl (lv_at hl 1 rfl) ?_
  refine zz_ki (va_runV (As := [.int p1]) (rest := []) ⟨hx, hb, hml, hown, htB⟩ (zc_S_hasLine l dC dI cI cZ cL a0 a1 a2 s.heap.size st p1 ) (cwV 1 htB (zz_gV zk_935946c6 zk_3871fc92 zk_c72ec03e zk_f1a23aa7 zk_33cddec9) rfl rfl rfl ⟨rfl, zh_S_hasLine⟩ ⟨Nat.le_of_ble_eq_true rfl, Nat.le_of_ble_eq_true rfl⟩) (zz_preV (ci := 1) (q := (zr_S, zF_S, 5)) hP hD hK hE [0, 1, 2] (by decide) rfl rfl rfl) rfl rfl hl.1 rfl (lv_room (Nat.le_of_ble_eq_true rfl)) zd_S_dropLine_2 ⟨Nat.le_of_ble_eq_true rfl, Nat.le_of_ble_eq_true rfl⟩) ?_
  refine lv_if_ne (tgt := 10) hx hb zd_S_dropLine_5 (by decide) (fun c_5 => ?_) (fun c_5 => ?_)
  · refine lv_aload_n hx hb zd_S_dropLine_10 rfl (lv_at hl 0 rfl) ?_
    refine va_get (D := (dC, dI)) (ci := 1) (v := .int st.2.2.2.2) (C := zr_S) (T := zF_S) (N := 5) hx hb htB zi_S hown hK hP 0 rfl rfl 4 (by decide) (htB _ zk_93636338) (fun _ h9 => h9) rfl zd_S_dropLine_11 ?_
    refine lv_istore_n (lv' := [(2, .int st.2.2.2.2), (0, .ref a0), (1, .int p1)]) hx hb zd_S_dropLine_14 rfl hl (by decide) rfl (fun ls hl => ?_)
    refine lv_iconst (v := 0) hx hb zd_S_dropLine_15 (by decide) ?_
    refine lv_istore_n (lv' := [(3, .int 0), (2, .int st.2.2.2.2), (0, .ref a0), (1, .int p1)]) hx hb zd_S_dropLine_16 rfl hl (by decide) rfl (fun ls hl => ?_)
    rw [(show zf_S_dropLine st p1 = zf_S_dropLine_L17 p1 st.2.2.2.2 10 0 st from by rw [zf_S_dropLine, if_neg c_5])]
    exact zp_S_dropLine_17 dC dI cI cZ cL a0 a1 a2 p1 st.2.2.2.2 (zx_has c_5) C0 hA hK 10 0 st  rfl _ _ hP hD hS _ (lv_sub hl [2, 3, 1, 0] rfl)
  · refine lv_iconst (v := (-1)) hx hb zd_S_dropLine_8 (by decide) ?_
    rw [(show zf_S_dropLine st p1 = ((-1), st) from by rw [zf_S_dropLine, if_pos c_5])]
    exact zz_iret hx hb hr hlocks hK hP hD hS zd_S_dropLine_9 rfl
set_option maxHeartbeats 4000000 in
set_option maxRecDepth 100000 in
theorem zp_S_firstMissing_2 {p : Program} {l : Launch} {e : Env} {s : State} {m : MethodId} {below : List Frame} {meth : Method} {c : Code} (dC : Nat → ClassId) (dI : Nat → Nat → Nat) (cI cZ cL : ClassId) (a0 a1 a2 : Nat) (st : zu_S) (p1 : Int32) (C0 : zz_C p s m ([.ref a0, .int p1] : List Value).toArray meth c zb_S_firstMissing 4 (some .int) zy_S_firstMissing.cls) (hK : va_K (dC, dI) zz_cl (zz_ty cI cZ cL) s) (hP : va_P (dC, dI) zz_cl (zw_S cI cZ cL a0 a1 a2 st) s.heap) (hD : va_D (fun _ => True) (zw_S cI cZ cL a0 a1 a2 st)) :
    ∀ (mm k : Nat), k + mm = 310 → ∀ ls : Array Slot, lv_has ls 4 [(0, .ref a0), (1, .int p1), (2, .int (nI k))] →
    W p l e ({ frames := 1, cells := 0, slots := 0, locals := 21 } : Room) s m ([.ref a0, .int p1] : List Value).toArray below meth c s.heap [] 0 0 (MQ below (zz_Ki (zf_S_firstMissing_L2 st p1 mm k)) ([.ref a0, .int p1] : List Value).toArray s 0 0 (fun _ => False)) (F0 m 2 ls []) := by
  obtain ⟨hx, hb, hr, hml, hown, htB, hlocks, hE⟩ := id C0
  intro mm
  induction mm with
  | zero =>
    intro k hk  ls hl
    refine lv_iload_n hx hb zd_S_firstMissing_2 rfl (lv_at hl 2 rfl) ?_
    refine lv_aload_n hx hb zd_S_firstMissing_3 rfl (lv_at hl 0 rfl) ?_
    refine va_get (D := (dC, dI)) (ci := 1) (v := .ref a1) (C := zr_S) (T := zF_S) (N := 5) hx hb htB zi_S hown hK hP 0 rfl rfl 0 (by decide) (htB _ zk_58041e5d) (fun _ h9 => h9) rfl zd_S_firstMissing_4 ?_
    refine va_alen (v := 310) hx hb hK hP 1 0 rfl rfl rfl zd_S_firstMissing_7 ?_
    refine lv_icmp_ge (tgt := 67) hx hb zd_S_firstMissing_8 (by decide) (fun _ => ?_) (fun c_ => absurd (zz_geT (b := 310) rfl (by omega) (by omega)) c_)
    refine lv_iconst (v := (-1)) hx hb zd_S_firstMissing_67 (by decide) ?_
    rw [(show zf_S_firstMissing_L2 st p1 0 k = (-1) from by first | rfl | (rw [zf_S_firstMissing_L2]))]
    exact zz_kiret hx hb hr hlocks zd_S_firstMissing_68 rfl
  | succ mm ih =>
    intro k hk  ls hl
    refine lv_iload_n hx hb zd_S_firstMissing_2 rfl (lv_at hl 2 rfl) ?_
    refine lv_aload_n hx hb zd_S_firstMissing_3 rfl (lv_at hl 0 rfl) ?_
    refine va_get (D := (dC, dI)) (ci := 1) (v := .ref a1) (C := zr_S) (T := zF_S) (N := 5) hx hb htB zi_S hown hK hP 0 rfl rfl 0 (by decide) (htB _ zk_58041e5d) (fun _ h9 => h9) rfl zd_S_firstMissing_4 ?_
    refine va_alen (v := 310) hx hb hK hP 1 0 rfl rfl rfl zd_S_firstMissing_7 ?_
    refine lv_icmp_ge (tgt := 67) hx hb zd_S_firstMissing_8 (by decide) (fun c_ => absurd c_ (zz_geF (b := 310) rfl (by omega) (by omega))) (fun _ => ?_)
    refine lv_iload_n hx hb zd_S_firstMissing_11 rfl (lv_at hl 2 rfl) ?_
    refine lv_bipush (v := 10) hx hb zd_S_firstMissing_12 (by decide) ?_
    refine lv_icmp_lt (tgt := 28) hx hb zd_S_firstMissing_14 (by decide) (fun c_14 => ?_) (fun c_14 => ?_)
    · refine lv_iconst (v := 1) hx hb zd_S_firstMissing_28 (by decide) ?_
      refine lv_goto (tgt := 33) hx hb zd_S_firstMissing_29 (by decide) ?_
      refine lv_istore_n (lv' := [(3, .int 1), (0, .ref a0), (1, .int p1), (2, .int (nI k))]) hx hb zd_S_firstMissing_33 rfl hl (by decide) rfl (fun ls hl => ?_)
      refine lv_iload_n hx hb zd_S_firstMissing_34 rfl (lv_at hl 0 rfl) ?_
      refine lv_if_eq (tgt := 61) hx hb zd_S_firstMissing_35 (by decide) (fun c_ => absurd c_ (by decide)) (fun _ => ?_)
      refine lv_aload_n hx hb zd_S_firstMissing_38 rfl (lv_at hl 1 rfl) ?_
      refine va_get (D := (dC, dI)) (ci := 1) (v := .ref a1) (C := zr_S) (T := zF_S) (N := 5) hx hb htB zi_S hown hK hP 0 rfl rfl 0 (by decide) (htB _ zk_58041e5d) (fun _ h9 => h9) rfl zd_S_firstMissing_39 ?_
      refine lv_iload_n hx hb zd_S_firstMissing_42 rfl (lv_at hl 3 rfl) ?_
      refine zz_iald hx hb hK hP 1 0 rfl rfl (by omega) (by decide) zd_S_firstMissing_43 ?_
      refine lv_iconst (v := (-1)) hx hb zd_S_firstMissing_44 (by decide) ?_
      refine lv_icmp_ne (tgt := 61) hx hb zd_S_firstMissing_45 (by decide) (fun c_45 => ?_) (fun c_45 => ?_)
      · refine lv_iinc (v := nI (k + 1)) (lv' := [(2, .int (nI (k + 1))), (3, .int 1), (0, .ref a0), (1, .int p1)]) hx hb zd_S_firstMissing_61 hl (k := 3) rfl (nI_1 k) (by decide) rfl (fun ls hl => ?_)
        refine lv_goto (tgt := 2) hx hb zd_S_firstMissing_64 (by decide) ?_
        rw [(show zf_S_firstMissing_L2 st p1 (mm + 1) k = zf_S_firstMissing_L2 st p1 mm (k + 1) from by rw [zf_S_firstMissing_L2, if_pos c_14, if_neg c_45])]
        exact ih (k + 1) (by omega)   _ (lv_sub hl [2, 3, 0] rfl)
      · refine lv_iload_n hx hb zd_S_firstMissing_48 rfl (lv_at hl 2 rfl) ?_
        refine lv_iload_n hx hb zd_S_firstMissing_49 rfl (lv_at hl 3 rfl) ?_
        refine zz_ki (va_runSN (As := [.int (nI k)]) (rest := [.int p1]) ⟨hx, hb, hml, hown, htB⟩ (zc_X_fieldOf l dC dI cI cZ cL  s.heap.size  (nI k) ) ⟨va_cnB 1 htB (zz_gB zk_1944e685) rfl rfl rfl (hE.1 _ (List.mem_of_getElem? (i := 0) rfl)) (htB _ zk_cfe38e2e) zh_X_fieldOf ⟨Nat.le_of_ble_eq_true rfl, Nat.le_of_ble_eq_true rfl⟩, htB _ zk_82f2c4f0, trivial⟩ (zz_preS hP hD hK hE [] (by decide) rfl) rfl rfl hl.1 rfl (lv_room (Nat.le_of_ble_eq_true rfl)) zd_S_firstMissing_50 ⟨Nat.le_of_ble_eq_true rfl, Nat.le_of_ble_eq_true rfl⟩) ?_
        refine zz_ki (va_runSN (As := [.int p1, .int (zf_X_fieldOf (nI k))]) (rest := []) ⟨hx, hb, hml, hown, htB⟩ (zc_X_needBy l dC dI cI cZ cL  s.heap.size  p1 (zf_X_fieldOf (nI k)) ) ⟨va_cnB 2 htB (zz_gB zk_dd814726) rfl rfl rfl (hE.1 _ (List.mem_of_getElem? (i := 1) rfl)) (htB _ zk_cfe38e2e) zh_X_needBy ⟨Nat.le_of_ble_eq_true rfl, Nat.le_of_ble_eq_true rfl⟩, htB _ zk_e14187d6, trivial⟩ (zz_preS hP hD hK hE [] (by decide) rfl) rfl rfl hl.1 rfl (lv_room (Nat.le_of_ble_eq_true rfl)) zd_S_firstMissing_53 ⟨Nat.le_of_ble_eq_true rfl, Nat.le_of_ble_eq_true rfl⟩) ?_
        refine lv_if_ne (tgt := 61) hx hb zd_S_firstMissing_56 (by decide) (fun c_56 => ?_) (fun c_56 => ?_)
        · refine lv_iinc (v := nI (k + 1)) (lv' := [(2, .int (nI (k + 1))), (3, .int 1), (0, .ref a0), (1, .int p1)]) hx hb zd_S_firstMissing_61 hl (k := 3) rfl (nI_1 k) (by decide) rfl (fun ls hl => ?_)
          refine lv_goto (tgt := 2) hx hb zd_S_firstMissing_64 (by decide) ?_
          rw [(show zf_S_firstMissing_L2 st p1 (mm + 1) k = zf_S_firstMissing_L2 st p1 mm (k + 1) from by rw [zf_S_firstMissing_L2, if_pos c_14, if_pos c_45, if_neg c_56])]
          exact ih (k + 1) (by omega)   _ (lv_sub hl [2, 3, 0] rfl)
        · refine lv_iload_n hx hb zd_S_firstMissing_59 rfl (lv_at hl 3 rfl) ?_
          rw [(show zf_S_firstMissing_L2 st p1 (mm + 1) k = nI k from by rw [zf_S_firstMissing_L2, if_pos c_14, if_pos c_45, if_pos c_56])]
          exact zz_kiret hx hb hr hlocks zd_S_firstMissing_60 rfl
    · refine lv_aload_n hx hb zd_S_firstMissing_17 rfl (lv_at hl 0 rfl) ?_
      refine lv_iload_n hx hb zd_S_firstMissing_18 rfl (lv_at hl 2 rfl) ?_
      refine zz_ki (va_runSN (As := [.int (nI k)]) (rest := [.ref a0]) ⟨hx, hb, hml, hown, htB⟩ (zc_X_lineOf l dC dI cI cZ cL  s.heap.size  (nI k) ) ⟨va_cnB 1 htB (zz_gB zk_7540bdb8) rfl rfl rfl (hE.1 _ (List.mem_of_getElem? (i := 2) rfl)) (htB _ zk_cfe38e2e) zh_X_lineOf ⟨Nat.le_of_ble_eq_true rfl, Nat.le_of_ble_eq_true rfl⟩, htB _ zk_bd1d2622, trivial⟩ (zz_preS hP hD hK hE [] (by decide) rfl) rfl rfl hl.1 rfl (lv_room (Nat.le_of_ble_eq_true rfl)) zd_S_firstMissing_19 ⟨Nat.le_of_ble_eq_true rfl, Nat.le_of_ble_eq_true rfl⟩) ?_
      refine zz_ki (va_runV (As := [.int (zf_X_lineOf (nI k))]) (rest := []) ⟨hx, hb, hml, hown, htB⟩ (zc_S_hasLine l dC dI cI cZ cL a0 a1 a2 s.heap.size st (zf_X_lineOf (nI k)) ) (cwV 1 htB (zz_gV zk_935946c6 zk_3871fc92 zk_c72ec03e zk_f1a23aa7 zk_33cddec9) rfl rfl rfl ⟨rfl, zh_S_hasLine⟩ ⟨Nat.le_of_ble_eq_true rfl, Nat.le_of_ble_eq_true rfl⟩) (zz_preV (ci := 1) (q := (zr_S, zF_S, 5)) hP hD hK hE [0, 1, 2] (by decide) rfl rfl rfl) rfl rfl hl.1 rfl (lv_room (Nat.le_of_ble_eq_true rfl)) zd_S_firstMissing_22 ⟨Nat.le_of_ble_eq_true rfl, Nat.le_of_ble_eq_true rfl⟩) ?_
      refine lv_if_eq (tgt := 32) hx hb zd_S_firstMissing_25 (by decide) (fun c_25 => ?_) (fun c_25 => ?_)
      · refine lv_iconst (v := 0) hx hb zd_S_firstMissing_32 (by decide) ?_
        refine lv_istore_n (lv' := [(3, .int 0), (0, .ref a0), (1, .int p1), (2, .int (nI k))]) hx hb zd_S_firstMissing_33 rfl hl (by decide) rfl (fun ls hl => ?_)
        refine lv_iload_n hx hb zd_S_firstMissing_34 rfl (lv_at hl 0 rfl) ?_
        refine lv_if_eq (tgt := 61) hx hb zd_S_firstMissing_35 (by decide) (fun _ => ?_) (fun c_ => absurd (by decide) c_)
        refine lv_iinc (v := nI (k + 1)) (lv' := [(2, .int (nI (k + 1))), (3, .int 0), (0, .ref a0), (1, .int p1)]) hx hb zd_S_firstMissing_61 hl (k := 3) rfl (nI_1 k) (by decide) rfl (fun ls hl => ?_)
        refine lv_goto (tgt := 2) hx hb zd_S_firstMissing_64 (by decide) ?_
        rw [(show zf_S_firstMissing_L2 st p1 (mm + 1) k = zf_S_firstMissing_L2 st p1 mm (k + 1) from by rw [zf_S_firstMissing_L2, if_neg c_14, if_pos c_25])]
        exact ih (k + 1) (by omega)   _ (lv_sub hl [2, 3, 0] rfl)
      · refine lv_iconst (v := 1) hx hb zd_S_firstMissing_28 (by decide) ?_
        refine lv_goto (tgt := 33) hx hb zd_S_firstMissing_29 (by decide) ?_
        refine lv_istore_n (lv' := [(3, .int 1), (0, .ref a0), (1, .int p1), (2, .int (nI k))]) hx hb zd_S_firstMissing_33 rfl hl (by decide) rfl (fun ls hl => ?_)
        refine lv_iload_n hx hb zd_S_firstMissing_34 rfl (lv_at hl 0 rfl) ?_
        refine lv_if_eq (tgt := 61) hx hb zd_S_firstMissing_35 (by decide) (fun c_ => absurd c_ (by decide)) (fun _ => ?_)
        refine lv_aload_n hx hb zd_S_firstMissing_38 rfl (lv_at hl 1 rfl) ?_
        refine va_get (D := (dC, dI)) (ci := 1) (v := .ref a1) (C := zr_S) (T := zF_S) (N := 5) hx hb htB zi_S hown hK hP 0 rfl rfl 0 (by decide) (htB _ zk_58041e5d) (fun _ h9 => h9) rfl zd_S_firstMissing_39 ?_
        refine lv_iload_n hx hb zd_S_firstMissing_42 rfl (lv_at hl 3 rfl) ?_
        refine zz_iald hx hb hK hP 1 0 rfl rfl (by omega) (by decide) zd_S_firstMissing_43 ?_
        refine lv_iconst (v := (-1)) hx hb zd_S_firstMissing_44 (by decide) ?_
        refine lv_icmp_ne (tgt := 61) hx hb zd_S_firstMissing_45 (by decide) (fun c_45 => ?_) (fun c_45 => ?_)
        · refine lv_iinc (v := nI (k + 1)) (lv' := [(2, .int (nI (k + 1))), (3, .int 1), (0, .ref a0), (1, .int p1)]) hx hb zd_S_firstMissing_61 hl (k := 3) rfl (nI_1 k) (by decide) rfl (fun ls hl => ?_)
          refine lv_goto (tgt := 2) hx hb zd_S_firstMissing_64 (by decide) ?_
          rw [(show zf_S_firstMissing_L2 st p1 (mm + 1) k = zf_S_firstMissing_L2 st p1 mm (k + 1) from by rw [zf_S_firstMissing_L2, if_neg c_14, if_neg c_25, if_neg c_45])]
          exact ih (k + 1) (by omega)   _ (lv_sub hl [2, 3, 0] rfl)
        · refine lv_iload_n hx hb zd_S_firstMissing_48 rfl (lv_at hl 2 rfl) ?_
          refine lv_iload_n hx hb zd_S_firstMissing_49 rfl (lv_at hl 3 rfl) ?_
          refine zz_ki (va_runSN (As := [.int (nI k)]) (rest := [.int p1]) ⟨hx, hb, hml, hown, htB⟩ (zc_X_fieldOf l dC dI cI cZ cL  s.heap.size  (nI k) ) ⟨va_cnB 1 htB (zz_gB zk_1944e685) rfl rfl rfl (hE.1 _ (List.mem_of_getElem? (i := 0) rfl)) (htB _ zk_cfe38e2e) zh_X_fieldOf ⟨Nat.le_of_ble_eq_true rfl, Nat.le_of_ble_eq_true rfl⟩, htB _ zk_82f2c4f0, trivial⟩ (zz_preS hP hD hK hE [] (by decide) rfl) rfl rfl hl.1 rfl (lv_room (Nat.le_of_ble_eq_true rfl)) zd_S_firstMissing_50 ⟨Nat.le_of_ble_eq_true rfl, Nat.le_of_ble_eq_true rfl⟩) ?_
          refine zz_ki (va_runSN (As := [.int p1, .int (zf_X_fieldOf (nI k))]) (rest := []) ⟨hx, hb, hml, hown, htB⟩ (zc_X_needBy l dC dI cI cZ cL  s.heap.size  p1 (zf_X_fieldOf (nI k)) ) ⟨va_cnB 2 htB (zz_gB zk_dd814726) rfl rfl rfl (hE.1 _ (List.mem_of_getElem? (i := 1) rfl)) (htB _ zk_cfe38e2e) zh_X_needBy ⟨Nat.le_of_ble_eq_true rfl, Nat.le_of_ble_eq_true rfl⟩, htB _ zk_e14187d6, trivial⟩ (zz_preS hP hD hK hE [] (by decide) rfl) rfl rfl hl.1 rfl (lv_room (Nat.le_of_ble_eq_true rfl)) zd_S_firstMissing_53 ⟨Nat.le_of_ble_eq_true rfl, Nat.le_of_ble_eq_true rfl⟩) ?_
          refine lv_if_ne (tgt := 61) hx hb zd_S_firstMissing_56 (by decide) (fun c_56 => ?_) (fun c_56 => ?_)
          · refine lv_iinc (v := nI (k + 1)) (lv' := [(2, .int (nI (k + 1))), (3, .int 1), (0, .ref a0), (1, .int p1)]) hx hb zd_S_firstMissing_61 hl (k := 3) rfl (nI_1 k) (by decide) rfl (fun ls hl => ?_)
            refine lv_goto (tgt := 2) hx hb zd_S_firstMissing_64 (by decide) ?_
            rw [(show zf_S_firstMissing_L2 st p1 (mm + 1) k = zf_S_firstMissing_L2 st p1 mm (k + 1) from by rw [zf_S_firstMissing_L2, if_neg c_14, if_neg c_25, if_pos c_45, if_neg c_56])]
            exact ih (k + 1) (by omega)   _ (lv_sub hl [2, 3, 0] rfl)
          · refine lv_iload_n hx hb zd_S_firstMissing_59 rfl (lv_at hl 3 rfl) ?_
            rw [(show zf_S_firstMissing_L2 st p1 (mm + 1) k = nI k from by rw [zf_S_firstMissing_L2, if_neg c_14, if_neg c_25, if_pos c_45, if_pos c_56])]
            exact zz_kiret hx hb hr hlocks zd_S_firstMissing_60 rfl
set_option maxHeartbeats 4000000 in
set_option maxRecDepth 100000 in
theorem zc_S_firstMissing (l : Launch) (dC : Nat → ClassId) (dI : Nat → Nat → Nat) (cI cZ cL : ClassId) (a0 a1 a2 : Nat) (sz : Nat) (st : zu_S) (p1 : Int32)  : Met l zy_S_firstMissing (zz_ws zy_S_firstMissing zb_S_firstMissing 4 (some .int)) ({ frames := 1, cells := 0, slots := 0, locals := 21 } : Room) (va_Pc ([.ref a0, .int p1] : List Value) (zz_P (dC, dI) (zz_ty cI cZ cL) sz (zw_S cI cZ cL a0 a1 a2 st))) (zz_Ki (zf_S_firstMissing st p1)) 0 0 (fun _ => False) := by
  refine zz_ofK (by decide) (Nat.le_of_ble_eq_true rfl) ?_
  intro p e s m below meth c C0 hK hP hD ls hl
  obtain ⟨hx, hb, hr, hml, hown, htB, hlocks, hE⟩ := id C0
  have hl : lv_has ls 4 [(0, .ref a0), (1, .int p1)] := hl
  refine lv_iconst (v := 0) hx hb zd_S_firstMissing_0 (by decide) ?_
  refine lv_istore_n (lv' := [(2, .int 0), (0, .ref a0), (1, .int p1)]) hx hb zd_S_firstMissing_1 rfl hl (by decide) rfl (fun ls hl => ?_)
  rw [(show zf_S_firstMissing st p1 = zf_S_firstMissing_L2 st p1 310 0 from by first | rfl | (rw [zf_S_firstMissing]))]
  exact zp_S_firstMissing_2 dC dI cI cZ cL a0 a1 a2 st p1 C0 hK hP hD 310 0 rfl   _ (lv_sub hl [1, 2, 0] rfl)
set_option maxHeartbeats 4000000 in
set_option maxRecDepth 100000 in
theorem zp_S_total_5 {p : Program} {l : Launch} {e : Env} {s : State} {m : MethodId} {below : List Frame} {meth : Method} {c : Code} (dC : Nat → ClassId) (dI : Nat → Nat → Nat) (cI cZ cL : ClassId) (a0 a1 a2 : Nat) (st : zu_S) (p1 : Int32) (C0 : zz_C p s m ([.ref a0, .int p1] : List Value).toArray meth c zb_S_total 5 (some .long) zy_S_total.cls) (hK : va_K (dC, dI) zz_cl (zz_ty cI cZ cL) s) (hP : va_P (dC, dI) zz_cl (zw_S cI cZ cL a0 a1 a2 st) s.heap) (hD : va_D (fun _ => True) (zw_S cI cZ cL a0 a1 a2 st)) :
    ∀ (mm k : Nat), k + mm = 31 → ∀ (x2 : Int64), ∀ ls : Array Slot, lv_has ls 5 [(0, .ref a0), (1, .int p1), (2, .long x2), (4, .int (nI k))] →
    W p l e ({ frames := 2, cells := 0, slots := 0, locals := 43 } : Room) s m ([.ref a0, .int p1] : List Value).toArray below meth c s.heap [] 0 0 (MQ below (zz_Kl (zf_S_total_L5 st p1 mm k x2)) ([.ref a0, .int p1] : List Value).toArray s 0 0 (fun _ => False)) (F0 m 5 ls []) := by
  obtain ⟨hx, hb, hr, hml, hown, htB, hlocks, hE⟩ := id C0
  intro mm
  induction mm with
  | zero =>
    intro k hk x2 ls hl
    refine lv_iload hx hb zd_S_total_5 (lv_at hl 3 rfl) ?_
    refine lv_bipush (v := 30) hx hb zd_S_total_7 (by decide) ?_
    refine lv_icmp_gt (tgt := 37) hx hb zd_S_total_9 (by decide) (fun _ => ?_) (fun c_ => absurd (zz_gtT (b := 30) rfl (by omega) (by omega)) c_)
    refine lv_lload_n hx hb zd_S_total_37 rfl (lv_at hl 2 rfl) ?_
    rw [(show zf_S_total_L5 st p1 0 k x2 = x2 from by first | rfl | (rw [zf_S_total_L5]))]
    exact zz_klret hx hb hr hlocks zd_S_total_38 rfl
  | succ mm ih =>
    intro k hk x2 ls hl
    refine lv_iload hx hb zd_S_total_5 (lv_at hl 3 rfl) ?_
    refine lv_bipush (v := 30) hx hb zd_S_total_7 (by decide) ?_
    refine lv_icmp_gt (tgt := 37) hx hb zd_S_total_9 (by decide) (fun c_ => absurd c_ (zz_gtF (b := 30) rfl (by omega) (by omega))) (fun _ => ?_)
    refine lv_lload_n hx hb zd_S_total_12 rfl (lv_at hl 2 rfl) ?_
    refine lv_iconst (v := 0) hx hb zd_S_total_13 (by decide) ?_
    refine lv_aload_n hx hb zd_S_total_14 rfl (lv_at hl 0 rfl) ?_
    refine lv_aload_n hx hb zd_S_total_15 rfl (lv_at hl 0 rfl) ?_
    refine lv_iload_n hx hb zd_S_total_16 rfl (lv_at hl 1 rfl) ?_
    refine lv_iload hx hb zd_S_total_17 (lv_at hl 3 rfl) ?_
    refine zz_ki (va_runV (As := [.int p1, .int (nI k)]) (rest := [.ref a0, .int 0, .long x2]) ⟨hx, hb, hml, hown, htB⟩ (zc_S_slotOf l dC dI cI cZ cL a0 a1 a2 s.heap.size st p1 (nI k) ) (cwV 2 htB (zz_gV zk_c343ab2c zk_13757a2f zk_9f779419 zk_f1a23aa7 zk_e4817253) rfl rfl rfl ⟨rfl, zh_S_slotOf⟩ ⟨Nat.le_of_ble_eq_true rfl, Nat.le_of_ble_eq_true rfl⟩) (zz_preV (ci := 1) (q := (zr_S, zF_S, 5)) hP hD hK hE [0, 1, 2] (by decide) rfl rfl rfl) rfl rfl hl.1 rfl (lv_room (Nat.le_of_ble_eq_true rfl)) zd_S_total_19 ⟨Nat.le_of_ble_eq_true rfl, Nat.le_of_ble_eq_true rfl⟩) ?_
    refine zz_ki (va_runV (As := [.int (zf_S_slotOf st p1 (nI k))]) (rest := [.int 0, .long x2]) ⟨hx, hb, hml, hown, htB⟩ (zc_S_valueAt l dC dI cI cZ cL a0 a1 a2 s.heap.size st (zf_S_slotOf st p1 (nI k)) ) (cwV 1 htB (zz_gV zk_9b9c69cb zk_1fa0ab90 zk_4c70df44 zk_f1a23aa7 zk_fdbb5e96) rfl rfl rfl ⟨rfl, zh_S_valueAt⟩ ⟨Nat.le_of_ble_eq_true rfl, Nat.le_of_ble_eq_true rfl⟩) (zz_preV (ci := 1) (q := (zr_S, zF_S, 5)) hP hD hK hE [0, 1, 2] (by decide) rfl rfl rfl) rfl rfl hl.1 rfl (lv_room (Nat.le_of_ble_eq_true rfl)) zd_S_total_22 ⟨Nat.le_of_ble_eq_true rfl, Nat.le_of_ble_eq_true rfl⟩) ?_
    refine va_mmax hx hb (hml.trans hl.1.symm) hown (htB _ zk_c90df990) (htB _ zk_0bcac700) (htB _ zk_7b6e1f6d) (htB _ zk_c583aea8) (Nat.le_of_ble_eq_true rfl) (Nat.le_of_ble_eq_true rfl) (Nat.le_of_ble_eq_true rfl) (Nat.le_of_ble_eq_true rfl) zd_S_total_25 ?_
    refine lv_i2l hx hb zd_S_total_28 rfl ?_
    refine lv_ladd hx hb zd_S_total_29 ?_
    refine lv_lstore_n (lv' := [(2, .long (x2 + ((if 0 < (zf_S_valueAt st (zf_S_slotOf st p1 (nI k))) then (zf_S_valueAt st (zf_S_slotOf st p1 (nI k))) else 0).toInt64))), (0, .ref a0), (1, .int p1), (4, .int (nI k))]) hx hb zd_S_total_30 rfl hl (by decide) rfl (fun ls hl => ?_)
    refine lv_iinc (v := nI (k + 1)) (lv' := [(4, .int (nI (k + 1))), (2, .long (x2 + ((if 0 < (zf_S_valueAt st (zf_S_slotOf st p1 (nI k))) then (zf_S_valueAt st (zf_S_slotOf st p1 (nI k))) else 0).toInt64))), (0, .ref a0), (1, .int p1)]) hx hb zd_S_total_31 hl (k := 3) rfl (nI_1 k) (by decide) rfl (fun ls hl => ?_)
    refine lv_goto (tgt := 5) hx hb zd_S_total_34 (by decide) ?_
    rw [(show zf_S_total_L5 st p1 (mm + 1) k x2 = zf_S_total_L5 st p1 mm (k + 1) (x2 + ((if 0 < (zf_S_valueAt st (zf_S_slotOf st p1 (nI k))) then (zf_S_valueAt st (zf_S_slotOf st p1 (nI k))) else 0).toInt64)) from by first | rfl | (rw [zf_S_total_L5]))]
    exact ih (k + 1) (by omega) (x2 + ((if 0 < (zf_S_valueAt st (zf_S_slotOf st p1 (nI k))) then (zf_S_valueAt st (zf_S_slotOf st p1 (nI k))) else 0).toInt64))  _ (lv_sub hl [2, 3, 1, 0] rfl)
set_option maxHeartbeats 4000000 in
set_option maxRecDepth 100000 in
theorem zc_S_total (l : Launch) (dC : Nat → ClassId) (dI : Nat → Nat → Nat) (cI cZ cL : ClassId) (a0 a1 a2 : Nat) (sz : Nat) (st : zu_S) (p1 : Int32)  : Met l zy_S_total (zz_ws zy_S_total zb_S_total 5 (some .long)) ({ frames := 2, cells := 0, slots := 0, locals := 43 } : Room) (va_Pc ([.ref a0, .int p1] : List Value) (zz_P (dC, dI) (zz_ty cI cZ cL) sz (zw_S cI cZ cL a0 a1 a2 st))) (zz_Kl (zf_S_total st p1)) 0 0 (fun _ => False) := by
  refine zz_ofK (by decide) (Nat.le_of_ble_eq_true rfl) ?_
  intro p e s m below meth c C0 hK hP hD ls hl
  obtain ⟨hx, hb, hr, hml, hown, htB, hlocks, hE⟩ := id C0
  have hl : lv_has ls 5 [(0, .ref a0), (1, .int p1)] := hl
  refine lv_lconst (v := 0) hx hb zd_S_total_0 (by decide) ?_
  refine lv_lstore_n (lv' := [(2, .long 0), (0, .ref a0), (1, .int p1)]) hx hb zd_S_total_1 rfl hl (by decide) rfl (fun ls hl => ?_)
  refine lv_iconst (v := 1) hx hb zd_S_total_2 (by decide) ?_
  refine lv_istore (lv' := [(4, .int 1), (2, .long 0), (0, .ref a0), (1, .int p1)]) hx hb zd_S_total_3 hl (by decide) rfl (fun ls hl => ?_)
  rw [(show zf_S_total st p1 = zf_S_total_L5 st p1 30 1 0 from by first | rfl | (rw [zf_S_total]))]
  exact zp_S_total_5 dC dI cI cZ cL a0 a1 a2 st p1 C0 hK hP hD 30 1 rfl 0  _ (lv_sub hl [2, 3, 1, 0] rfl)
set_option maxHeartbeats 4000000 in
set_option maxRecDepth 100000 in
theorem zc_S_sumIsWrong (l : Launch) (dC : Nat → ClassId) (dI : Nat → Nat → Nat) (cI cZ cL : ClassId) (a0 a1 a2 : Nat) (sz : Nat) (st : zu_S) (p1 : Int32) (p2 : Int32)  : Met l zy_S_sumIsWrong (zz_ws zy_S_sumIsWrong zb_S_sumIsWrong 4 (some .boolean)) ({ frames := 3, cells := 0, slots := 0, locals := 67 } : Room) (va_Pc ([.ref a0, .int p1, .int p2] : List Value) (zz_P (dC, dI) (zz_ty cI cZ cL) sz (zw_S cI cZ cL a0 a1 a2 st))) (zz_Ki (zf_S_sumIsWrong st p1 p2)) 0 0 (fun _ => False) := by
  refine zz_ofK (by decide) (Nat.le_of_ble_eq_true rfl) ?_
  intro p e s m below meth c C0 hK hP hD ls hl
  obtain ⟨hx, hb, hr, hml, hown, htB, hlocks, hE⟩ := id C0
  have hl : lv_has ls 4 [(0, .ref a0), (1, .int p1), (2, .int p2)] := hl
  refine lv_aload_n hx hb zd_S_sumIsWrong_0 rfl (lv_at hl 0 rfl) ?_
  refine lv_aload_n hx hb zd_S_sumIsWrong_1 rfl (lv_at hl 0 rfl) ?_
  refine lv_iload_n hx hb zd_S_sumIsWrong_2 rfl (lv_at hl 1 rfl) ?_
  refine lv_iconst (v := 0) hx hb zd_S_sumIsWrong_3 (by decide) ?_
  refine zz_ki (va_runV (As := [.int p1, .int 0]) (rest := [.ref a0]) ⟨hx, hb, hml, hown, htB⟩ (zc_S_slotOf l dC dI cI cZ cL a0 a1 a2 s.heap.size st p1 0 ) (cwV 2 htB (zz_gV zk_c343ab2c zk_13757a2f zk_9f779419 zk_f1a23aa7 zk_e4817253) rfl rfl rfl ⟨rfl, zh_S_slotOf⟩ ⟨Nat.le_of_ble_eq_true rfl, Nat.le_of_ble_eq_true rfl⟩) (zz_preV (ci := 1) (q := (zr_S, zF_S, 5)) hP hD hK hE [0, 1, 2] (by decide) rfl rfl rfl) rfl rfl hl.1 rfl (lv_room (Nat.le_of_ble_eq_true rfl)) zd_S_sumIsWrong_4 ⟨Nat.le_of_ble_eq_true rfl, Nat.le_of_ble_eq_true rfl⟩) ?_
  refine zz_ki (va_runV (As := [.int (zf_S_slotOf st p1 0)]) (rest := []) ⟨hx, hb, hml, hown, htB⟩ (zc_S_valueAt l dC dI cI cZ cL a0 a1 a2 s.heap.size st (zf_S_slotOf st p1 0) ) (cwV 1 htB (zz_gV zk_9b9c69cb zk_1fa0ab90 zk_4c70df44 zk_f1a23aa7 zk_fdbb5e96) rfl rfl rfl ⟨rfl, zh_S_valueAt⟩ ⟨Nat.le_of_ble_eq_true rfl, Nat.le_of_ble_eq_true rfl⟩) (zz_preV (ci := 1) (q := (zr_S, zF_S, 5)) hP hD hK hE [0, 1, 2] (by decide) rfl rfl rfl) rfl rfl hl.1 rfl (lv_room (Nat.le_of_ble_eq_true rfl)) zd_S_sumIsWrong_7 ⟨Nat.le_of_ble_eq_true rfl, Nat.le_of_ble_eq_true rfl⟩) ?_
  refine lv_istore_n (lv' := [(3, .int (zf_S_valueAt st (zf_S_slotOf st p1 0))), (0, .ref a0), (1, .int p1), (2, .int p2)]) hx hb zd_S_sumIsWrong_10 rfl hl (by decide) rfl (fun ls hl => ?_)
  refine lv_iload_n hx hb zd_S_sumIsWrong_11 rfl (lv_at hl 0 rfl) ?_
  refine lv_iconst (v := (-1)) hx hb zd_S_sumIsWrong_12 (by decide) ?_
  refine lv_icmp_eq (tgt := 31) hx hb zd_S_sumIsWrong_13 (by decide) (fun c_13 => ?_) (fun c_13 => ?_)
  · refine lv_iconst (v := 0) hx hb zd_S_sumIsWrong_31 (by decide) ?_
    rw [(show zf_S_sumIsWrong st p1 p2 = 0 from by rw [zf_S_sumIsWrong, if_pos c_13])]
    exact zz_kzret hx hb hr hlocks narrow_b0 zd_S_sumIsWrong_32 rfl
  · refine lv_iload_n hx hb zd_S_sumIsWrong_16 rfl (lv_at hl 0 rfl) ?_
    refine lv_i2l hx hb zd_S_sumIsWrong_17 rfl ?_
    refine lv_aload_n hx hb zd_S_sumIsWrong_18 rfl (lv_at hl 1 rfl) ?_
    refine lv_iload_n hx hb zd_S_sumIsWrong_19 rfl (lv_at hl 3 rfl) ?_
    refine zz_kl (va_runV (As := [.int p2]) (rest := [.long ((zf_S_valueAt st (zf_S_slotOf st p1 0)).toInt64)]) ⟨hx, hb, hml, hown, htB⟩ (zc_S_total l dC dI cI cZ cL a0 a1 a2 s.heap.size st p2 ) (cwV 1 htB (zz_gV zk_bdd994ac zk_b3219529 zk_106e6e6c zk_f1a23aa7 zk_efd9ded9) rfl rfl rfl ⟨rfl, zh_S_total⟩ ⟨Nat.le_of_ble_eq_true rfl, Nat.le_of_ble_eq_true rfl⟩) (zz_preV (ci := 1) (q := (zr_S, zF_S, 5)) hP hD hK hE [0, 1, 2] (by decide) rfl rfl rfl) rfl rfl hl.1 rfl (lv_room (Nat.le_of_ble_eq_true rfl)) zd_S_sumIsWrong_20 ⟨Nat.le_of_ble_eq_true rfl, Nat.le_of_ble_eq_true rfl⟩) ?_
    refine W.lcmp hx hb zd_S_sumIsWrong_23 ?_
    refine lv_if_eq (tgt := 31) hx hb zd_S_sumIsWrong_24 (by decide) (fun c_24 => ?_) (fun c_24 => ?_)
    · refine lv_iconst (v := 0) hx hb zd_S_sumIsWrong_31 (by decide) ?_
      rw [(show zf_S_sumIsWrong st p1 p2 = 0 from by rw [zf_S_sumIsWrong, if_neg c_13, if_pos c_24])]
      exact zz_kzret hx hb hr hlocks narrow_b0 zd_S_sumIsWrong_32 rfl
    · refine lv_iconst (v := 1) hx hb zd_S_sumIsWrong_27 (by decide) ?_
      refine lv_goto (tgt := 32) hx hb zd_S_sumIsWrong_28 (by decide) ?_
      rw [(show zf_S_sumIsWrong st p1 p2 = 1 from by rw [zf_S_sumIsWrong, if_neg c_13, if_neg c_24])]
      exact zz_kzret hx hb hr hlocks narrow_b1 zd_S_sumIsWrong_32 rfl
set_option maxHeartbeats 4000000 in
set_option maxRecDepth 100000 in
theorem zp_S_setSlot_4 {p : Program} {l : Launch} {e : Env} {s : State} {m : MethodId} {below : List Frame} {meth : Method} {c : Code} (dC : Nat → ClassId) (dI : Nat → Nat → Nat) (cI cZ cL : ClassId) (a0 a1 a2 : Nat) (st : zu_S) (p1 : Int32) (C0 : zz_C p s m ([.ref a0, .int p1] : List Value).toArray meth c zb_S_setSlot 4 (some .int) zy_S_setSlot.cls) (hK : va_K (dC, dI) zz_cl (zz_ty cI cZ cL) s) (hP : va_P (dC, dI) zz_cl (zw_S cI cZ cL a0 a1 a2 st) s.heap) (hD : va_D (fun _ => True) (zw_S cI cZ cL a0 a1 a2 st)) :
    ∀ (mm k : Nat), k + mm = 310 → ∀ (x2 : Int32), ∀ ls : Array Slot, lv_has ls 4 [(0, .ref a0), (1, .int p1), (2, .int x2), (3, .int (nI k))] →
    W p l e ({ frames := 0, cells := 0, slots := 0, locals := 0 } : Room) s m ([.ref a0, .int p1] : List Value).toArray below meth c s.heap [] 0 0 (MQ below (zz_Ki (zf_S_setSlot_L4 st p1 mm k x2)) ([.ref a0, .int p1] : List Value).toArray s 0 0 (fun _ => False)) (F0 m 4 ls []) := by
  obtain ⟨hx, hb, hr, hml, hown, htB, hlocks, hE⟩ := id C0
  intro mm
  induction mm with
  | zero =>
    intro k hk x2 ls hl
    refine lv_iload_n hx hb zd_S_setSlot_4 rfl (lv_at hl 3 rfl) ?_
    refine lv_aload_n hx hb zd_S_setSlot_5 rfl (lv_at hl 0 rfl) ?_
    refine va_get (D := (dC, dI)) (ci := 1) (v := .ref a1) (C := zr_S) (T := zF_S) (N := 5) hx hb htB zi_S hown hK hP 0 rfl rfl 0 (by decide) (htB _ zk_58041e5d) (fun _ h9 => h9) rfl zd_S_setSlot_6 ?_
    refine va_alen (v := 310) hx hb hK hP 1 0 rfl rfl rfl zd_S_setSlot_9 ?_
    refine lv_icmp_ge (tgt := 39) hx hb zd_S_setSlot_10 (by decide) (fun _ => ?_) (fun c_ => absurd (zz_geT (b := 310) rfl (by omega) (by omega)) c_)
    refine lv_iconst (v := (-1)) hx hb zd_S_setSlot_39 (by decide) ?_
    rw [(show zf_S_setSlot_L4 st p1 0 k x2 = (-1) from by first | rfl | (rw [zf_S_setSlot_L4]))]
    exact zz_kiret hx hb hr hlocks zd_S_setSlot_40 rfl
  | succ mm ih =>
    intro k hk x2 ls hl
    refine lv_iload_n hx hb zd_S_setSlot_4 rfl (lv_at hl 3 rfl) ?_
    refine lv_aload_n hx hb zd_S_setSlot_5 rfl (lv_at hl 0 rfl) ?_
    refine va_get (D := (dC, dI)) (ci := 1) (v := .ref a1) (C := zr_S) (T := zF_S) (N := 5) hx hb htB zi_S hown hK hP 0 rfl rfl 0 (by decide) (htB _ zk_58041e5d) (fun _ h9 => h9) rfl zd_S_setSlot_6 ?_
    refine va_alen (v := 310) hx hb hK hP 1 0 rfl rfl rfl zd_S_setSlot_9 ?_
    refine lv_icmp_ge (tgt := 39) hx hb zd_S_setSlot_10 (by decide) (fun c_ => absurd c_ (zz_geF (b := 310) rfl (by omega) (by omega))) (fun _ => ?_)
    refine lv_aload_n hx hb zd_S_setSlot_13 rfl (lv_at hl 0 rfl) ?_
    refine va_get (D := (dC, dI)) (ci := 1) (v := .ref a1) (C := zr_S) (T := zF_S) (N := 5) hx hb htB zi_S hown hK hP 0 rfl rfl 0 (by decide) (htB _ zk_58041e5d) (fun _ h9 => h9) rfl zd_S_setSlot_14 ?_
    refine lv_iload_n hx hb zd_S_setSlot_17 rfl (lv_at hl 3 rfl) ?_
    refine zz_iald hx hb hK hP 1 0 rfl rfl (by omega) (by decide) zd_S_setSlot_18 ?_
    refine lv_iconst (v := (-1)) hx hb zd_S_setSlot_19 (by decide) ?_
    refine lv_icmp_eq (tgt := 33) hx hb zd_S_setSlot_20 (by decide) (fun c_20 => ?_) (fun c_20 => ?_)
    · refine lv_iinc (v := nI (k + 1)) (lv' := [(3, .int (nI (k + 1))), (0, .ref a0), (1, .int p1), (2, .int x2)]) hx hb zd_S_setSlot_33 hl (k := 3) rfl (nI_1 k) (by decide) rfl (fun ls hl => ?_)
      refine lv_goto (tgt := 4) hx hb zd_S_setSlot_36 (by decide) ?_
      rw [(show zf_S_setSlot_L4 st p1 (mm + 1) k x2 = zf_S_setSlot_L4 st p1 mm (k + 1) x2 from by rw [zf_S_setSlot_L4, if_pos c_20])]
      exact ih (k + 1) (by omega) x2  _ (lv_sub hl [1, 2, 3, 0] rfl)
    · refine lv_iload_n hx hb zd_S_setSlot_23 rfl (lv_at hl 2 rfl) ?_
      refine lv_iload_n hx hb zd_S_setSlot_24 rfl (lv_at hl 1 rfl) ?_
      refine lv_icmp_ne (tgt := 30) hx hb zd_S_setSlot_25 (by decide) (fun c_25 => ?_) (fun c_25 => ?_)
      · refine lv_iinc (v := x2 + 1) (lv' := [(2, .int (x2 + 1)), (0, .ref a0), (1, .int p1), (3, .int (nI k))]) hx hb zd_S_setSlot_30 hl (k := 2) rfl rfl (by decide) rfl (fun ls hl => ?_)
        refine lv_iinc (v := nI (k + 1)) (lv' := [(3, .int (nI (k + 1))), (2, .int (x2 + 1)), (0, .ref a0), (1, .int p1)]) hx hb zd_S_setSlot_33 hl (k := 3) rfl (nI_1 k) (by decide) rfl (fun ls hl => ?_)
        refine lv_goto (tgt := 4) hx hb zd_S_setSlot_36 (by decide) ?_
        rw [(show zf_S_setSlot_L4 st p1 (mm + 1) k x2 = zf_S_setSlot_L4 st p1 mm (k + 1) (x2 + 1) from by rw [zf_S_setSlot_L4, if_neg c_20, if_neg c_25])]
        exact ih (k + 1) (by omega) (x2 + 1)  _ (lv_sub hl [2, 3, 1, 0] rfl)
      · refine lv_iload_n hx hb zd_S_setSlot_28 rfl (lv_at hl 3 rfl) ?_
        rw [(show zf_S_setSlot_L4 st p1 (mm + 1) k x2 = nI k from by rw [zf_S_setSlot_L4, if_neg c_20, if_pos c_25])]
        exact zz_kiret hx hb hr hlocks zd_S_setSlot_29 rfl
set_option maxHeartbeats 4000000 in
set_option maxRecDepth 100000 in
theorem zc_S_setSlot (l : Launch) (dC : Nat → ClassId) (dI : Nat → Nat → Nat) (cI cZ cL : ClassId) (a0 a1 a2 : Nat) (sz : Nat) (st : zu_S) (p1 : Int32)  : Met l zy_S_setSlot (zz_ws zy_S_setSlot zb_S_setSlot 4 (some .int)) ({ frames := 0, cells := 0, slots := 0, locals := 0 } : Room) (va_Pc ([.ref a0, .int p1] : List Value) (zz_P (dC, dI) (zz_ty cI cZ cL) sz (zw_S cI cZ cL a0 a1 a2 st))) (zz_Ki (zf_S_setSlot st p1)) 0 0 (fun _ => False) := by
  refine zz_ofK (by decide) (Nat.le_of_ble_eq_true rfl) ?_
  intro p e s m below meth c C0 hK hP hD ls hl
  obtain ⟨hx, hb, hr, hml, hown, htB, hlocks, hE⟩ := id C0
  have hl : lv_has ls 4 [(0, .ref a0), (1, .int p1)] := hl
  refine lv_iconst (v := 0) hx hb zd_S_setSlot_0 (by decide) ?_
  refine lv_istore_n (lv' := [(2, .int 0), (0, .ref a0), (1, .int p1)]) hx hb zd_S_setSlot_1 rfl hl (by decide) rfl (fun ls hl => ?_)
  refine lv_iconst (v := 0) hx hb zd_S_setSlot_2 (by decide) ?_
  refine lv_istore_n (lv' := [(3, .int 0), (2, .int 0), (0, .ref a0), (1, .int p1)]) hx hb zd_S_setSlot_3 rfl hl (by decide) rfl (fun ls hl => ?_)
  rw [(show zf_S_setSlot st p1 = zf_S_setSlot_L4 st p1 310 0 0 from by first | rfl | (rw [zf_S_setSlot]))]
  exact zp_S_setSlot_4 dC dI cI cZ cL a0 a1 a2 st p1 C0 hK hP hD 310 0 rfl 0  _ (lv_sub hl [2, 3, 1, 0] rfl)
