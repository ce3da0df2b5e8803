set_option maxHeartbeats 4000000 in
set_option maxRecDepth 100000 in
theorem zc_X_line (l : Launch) (dC : Nat → ClassId) (dI : Nat → Nat → Nat) (cI cZ cL : ClassId) (a0 a1 a2 a3 a4 a5 a6 a7 a8 a9 a10 a11 : Nat) (sz : Nat) (st : zu_X) (hm : st.2.1.2.2.1 ≤ 30) (hf0 : l.flags = pinnedFlags ++ [noTraceFlag]) : zt_Met l zy_X_line (zz_ws zy_X_line zb_X_line 1 (some .int)) ({ frames := 6, cells := 1, slots := 6, locals := 83 } : Room) (va_Pc ([.ref a0] : List Value) (zt_P (dC, dI) (zz_ty cI cZ cL) sz (zw_X cI cZ cL a0 a1 a2 a3 a4 a5 a6 a7 a8 a9 a10 a11 st))) (zt_Qi (dC, dI) (zz_ty cI cZ cL) (va_A (zw_X cI cZ cL a0 a1 a2 a3 a4 a5 a6 a7 a8 a9 a10 a11 st) sz) (fun _ => "java/lang/IllegalStateException") (zf_X_line st).1 ((zf_X_line st).2.1) (zw_X cI cZ cL a0 a1 a2 a3 a4 a5 a6 a7 a8 a9 a10 a11 ((zf_X_line st).2.2))) 1 6 (va_A (zw_X cI cZ cL a0 a1 a2 a3 a4 a5 a6 a7 a8 a9 a10 a11 st) sz) := by
  refine zt_ofW (Q := fun A => (zt_Qi (dC, dI) (zz_ty cI cZ cL) A (fun _ => "java/lang/IllegalStateException") (zf_X_line st).1 ((zf_X_line st).2.1) (zw_X cI cZ cL a0 a1 a2 a3 a4 a5 a6 a7 a8 a9 a10 a11 ((zf_X_line st).2.2)))) (by decide) (Nat.le_of_ble_eq_true rfl) ?_
  intro p e s m below meth c A C0 hexc hadm hA hK hP hD hZ ls hl
  obtain ⟨hx, hb, hr, hml, hown, htB, hlocks, hE⟩ := id C0
  have hS : va_S A s.heap s.heap [] := va_S.rf
  have hl : lv_has ls 1 [(0, .ref a0)] := hl
  refine lv_aload_n hx hb zd_X_line_0 rfl (lv_at hl 0 rfl) ?_
  refine va_get (D := (dC, dI)) (ci := 0) (v := .int st.2.2.2.2.2.2) (C := zr_X) (T := zF_X) (N := 7) hx hb htB zi_X hown hK hP 0 rfl rfl 6 (by decide) (htB _ zk_a72d337f) (fun _ h9 => h9) rfl zd_X_line_1 ?_
  refine lv_if_ne (tgt := 17) hx hb zd_X_line_4 (by decide) (fun c_4 => ?_) (fun c_4 => ?_)
  · rw [(show zf_X_line st = (1, 0, st) from by rw [zf_X_line, if_neg c_4])]
    exact zt_throw (names := ["java/lang/RuntimeException", "java/lang/Exception"]) hf0 hadm hx hb (hml.trans hl.1.symm) hlocks hexc hown (htB _ zk_f0307824) (htB _ zk_0493ccc5) (htB _ zk_03932cc4) (hE.2.1 ("DeclareForms", 63, "no further line") (List.mem_of_getElem? (i := 0) rfl)) (by decide +kernel) (by decide +kernel) (za_0 htB hE hZ) hK hP hD hA (Nat.le_of_ble_eq_true rfl) (Nat.le_of_ble_eq_true rfl) (Nat.le_of_ble_eq_true rfl) (Nat.le_of_ble_eq_true rfl) zd_X_line_17 zd_X_line_20 zd_X_line_21 zd_X_line_23 zd_X_line_26 (fun oc t x ce h1 h2 h3 h4 h5 h6 h7 => ⟨Or.inr ⟨(show (1 : Nat) ≠ 0 by decide), x, ce, h1, h2, h3, h4, h5⟩, h6, h7⟩)
  · refine lv_aload_n hx hb zd_X_line_7 rfl (lv_at hl 0 rfl) ?_
    refine va_get (D := (dC, dI)) (ci := 0) (v := .ref a1) (C := zr_X) (T := zF_X) (N := 7) hx hb htB zi_X hown hK hP 0 rfl rfl 1 (by decide) (htB _ zk_ac6f5f75) (fun _ h9 => h9) rfl zd_X_line_8 ?_
    refine zz_ki (va_runV (As := []) (rest := []) ⟨hx, hb, hml, hown, htB⟩ (zc_S_isFull l dC dI cI cZ cL a1 a2 a3 s.heap.size st.2.1  ) (cwV 0 htB (zz_gV zk_97987d2d zk_5ea10dbf zk_5f4fa963 zk_f1a23aa7 zk_bb1301ba) rfl rfl rfl ⟨rfl, zh_S_isFull⟩ ⟨Nat.le_of_ble_eq_true rfl, Nat.le_of_ble_eq_true rfl⟩) (zz_preV (ci := 1) (q := (zr_S, zF_S, 5)) hP hD hK hE [1, 2, 3] (by decide) rfl rfl rfl) rfl rfl hl.1 rfl (lv_room (Nat.le_of_ble_eq_true rfl)) zd_X_line_11 ⟨Nat.le_of_ble_eq_true rfl, Nat.le_of_ble_eq_true rfl⟩) ?_
    refine lv_if_eq (tgt := 27) hx hb zd_X_line_14 (by decide) (fun c_14 => ?_) (fun c_14 => ?_)
    · refine lv_aload_n hx hb zd_X_line_27 rfl (lv_at hl 0 rfl) ?_
      refine va_get (D := (dC, dI)) (ci := 0) (v := .ref a1) (C := zr_X) (T := zF_X) (N := 7) hx hb htB zi_X hown hK hP 0 rfl rfl 1 (by decide) (htB _ zk_ac6f5f75) (fun _ h9 => h9) rfl zd_X_line_28 ?_
      refine zz_ci (va_runV (As := []) (rest := []) ⟨hx, hb, hml, hown, htB⟩ (zc_S_openLine l dC dI cI cZ cL a1 a2 a3 s.heap.size st.2.1  hm) (cwV 0 htB (zz_gV zk_ab432be1 zk_01534751 zk_f8f3f2f9 zk_f1a23aa7 zk_a71217dc) rfl rfl rfl ⟨rfl, zh_S_openLine⟩ ⟨Nat.le_of_ble_eq_true rfl, Nat.le_of_ble_eq_true rfl⟩) (zz_preV (ci := 1) (q := (zr_S, zF_S, 5)) hP hD hK hE [1, 2, 3] (by decide) rfl rfl rfl) rfl rfl hl.1 rfl (lv_room (Nat.le_of_ble_eq_true rfl)) zd_X_line_31 ⟨Nat.le_of_ble_eq_true rfl, Nat.le_of_ble_eq_true rfl⟩) hP hD hS hA [1, 2, 3] [0, 4, 5, 6, 7, 8, 9, 10, 11] [0, 9, 10, 11, 1, 2, 3, 4, 5, 6, 7, 8] rfl rfl (by decide) (by decide) (by decide) rfl (fun H locs hP hD hS => ?_)
      have hP : va_P (dC, dI) zz_cl (zw_X cI cZ cL a0 a1 a2 a3 a4 a5 a6 a7 a8 a9 a10 a11 (st.1, (zf_S_openLine st.2.1).2, st.2.2.1, st.2.2.2.1, st.2.2.2.2.1, st.2.2.2.2.2.1, st.2.2.2.2.2.2)) H := hP
      have hD : va_D A (zw_X cI cZ cL a0 a1 a2 a3 a4 a5 a6 a7 a8 a9 a10 a11 (st.1, (zf_S_openLine st.2.1).2, st.2.2.1, st.2.2.2.1, st.2.2.2.2.1, st.2.2.2.2.2.1, st.2.2.2.2.2.2)) := hD
      rw [(show zf_X_line st = (0, (zf_S_openLine st.2.1).1, (st.1, (zf_S_openLine st.2.1).2, st.2.2.1, st.2.2.2.1, st.2.2.2.2.1, st.2.2.2.2.2.1, st.2.2.2.2.2.2)) from by rw [zf_X_line, if_pos c_4, if_pos c_14])]
      refine W.widen (k := 1) (n := 6) (by decide) (by decide) ?_
      exact zt_iret hx hb hr hlocks hK hP hD hS zd_X_line_34 rfl rfl
    · rw [(show zf_X_line st = (1, 0, st) from by rw [zf_X_line, if_pos c_4, if_neg c_14])]
      exact zt_throw (names := ["java/lang/RuntimeException", "java/lang/Exception"]) hf0 hadm hx hb (hml.trans hl.1.symm) hlocks hexc hown (htB _ zk_f0307824) (htB _ zk_0493ccc5) (htB _ zk_03932cc4) (hE.2.1 ("DeclareForms", 63, "no further line") (List.mem_of_getElem? (i := 0) rfl)) (by decide +kernel) (by decide +kernel) (za_0 htB hE hZ) hK hP hD hA (Nat.le_of_ble_eq_true rfl) (Nat.le_of_ble_eq_true rfl) (Nat.le_of_ble_eq_true rfl) (Nat.le_of_ble_eq_true rfl) zd_X_line_17 zd_X_line_20 zd_X_line_21 zd_X_line_23 zd_X_line_26 (fun oc t x ce h1 h2 h3 h4 h5 h6 h7 => ⟨Or.inr ⟨(show (1 : Nat) ≠ 0 by decide), x, ce, h1, h2, h3, h4, h5⟩, h6, h7⟩)
set_option maxHeartbeats 4000000 in
set_option maxRecDepth 100000 in
theorem zc_X_field (l : Launch) (dC : Nat → ClassId) (dI : Nat → Nat → Nat) (cI cZ cL : ClassId) (a0 a1 a2 a3 a4 a5 a6 a7 a8 a9 a10 a11 : Nat) (sz : Nat) (st : zu_X) (p1 : Int32) (p2 : Int32) (p3 : Int64)  (hf0 : l.flags = pinnedFlags ++ [noTraceFlag]) : zt_Met l zy_X_field (zz_ws zy_X_field zb_X_field 6 (some .int)) ({ frames := 6, cells := 1, slots := 6, locals := 83 } : Room) (va_Pc ([.ref a0, .int p1, .int p2, .long p3] : List Value) (zt_P (dC, dI) (zz_ty cI cZ cL) sz (zw_X cI cZ cL a0 a1 a2 a3 a4 a5 a6 a7 a8 a9 a10 a11 st))) (zt_Qi (dC, dI) (zz_ty cI cZ cL) (va_A (zw_X cI cZ cL a0 a1 a2 a3 a4 a5 a6 a7 a8 a9 a10 a11 st) sz) (fun _ => "java/lang/IllegalArgumentException") (zf_X_field st p1 p2 p3).1 ((zf_X_field st p1 p2 p3).2.1) (zw_X cI cZ cL a0 a1 a2 a3 a4 a5 a6 a7 a8 a9 a10 a11 ((zf_X_field st p1 p2 p3).2.2))) 1 6 (va_A (zw_X cI cZ cL a0 a1 a2 a3 a4 a5 a6 a7 a8 a9 a10 a11 st) sz) := by
  refine zt_ofW (Q := fun A => (zt_Qi (dC, dI) (zz_ty cI cZ cL) A (fun _ => "java/lang/IllegalArgumentException") (zf_X_field st p1 p2 p3).1 ((zf_X_field st p1 p2 p3).2.1) (zw_X cI cZ cL a0 a1 a2 a3 a4 a5 a6 a7 a8 a9 a10 a11 ((zf_X_field st p1 p2 p3).2.2)))) (by decide) (Nat.le_of_ble_eq_true rfl) ?_
  intro p e s m below meth c A C0 hexc hadm hA hK hP hD hZ ls hl
  obtain ⟨hx, hb, hr, hml, hown, htB, hlocks, hE⟩ := id C0
  have hS : va_S A s.heap s.heap [] := va_S.rf
  have hl : lv_has ls 6 [(0, .ref a0), (1, .int p1), (2, .int p2), (3, .long p3)] := hl
  refine lv_aload_n hx hb zd_X_field_0 rfl (lv_at hl 0 rfl) ?_
  refine va_get (D := (dC, dI)) (ci := 0) (v := .ref a1) (C := zr_X) (T := zF_X) (N := 7) hx hb htB zi_X hown hK hP 0 rfl rfl 1 (by decide) (htB _ zk_ac6f5f75) (fun _ h9 => h9) rfl zd_X_field_1 ?_
  refine lv_iload_n hx hb zd_X_field_4 rfl (lv_at hl 1 rfl) ?_
  refine lv_iload_n hx hb zd_X_field_5 rfl (lv_at hl 2 rfl) ?_
  refine zz_ki (va_runV (As := [.int p1, .int p2]) (rest := []) ⟨hx, hb, hml, hown, htB⟩ (zc_S_slotOf l dC dI cI cZ cL a1 a2 a3 s.heap.size st.2.1 p1 p2 ) (cwV 2 htB (zz_gV zk_3749943e zk_13757a2f zk_9f779419 zk_f1a23aa7 zk_e4817253) rfl rfl rfl ⟨rfl, zh_S_slotOf⟩ ⟨Nat.le_of_ble_eq_true rfl, Nat.le_of_ble_eq_true rfl⟩) (zz_preV (ci := 1) (q := (zr_S, zF_S, 5)) hP hD hK hE [1, 2, 3] (by decide) rfl rfl rfl) rfl rfl hl.1 rfl (lv_room (Nat.le_of_ble_eq_true rfl)) zd_X_field_6 ⟨Nat.le_of_ble_eq_true rfl, Nat.le_of_ble_eq_true rfl⟩) ?_
  refine lv_istore (lv' := [(5, .int (zf_S_slotOf st.2.1 p1 p2)), (0, .ref a0), (1, .int p1), (2, .int p2), (3, .long p3)]) hx hb zd_X_field_9 hl (by decide) rfl (fun ls hl => ?_)
  refine lv_iload hx hb zd_X_field_11 (lv_at hl 0 rfl) ?_
  refine lv_iconst (v := (-1)) hx hb zd_X_field_13 (by decide) ?_
  refine lv_icmp_eq (tgt := 24) hx hb zd_X_field_14 (by decide) (fun c_14 => ?_) (fun c_14 => ?_)
  · rw [(show zf_X_field st p1 p2 p3 = (1, 0, st) from by rw [zf_X_field, if_pos c_14])]
    exact zt_throw (names := ["java/lang/RuntimeException", "java/lang/Exception"]) hf0 hadm hx hb (hml.trans hl.1.symm) hlocks hexc hown (htB _ zk_c1982f07) (htB _ zk_04fc2812) (htB _ zk_9ce9d120) (hE.2.1 ("DeclareForms", 93, "no such field, line or value") (List.mem_of_getElem? (i := 1) rfl)) (by decide +kernel) (by decide +kernel) (za_1 htB hE hZ) hK hP hD hA (Nat.le_of_ble_eq_true rfl) (Nat.le_of_ble_eq_true rfl) (Nat.le_of_ble_eq_true rfl) (Nat.le_of_ble_eq_true rfl) zd_X_field_24 zd_X_field_27 zd_X_field_28 zd_X_field_30 zd_X_field_33 (fun oc t x ce h1 h2 h3 h4 h5 h6 h7 => ⟨Or.inr ⟨(show (1 : Nat) ≠ 0 by decide), x, ce, h1, h2, h3, h4, h5⟩, h6, h7⟩)
  · refine lv_lload_n hx hb zd_X_field_17 rfl (lv_at hl 4 rfl) ?_
    refine zz_ki (va_runS (As := [.long p3]) (rest := []) ⟨hx, hb, hml, hown, htB⟩ (zc_X_isValue l dC dI cI cZ cL  s.heap.size  p3 ) (va_cwS 1 htB (zz_gS zk_a4e11230 zk_aa84806c zk_cfe38e2e zk_39170c80) rfl rfl rfl zh_X_isValue ⟨Nat.le_of_ble_eq_true rfl, Nat.le_of_ble_eq_true rfl⟩) (zz_preS hP hD hK hE [] (by decide) rfl) rfl rfl hl.1 rfl (lv_room (Nat.le_of_ble_eq_true rfl)) zd_X_field_18 ⟨Nat.le_of_ble_eq_true rfl, Nat.le_of_ble_eq_true rfl⟩) ?_
    refine lv_if_ne (tgt := 34) hx hb zd_X_field_21 (by decide) (fun c_21 => ?_) (fun c_21 => ?_)
    · refine lv_aload_n hx hb zd_X_field_34 rfl (lv_at hl 1 rfl) ?_
      refine va_get (D := (dC, dI)) (ci := 0) (v := .int st.2.2.2.2.2.2) (C := zr_X) (T := zF_X) (N := 7) hx hb htB zi_X hown hK hP 0 rfl rfl 6 (by decide) (htB _ zk_a72d337f) (fun _ h9 => h9) rfl zd_X_field_35 ?_
      refine lv_if_ne (tgt := 53) hx hb zd_X_field_38 (by decide) (fun c_38 => ?_) (fun c_38 => ?_)
      · refine lv_iconst (v := 0) hx hb zd_X_field_53 (by decide) ?_
        rw [(show zf_X_field st p1 p2 p3 = (0, 0, st) from by rw [zf_X_field, if_neg c_14, if_neg c_21, if_neg c_38])]
        refine W.widen (k := 1) (n := 6) (by decide) (by decide) ?_
        exact zt_iret hx hb hr hlocks hK hP hD hS zd_X_field_54 rfl rfl
      · refine lv_aload_n hx hb zd_X_field_41 rfl (lv_at hl 1 rfl) ?_
        refine va_get (D := (dC, dI)) (ci := 0) (v := .int st.1) (C := zr_X) (T := zF_X) (N := 7) hx hb htB zi_X hown hK hP 0 rfl rfl 0 (by decide) (htB _ zk_26e1908c) (fun _ h9 => h9) rfl zd_X_field_42 ?_
        refine lv_iload_n hx hb zd_X_field_45 rfl (lv_at hl 2 rfl) ?_
        refine zz_ki (va_runS (As := [.int st.1, .int p1]) (rest := []) ⟨hx, hb, hml, hown, htB⟩ (zc_X_needBy l dC dI cI cZ cL  s.heap.size  st.1 p1 ) (va_cwS 2 htB (zz_gS zk_36bd0bf1 zk_e14187d6 zk_cfe38e2e zk_dd814726) rfl rfl rfl zh_X_needBy ⟨Nat.le_of_ble_eq_true rfl, Nat.le_of_ble_eq_true rfl⟩) (zz_preS hP hD hK hE [] (by decide) rfl) rfl rfl hl.1 rfl (lv_room (Nat.le_of_ble_eq_true rfl)) zd_X_field_46 ⟨Nat.le_of_ble_eq_true rfl, Nat.le_of_ble_eq_true rfl⟩) ?_
        refine lv_iconst (v := 3) hx hb zd_X_field_49 (by decide) ?_
        refine lv_icmp_ne (tgt := 55) hx hb zd_X_field_50 (by decide) (fun c_50 => ?_) (fun c_50 => ?_)
        · refine lv_aload_n hx hb zd_X_field_55 rfl (lv_at hl 1 rfl) ?_
          refine va_get (D := (dC, dI)) (ci := 0) (v := .ref a1) (C := zr_X) (T := zF_X) (N := 7) hx hb htB zi_X hown hK hP 0 rfl rfl 1 (by decide) (htB _ zk_ac6f5f75) (fun _ h9 => h9) rfl zd_X_field_56 ?_
          refine lv_iload hx hb zd_X_field_59 (lv_at hl 0 rfl) ?_
          refine lv_lload_n hx hb zd_X_field_61 rfl (lv_at hl 4 rfl) ?_
          refine lv_l2i hx hb zd_X_field_62 rfl ?_
          refine zz_cv (va_runV (As := [.int (zf_S_slotOf st.2.1 p1 p2), .int p3.toInt32]) (rest := []) ⟨hx, hb, hml, hown, htB⟩ (zc_S_put l dC dI cI cZ cL a1 a2 a3 s.heap.size st.2.1 (zf_S_slotOf st.2.1 p1 p2) p3.toInt32 ) (cwV 2 htB (zz_gV zk_f54cd352 zk_7151ae50 zk_2e2e7b1b zk_f1a23aa7 zk_29ef983f) rfl rfl rfl ⟨rfl, zh_S_put⟩ ⟨Nat.le_of_ble_eq_true rfl, Nat.le_of_ble_eq_true rfl⟩) (zz_preV (ci := 1) (q := (zr_S, zF_S, 5)) hP hD hK hE [1, 2, 3] (by decide) rfl rfl rfl) rfl rfl hl.1 rfl (lv_room (Nat.le_of_ble_eq_true rfl)) zd_X_field_63 ⟨Nat.le_of_ble_eq_true rfl, Nat.le_of_ble_eq_true rfl⟩) hP hD hS hA [1, 2, 3] [0, 4, 5, 6, 7, 8, 9, 10, 11] [0, 9, 10, 11, 1, 2, 3, 4, 5, 6, 7, 8] rfl rfl (by decide) (by decide) (by decide) rfl (fun H locs hP hD hS => ?_)
          have hP : va_P (dC, dI) zz_cl (zw_X cI cZ cL a0 a1 a2 a3 a4 a5 a6 a7 a8 a9 a10 a11 (st.1, (zf_S_put st.2.1 (zf_S_slotOf st.2.1 p1 p2) p3.toInt32), st.2.2.1, st.2.2.2.1, st.2.2.2.2.1, st.2.2.2.2.2.1, st.2.2.2.2.2.2)) H := hP
          have hD : va_D A (zw_X cI cZ cL a0 a1 a2 a3 a4 a5 a6 a7 a8 a9 a10 a11 (st.1, (zf_S_put st.2.1 (zf_S_slotOf st.2.1 p1 p2) p3.toInt32), st.2.2.1, st.2.2.2.1, st.2.2.2.2.1, st.2.2.2.2.2.1, st.2.2.2.2.2.2)) := hD
          refine lv_iconst (v := 1) hx hb zd_X_field_66 (by decide) ?_
          rw [(show zf_X_field st p1 p2 p3 = (0, 1, (st.1, (zf_S_put st.2.1 (zf_S_slotOf st.2.1 p1 p2) p3.toInt32), st.2.2.1, st.2.2.2.1, st.2.2.2.2.1, st.2.2.2.2.2.1, st.2.2.2.2.2.2)) from by rw [zf_X_field, if_neg c_14, if_neg c_21, if_pos c_38, if_neg c_50])]
          refine W.widen (k := 1) (n := 6) (by decide) (by decide) ?_
          exact zt_iret hx hb hr hlocks hK hP hD hS zd_X_field_67 rfl rfl
        · refine lv_iconst (v := 0) hx hb zd_X_field_53 (by decide) ?_
          rw [(show zf_X_field st p1 p2 p3 = (0, 0, st) from by rw [zf_X_field, if_neg c_14, if_neg c_21, if_pos c_38, if_pos c_50])]
          refine W.widen (k := 1) (n := 6) (by decide) (by decide) ?_
          exact zt_iret hx hb hr hlocks hK hP hD hS zd_X_field_54 rfl rfl
    · rw [(show zf_X_field st p1 p2 p3 = (1, 0, st) from by rw [zf_X_field, if_neg c_14, if_pos c_21])]
      exact zt_throw (names := ["java/lang/RuntimeException", "java/lang/Exception"]) hf0 hadm hx hb (hml.trans hl.1.symm) hlocks hexc hown (htB _ zk_c1982f07) (htB _ zk_04fc2812) (htB _ zk_9ce9d120) (hE.2.1 ("DeclareForms", 93, "no such field, line or value") (List.mem_of_getElem? (i := 1) rfl)) (by decide +kernel) (by decide +kernel) (za_1 htB hE hZ) hK hP hD hA (Nat.le_of_ble_eq_true rfl) (Nat.le_of_ble_eq_true rfl) (Nat.le_of_ble_eq_true rfl) (Nat.le_of_ble_eq_true rfl) zd_X_field_24 zd_X_field_27 zd_X_field_28 zd_X_field_30 zd_X_field_33 (fun oc t x ce h1 h2 h3 h4 h5 h6 h7 => ⟨Or.inr ⟨(show (1 : Nat) ≠ 0 by decide), x, ce, h1, h2, h3, h4, h5⟩, h6, h7⟩)
set_option maxHeartbeats 4000000 in
set_option maxRecDepth 100000 in
theorem zc_X_value (l : Launch) (dC : Nat → ClassId) (dI : Nat → Nat → Nat) (cI cZ cL : ClassId) (a0 a1 a2 a3 a4 a5 a6 a7 a8 a9 a10 a11 : Nat) (sz : Nat) (st : zu_X) (p1 : Int32) (p2 : Int32)  (hf0 : l.flags = pinnedFlags ++ [noTraceFlag]) : zt_Met l zy_X_value (zz_ws zy_X_value zb_X_value 4 (some .long)) ({ frames := 6, cells := 1, slots := 6, locals := 83 } : Room) (va_Pc ([.ref a0, .int p1, .int p2] : List Value) (zt_P (dC, dI) (zz_ty cI cZ cL) sz (zw_X cI cZ cL a0 a1 a2 a3 a4 a5 a6 a7 a8 a9 a10 a11 st))) (zt_Ql (dC, dI) (zz_ty cI cZ cL) (va_A (zw_X cI cZ cL a0 a1 a2 a3 a4 a5 a6 a7 a8 a9 a10 a11 st) sz) (fun _ => "java/lang/IllegalArgumentException") (zf_X_value st p1 p2).1 ((zf_X_value st p1 p2).2) (zw_X cI cZ cL a0 a1 a2 a3 a4 a5 a6 a7 a8 a9 a10 a11 st)) 1 6 (va_A (zw_X cI cZ cL a0 a1 a2 a3 a4 a5 a6 a7 a8 a9 a10 a11 st) sz) := by
  refine zt_ofW (Q := fun A => (zt_Ql (dC, dI) (zz_ty cI cZ cL) A (fun _ => "java/lang/IllegalArgumentException") (zf_X_value st p1 p2).1 ((zf_X_value st p1 p2).2) (zw_X cI cZ cL a0 a1 a2 a3 a4 a5 a6 a7 a8 a9 a10 a11 st))) (by decide) (Nat.le_of_ble_eq_true rfl) ?_
  intro p e s m below meth c A C0 hexc hadm hA hK hP hD hZ ls hl
  obtain ⟨hx, hb, hr, hml, hown, htB, hlocks, hE⟩ := id C0
  have hS : va_S A s.heap s.heap [] := va_S.rf
  have hl : lv_has ls 4 [(0, .ref a0), (1, .int p1), (2, .int p2)] := hl
  refine lv_aload_n hx hb zd_X_value_0 rfl (lv_at hl 0 rfl) ?_
  refine va_get (D := (dC, dI)) (ci := 0) (v := .ref a1) (C := zr_X) (T := zF_X) (N := 7) hx hb htB zi_X hown hK hP 0 rfl rfl 1 (by decide) (htB _ zk_ac6f5f75) (fun _ h9 => h9) rfl zd_X_value_1 ?_
  refine lv_iload_n hx hb zd_X_value_4 rfl (lv_at hl 1 rfl) ?_
  refine lv_iload_n hx hb zd_X_value_5 rfl (lv_at hl 2 rfl) ?_
  refine zz_ki (va_runV (As := [.int p1, .int p2]) (rest := []) ⟨hx, hb, hml, hown, htB⟩ (zc_S_slotOf l dC dI cI cZ cL a1 a2 a3 s.heap.size st.2.1 p1 p2 ) (cwV 2 htB (zz_gV zk_3749943e zk_13757a2f zk_9f779419 zk_f1a23aa7 zk_e4817253) rfl rfl rfl ⟨rfl, zh_S_slotOf⟩ ⟨Nat.le_of_ble_eq_true rfl, Nat.le_of_ble_eq_true rfl⟩) (zz_preV (ci := 1) (q := (zr_S, zF_S, 5)) hP hD hK hE [1, 2, 3] (by decide) rfl rfl rfl) rfl rfl hl.1 rfl (lv_room (Nat.le_of_ble_eq_true rfl)) zd_X_value_6 ⟨Nat.le_of_ble_eq_true rfl, Nat.le_of_ble_eq_true rfl⟩) ?_
  refine lv_istore_n (lv' := [(3, .int (zf_S_slotOf st.2.1 p1 p2)), (0, .ref a0), (1, .int p1), (2, .int p2)]) hx hb zd_X_value_9 rfl hl (by decide) rfl (fun ls hl => ?_)
  refine lv_iload_n hx hb zd_X_value_10 rfl (lv_at hl 0 rfl) ?_
  refine lv_iconst (v := (-1)) hx hb zd_X_value_11 (by decide) ?_
  refine lv_icmp_ne (tgt := 25) hx hb zd_X_value_12 (by decide) (fun c_12 => ?_) (fun c_12 => ?_)
  · refine lv_aload_n hx hb zd_X_value_25 rfl (lv_at hl 1 rfl) ?_
    refine va_get (D := (dC, dI)) (ci := 0) (v := .ref a1) (C := zr_X) (T := zF_X) (N := 7) hx hb htB zi_X hown hK hP 0 rfl rfl 1 (by decide) (htB _ zk_ac6f5f75) (fun _ h9 => h9) rfl zd_X_value_26 ?_
    refine lv_iload_n hx hb zd_X_value_29 rfl (lv_at hl 0 rfl) ?_
    refine zz_ki (va_runV (As := [.int (zf_S_slotOf st.2.1 p1 p2)]) (rest := []) ⟨hx, hb, hml, hown, htB⟩ (zc_S_valueAt l dC dI cI cZ cL a1 a2 a3 s.heap.size st.2.1 (zf_S_slotOf st.2.1 p1 p2) ) (cwV 1 htB (zz_gV zk_79454776 zk_1fa0ab90 zk_4c70df44 zk_f1a23aa7 zk_fdbb5e96) rfl rfl rfl ⟨rfl, zh_S_valueAt⟩ ⟨Nat.le_of_ble_eq_true rfl, Nat.le_of_ble_eq_true rfl⟩) (zz_preV (ci := 1) (q := (zr_S, zF_S, 5)) hP hD hK hE [1, 2, 3] (by decide) rfl rfl rfl) rfl rfl hl.1 rfl (lv_room (Nat.le_of_ble_eq_true rfl)) zd_X_value_30 ⟨Nat.le_of_ble_eq_true rfl, Nat.le_of_ble_eq_true rfl⟩) ?_
    refine lv_i2l hx hb zd_X_value_33 rfl ?_
    rw [(show zf_X_value st p1 p2 = (0, (zf_S_valueAt st.2.1 (zf_S_slotOf st.2.1 p1 p2)).toInt64) from by rw [zf_X_value, if_neg c_12])]
    refine W.widen (k := 1) (n := 6) (by decide) (by decide) ?_
    exact zt_lret hx hb hr hlocks hK hP hD hS zd_X_value_34 rfl rfl
  · rw [(show zf_X_value st p1 p2 = (1, 0) from by rw [zf_X_value, if_pos c_12])]
    exact zt_throw (names := ["java/lang/RuntimeException", "java/lang/Exception"]) hf0 hadm hx hb (hml.trans hl.1.symm) hlocks hexc hown (htB _ zk_c1982f07) (htB _ zk_04fc2812) (htB _ zk_9ce9d120) (hE.2.1 ("DeclareForms", 106, "no such field or line") (List.mem_of_getElem? (i := 2) rfl)) (by decide +kernel) (by decide +kernel) (za_1 htB hE hZ) hK hP hD hA (Nat.le_of_ble_eq_true rfl) (Nat.le_of_ble_eq_true rfl) (Nat.le_of_ble_eq_true rfl) (Nat.le_of_ble_eq_true rfl) zd_X_value_15 zd_X_value_18 zd_X_value_19 zd_X_value_21 zd_X_value_24 (fun oc t x ce h1 h2 h3 h4 h5 h6 h7 => ⟨Or.inr ⟨(show (1 : Nat) ≠ 0 by decide), x, ce, h1, h2, h3, h4, h5⟩, h6, h7⟩)
set_option maxHeartbeats 4000000 in
set_option maxRecDepth 100000 in
theorem zc_X_need (l : Launch) (dC : Nat → ClassId) (dI : Nat → Nat → Nat) (cI cZ cL : ClassId) (a0 a1 a2 a3 a4 a5 a6 a7 a8 a9 a10 a11 : Nat) (sz : Nat) (st : zu_X) (p1 : Int32)  (hf0 : l.flags = pinnedFlags ++ [noTraceFlag]) : zt_Met l zy_X_need (zz_ws zy_X_need zb_X_need 2 (some .int)) ({ frames := 6, cells := 1, slots := 6, locals := 83 } : Room) (va_Pc ([.ref a0, .int p1] : List Value) (zt_P (dC, dI) (zz_ty cI cZ cL) sz (zw_X cI cZ cL a0 a1 a2 a3 a4 a5 a6 a7 a8 a9 a10 a11 st))) (zt_Qi (dC, dI) (zz_ty cI cZ cL) (va_A (zw_X cI cZ cL a0 a1 a2 a3 a4 a5 a6 a7 a8 a9 a10 a11 st) sz) (fun _ => "java/lang/IllegalArgumentException") (zf_X_need st p1).1 ((zf_X_need st p1).2) (zw_X cI cZ cL a0 a1 a2 a3 a4 a5 a6 a7 a8 a9 a10 a11 st)) 1 6 (va_A (zw_X cI cZ cL a0 a1 a2 a3 a4 a5 a6 a7 a8 a9 a10 a11 st) sz) := by
  refine zt_ofW (Q := fun A => (zt_Qi (dC, dI) (zz_ty cI cZ cL) A (fun _ => "java/lang/IllegalArgumentException") (zf_X_need st p1).1 ((zf_X_need st p1).2) (zw_X cI cZ cL a0 a1 a2 a3 a4 a5 a6 a7 a8 a9 a10 a11 st))) (by decide) (Nat.le_of_ble_eq_true rfl) ?_
  intro p e s m below meth c A C0 hexc hadm hA hK hP hD hZ ls hl
  obtain ⟨hx, hb, hr, hml, hown, htB, hlocks, hE⟩ := id C0
  have hS : va_S A s.heap s.heap [] := va_S.rf
  have hl : lv_has ls 2 [(0, .ref a0), (1, .int p1)] := hl
  refine lv_iload_n hx hb zd_X_need_0 rfl (lv_at hl 1 rfl) ?_
  refine lv_if_lt (tgt := 10) hx hb zd_X_need_1 (by decide) (fun c_1 => ?_) (fun c_1 => ?_)
  · rw [(show zf_X_need st p1 = (1, 0) from by rw [zf_X_need, if_pos c_1])]
    exact zt_throw (names := ["java/lang/RuntimeException", "java/lang/Exception"]) hf0 hadm hx hb (hml.trans hl.1.symm) hlocks hexc hown (htB _ zk_c1982f07) (htB _ zk_04fc2812) (htB _ zk_9ce9d120) (hE.2.1 ("DeclareForms", 108, "no such field") (List.mem_of_getElem? (i := 3) rfl)) (by decide +kernel) (by decide +kernel) (za_1 htB hE hZ) hK hP hD hA (Nat.le_of_ble_eq_true rfl) (Nat.le_of_ble_eq_true rfl) (Nat.le_of_ble_eq_true rfl) (Nat.le_of_ble_eq_true rfl) zd_X_need_10 zd_X_need_13 zd_X_need_14 zd_X_need_16 zd_X_need_19 (fun oc t x ce h1 h2 h3 h4 h5 h6 h7 => ⟨Or.inr ⟨(show (1 : Nat) ≠ 0 by decide), x, ce, h1, h2, h3, h4, h5⟩, h6, h7⟩)
  · refine lv_iload_n hx hb zd_X_need_4 rfl (lv_at hl 1 rfl) ?_
    refine lv_bipush (v := 19) hx hb zd_X_need_5 (by decide) ?_
    refine lv_icmp_le (tgt := 20) hx hb zd_X_need_7 (by decide) (fun c_7 => ?_) (fun c_7 => ?_)
    · refine lv_aload_n hx hb zd_X_need_20 rfl (lv_at hl 0 rfl) ?_
      refine va_get (D := (dC, dI)) (ci := 0) (v := .int st.1) (C := zr_X) (T := zF_X) (N := 7) hx hb htB zi_X hown hK hP 0 rfl rfl 0 (by decide) (htB _ zk_26e1908c) (fun _ h9 => h9) rfl zd_X_need_21 ?_
      refine lv_iload_n hx hb zd_X_need_24 rfl (lv_at hl 1 rfl) ?_
      refine zz_ki (va_runS (As := [.int st.1, .int p1]) (rest := []) ⟨hx, hb, hml, hown, htB⟩ (zc_X_needBy l dC dI cI cZ cL  s.heap.size  st.1 p1 ) (va_cwS 2 htB (zz_gS zk_36bd0bf1 zk_e14187d6 zk_cfe38e2e zk_dd814726) rfl rfl rfl zh_X_needBy ⟨Nat.le_of_ble_eq_true rfl, Nat.le_of_ble_eq_true rfl⟩) (zz_preS hP hD hK hE [] (by decide) rfl) rfl rfl hl.1 rfl (lv_room (Nat.le_of_ble_eq_true rfl)) zd_X_need_25 ⟨Nat.le_of_ble_eq_true rfl, Nat.le_of_ble_eq_true rfl⟩) ?_
      rw [(show zf_X_need st p1 = (0, (zf_X_needBy st.1 p1)) from by rw [zf_X_need, if_neg c_1, if_pos c_7])]
      refine W.widen (k := 1) (n := 6) (by decide) (by decide) ?_
      exact zt_iret hx hb hr hlocks hK hP hD hS zd_X_need_28 rfl rfl
    · rw [(show zf_X_need st p1 = (1, 0) from by rw [zf_X_need, if_neg c_1, if_neg c_7])]
      exact zt_throw (names := ["java/lang/RuntimeException", "java/lang/Exception"]) hf0 hadm hx hb (hml.trans hl.1.symm) hlocks hexc hown (htB _ zk_c1982f07) (htB _ zk_04fc2812) (htB _ zk_9ce9d120) (hE.2.1 ("DeclareForms", 108, "no such field") (List.mem_of_getElem? (i := 3) rfl)) (by decide +kernel) (by decide +kernel) (za_1 htB hE hZ) hK hP hD hA (Nat.le_of_ble_eq_true rfl) (Nat.le_of_ble_eq_true rfl) (Nat.le_of_ble_eq_true rfl) (Nat.le_of_ble_eq_true rfl) zd_X_need_10 zd_X_need_13 zd_X_need_14 zd_X_need_16 zd_X_need_19 (fun oc t x ce h1 h2 h3 h4 h5 h6 h7 => ⟨Or.inr ⟨(show (1 : Nat) ≠ 0 by decide), x, ce, h1, h2, h3, h4, h5⟩, h6, h7⟩)
set_option maxHeartbeats 4000000 in
set_option maxRecDepth 100000 in
theorem zc_X_amend (l : Launch) (dC : Nat → ClassId) (dI : Nat → Nat → Nat) (cI cZ cL : ClassId) (a0 a1 a2 a3 a4 a5 a6 a7 a8 a9 a10 a11 : Nat) (sz : Nat) (st : zu_X) (p1 : Int32) (p2 : Int32) (p3 : Int64) (hc : st.2.2.1.2.2 ≤ 20) (hf0 : l.flags = pinnedFlags ++ [noTraceFlag]) : zt_Met l zy_X_amend (zz_ws zy_X_amend zb_X_amend 7 (some .int)) ({ frames := 6, cells := 1, slots := 6, locals := 112 } : Room) (va_Pc ([.ref a0, .int p1, .int p2, .long p3] : List Value) (zt_P (dC, dI) (zz_ty cI cZ cL) sz (zw_X cI cZ cL a0 a1 a2 a3 a4 a5 a6 a7 a8 a9 a10 a11 st))) (zt_Qi (dC, dI) (zz_ty cI cZ cL) (va_A (zw_X cI cZ cL a0 a1 a2 a3 a4 a5 a6 a7 a8 a9 a10 a11 st) sz) (fun k => if k = 1 then "java/lang/IllegalArgumentException" else "java/lang/IllegalStateException") (zf_X_amend st p1 p2 p3).1 ((zf_X_amend st p1 p2 p3).2.1) (zw_X cI cZ cL a0 a1 a2 a3 a4 a5 a6 a7 a8 a9 a10 a11 ((zf_X_amend st p1 p2 p3).2.2))) 1 6 (va_A (zw_X cI cZ cL a0 a1 a2 a3 a4 a5 a6 a7 a8 a9 a10 a11 st) sz) := by
  refine zt_ofW (Q := fun A => (zt_Qi (dC, dI) (zz_ty cI cZ cL) A (fun k => if k = 1 then "java/lang/IllegalArgumentException" else "java/lang/IllegalStateException") (zf_X_amend st p1 p2 p3).1 ((zf_X_amend st p1 p2 p3).2.1) (zw_X cI cZ cL a0 a1 a2 a3 a4 a5 a6 a7 a8 a9 a10 a11 ((zf_X_amend st p1 p2 p3).2.2)))) (by decide) (Nat.le_of_ble_eq_true rfl) ?_
  intro p e s m below meth c A C0 hexc hadm hA hK hP hD hZ ls hl
  obtain ⟨hx, hb, hr, hml, hown, htB, hlocks, hE⟩ := id C0
  have hS : va_S A s.heap s.heap [] := va_S.rf
  have hl : lv_has ls 7 [(0, .ref a0), (1, .int p1), (2, .int p2), (3, .long p3)] := hl
  refine lv_aload_n hx hb zd_X_amend_0 rfl (lv_at hl 0 rfl) ?_
  refine va_get (D := (dC, dI)) (ci := 0) (v := .ref a1) (C := zr_X) (T := zF_X) (N := 7) hx hb htB zi_X hown hK hP 0 rfl rfl 1 (by decide) (htB _ zk_ac6f5f75) (fun _ h9 => h9) rfl zd_X_amend_1 ?_
  refine lv_iload_n hx hb zd_X_amend_4 rfl (lv_at hl 1 rfl) ?_
  refine lv_iload_n hx hb zd_X_amend_5 rfl (lv_at hl 2 rfl) ?_
  refine zz_ki (va_runV (As := [.int p1, .int p2]) (rest := []) ⟨hx, hb, hml, hown, htB⟩ (zc_S_slotOf l dC dI cI cZ cL a1 a2 a3 s.heap.size st.2.1 p1 p2 ) (cwV 2 htB (zz_gV zk_3749943e zk_13757a2f zk_9f779419 zk_f1a23aa7 zk_e4817253) rfl rfl rfl ⟨rfl, zh_S_slotOf⟩ ⟨Nat.le_of_ble_eq_true rfl, Nat.le_of_ble_eq_true rfl⟩) (zz_preV (ci := 1) (q := (zr_S, zF_S, 5)) hP hD hK hE [1, 2, 3] (by decide) rfl rfl rfl) rfl rfl hl.1 rfl (lv_room (Nat.le_of_ble_eq_true rfl)) zd_X_amend_6 ⟨Nat.le_of_ble_eq_true rfl, Nat.le_of_ble_eq_true rfl⟩) ?_
  refine lv_istore (lv' := [(5, .int (zf_S_slotOf st.2.1 p1 p2)), (0, .ref a0), (1, .int p1), (2, .int p2), (3, .long p3)]) hx hb zd_X_amend_9 hl (by decide) rfl (fun ls hl => ?_)
  refine lv_iload hx hb zd_X_amend_11 (lv_at hl 0 rfl) ?_
  refine lv_iconst (v := (-1)) hx hb zd_X_amend_13 (by decide) ?_
  refine lv_icmp_eq (tgt := 24) hx hb zd_X_amend_14 (by decide) (fun c_14 => ?_) (fun c_14 => ?_)
  · rw [(show zf_X_amend st p1 p2 p3 = (1, 0, st) from by rw [zf_X_amend, if_pos c_14])]
    exact zt_throw (names := ["java/lang/RuntimeException", "java/lang/Exception"]) hf0 hadm hx hb (hml.trans hl.1.symm) hlocks hexc hown (htB _ zk_c1982f07) (htB _ zk_04fc2812) (htB _ zk_9ce9d120) (hE.2.1 ("DeclareForms", 93, "no such field, line or value") (List.mem_of_getElem? (i := 1) rfl)) (by decide +kernel) (by decide +kernel) (za_1 htB hE hZ) hK hP hD hA (Nat.le_of_ble_eq_true rfl) (Nat.le_of_ble_eq_true rfl) (Nat.le_of_ble_eq_true rfl) (Nat.le_of_ble_eq_true rfl) zd_X_amend_24 zd_X_amend_27 zd_X_amend_28 zd_X_amend_30 zd_X_amend_33 (fun oc t x ce h1 h2 h3 h4 h5 h6 h7 => ⟨Or.inr ⟨(show (1 : Nat) ≠ 0 by decide), x, ce, h1, h2, h3, h4, h5⟩, h6, h7⟩)
  · refine lv_lload_n hx hb zd_X_amend_17 rfl (lv_at hl 4 rfl) ?_
    refine zz_ki (va_runS (As := [.long p3]) (rest := []) ⟨hx, hb, hml, hown, htB⟩ (zc_X_isValue l dC dI cI cZ cL  s.heap.size  p3 ) (va_cwS 1 htB (zz_gS zk_a4e11230 zk_aa84806c zk_cfe38e2e zk_39170c80) rfl rfl rfl zh_X_isValue ⟨Nat.le_of_ble_eq_true rfl, Nat.le_of_ble_eq_true rfl⟩) (zz_preS hP hD hK hE [] (by decide) rfl) rfl rfl hl.1 rfl (lv_room (Nat.le_of_ble_eq_true rfl)) zd_X_amend_18 ⟨Nat.le_of_ble_eq_true rfl, Nat.le_of_ble_eq_true rfl⟩) ?_
    refine lv_if_ne (tgt := 34) hx hb zd_X_amend_21 (by decide) (fun c_21 => ?_) (fun c_21 => ?_)
    · refine lv_aload_n hx hb zd_X_amend_34 rfl (lv_at hl 1 rfl) ?_
      refine va_get (D := (dC, dI)) (ci := 0) (v := .int st.2.2.2.2.2.2) (C := zr_X) (T := zF_X) (N := 7) hx hb htB zi_X hown hK hP 0 rfl rfl 6 (by decide) (htB _ zk_a72d337f) (fun _ h9 => h9) rfl zd_X_amend_35 ?_
      refine lv_if_ne (tgt := 51) hx hb zd_X_amend_38 (by decide) (fun c_38 => ?_) (fun c_38 => ?_)
      · refine lv_iload_n hx hb zd_X_amend_51 rfl (lv_at hl 2 rfl) ?_
        refine lv_iconst (v := 3) hx hb zd_X_amend_52 (by decide) ?_
        refine lv_irem hx hb zd_X_amend_53 (by decide) ?_
        refine lv_if_eq (tgt := 69) hx hb zd_X_amend_54 (by decide) (fun c_54 => ?_) (fun c_54 => ?_)
        · refine lv_iconst (v := 0) hx hb zd_X_amend_69 (by decide) ?_
          rw [(show zf_X_amend st p1 p2 p3 = (0, 0, st) from by rw [zf_X_amend, if_neg c_14, if_neg c_21, if_neg c_38, if_pos c_54])]
          refine W.widen (k := 1) (n := 6) (by decide) (by decide) ?_
          exact zt_iret hx hb hr hlocks hK hP hD hS zd_X_amend_70 rfl rfl
        · refine lv_aload_n hx hb zd_X_amend_57 rfl (lv_at hl 1 rfl) ?_
          refine va_get (D := (dC, dI)) (ci := 0) (v := .int st.1) (C := zr_X) (T := zF_X) (N := 7) hx hb htB zi_X hown hK hP 0 rfl rfl 0 (by decide) (htB _ zk_26e1908c) (fun _ h9 => h9) rfl zd_X_amend_58 ?_
          refine lv_iload_n hx hb zd_X_amend_61 rfl (lv_at hl 2 rfl) ?_
          refine zz_ki (va_runS (As := [.int st.1, .int p1]) (rest := []) ⟨hx, hb, hml, hown, htB⟩ (zc_X_needBy l dC dI cI cZ cL  s.heap.size  st.1 p1 ) (va_cwS 2 htB (zz_gS zk_36bd0bf1 zk_e14187d6 zk_cfe38e2e zk_dd814726) rfl rfl rfl zh_X_needBy ⟨Nat.le_of_ble_eq_true rfl, Nat.le_of_ble_eq_true rfl⟩) (zz_preS hP hD hK hE [] (by decide) rfl) rfl rfl hl.1 rfl (lv_room (Nat.le_of_ble_eq_true rfl)) zd_X_amend_62 ⟨Nat.le_of_ble_eq_true rfl, Nat.le_of_ble_eq_true rfl⟩) ?_
          refine lv_iconst (v := 3) hx hb zd_X_amend_65 (by decide) ?_
          refine lv_icmp_ne (tgt := 71) hx hb zd_X_amend_66 (by decide) (fun c_66 => ?_) (fun c_66 => ?_)
          · refine lv_aload_n hx hb zd_X_amend_71 rfl (lv_at hl 1 rfl) ?_
            refine va_get (D := (dC, dI)) (ci := 0) (v := .ref a1) (C := zr_X) (T := zF_X) (N := 7) hx hb htB zi_X hown hK hP 0 rfl rfl 1 (by decide) (htB _ zk_ac6f5f75) (fun _ h9 => h9) rfl zd_X_amend_72 ?_
            refine lv_iload hx hb zd_X_amend_75 (lv_at hl 0 rfl) ?_
            refine zz_ki (va_runV (As := [.int (zf_S_slotOf st.2.1 p1 p2)]) (rest := []) ⟨hx, hb, hml, hown, htB⟩ (zc_S_valueAt l dC dI cI cZ cL a1 a2 a3 s.heap.size st.2.1 (zf_S_slotOf st.2.1 p1 p2) ) (cwV 1 htB (zz_gV zk_79454776 zk_1fa0ab90 zk_4c70df44 zk_f1a23aa7 zk_fdbb5e96) rfl rfl rfl ⟨rfl, zh_S_valueAt⟩ ⟨Nat.le_of_ble_eq_true rfl, Nat.le_of_ble_eq_true rfl⟩) (zz_preV (ci := 1) (q := (zr_S, zF_S, 5)) hP hD hK hE [1, 2, 3] (by decide) rfl rfl rfl) rfl rfl hl.1 rfl (lv_room (Nat.le_of_ble_eq_true rfl)) zd_X_amend_77 ⟨Nat.le_of_ble_eq_true rfl, Nat.le_of_ble_eq_true rfl⟩) ?_
            refine lv_istore (lv' := [(6, .int (zf_S_valueAt st.2.1 (zf_S_slotOf st.2.1 p1 p2))), (5, .int (zf_S_slotOf st.2.1 p1 p2)), (0, .ref a0), (1, .int p1), (2, .int p2), (3, .long p3)]) hx hb zd_X_amend_80 hl (by decide) rfl (fun ls hl => ?_)
            refine lv_aload_n hx hb zd_X_amend_82 rfl (lv_at hl 2 rfl) ?_
            refine va_get (D := (dC, dI)) (ci := 0) (v := .ref a1) (C := zr_X) (T := zF_X) (N := 7) hx hb htB zi_X hown hK hP 0 rfl rfl 1 (by decide) (htB _ zk_ac6f5f75) (fun _ h9 => h9) rfl zd_X_amend_83 ?_
            refine lv_iload hx hb zd_X_amend_86 (lv_at hl 1 rfl) ?_
            refine lv_lload_n hx hb zd_X_amend_88 rfl (lv_at hl 5 rfl) ?_
            refine lv_l2i hx hb zd_X_amend_89 rfl ?_
            refine zz_cv (va_runV (As := [.int (zf_S_slotOf st.2.1 p1 p2), .int p3.toInt32]) (rest := []) ⟨hx, hb, hml, hown, htB⟩ (zc_S_put l dC dI cI cZ cL a1 a2 a3 s.heap.size st.2.1 (zf_S_slotOf st.2.1 p1 p2) p3.toInt32 ) (cwV 2 htB (zz_gV zk_f54cd352 zk_7151ae50 zk_2e2e7b1b zk_f1a23aa7 zk_29ef983f) rfl rfl rfl ⟨rfl, zh_S_put⟩ ⟨Nat.le_of_ble_eq_true rfl, Nat.le_of_ble_eq_true rfl⟩) (zz_preV (ci := 1) (q := (zr_S, zF_S, 5)) hP hD hK hE [1, 2, 3] (by decide) rfl rfl rfl) rfl rfl hl.1 rfl (lv_room (Nat.le_of_ble_eq_true rfl)) zd_X_amend_90 ⟨Nat.le_of_ble_eq_true rfl, Nat.le_of_ble_eq_true rfl⟩) hP hD hS hA [1, 2, 3] [0, 4, 5, 6, 7, 8, 9, 10, 11] [0, 9, 10, 11, 1, 2, 3, 4, 5, 6, 7, 8] rfl rfl (by decide) (by decide) (by decide) rfl (fun H locs hP hD hS => ?_)
            have hP : va_P (dC, dI) zz_cl (zw_X cI cZ cL a0 a1 a2 a3 a4 a5 a6 a7 a8 a9 a10 a11 (st.1, (zf_S_put st.2.1 (zf_S_slotOf st.2.1 p1 p2) p3.toInt32), st.2.2.1, st.2.2.2.1, st.2.2.2.2.1, st.2.2.2.2.2.1, st.2.2.2.2.2.2)) H := hP
            have hD : va_D A (zw_X cI cZ cL a0 a1 a2 a3 a4 a5 a6 a7 a8 a9 a10 a11 (st.1, (zf_S_put st.2.1 (zf_S_slotOf st.2.1 p1 p2) p3.toInt32), st.2.2.1, st.2.2.2.1, st.2.2.2.2.1, st.2.2.2.2.2.1, st.2.2.2.2.2.2)) := hD
            refine lv_aload_n hx hb zd_X_amend_93 rfl (lv_at hl 2 rfl) ?_
            refine zz_ki (va_runV (As := []) (rest := []) ⟨hx, hb, hml, hown, htB⟩ (zc_X_check l dC dI cI cZ cL a0 a1 a2 a3 a4 a5 a6 a7 a8 a9 a10 a11 H.size (st.1, (zf_S_put st.2.1 (zf_S_slotOf st.2.1 p1 p2) p3.toInt32), st.2.2.1, st.2.2.2.1, st.2.2.2.2.1, st.2.2.2.2.2.1, st.2.2.2.2.2.2)  hc) (cwV 0 htB (zz_gV zk_2055cd9b zk_f6b6f3c5 zk_7115eaaf zk_cfe38e2e zk_dd3f9fec) rfl rfl rfl ⟨rfl, zh_X_check⟩ ⟨Nat.le_of_ble_eq_true rfl, Nat.le_of_ble_eq_true rfl⟩) (zz_preV (ci := 0) (q := (zr_X, zF_X, 7)) hP hD hK hE [0, 1, 2, 3, 4, 5, 6, 7, 8, 9, 10, 11] (by decide) rfl rfl rfl) rfl rfl hl.1 rfl (lv_room (Nat.le_of_ble_eq_true rfl)) zd_X_amend_94 ⟨Nat.le_of_ble_eq_true rfl, Nat.le_of_ble_eq_true rfl⟩) ?_
            refine lv_if_eq (tgt := 113) hx hb zd_X_amend_97 (by decide) (fun c_97 => ?_) (fun c_97 => ?_)
            · refine lv_iconst (v := 1) hx hb zd_X_amend_113 (by decide) ?_
              rw [(show zf_X_amend st p1 p2 p3 = (0, 1, (st.1, (zf_S_put st.2.1 (zf_S_slotOf st.2.1 p1 p2) p3.toInt32), st.2.2.1, st.2.2.2.1, st.2.2.2.2.1, st.2.2.2.2.2.1, st.2.2.2.2.2.2)) from by rw [zf_X_amend, if_neg c_14, if_neg c_21, if_neg c_38, if_neg c_54, if_neg c_66, if_pos c_97])]
              refine W.widen (k := 1) (n := 6) (by decide) (by decide) ?_
              exact zt_iret hx hb hr hlocks hK hP hD hS zd_X_amend_114 rfl rfl
            · refine lv_aload_n hx hb zd_X_amend_100 rfl (lv_at hl 2 rfl) ?_
              refine va_get (D := (dC, dI)) (ci := 0) (v := .ref a1) (C := zr_X) (T := zF_X) (N := 7) hx hb htB zi_X hown hK hP 0 rfl rfl 1 (by decide) (htB _ zk_ac6f5f75) (fun _ h9 => h9) rfl zd_X_amend_101 ?_
              refine lv_iload hx hb zd_X_amend_104 (lv_at hl 1 rfl) ?_
              refine lv_iload hx hb zd_X_amend_106 (lv_at hl 0 rfl) ?_
              refine zz_cv (va_runV (As := [.int (zf_S_slotOf st.2.1 p1 p2), .int (zf_S_valueAt st.2.1 (zf_S_slotOf st.2.1 p1 p2))]) (rest := []) ⟨hx, hb, hml, hown, htB⟩ (zc_S_put l dC dI cI cZ cL a1 a2 a3 H.size (zf_S_put st.2.1 (zf_S_slotOf st.2.1 p1 p2) p3.toInt32) (zf_S_slotOf st.2.1 p1 p2) (zf_S_valueAt st.2.1 (zf_S_slotOf st.2.1 p1 p2)) ) (cwV 2 htB (zz_gV zk_f54cd352 zk_7151ae50 zk_2e2e7b1b zk_f1a23aa7 zk_29ef983f) rfl rfl rfl ⟨rfl, zh_S_put⟩ ⟨Nat.le_of_ble_eq_true rfl, Nat.le_of_ble_eq_true rfl⟩) (zz_preV (ci := 1) (q := (zr_S, zF_S, 5)) hP hD hK hE [1, 2, 3] (by decide) rfl rfl rfl) rfl rfl hl.1 rfl (lv_room (Nat.le_of_ble_eq_true rfl)) zd_X_amend_108 ⟨Nat.le_of_ble_eq_true rfl, Nat.le_of_ble_eq_true rfl⟩) hP hD hS hA [1, 2, 3] [0, 4, 5, 6, 7, 8, 9, 10, 11] [0, 9, 10, 11, 1, 2, 3, 4, 5, 6, 7, 8] rfl rfl (by decide) (by decide) (by decide) rfl (fun H locs hP hD hS => ?_)
              have hP : va_P (dC, dI) zz_cl (zw_X cI cZ cL a0 a1 a2 a3 a4 a5 a6 a7 a8 a9 a10 a11 (st.1, (zf_S_put (zf_S_put st.2.1 (zf_S_slotOf st.2.1 p1 p2) p3.toInt32) (zf_S_slotOf st.2.1 p1 p2) (zf_S_valueAt st.2.1 (zf_S_slotOf st.2.1 p1 p2))), st.2.2.1, st.2.2.2.1, st.2.2.2.2.1, st.2.2.2.2.2.1, st.2.2.2.2.2.2)) H := hP
              have hD : va_D A (zw_X cI cZ cL a0 a1 a2 a3 a4 a5 a6 a7 a8 a9 a10 a11 (st.1, (zf_S_put (zf_S_put st.2.1 (zf_S_slotOf st.2.1 p1 p2) p3.toInt32) (zf_S_slotOf st.2.1 p1 p2) (zf_S_valueAt st.2.1 (zf_S_slotOf st.2.1 p1 p2))), st.2.2.1, st.2.2.2.1, st.2.2.2.2.1, st.2.2.2.2.2.1, st.2.2.2.2.2.2)) := hD
              refine lv_iconst (v := 0) hx hb zd_X_amend_111 (by decide) ?_
              rw [(show zf_X_amend st p1 p2 p3 = (0, 0, (st.1, (zf_S_put (zf_S_put st.2.1 (zf_S_slotOf st.2.1 p1 p2) p3.toInt32) (zf_S_slotOf st.2.1 p1 p2) (zf_S_valueAt st.2.1 (zf_S_slotOf st.2.1 p1 p2))), st.2.2.1, st.2.2.2.1, st.2.2.2.2.1, st.2.2.2.2.2.1, st.2.2.2.2.2.2)) from by rw [zf_X_amend, if_neg c_14, if_neg c_21, if_neg c_38, if_neg c_54, if_neg c_66, if_neg c_97])]
              refine W.widen (k := 1) (n := 6) (by decide) (by decide) ?_
              exact zt_iret hx hb hr hlocks hK hP hD hS zd_X_amend_112 rfl rfl
          · refine lv_iconst (v := 0) hx hb zd_X_amend_69 (by decide) ?_
            rw [(show zf_X_amend st p1 p2 p3 = (0, 0, st) from by rw [zf_X_amend, if_neg c_14, if_neg c_21, if_neg c_38, if_neg c_54, if_pos c_66])]
            refine W.widen (k := 1) (n := 6) (by decide) (by decide) ?_
            exact zt_iret hx hb hr hlocks hK hP hD hS zd_X_amend_70 rfl rfl
      · rw [(show zf_X_amend st p1 p2 p3 = (2, 0, st) from by rw [zf_X_amend, if_neg c_14, if_neg c_21, if_pos c_38])]
        exact zt_throw (names := ["java/lang/RuntimeException", "java/lang/Exception"]) hf0 hadm hx hb (hml.trans hl.1.symm) hlocks hexc hown (htB _ zk_f0307824) (htB _ zk_0493ccc5) (htB _ zk_03932cc4) (hE.2.1 ("DeclareForms", 138, "not lodged") (List.mem_of_getElem? (i := 4) rfl)) (by decide +kernel) (by decide +kernel) (za_0 htB hE hZ) hK hP hD hA (Nat.le_of_ble_eq_true rfl) (Nat.le_of_ble_eq_true rfl) (Nat.le_of_ble_eq_true rfl) (Nat.le_of_ble_eq_true rfl) zd_X_amend_41 zd_X_amend_44 zd_X_amend_45 zd_X_amend_47 zd_X_amend_50 (fun oc t x ce h1 h2 h3 h4 h5 h6 h7 => ⟨Or.inr ⟨(show (2 : Nat) ≠ 0 by decide), x, ce, h1, h2, h3, h4, h5⟩, h6, h7⟩)
    · rw [(show zf_X_amend st p1 p2 p3 = (1, 0, st) from by rw [zf_X_amend, if_neg c_14, if_pos c_21])]
      exact zt_throw (names := ["java/lang/RuntimeException", "java/lang/Exception"]) hf0 hadm hx hb (hml.trans hl.1.symm) hlocks hexc hown (htB _ zk_c1982f07) (htB _ zk_04fc2812) (htB _ zk_9ce9d120) (hE.2.1 ("DeclareForms", 93, "no such field, line or value") (List.mem_of_getElem? (i := 1) rfl)) (by decide +kernel) (by decide +kernel) (za_1 htB hE hZ) hK hP hD hA (Nat.le_of_ble_eq_true rfl) (Nat.le_of_ble_eq_true rfl) (Nat.le_of_ble_eq_true rfl) (Nat.le_of_ble_eq_true rfl) zd_X_amend_24 zd_X_amend_27 zd_X_amend_28 zd_X_amend_30 zd_X_amend_33 (fun oc t x ce h1 h2 h3 h4 h5 h6 h7 => ⟨Or.inr ⟨(show (1 : Nat) ≠ 0 by decide), x, ce, h1, h2, h3, h4, h5⟩, h6, h7⟩)
set_option maxHeartbeats 4000000 in
set_option maxRecDepth 100000 in
theorem zc_X_draw (l : Launch) (dC : Nat → ClassId) (dI : Nat → Nat → Nat) (cI cZ cL : ClassId) (a0 a1 a2 a3 a4 a5 a6 a7 a8 a9 a10 a11 : Nat) (sz : Nat) (st : zu_X) (p1 : Int32) (p2 : Int32) (p3 : Int32) (hp : st.2.2.2.1.2.2.2 ≤ 20) (hf0 : l.flags = pinnedFlags ++ [noTraceFlag]) : zt_Met l zy_X_draw (zz_ws zy_X_draw zb_X_draw 5 (some .int)) ({ frames := 6, cells := 1, slots := 6, locals := 83 } : Room) (va_Pc ([.ref a0, .int p1, .int p2, .int p3] : List Value) (zt_P (dC, dI) (zz_ty cI cZ cL) sz (zw_X cI cZ cL a0 a1 a2 a3 a4 a5 a6 a7 a8 a9 a10 a11 st))) (zt_Qi (dC, dI) (zz_ty cI cZ cL) (va_A (zw_X cI cZ cL a0 a1 a2 a3 a4 a5 a6 a7 a8 a9 a10 a11 st) sz) (fun _ => "java/lang/IllegalArgumentException") (zf_X_draw st p1 p2 p3).1 ((zf_X_draw st p1 p2 p3).2.1) (zw_X cI cZ cL a0 a1 a2 a3 a4 a5 a6 a7 a8 a9 a10 a11 ((zf_X_draw st p1 p2 p3).2.2))) 1 6 (va_A (zw_X cI cZ cL a0 a1 a2 a3 a4 a5 a6 a7 a8 a9 a10 a11 st) sz) := by
  refine zt_ofW (Q := fun A => (zt_Qi (dC, dI) (zz_ty cI cZ cL) A (fun _ => "java/lang/IllegalArgumentException") (zf_X_draw st p1 p2 p3).1 ((zf_X_draw st p1 p2 p3).2.1) (zw_X cI cZ cL a0 a1 a2 a3 a4 a5 a6 a7 a8 a9 a10 a11 ((zf_X_draw st p1 p2 p3).2.2)))) (by decide) (Nat.le_of_ble_eq_true rfl) ?_
  intro p e s m below meth c A C0 hexc hadm hA hK hP hD hZ ls hl
  obtain ⟨hx, hb, hr, hml, hown, htB, hlocks, hE⟩ := id C0
  have hS : va_S A s.heap s.heap [] := va_S.rf
  have hl : lv_has ls 5 [(0, .ref a0), (1, .int p1), (2, .int p2), (3, .int p3)] := hl
  refine lv_aload_n hx hb zd_X_draw_0 rfl (lv_at hl 0 rfl) ?_
  refine va_get (D := (dC, dI)) (ci := 0) (v := .ref a7) (C := zr_X) (T := zF_X) (N := 7) hx hb htB zi_X hown hK hP 0 rfl rfl 3 (by decide) (htB _ zk_4f9de2f5) (fun _ h9 => h9) rfl zd_X_draw_1 ?_
  refine lv_iload_n hx hb zd_X_draw_4 rfl (lv_at hl 2 rfl) ?_
  refine zz_ki (va_runV (As := [.int p2]) (rest := []) ⟨hx, hb, hml, hown, htB⟩ (zc_P_find l dC dI cI cZ cL a7 a8 a9 a10 s.heap.size st.2.2.2.1 p2 hp) (cwV 1 htB (zz_gV zk_b6b2fcd7 zk_260dcf75 zk_9eb9dfdc zk_f301a5bc zk_94b92128) rfl rfl rfl ⟨rfl, zh_P_find⟩ ⟨Nat.le_of_ble_eq_true rfl, Nat.le_of_ble_eq_true rfl⟩) (zz_preV (ci := 3) (q := (zr_P, zF_P, 4)) hP hD hK hE [7, 8, 9, 10] (by decide) rfl rfl rfl) rfl rfl hl.1 rfl (lv_room (Nat.le_of_ble_eq_true rfl)) zd_X_draw_5 ⟨Nat.le_of_ble_eq_true rfl, Nat.le_of_ble_eq_true rfl⟩) ?_
  refine lv_istore (lv' := [(4, .int (zf_P_find st.2.2.2.1 p2)), (0, .ref a0), (1, .int p1), (2, .int p2), (3, .int p3)]) hx hb zd_X_draw_8 hl (by decide) rfl (fun ls hl => ?_)
  refine lv_aload_n hx hb zd_X_draw_10 rfl (lv_at hl 1 rfl) ?_
  refine va_get (D := (dC, dI)) (ci := 0) (v := .ref a1) (C := zr_X) (T := zF_X) (N := 7) hx hb htB zi_X hown hK hP 0 rfl rfl 1 (by decide) (htB _ zk_ac6f5f75) (fun _ h9 => h9) rfl zd_X_draw_11 ?_
  refine lv_iload_n hx hb zd_X_draw_14 rfl (lv_at hl 2 rfl) ?_
  refine zz_ki (va_runV (As := [.int p1]) (rest := []) ⟨hx, hb, hml, hown, htB⟩ (zc_S_hasLine l dC dI cI cZ cL a1 a2 a3 s.heap.size st.2.1 p1 ) (cwV 1 htB (zz_gV zk_e942dd41 zk_3871fc92 zk_c72ec03e zk_f1a23aa7 zk_33cddec9) rfl rfl rfl ⟨rfl, zh_S_hasLine⟩ ⟨Nat.le_of_ble_eq_true rfl, Nat.le_of_ble_eq_true rfl⟩) (zz_preV (ci := 1) (q := (zr_S, zF_S, 5)) hP hD hK hE [1, 2, 3] (by decide) rfl rfl rfl) rfl rfl hl.1 rfl (lv_room (Nat.le_of_ble_eq_true rfl)) zd_X_draw_15 ⟨Nat.le_of_ble_eq_true rfl, Nat.le_of_ble_eq_true rfl⟩) ?_
  refine lv_if_eq (tgt := 38) hx hb zd_X_draw_18 (by decide) (fun c_18 => ?_) (fun c_18 => ?_)
  · rw [(show zf_X_draw st p1 p2 p3 = (1, 0, st) from by rw [zf_X_draw, if_pos c_18])]
    exact zt_throw (names := ["java/lang/RuntimeException", "java/lang/Exception"]) hf0 hadm hx hb (hml.trans hl.1.symm) hlocks hexc hown (htB _ zk_c1982f07) (htB _ zk_04fc2812) (htB _ zk_9ce9d120) (hE.2.1 ("DeclareForms", 146, "no such line, paper or amount") (List.mem_of_getElem? (i := 5) rfl)) (by decide +kernel) (by decide +kernel) (za_1 htB hE hZ) hK hP hD hA (Nat.le_of_ble_eq_true rfl) (Nat.le_of_ble_eq_true rfl) (Nat.le_of_ble_eq_true rfl) (Nat.le_of_ble_eq_true rfl) zd_X_draw_38 zd_X_draw_41 zd_X_draw_42 zd_X_draw_44 zd_X_draw_47 (fun oc t x ce h1 h2 h3 h4 h5 h6 h7 => ⟨Or.inr ⟨(show (1 : Nat) ≠ 0 by decide), x, ce, h1, h2, h3, h4, h5⟩, h6, h7⟩)
  · refine lv_iload hx hb zd_X_draw_21 (lv_at hl 0 rfl) ?_
    refine lv_iconst (v := (-1)) hx hb zd_X_draw_23 (by decide) ?_
    refine lv_icmp_eq (tgt := 38) hx hb zd_X_draw_24 (by decide) (fun c_24 => ?_) (fun c_24 => ?_)
    · rw [(show zf_X_draw st p1 p2 p3 = (1, 0, st) from by rw [zf_X_draw, if_neg c_18, if_pos c_24])]
      exact zt_throw (names := ["java/lang/RuntimeException", "java/lang/Exception"]) hf0 hadm hx hb (hml.trans hl.1.symm) hlocks hexc hown (htB _ zk_c1982f07) (htB _ zk_04fc2812) (htB _ zk_9ce9d120) (hE.2.1 ("DeclareForms", 146, "no such line, paper or amount") (List.mem_of_getElem? (i := 5) rfl)) (by decide +kernel) (by decide +kernel) (za_1 htB hE hZ) hK hP hD hA (Nat.le_of_ble_eq_true rfl) (Nat.le_of_ble_eq_true rfl) (Nat.le_of_ble_eq_true rfl) (Nat.le_of_ble_eq_true rfl) zd_X_draw_38 zd_X_draw_41 zd_X_draw_42 zd_X_draw_44 zd_X_draw_47 (fun oc t x ce h1 h2 h3 h4 h5 h6 h7 => ⟨Or.inr ⟨(show (1 : Nat) ≠ 0 by decide), x, ce, h1, h2, h3, h4, h5⟩, h6, h7⟩)
    · refine lv_iload_n hx hb zd_X_draw_27 rfl (lv_at hl 4 rfl) ?_
      refine lv_iconst (v := 1) hx hb zd_X_draw_28 (by decide) ?_
      refine lv_icmp_lt (tgt := 38) hx hb zd_X_draw_29 (by decide) (fun c_29 => ?_) (fun c_29 => ?_)
      · rw [(show zf_X_draw st p1 p2 p3 = (1, 0, st) from by rw [zf_X_draw, if_neg c_18, if_neg c_24, if_pos c_29])]
        exact zt_throw (names := ["java/lang/RuntimeException", "java/lang/Exception"]) hf0 hadm hx hb (hml.trans hl.1.symm) hlocks hexc hown (htB _ zk_c1982f07) (htB _ zk_04fc2812) (htB _ zk_9ce9d120) (hE.2.1 ("DeclareForms", 146, "no such line, paper or amount") (List.mem_of_getElem? (i := 5) rfl)) (by decide +kernel) (by decide +kernel) (za_1 htB hE hZ) hK hP hD hA (Nat.le_of_ble_eq_true rfl) (Nat.le_of_ble_eq_true rfl) (Nat.le_of_ble_eq_true rfl) (Nat.le_of_ble_eq_true rfl) zd_X_draw_38 zd_X_draw_41 zd_X_draw_42 zd_X_draw_44 zd_X_draw_47 (fun oc t x ce h1 h2 h3 h4 h5 h6 h7 => ⟨Or.inr ⟨(show (1 : Nat) ≠ 0 by decide), x, ce, h1, h2, h3, h4, h5⟩, h6, h7⟩)
      · refine lv_iload_n hx hb zd_X_draw_32 rfl (lv_at hl 4 rfl) ?_
        refine lv_ldc (v := 1000000) hx hb hown (htB _ zk_2f026ba4) zd_X_draw_33 ?_
        refine lv_icmp_le (tgt := 48) hx hb zd_X_draw_35 (by decide) (fun c_35 => ?_) (fun c_35 => ?_)
        · refine lv_aload_n hx hb zd_X_draw_48 rfl (lv_at hl 1 rfl) ?_
          refine va_get (D := (dC, dI)) (ci := 0) (v := .int st.2.2.2.2.2.2) (C := zr_X) (T := zF_X) (N := 7) hx hb htB zi_X hown hK hP 0 rfl rfl 6 (by decide) (htB _ zk_a72d337f) (fun _ h9 => h9) rfl zd_X_draw_49 ?_
          refine lv_if_eq (tgt := 59) hx hb zd_X_draw_52 (by decide) (fun c_52 => ?_) (fun c_52 => ?_)
          · refine lv_aload_n hx hb zd_X_draw_59 rfl (lv_at hl 1 rfl) ?_
            refine va_get (D := (dC, dI)) (ci := 0) (v := .ref a7) (C := zr_X) (T := zF_X) (N := 7) hx hb htB zi_X hown hK hP 0 rfl rfl 3 (by decide) (htB _ zk_4f9de2f5) (fun _ h9 => h9) rfl zd_X_draw_60 ?_
            refine lv_iload_n hx hb zd_X_draw_63 rfl (lv_at hl 2 rfl) ?_
            refine lv_iload hx hb zd_X_draw_64 (lv_at hl 0 rfl) ?_
            refine lv_iload_n hx hb zd_X_draw_66 rfl (lv_at hl 4 rfl) ?_
            refine zz_ci (va_runV (As := [.int p1, .int (zf_P_find st.2.2.2.1 p2), .int p3]) (rest := []) ⟨hx, hb, hml, hown, htB⟩ (zc_P_take l dC dI cI cZ cL a7 a8 a9 a10 s.heap.size st.2.2.2.1 p1 (zf_P_find st.2.2.2.1 p2) p3 hp) (cwV 3 htB (zz_gV zk_4e8e7760 zk_5d820aaa zk_86b951e4 zk_f301a5bc zk_2194c2f1) rfl rfl rfl ⟨rfl, zh_P_take⟩ ⟨Nat.le_of_ble_eq_true rfl, Nat.le_of_ble_eq_true rfl⟩) (zz_preV (ci := 3) (q := (zr_P, zF_P, 4)) hP hD hK hE [7, 8, 9, 10] (by decide) rfl rfl rfl) rfl rfl hl.1 rfl (lv_room (Nat.le_of_ble_eq_true rfl)) zd_X_draw_67 ⟨Nat.le_of_ble_eq_true rfl, Nat.le_of_ble_eq_true rfl⟩) hP hD hS hA [7, 8, 9, 10] [0, 1, 2, 3, 4, 5, 6, 11] [0, 1, 2, 3, 4, 5, 6, 8, 9, 10, 11, 7] rfl rfl (by decide) (by decide) (by decide) rfl (fun H locs hP hD hS => ?_)
            have hP : va_P (dC, dI) zz_cl (zw_X cI cZ cL a0 a1 a2 a3 a4 a5 a6 a7 a8 a9 a10 a11 (st.1, st.2.1, st.2.2.1, (zf_P_take st.2.2.2.1 p1 (zf_P_find st.2.2.2.1 p2) p3).2, st.2.2.2.2.1, st.2.2.2.2.2.1, st.2.2.2.2.2.2)) H := hP
            have hD : va_D A (zw_X cI cZ cL a0 a1 a2 a3 a4 a5 a6 a7 a8 a9 a10 a11 (st.1, st.2.1, st.2.2.1, (zf_P_take st.2.2.2.1 p1 (zf_P_find st.2.2.2.1 p2) p3).2, st.2.2.2.2.1, st.2.2.2.2.2.1, st.2.2.2.2.2.2)) := hD
            rw [(show zf_X_draw st p1 p2 p3 = (0, (zf_P_take st.2.2.2.1 p1 (zf_P_find st.2.2.2.1 p2) p3).1, (st.1, st.2.1, st.2.2.1, (zf_P_take st.2.2.2.1 p1 (zf_P_find st.2.2.2.1 p2) p3).2, st.2.2.2.2.1, st.2.2.2.2.2.1, st.2.2.2.2.2.2)) from by rw [zf_X_draw, if_neg c_18, if_neg c_24, if_neg c_29, if_pos c_35, if_pos c_52])]
            refine W.widen (k := 1) (n := 6) (by decide) (by decide) ?_
            exact zt_iret hx hb hr hlocks hK hP hD hS zd_X_draw_70 rfl rfl
          · refine lv_iconst (v := (-1)) hx hb zd_X_draw_55 (by decide) ?_
            refine lv_goto (tgt := 70) hx hb zd_X_draw_56 (by decide) ?_
            rw [(show zf_X_draw st p1 p2 p3 = (0, (-1), st) from by rw [zf_X_draw, if_neg c_18, if_neg c_24, if_neg c_29, if_pos c_35, if_neg c_52])]
            refine W.widen (k := 1) (n := 6) (by decide) (by decide) ?_
            exact zt_iret hx hb hr hlocks hK hP hD hS zd_X_draw_70 rfl rfl
        · rw [(show zf_X_draw st p1 p2 p3 = (1, 0, st) from by rw [zf_X_draw, if_neg c_18, if_neg c_24, if_neg c_29, if_neg c_35])]
          exact zt_throw (names := ["java/lang/RuntimeException", "java/lang/Exception"]) hf0 hadm hx hb (hml.trans hl.1.symm) hlocks hexc hown (htB _ zk_c1982f07) (htB _ zk_04fc2812) (htB _ zk_9ce9d120) (hE.2.1 ("DeclareForms", 146, "no such line, paper or amount") (List.mem_of_getElem? (i := 5) rfl)) (by decide +kernel) (by decide +kernel) (za_1 htB hE hZ) hK hP hD hA (Nat.le_of_ble_eq_true rfl) (Nat.le_of_ble_eq_true rfl) (Nat.le_of_ble_eq_true rfl) (Nat.le_of_ble_eq_true rfl) zd_X_draw_38 zd_X_draw_41 zd_X_draw_42 zd_X_draw_44 zd_X_draw_47 (fun oc t x ce h1 h2 h3 h4 h5 h6 h7 => ⟨Or.inr ⟨(show (1 : Nat) ≠ 0 by decide), x, ce, h1, h2, h3, h4, h5⟩, h6, h7⟩)
set_option maxHeartbeats 4000000 in
set_option maxRecDepth 100000 in
theorem zc_X_sum (l : Launch) (dC : Nat → ClassId) (dI : Nat → Nat → Nat) (cI cZ cL : ClassId) (a0 a1 a2 a3 a4 a5 a6 a7 a8 a9 a10 a11 : Nat) (sz : Nat) (st : zu_X) (p1 : Int32)  (hf0 : l.flags = pinnedFlags ++ [noTraceFlag]) : zt_Met l zy_X_sum (zz_ws zy_X_sum zb_X_sum 2 (some .long)) ({ frames := 6, cells := 1, slots := 6, locals := 83 } : Room) (va_Pc ([.ref a0, .int p1] : List Value) (zt_P (dC, dI) (zz_ty cI cZ cL) sz (zw_X cI cZ cL a0 a1 a2 a3 a4 a5 a6 a7 a8 a9 a10 a11 st))) (zt_Ql (dC, dI) (zz_ty cI cZ cL) (va_A (zw_X cI cZ cL a0 a1 a2 a3 a4 a5 a6 a7 a8 a9 a10 a11 st) sz) (fun _ => "java/lang/IllegalArgumentException") (zf_X_sum st p1).1 ((zf_X_sum st p1).2) (zw_X cI cZ cL a0 a1 a2 a3 a4 a5 a6 a7 a8 a9 a10 a11 st)) 1 6 (va_A (zw_X cI cZ cL a0 a1 a2 a3 a4 a5 a6 a7 a8 a9 a10 a11 st) sz) := by
  refine zt_ofW (Q := fun A => (zt_Ql (dC, dI) (zz_ty cI cZ cL) A (fun _ => "java/lang/IllegalArgumentException") (zf_X_sum st p1).1 ((zf_X_sum st p1).2) (zw_X cI cZ cL a0 a1 a2 a3 a4 a5 a6 a7 a8 a9 a10 a11 st))) (by decide) (Nat.le_of_ble_eq_true rfl) ?_
  intro p e s m below meth c A C0 hexc hadm hA hK hP hD hZ ls hl
  obtain ⟨hx, hb, hr, hml, hown, htB, hlocks, hE⟩ := id C0
  have hS : va_S A s.heap s.heap [] := va_S.rf
  have hl : lv_has ls 2 [(0, .ref a0), (1, .int p1)] := hl
  refine lv_iload_n hx hb zd_X_sum_0 rfl (lv_at hl 1 rfl) ?_
  refine lv_bipush (v := 10) hx hb zd_X_sum_1 (by decide) ?_
  refine lv_icmp_lt (tgt := 12) hx hb zd_X_sum_3 (by decide) (fun c_3 => ?_) (fun c_3 => ?_)
  · rw [(show zf_X_sum st p1 = (1, 0) from by rw [zf_X_sum, if_pos c_3])]
    exact zt_throw (names := ["java/lang/RuntimeException", "java/lang/Exception"]) hf0 hadm hx hb (hml.trans hl.1.symm) hlocks hexc hown (htB _ zk_c1982f07) (htB _ zk_04fc2812) (htB _ zk_9ce9d120) (hE.2.1 ("DeclareForms", 152, "no field of lines") (List.mem_of_getElem? (i := 6) rfl)) (by decide +kernel) (by decide +kernel) (za_1 htB hE hZ) hK hP hD hA (Nat.le_of_ble_eq_true rfl) (Nat.le_of_ble_eq_true rfl) (Nat.le_of_ble_eq_true rfl) (Nat.le_of_ble_eq_true rfl) zd_X_sum_12 zd_X_sum_15 zd_X_sum_16 zd_X_sum_18 zd_X_sum_21 (fun oc t x ce h1 h2 h3 h4 h5 h6 h7 => ⟨Or.inr ⟨(show (1 : Nat) ≠ 0 by decide), x, ce, h1, h2, h3, h4, h5⟩, h6, h7⟩)
  · refine lv_iload_n hx hb zd_X_sum_6 rfl (lv_at hl 1 rfl) ?_
    refine lv_bipush (v := 19) hx hb zd_X_sum_7 (by decide) ?_
    refine lv_icmp_le (tgt := 22) hx hb zd_X_sum_9 (by decide) (fun c_9 => ?_) (fun c_9 => ?_)
    · refine lv_aload_n hx hb zd_X_sum_22 rfl (lv_at hl 0 rfl) ?_
      refine va_get (D := (dC, dI)) (ci := 0) (v := .ref a1) (C := zr_X) (T := zF_X) (N := 7) hx hb htB zi_X hown hK hP 0 rfl rfl 1 (by decide) (htB _ zk_ac6f5f75) (fun _ h9 => h9) rfl zd_X_sum_23 ?_
      refine lv_iload_n hx hb zd_X_sum_26 rfl (lv_at hl 1 rfl) ?_
      refine zz_kl (va_runV (As := [.int p1]) (rest := []) ⟨hx, hb, hml, hown, htB⟩ (zc_S_total l dC dI cI cZ cL a1 a2 a3 s.heap.size st.2.1 p1 ) (cwV 1 htB (zz_gV zk_6662f93d zk_b3219529 zk_106e6e6c zk_f1a23aa7 zk_efd9ded9) rfl rfl rfl ⟨rfl, zh_S_total⟩ ⟨Nat.le_of_ble_eq_true rfl, Nat.le_of_ble_eq_true rfl⟩) (zz_preV (ci := 1) (q := (zr_S, zF_S, 5)) hP hD hK hE [1, 2, 3] (by decide) rfl rfl rfl) rfl rfl hl.1 rfl (lv_room (Nat.le_of_ble_eq_true rfl)) zd_X_sum_27 ⟨Nat.le_of_ble_eq_true rfl, Nat.le_of_ble_eq_true rfl⟩) ?_
      rw [(show zf_X_sum st p1 = (0, (zf_S_total st.2.1 p1)) from by rw [zf_X_sum, if_neg c_3, if_pos c_9])]
      refine W.widen (k := 1) (n := 6) (by decide) (by decide) ?_
      exact zt_lret hx hb hr hlocks hK hP hD hS zd_X_sum_30 rfl rfl
    · rw [(show zf_X_sum st p1 = (1, 0) from by rw [zf_X_sum, if_neg c_3, if_neg c_9])]
      exact zt_throw (names := ["java/lang/RuntimeException", "java/lang/Exception"]) hf0 hadm hx hb (hml.trans hl.1.symm) hlocks hexc hown (htB _ zk_c1982f07) (htB _ zk_04fc2812) (htB _ zk_9ce9d120) (hE.2.1 ("DeclareForms", 152, "no field of lines") (List.mem_of_getElem? (i := 6) rfl)) (by decide +kernel) (by decide +kernel) (za_1 htB hE hZ) hK hP hD hA (Nat.le_of_ble_eq_true rfl) (Nat.le_of_ble_eq_true rfl) (Nat.le_of_ble_eq_true rfl) (Nat.le_of_ble_eq_true rfl) zd_X_sum_12 zd_X_sum_15 zd_X_sum_16 zd_X_sum_18 zd_X_sum_21 (fun oc t x ce h1 h2 h3 h4 h5 h6 h7 => ⟨Or.inr ⟨(show (1 : Nat) ≠ 0 by decide), x, ce, h1, h2, h3, h4, h5⟩, h6, h7⟩)
set_option maxHeartbeats 4000000 in
set_option maxRecDepth 100000 in
theorem zc_X_octet (l : Launch) (dC : Nat → ClassId) (dI : Nat → Nat → Nat) (cI cZ cL : ClassId) (a0 a1 a2 a3 a4 a5 a6 a7 a8 a9 a10 a11 : Nat) (sz : Nat) (st : zu_X) (p1 : Int32)  (hf0 : l.flags = pinnedFlags ++ [noTraceFlag]) : zt_Met l zy_X_octet (zz_ws zy_X_octet zb_X_octet 3 (some .byte)) ({ frames := 6, cells := 1, slots := 6, locals := 83 } : Room) (va_Pc ([.ref a0, .int p1] : List Value) (zt_P (dC, dI) (zz_ty cI cZ cL) sz (zw_X cI cZ cL a0 a1 a2 a3 a4 a5 a6 a7 a8 a9 a10 a11 st))) (zt_Qi (dC, dI) (zz_ty cI cZ cL) (va_A (zw_X cI cZ cL a0 a1 a2 a3 a4 a5 a6 a7 a8 a9 a10 a11 st) sz) (fun _ => "java/lang/IndexOutOfBoundsException") (zf_X_octet st p1).1 ((zf_X_octet st p1).2) (zw_X cI cZ cL a0 a1 a2 a3 a4 a5 a6 a7 a8 a9 a10 a11 st)) 1 6 (va_A (zw_X cI cZ cL a0 a1 a2 a3 a4 a5 a6 a7 a8 a9 a10 a11 st) sz) := by
  refine zt_ofW (Q := fun A => (zt_Qi (dC, dI) (zz_ty cI cZ cL) A (fun _ => "java/lang/IndexOutOfBoundsException") (zf_X_octet st p1).1 ((zf_X_octet st p1).2) (zw_X cI cZ cL a0 a1 a2 a3 a4 a5 a6 a7 a8 a9 a10 a11 st))) (by decide) (Nat.le_of_ble_eq_true rfl) ?_
  intro p e s m below meth c A C0 hexc hadm hA hK hP hD hZ ls hl
  obtain ⟨hx, hb, hr, hml, hown, htB, hlocks, hE⟩ := id C0
  have hS : va_S A s.heap s.heap [] := va_S.rf
  have hl : lv_has ls 3 [(0, .ref a0), (1, .int p1)] := hl
  refine lv_iload_n hx hb zd_X_octet_0 rfl (lv_at hl 1 rfl) ?_
  refine lv_if_lt (tgt := 12) hx hb zd_X_octet_1 (by decide) (fun c_1 => ?_) (fun c_1 => ?_)
  · rw [(show zf_X_octet st p1 = (1, 0) from by rw [zf_X_octet, if_pos c_1])]
    exact zt_throw (names := ["java/lang/RuntimeException", "java/lang/Exception"]) hf0 hadm hx hb (hml.trans hl.1.symm) hlocks hexc hown (htB _ zk_5e3a1e0d) (htB _ zk_fcc34f65) (htB _ zk_8f54f0b8) (hE.2.1 ("DeclareForms", 166, "no such byte") (List.mem_of_getElem? (i := 7) rfl)) (by decide +kernel) (by decide +kernel) (za_2 htB hE hZ) hK hP hD hA (Nat.le_of_ble_eq_true rfl) (Nat.le_of_ble_eq_true rfl) (Nat.le_of_ble_eq_true rfl) (Nat.le_of_ble_eq_true rfl) zd_X_octet_12 zd_X_octet_15 zd_X_octet_16 zd_X_octet_18 zd_X_octet_21 (fun oc t x ce h1 h2 h3 h4 h5 h6 h7 => ⟨Or.inr ⟨(show (1 : Nat) ≠ 0 by decide), x, ce, h1, h2, h3, h4, h5⟩, h6, h7⟩)
  · refine lv_iload_n hx hb zd_X_octet_4 rfl (lv_at hl 1 rfl) ?_
    refine lv_aload_n hx hb zd_X_octet_5 rfl (lv_at hl 0 rfl) ?_
    refine zz_ki (va_runV (As := []) (rest := [.int p1]) ⟨hx, hb, hml, hown, htB⟩ (zc_X_pack l dC dI cI cZ cL a0 a1 a2 a3 a4 a5 a6 a7 a8 a9 a10 a11 s.heap.size st  ) (cwV 0 htB (zz_gV zk_d9996226 zk_15c98730 zk_fcfdfd39 zk_cfe38e2e zk_27dc7096) rfl rfl rfl ⟨rfl, zh_X_pack⟩ ⟨Nat.le_of_ble_eq_true rfl, Nat.le_of_ble_eq_true rfl⟩) (zz_preV (ci := 0) (q := (zr_X, zF_X, 7)) hP hD hK hE [0, 1, 2, 3, 4, 5, 6, 7, 8, 9, 10, 11] (by decide) rfl rfl rfl) rfl rfl hl.1 rfl (lv_room (Nat.le_of_ble_eq_true rfl)) zd_X_octet_6 ⟨Nat.le_of_ble_eq_true rfl, Nat.le_of_ble_eq_true rfl⟩) ?_
    refine lv_icmp_lt (tgt := 22) hx hb zd_X_octet_9 (by decide) (fun c_9 => ?_) (fun c_9 => ?_)
    · refine lv_iload_n hx hb zd_X_octet_22 rfl (lv_at hl 1 rfl) ?_
      refine lv_if_ne (tgt := 32) hx hb zd_X_octet_23 (by decide) (fun c_23 => ?_) (fun c_23 => ?_)
      · refine lv_iload_n hx hb zd_X_octet_32 rfl (lv_at hl 1 rfl) ?_
        refine lv_iconst (v := 3) hx hb zd_X_octet_33 (by decide) ?_
        refine lv_icmp_ge (tgt := 51) hx hb zd_X_octet_34 (by decide) (fun c_34 => ?_) (fun c_34 => ?_)
        · refine lv_aload_n hx hb zd_X_octet_51 rfl (lv_at hl 0 rfl) ?_
          refine va_get (D := (dC, dI)) (ci := 0) (v := .ref a1) (C := zr_X) (T := zF_X) (N := 7) hx hb htB zi_X hown hK hP 0 rfl rfl 1 (by decide) (htB _ zk_ac6f5f75) (fun _ h9 => h9) rfl zd_X_octet_52 ?_
          refine lv_iload_n hx hb zd_X_octet_55 rfl (lv_at hl 1 rfl) ?_
          refine lv_iconst (v := 3) hx hb zd_X_octet_56 (by decide) ?_
          refine lv_isub hx hb zd_X_octet_57 ?_
          refine lv_bipush (v := 6) hx hb zd_X_octet_58 (by decide) ?_
          refine lv_idiv hx hb zd_X_octet_60 (by decide) ?_
          refine zz_ki (va_runV (As := [.int ((p1 - 3) / 6)]) (rest := []) ⟨hx, hb, hml, hown, htB⟩ (zc_S_setSlot l dC dI cI cZ cL a1 a2 a3 s.heap.size st.2.1 ((p1 - 3) / 6) ) (cwV 1 htB (zz_gV zk_a0e93d66 zk_27d8dca4 zk_b2a7dedc zk_f1a23aa7 zk_df600e1d) rfl rfl rfl ⟨rfl, zh_S_setSlot⟩ ⟨Nat.le_of_ble_eq_true rfl, Nat.le_of_ble_eq_true rfl⟩) (zz_preV (ci := 1) (q := (zr_S, zF_S, 5)) hP hD hK hE [1, 2, 3] (by decide) rfl rfl rfl) rfl rfl hl.1 rfl (lv_room (Nat.le_of_ble_eq_true rfl)) zd_X_octet_61 ⟨Nat.le_of_ble_eq_true rfl, Nat.le_of_ble_eq_true rfl⟩) ?_
          refine lv_istore_n (lv' := [(2, .int (zf_S_setSlot st.2.1 ((p1 - 3) / 6))), (0, .ref a0), (1, .int p1)]) hx hb zd_X_octet_64 rfl hl (by decide) rfl (fun ls hl => ?_)
          refine lv_aload_n hx hb zd_X_octet_65 rfl (lv_at hl 1 rfl) ?_
          refine lv_iload_n hx hb zd_X_octet_66 rfl (lv_at hl 0 rfl) ?_
          refine lv_iload_n hx hb zd_X_octet_67 rfl (lv_at hl 2 rfl) ?_
          refine lv_iconst (v := 3) hx hb zd_X_octet_68 (by decide) ?_
          refine lv_isub hx hb zd_X_octet_69 ?_
          refine lv_bipush (v := 6) hx hb zd_X_octet_70 (by decide) ?_
          refine lv_irem hx hb zd_X_octet_72 (by decide) ?_
          refine zz_ki (va_runV (As := [.int (zf_S_setSlot st.2.1 ((p1 - 3) / 6)), .int ((p1 - 3) - (p1 - 3) / 6 * 6)]) (rest := []) ⟨hx, hb, hml, hown, htB⟩ (zc_X_packedByte l dC dI cI cZ cL a0 a1 a2 a3 a4 a5 a6 a7 a8 a9 a10 a11 s.heap.size st (zf_S_setSlot st.2.1 ((p1 - 3) / 6)) ((p1 - 3) - (p1 - 3) / 6 * 6) ) (cwV 2 htB (zz_gV zk_0c73a672 zk_9572301c zk_d6819786 zk_cfe38e2e zk_86bf3162) rfl rfl rfl ⟨rfl, zh_X_packedByte⟩ ⟨Nat.le_of_ble_eq_true rfl, Nat.le_of_ble_eq_true rfl⟩) (zz_preV (ci := 0) (q := (zr_X, zF_X, 7)) hP hD hK hE [0, 1, 2, 3, 4, 5, 6, 7, 8, 9, 10, 11] (by decide) rfl rfl rfl) rfl rfl hl.1 rfl (lv_room (Nat.le_of_ble_eq_true rfl)) zd_X_octet_73 ⟨Nat.le_of_ble_eq_true rfl, Nat.le_of_ble_eq_true rfl⟩) ?_
          rw [(show zf_X_octet st p1 = (0, (zf_X_packedByte st (zf_S_setSlot st.2.1 ((p1 - 3) / 6)) ((p1 - 3) - (p1 - 3) / 6 * 6))) from by rw [zf_X_octet, if_neg c_1, if_pos c_9, if_neg c_23, if_pos c_34])]
          refine W.widen (k := 1) (n := 6) (by decide) (by decide) ?_
          exact zt_zret hx hb hr hlocks (zo_X_packedByte st (zf_S_setSlot st.2.1 ((p1 - 3) / 6)) ((p1 - 3) - (p1 - 3) / 6 * 6)) hK hP hD hS zd_X_octet_76 rfl rfl
        · refine lv_aload_n hx hb zd_X_octet_37 rfl (lv_at hl 0 rfl) ?_
          refine va_get (D := (dC, dI)) (ci := 0) (v := .ref a1) (C := zr_X) (T := zF_X) (N := 7) hx hb htB zi_X hown hK hP 0 rfl rfl 1 (by decide) (htB _ zk_ac6f5f75) (fun _ h9 => h9) rfl zd_X_octet_38 ?_
          refine zz_ki (va_runV (As := []) (rest := []) ⟨hx, hb, hml, hown, htB⟩ (zc_S_setCount l dC dI cI cZ cL a1 a2 a3 s.heap.size st.2.1  ) (cwV 0 htB (zz_gV zk_d51b3908 zk_460a5c0b zk_dbc3e6b2 zk_f1a23aa7 zk_8b4375f5) rfl rfl rfl ⟨rfl, zh_S_setCount⟩ ⟨Nat.le_of_ble_eq_true rfl, Nat.le_of_ble_eq_true rfl⟩) (zz_preV (ci := 1) (q := (zr_S, zF_S, 5)) hP hD hK hE [1, 2, 3] (by decide) rfl rfl rfl) rfl rfl hl.1 rfl (lv_room (Nat.le_of_ble_eq_true rfl)) zd_X_octet_41 ⟨Nat.le_of_ble_eq_true rfl, Nat.le_of_ble_eq_true rfl⟩) ?_
          refine lv_iconst (v := 2) hx hb zd_X_octet_44 (by decide) ?_
          refine lv_iload_n hx hb zd_X_octet_45 rfl (lv_at hl 1 rfl) ?_
          refine lv_isub hx hb zd_X_octet_46 ?_
          refine zz_ki (va_runS (As := [.int (zf_S_setCount st.2.1), .int (2 - p1)]) (rest := []) ⟨hx, hb, hml, hown, htB⟩ (zc_X_byteOf l dC dI cI cZ cL  s.heap.size  (zf_S_setCount st.2.1) (2 - p1) ) (va_cwS 2 htB (zz_gS zk_fadbfa6c zk_700bf3ab zk_cfe38e2e zk_ad544a45) rfl rfl rfl zh_X_byteOf ⟨Nat.le_of_ble_eq_true rfl, Nat.le_of_ble_eq_true rfl⟩) (zz_preS hP hD hK hE [] (by decide) rfl) rfl rfl hl.1 rfl (lv_room (Nat.le_of_ble_eq_true rfl)) zd_X_octet_47 ⟨Nat.le_of_ble_eq_true rfl, Nat.le_of_ble_eq_true rfl⟩) ?_
          rw [(show zf_X_octet st p1 = (0, (zf_X_byteOf (zf_S_setCount st.2.1) (2 - p1))) from by rw [zf_X_octet, if_neg c_1, if_pos c_9, if_neg c_23, if_neg c_34])]
          refine W.widen (k := 1) (n := 6) (by decide) (by decide) ?_
          exact zt_zret hx hb hr hlocks (zo_X_byteOf (zf_S_setCount st.2.1) (2 - p1)) hK hP hD hS zd_X_octet_50 rfl rfl
      · refine lv_aload_n hx hb zd_X_octet_26 rfl (lv_at hl 0 rfl) ?_
        refine va_get (D := (dC, dI)) (ci := 0) (v := .int st.1) (C := zr_X) (T := zF_X) (N := 7) hx hb htB zi_X hown hK hP 0 rfl rfl 0 (by decide) (htB _ zk_26e1908c) (fun _ h9 => h9) rfl zd_X_octet_27 ?_
        refine lv_i2b hx hb zd_X_octet_30 rfl ?_
        rw [(show zf_X_octet st p1 = (0, st.1.toInt8.toInt32) from by rw [zf_X_octet, if_neg c_1, if_pos c_9, if_pos c_23])]
        refine W.widen (k := 1) (n := 6) (by decide) (by decide) ?_
        exact zt_zret hx hb hr hlocks (pk_nb _) hK hP hD hS zd_X_octet_31 rfl rfl
    · rw [(show zf_X_octet st p1 = (1, 0) from by rw [zf_X_octet, if_neg c_1, if_neg c_9])]
      exact zt_throw (names := ["java/lang/RuntimeException", "java/lang/Exception"]) hf0 hadm hx hb (hml.trans hl.1.symm) hlocks hexc hown (htB _ zk_5e3a1e0d) (htB _ zk_fcc34f65) (htB _ zk_8f54f0b8) (hE.2.1 ("DeclareForms", 166, "no such byte") (List.mem_of_getElem? (i := 7) rfl)) (by decide +kernel) (by decide +kernel) (za_2 htB hE hZ) hK hP hD hA (Nat.le_of_ble_eq_true rfl) (Nat.le_of_ble_eq_true rfl) (Nat.le_of_ble_eq_true rfl) (Nat.le_of_ble_eq_true rfl) zd_X_octet_12 zd_X_octet_15 zd_X_octet_16 zd_X_octet_18 zd_X_octet_21 (fun oc t x ce h1 h2 h3 h4 h5 h6 h7 => ⟨Or.inr ⟨(show (1 : Nat) ≠ 0 by decide), x, ce, h1, h2, h3, h4, h5⟩, h6, h7⟩)
