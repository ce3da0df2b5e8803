def zf_H_line (st : zu_H) : Int32 × zu_H :=
  if (zf_X_line st.1).1 = 0 then (0, ((zf_X_line st.1).2.2, (vp_updL st.2 (0 : Int32).toNatClampNeg (((zf_X_line st.1).2.1).toInt64))))
  else (1, ((zf_X_line st.1).2.2, st.2))
def zf_H_field (st : zu_H) (p1 : Int32) (p2 : Int32) (p3 : Int64) : Int32 × zu_H :=
  if (zf_X_field st.1 p1 p2 p3).1 = 0 then (0, ((zf_X_field st.1 p1 p2 p3).2.2, (vp_updL st.2 (0 : Int32).toNatClampNeg (((zf_X_field st.1 p1 p2 p3).2.1).toInt64))))
  else (1, ((zf_X_field st.1 p1 p2 p3).2.2, st.2))
def zf_H_value (st : zu_H) (p1 : Int32) (p2 : Int32) : Int32 × zu_H :=
  if (zf_X_value st.1 p1 p2).1 = 0 then (0, (st.1, (vp_updL st.2 (0 : Int32).toNatClampNeg ((zf_X_value st.1 p1 p2).2))))
  else (1, st)
def zf_H_need (st : zu_H) (p1 : Int32) : Int32 × zu_H :=
  if (zf_X_need st.1 p1).1 = 0 then (0, (st.1, (vp_updL st.2 (0 : Int32).toNatClampNeg (((zf_X_need st.1 p1).2).toInt64))))
  else (1, st)
def zf_H_amend (st : zu_H) (p1 : Int32) (p2 : Int32) (p3 : Int64) : Int32 × zu_H :=
  if (zf_X_amend st.1 p1 p2 p3).1 = 0 then (0, ((zf_X_amend st.1 p1 p2 p3).2.2, (vp_updL st.2 (0 : Int32).toNatClampNeg (((zf_X_amend st.1 p1 p2 p3).2.1).toInt64))))
  else if (zf_X_amend st.1 p1 p2 p3).1 = 1 then (1, ((zf_X_amend st.1 p1 p2 p3).2.2, st.2))
  else (2, ((zf_X_amend st.1 p1 p2 p3).2.2, st.2))
def zf_H_draw (st : zu_H) (p1 : Int32) (p2 : Int32) (p3 : Int32) : Int32 × zu_H :=
  if (zf_X_draw st.1 p1 p2 p3).1 = 0 then (0, ((zf_X_draw st.1 p1 p2 p3).2.2, (vp_updL st.2 (0 : Int32).toNatClampNeg (((zf_X_draw st.1 p1 p2 p3).2.1).toInt64))))
  else (1, ((zf_X_draw st.1 p1 p2 p3).2.2, st.2))
def zf_H_sum (st : zu_H) (p1 : Int32) : Int32 × zu_H :=
  if (zf_X_sum st.1 p1).1 = 0 then (0, (st.1, (vp_updL st.2 (0 : Int32).toNatClampNeg ((zf_X_sum st.1 p1).2))))
  else (1, st)
def zf_H_octet (st : zu_H) (p1 : Int32) : Int32 × zu_H :=
  if (zf_X_octet st.1 p1).1 = 0 then (0, (st.1, (vp_updL st.2 (0 : Int32).toNatClampNeg (((zf_X_octet st.1 p1).2).toInt64))))
  else (1, st)
set_option maxHeartbeats 4000000 in
set_option maxRecDepth 100000 in
theorem zc_H_line (l : Launch) (dC : Nat → ClassId) (dI : Nat → Nat → Nat) (cI cZ cL : ClassId) (a0 a1 a2 a3 a4 a5 a6 a7 a8 a9 a10 a11 a12 : Nat) (sz : Nat) (st : zu_H) (hm : st.1.2.1.2.2.1 ≤ 30) (hf0 : l.flags = pinnedFlags ++ [noTraceFlag]) : Met l zy_H_line (zh_ws zy_H_line zb_H_line 3 (some .int) [(0, 8, 11, 13)]) ({ frames := 7, cells := 1, slots := 6, locals := 103 } : Room) (va_Pc ([.ref a0, .ref a12] : List Value) (zt_P (dC, dI) (zz_ty cI cZ cL) sz (zw_H cI cZ cL a0 a1 a2 a3 a4 a5 a6 a7 a8 a9 a10 a11 a12 st))) (zz_Qi (dC, dI) (zz_ty cI cZ cL) (va_A (zw_H cI cZ cL a0 a1 a2 a3 a4 a5 a6 a7 a8 a9 a10 a11 a12 st) sz) ((zf_H_line st).1) (zw_H cI cZ cL a0 a1 a2 a3 a4 a5 a6 a7 a8 a9 a10 a11 a12 ((zf_H_line st).2))) 1 6 (va_A (zw_H cI cZ cL a0 a1 a2 a3 a4 a5 a6 a7 a8 a9 a10 a11 a12 st) sz) := by
  refine zh_ofW (Q := fun A => (zz_Qi (dC, dI) (zz_ty cI cZ cL) A ((zf_H_line st).1) (zw_H cI cZ cL a0 a1 a2 a3 a4 a5 a6 a7 a8 a9 a10 a11 a12 ((zf_H_line st).2)))) (by decide) (Nat.le_of_ble_eq_true rfl) ?_
  intro p e s m below meth c A C0 htab0 hA hK hP hD hZ ls hl
  obtain ⟨hx, hb, hr, hml, hown, htB, hlocks, hE⟩ := id C0
  have htab := zh_tab1 htab0
  have hS : va_S A s.heap s.heap [] := va_S.rf
  have hl : lv_has ls 3 [(0, .ref a0), (1, .ref a12)] := hl
  refine lv_aload_n hx hb zd_H_line_0 rfl (lv_at hl 1 rfl) ?_
  refine lv_iconst (v := 0) hx hb zd_H_line_1 (by decide) ?_
  refine lv_aload_n hx hb zd_H_line_2 rfl (lv_at hl 0 rfl) ?_
  by_cases c_3 : (zf_X_line st.1).1 = 0
  · refine zz_ci (va_runV (As := []) (rest := [.int 0, .ref a12]) ⟨hx, hb, hml, hown, htB⟩ (zt_asi (zc_X_line l dC dI cI cZ cL a0 a1 a2 a3 a4 a5 a6 a7 a8 a9 a10 a11 s.heap.size st.1  hm hf0) c_3) (cwV 0 htB (zz_gV zk_c955415f zk_118de276 zk_bf6685bd zk_cfe38e2e zk_40750095) rfl rfl rfl ⟨rfl, zh_X_line⟩ ⟨Nat.le_of_ble_eq_true rfl, Nat.le_of_ble_eq_true rfl⟩) (zh_preV (ci := 0) (q := (zr_X, zF_X, 7)) hP hD hK hE hZ hS hA [0, 1, 2, 3, 4, 5, 6, 7, 8, 9, 10, 11] (by decide) rfl rfl rfl) rfl rfl hl.1 rfl (lv_room (Nat.le_of_ble_eq_true rfl)) zd_H_line_3 ⟨Nat.le_of_ble_eq_true rfl, Nat.le_of_ble_eq_true rfl⟩) hP hD hS hA [0, 1, 2, 3, 4, 5, 6, 7, 8, 9, 10, 11] [12] [1, 2, 3, 4, 5, 6, 7, 8, 9, 10, 11, 12, 0] rfl rfl (by decide) (by decide) (by decide) rfl (fun H locs hP hD hS => ?_)
    have hP : va_P (dC, dI) zz_cl (zw_H cI cZ cL a0 a1 a2 a3 a4 a5 a6 a7 a8 a9 a10 a11 a12 ((zf_X_line st.1).2.2, st.2)) H := hP
    have hD : va_D A (zw_H cI cZ cL a0 a1 a2 a3 a4 a5 a6 a7 a8 a9 a10 a11 a12 ((zf_X_line st.1).2.2, st.2)) := hD
    refine lv_i2l hx hb zd_H_line_6 rfl ?_
    refine va_last hx hb hK hP hD hS 12 2 rfl rfl zh_in0 zd_H_line_7 (fun H locs hP hD hS => ?_)
    have hP : va_P (dC, dI) zz_cl (zw_H cI cZ cL a0 a1 a2 a3 a4 a5 a6 a7 a8 a9 a10 a11 a12 ((zf_X_line st.1).2.2, (vp_updL st.2 (0 : Int32).toNatClampNeg (((zf_X_line st.1).2.1).toInt64)))) H := hP
    have hD : va_D A (zw_H cI cZ cL a0 a1 a2 a3 a4 a5 a6 a7 a8 a9 a10 a11 a12 ((zf_X_line st.1).2.2, (vp_updL st.2 (0 : Int32).toNatClampNeg (((zf_X_line st.1).2.1).toInt64)))) := hD
    refine lv_goto (tgt := 14) hx hb zd_H_line_8 (by decide) ?_
    refine lv_iconst (v := 0) hx hb zd_H_line_14 (by decide) ?_
    rw [(show zf_H_line st = (0, ((zf_X_line st.1).2.2, (vp_updL st.2 (0 : Int32).toNatClampNeg (((zf_X_line st.1).2.1).toInt64)))) from by rw [zf_H_line, if_pos c_3])]
    exact zz_iret hx hb hr hlocks hK hP hD hS zd_H_line_15 rfl
  · refine zh_caught (hpc := 11) (zt_runX (As := []) (rest := [.int 0, .ref a12]) ⟨hx, hb, hml, hown, htB⟩ (zc_X_line l dC dI cI cZ cL a0 a1 a2 a3 a4 a5 a6 a7 a8 a9 a10 a11 s.heap.size st.1  hm hf0) (zh_thr c_3) (cwV 0 htB (zz_gV zk_c955415f zk_118de276 zk_bf6685bd zk_cfe38e2e zk_40750095) rfl rfl rfl ⟨rfl, zh_X_line⟩ ⟨Nat.le_of_ble_eq_true rfl, Nat.le_of_ble_eq_true rfl⟩) (zh_preV (ci := 0) (q := (zr_X, zF_X, 7)) hP hD hK hE hZ hS hA [0, 1, 2, 3, 4, 5, 6, 7, 8, 9, 10, 11] (by decide) rfl rfl rfl) rfl rfl hl.1 rfl (lv_room (Nat.le_of_ble_eq_true rfl)) zd_H_line_3 ⟨Nat.le_of_ble_eq_true rfl, Nat.le_of_ble_eq_true rfl⟩) (fun _ _ _ h => h) hP hD hS hA [0, 1, 2, 3, 4, 5, 6, 7, 8, 9, 10, 11] [12] [1, 2, 3, 4, 5, 6, 7, 8, 9, 10, 11, 12, 0] rfl rfl (by decide) (by decide) (by decide) rfl (fun X h1 h2 h3 => zt_first (g := F0 m 3 ls [.int 0, .ref a12]) (Xc := "java/lang/IllegalStateException") X rfl h1 h2 hown htab rfl (by decide) (htB _ zk_85373c90) ((congrArg s.vm.findClass (rfl : "java/lang/IllegalStateException" = "java/lang/IllegalStateException")).symm.trans h3) (hE.2.2.2.1 "java/lang/IllegalStateException" (List.mem_of_getElem? (i := 0) rfl))) (fun x9 H locs hP hD hS => ?_)
    have hP : va_P (dC, dI) zz_cl (zw_H cI cZ cL a0 a1 a2 a3 a4 a5 a6 a7 a8 a9 a10 a11 a12 ((zf_X_line st.1).2.2, st.2)) H := hP
    have hD : va_D A (zw_H cI cZ cL a0 a1 a2 a3 a4 a5 a6 a7 a8 a9 a10 a11 a12 ((zf_X_line st.1).2.2, st.2)) := hD
    refine lv_astore_n (lv' := [(2, .ref x9), (0, .ref a0), (1, .ref a12)]) hx hb zd_H_line_11 rfl hl (by decide) rfl (fun ls hl => ?_)
    refine lv_iconst (v := 1) hx hb zd_H_line_12 (by decide) ?_
    rw [(show zf_H_line st = (1, ((zf_X_line st.1).2.2, st.2)) from by rw [zf_H_line, if_neg c_3])]
    exact zz_iret hx hb hr hlocks hK hP hD hS zd_H_line_13 rfl
set_option maxHeartbeats 4000000 in
set_option maxRecDepth 100000 in
theorem zc_H_field (l : Launch) (dC : Nat → ClassId) (dI : Nat → Nat → Nat) (cI cZ cL : ClassId) (a0 a1 a2 a3 a4 a5 a6 a7 a8 a9 a10 a11 a12 : Nat) (sz : Nat) (st : zu_H) (p1 : Int32) (p2 : Int32) (p3 : Int64)  (hf0 : l.flags = pinnedFlags ++ [noTraceFlag]) : Met l zy_H_field (zh_ws zy_H_field zb_H_field 7 (some .int) [(0, 12, 15, 19)]) ({ frames := 7, cells := 1, slots := 6, locals := 108 } : Room) (va_Pc ([.ref a0, .int p1, .int p2, .long p3, .ref a12] : List Value) (zt_P (dC, dI) (zz_ty cI cZ cL) sz (zw_H cI cZ cL a0 a1 a2 a3 a4 a5 a6 a7 a8 a9 a10 a11 a12 st))) (zz_Qi (dC, dI) (zz_ty cI cZ cL) (va_A (zw_H cI cZ cL a0 a1 a2 a3 a4 a5 a6 a7 a8 a9 a10 a11 a12 st) sz) ((zf_H_field st p1 p2 p3).1) (zw_H cI cZ cL a0 a1 a2 a3 a4 a5 a6 a7 a8 a9 a10 a11 a12 ((zf_H_field st p1 p2 p3).2))) 1 6 (va_A (zw_H cI cZ cL a0 a1 a2 a3 a4 a5 a6 a7 a8 a9 a10 a11 a12 st) sz) := by
  refine zh_ofW (Q := fun A => (zz_Qi (dC, dI) (zz_ty cI cZ cL) A ((zf_H_field st p1 p2 p3).1) (zw_H cI cZ cL a0 a1 a2 a3 a4 a5 a6 a7 a8 a9 a10 a11 a12 ((zf_H_field st p1 p2 p3).2)))) (by decide) (Nat.le_of_ble_eq_true rfl) ?_
  intro p e s m below meth c A C0 htab0 hA hK hP hD hZ ls hl
  obtain ⟨hx, hb, hr, hml, hown, htB, hlocks, hE⟩ := id C0
  have htab := zh_tab1 htab0
  have hS : va_S A s.heap s.heap [] := va_S.rf
  have hl : lv_has ls 7 [(0, .ref a0), (1, .int p1), (2, .int p2), (3, .long p3), (5, .ref a12)] := hl
  refine lv_aload hx hb zd_H_field_0 (lv_at hl 4 rfl) ?_
  refine lv_iconst (v := 0) hx hb zd_H_field_2 (by decide) ?_
  refine lv_aload_n hx hb zd_H_field_3 rfl (lv_at hl 0 rfl) ?_
  refine lv_iload_n hx hb zd_H_field_4 rfl (lv_at hl 1 rfl) ?_
  refine lv_iload_n hx hb zd_H_field_5 rfl (lv_at hl 2 rfl) ?_
  refine lv_lload_n hx hb zd_H_field_6 rfl (lv_at hl 3 rfl) ?_
  by_cases c_7 : (zf_X_field st.1 p1 p2 p3).1 = 0
  · refine zz_ci (va_runV (As := [.int p1, .int p2, .long p3]) (rest := [.int 0, .ref a12]) ⟨hx, hb, hml, hown, htB⟩ (zt_asi (zc_X_field l dC dI cI cZ cL a0 a1 a2 a3 a4 a5 a6 a7 a8 a9 a10 a11 s.heap.size st.1 p1 p2 p3  hf0) c_7) (cwV 3 htB (zz_gV zk_1f439bb0 zk_7c5e73ee zk_0c5421d8 zk_cfe38e2e zk_0b6edfcf) rfl rfl rfl ⟨rfl, zh_X_field⟩ ⟨Nat.le_of_ble_eq_true rfl, Nat.le_of_ble_eq_true rfl⟩) (zh_preV (ci := 0) (q := (zr_X, zF_X, 7)) hP hD hK hE hZ hS hA [0, 1, 2, 3, 4, 5, 6, 7, 8, 9, 10, 11] (by decide) rfl rfl rfl) rfl rfl hl.1 rfl (lv_room (Nat.le_of_ble_eq_true rfl)) zd_H_field_7 ⟨Nat.le_of_ble_eq_true rfl, Nat.le_of_ble_eq_true rfl⟩) hP hD hS hA [0, 1, 2, 3, 4, 5, 6, 7, 8, 9, 10, 11] [12] [1, 2, 3, 4, 5, 6, 7, 8, 9, 10, 11, 12, 0] rfl rfl (by decide) (by decide) (by decide) rfl (fun H locs hP hD hS => ?_)
    have hP : va_P (dC, dI) zz_cl (zw_H cI cZ cL a0 a1 a2 a3 a4 a5 a6 a7 a8 a9 a10 a11 a12 ((zf_X_field st.1 p1 p2 p3).2.2, st.2)) H := hP
    have hD : va_D A (zw_H cI cZ cL a0 a1 a2 a3 a4 a5 a6 a7 a8 a9 a10 a11 a12 ((zf_X_field st.1 p1 p2 p3).2.2, st.2)) := hD
    refine lv_i2l hx hb zd_H_field_10 rfl ?_
    refine va_last hx hb hK hP hD hS 12 2 rfl rfl zh_in0 zd_H_field_11 (fun H locs hP hD hS => ?_)
    have hP : va_P (dC, dI) zz_cl (zw_H cI cZ cL a0 a1 a2 a3 a4 a5 a6 a7 a8 a9 a10 a11 a12 ((zf_X_field st.1 p1 p2 p3).2.2, (vp_updL st.2 (0 : Int32).toNatClampNeg (((zf_X_field st.1 p1 p2 p3).2.1).toInt64)))) H := hP
    have hD : va_D A (zw_H cI cZ cL a0 a1 a2 a3 a4 a5 a6 a7 a8 a9 a10 a11 a12 ((zf_X_field st.1 p1 p2 p3).2.2, (vp_updL st.2 (0 : Int32).toNatClampNeg (((zf_X_field st.1 p1 p2 p3).2.1).toInt64)))) := hD
    refine lv_goto (tgt := 19) hx hb zd_H_field_12 (by decide) ?_
    refine lv_iconst (v := 0) hx hb zd_H_field_19 (by decide) ?_
    rw [(show zf_H_field st p1 p2 p3 = (0, ((zf_X_field st.1 p1 p2 p3).2.2, (vp_updL st.2 (0 : Int32).toNatClampNeg (((zf_X_field st.1 p1 p2 p3).2.1).toInt64)))) from by rw [zf_H_field, if_pos c_7])]
    exact zz_iret hx hb hr hlocks hK hP hD hS zd_H_field_20 rfl
  · refine zh_caught (hpc := 15) (zt_runX (As := [.int p1, .int p2, .long p3]) (rest := [.int 0, .ref a12]) ⟨hx, hb, hml, hown, htB⟩ (zc_X_field l dC dI cI cZ cL a0 a1 a2 a3 a4 a5 a6 a7 a8 a9 a10 a11 s.heap.size st.1 p1 p2 p3  hf0) (zh_thr c_7) (cwV 3 htB (zz_gV zk_1f439bb0 zk_7c5e73ee zk_0c5421d8 zk_cfe38e2e zk_0b6edfcf) rfl rfl rfl ⟨rfl, zh_X_field⟩ ⟨Nat.le_of_ble_eq_true rfl, Nat.le_of_ble_eq_true rfl⟩) (zh_preV (ci := 0) (q := (zr_X, zF_X, 7)) hP hD hK hE hZ hS hA [0, 1, 2, 3, 4, 5, 6, 7, 8, 9, 10, 11] (by decide) rfl rfl rfl) rfl rfl hl.1 rfl (lv_room (Nat.le_of_ble_eq_true rfl)) zd_H_field_7 ⟨Nat.le_of_ble_eq_true rfl, Nat.le_of_ble_eq_true rfl⟩) (fun _ _ _ h => h) hP hD hS hA [0, 1, 2, 3, 4, 5, 6, 7, 8, 9, 10, 11] [12] [1, 2, 3, 4, 5, 6, 7, 8, 9, 10, 11, 12, 0] rfl rfl (by decide) (by decide) (by decide) rfl (fun X h1 h2 h3 => zt_first (g := F0 m 7 ls [.int 0, .ref a12]) (Xc := "java/lang/IllegalArgumentException") X rfl h1 h2 hown htab rfl (by decide) (htB _ zk_42c792c8) ((congrArg s.vm.findClass (rfl : "java/lang/IllegalArgumentException" = "java/lang/IllegalArgumentException")).symm.trans h3) (hE.2.2.2.1 "java/lang/IllegalArgumentException" (List.mem_of_getElem? (i := 1) rfl))) (fun x9 H locs hP hD hS => ?_)
    have hP : va_P (dC, dI) zz_cl (zw_H cI cZ cL a0 a1 a2 a3 a4 a5 a6 a7 a8 a9 a10 a11 a12 ((zf_X_field st.1 p1 p2 p3).2.2, st.2)) H := hP
    have hD : va_D A (zw_H cI cZ cL a0 a1 a2 a3 a4 a5 a6 a7 a8 a9 a10 a11 a12 ((zf_X_field st.1 p1 p2 p3).2.2, st.2)) := hD
    refine lv_astore (lv' := [(6, .ref x9), (0, .ref a0), (1, .int p1), (2, .int p2), (3, .long p3), (5, .ref a12)]) hx hb zd_H_field_15 hl (by decide) rfl (fun ls hl => ?_)
    refine lv_iconst (v := 1) hx hb zd_H_field_17 (by decide) ?_
    rw [(show zf_H_field st p1 p2 p3 = (1, ((zf_X_field st.1 p1 p2 p3).2.2, st.2)) from by rw [zf_H_field, if_neg c_7])]
    exact zz_iret hx hb hr hlocks hK hP hD hS zd_H_field_18 rfl
set_option maxHeartbeats 4000000 in
set_option maxRecDepth 100000 in
theorem zc_H_value (l : Launch) (dC : Nat → ClassId) (dI : Nat → Nat → Nat) (cI cZ cL : ClassId) (a0 a1 a2 a3 a4 a5 a6 a7 a8 a9 a10 a11 a12 : Nat) (sz : Nat) (st : zu_H) (p1 : Int32) (p2 : Int32)  (hf0 : l.flags = pinnedFlags ++ [noTraceFlag]) : Met l zy_H_value (zh_ws zy_H_value zb_H_value 5 (some .int) [(0, 9, 12, 19)]) ({ frames := 7, cells := 1, slots := 6, locals := 106 } : Room) (va_Pc ([.ref a0, .int p1, .int p2, .ref a12] : List Value) (zt_P (dC, dI) (zz_ty cI cZ cL) sz (zw_H cI cZ cL a0 a1 a2 a3 a4 a5 a6 a7 a8 a9 a10 a11 a12 st))) (zz_Qi (dC, dI) (zz_ty cI cZ cL) (va_A (zw_H cI cZ cL a0 a1 a2 a3 a4 a5 a6 a7 a8 a9 a10 a11 a12 st) sz) ((zf_H_value st p1 p2).1) (zw_H cI cZ cL a0 a1 a2 a3 a4 a5 a6 a7 a8 a9 a10 a11 a12 ((zf_H_value st p1 p2).2))) 1 6 (va_A (zw_H cI cZ cL a0 a1 a2 a3 a4 a5 a6 a7 a8 a9 a10 a11 a12 st) sz) := by
  refine zh_ofW (Q := fun A => (zz_Qi (dC, dI) (zz_ty cI cZ cL) A ((zf_H_value st p1 p2).1) (zw_H cI cZ cL a0 a1 a2 a3 a4 a5 a6 a7 a8 a9 a10 a11 a12 ((zf_H_value st p1 p2).2)))) (by decide) (Nat.le_of_ble_eq_true rfl) ?_
  intro p e s m below meth c A C0 htab0 hA hK hP hD hZ ls hl
  obtain ⟨hx, hb, hr, hml, hown, htB, hlocks, hE⟩ := id C0
  have htab := zh_tab1 htab0
  have hS : va_S A s.heap s.heap [] := va_S.rf
  have hl : lv_has ls 5 [(0, .ref a0), (1, .int p1), (2, .int p2), (3, .ref a12)] := hl
  refine lv_aload_n hx hb zd_H_value_0 rfl (lv_at hl 3 rfl) ?_
  refine lv_iconst (v := 0) hx hb zd_H_value_1 (by decide) ?_
  refine lv_aload_n hx hb zd_H_value_2 rfl (lv_at hl 0 rfl) ?_
  refine lv_iload_n hx hb zd_H_value_3 rfl (lv_at hl 1 rfl) ?_
  refine lv_iload_n hx hb zd_H_value_4 rfl (lv_at hl 2 rfl) ?_
  by_cases c_5 : (zf_X_value st.1 p1 p2).1 = 0
  · refine zz_cl_ (va_runV (As := [.int p1, .int p2]) (rest := [.int 0, .ref a12]) ⟨hx, hb, hml, hown, htB⟩ (zt_asl (zc_X_value l dC dI cI cZ cL a0 a1 a2 a3 a4 a5 a6 a7 a8 a9 a10 a11 s.heap.size st.1 p1 p2  hf0) c_5) (cwV 2 htB (zz_gV zk_8de25bdb zk_fb611bcc zk_7afbf215 zk_cfe38e2e zk_99504f30) rfl rfl rfl ⟨rfl, zh_X_value⟩ ⟨Nat.le_of_ble_eq_true rfl, Nat.le_of_ble_eq_true rfl⟩) (zh_preV (ci := 0) (q := (zr_X, zF_X, 7)) hP hD hK hE hZ hS hA [0, 1, 2, 3, 4, 5, 6, 7, 8, 9, 10, 11] (by decide) rfl rfl rfl) rfl rfl hl.1 rfl (lv_room (Nat.le_of_ble_eq_true rfl)) zd_H_value_5 ⟨Nat.le_of_ble_eq_true rfl, Nat.le_of_ble_eq_true rfl⟩) hP hD hS hA [0, 1, 2, 3, 4, 5, 6, 7, 8, 9, 10, 11] [12] [1, 2, 3, 4, 5, 6, 7, 8, 9, 10, 11, 12, 0] rfl rfl (by decide) (by decide) (by decide) rfl (fun H locs hP hD hS => ?_)
    have hP : va_P (dC, dI) zz_cl (zw_H cI cZ cL a0 a1 a2 a3 a4 a5 a6 a7 a8 a9 a10 a11 a12 st) H := hP
    have hD : va_D A (zw_H cI cZ cL a0 a1 a2 a3 a4 a5 a6 a7 a8 a9 a10 a11 a12 st) := hD
    refine va_last hx hb hK hP hD hS 12 2 rfl rfl zh_in0 zd_H_value_8 (fun H locs hP hD hS => ?_)
    have hP : va_P (dC, dI) zz_cl (zw_H cI cZ cL a0 a1 a2 a3 a4 a5 a6 a7 a8 a9 a10 a11 a12 (st.1, (vp_updL st.2 (0 : Int32).toNatClampNeg ((zf_X_value st.1 p1 p2).2)))) H := hP
    have hD : va_D A (zw_H cI cZ cL a0 a1 a2 a3 a4 a5 a6 a7 a8 a9 a10 a11 a12 (st.1, (vp_updL st.2 (0 : Int32).toNatClampNeg ((zf_X_value st.1 p1 p2).2)))) := hD
    refine lv_goto (tgt := 16) hx hb zd_H_value_9 (by decide) ?_
    refine lv_iconst (v := 0) hx hb zd_H_value_16 (by decide) ?_
    rw [(show zf_H_value st p1 p2 = (0, (st.1, (vp_updL st.2 (0 : Int32).toNatClampNeg ((zf_X_value st.1 p1 p2).2)))) from by rw [zf_H_value, if_pos c_5])]
    exact zz_iret hx hb hr hlocks hK hP hD hS zd_H_value_17 rfl
  · refine zh_caught (hpc := 12) (zt_runX (As := [.int p1, .int p2]) (rest := [.int 0, .ref a12]) ⟨hx, hb, hml, hown, htB⟩ (zc_X_value l dC dI cI cZ cL a0 a1 a2 a3 a4 a5 a6 a7 a8 a9 a10 a11 s.heap.size st.1 p1 p2  hf0) (zh_thrl c_5) (cwV 2 htB (zz_gV zk_8de25bdb zk_fb611bcc zk_7afbf215 zk_cfe38e2e zk_99504f30) rfl rfl rfl ⟨rfl, zh_X_value⟩ ⟨Nat.le_of_ble_eq_true rfl, Nat.le_of_ble_eq_true rfl⟩) (zh_preV (ci := 0) (q := (zr_X, zF_X, 7)) hP hD hK hE hZ hS hA [0, 1, 2, 3, 4, 5, 6, 7, 8, 9, 10, 11] (by decide) rfl rfl rfl) rfl rfl hl.1 rfl (lv_room (Nat.le_of_ble_eq_true rfl)) zd_H_value_5 ⟨Nat.le_of_ble_eq_true rfl, Nat.le_of_ble_eq_true rfl⟩) (fun _ _ _ h => h) hP hD hS hA [0, 1, 2, 3, 4, 5, 6, 7, 8, 9, 10, 11] [12] [1, 2, 3, 4, 5, 6, 7, 8, 9, 10, 11, 12, 0] rfl rfl (by decide) (by decide) (by decide) rfl (fun X h1 h2 h3 => zt_first (g := F0 m 5 ls [.int 0, .ref a12]) (Xc := "java/lang/IllegalArgumentException") X rfl h1 h2 hown htab rfl (by decide) (htB _ zk_42c792c8) ((congrArg s.vm.findClass (rfl : "java/lang/IllegalArgumentException" = "java/lang/IllegalArgumentException")).symm.trans h3) (hE.2.2.2.1 "java/lang/IllegalArgumentException" (List.mem_of_getElem? (i := 1) rfl))) (fun x9 H locs hP hD hS => ?_)
    have hP : va_P (dC, dI) zz_cl (zw_H cI cZ cL a0 a1 a2 a3 a4 a5 a6 a7 a8 a9 a10 a11 a12 st) H := hP
    have hD : va_D A (zw_H cI cZ cL a0 a1 a2 a3 a4 a5 a6 a7 a8 a9 a10 a11 a12 st) := hD
    refine lv_astore (lv' := [(4, .ref x9), (0, .ref a0), (1, .int p1), (2, .int p2), (3, .ref a12)]) hx hb zd_H_value_12 hl (by decide) rfl (fun ls hl => ?_)
    refine lv_iconst (v := 1) hx hb zd_H_value_14 (by decide) ?_
    rw [(show zf_H_value st p1 p2 = (1, st) from by rw [zf_H_value, if_neg c_5])]
    exact zz_iret hx hb hr hlocks hK hP hD hS zd_H_value_15 rfl
set_option maxHeartbeats 4000000 in
set_option maxRecDepth 100000 in
theorem zc_H_need (l : Launch) (dC : Nat → ClassId) (dI : Nat → Nat → Nat) (cI cZ cL : ClassId) (a0 a1 a2 a3 a4 a5 a6 a7 a8 a9 a10 a11 a12 : Nat) (sz : Nat) (st : zu_H) (p1 : Int32)  (hf0 : l.flags = pinnedFlags ++ [noTraceFlag]) : Met l zy_H_need (zh_ws zy_H_need zb_H_need 4 (some .int) [(0, 9, 12, 19)]) ({ frames := 7, cells := 1, slots := 6, locals := 104 } : Room) (va_Pc ([.ref a0, .int p1, .ref a12] : List Value) (zt_P (dC, dI) (zz_ty cI cZ cL) sz (zw_H cI cZ cL a0 a1 a2 a3 a4 a5 a6 a7 a8 a9 a10 a11 a12 st))) (zz_Qi (dC, dI) (zz_ty cI cZ cL) (va_A (zw_H cI cZ cL a0 a1 a2 a3 a4 a5 a6 a7 a8 a9 a10 a11 a12 st) sz) ((zf_H_need st p1).1) (zw_H cI cZ cL a0 a1 a2 a3 a4 a5 a6 a7 a8 a9 a10 a11 a12 ((zf_H_need st p1).2))) 1 6 (va_A (zw_H cI cZ cL a0 a1 a2 a3 a4 a5 a6 a7 a8 a9 a10 a11 a12 st) sz) := by
  refine zh_ofW (Q := fun A => (zz_Qi (dC, dI) (zz_ty cI cZ cL) A ((zf_H_need st p1).1) (zw_H cI cZ cL a0 a1 a2 a3 a4 a5 a6 a7 a8 a9 a10 a11 a12 ((zf_H_need st p1).2)))) (by decide) (Nat.le_of_ble_eq_true rfl) ?_
  intro p e s m below meth c A C0 htab0 hA hK hP hD hZ ls hl
  obtain ⟨hx, hb, hr, hml, hown, htB, hlocks, hE⟩ := id C0
  have htab := zh_tab1 htab0
  have hS : va_S A s.heap s.heap [] := va_S.rf
  have hl : lv_has ls 4 [(0, .ref a0), (1, .int p1), (2, .ref a12)] := hl
  refine lv_aload_n hx hb zd_H_need_0 rfl (lv_at hl 2 rfl) ?_
  refine lv_iconst (v := 0) hx hb zd_H_need_1 (by decide) ?_
  refine lv_aload_n hx hb zd_H_need_2 rfl (lv_at hl 0 rfl) ?_
  refine lv_iload_n hx hb zd_H_need_3 rfl (lv_at hl 1 rfl) ?_
  by_cases c_4 : (zf_X_need st.1 p1).1 = 0
  · refine zz_ci (va_runV (As := [.int p1]) (rest := [.int 0, .ref a12]) ⟨hx, hb, hml, hown, htB⟩ (zt_asi (zc_X_need l dC dI cI cZ cL a0 a1 a2 a3 a4 a5 a6 a7 a8 a9 a10 a11 s.heap.size st.1 p1  hf0) c_4) (cwV 1 htB (zz_gV zk_e8d1f5b9 zk_4da4d9c1 zk_df849dec zk_cfe38e2e zk_3fef39be) rfl rfl rfl ⟨rfl, zh_X_need⟩ ⟨Nat.le_of_ble_eq_true rfl, Nat.le_of_ble_eq_true rfl⟩) (zh_preV (ci := 0) (q := (zr_X, zF_X, 7)) hP hD hK hE hZ hS hA [0, 1, 2, 3, 4, 5, 6, 7, 8, 9, 10, 11] (by decide) rfl rfl rfl) rfl rfl hl.1 rfl (lv_room (Nat.le_of_ble_eq_true rfl)) zd_H_need_4 ⟨Nat.le_of_ble_eq_true rfl, Nat.le_of_ble_eq_true rfl⟩) hP hD hS hA [0, 1, 2, 3, 4, 5, 6, 7, 8, 9, 10, 11] [12] [1, 2, 3, 4, 5, 6, 7, 8, 9, 10, 11, 12, 0] rfl rfl (by decide) (by decide) (by decide) rfl (fun H locs hP hD hS => ?_)
    have hP : va_P (dC, dI) zz_cl (zw_H cI cZ cL a0 a1 a2 a3 a4 a5 a6 a7 a8 a9 a10 a11 a12 st) H := hP
    have hD : va_D A (zw_H cI cZ cL a0 a1 a2 a3 a4 a5 a6 a7 a8 a9 a10 a11 a12 st) := hD
    refine lv_i2l hx hb zd_H_need_7 rfl ?_
    refine va_last hx hb hK hP hD hS 12 2 rfl rfl zh_in0 zd_H_need_8 (fun H locs hP hD hS => ?_)
    have hP : va_P (dC, dI) zz_cl (zw_H cI cZ cL a0 a1 a2 a3 a4 a5 a6 a7 a8 a9 a10 a11 a12 (st.1, (vp_updL st.2 (0 : Int32).toNatClampNeg (((zf_X_need st.1 p1).2).toInt64)))) H := hP
    have hD : va_D A (zw_H cI cZ cL a0 a1 a2 a3 a4 a5 a6 a7 a8 a9 a10 a11 a12 (st.1, (vp_updL st.2 (0 : Int32).toNatClampNeg (((zf_X_need st.1 p1).2).toInt64)))) := hD
    refine lv_goto (tgt := 15) hx hb zd_H_need_9 (by decide) ?_
    refine lv_iconst (v := 0) hx hb zd_H_need_15 (by decide) ?_
    rw [(show zf_H_need st p1 = (0, (st.1, (vp_updL st.2 (0 : Int32).toNatClampNeg (((zf_X_need st.1 p1).2).toInt64)))) from by rw [zf_H_need, if_pos c_4])]
    exact zz_iret hx hb hr hlocks hK hP hD hS zd_H_need_16 rfl
  · refine zh_caught (hpc := 12) (zt_runX (As := [.int p1]) (rest := [.int 0, .ref a12]) ⟨hx, hb, hml, hown, htB⟩ (zc_X_need l dC dI cI cZ cL a0 a1 a2 a3 a4 a5 a6 a7 a8 a9 a10 a11 s.heap.size st.1 p1  hf0) (zh_thr c_4) (cwV 1 htB (zz_gV zk_e8d1f5b9 zk_4da4d9c1 zk_df849dec zk_cfe38e2e zk_3fef39be) rfl rfl rfl ⟨rfl, zh_X_need⟩ ⟨Nat.le_of_ble_eq_true rfl, Nat.le_of_ble_eq_true rfl⟩) (zh_preV (ci := 0) (q := (zr_X, zF_X, 7)) hP hD hK hE hZ hS hA [0, 1, 2, 3, 4, 5, 6, 7, 8, 9, 10, 11] (by decide) rfl rfl rfl) rfl rfl hl.1 rfl (lv_room (Nat.le_of_ble_eq_true rfl)) zd_H_need_4 ⟨Nat.le_of_ble_eq_true rfl, Nat.le_of_ble_eq_true rfl⟩) (fun _ _ _ h => h) hP hD hS hA [0, 1, 2, 3, 4, 5, 6, 7, 8, 9, 10, 11] [12] [1, 2, 3, 4, 5, 6, 7, 8, 9, 10, 11, 12, 0] rfl rfl (by decide) (by decide) (by decide) rfl (fun X h1 h2 h3 => zt_first (g := F0 m 4 ls [.int 0, .ref a12]) (Xc := "java/lang/IllegalArgumentException") X rfl h1 h2 hown htab rfl (by decide) (htB _ zk_42c792c8) ((congrArg s.vm.findClass (rfl : "java/lang/IllegalArgumentException" = "java/lang/IllegalArgumentException")).symm.trans h3) (hE.2.2.2.1 "java/lang/IllegalArgumentException" (List.mem_of_getElem? (i := 1) rfl))) (fun x9 H locs hP hD hS => ?_)
    have hP : va_P (dC, dI) zz_cl (zw_H cI cZ cL a0 a1 a2 a3 a4 a5 a6 a7 a8 a9 a10 a11 a12 st) H := hP
    have hD : va_D A (zw_H cI cZ cL a0 a1 a2 a3 a4 a5 a6 a7 a8 a9 a10 a11 a12 st) := hD
    refine lv_astore_n (lv' := [(3, .ref x9), (0, .ref a0), (1, .int p1), (2, .ref a12)]) hx hb zd_H_need_12 rfl hl (by decide) rfl (fun ls hl => ?_)
    refine lv_iconst (v := 1) hx hb zd_H_need_13 (by decide) ?_
    rw [(show zf_H_need st p1 = (1, st) from by rw [zf_H_need, if_neg c_4])]
    exact zz_iret hx hb hr hlocks hK hP hD hS zd_H_need_14 rfl
set_option maxHeartbeats 4000000 in
set_option maxRecDepth 100000 in
theorem zc_H_amend (l : Launch) (dC : Nat → ClassId) (dI : Nat → Nat → Nat) (cI cZ cL : ClassId) (a0 a1 a2 a3 a4 a5 a6 a7 a8 a9 a10 a11 a12 : Nat) (sz : Nat) (st : zu_H) (p1 : Int32) (p2 : Int32) (p3 : Int64) (hc : st.1.2.2.1.2.2 ≤ 20) (hf0 : l.flags = pinnedFlags ++ [noTraceFlag]) : Met l zy_H_amend (zh_ws zy_H_amend zb_H_amend 7 (some .int) [(0, 12, 15, 19), (0, 12, 19, 13)]) ({ frames := 7, cells := 1, slots := 6, locals := 138 } : Room) (va_Pc ([.ref a0, .int p1, .int p2, .long p3, .ref a12] : List Value) (zt_P (dC, dI) (zz_ty cI cZ cL) sz (zw_H cI cZ cL a0 a1 a2 a3 a4 a5 a6 a7 a8 a9 a10 a11 a12 st))) (zz_Qi (dC, dI) (zz_ty cI cZ cL) (va_A (zw_H cI cZ cL a0 a1 a2 a3 a4 a5 a6 a7 a8 a9 a10 a11 a12 st) sz) ((zf_H_amend st p1 p2 p3).1) (zw_H cI cZ cL a0 a1 a2 a3 a4 a5 a6 a7 a8 a9 a10 a11 a12 ((zf_H_amend st p1 p2 p3).2))) 1 6 (va_A (zw_H cI cZ cL a0 a1 a2 a3 a4 a5 a6 a7 a8 a9 a10 a11 a12 st) sz) := by
  refine zh_ofW (Q := fun A => (zz_Qi (dC, dI) (zz_ty cI cZ cL) A ((zf_H_amend st p1 p2 p3).1) (zw_H cI cZ cL a0 a1 a2 a3 a4 a5 a6 a7 a8 a9 a10 a11 a12 ((zf_H_amend st p1 p2 p3).2)))) (by decide) (Nat.le_of_ble_eq_true rfl) ?_
  intro p e s m below meth c A C0 htab0 hA hK hP hD hZ ls hl
  obtain ⟨hx, hb, hr, hml, hown, htB, hlocks, hE⟩ := id C0
  have htab := zh_tab2 htab0
  have hS : va_S A s.heap s.heap [] := va_S.rf
  have hl : lv_has ls 7 [(0, .ref a0), (1, .int p1), (2, .int p2), (3, .long p3), (5, .ref a12)] := hl
  refine lv_aload hx hb zd_H_amend_0 (lv_at hl 4 rfl) ?_
  refine lv_iconst (v := 0) hx hb zd_H_amend_2 (by decide) ?_
  refine lv_aload_n hx hb zd_H_amend_3 rfl (lv_at hl 0 rfl) ?_
  refine lv_iload_n hx hb zd_H_amend_4 rfl (lv_at hl 1 rfl) ?_
  refine lv_iload_n hx hb zd_H_amend_5 rfl (lv_at hl 2 rfl) ?_
  refine lv_lload_n hx hb zd_H_amend_6 rfl (lv_at hl 3 rfl) ?_
  by_cases c_7 : (zf_X_amend st.1 p1 p2 p3).1 = 0
  · refine zz_ci (va_runV (As := [.int p1, .int p2, .long p3]) (rest := [.int 0, .ref a12]) ⟨hx, hb, hml, hown, htB⟩ (zt_asi (zc_X_amend l dC dI cI cZ cL a0 a1 a2 a3 a4 a5 a6 a7 a8 a9 a10 a11 s.heap.size st.1 p1 p2 p3 hc hf0) c_7) (cwV 3 htB (zz_gV zk_33ba2509 zk_a73b2c73 zk_1e9cbac7 zk_cfe38e2e zk_02992475) rfl rfl rfl ⟨rfl, zh_X_amend⟩ ⟨Nat.le_of_ble_eq_true rfl, Nat.le_of_ble_eq_true rfl⟩) (zh_preV (ci := 0) (q := (zr_X, zF_X, 7)) hP hD hK hE hZ hS hA [0, 1, 2, 3, 4, 5, 6, 7, 8, 9, 10, 11] (by decide) rfl rfl rfl) rfl rfl hl.1 rfl (lv_room (Nat.le_of_ble_eq_true rfl)) zd_H_amend_7 ⟨Nat.le_of_ble_eq_true rfl, Nat.le_of_ble_eq_true rfl⟩) hP hD hS hA [0, 1, 2, 3, 4, 5, 6, 7, 8, 9, 10, 11] [12] [1, 2, 3, 4, 5, 6, 7, 8, 9, 10, 11, 12, 0] rfl rfl (by decide) (by decide) (by decide) rfl (fun H locs hP hD hS => ?_)
    have hP : va_P (dC, dI) zz_cl (zw_H cI cZ cL a0 a1 a2 a3 a4 a5 a6 a7 a8 a9 a10 a11 a12 ((zf_X_amend st.1 p1 p2 p3).2.2, st.2)) H := hP
    have hD : va_D A (zw_H cI cZ cL a0 a1 a2 a3 a4 a5 a6 a7 a8 a9 a10 a11 a12 ((zf_X_amend st.1 p1 p2 p3).2.2, st.2)) := hD
    refine lv_i2l hx hb zd_H_amend_10 rfl ?_
    refine va_last hx hb hK hP hD hS 12 2 rfl rfl zh_in0 zd_H_amend_11 (fun H locs hP hD hS => ?_)
    have hP : va_P (dC, dI) zz_cl (zw_H cI cZ cL a0 a1 a2 a3 a4 a5 a6 a7 a8 a9 a10 a11 a12 ((zf_X_amend st.1 p1 p2 p3).2.2, (vp_updL st.2 (0 : Int32).toNatClampNeg (((zf_X_amend st.1 p1 p2 p3).2.1).toInt64)))) H := hP
    have hD : va_D A (zw_H cI cZ cL a0 a1 a2 a3 a4 a5 a6 a7 a8 a9 a10 a11 a12 ((zf_X_amend st.1 p1 p2 p3).2.2, (vp_updL st.2 (0 : Int32).toNatClampNeg (((zf_X_amend st.1 p1 p2 p3).2.1).toInt64)))) := hD
    refine lv_goto (tgt := 23) hx hb zd_H_amend_12 (by decide) ?_
    refine lv_iconst (v := 0) hx hb zd_H_amend_23 (by decide) ?_
    rw [(show zf_H_amend st p1 p2 p3 = (0, ((zf_X_amend st.1 p1 p2 p3).2.2, (vp_updL st.2 (0 : Int32).toNatClampNeg (((zf_X_amend st.1 p1 p2 p3).2.1).toInt64)))) from by rw [zf_H_amend, if_pos c_7])]
    exact zz_iret hx hb hr hlocks hK hP hD hS zd_H_amend_24 rfl
  · by_cases d_7 : (zf_X_amend st.1 p1 p2 p3).1 = 1
    · refine zh_caught (hpc := 15) (zt_runX (As := [.int p1, .int p2, .long p3]) (rest := [.int 0, .ref a12]) ⟨hx, hb, hml, hown, htB⟩ (zc_X_amend l dC dI cI cZ cL a0 a1 a2 a3 a4 a5 a6 a7 a8 a9 a10 a11 s.heap.size st.1 p1 p2 p3 hc hf0) (zh_thr c_7) (cwV 3 htB (zz_gV zk_33ba2509 zk_a73b2c73 zk_1e9cbac7 zk_cfe38e2e zk_02992475) rfl rfl rfl ⟨rfl, zh_X_amend⟩ ⟨Nat.le_of_ble_eq_true rfl, Nat.le_of_ble_eq_true rfl⟩) (zh_preV (ci := 0) (q := (zr_X, zF_X, 7)) hP hD hK hE hZ hS hA [0, 1, 2, 3, 4, 5, 6, 7, 8, 9, 10, 11] (by decide) rfl rfl rfl) rfl rfl hl.1 rfl (lv_room (Nat.le_of_ble_eq_true rfl)) zd_H_amend_7 ⟨Nat.le_of_ble_eq_true rfl, Nat.le_of_ble_eq_true rfl⟩) (fun _ _ _ h => h) hP hD hS hA [0, 1, 2, 3, 4, 5, 6, 7, 8, 9, 10, 11] [12] [1, 2, 3, 4, 5, 6, 7, 8, 9, 10, 11, 12, 0] rfl rfl (by decide) (by decide) (by decide) rfl (fun X h1 h2 h3 => zt_first (g := F0 m 7 ls [.int 0, .ref a12]) (Xc := "java/lang/IllegalArgumentException") X rfl h1 h2 hown htab rfl (by decide) (htB _ zk_42c792c8) ((congrArg s.vm.findClass (if_pos d_7 : (if (zf_X_amend st.1 p1 p2 p3).1 = 1 then "java/lang/IllegalArgumentException" else "java/lang/IllegalStateException") = "java/lang/IllegalArgumentException")).symm.trans h3) (hE.2.2.2.1 "java/lang/IllegalArgumentException" (List.mem_of_getElem? (i := 1) rfl))) (fun x9 H locs hP hD hS => ?_)
      have hP : va_P (dC, dI) zz_cl (zw_H cI cZ cL a0 a1 a2 a3 a4 a5 a6 a7 a8 a9 a10 a11 a12 ((zf_X_amend st.1 p1 p2 p3).2.2, st.2)) H := hP
      have hD : va_D A (zw_H cI cZ cL a0 a1 a2 a3 a4 a5 a6 a7 a8 a9 a10 a11 a12 ((zf_X_amend st.1 p1 p2 p3).2.2, st.2)) := hD
      refine lv_astore (lv' := [(6, .ref x9), (0, .ref a0), (1, .int p1), (2, .int p2), (3, .long p3), (5, .ref a12)]) hx hb zd_H_amend_15 hl (by decide) rfl (fun ls hl => ?_)
      refine lv_iconst (v := 1) hx hb zd_H_amend_17 (by decide) ?_
      rw [(show zf_H_amend st p1 p2 p3 = (1, ((zf_X_amend st.1 p1 p2 p3).2.2, st.2)) from by rw [zf_H_amend, if_neg c_7, if_pos d_7])]
      exact zz_iret hx hb hr hlocks hK hP hD hS zd_H_amend_18 rfl
    · refine zh_caught (hpc := 19) (zt_runX (As := [.int p1, .int p2, .long p3]) (rest := [.int 0, .ref a12]) ⟨hx, hb, hml, hown, htB⟩ (zc_X_amend l dC dI cI cZ cL a0 a1 a2 a3 a4 a5 a6 a7 a8 a9 a10 a11 s.heap.size st.1 p1 p2 p3 hc hf0) (zh_thr c_7) (cwV 3 htB (zz_gV zk_33ba2509 zk_a73b2c73 zk_1e9cbac7 zk_cfe38e2e zk_02992475) rfl rfl rfl ⟨rfl, zh_X_amend⟩ ⟨Nat.le_of_ble_eq_true rfl, Nat.le_of_ble_eq_true rfl⟩) (zh_preV (ci := 0) (q := (zr_X, zF_X, 7)) hP hD hK hE hZ hS hA [0, 1, 2, 3, 4, 5, 6, 7, 8, 9, 10, 11] (by decide) rfl rfl rfl) rfl rfl hl.1 rfl (lv_room (Nat.le_of_ble_eq_true rfl)) zd_H_amend_7 ⟨Nat.le_of_ble_eq_true rfl, Nat.le_of_ble_eq_true rfl⟩) (fun _ _ _ h => h) hP hD hS hA [0, 1, 2, 3, 4, 5, 6, 7, 8, 9, 10, 11] [12] [1, 2, 3, 4, 5, 6, 7, 8, 9, 10, 11, 12, 0] rfl rfl (by decide) (by decide) (by decide) rfl (fun X h1 h2 h3 => zt_second (g := F0 m 7 ls [.int 0, .ref a12]) (Xc := "java/lang/IllegalStateException") X rfl h1 h2 hown htab rfl (by decide) rfl (by decide) (htB _ zk_42c792c8) (htB _ zk_85373c90) ((congrArg s.vm.findClass (if_neg d_7 : (if (zf_X_amend st.1 p1 p2 p3).1 = 1 then "java/lang/IllegalArgumentException" else "java/lang/IllegalStateException") = "java/lang/IllegalStateException")).symm.trans h3) hE.2.2.2.2 (hE.2.2.2.1 "java/lang/IllegalStateException" (List.mem_of_getElem? (i := 0) rfl))) (fun x9 H locs hP hD hS => ?_)
      have hP : va_P (dC, dI) zz_cl (zw_H cI cZ cL a0 a1 a2 a3 a4 a5 a6 a7 a8 a9 a10 a11 a12 ((zf_X_amend st.1 p1 p2 p3).2.2, st.2)) H := hP
      have hD : va_D A (zw_H cI cZ cL a0 a1 a2 a3 a4 a5 a6 a7 a8 a9 a10 a11 a12 ((zf_X_amend st.1 p1 p2 p3).2.2, st.2)) := hD
      refine lv_astore (lv' := [(6, .ref x9), (0, .ref a0), (1, .int p1), (2, .int p2), (3, .long p3), (5, .ref a12)]) hx hb zd_H_amend_19 hl (by decide) rfl (fun ls hl => ?_)
      refine lv_iconst (v := 2) hx hb zd_H_amend_21 (by decide) ?_
      rw [(show zf_H_amend st p1 p2 p3 = (2, ((zf_X_amend st.1 p1 p2 p3).2.2, st.2)) from by rw [zf_H_amend, if_neg c_7, if_neg d_7])]
      exact zz_iret hx hb hr hlocks hK hP hD hS zd_H_amend_22 rfl
set_option maxHeartbeats 4000000 in
set_option maxRecDepth 100000 in
theorem zc_H_draw (l : Launch) (dC : Nat → ClassId) (dI : Nat → Nat → Nat) (cI cZ cL : ClassId) (a0 a1 a2 a3 a4 a5 a6 a7 a8 a9 a10 a11 a12 : Nat) (sz : Nat) (st : zu_H) (p1 : Int32) (p2 : Int32) (p3 : Int32) (hp : st.1.2.2.2.1.2.2.2 ≤ 20) (hf0 : l.flags = pinnedFlags ++ [noTraceFlag]) : Met l zy_H_draw (zh_ws zy_H_draw zb_H_draw 6 (some .int) [(0, 12, 15, 19)]) ({ frames := 7, cells := 1, slots := 6, locals := 107 } : Room) (va_Pc ([.ref a0, .int p1, .int p2, .int p3, .ref a12] : List Value) (zt_P (dC, dI) (zz_ty cI cZ cL) sz (zw_H cI cZ cL a0 a1 a2 a3 a4 a5 a6 a7 a8 a9 a10 a11 a12 st))) (zz_Qi (dC, dI) (zz_ty cI cZ cL) (va_A (zw_H cI cZ cL a0 a1 a2 a3 a4 a5 a6 a7 a8 a9 a10 a11 a12 st) sz) ((zf_H_draw st p1 p2 p3).1) (zw_H cI cZ cL a0 a1 a2 a3 a4 a5 a6 a7 a8 a9 a10 a11 a12 ((zf_H_draw st p1 p2 p3).2))) 1 6 (va_A (zw_H cI cZ cL a0 a1 a2 a3 a4 a5 a6 a7 a8 a9 a10 a11 a12 st) sz) := by
  refine zh_ofW (Q := fun A => (zz_Qi (dC, dI) (zz_ty cI cZ cL) A ((zf_H_draw st p1 p2 p3).1) (zw_H cI cZ cL a0 a1 a2 a3 a4 a5 a6 a7 a8 a9 a10 a11 a12 ((zf_H_draw st p1 p2 p3).2)))) (by decide) (Nat.le_of_ble_eq_true rfl) ?_
  intro p e s m below meth c A C0 htab0 hA hK hP hD hZ ls hl
  obtain ⟨hx, hb, hr, hml, hown, htB, hlocks, hE⟩ := id C0
  have htab := zh_tab1 htab0
  have hS : va_S A s.heap s.heap [] := va_S.rf
  have hl : lv_has ls 6 [(0, .ref a0), (1, .int p1), (2, .int p2), (3, .int p3), (4, .ref a12)] := hl
  refine lv_aload hx hb zd_H_draw_0 (lv_at hl 4 rfl) ?_
  refine lv_iconst (v := 0) hx hb zd_H_draw_2 (by decide) ?_
  refine lv_aload_n hx hb zd_H_draw_3 rfl (lv_at hl 0 rfl) ?_
  refine lv_iload_n hx hb zd_H_draw_4 rfl (lv_at hl 1 rfl) ?_
  refine lv_iload_n hx hb zd_H_draw_5 rfl (lv_at hl 2 rfl) ?_
  refine lv_iload_n hx hb zd_H_draw_6 rfl (lv_at hl 3 rfl) ?_
  by_cases c_7 : (zf_X_draw st.1 p1 p2 p3).1 = 0
  · refine zz_ci (va_runV (As := [.int p1, .int p2, .int p3]) (rest := [.int 0, .ref a12]) ⟨hx, hb, hml, hown, htB⟩ (zt_asi (zc_X_draw l dC dI cI cZ cL a0 a1 a2 a3 a4 a5 a6 a7 a8 a9 a10 a11 s.heap.size st.1 p1 p2 p3 hp hf0) c_7) (cwV 3 htB (zz_gV zk_df27687e zk_098b0bad zk_53444e25 zk_cfe38e2e zk_ad4a2b8f) rfl rfl rfl ⟨rfl, zh_X_draw⟩ ⟨Nat.le_of_ble_eq_true rfl, Nat.le_of_ble_eq_true rfl⟩) (zh_preV (ci := 0) (q := (zr_X, zF_X, 7)) hP hD hK hE hZ hS hA [0, 1, 2, 3, 4, 5, 6, 7, 8, 9, 10, 11] (by decide) rfl rfl rfl) rfl rfl hl.1 rfl (lv_room (Nat.le_of_ble_eq_true rfl)) zd_H_draw_7 ⟨Nat.le_of_ble_eq_true rfl, Nat.le_of_ble_eq_true rfl⟩) hP hD hS hA [0, 1, 2, 3, 4, 5, 6, 7, 8, 9, 10, 11] [12] [1, 2, 3, 4, 5, 6, 7, 8, 9, 10, 11, 12, 0] rfl rfl (by decide) (by decide) (by decide) rfl (fun H locs hP hD hS => ?_)
    have hP : va_P (dC, dI) zz_cl (zw_H cI cZ cL a0 a1 a2 a3 a4 a5 a6 a7 a8 a9 a10 a11 a12 ((zf_X_draw st.1 p1 p2 p3).2.2, st.2)) H := hP
    have hD : va_D A (zw_H cI cZ cL a0 a1 a2 a3 a4 a5 a6 a7 a8 a9 a10 a11 a12 ((zf_X_draw st.1 p1 p2 p3).2.2, st.2)) := hD
    refine lv_i2l hx hb zd_H_draw_10 rfl ?_
    refine va_last hx hb hK hP hD hS 12 2 rfl rfl zh_in0 zd_H_draw_11 (fun H locs hP hD hS => ?_)
    have hP : va_P (dC, dI) zz_cl (zw_H cI cZ cL a0 a1 a2 a3 a4 a5 a6 a7 a8 a9 a10 a11 a12 ((zf_X_draw st.1 p1 p2 p3).2.2, (vp_updL st.2 (0 : Int32).toNatClampNeg (((zf_X_draw st.1 p1 p2 p3).2.1).toInt64)))) H := hP
    have hD : va_D A (zw_H cI cZ cL a0 a1 a2 a3 a4 a5 a6 a7 a8 a9 a10 a11 a12 ((zf_X_draw st.1 p1 p2 p3).2.2, (vp_updL st.2 (0 : Int32).toNatClampNeg (((zf_X_draw st.1 p1 p2 p3).2.1).toInt64)))) := hD
    refine lv_goto (tgt := 19) hx hb zd_H_draw_12 (by decide) ?_
    refine lv_iconst (v := 0) hx hb zd_H_draw_19 (by decide) ?_
    rw [(show zf_H_draw st p1 p2 p3 = (0, ((zf_X_draw st.1 p1 p2 p3).2.2, (vp_updL st.2 (0 : Int32).toNatClampNeg (((zf_X_draw st.1 p1 p2 p3).2.1).toInt64)))) from by rw [zf_H_draw, if_pos c_7])]
    exact zz_iret hx hb hr hlocks hK hP hD hS zd_H_draw_20 rfl
  · refine zh_caught (hpc := 15) (zt_runX (As := [.int p1, .int p2, .int p3]) (rest := [.int 0, .ref a12]) ⟨hx, hb, hml, hown, htB⟩ (zc_X_draw l dC dI cI cZ cL a0 a1 a2 a3 a4 a5 a6 a7 a8 a9 a10 a11 s.heap.size st.1 p1 p2 p3 hp hf0) (zh_thr c_7) (cwV 3 htB (zz_gV zk_df27687e zk_098b0bad zk_53444e25 zk_cfe38e2e zk_ad4a2b8f) rfl rfl rfl ⟨rfl, zh_X_draw⟩ ⟨Nat.le_of_ble_eq_true rfl, Nat.le_of_ble_eq_true rfl⟩) (zh_preV (ci := 0) (q := (zr_X, zF_X, 7)) hP hD hK hE hZ hS hA [0, 1, 2, 3, 4, 5, 6, 7, 8, 9, 10, 11] (by decide) rfl rfl rfl) rfl rfl hl.1 rfl (lv_room (Nat.le_of_ble_eq_true rfl)) zd_H_draw_7 ⟨Nat.le_of_ble_eq_true rfl, Nat.le_of_ble_eq_true rfl⟩) (fun _ _ _ h => h) hP hD hS hA [0, 1, 2, 3, 4, 5, 6, 7, 8, 9, 10, 11] [12] [1, 2, 3, 4, 5, 6, 7, 8, 9, 10, 11, 12, 0] rfl rfl (by decide) (by decide) (by decide) rfl (fun X h1 h2 h3 => zt_first (g := F0 m 7 ls [.int 0, .ref a12]) (Xc := "java/lang/IllegalArgumentException") X rfl h1 h2 hown htab rfl (by decide) (htB _ zk_42c792c8) ((congrArg s.vm.findClass (rfl : "java/lang/IllegalArgumentException" = "java/lang/IllegalArgumentException")).symm.trans h3) (hE.2.2.2.1 "java/lang/IllegalArgumentException" (List.mem_of_getElem? (i := 1) rfl))) (fun x9 H locs hP hD hS => ?_)
    have hP : va_P (dC, dI) zz_cl (zw_H cI cZ cL a0 a1 a2 a3 a4 a5 a6 a7 a8 a9 a10 a11 a12 ((zf_X_draw st.1 p1 p2 p3).2.2, st.2)) H := hP
    have hD : va_D A (zw_H cI cZ cL a0 a1 a2 a3 a4 a5 a6 a7 a8 a9 a10 a11 a12 ((zf_X_draw st.1 p1 p2 p3).2.2, st.2)) := hD
    refine lv_astore (lv' := [(5, .ref x9), (0, .ref a0), (1, .int p1), (2, .int p2), (3, .int p3), (4, .ref a12)]) hx hb zd_H_draw_15 hl (by decide) rfl (fun ls hl => ?_)
    refine lv_iconst (v := 1) hx hb zd_H_draw_17 (by decide) ?_
    rw [(show zf_H_draw st p1 p2 p3 = (1, ((zf_X_draw st.1 p1 p2 p3).2.2, st.2)) from by rw [zf_H_draw, if_neg c_7])]
    exact zz_iret hx hb hr hlocks hK hP hD hS zd_H_draw_18 rfl
set_option maxHeartbeats 4000000 in
set_option maxRecDepth 100000 in
theorem zc_H_sum (l : Launch) (dC : Nat → ClassId) (dI : Nat → Nat → Nat) (cI cZ cL : ClassId) (a0 a1 a2 a3 a4 a5 a6 a7 a8 a9 a10 a11 a12 : Nat) (sz : Nat) (st : zu_H) (p1 : Int32)  (hf0 : l.flags = pinnedFlags ++ [noTraceFlag]) : Met l zy_H_sum (zh_ws zy_H_sum zb_H_sum 4 (some .int) [(0, 8, 11, 19)]) ({ frames := 7, cells := 1, slots := 6, locals := 104 } : Room) (va_Pc ([.ref a0, .int p1, .ref a12] : List Value) (zt_P (dC, dI) (zz_ty cI cZ cL) sz (zw_H cI cZ cL a0 a1 a2 a3 a4 a5 a6 a7 a8 a9 a10 a11 a12 st))) (zz_Qi (dC, dI) (zz_ty cI cZ cL) (va_A (zw_H cI cZ cL a0 a1 a2 a3 a4 a5 a6 a7 a8 a9 a10 a11 a12 st) sz) ((zf_H_sum st p1).1) (zw_H cI cZ cL a0 a1 a2 a3 a4 a5 a6 a7 a8 a9 a10 a11 a12 ((zf_H_sum st p1).2))) 1 6 (va_A (zw_H cI cZ cL a0 a1 a2 a3 a4 a5 a6 a7 a8 a9 a10 a11 a12 st) sz) := by
  refine zh_ofW (Q := fun A => (zz_Qi (dC, dI) (zz_ty cI cZ cL) A ((zf_H_sum st p1).1) (zw_H cI cZ cL a0 a1 a2 a3 a4 a5 a6 a7 a8 a9 a10 a11 a12 ((zf_H_sum st p1).2)))) (by decide) (Nat.le_of_ble_eq_true rfl) ?_
  intro p e s m below meth c A C0 htab0 hA hK hP hD hZ ls hl
  obtain ⟨hx, hb, hr, hml, hown, htB, hlocks, hE⟩ := id C0
  have htab := zh_tab1 htab0
  have hS : va_S A s.heap s.heap [] := va_S.rf
  have hl : lv_has ls 4 [(0, .ref a0), (1, .int p1), (2, .ref a12)] := hl
  refine lv_aload_n hx hb zd_H_sum_0 rfl (lv_at hl 2 rfl) ?_
  refine lv_iconst (v := 0) hx hb zd_H_sum_1 (by decide) ?_
  refine lv_aload_n hx hb zd_H_sum_2 rfl (lv_at hl 0 rfl) ?_
  refine lv_iload_n hx hb zd_H_sum_3 rfl (lv_at hl 1 rfl) ?_
  by_cases c_4 : (zf_X_sum st.1 p1).1 = 0
  · refine zz_cl_ (va_runV (As := [.int p1]) (rest := [.int 0, .ref a12]) ⟨hx, hb, hml, hown, htB⟩ (zt_asl (zc_X_sum l dC dI cI cZ cL a0 a1 a2 a3 a4 a5 a6 a7 a8 a9 a10 a11 s.heap.size st.1 p1  hf0) c_4) (cwV 1 htB (zz_gV zk_e7a7d754 zk_048e5180 zk_27b90e57 zk_cfe38e2e zk_bf9796d8) rfl rfl rfl ⟨rfl, zh_X_sum⟩ ⟨Nat.le_of_ble_eq_true rfl, Nat.le_of_ble_eq_true rfl⟩) (zh_preV (ci := 0) (q := (zr_X, zF_X, 7)) hP hD hK hE hZ hS hA [0, 1, 2, 3, 4, 5, 6, 7, 8, 9, 10, 11] (by decide) rfl rfl rfl) rfl rfl hl.1 rfl (lv_room (Nat.le_of_ble_eq_true rfl)) zd_H_sum_4 ⟨Nat.le_of_ble_eq_true rfl, Nat.le_of_ble_eq_true rfl⟩) hP hD hS hA [0, 1, 2, 3, 4, 5, 6, 7, 8, 9, 10, 11] [12] [1, 2, 3, 4, 5, 6, 7, 8, 9, 10, 11, 12, 0] rfl rfl (by decide) (by decide) (by decide) rfl (fun H locs hP hD hS => ?_)
    have hP : va_P (dC, dI) zz_cl (zw_H cI cZ cL a0 a1 a2 a3 a4 a5 a6 a7 a8 a9 a10 a11 a12 st) H := hP
    have hD : va_D A (zw_H cI cZ cL a0 a1 a2 a3 a4 a5 a6 a7 a8 a9 a10 a11 a12 st) := hD
    refine va_last hx hb hK hP hD hS 12 2 rfl rfl zh_in0 zd_H_sum_7 (fun H locs hP hD hS => ?_)
    have hP : va_P (dC, dI) zz_cl (zw_H cI cZ cL a0 a1 a2 a3 a4 a5 a6 a7 a8 a9 a10 a11 a12 (st.1, (vp_updL st.2 (0 : Int32).toNatClampNeg ((zf_X_sum st.1 p1).2)))) H := hP
    have hD : va_D A (zw_H cI cZ cL a0 a1 a2 a3 a4 a5 a6 a7 a8 a9 a10 a11 a12 (st.1, (vp_updL st.2 (0 : Int32).toNatClampNeg ((zf_X_sum st.1 p1).2)))) := hD
    refine lv_goto (tgt := 14) hx hb zd_H_sum_8 (by decide) ?_
    refine lv_iconst (v := 0) hx hb zd_H_sum_14 (by decide) ?_
    rw [(show zf_H_sum st p1 = (0, (st.1, (vp_updL st.2 (0 : Int32).toNatClampNeg ((zf_X_sum st.1 p1).2)))) from by rw [zf_H_sum, if_pos c_4])]
    exact zz_iret hx hb hr hlocks hK hP hD hS zd_H_sum_15 rfl
  · refine zh_caught (hpc := 11) (zt_runX (As := [.int p1]) (rest := [.int 0, .ref a12]) ⟨hx, hb, hml, hown, htB⟩ (zc_X_sum l dC dI cI cZ cL a0 a1 a2 a3 a4 a5 a6 a7 a8 a9 a10 a11 s.heap.size st.1 p1  hf0) (zh_thrl c_4) (cwV 1 htB (zz_gV zk_e7a7d754 zk_048e5180 zk_27b90e57 zk_cfe38e2e zk_bf9796d8) rfl rfl rfl ⟨rfl, zh_X_sum⟩ ⟨Nat.le_of_ble_eq_true rfl, Nat.le_of_ble_eq_true rfl⟩) (zh_preV (ci := 0) (q := (zr_X, zF_X, 7)) hP hD hK hE hZ hS hA [0, 1, 2, 3, 4, 5, 6, 7, 8, 9, 10, 11] (by decide) rfl rfl rfl) rfl rfl hl.1 rfl (lv_room (Nat.le_of_ble_eq_true rfl)) zd_H_sum_4 ⟨Nat.le_of_ble_eq_true rfl, Nat.le_of_ble_eq_true rfl⟩) (fun _ _ _ h => h) hP hD hS hA [0, 1, 2, 3, 4, 5, 6, 7, 8, 9, 10, 11] [12] [1, 2, 3, 4, 5, 6, 7, 8, 9, 10, 11, 12, 0] rfl rfl (by decide) (by decide) (by decide) rfl (fun X h1 h2 h3 => zt_first (g := F0 m 4 ls [.int 0, .ref a12]) (Xc := "java/lang/IllegalArgumentException") X rfl h1 h2 hown htab rfl (by decide) (htB _ zk_42c792c8) ((congrArg s.vm.findClass (rfl : "java/lang/IllegalArgumentException" = "java/lang/IllegalArgumentException")).symm.trans h3) (hE.2.2.2.1 "java/lang/IllegalArgumentException" (List.mem_of_getElem? (i := 1) rfl))) (fun x9 H locs hP hD hS => ?_)
    have hP : va_P (dC, dI) zz_cl (zw_H cI cZ cL a0 a1 a2 a3 a4 a5 a6 a7 a8 a9 a10 a11 a12 st) H := hP
    have hD : va_D A (zw_H cI cZ cL a0 a1 a2 a3 a4 a5 a6 a7 a8 a9 a10 a11 a12 st) := hD
    refine lv_astore_n (lv' := [(3, .ref x9), (0, .ref a0), (1, .int p1), (2, .ref a12)]) hx hb zd_H_sum_11 rfl hl (by decide) rfl (fun ls hl => ?_)
    refine lv_iconst (v := 1) hx hb zd_H_sum_12 (by decide) ?_
    rw [(show zf_H_sum st p1 = (1, st) from by rw [zf_H_sum, if_neg c_4])]
    exact zz_iret hx hb hr hlocks hK hP hD hS zd_H_sum_13 rfl
set_option maxHeartbeats 4000000 in
set_option maxRecDepth 100000 in
theorem zc_H_octet (l : Launch) (dC : Nat → ClassId) (dI : Nat → Nat → Nat) (cI cZ cL : ClassId) (a0 a1 a2 a3 a4 a5 a6 a7 a8 a9 a10 a11 a12 : Nat) (sz : Nat) (st : zu_H) (p1 : Int32)  (hf0 : l.flags = pinnedFlags ++ [noTraceFlag]) : Met l zy_H_octet (zh_ws zy_H_octet zb_H_octet 4 (some .int) [(0, 9, 12, 44)]) ({ frames := 7, cells := 1, slots := 6, locals := 105 } : Room) (va_Pc ([.ref a0, .int p1, .ref a12] : List Value) (zt_P (dC, dI) (zz_ty cI cZ cL) sz (zw_H cI cZ cL a0 a1 a2 a3 a4 a5 a6 a7 a8 a9 a10 a11 a12 st))) (zz_Qi (dC, dI) (zz_ty cI cZ cL) (va_A (zw_H cI cZ cL a0 a1 a2 a3 a4 a5 a6 a7 a8 a9 a10 a11 a12 st) sz) ((zf_H_octet st p1).1) (zw_H cI cZ cL a0 a1 a2 a3 a4 a5 a6 a7 a8 a9 a10 a11 a12 ((zf_H_octet st p1).2))) 1 6 (va_A (zw_H cI cZ cL a0 a1 a2 a3 a4 a5 a6 a7 a8 a9 a10 a11 a12 st) sz) := by
  refine zh_ofW (Q := fun A => (zz_Qi (dC, dI) (zz_ty cI cZ cL) A ((zf_H_octet st p1).1) (zw_H cI cZ cL a0 a1 a2 a3 a4 a5 a6 a7 a8 a9 a10 a11 a12 ((zf_H_octet st p1).2)))) (by decide) (Nat.le_of_ble_eq_true rfl) ?_
  intro p e s m below meth c A C0 htab0 hA hK hP hD hZ ls hl
  obtain ⟨hx, hb, hr, hml, hown, htB, hlocks, hE⟩ := id C0
  have htab := zh_tab1 htab0
  have hS : va_S A s.heap s.heap [] := va_S.rf
  have hl : lv_has ls 4 [(0, .ref a0), (1, .int p1), (2, .ref a12)] := hl
  refine lv_aload_n hx hb zd_H_octet_0 rfl (lv_at hl 2 rfl) ?_
  refine lv_iconst (v := 0) hx hb zd_H_octet_1 (by decide) ?_
  refine lv_aload_n hx hb zd_H_octet_2 rfl (lv_at hl 0 rfl) ?_
  refine lv_iload_n hx hb zd_H_octet_3 rfl (lv_at hl 1 rfl) ?_
  by_cases c_4 : (zf_X_octet st.1 p1).1 = 0
  · refine zz_ci (va_runV (As := [.int p1]) (rest := [.int 0, .ref a12]) ⟨hx, hb, hml, hown, htB⟩ (zt_asi (zc_X_octet l dC dI cI cZ cL a0 a1 a2 a3 a4 a5 a6 a7 a8 a9 a10 a11 s.heap.size st.1 p1  hf0) c_4) (cwV 1 htB (zz_gV zk_abb9bd0b zk_ac2a6685 zk_ade47d99 zk_cfe38e2e zk_fe0c0aa4) rfl rfl rfl ⟨rfl, zh_X_octet⟩ ⟨Nat.le_of_ble_eq_true rfl, Nat.le_of_ble_eq_true rfl⟩) (zh_preV (ci := 0) (q := (zr_X, zF_X, 7)) hP hD hK hE hZ hS hA [0, 1, 2, 3, 4, 5, 6, 7, 8, 9, 10, 11] (by decide) rfl rfl rfl) rfl rfl hl.1 rfl (lv_room (Nat.le_of_ble_eq_true rfl)) zd_H_octet_4 ⟨Nat.le_of_ble_eq_true rfl, Nat.le_of_ble_eq_true rfl⟩) hP hD hS hA [0, 1, 2, 3, 4, 5, 6, 7, 8, 9, 10, 11] [12] [1, 2, 3, 4, 5, 6, 7, 8, 9, 10, 11, 12, 0] rfl rfl (by decide) (by decide) (by decide) rfl (fun H locs hP hD hS => ?_)
    have hP : va_P (dC, dI) zz_cl (zw_H cI cZ cL a0 a1 a2 a3 a4 a5 a6 a7 a8 a9 a10 a11 a12 st) H := hP
    have hD : va_D A (zw_H cI cZ cL a0 a1 a2 a3 a4 a5 a6 a7 a8 a9 a10 a11 a12 st) := hD
    refine lv_i2l hx hb zd_H_octet_7 rfl ?_
    refine va_last hx hb hK hP hD hS 12 2 rfl rfl zh_in0 zd_H_octet_8 (fun H locs hP hD hS => ?_)
    have hP : va_P (dC, dI) zz_cl (zw_H cI cZ cL a0 a1 a2 a3 a4 a5 a6 a7 a8 a9 a10 a11 a12 (st.1, (vp_updL st.2 (0 : Int32).toNatClampNeg (((zf_X_octet st.1 p1).2).toInt64)))) H := hP
    have hD : va_D A (zw_H cI cZ cL a0 a1 a2 a3 a4 a5 a6 a7 a8 a9 a10 a11 a12 (st.1, (vp_updL st.2 (0 : Int32).toNatClampNeg (((zf_X_octet st.1 p1).2).toInt64)))) := hD
    refine lv_goto (tgt := 15) hx hb zd_H_octet_9 (by decide) ?_
    refine lv_iconst (v := 0) hx hb zd_H_octet_15 (by decide) ?_
    rw [(show zf_H_octet st p1 = (0, (st.1, (vp_updL st.2 (0 : Int32).toNatClampNeg (((zf_X_octet st.1 p1).2).toInt64)))) from by rw [zf_H_octet, if_pos c_4])]
    exact zz_iret hx hb hr hlocks hK hP hD hS zd_H_octet_16 rfl
  · refine zh_caught (hpc := 12) (zt_runX (As := [.int p1]) (rest := [.int 0, .ref a12]) ⟨hx, hb, hml, hown, htB⟩ (zc_X_octet l dC dI cI cZ cL a0 a1 a2 a3 a4 a5 a6 a7 a8 a9 a10 a11 s.heap.size st.1 p1  hf0) (zh_thr c_4) (cwV 1 htB (zz_gV zk_abb9bd0b zk_ac2a6685 zk_ade47d99 zk_cfe38e2e zk_fe0c0aa4) rfl rfl rfl ⟨rfl, zh_X_octet⟩ ⟨Nat.le_of_ble_eq_true rfl, Nat.le_of_ble_eq_true rfl⟩) (zh_preV (ci := 0) (q := (zr_X, zF_X, 7)) hP hD hK hE hZ hS hA [0, 1, 2, 3, 4, 5, 6, 7, 8, 9, 10, 11] (by decide) rfl rfl rfl) rfl rfl hl.1 rfl (lv_room (Nat.le_of_ble_eq_true rfl)) zd_H_octet_4 ⟨Nat.le_of_ble_eq_true rfl, Nat.le_of_ble_eq_true rfl⟩) (fun _ _ _ h => h) hP hD hS hA [0, 1, 2, 3, 4, 5, 6, 7, 8, 9, 10, 11] [12] [1, 2, 3, 4, 5, 6, 7, 8, 9, 10, 11, 12, 0] rfl rfl (by decide) (by decide) (by decide) rfl (fun X h1 h2 h3 => zt_first (g := F0 m 4 ls [.int 0, .ref a12]) (Xc := "java/lang/IndexOutOfBoundsException") X rfl h1 h2 hown htab rfl (by decide) (htB _ zk_6139b0cd) ((congrArg s.vm.findClass (rfl : "java/lang/IndexOutOfBoundsException" = "java/lang/IndexOutOfBoundsException")).symm.trans h3) (hE.2.2.2.1 "java/lang/IndexOutOfBoundsException" (List.mem_of_getElem? (i := 2) rfl))) (fun x9 H locs hP hD hS => ?_)
    have hP : va_P (dC, dI) zz_cl (zw_H cI cZ cL a0 a1 a2 a3 a4 a5 a6 a7 a8 a9 a10 a11 a12 st) H := hP
    have hD : va_D A (zw_H cI cZ cL a0 a1 a2 a3 a4 a5 a6 a7 a8 a9 a10 a11 a12 st) := hD
    refine lv_astore_n (lv' := [(3, .ref x9), (0, .ref a0), (1, .int p1), (2, .ref a12)]) hx hb zd_H_octet_12 rfl hl (by decide) rfl (fun ls hl => ?_)
    refine lv_iconst (v := 1) hx hb zd_H_octet_13 (by decide) ?_
    rw [(show zf_H_octet st p1 = (1, st) from by rw [zf_H_octet, if_neg c_4])]
    exact zz_iret hx hb hr hlocks hK hP hD hS zd_H_octet_14 rfl
set_option maxHeartbeats 4000000 in
theorem zc_cell (l : Launch) (b L : Nat) (xs : Nat → Int32) (hL : L ≤ 2561) : Met l zy_cell (zz_ws zy_cell zb_cell 2 (some .int)) ({ frames := 0, cells := 0, slots := 0, locals := 0 } : Room) (va_Pc ([.ref b, .int 0] : List Value) (fun U => va_X b L xs U U.heap ∧ b < U.heap.size)) (zz_Ki (if nI L ≤ 0 then 0 else xs 0)) 0 0 (fun _ => False) := by
  refine Met.ofW (cc := zb_cell) (maxL := 2) (ret := some .int) (by decide) rfl ?_
  intro p e s m args below meth c s₁ B hml hv
  obtain ⟨rfl, hX, hbl⟩ := hv
  have hx := B.exec
  have hb := B.bytes
  have hr := B.returns
  have hlocks := B.notSynchronized
  have hS : va_S (fun _ : Nat => False) s.heap s.heap [] := va_S.rf
  have hbA : ¬ (fun _ : Nat => False) b := fun h => h
  have hl := lv_entry ([.ref b, .int 0]) (n := 2) (Nat.le_of_ble_eq_true rfl)
  rw [lg_entry_eq]
  generalize (lg_sl ([.ref b, .int 0]) ++ List.replicate (2 - (lg_sl ([.ref b, .int 0])).length) Slot.unset).toArray = ls at hl ⊢
  have hl : lv_has ls 2 [(0, .ref b), (1, .int 0)] := hl
  refine lv_iload_n hx hb zd_cell_0 rfl (lv_at hl 1 rfl) ?_
  refine lv_aload_n hx hb zd_cell_1 rfl (lv_at hl 0 rfl) ?_
  refine va_slen hx hb hX hbl hbA hS zd_cell_2 ?_
  refine lv_icmp_ge (tgt := 12) hx hb zd_cell_3 (by decide) (fun c_3 => ?_) (fun c_3 => ?_)
  · refine lv_iconst (v := 0) hx hb zd_cell_12 (by decide) ?_
    rw [if_pos (show nI L ≤ 0 from c_3)]
    exact zz_kiret hx hb hr hlocks zd_cell_13 rfl
  · refine lv_aload_n hx hb zd_cell_6 rfl (lv_at hl 0 rfl) ?_
    refine lv_iload_n hx hb zd_cell_7 rfl (lv_at hl 1 rfl) ?_
    have h0 : 0 < L := by
      rcases Nat.eq_zero_or_pos L with q | q
      · exact absurd (by rw [q]; decide) c_3
      · exact q
    refine va_sld hx hb hX hbl hbA hS (vp_in_nI (n := 0) h0 (by omega)) zd_cell_8 ?_
    refine lv_goto (tgt := 13) hx hb zd_cell_9 (by decide) ?_
    rw [if_neg (show ¬ nI L ≤ 0 from c_3)]
    exact zz_kiret hx hb hr hlocks zd_cell_13 rfl
