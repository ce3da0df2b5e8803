set_option maxHeartbeats 4000000 in
set_option maxRecDepth 100000 in
theorem zl_arm_0 {p : Program} {l : Launch} {e : Env} {s : State} {m : MethodId} {below : List Frame} {meth : Method} {c : Code} {A : Nat → Prop} {dC : Nat → ClassId} {dI : Nat → Nat → Nat} {cI cZ cL : ClassId} {a0 a1 a2 a3 a4 a5 a6 a7 a8 a9 a10 a11 a12 a13 a14 a15 a16 a17 a18 a19 a20 b L i t : Nat} {xs : Nat → Int32} (F : zl_F l p s m meth c b L xs A dC dI cI cZ cL) (hi : i + 4 < L) (ht : t ≤ 511) (kk : zl_K p l e s m below meth c A dC dI cI cZ cL a0 a1 a2 a3 a4 a5 a6 a7 a8 a9 a10 a11 a12 a13 a14 a15 a16 a17 a18 a19 a20 b i (21 + t + 1) (2133 + 6 * t + 6) 1002) : zl_K p l e s m below meth c A dC dI cI cZ cL a0 a1 a2 a3 a4 a5 a6 a7 a8 a9 a10 a11 a12 a13 a14 a15 a16 a17 a18 a19 a20 b i (21 + t) (2133 + 6 * t) 136 := by
  obtain ⟨hx, hb, hml, hown, htB, hX, hbl, hbA, hE, hZ, hA, hK, hf0, hL, hAs, hr, hlocks⟩ := id F
  intro st w0 w1 w2 w3 w4 w5 w6 w7 w8 w9 w10 w11 w12 w13 w14 w15 w16 w17 w18 w19 w20 w21 o hR H locs hP hD hS ls hl
  have hm := hR.S.m30
  have hc := hR.C.le
  have hp := hR.P.le
  have hxm : st.2.1.2.2.1 ≤ 30 := by rw [hR.S.made]; exact hm
  have hxc : st.2.2.1.2.2 ≤ 20 := by rw [hR.C.n]; exact hc
  have hxp : st.2.2.2.1.2.2.2 ≤ 20 := by rw [hR.P.n]; exact hp
  refine lv_aload_n hx hb zd_law_136 rfl (lv_at hl 1 rfl) ?_
  refine lv_aload_n hx hb zd_law_137 rfl (lv_at hl 3 rfl) ?_
  refine zz_ci (zh_runS (As := [.ref a0, .ref a20]) (rest := []) ⟨hx, hb, hml, hown, htB⟩ (zc_H_line l dC dI cI cZ cL a0 a1 a2 a3 a4 a5 a6 a7 a8 a9 a10 a11 a20 H.size (st, o)  hxm hf0) (zh_g zk_94fff9e0 zk_3679f5b5 zk_47055d91 zk_cb54bce8) rfl rfl rfl zh_H_line ⟨Nat.le_of_ble_eq_true rfl, Nat.le_of_ble_eq_true rfl⟩ (zh_preS hP hD hK hE hZ hS hA [0, 1, 2, 3, 4, 5, 6, 7, 8, 9, 10, 11, 20] (by decide) rfl) rfl rfl hl.1 rfl (lv_room (Nat.le_of_ble_eq_true rfl)) zd_law_138 ⟨by show _ ≤ (1054 : Nat); omega, by show _ ≤ (10379 : Nat); omega⟩) hP hD hS hA [0, 1, 2, 3, 4, 5, 6, 7, 8, 9, 10, 11, 20] [12, 13, 14, 15, 16, 17, 18, 19] [8, 9, 10, 11, 12, 13, 14, 15, 16, 17, 18, 19, 0, 1, 2, 3, 4, 5, 6, 7, 20] rfl rfl (by decide) (by decide) (by decide) rfl (fun H locs hP hD hS => ?_)
  have hP : va_P (dC, dI) zz_cl (zv_L cI cZ cL a0 a1 a2 a3 a4 a5 a6 a7 a8 a9 a10 a11 a12 a13 a14 a15 a16 a17 a18 a19 a20 (((zf_H_line (st, o)).2).1) w0 w1 w2 w3 w4 w5 w6 w7 w8 w9 w10 w11 w12 w13 w14 w15 w16 w17 w18 w19 w20 w21 (((zf_H_line (st, o)).2).2)) H := hP
  have hD : va_D A (zv_L cI cZ cL a0 a1 a2 a3 a4 a5 a6 a7 a8 a9 a10 a11 a12 a13 a14 a15 a16 a17 a18 a19 a20 (((zf_H_line (st, o)).2).1) w0 w1 w2 w3 w4 w5 w6 w7 w8 w9 w10 w11 w12 w13 w14 w15 w16 w17 w18 w19 w20 w21 (((zf_H_line (st, o)).2).2)) := hD
  refine lv_istore (lv' := [(5, .int ((zf_H_line (st, o)).1)), (0, .ref b), (1, .ref a0), (2, .ref a12), (3, .ref a20), (4, .int (nI i))]) hx hb zd_law_141 hl (by decide) rfl (fun ls hl => ?_)
  refine lv_aload_n hx hb zd_law_143 rfl (lv_at hl 3 rfl) ?_
  refine zz_ci (va_runV (As := []) (rest := []) ⟨hx, hb, hml, hown, htB⟩ (zc_M_line l dC dI cI cZ cL a12 a13 a14 a15 a16 a17 a18 a19 H.size w0 w1 w2 w3 w4 w5 w6 w7 w8 w9 w10 w11 w12 w13 w14 w15 w16 w17 w18 w19 w20 w21  ) (cwV 0 htB (zz_gV zk_93f4e0a1 zk_007c3e4e zk_3df1215d zk_91cc3b19 zk_01911349) rfl rfl rfl ⟨rfl, zh_M_line⟩ ⟨Nat.le_of_ble_eq_true rfl, Nat.le_of_ble_eq_true rfl⟩) (zz_preV (ci := 5) (q := (zr_M, zF_M, 22)) hP hD hK hE [12, 13, 14, 15, 16, 17, 18, 19] (by decide) rfl rfl rfl) rfl rfl hl.1 rfl (lv_room (Nat.le_of_ble_eq_true rfl)) zd_law_144 ⟨by show _ ≤ (1054 : Nat); omega, by show _ ≤ (10379 : Nat); omega⟩) hP hD hS hA [12, 13, 14, 15, 16, 17, 18, 19] [0, 1, 2, 3, 4, 5, 6, 7, 8, 9, 10, 11, 20] [0, 1, 2, 3, 4, 5, 6, 7, 8, 9, 10, 11, 13, 14, 15, 16, 17, 18, 19, 20, 12] rfl rfl (by decide) (by decide) (by decide) rfl (fun H locs hP hD hS => ?_)
  have hP : va_P (dC, dI) zz_cl (zv_L cI cZ cL a0 a1 a2 a3 a4 a5 a6 a7 a8 a9 a10 a11 a12 a13 a14 a15 a16 a17 a18 a19 a20 (((zf_H_line (st, o)).2).1) ((zf_M_line w0 w2 w5).2.1) w1 ((zf_M_line w0 w2 w5).2.2) w3 w4 w5 w6 w7 w8 w9 w10 w11 w12 w13 w14 w15 w16 w17 w18 w19 w20 w21 (((zf_H_line (st, o)).2).2)) H := hP
  have hD : va_D A (zv_L cI cZ cL a0 a1 a2 a3 a4 a5 a6 a7 a8 a9 a10 a11 a12 a13 a14 a15 a16 a17 a18 a19 a20 (((zf_H_line (st, o)).2).1) ((zf_M_line w0 w2 w5).2.1) w1 ((zf_M_line w0 w2 w5).2.2) w3 w4 w5 w6 w7 w8 w9 w10 w11 w12 w13 w14 w15 w16 w17 w18 w19 w20 w21 (((zf_H_line (st, o)).2).2)) := hD
  refine lv_istore (lv' := [(6, .int ((zf_M_line w0 w2 w5).1)), (5, .int ((zf_H_line (st, o)).1)), (0, .ref b), (1, .ref a0), (2, .ref a12), (3, .ref a20), (4, .int (nI i))]) hx hb zd_law_147 hl (by decide) rfl (fun ls hl => ?_)
  refine lv_aload_n hx hb zd_law_149 rfl (lv_at hl 4 rfl) ?_
  refine zz_ki (va_runV (As := []) (rest := []) ⟨hx, hb, hml, hown, htB⟩ (zc_M_thrown l dC dI cI cZ cL a12 a13 a14 a15 a16 a17 a18 a19 H.size ((zf_M_line w0 w2 w5).2.1) w1 ((zf_M_line w0 w2 w5).2.2) w3 w4 w5 w6 w7 w8 w9 w10 w11 w12 w13 w14 w15 w16 w17 w18 w19 w20 w21  ) (cwV 0 htB (zz_gV zk_8e32f3ef zk_7bff8b59 zk_098c063e zk_91cc3b19 zk_b51a64f9) rfl rfl rfl ⟨rfl, zh_M_thrown⟩ ⟨Nat.le_of_ble_eq_true rfl, Nat.le_of_ble_eq_true rfl⟩) (zz_preV (ci := 5) (q := (zr_M, zF_M, 22)) hP hD hK hE [12, 13, 14, 15, 16, 17, 18, 19] (by decide) rfl rfl rfl) rfl rfl hl.1 rfl (lv_room (Nat.le_of_ble_eq_true rfl)) zd_law_150 ⟨by show _ ≤ (1054 : Nat); omega, by show _ ≤ (10379 : Nat); omega⟩) ?_
  refine lv_iload hx hb zd_law_153 (lv_at hl 1 rfl) ?_
  refine lv_icmp_eq (tgt := 160) hx hb zd_law_155 (by decide) (fun _ => ?_) (fun c_ => absurd ((zq_line hR w0).1.symm.trans (zl_H_line st o).1.symm) c_)
  refine lv_iload hx hb zd_law_160 (lv_at hl 1 rfl) ?_
  refine lv_if_ne (tgt := 177) hx hb zd_law_162 (by decide) (fun c_162 => ?_) (fun c_162 => ?_)
  · refine lv_goto (tgt := 1002) hx hb zd_law_177 (by decide) ?_
    refine W.widen (k := 21 + t + 1) (n := 2133 + 6 * t + 6) (by omega) (by omega) ?_
    exact kk (((zf_H_line (st, o)).2).1) ((zf_M_line w0 w2 w5).2.1) w1 ((zf_M_line w0 w2 w5).2.2) w3 w4 w5 w6 w7 w8 w9 w10 w11 w12 w13 w14 w15 w16 w17 w18 w19 w20 w21 (((zf_H_line (st, o)).2).2) (by rw [(zl_H_line st o).2.1]; exact (zq_line hR w0).2.2) _ _ hP hD hS _ (lv_sub hl [2, 3, 4, 5, 6] rfl)
  · refine lv_aload_n hx hb zd_law_165 rfl (lv_at hl 5 rfl) ?_
    refine lv_iconst (v := 0) hx hb zd_law_166 (by decide) ?_
    refine va_lald hx hb hK hP 20 2 rfl rfl zh_in0 zd_law_167 ?_
    refine lv_iload hx hb zd_law_168 (lv_at hl 0 rfl) ?_
    refine lv_i2l hx hb zd_law_170 rfl ?_
    refine W.lcmp hx hb zd_law_171 ?_
    refine lv_if_eq (tgt := 177) hx hb zd_law_172 (by decide) (fun _ => ?_) (fun c_ => absurd ((lg_cmp_eq _ _).mpr (((zl_H_line st o).2.2 c_162).2.trans (congrArg Int32.toInt64 ((zq_line hR w0).2.1 ((zl_H_line st o).2.2 c_162).1)))) c_)
    refine lv_goto (tgt := 1002) hx hb zd_law_177 (by decide) ?_
    refine W.widen (k := 21 + t + 1) (n := 2133 + 6 * t + 6) (by omega) (by omega) ?_
    exact kk (((zf_H_line (st, o)).2).1) ((zf_M_line w0 w2 w5).2.1) w1 ((zf_M_line w0 w2 w5).2.2) w3 w4 w5 w6 w7 w8 w9 w10 w11 w12 w13 w14 w15 w16 w17 w18 w19 w20 w21 (((zf_H_line (st, o)).2).2) (by rw [(zl_H_line st o).2.1]; exact (zq_line hR w0).2.2) _ _ hP hD hS _ (lv_sub hl [2, 3, 4, 5, 6] rfl)
set_option maxHeartbeats 4000000 in
set_option maxRecDepth 100000 in
theorem zl_arm_1 {p : Program} {l : Launch} {e : Env} {s : State} {m : MethodId} {below : List Frame} {meth : Method} {c : Code} {A : Nat → Prop} {dC : Nat → ClassId} {dI : Nat → Nat → Nat} {cI cZ cL : ClassId} {a0 a1 a2 a3 a4 a5 a6 a7 a8 a9 a10 a11 a12 a13 a14 a15 a16 a17 a18 a19 a20 b L i t : Nat} {xs : Nat → Int32} (F : zl_F l p s m meth c b L xs A dC dI cI cZ cL) (hi : i + 4 < L) (ht : t ≤ 511) (kk : zl_K p l e s m below meth c A dC dI cI cZ cL a0 a1 a2 a3 a4 a5 a6 a7 a8 a9 a10 a11 a12 a13 a14 a15 a16 a17 a18 a19 a20 b i (21 + t + 1) (2133 + 6 * t + 6) 1002) : zl_K p l e s m below meth c A dC dI cI cZ cL a0 a1 a2 a3 a4 a5 a6 a7 a8 a9 a10 a11 a12 a13 a14 a15 a16 a17 a18 a19 a20 b i (21 + t) (2133 + 6 * t) 180 := by
  obtain ⟨hx, hb, hml, hown, htB, hX, hbl, hbA, hE, hZ, hA, hK, hf0, hL, hAs, hr, hlocks⟩ := id F
  intro st w0 w1 w2 w3 w4 w5 w6 w7 w8 w9 w10 w11 w12 w13 w14 w15 w16 w17 w18 w19 w20 w21 o hR H locs hP hD hS ls hl
  have hm := hR.S.m30
  have hc := hR.C.le
  have hp := hR.P.le
  have hxm : st.2.1.2.2.1 ≤ 30 := by rw [hR.S.made]; exact hm
  have hxc : st.2.2.1.2.2 ≤ 20 := by rw [hR.C.n]; exact hc
  have hxp : st.2.2.2.1.2.2.2 ≤ 20 := by rw [hR.P.n]; exact hp
  refine lv_aload_n hx hb zd_law_180 rfl (lv_at hl 1 rfl) ?_
  refine lv_aload_n hx hb zd_law_181 rfl (lv_at hl 0 rfl) ?_
  refine lv_iload hx hb zd_law_182 (lv_at hl 4 rfl) ?_
  refine lv_iconst (v := 1) hx hb zd_law_184 (by decide) ?_
  refine lv_iadd hx hb zd_law_185 ?_
  rw [nI_1 i]
  refine zl_sld hx hb hX hbl hbA hS (k := i + 1) (by omega) (by omega) zd_law_186 ?_
  refine zz_ci (va_runV (As := [.int (xs (i + 1))]) (rest := []) ⟨hx, hb, hml, hown, htB⟩ (zc_X_remove l dC dI cI cZ cL a0 a1 a2 a3 a4 a5 a6 a7 a8 a9 a10 a11 H.size st (xs (i + 1)) hxp) (cwV 1 htB (zz_gV zk_0d398bf9 zk_9e8672f5 zk_5fd7c625 zk_cfe38e2e zk_b06640dd) rfl rfl rfl ⟨rfl, zh_X_remove⟩ ⟨Nat.le_of_ble_eq_true rfl, Nat.le_of_ble_eq_true rfl⟩) (zz_preV (ci := 0) (q := (zr_X, zF_X, 7)) hP hD hK hE [0, 1, 2, 3, 4, 5, 6, 7, 8, 9, 10, 11] (by decide) rfl rfl rfl) rfl rfl hl.1 rfl (lv_room (Nat.le_of_ble_eq_true rfl)) zd_law_187 ⟨by show _ ≤ (1054 : Nat); omega, by show _ ≤ (10379 : Nat); omega⟩) hP hD hS hA [0, 1, 2, 3, 4, 5, 6, 7, 8, 9, 10, 11] [12, 13, 14, 15, 16, 17, 18, 19, 20] [9, 10, 11, 12, 13, 14, 15, 16, 17, 18, 19, 20, 0, 1, 2, 3, 4, 5, 6, 7, 8] rfl rfl (by decide) (by decide) (by decide) rfl (fun H locs hP hD hS => ?_)
  have hP : va_P (dC, dI) zz_cl (zv_L cI cZ cL a0 a1 a2 a3 a4 a5 a6 a7 a8 a9 a10 a11 a12 a13 a14 a15 a16 a17 a18 a19 a20 ((zf_X_remove st (xs (i + 1))).2) w0 w1 w2 w3 w4 w5 w6 w7 w8 w9 w10 w11 w12 w13 w14 w15 w16 w17 w18 w19 w20 w21 o) H := hP
  have hD : va_D A (zv_L cI cZ cL a0 a1 a2 a3 a4 a5 a6 a7 a8 a9 a10 a11 a12 a13 a14 a15 a16 a17 a18 a19 a20 ((zf_X_remove st (xs (i + 1))).2) w0 w1 w2 w3 w4 w5 w6 w7 w8 w9 w10 w11 w12 w13 w14 w15 w16 w17 w18 w19 w20 w21 o) := hD
  refine lv_aload_n hx hb zd_law_190 rfl (lv_at hl 2 rfl) ?_
  refine lv_aload_n hx hb zd_law_191 rfl (lv_at hl 0 rfl) ?_
  refine lv_iload hx hb zd_law_192 (lv_at hl 4 rfl) ?_
  refine lv_iconst (v := 1) hx hb zd_law_194 (by decide) ?_
  refine lv_iadd hx hb zd_law_195 ?_
  rw [nI_1 i]
  refine zl_sld hx hb hX hbl hbA hS (k := i + 1) (by omega) (by omega) zd_law_196 ?_
  refine zz_ci (va_runV (As := [.int (xs (i + 1))]) (rest := [.int ((zf_X_remove st (xs (i + 1))).1)]) ⟨hx, hb, hml, hown, htB⟩ (zc_M_remove l dC dI cI cZ cL a12 a13 a14 a15 a16 a17 a18 a19 H.size w0 w1 w2 w3 w4 w5 w6 w7 w8 w9 w10 w11 w12 w13 w14 w15 w16 w17 w18 w19 w20 w21 (xs (i + 1)) hm hp) (cwV 1 htB (zz_gV zk_f2002a45 zk_1ef5340a zk_f8c56a04 zk_91cc3b19 zk_963768a7) rfl rfl rfl ⟨rfl, zh_M_remove⟩ ⟨Nat.le_of_ble_eq_true rfl, Nat.le_of_ble_eq_true rfl⟩) (zz_preV (ci := 5) (q := (zr_M, zF_M, 22)) hP hD hK hE [12, 13, 14, 15, 16, 17, 18, 19] (by decide) rfl rfl rfl) rfl rfl hl.1 rfl (lv_room (Nat.le_of_ble_eq_true rfl)) zd_law_197 ⟨by show _ ≤ (1054 : Nat); omega, by show _ ≤ (10379 : Nat); omega⟩) hP hD hS hA [12, 13, 14, 15, 16, 17, 18, 19] [0, 1, 2, 3, 4, 5, 6, 7, 8, 9, 10, 11, 20] [0, 1, 2, 3, 4, 5, 6, 7, 8, 9, 10, 11, 13, 14, 15, 16, 17, 18, 19, 20, 12] rfl rfl (by decide) (by decide) (by decide) rfl (fun H locs hP hD hS => ?_)
  have hP : va_P (dC, dI) zz_cl (zv_L cI cZ cL a0 a1 a2 a3 a4 a5 a6 a7 a8 a9 a10 a11 a12 a13 a14 a15 a16 a17 a18 a19 a20 ((zf_X_remove st (xs (i + 1))).2) ((zf_M_remove w0 w2 w3 w4 w5 w10 w12 w13 (xs (i + 1))).2.1) w1 w2 ((zf_M_remove w0 w2 w3 w4 w5 w10 w12 w13 (xs (i + 1))).2.2.1) ((zf_M_remove w0 w2 w3 w4 w5 w10 w12 w13 (xs (i + 1))).2.2.2.1) w5 w6 w7 w8 w9 w10 w11 ((zf_M_remove w0 w2 w3 w4 w5 w10 w12 w13 (xs (i + 1))).2.2.2.2.1) ((zf_M_remove w0 w2 w3 w4 w5 w10 w12 w13 (xs (i + 1))).2.2.2.2.2) w14 w15 w16 w17 w18 w19 w20 w21 o) H := hP
  have hD : va_D A (zv_L cI cZ cL a0 a1 a2 a3 a4 a5 a6 a7 a8 a9 a10 a11 a12 a13 a14 a15 a16 a17 a18 a19 a20 ((zf_X_remove st (xs (i + 1))).2) ((zf_M_remove w0 w2 w3 w4 w5 w10 w12 w13 (xs (i + 1))).2.1) w1 w2 ((zf_M_remove w0 w2 w3 w4 w5 w10 w12 w13 (xs (i + 1))).2.2.1) ((zf_M_remove w0 w2 w3 w4 w5 w10 w12 w13 (xs (i + 1))).2.2.2.1) w5 w6 w7 w8 w9 w10 w11 ((zf_M_remove w0 w2 w3 w4 w5 w10 w12 w13 (xs (i + 1))).2.2.2.2.1) ((zf_M_remove w0 w2 w3 w4 w5 w10 w12 w13 (xs (i + 1))).2.2.2.2.2) w14 w15 w16 w17 w18 w19 w20 w21 o) := hD
  refine lv_icmp_eq (tgt := 1002) hx hb zd_law_200 (by decide) (fun _ => ?_) (fun c_ => absurd (zq_remove hR w0 (xs (i + 1))).1 c_)
  refine W.widen (k := 21 + t + 1) (n := 2133 + 6 * t + 6) (by omega) (by omega) ?_
  exact kk ((zf_X_remove st (xs (i + 1))).2) ((zf_M_remove w0 w2 w3 w4 w5 w10 w12 w13 (xs (i + 1))).2.1) w1 w2 ((zf_M_remove w0 w2 w3 w4 w5 w10 w12 w13 (xs (i + 1))).2.2.1) ((zf_M_remove w0 w2 w3 w4 w5 w10 w12 w13 (xs (i + 1))).2.2.2.1) w5 w6 w7 w8 w9 w10 w11 ((zf_M_remove w0 w2 w3 w4 w5 w10 w12 w13 (xs (i + 1))).2.2.2.2.1) ((zf_M_remove w0 w2 w3 w4 w5 w10 w12 w13 (xs (i + 1))).2.2.2.2.2) w14 w15 w16 w17 w18 w19 w20 w21 o (zq_remove hR w0 (xs (i + 1))).2 _ _ hP hD hS _ (lv_sub hl [0, 1, 2, 3, 4] rfl)
set_option maxHeartbeats 4000000 in
set_option maxRecDepth 100000 in
theorem zl_arm_2 {p : Program} {l : Launch} {e : Env} {s : State} {m : MethodId} {below : List Frame} {meth : Method} {c : Code} {A : Nat → Prop} {dC : Nat → ClassId} {dI : Nat → Nat → Nat} {cI cZ cL : ClassId} {a0 a1 a2 a3 a4 a5 a6 a7 a8 a9 a10 a11 a12 a13 a14 a15 a16 a17 a18 a19 a20 b L i t : Nat} {xs : Nat → Int32} (F : zl_F l p s m meth c b L xs A dC dI cI cZ cL) (hi : i + 4 < L) (ht : t ≤ 511) (kk : zl_K p l e s m below meth c A dC dI cI cZ cL a0 a1 a2 a3 a4 a5 a6 a7 a8 a9 a10 a11 a12 a13 a14 a15 a16 a17 a18 a19 a20 b i (21 + t + 1) (2133 + 6 * t + 6) 1002) : zl_K p l e s m below meth c A dC dI cI cZ cL a0 a1 a2 a3 a4 a5 a6 a7 a8 a9 a10 a11 a12 a13 a14 a15 a16 a17 a18 a19 a20 b i (21 + t) (2133 + 6 * t) 205 := by
  obtain ⟨hx, hb, hml, hown, htB, hX, hbl, hbA, hE, hZ, hA, hK, hf0, hL, hAs, hr, hlocks⟩ := id F
  intro st w0 w1 w2 w3 w4 w5 w6 w7 w8 w9 w10 w11 w12 w13 w14 w15 w16 w17 w18 w19 w20 w21 o hR H locs hP hD hS ls hl
  have hm := hR.S.m30
  have hc := hR.C.le
  have hp := hR.P.le
  have hxm : st.2.1.2.2.1 ≤ 30 := by rw [hR.S.made]; exact hm
  have hxc : st.2.2.1.2.2 ≤ 20 := by rw [hR.C.n]; exact hc
  have hxp : st.2.2.2.1.2.2.2 ≤ 20 := by rw [hR.P.n]; exact hp
  refine lv_aload_n hx hb zd_law_205 rfl (lv_at hl 1 rfl) ?_
  refine lv_aload_n hx hb zd_law_206 rfl (lv_at hl 0 rfl) ?_
  refine lv_iload hx hb zd_law_207 (lv_at hl 4 rfl) ?_
  refine lv_iconst (v := 1) hx hb zd_law_209 (by decide) ?_
  refine lv_iadd hx hb zd_law_210 ?_
  rw [nI_1 i]
  refine zl_sld hx hb hX hbl hbA hS (k := i + 1) (by omega) (by omega) zd_law_211 ?_
  refine lv_aload_n hx hb zd_law_212 rfl (lv_at hl 0 rfl) ?_
  refine lv_iload hx hb zd_law_213 (lv_at hl 4 rfl) ?_
  refine lv_iconst (v := 2) hx hb zd_law_215 (by decide) ?_
  refine lv_iadd hx hb zd_law_216 ?_
  rw [show nI i + 2 = nI (i + 2) from nI_add i 2]
  refine zl_sld hx hb hX hbl hbA hS (k := i + 2) (by omega) (by omega) zd_law_217 ?_
  refine lv_aload_n hx hb zd_law_218 rfl (lv_at hl 0 rfl) ?_
  refine lv_iload hx hb zd_law_219 (lv_at hl 4 rfl) ?_
  refine lv_iconst (v := 3) hx hb zd_law_221 (by decide) ?_
  refine lv_iadd hx hb zd_law_222 ?_
  rw [show nI i + 3 = nI (i + 3) from nI_add i 3]
  refine zl_sld hx hb hX hbl hbA hS (k := i + 3) (by omega) (by omega) zd_law_223 ?_
  refine lv_i2l hx hb zd_law_224 rfl ?_
  refine lv_bipush (v := 32) hx hb zd_law_225 (by decide) ?_
  refine lv_lshl hx hb zd_law_227 rfl ?_
  refine lv_aload_n hx hb zd_law_228 rfl (lv_at hl 0 rfl) ?_
  refine lv_iload hx hb zd_law_229 (lv_at hl 4 rfl) ?_
  refine lv_iconst (v := 4) hx hb zd_law_231 (by decide) ?_
  refine lv_iadd hx hb zd_law_232 ?_
  rw [show nI i + 4 = nI (i + 4) from nI_add i 4]
  refine zl_sld hx hb hX hbl hbA hS (k := i + 4) (by omega) (by omega) zd_law_233 ?_
  refine lv_i2l hx hb zd_law_234 rfl ?_
  refine lv_ldc2 (v := 4294967295) hx hb hown (htB _ zk_f7ae233a) zd_law_235 ?_
  refine lv_land hx hb zd_law_238 ?_
  refine lv_lor hx hb zd_law_239 ?_
  refine lv_aload_n hx hb zd_law_240 rfl (lv_at hl 3 rfl) ?_
  refine zz_ci (zh_runS (As := [.ref a0, .int (xs (i + 1)), .int (xs (i + 2)), .long ((((xs (i + 3)).toInt64) <<< ((32 : Int32).toInt64 &&& 63)) ||| (((xs (i + 4)).toInt64) &&& 4294967295)), .ref a20]) (rest := []) ⟨hx, hb, hml, hown, htB⟩ (zc_H_field l dC dI cI cZ cL a0 a1 a2 a3 a4 a5 a6 a7 a8 a9 a10 a11 a20 H.size (st, o) (xs (i + 1)) (xs (i + 2)) ((((xs (i + 3)).toInt64) <<< ((32 : Int32).toInt64 &&& 63)) ||| (((xs (i + 4)).toInt64) &&& 4294967295))  hf0) (zh_g zk_940434a7 zk_60b94bbd zk_47055d91 zk_ea52f7ff) rfl rfl rfl zh_H_field ⟨Nat.le_of_ble_eq_true rfl, Nat.le_of_ble_eq_true rfl⟩ (zh_preS hP hD hK hE hZ hS hA [0, 1, 2, 3, 4, 5, 6, 7, 8, 9, 10, 11, 20] (by decide) rfl) rfl rfl hl.1 rfl (lv_room (Nat.le_of_ble_eq_true rfl)) zd_law_241 ⟨by show _ ≤ (1054 : Nat); omega, by show _ ≤ (10379 : Nat); omega⟩) hP hD hS hA [0, 1, 2, 3, 4, 5, 6, 7, 8, 9, 10, 11, 20] [12, 13, 14, 15, 16, 17, 18, 19] [8, 9, 10, 11, 12, 13, 14, 15, 16, 17, 18, 19, 0, 1, 2, 3, 4, 5, 6, 7, 20] rfl rfl (by decide) (by decide) (by decide) rfl (fun H locs hP hD hS => ?_)
  have hP : va_P (dC, dI) zz_cl (zv_L cI cZ cL a0 a1 a2 a3 a4 a5 a6 a7 a8 a9 a10 a11 a12 a13 a14 a15 a16 a17 a18 a19 a20 (((zf_H_field (st, o) (xs (i + 1)) (xs (i + 2)) ((((xs (i + 3)).toInt64) <<< ((32 : Int32).toInt64 &&& 63)) ||| (((xs (i + 4)).toInt64) &&& 4294967295))).2).1) w0 w1 w2 w3 w4 w5 w6 w7 w8 w9 w10 w11 w12 w13 w14 w15 w16 w17 w18 w19 w20 w21 (((zf_H_field (st, o) (xs (i + 1)) (xs (i + 2)) ((((xs (i + 3)).toInt64) <<< ((32 : Int32).toInt64 &&& 63)) ||| (((xs (i + 4)).toInt64) &&& 4294967295))).2).2)) H := hP
  have hD : va_D A (zv_L cI cZ cL a0 a1 a2 a3 a4 a5 a6 a7 a8 a9 a10 a11 a12 a13 a14 a15 a16 a17 a18 a19 a20 (((zf_H_field (st, o) (xs (i + 1)) (xs (i + 2)) ((((xs (i + 3)).toInt64) <<< ((32 : Int32).toInt64 &&& 63)) ||| (((xs (i + 4)).toInt64) &&& 4294967295))).2).1) w0 w1 w2 w3 w4 w5 w6 w7 w8 w9 w10 w11 w12 w13 w14 w15 w16 w17 w18 w19 w20 w21 (((zf_H_field (st, o) (xs (i + 1)) (xs (i + 2)) ((((xs (i + 3)).toInt64) <<< ((32 : Int32).toInt64 &&& 63)) ||| (((xs (i + 4)).toInt64) &&& 4294967295))).2).2)) := hD
  refine lv_istore (lv' := [(5, .int ((zf_H_field (st, o) (xs (i + 1)) (xs (i + 2)) ((((xs (i + 3)).toInt64) <<< ((32 : Int32).toInt64 &&& 63)) ||| (((xs (i + 4)).toInt64) &&& 4294967295))).1)), (0, .ref b), (1, .ref a0), (2, .ref a12), (3, .ref a20), (4, .int (nI i))]) hx hb zd_law_244 hl (by decide) rfl (fun ls hl => ?_)
  refine lv_aload_n hx hb zd_law_246 rfl (lv_at hl 3 rfl) ?_
  refine lv_aload_n hx hb zd_law_247 rfl (lv_at hl 1 rfl) ?_
  refine lv_iload hx hb zd_law_248 (lv_at hl 5 rfl) ?_
  refine lv_iconst (v := 1) hx hb zd_law_250 (by decide) ?_
  refine lv_iadd hx hb zd_law_251 ?_
  rw [nI_1 i]
  refine zl_sld hx hb hX hbl hbA hS (k := i + 1) (by omega) (by omega) zd_law_252 ?_
  refine lv_aload_n hx hb zd_law_253 rfl (lv_at hl 1 rfl) ?_
  refine lv_iload hx hb zd_law_254 (lv_at hl 5 rfl) ?_
  refine lv_iconst (v := 2) hx hb zd_law_256 (by decide) ?_
  refine lv_iadd hx hb zd_law_257 ?_
  rw [show nI i + 2 = nI (i + 2) from nI_add i 2]
  refine zl_sld hx hb hX hbl hbA hS (k := i + 2) (by omega) (by omega) zd_law_258 ?_
  refine lv_aload_n hx hb zd_law_259 rfl (lv_at hl 1 rfl) ?_
  refine lv_iload hx hb zd_law_260 (lv_at hl 5 rfl) ?_
  refine lv_iconst (v := 3) hx hb zd_law_262 (by decide) ?_
  refine lv_iadd hx hb zd_law_263 ?_
  rw [show nI i + 3 = nI (i + 3) from nI_add i 3]
  refine zl_sld hx hb hX hbl hbA hS (k := i + 3) (by omega) (by omega) zd_law_264 ?_
  refine lv_i2l hx hb zd_law_265 rfl ?_
  refine lv_bipush (v := 32) hx hb zd_law_266 (by decide) ?_
  refine lv_lshl hx hb zd_law_268 rfl ?_
  refine lv_aload_n hx hb zd_law_269 rfl (lv_at hl 1 rfl) ?_
  refine lv_iload hx hb zd_law_270 (lv_at hl 5 rfl) ?_
  refine lv_iconst (v := 4) hx hb zd_law_272 (by decide) ?_
  refine lv_iadd hx hb zd_law_273 ?_
  rw [show nI i + 4 = nI (i + 4) from nI_add i 4]
  refine zl_sld hx hb hX hbl hbA hS (k := i + 4) (by omega) (by omega) zd_law_274 ?_
  refine lv_i2l hx hb zd_law_275 rfl ?_
  refine lv_ldc2 (v := 4294967295) hx hb hown (htB _ zk_f7ae233a) zd_law_276 ?_
  refine lv_land hx hb zd_law_279 ?_
  refine lv_lor hx hb zd_law_280 ?_
  refine zz_ci (va_runV (As := [.int (xs (i + 1)), .int (xs (i + 2)), .long ((((xs (i + 3)).toInt64) <<< ((32 : Int32).toInt64 &&& 63)) ||| (((xs (i + 4)).toInt64) &&& 4294967295))]) (rest := []) ⟨hx, hb, hml, hown, htB⟩ (zc_M_field l dC dI cI cZ cL a12 a13 a14 a15 a16 a17 a18 a19 H.size w0 w1 w2 w3 w4 w5 w6 w7 w8 w9 w10 w11 w12 w13 w14 w15 w16 w17 w18 w19 w20 w21 (xs (i + 1)) (xs (i + 2)) ((((xs (i + 3)).toInt64) <<< ((32 : Int32).toInt64 &&& 63)) ||| (((xs (i + 4)).toInt64) &&& 4294967295)) hm) (cwV 3 htB (zz_gV zk_053a1a0b zk_ee5f5e8f zk_8a3e6b07 zk_91cc3b19 zk_a01bc32c) rfl rfl rfl ⟨rfl, zh_M_field⟩ ⟨Nat.le_of_ble_eq_true rfl, Nat.le_of_ble_eq_true rfl⟩) (zz_preV (ci := 5) (q := (zr_M, zF_M, 22)) hP hD hK hE [12, 13, 14, 15, 16, 17, 18, 19] (by decide) rfl rfl rfl) rfl rfl hl.1 rfl (lv_room (Nat.le_of_ble_eq_true rfl)) zd_law_281 ⟨by show _ ≤ (1054 : Nat); omega, by show _ ≤ (10379 : Nat); omega⟩) hP hD hS hA [12, 13, 14, 15, 16, 17, 18, 19] [0, 1, 2, 3, 4, 5, 6, 7, 8, 9, 10, 11, 20] [0, 1, 2, 3, 4, 5, 6, 7, 8, 9, 10, 11, 13, 14, 15, 16, 17, 18, 19, 20, 12] rfl rfl (by decide) (by decide) (by decide) rfl (fun H locs hP hD hS => ?_)
  have hP : va_P (dC, dI) zz_cl (zv_L cI cZ cL a0 a1 a2 a3 a4 a5 a6 a7 a8 a9 a10 a11 a12 a13 a14 a15 a16 a17 a18 a19 a20 (((zf_H_field (st, o) (xs (i + 1)) (xs (i + 2)) ((((xs (i + 3)).toInt64) <<< ((32 : Int32).toInt64 &&& 63)) ||| (((xs (i + 4)).toInt64) &&& 4294967295))).2).1) ((zf_M_field w0 w1 w2 w3 w4 w5 (xs (i + 1)) (xs (i + 2)) ((((xs (i + 3)).toInt64) <<< ((32 : Int32).toInt64 &&& 63)) ||| (((xs (i + 4)).toInt64) &&& 4294967295))).2.1) w1 w2 w3 ((zf_M_field w0 w1 w2 w3 w4 w5 (xs (i + 1)) (xs (i + 2)) ((((xs (i + 3)).toInt64) <<< ((32 : Int32).toInt64 &&& 63)) ||| (((xs (i + 4)).toInt64) &&& 4294967295))).2.2) w5 w6 w7 w8 w9 w10 w11 w12 w13 w14 w15 w16 w17 w18 w19 w20 w21 (((zf_H_field (st, o) (xs (i + 1)) (xs (i + 2)) ((((xs (i + 3)).toInt64) <<< ((32 : Int32).toInt64 &&& 63)) ||| (((xs (i + 4)).toInt64) &&& 4294967295))).2).2)) H := hP
  have hD : va_D A (zv_L cI cZ cL a0 a1 a2 a3 a4 a5 a6 a7 a8 a9 a10 a11 a12 a13 a14 a15 a16 a17 a18 a19 a20 (((zf_H_field (st, o) (xs (i + 1)) (xs (i + 2)) ((((xs (i + 3)).toInt64) <<< ((32 : Int32).toInt64 &&& 63)) ||| (((xs (i + 4)).toInt64) &&& 4294967295))).2).1) ((zf_M_field w0 w1 w2 w3 w4 w5 (xs (i + 1)) (xs (i + 2)) ((((xs (i + 3)).toInt64) <<< ((32 : Int32).toInt64 &&& 63)) ||| (((xs (i + 4)).toInt64) &&& 4294967295))).2.1) w1 w2 w3 ((zf_M_field w0 w1 w2 w3 w4 w5 (xs (i + 1)) (xs (i + 2)) ((((xs (i + 3)).toInt64) <<< ((32 : Int32).toInt64 &&& 63)) ||| (((xs (i + 4)).toInt64) &&& 4294967295))).2.2) w5 w6 w7 w8 w9 w10 w11 w12 w13 w14 w15 w16 w17 w18 w19 w20 w21 (((zf_H_field (st, o) (xs (i + 1)) (xs (i + 2)) ((((xs (i + 3)).toInt64) <<< ((32 : Int32).toInt64 &&& 63)) ||| (((xs (i + 4)).toInt64) &&& 4294967295))).2).2)) := hD
  refine lv_istore (lv' := [(6, .int ((zf_M_field w0 w1 w2 w3 w4 w5 (xs (i + 1)) (xs (i + 2)) ((((xs (i + 3)).toInt64) <<< ((32 : Int32).toInt64 &&& 63)) ||| (((xs (i + 4)).toInt64) &&& 4294967295))).1)), (5, .int ((zf_H_field (st, o) (xs (i + 1)) (xs (i + 2)) ((((xs (i + 3)).toInt64) <<< ((32 : Int32).toInt64 &&& 63)) ||| (((xs (i + 4)).toInt64) &&& 4294967295))).1)), (0, .ref b), (1, .ref a0), (2, .ref a12), (3, .ref a20), (4, .int (nI i))]) hx hb zd_law_284 hl (by decide) rfl (fun ls hl => ?_)
  refine lv_aload_n hx hb zd_law_286 rfl (lv_at hl 4 rfl) ?_
  refine zz_ki (va_runV (As := []) (rest := []) ⟨hx, hb, hml, hown, htB⟩ (zc_M_thrown l dC dI cI cZ cL a12 a13 a14 a15 a16 a17 a18 a19 H.size ((zf_M_field w0 w1 w2 w3 w4 w5 (xs (i + 1)) (xs (i + 2)) ((((xs (i + 3)).toInt64) <<< ((32 : Int32).toInt64 &&& 63)) ||| (((xs (i + 4)).toInt64) &&& 4294967295))).2.1) w1 w2 w3 ((zf_M_field w0 w1 w2 w3 w4 w5 (xs (i + 1)) (xs (i + 2)) ((((xs (i + 3)).toInt64) <<< ((32 : Int32).toInt64 &&& 63)) ||| (((xs (i + 4)).toInt64) &&& 4294967295))).2.2) w5 w6 w7 w8 w9 w10 w11 w12 w13 w14 w15 w16 w17 w18 w19 w20 w21  ) (cwV 0 htB (zz_gV zk_8e32f3ef zk_7bff8b59 zk_098c063e zk_91cc3b19 zk_b51a64f9) rfl rfl rfl ⟨rfl, zh_M_thrown⟩ ⟨Nat.le_of_ble_eq_true rfl, Nat.le_of_ble_eq_true rfl⟩) (zz_preV (ci := 5) (q := (zr_M, zF_M, 22)) hP hD hK hE [12, 13, 14, 15, 16, 17, 18, 19] (by decide) rfl rfl rfl) rfl rfl hl.1 rfl (lv_room (Nat.le_of_ble_eq_true rfl)) zd_law_287 ⟨by show _ ≤ (1054 : Nat); omega, by show _ ≤ (10379 : Nat); omega⟩) ?_
  refine lv_iload hx hb zd_law_290 (lv_at hl 1 rfl) ?_
  refine lv_icmp_eq (tgt := 297) hx hb zd_law_292 (by decide) (fun _ => ?_) (fun c_ => absurd ((zq_field hR w0 (xs (i + 1)) (xs (i + 2)) ((((xs (i + 3)).toInt64) <<< ((32 : Int32).toInt64 &&& 63)) ||| (((xs (i + 4)).toInt64) &&& 4294967295))).1.symm.trans (zl_H_field st o (xs (i + 1)) (xs (i + 2)) ((((xs (i + 3)).toInt64) <<< ((32 : Int32).toInt64 &&& 63)) ||| (((xs (i + 4)).toInt64) &&& 4294967295))).1.symm) c_)
  refine lv_iload hx hb zd_law_297 (lv_at hl 1 rfl) ?_
  refine lv_if_ne (tgt := 314) hx hb zd_law_299 (by decide) (fun c_299 => ?_) (fun c_299 => ?_)
  · refine lv_goto (tgt := 1002) hx hb zd_law_314 (by decide) ?_
    refine W.widen (k := 21 + t + 1) (n := 2133 + 6 * t + 6) (by omega) (by omega) ?_
    exact kk (((zf_H_field (st, o) (xs (i + 1)) (xs (i + 2)) ((((xs (i + 3)).toInt64) <<< ((32 : Int32).toInt64 &&& 63)) ||| (((xs (i + 4)).toInt64) &&& 4294967295))).2).1) ((zf_M_field w0 w1 w2 w3 w4 w5 (xs (i + 1)) (xs (i + 2)) ((((xs (i + 3)).toInt64) <<< ((32 : Int32).toInt64 &&& 63)) ||| (((xs (i + 4)).toInt64) &&& 4294967295))).2.1) w1 w2 w3 ((zf_M_field w0 w1 w2 w3 w4 w5 (xs (i + 1)) (xs (i + 2)) ((((xs (i + 3)).toInt64) <<< ((32 : Int32).toInt64 &&& 63)) ||| (((xs (i + 4)).toInt64) &&& 4294967295))).2.2) w5 w6 w7 w8 w9 w10 w11 w12 w13 w14 w15 w16 w17 w18 w19 w20 w21 (((zf_H_field (st, o) (xs (i + 1)) (xs (i + 2)) ((((xs (i + 3)).toInt64) <<< ((32 : Int32).toInt64 &&& 63)) ||| (((xs (i + 4)).toInt64) &&& 4294967295))).2).2) (by rw [(zl_H_field st o (xs (i + 1)) (xs (i + 2)) ((((xs (i + 3)).toInt64) <<< ((32 : Int32).toInt64 &&& 63)) ||| (((xs (i + 4)).toInt64) &&& 4294967295))).2.1]; exact (zq_field hR w0 (xs (i + 1)) (xs (i + 2)) ((((xs (i + 3)).toInt64) <<< ((32 : Int32).toInt64 &&& 63)) ||| (((xs (i + 4)).toInt64) &&& 4294967295))).2.2) _ _ hP hD hS _ (lv_sub hl [2, 3, 4, 5, 6] rfl)
  · refine lv_aload_n hx hb zd_law_302 rfl (lv_at hl 5 rfl) ?_
    refine lv_iconst (v := 0) hx hb zd_law_303 (by decide) ?_
    refine va_lald hx hb hK hP 20 2 rfl rfl zh_in0 zd_law_304 ?_
    refine lv_iload hx hb zd_law_305 (lv_at hl 0 rfl) ?_
    refine lv_i2l hx hb zd_law_307 rfl ?_
    refine W.lcmp hx hb zd_law_308 ?_
    refine lv_if_eq (tgt := 314) hx hb zd_law_309 (by decide) (fun _ => ?_) (fun c_ => absurd ((lg_cmp_eq _ _).mpr (((zl_H_field st o (xs (i + 1)) (xs (i + 2)) ((((xs (i + 3)).toInt64) <<< ((32 : Int32).toInt64 &&& 63)) ||| (((xs (i + 4)).toInt64) &&& 4294967295))).2.2 c_299).2.trans (congrArg Int32.toInt64 ((zq_field hR w0 (xs (i + 1)) (xs (i + 2)) ((((xs (i + 3)).toInt64) <<< ((32 : Int32).toInt64 &&& 63)) ||| (((xs (i + 4)).toInt64) &&& 4294967295))).2.1 ((zl_H_field st o (xs (i + 1)) (xs (i + 2)) ((((xs (i + 3)).toInt64) <<< ((32 : Int32).toInt64 &&& 63)) ||| (((xs (i + 4)).toInt64) &&& 4294967295))).2.2 c_299).1)))) c_)
    refine lv_goto (tgt := 1002) hx hb zd_law_314 (by decide) ?_
    refine W.widen (k := 21 + t + 1) (n := 2133 + 6 * t + 6) (by omega) (by omega) ?_
    exact kk (((zf_H_field (st, o) (xs (i + 1)) (xs (i + 2)) ((((xs (i + 3)).toInt64) <<< ((32 : Int32).toInt64 &&& 63)) ||| (((xs (i + 4)).toInt64) &&& 4294967295))).2).1) ((zf_M_field w0 w1 w2 w3 w4 w5 (xs (i + 1)) (xs (i + 2)) ((((xs (i + 3)).toInt64) <<< ((32 : Int32).toInt64 &&& 63)) ||| (((xs (i + 4)).toInt64) &&& 4294967295))).2.1) w1 w2 w3 ((zf_M_field w0 w1 w2 w3 w4 w5 (xs (i + 1)) (xs (i + 2)) ((((xs (i + 3)).toInt64) <<< ((32 : Int32).toInt64 &&& 63)) ||| (((xs (i + 4)).toInt64) &&& 4294967295))).2.2) w5 w6 w7 w8 w9 w10 w11 w12 w13 w14 w15 w16 w17 w18 w19 w20 w21 (((zf_H_field (st, o) (xs (i + 1)) (xs (i + 2)) ((((xs (i + 3)).toInt64) <<< ((32 : Int32).toInt64 &&& 63)) ||| (((xs (i + 4)).toInt64) &&& 4294967295))).2).2) (by rw [(zl_H_field st o (xs (i + 1)) (xs (i + 2)) ((((xs (i + 3)).toInt64) <<< ((32 : Int32).toInt64 &&& 63)) ||| (((xs (i + 4)).toInt64) &&& 4294967295))).2.1]; exact (zq_field hR w0 (xs (i + 1)) (xs (i + 2)) ((((xs (i + 3)).toInt64) <<< ((32 : Int32).toInt64 &&& 63)) ||| (((xs (i + 4)).toInt64) &&& 4294967295))).2.2) _ _ hP hD hS _ (lv_sub hl [2, 3, 4, 5, 6] rfl)
set_option maxHeartbeats 4000000 in
set_option maxRecDepth 100000 in
theorem zl_arm_3 {p : Program} {l : Launch} {e : Env} {s : State} {m : MethodId} {below : List Frame} {meth : Method} {c : Code} {A : Nat → Prop} {dC : Nat → ClassId} {dI : Nat → Nat → Nat} {cI cZ cL : ClassId} {a0 a1 a2 a3 a4 a5 a6 a7 a8 a9 a10 a11 a12 a13 a14 a15 a16 a17 a18 a19 a20 b L i t : Nat} {xs : Nat → Int32} (F : zl_F l p s m meth c b L xs A dC dI cI cZ cL) (hi : i + 4 < L) (ht : t ≤ 511) (kk : zl_K p l e s m below meth c A dC dI cI cZ cL a0 a1 a2 a3 a4 a5 a6 a7 a8 a9 a10 a11 a12 a13 a14 a15 a16 a17 a18 a19 a20 b i (21 + t + 1) (2133 + 6 * t + 6) 1002) : zl_K p l e s m below meth c A dC dI cI cZ cL a0 a1 a2 a3 a4 a5 a6 a7 a8 a9 a10 a11 a12 a13 a14 a15 a16 a17 a18 a19 a20 b i (21 + t) (2133 + 6 * t) 317 := by
  obtain ⟨hx, hb, hml, hown, htB, hX, hbl, hbA, hE, hZ, hA, hK, hf0, hL, hAs, hr, hlocks⟩ := id F
  intro st w0 w1 w2 w3 w4 w5 w6 w7 w8 w9 w10 w11 w12 w13 w14 w15 w16 w17 w18 w19 w20 w21 o hR H locs hP hD hS ls hl
  have hm := hR.S.m30
  have hc := hR.C.le
  have hp := hR.P.le
  have hxm : st.2.1.2.2.1 ≤ 30 := by rw [hR.S.made]; exact hm
  have hxc : st.2.2.1.2.2 ≤ 20 := by rw [hR.C.n]; exact hc
  have hxp : st.2.2.2.1.2.2.2 ≤ 20 := by rw [hR.P.n]; exact hp
  refine lv_aload_n hx hb zd_law_317 rfl (lv_at hl 1 rfl) ?_
  refine lv_aload_n hx hb zd_law_318 rfl (lv_at hl 0 rfl) ?_
  refine lv_iload hx hb zd_law_319 (lv_at hl 4 rfl) ?_
  refine lv_iconst (v := 1) hx hb zd_law_321 (by decide) ?_
  refine lv_iadd hx hb zd_law_322 ?_
  rw [nI_1 i]
  refine zl_sld hx hb hX hbl hbA hS (k := i + 1) (by omega) (by omega) zd_law_323 ?_
  refine lv_aload_n hx hb zd_law_324 rfl (lv_at hl 0 rfl) ?_
  refine lv_iload hx hb zd_law_325 (lv_at hl 4 rfl) ?_
  refine lv_iconst (v := 2) hx hb zd_law_327 (by decide) ?_
  refine lv_iadd hx hb zd_law_328 ?_
  rw [show nI i + 2 = nI (i + 2) from nI_add i 2]
  refine zl_sld hx hb hX hbl hbA hS (k := i + 2) (by omega) (by omega) zd_law_329 ?_
  refine zz_ci (va_runV (As := [.int (xs (i + 1)), .int (xs (i + 2))]) (rest := []) ⟨hx, hb, hml, hown, htB⟩ (zc_X_clear l dC dI cI cZ cL a0 a1 a2 a3 a4 a5 a6 a7 a8 a9 a10 a11 H.size st (xs (i + 1)) (xs (i + 2)) ) (cwV 2 htB (zz_gV zk_f77ec794 zk_fe40a642 zk_dc8e959a zk_cfe38e2e zk_a8a6e650) rfl rfl rfl ⟨rfl, zh_X_clear⟩ ⟨Nat.le_of_ble_eq_true rfl, Nat.le_of_ble_eq_true rfl⟩) (zz_preV (ci := 0) (q := (zr_X, zF_X, 7)) hP hD hK hE [0, 1, 2, 3, 4, 5, 6, 7, 8, 9, 10, 11] (by decide) rfl rfl rfl) rfl rfl hl.1 rfl (lv_room (Nat.le_of_ble_eq_true rfl)) zd_law_330 ⟨by show _ ≤ (1054 : Nat); omega, by show _ ≤ (10379 : Nat); omega⟩) hP hD hS hA [0, 1, 2, 3, 4, 5, 6, 7, 8, 9, 10, 11] [12, 13, 14, 15, 16, 17, 18, 19, 20] [9, 10, 11, 12, 13, 14, 15, 16, 17, 18, 19, 20, 0, 1, 2, 3, 4, 5, 6, 7, 8] rfl rfl (by decide) (by decide) (by decide) rfl (fun H locs hP hD hS => ?_)
  have hP : va_P (dC, dI) zz_cl (zv_L cI cZ cL a0 a1 a2 a3 a4 a5 a6 a7 a8 a9 a10 a11 a12 a13 a14 a15 a16 a17 a18 a19 a20 ((zf_X_clear st (xs (i + 1)) (xs (i + 2))).2) w0 w1 w2 w3 w4 w5 w6 w7 w8 w9 w10 w11 w12 w13 w14 w15 w16 w17 w18 w19 w20 w21 o) H := hP
  have hD : va_D A (zv_L cI cZ cL a0 a1 a2 a3 a4 a5 a6 a7 a8 a9 a10 a11 a12 a13 a14 a15 a16 a17 a18 a19 a20 ((zf_X_clear st (xs (i + 1)) (xs (i + 2))).2) w0 w1 w2 w3 w4 w5 w6 w7 w8 w9 w10 w11 w12 w13 w14 w15 w16 w17 w18 w19 w20 w21 o) := hD
  refine lv_aload_n hx hb zd_law_333 rfl (lv_at hl 2 rfl) ?_
  refine lv_aload_n hx hb zd_law_334 rfl (lv_at hl 0 rfl) ?_
  refine lv_iload hx hb zd_law_335 (lv_at hl 4 rfl) ?_
  refine lv_iconst (v := 1) hx hb zd_law_337 (by decide) ?_
  refine lv_iadd hx hb zd_law_338 ?_
  rw [nI_1 i]
  refine zl_sld hx hb hX hbl hbA hS (k := i + 1) (by omega) (by omega) zd_law_339 ?_
  refine lv_aload_n hx hb zd_law_340 rfl (lv_at hl 0 rfl) ?_
  refine lv_iload hx hb zd_law_341 (lv_at hl 4 rfl) ?_
  refine lv_iconst (v := 2) hx hb zd_law_343 (by decide) ?_
  refine lv_iadd hx hb zd_law_344 ?_
  rw [show nI i + 2 = nI (i + 2) from nI_add i 2]
  refine zl_sld hx hb hX hbl hbA hS (k := i + 2) (by omega) (by omega) zd_law_345 ?_
  refine zz_ci (va_runV (As := [.int (xs (i + 1)), .int (xs (i + 2))]) (rest := [.int ((zf_X_clear st (xs (i + 1)) (xs (i + 2))).1)]) ⟨hx, hb, hml, hown, htB⟩ (zc_M_clear l dC dI cI cZ cL a12 a13 a14 a15 a16 a17 a18 a19 H.size w0 w1 w2 w3 w4 w5 w6 w7 w8 w9 w10 w11 w12 w13 w14 w15 w16 w17 w18 w19 w20 w21 (xs (i + 1)) (xs (i + 2)) hm) (cwV 2 htB (zz_gV zk_1011f2c3 zk_016ba175 zk_bbbaffe4 zk_91cc3b19 zk_50374150) rfl rfl rfl ⟨rfl, zh_M_clear⟩ ⟨Nat.le_of_ble_eq_true rfl, Nat.le_of_ble_eq_true rfl⟩) (zz_preV (ci := 5) (q := (zr_M, zF_M, 22)) hP hD hK hE [12, 13, 14, 15, 16, 17, 18, 19] (by decide) rfl rfl rfl) rfl rfl hl.1 rfl (lv_room (Nat.le_of_ble_eq_true rfl)) zd_law_346 ⟨by show _ ≤ (1054 : Nat); omega, by show _ ≤ (10379 : Nat); omega⟩) hP hD hS hA [12, 13, 14, 15, 16, 17, 18, 19] [0, 1, 2, 3, 4, 5, 6, 7, 8, 9, 10, 11, 20] [0, 1, 2, 3, 4, 5, 6, 7, 8, 9, 10, 11, 13, 14, 15, 16, 17, 18, 19, 20, 12] rfl rfl (by decide) (by decide) (by decide) rfl (fun H locs hP hD hS => ?_)
  have hP : va_P (dC, dI) zz_cl (zv_L cI cZ cL a0 a1 a2 a3 a4 a5 a6 a7 a8 a9 a10 a11 a12 a13 a14 a15 a16 a17 a18 a19 a20 ((zf_X_clear st (xs (i + 1)) (xs (i + 2))).2) ((zf_M_clear w0 w2 w3 w4 w5 (xs (i + 1)) (xs (i + 2))).2.1) w1 w2 w3 ((zf_M_clear w0 w2 w3 w4 w5 (xs (i + 1)) (xs (i + 2))).2.2) w5 w6 w7 w8 w9 w10 w11 w12 w13 w14 w15 w16 w17 w18 w19 w20 w21 o) H := hP
  have hD : va_D A (zv_L cI cZ cL a0 a1 a2 a3 a4 a5 a6 a7 a8 a9 a10 a11 a12 a13 a14 a15 a16 a17 a18 a19 a20 ((zf_X_clear st (xs (i + 1)) (xs (i + 2))).2) ((zf_M_clear w0 w2 w3 w4 w5 (xs (i + 1)) (xs (i + 2))).2.1) w1 w2 w3 ((zf_M_clear w0 w2 w3 w4 w5 (xs (i + 1)) (xs (i + 2))).2.2) w5 w6 w7 w8 w9 w10 w11 w12 w13 w14 w15 w16 w17 w18 w19 w20 w21 o) := hD
  refine lv_icmp_eq (tgt := 1002) hx hb zd_law_349 (by decide) (fun _ => ?_) (fun c_ => absurd (zq_clear hR w0 (xs (i + 1)) (xs (i + 2))).1 c_)
  refine W.widen (k := 21 + t + 1) (n := 2133 + 6 * t + 6) (by omega) (by omega) ?_
  exact kk ((zf_X_clear st (xs (i + 1)) (xs (i + 2))).2) ((zf_M_clear w0 w2 w3 w4 w5 (xs (i + 1)) (xs (i + 2))).2.1) w1 w2 w3 ((zf_M_clear w0 w2 w3 w4 w5 (xs (i + 1)) (xs (i + 2))).2.2) w5 w6 w7 w8 w9 w10 w11 w12 w13 w14 w15 w16 w17 w18 w19 w20 w21 o (zq_clear hR w0 (xs (i + 1)) (xs (i + 2))).2 _ _ hP hD hS _ (lv_sub hl [0, 1, 2, 3, 4] rfl)
set_option maxHeartbeats 4000000 in
set_option maxRecDepth 100000 in
theorem zl_arm_4 {p : Program} {l : Launch} {e : Env} {s : State} {m : MethodId} {below : List Frame} {meth : Method} {c : Code} {A : Nat → Prop} {dC : Nat → ClassId} {dI : Nat → Nat → Nat} {cI cZ cL : ClassId} {a0 a1 a2 a3 a4 a5 a6 a7 a8 a9 a10 a11 a12 a13 a14 a15 a16 a17 a18 a19 a20 b L i t : Nat} {xs : Nat → Int32} (F : zl_F l p s m meth c b L xs A dC dI cI cZ cL) (hi : i + 4 < L) (ht : t ≤ 511) (kk : zl_K p l e s m below meth c A dC dI cI cZ cL a0 a1 a2 a3 a4 a5 a6 a7 a8 a9 a10 a11 a12 a13 a14 a15 a16 a17 a18 a19 a20 b i (21 + t + 1) (2133 + 6 * t + 6) 1002) : zl_K p l e s m below meth c A dC dI cI cZ cL a0 a1 a2 a3 a4 a5 a6 a7 a8 a9 a10 a11 a12 a13 a14 a15 a16 a17 a18 a19 a20 b i (21 + t) (2133 + 6 * t) 354 := by
  obtain ⟨hx, hb, hml, hown, htB, hX, hbl, hbA, hE, hZ, hA, hK, hf0, hL, hAs, hr, hlocks⟩ := id F
  intro st w0 w1 w2 w3 w4 w5 w6 w7 w8 w9 w10 w11 w12 w13 w14 w15 w16 w17 w18 w19 w20 w21 o hR H locs hP hD hS ls hl
  have hm := hR.S.m30
  have hc := hR.C.le
  have hp := hR.P.le
  have hxm : st.2.1.2.2.1 ≤ 30 := by rw [hR.S.made]; exact hm
  have hxc : st.2.2.1.2.2 ≤ 20 := by rw [hR.C.n]; exact hc
  have hxp : st.2.2.2.1.2.2.2 ≤ 20 := by rw [hR.P.n]; exact hp
  refine lv_aload_n hx hb zd_law_354 rfl (lv_at hl 1 rfl) ?_
  refine lv_aload_n hx hb zd_law_355 rfl (lv_at hl 0 rfl) ?_
  refine lv_iload hx hb zd_law_356 (lv_at hl 4 rfl) ?_
  refine lv_iconst (v := 1) hx hb zd_law_358 (by decide) ?_
  refine lv_iadd hx hb zd_law_359 ?_
  rw [nI_1 i]
  refine zl_sld hx hb hX hbl hbA hS (k := i + 1) (by omega) (by omega) zd_law_360 ?_
  refine lv_aload_n hx hb zd_law_361 rfl (lv_at hl 0 rfl) ?_
  refine lv_iload hx hb zd_law_362 (lv_at hl 4 rfl) ?_
  refine lv_iconst (v := 2) hx hb zd_law_364 (by decide) ?_
  refine lv_iadd hx hb zd_law_365 ?_
  rw [show nI i + 2 = nI (i + 2) from nI_add i 2]
  refine zl_sld hx hb hX hbl hbA hS (k := i + 2) (by omega) (by omega) zd_law_366 ?_
  refine lv_aload_n hx hb zd_law_367 rfl (lv_at hl 3 rfl) ?_
  refine zz_ci (zh_runS (As := [.ref a0, .int (xs (i + 1)), .int (xs (i + 2)), .ref a20]) (rest := []) ⟨hx, hb, hml, hown, htB⟩ (zc_H_value l dC dI cI cZ cL a0 a1 a2 a3 a4 a5 a6 a7 a8 a9 a10 a11 a20 H.size (st, o) (xs (i + 1)) (xs (i + 2))  hf0) (zh_g zk_5df28a83 zk_bb2d0854 zk_47055d91 zk_39c7477b) rfl rfl rfl zh_H_value ⟨Nat.le_of_ble_eq_true rfl, Nat.le_of_ble_eq_true rfl⟩ (zh_preS hP hD hK hE hZ hS hA [0, 1, 2, 3, 4, 5, 6, 7, 8, 9, 10, 11, 20] (by decide) rfl) rfl rfl hl.1 rfl (lv_room (Nat.le_of_ble_eq_true rfl)) zd_law_368 ⟨by show _ ≤ (1054 : Nat); omega, by show _ ≤ (10379 : Nat); omega⟩) hP hD hS hA [0, 1, 2, 3, 4, 5, 6, 7, 8, 9, 10, 11, 20] [12, 13, 14, 15, 16, 17, 18, 19] [8, 9, 10, 11, 12, 13, 14, 15, 16, 17, 18, 19, 0, 1, 2, 3, 4, 5, 6, 7, 20] rfl rfl (by decide) (by decide) (by decide) rfl (fun H locs hP hD hS => ?_)
  have hP : va_P (dC, dI) zz_cl (zv_L cI cZ cL a0 a1 a2 a3 a4 a5 a6 a7 a8 a9 a10 a11 a12 a13 a14 a15 a16 a17 a18 a19 a20 (((zf_H_value (st, o) (xs (i + 1)) (xs (i + 2))).2).1) w0 w1 w2 w3 w4 w5 w6 w7 w8 w9 w10 w11 w12 w13 w14 w15 w16 w17 w18 w19 w20 w21 (((zf_H_value (st, o) (xs (i + 1)) (xs (i + 2))).2).2)) H := hP
  have hD : va_D A (zv_L cI cZ cL a0 a1 a2 a3 a4 a5 a6 a7 a8 a9 a10 a11 a12 a13 a14 a15 a16 a17 a18 a19 a20 (((zf_H_value (st, o) (xs (i + 1)) (xs (i + 2))).2).1) w0 w1 w2 w3 w4 w5 w6 w7 w8 w9 w10 w11 w12 w13 w14 w15 w16 w17 w18 w19 w20 w21 (((zf_H_value (st, o) (xs (i + 1)) (xs (i + 2))).2).2)) := hD
  refine lv_istore (lv' := [(5, .int ((zf_H_value (st, o) (xs (i + 1)) (xs (i + 2))).1)), (0, .ref b), (1, .ref a0), (2, .ref a12), (3, .ref a20), (4, .int (nI i))]) hx hb zd_law_371 hl (by decide) rfl (fun ls hl => ?_)
  refine lv_aload_n hx hb zd_law_373 rfl (lv_at hl 3 rfl) ?_
  refine lv_aload_n hx hb zd_law_374 rfl (lv_at hl 1 rfl) ?_
  refine lv_iload hx hb zd_law_375 (lv_at hl 5 rfl) ?_
  refine lv_iconst (v := 1) hx hb zd_law_377 (by decide) ?_
  refine lv_iadd hx hb zd_law_378 ?_
  rw [nI_1 i]
  refine zl_sld hx hb hX hbl hbA hS (k := i + 1) (by omega) (by omega) zd_law_379 ?_
  refine lv_aload_n hx hb zd_law_380 rfl (lv_at hl 1 rfl) ?_
  refine lv_iload hx hb zd_law_381 (lv_at hl 5 rfl) ?_
  refine lv_iconst (v := 2) hx hb zd_law_383 (by decide) ?_
  refine lv_iadd hx hb zd_law_384 ?_
  rw [show nI i + 2 = nI (i + 2) from nI_add i 2]
  refine zl_sld hx hb hX hbl hbA hS (k := i + 2) (by omega) (by omega) zd_law_385 ?_
  refine zz_cl_ (va_runV (As := [.int (xs (i + 1)), .int (xs (i + 2))]) (rest := []) ⟨hx, hb, hml, hown, htB⟩ (zc_M_value l dC dI cI cZ cL a12 a13 a14 a15 a16 a17 a18 a19 H.size w0 w1 w2 w3 w4 w5 w6 w7 w8 w9 w10 w11 w12 w13 w14 w15 w16 w17 w18 w19 w20 w21 (xs (i + 1)) (xs (i + 2)) hm) (cwV 2 htB (zz_gV zk_f51337e1 zk_b88f4ebb zk_ae380b03 zk_91cc3b19 zk_a8389942) rfl rfl rfl ⟨rfl, zh_M_value⟩ ⟨Nat.le_of_ble_eq_true rfl, Nat.le_of_ble_eq_true rfl⟩) (zz_preV (ci := 5) (q := (zr_M, zF_M, 22)) hP hD hK hE [12, 13, 14, 15, 16, 17, 18, 19] (by decide) rfl rfl rfl) rfl rfl hl.1 rfl (lv_room (Nat.le_of_ble_eq_true rfl)) zd_law_386 ⟨by show _ ≤ (1054 : Nat); omega, by show _ ≤ (10379 : Nat); omega⟩) hP hD hS hA [12, 13, 14, 15, 16, 17, 18, 19] [0, 1, 2, 3, 4, 5, 6, 7, 8, 9, 10, 11, 20] [0, 1, 2, 3, 4, 5, 6, 7, 8, 9, 10, 11, 13, 14, 15, 16, 17, 18, 19, 20, 12] rfl rfl (by decide) (by decide) (by decide) rfl (fun H locs hP hD hS => ?_)
  have hP : va_P (dC, dI) zz_cl (zv_L cI cZ cL a0 a1 a2 a3 a4 a5 a6 a7 a8 a9 a10 a11 a12 a13 a14 a15 a16 a17 a18 a19 a20 (((zf_H_value (st, o) (xs (i + 1)) (xs (i + 2))).2).1) ((zf_M_value w0 w2 w3 w4 (xs (i + 1)) (xs (i + 2))).2) w1 w2 w3 w4 w5 w6 w7 w8 w9 w10 w11 w12 w13 w14 w15 w16 w17 w18 w19 w20 w21 (((zf_H_value (st, o) (xs (i + 1)) (xs (i + 2))).2).2)) H := hP
  have hD : va_D A (zv_L cI cZ cL a0 a1 a2 a3 a4 a5 a6 a7 a8 a9 a10 a11 a12 a13 a14 a15 a16 a17 a18 a19 a20 (((zf_H_value (st, o) (xs (i + 1)) (xs (i + 2))).2).1) ((zf_M_value w0 w2 w3 w4 (xs (i + 1)) (xs (i + 2))).2) w1 w2 w3 w4 w5 w6 w7 w8 w9 w10 w11 w12 w13 w14 w15 w16 w17 w18 w19 w20 w21 (((zf_H_value (st, o) (xs (i + 1)) (xs (i + 2))).2).2)) := hD
  refine lv_lstore (lv' := [(6, .long ((zf_M_value w0 w2 w3 w4 (xs (i + 1)) (xs (i + 2))).1)), (5, .int ((zf_H_value (st, o) (xs (i + 1)) (xs (i + 2))).1)), (0, .ref b), (1, .ref a0), (2, .ref a12), (3, .ref a20), (4, .int (nI i))]) hx hb zd_law_389 hl (by decide) rfl (fun ls hl => ?_)
  refine lv_aload_n hx hb zd_law_391 rfl (lv_at hl 4 rfl) ?_
  refine zz_ki (va_runV (As := []) (rest := []) ⟨hx, hb, hml, hown, htB⟩ (zc_M_thrown l dC dI cI cZ cL a12 a13 a14 a15 a16 a17 a18 a19 H.size ((zf_M_value w0 w2 w3 w4 (xs (i + 1)) (xs (i + 2))).2) w1 w2 w3 w4 w5 w6 w7 w8 w9 w10 w11 w12 w13 w14 w15 w16 w17 w18 w19 w20 w21  ) (cwV 0 htB (zz_gV zk_8e32f3ef zk_7bff8b59 zk_098c063e zk_91cc3b19 zk_b51a64f9) rfl rfl rfl ⟨rfl, zh_M_thrown⟩ ⟨Nat.le_of_ble_eq_true rfl, Nat.le_of_ble_eq_true rfl⟩) (zz_preV (ci := 5) (q := (zr_M, zF_M, 22)) hP hD hK hE [12, 13, 14, 15, 16, 17, 18, 19] (by decide) rfl rfl rfl) rfl rfl hl.1 rfl (lv_room (Nat.le_of_ble_eq_true rfl)) zd_law_392 ⟨by show _ ≤ (1054 : Nat); omega, by show _ ≤ (10379 : Nat); omega⟩) ?_
  refine lv_iload hx hb zd_law_395 (lv_at hl 1 rfl) ?_
  refine lv_icmp_eq (tgt := 402) hx hb zd_law_397 (by decide) (fun _ => ?_) (fun c_ => absurd ((zq_value hR w0 (xs (i + 1)) (xs (i + 2))).1.symm.trans (zl_H_value st o (xs (i + 1)) (xs (i + 2))).1.symm) c_)
  refine lv_iload hx hb zd_law_402 (lv_at hl 1 rfl) ?_
  refine lv_if_ne (tgt := 418) hx hb zd_law_404 (by decide) (fun c_404 => ?_) (fun c_404 => ?_)
  · refine lv_goto (tgt := 1002) hx hb zd_law_418 (by decide) ?_
    refine W.widen (k := 21 + t + 1) (n := 2133 + 6 * t + 6) (by omega) (by omega) ?_
    exact kk (((zf_H_value (st, o) (xs (i + 1)) (xs (i + 2))).2).1) ((zf_M_value w0 w2 w3 w4 (xs (i + 1)) (xs (i + 2))).2) w1 w2 w3 w4 w5 w6 w7 w8 w9 w10 w11 w12 w13 w14 w15 w16 w17 w18 w19 w20 w21 (((zf_H_value (st, o) (xs (i + 1)) (xs (i + 2))).2).2) (by rw [(zl_H_value st o (xs (i + 1)) (xs (i + 2))).2.1]; exact hR) _ _ hP hD hS _ (lv_sub hl [2, 3, 4, 5, 6] rfl)
  · refine lv_aload_n hx hb zd_law_407 rfl (lv_at hl 5 rfl) ?_
    refine lv_iconst (v := 0) hx hb zd_law_408 (by decide) ?_
    refine va_lald hx hb hK hP 20 2 rfl rfl zh_in0 zd_law_409 ?_
    refine lv_lload hx hb zd_law_410 (lv_at hl 0 rfl) ?_
    refine W.lcmp hx hb zd_law_412 ?_
    refine lv_if_eq (tgt := 418) hx hb zd_law_413 (by decide) (fun _ => ?_) (fun c_ => absurd ((lg_cmp_eq _ _).mpr (((zl_H_value st o (xs (i + 1)) (xs (i + 2))).2.2 c_404).2.trans ((zq_value hR w0 (xs (i + 1)) (xs (i + 2))).2 ((zl_H_value st o (xs (i + 1)) (xs (i + 2))).2.2 c_404).1))) c_)
    refine lv_goto (tgt := 1002) hx hb zd_law_418 (by decide) ?_
    refine W.widen (k := 21 + t + 1) (n := 2133 + 6 * t + 6) (by omega) (by omega) ?_
    exact kk (((zf_H_value (st, o) (xs (i + 1)) (xs (i + 2))).2).1) ((zf_M_value w0 w2 w3 w4 (xs (i + 1)) (xs (i + 2))).2) w1 w2 w3 w4 w5 w6 w7 w8 w9 w10 w11 w12 w13 w14 w15 w16 w17 w18 w19 w20 w21 (((zf_H_value (st, o) (xs (i + 1)) (xs (i + 2))).2).2) (by rw [(zl_H_value st o (xs (i + 1)) (xs (i + 2))).2.1]; exact hR) _ _ hP hD hS _ (lv_sub hl [2, 3, 4, 5, 6] rfl)
set_option maxHeartbeats 4000000 in
set_option maxRecDepth 100000 in
theorem zl_arm_5 {p : Program} {l : Launch} {e : Env} {s : State} {m : MethodId} {below : List Frame} {meth : Method} {c : Code} {A : Nat → Prop} {dC : Nat → ClassId} {dI : Nat → Nat → Nat} {cI cZ cL : ClassId} {a0 a1 a2 a3 a4 a5 a6 a7 a8 a9 a10 a11 a12 a13 a14 a15 a16 a17 a18 a19 a20 b L i t : Nat} {xs : Nat → Int32} (F : zl_F l p s m meth c b L xs A dC dI cI cZ cL) (hi : i + 4 < L) (ht : t ≤ 511) (kk : zl_K p l e s m below meth c A dC dI cI cZ cL a0 a1 a2 a3 a4 a5 a6 a7 a8 a9 a10 a11 a12 a13 a14 a15 a16 a17 a18 a19 a20 b i (21 + t + 1) (2133 + 6 * t + 6) 1002) : zl_K p l e s m below meth c A dC dI cI cZ cL a0 a1 a2 a3 a4 a5 a6 a7 a8 a9 a10 a11 a12 a13 a14 a15 a16 a17 a18 a19 a20 b i (21 + t) (2133 + 6 * t) 421 := by
  obtain ⟨hx, hb, hml, hown, htB, hX, hbl, hbA, hE, hZ, hA, hK, hf0, hL, hAs, hr, hlocks⟩ := id F
  intro st w0 w1 w2 w3 w4 w5 w6 w7 w8 w9 w10 w11 w12 w13 w14 w15 w16 w17 w18 w19 w20 w21 o hR H locs hP hD hS ls hl
  have hm := hR.S.m30
  have hc := hR.C.le
  have hp := hR.P.le
  have hxm : st.2.1.2.2.1 ≤ 30 := by rw [hR.S.made]; exact hm
  have hxc : st.2.2.1.2.2 ≤ 20 := by rw [hR.C.n]; exact hc
  have hxp : st.2.2.2.1.2.2.2 ≤ 20 := by rw [hR.P.n]; exact hp
  refine lv_aload_n hx hb zd_law_421 rfl (lv_at hl 1 rfl) ?_
  refine lv_aload_n hx hb zd_law_422 rfl (lv_at hl 0 rfl) ?_
  refine lv_iload hx hb zd_law_423 (lv_at hl 4 rfl) ?_
  refine lv_iconst (v := 1) hx hb zd_law_425 (by decide) ?_
  refine lv_iadd hx hb zd_law_426 ?_
  rw [nI_1 i]
  refine zl_sld hx hb hX hbl hbA hS (k := i + 1) (by omega) (by omega) zd_law_427 ?_
  refine lv_aload_n hx hb zd_law_428 rfl (lv_at hl 3 rfl) ?_
  refine zz_ci (zh_runS (As := [.ref a0, .int (xs (i + 1)), .ref a20]) (rest := []) ⟨hx, hb, hml, hown, htB⟩ (zc_H_need l dC dI cI cZ cL a0 a1 a2 a3 a4 a5 a6 a7 a8 a9 a10 a11 a20 H.size (st, o) (xs (i + 1))  hf0) (zh_g zk_d8170f5b zk_356f9e4e zk_47055d91 zk_7be1e2ec) rfl rfl rfl zh_H_need ⟨Nat.le_of_ble_eq_true rfl, Nat.le_of_ble_eq_true rfl⟩ (zh_preS hP hD hK hE hZ hS hA [0, 1, 2, 3, 4, 5, 6, 7, 8, 9, 10, 11, 20] (by decide) rfl) rfl rfl hl.1 rfl (lv_room (Nat.le_of_ble_eq_true rfl)) zd_law_429 ⟨by show _ ≤ (1054 : Nat); omega, by show _ ≤ (10379 : Nat); omega⟩) hP hD hS hA [0, 1, 2, 3, 4, 5, 6, 7, 8, 9, 10, 11, 20] [12, 13, 14, 15, 16, 17, 18, 19] [8, 9, 10, 11, 12, 13, 14, 15, 16, 17, 18, 19, 0, 1, 2, 3, 4, 5, 6, 7, 20] rfl rfl (by decide) (by decide) (by decide) rfl (fun H locs hP hD hS => ?_)
  have hP : va_P (dC, dI) zz_cl (zv_L cI cZ cL a0 a1 a2 a3 a4 a5 a6 a7 a8 a9 a10 a11 a12 a13 a14 a15 a16 a17 a18 a19 a20 (((zf_H_need (st, o) (xs (i + 1))).2).1) w0 w1 w2 w3 w4 w5 w6 w7 w8 w9 w10 w11 w12 w13 w14 w15 w16 w17 w18 w19 w20 w21 (((zf_H_need (st, o) (xs (i + 1))).2).2)) H := hP
  have hD : va_D A (zv_L cI cZ cL a0 a1 a2 a3 a4 a5 a6 a7 a8 a9 a10 a11 a12 a13 a14 a15 a16 a17 a18 a19 a20 (((zf_H_need (st, o) (xs (i + 1))).2).1) w0 w1 w2 w3 w4 w5 w6 w7 w8 w9 w10 w11 w12 w13 w14 w15 w16 w17 w18 w19 w20 w21 (((zf_H_need (st, o) (xs (i + 1))).2).2)) := hD
  refine lv_istore (lv' := [(5, .int ((zf_H_need (st, o) (xs (i + 1))).1)), (0, .ref b), (1, .ref a0), (2, .ref a12), (3, .ref a20), (4, .int (nI i))]) hx hb zd_law_432 hl (by decide) rfl (fun ls hl => ?_)
  refine lv_aload_n hx hb zd_law_434 rfl (lv_at hl 3 rfl) ?_
  refine lv_aload_n hx hb zd_law_435 rfl (lv_at hl 1 rfl) ?_
  refine lv_iload hx hb zd_law_436 (lv_at hl 5 rfl) ?_
  refine lv_iconst (v := 1) hx hb zd_law_438 (by decide) ?_
  refine lv_iadd hx hb zd_law_439 ?_
  rw [nI_1 i]
  refine zl_sld hx hb hX hbl hbA hS (k := i + 1) (by omega) (by omega) zd_law_440 ?_
  refine zz_ci (va_runV (As := [.int (xs (i + 1))]) (rest := []) ⟨hx, hb, hml, hown, htB⟩ (zc_M_need l dC dI cI cZ cL a12 a13 a14 a15 a16 a17 a18 a19 H.size w0 w1 w2 w3 w4 w5 w6 w7 w8 w9 w10 w11 w12 w13 w14 w15 w16 w17 w18 w19 w20 w21 (xs (i + 1)) ) (cwV 1 htB (zz_gV zk_5468035a zk_27a69a21 zk_82402b6b zk_91cc3b19 zk_20eee6bc) rfl rfl rfl ⟨rfl, zh_M_need⟩ ⟨Nat.le_of_ble_eq_true rfl, Nat.le_of_ble_eq_true rfl⟩) (zz_preV (ci := 5) (q := (zr_M, zF_M, 22)) hP hD hK hE [12, 13, 14, 15, 16, 17, 18, 19] (by decide) rfl rfl rfl) rfl rfl hl.1 rfl (lv_room (Nat.le_of_ble_eq_true rfl)) zd_law_441 ⟨by show _ ≤ (1054 : Nat); omega, by show _ ≤ (10379 : Nat); omega⟩) hP hD hS hA [12, 13, 14, 15, 16, 17, 18, 19] [0, 1, 2, 3, 4, 5, 6, 7, 8, 9, 10, 11, 20] [0, 1, 2, 3, 4, 5, 6, 7, 8, 9, 10, 11, 13, 14, 15, 16, 17, 18, 19, 20, 12] rfl rfl (by decide) (by decide) (by decide) rfl (fun H locs hP hD hS => ?_)
  have hP : va_P (dC, dI) zz_cl (zv_L cI cZ cL a0 a1 a2 a3 a4 a5 a6 a7 a8 a9 a10 a11 a12 a13 a14 a15 a16 a17 a18 a19 a20 (((zf_H_need (st, o) (xs (i + 1))).2).1) ((zf_M_need w0 w1 (xs (i + 1))).2) w1 w2 w3 w4 w5 w6 w7 w8 w9 w10 w11 w12 w13 w14 w15 w16 w17 w18 w19 w20 w21 (((zf_H_need (st, o) (xs (i + 1))).2).2)) H := hP
  have hD : va_D A (zv_L cI cZ cL a0 a1 a2 a3 a4 a5 a6 a7 a8 a9 a10 a11 a12 a13 a14 a15 a16 a17 a18 a19 a20 (((zf_H_need (st, o) (xs (i + 1))).2).1) ((zf_M_need w0 w1 (xs (i + 1))).2) w1 w2 w3 w4 w5 w6 w7 w8 w9 w10 w11 w12 w13 w14 w15 w16 w17 w18 w19 w20 w21 (((zf_H_need (st, o) (xs (i + 1))).2).2)) := hD
  refine lv_istore (lv' := [(6, .int ((zf_M_need w0 w1 (xs (i + 1))).1)), (5, .int ((zf_H_need (st, o) (xs (i + 1))).1)), (0, .ref b), (1, .ref a0), (2, .ref a12), (3, .ref a20), (4, .int (nI i))]) hx hb zd_law_444 hl (by decide) rfl (fun ls hl => ?_)
  refine lv_aload_n hx hb zd_law_446 rfl (lv_at hl 4 rfl) ?_
  refine zz_ki (va_runV (As := []) (rest := []) ⟨hx, hb, hml, hown, htB⟩ (zc_M_thrown l dC dI cI cZ cL a12 a13 a14 a15 a16 a17 a18 a19 H.size ((zf_M_need w0 w1 (xs (i + 1))).2) w1 w2 w3 w4 w5 w6 w7 w8 w9 w10 w11 w12 w13 w14 w15 w16 w17 w18 w19 w20 w21  ) (cwV 0 htB (zz_gV zk_8e32f3ef zk_7bff8b59 zk_098c063e zk_91cc3b19 zk_b51a64f9) rfl rfl rfl ⟨rfl, zh_M_thrown⟩ ⟨Nat.le_of_ble_eq_true rfl, Nat.le_of_ble_eq_true rfl⟩) (zz_preV (ci := 5) (q := (zr_M, zF_M, 22)) hP hD hK hE [12, 13, 14, 15, 16, 17, 18, 19] (by decide) rfl rfl rfl) rfl rfl hl.1 rfl (lv_room (Nat.le_of_ble_eq_true rfl)) zd_law_447 ⟨by show _ ≤ (1054 : Nat); omega, by show _ ≤ (10379 : Nat); omega⟩) ?_
  refine lv_iload hx hb zd_law_450 (lv_at hl 1 rfl) ?_
  refine lv_icmp_eq (tgt := 457) hx hb zd_law_452 (by decide) (fun _ => ?_) (fun c_ => absurd ((zq_need hR w0 (xs (i + 1))).1.symm.trans (zl_H_need st o (xs (i + 1))).1.symm) c_)
  refine lv_iload hx hb zd_law_457 (lv_at hl 1 rfl) ?_
  refine lv_if_ne (tgt := 474) hx hb zd_law_459 (by decide) (fun c_459 => ?_) (fun c_459 => ?_)
  · refine lv_goto (tgt := 1002) hx hb zd_law_474 (by decide) ?_
    refine W.widen (k := 21 + t + 1) (n := 2133 + 6 * t + 6) (by omega) (by omega) ?_
    exact kk (((zf_H_need (st, o) (xs (i + 1))).2).1) ((zf_M_need w0 w1 (xs (i + 1))).2) w1 w2 w3 w4 w5 w6 w7 w8 w9 w10 w11 w12 w13 w14 w15 w16 w17 w18 w19 w20 w21 (((zf_H_need (st, o) (xs (i + 1))).2).2) (by rw [(zl_H_need st o (xs (i + 1))).2.1]; exact hR) _ _ hP hD hS _ (lv_sub hl [2, 3, 4, 5, 6] rfl)
  · refine lv_aload_n hx hb zd_law_462 rfl (lv_at hl 5 rfl) ?_
    refine lv_iconst (v := 0) hx hb zd_law_463 (by decide) ?_
    refine va_lald hx hb hK hP 20 2 rfl rfl zh_in0 zd_law_464 ?_
    refine lv_iload hx hb zd_law_465 (lv_at hl 0 rfl) ?_
    refine lv_i2l hx hb zd_law_467 rfl ?_
    refine W.lcmp hx hb zd_law_468 ?_
    refine lv_if_eq (tgt := 474) hx hb zd_law_469 (by decide) (fun _ => ?_) (fun c_ => absurd ((lg_cmp_eq _ _).mpr (((zl_H_need st o (xs (i + 1))).2.2 c_459).2.trans (congrArg Int32.toInt64 ((zq_need hR w0 (xs (i + 1))).2 ((zl_H_need st o (xs (i + 1))).2.2 c_459).1)))) c_)
    refine lv_goto (tgt := 1002) hx hb zd_law_474 (by decide) ?_
    refine W.widen (k := 21 + t + 1) (n := 2133 + 6 * t + 6) (by omega) (by omega) ?_
    exact kk (((zf_H_need (st, o) (xs (i + 1))).2).1) ((zf_M_need w0 w1 (xs (i + 1))).2) w1 w2 w3 w4 w5 w6 w7 w8 w9 w10 w11 w12 w13 w14 w15 w16 w17 w18 w19 w20 w21 (((zf_H_need (st, o) (xs (i + 1))).2).2) (by rw [(zl_H_need st o (xs (i + 1))).2.1]; exact hR) _ _ hP hD hS _ (lv_sub hl [2, 3, 4, 5, 6] rfl)
set_option maxHeartbeats 4000000 in
set_option maxRecDepth 100000 in
theorem zl_arm_6 {p : Program} {l : Launch} {e : Env} {s : State} {m : MethodId} {below : List Frame} {meth : Method} {c : Code} {A : Nat → Prop} {dC : Nat → ClassId} {dI : Nat → Nat → Nat} {cI cZ cL : ClassId} {a0 a1 a2 a3 a4 a5 a6 a7 a8 a9 a10 a11 a12 a13 a14 a15 a16 a17 a18 a19 a20 b L i t : Nat} {xs : Nat → Int32} (F : zl_F l p s m meth c b L xs A dC dI cI cZ cL) (hi : i + 4 < L) (ht : t ≤ 511) (kk : zl_K p l e s m below meth c A dC dI cI cZ cL a0 a1 a2 a3 a4 a5 a6 a7 a8 a9 a10 a11 a12 a13 a14 a15 a16 a17 a18 a19 a20 b i (21 + t + 1) (2133 + 6 * t + 6) 1002) : zl_K p l e s m below meth c A dC dI cI cZ cL a0 a1 a2 a3 a4 a5 a6 a7 a8 a9 a10 a11 a12 a13 a14 a15 a16 a17 a18 a19 a20 b i (21 + t) (2133 + 6 * t) 477 := by
  obtain ⟨hx, hb, hml, hown, htB, hX, hbl, hbA, hE, hZ, hA, hK, hf0, hL, hAs, hr, hlocks⟩ := id F
  intro st w0 w1 w2 w3 w4 w5 w6 w7 w8 w9 w10 w11 w12 w13 w14 w15 w16 w17 w18 w19 w20 w21 o hR H locs hP hD hS ls hl
  have hm := hR.S.m30
  have hc := hR.C.le
  have hp := hR.P.le
  have hxm : st.2.1.2.2.1 ≤ 30 := by rw [hR.S.made]; exact hm
  have hxc : st.2.2.1.2.2 ≤ 20 := by rw [hR.C.n]; exact hc
  have hxp : st.2.2.2.1.2.2.2 ≤ 20 := by rw [hR.P.n]; exact hp
  refine lv_aload_n hx hb zd_law_477 rfl (lv_at hl 1 rfl) ?_
  refine lv_aload_n hx hb zd_law_478 rfl (lv_at hl 0 rfl) ?_
  refine lv_iload hx hb zd_law_479 (lv_at hl 4 rfl) ?_
  refine lv_iconst (v := 1) hx hb zd_law_481 (by decide) ?_
  refine lv_iadd hx hb zd_law_482 ?_
  rw [nI_1 i]
  refine zl_sld hx hb hX hbl hbA hS (k := i + 1) (by omega) (by omega) zd_law_483 ?_
  refine lv_i2l hx hb zd_law_484 rfl ?_
  refine lv_bipush (v := 32) hx hb zd_law_485 (by decide) ?_
  refine lv_lshl hx hb zd_law_487 rfl ?_
  refine lv_aload_n hx hb zd_law_488 rfl (lv_at hl 0 rfl) ?_
  refine lv_iload hx hb zd_law_489 (lv_at hl 4 rfl) ?_
  refine lv_iconst (v := 2) hx hb zd_law_491 (by decide) ?_
  refine lv_iadd hx hb zd_law_492 ?_
  rw [show nI i + 2 = nI (i + 2) from nI_add i 2]
  refine zl_sld hx hb hX hbl hbA hS (k := i + 2) (by omega) (by omega) zd_law_493 ?_
  refine lv_i2l hx hb zd_law_494 rfl ?_
  refine lv_ldc2 (v := 4294967295) hx hb hown (htB _ zk_f7ae233a) zd_law_495 ?_
  refine lv_land hx hb zd_law_498 ?_
  refine lv_lor hx hb zd_law_499 ?_
  refine lv_aload_n hx hb zd_law_500 rfl (lv_at hl 0 rfl) ?_
  refine lv_iload hx hb zd_law_501 (lv_at hl 4 rfl) ?_
  refine lv_iconst (v := 3) hx hb zd_law_503 (by decide) ?_
  refine lv_iadd hx hb zd_law_504 ?_
  rw [show nI i + 3 = nI (i + 3) from nI_add i 3]
  refine zl_sld hx hb hX hbl hbA hS (k := i + 3) (by omega) (by omega) zd_law_505 ?_
  refine zz_ci (va_runV (As := [.long ((((xs (i + 1)).toInt64) <<< ((32 : Int32).toInt64 &&& 63)) ||| (((xs (i + 2)).toInt64) &&& 4294967295)), .int (xs (i + 3))]) (rest := []) ⟨hx, hb, hml, hown, htB⟩ (zc_X_code l dC dI cI cZ cL a0 a1 a2 a3 a4 a5 a6 a7 a8 a9 a10 a11 H.size st ((((xs (i + 1)).toInt64) <<< ((32 : Int32).toInt64 &&& 63)) ||| (((xs (i + 2)).toInt64) &&& 4294967295)) (xs (i + 3)) hxc) (cwV 2 htB (zz_gV zk_a8389fd3 zk_6a378520 zk_1480e4cb zk_cfe38e2e zk_ac7b168d) rfl rfl rfl ⟨rfl, zh_X_code⟩ ⟨Nat.le_of_ble_eq_true rfl, Nat.le_of_ble_eq_true rfl⟩) (zz_preV (ci := 0) (q := (zr_X, zF_X, 7)) hP hD hK hE [0, 1, 2, 3, 4, 5, 6, 7, 8, 9, 10, 11] (by decide) rfl rfl rfl) rfl rfl hl.1 rfl (lv_room (Nat.le_of_ble_eq_true rfl)) zd_law_506 ⟨by show _ ≤ (1054 : Nat); omega, by show _ ≤ (10379 : Nat); omega⟩) hP hD hS hA [0, 1, 2, 3, 4, 5, 6, 7, 8, 9, 10, 11] [12, 13, 14, 15, 16, 17, 18, 19, 20] [9, 10, 11, 12, 13, 14, 15, 16, 17, 18, 19, 20, 0, 1, 2, 3, 4, 5, 6, 7, 8] rfl rfl (by decide) (by decide) (by decide) rfl (fun H locs hP hD hS => ?_)
  have hP : va_P (dC, dI) zz_cl (zv_L cI cZ cL a0 a1 a2 a3 a4 a5 a6 a7 a8 a9 a10 a11 a12 a13 a14 a15 a16 a17 a18 a19 a20 ((zf_X_code st ((((xs (i + 1)).toInt64) <<< ((32 : Int32).toInt64 &&& 63)) ||| (((xs (i + 2)).toInt64) &&& 4294967295)) (xs (i + 3))).2) w0 w1 w2 w3 w4 w5 w6 w7 w8 w9 w10 w11 w12 w13 w14 w15 w16 w17 w18 w19 w20 w21 o) H := hP
  have hD : va_D A (zv_L cI cZ cL a0 a1 a2 a3 a4 a5 a6 a7 a8 a9 a10 a11 a12 a13 a14 a15 a16 a17 a18 a19 a20 ((zf_X_code st ((((xs (i + 1)).toInt64) <<< ((32 : Int32).toInt64 &&& 63)) ||| (((xs (i + 2)).toInt64) &&& 4294967295)) (xs (i + 3))).2) w0 w1 w2 w3 w4 w5 w6 w7 w8 w9 w10 w11 w12 w13 w14 w15 w16 w17 w18 w19 w20 w21 o) := hD
  refine lv_aload_n hx hb zd_law_509 rfl (lv_at hl 2 rfl) ?_
  refine lv_aload_n hx hb zd_law_510 rfl (lv_at hl 0 rfl) ?_
  refine lv_iload hx hb zd_law_511 (lv_at hl 4 rfl) ?_
  refine lv_iconst (v := 1) hx hb zd_law_513 (by decide) ?_
  refine lv_iadd hx hb zd_law_514 ?_
  rw [nI_1 i]
  refine zl_sld hx hb hX hbl hbA hS (k := i + 1) (by omega) (by omega) zd_law_515 ?_
  refine lv_i2l hx hb zd_law_516 rfl ?_
  refine lv_bipush (v := 32) hx hb zd_law_517 (by decide) ?_
  refine lv_lshl hx hb zd_law_519 rfl ?_
  refine lv_aload_n hx hb zd_law_520 rfl (lv_at hl 0 rfl) ?_
  refine lv_iload hx hb zd_law_521 (lv_at hl 4 rfl) ?_
  refine lv_iconst (v := 2) hx hb zd_law_523 (by decide) ?_
  refine lv_iadd hx hb zd_law_524 ?_
  rw [show nI i + 2 = nI (i + 2) from nI_add i 2]
  refine zl_sld hx hb hX hbl hbA hS (k := i + 2) (by omega) (by omega) zd_law_525 ?_
  refine lv_i2l hx hb zd_law_526 rfl ?_
  refine lv_ldc2 (v := 4294967295) hx hb hown (htB _ zk_f7ae233a) zd_law_527 ?_
  refine lv_land hx hb zd_law_530 ?_
  refine lv_lor hx hb zd_law_531 ?_
  refine lv_aload_n hx hb zd_law_532 rfl (lv_at hl 0 rfl) ?_
  refine lv_iload hx hb zd_law_533 (lv_at hl 4 rfl) ?_
  refine lv_iconst (v := 3) hx hb zd_law_535 (by decide) ?_
  refine lv_iadd hx hb zd_law_536 ?_
  rw [show nI i + 3 = nI (i + 3) from nI_add i 3]
  refine zl_sld hx hb hX hbl hbA hS (k := i + 3) (by omega) (by omega) zd_law_537 ?_
  refine zz_ci (va_runV (As := [.long ((((xs (i + 1)).toInt64) <<< ((32 : Int32).toInt64 &&& 63)) ||| (((xs (i + 2)).toInt64) &&& 4294967295)), .int (xs (i + 3))]) (rest := [.int ((zf_X_code st ((((xs (i + 1)).toInt64) <<< ((32 : Int32).toInt64 &&& 63)) ||| (((xs (i + 2)).toInt64) &&& 4294967295)) (xs (i + 3))).1)]) ⟨hx, hb, hml, hown, htB⟩ (zc_M_code l dC dI cI cZ cL a12 a13 a14 a15 a16 a17 a18 a19 H.size w0 w1 w2 w3 w4 w5 w6 w7 w8 w9 w10 w11 w12 w13 w14 w15 w16 w17 w18 w19 w20 w21 ((((xs (i + 1)).toInt64) <<< ((32 : Int32).toInt64 &&& 63)) ||| (((xs (i + 2)).toInt64) &&& 4294967295)) (xs (i + 3)) hc) (cwV 2 htB (zz_gV zk_3458d7a6 zk_e9204c8c zk_69eb73ee zk_91cc3b19 zk_4179caae) rfl rfl rfl ⟨rfl, zh_M_code⟩ ⟨Nat.le_of_ble_eq_true rfl, Nat.le_of_ble_eq_true rfl⟩) (zz_preV (ci := 5) (q := (zr_M, zF_M, 22)) hP hD hK hE [12, 13, 14, 15, 16, 17, 18, 19] (by decide) rfl rfl rfl) rfl rfl hl.1 rfl (lv_room (Nat.le_of_ble_eq_true rfl)) zd_law_538 ⟨by show _ ≤ (1054 : Nat); omega, by show _ ≤ (10379 : Nat); omega⟩) hP hD hS hA [12, 13, 14, 15, 16, 17, 18, 19] [0, 1, 2, 3, 4, 5, 6, 7, 8, 9, 10, 11, 20] [0, 1, 2, 3, 4, 5, 6, 7, 8, 9, 10, 11, 13, 14, 15, 16, 17, 18, 19, 20, 12] rfl rfl (by decide) (by decide) (by decide) rfl (fun H locs hP hD hS => ?_)
  have hP : va_P (dC, dI) zz_cl (zv_L cI cZ cL a0 a1 a2 a3 a4 a5 a6 a7 a8 a9 a10 a11 a12 a13 a14 a15 a16 a17 a18 a19 a20 ((zf_X_code st ((((xs (i + 1)).toInt64) <<< ((32 : Int32).toInt64 &&& 63)) ||| (((xs (i + 2)).toInt64) &&& 4294967295)) (xs (i + 3))).2) ((zf_M_code w0 w7 w8 w9 ((((xs (i + 1)).toInt64) <<< ((32 : Int32).toInt64 &&& 63)) ||| (((xs (i + 2)).toInt64) &&& 4294967295)) (xs (i + 3))).2.1) w1 w2 w3 w4 w5 w6 ((zf_M_code w0 w7 w8 w9 ((((xs (i + 1)).toInt64) <<< ((32 : Int32).toInt64 &&& 63)) ||| (((xs (i + 2)).toInt64) &&& 4294967295)) (xs (i + 3))).2.2.1) ((zf_M_code w0 w7 w8 w9 ((((xs (i + 1)).toInt64) <<< ((32 : Int32).toInt64 &&& 63)) ||| (((xs (i + 2)).toInt64) &&& 4294967295)) (xs (i + 3))).2.2.2.1) ((zf_M_code w0 w7 w8 w9 ((((xs (i + 1)).toInt64) <<< ((32 : Int32).toInt64 &&& 63)) ||| (((xs (i + 2)).toInt64) &&& 4294967295)) (xs (i + 3))).2.2.2.2) w10 w11 w12 w13 w14 w15 w16 w17 w18 w19 w20 w21 o) H := hP
  have hD : va_D A (zv_L cI cZ cL a0 a1 a2 a3 a4 a5 a6 a7 a8 a9 a10 a11 a12 a13 a14 a15 a16 a17 a18 a19 a20 ((zf_X_code st ((((xs (i + 1)).toInt64) <<< ((32 : Int32).toInt64 &&& 63)) ||| (((xs (i + 2)).toInt64) &&& 4294967295)) (xs (i + 3))).2) ((zf_M_code w0 w7 w8 w9 ((((xs (i + 1)).toInt64) <<< ((32 : Int32).toInt64 &&& 63)) ||| (((xs (i + 2)).toInt64) &&& 4294967295)) (xs (i + 3))).2.1) w1 w2 w3 w4 w5 w6 ((zf_M_code w0 w7 w8 w9 ((((xs (i + 1)).toInt64) <<< ((32 : Int32).toInt64 &&& 63)) ||| (((xs (i + 2)).toInt64) &&& 4294967295)) (xs (i + 3))).2.2.1) ((zf_M_code w0 w7 w8 w9 ((((xs (i + 1)).toInt64) <<< ((32 : Int32).toInt64 &&& 63)) ||| (((xs (i + 2)).toInt64) &&& 4294967295)) (xs (i + 3))).2.2.2.1) ((zf_M_code w0 w7 w8 w9 ((((xs (i + 1)).toInt64) <<< ((32 : Int32).toInt64 &&& 63)) ||| (((xs (i + 2)).toInt64) &&& 4294967295)) (xs (i + 3))).2.2.2.2) w10 w11 w12 w13 w14 w15 w16 w17 w18 w19 w20 w21 o) := hD
  refine lv_icmp_eq (tgt := 1002) hx hb zd_law_541 (by decide) (fun _ => ?_) (fun c_ => absurd (zq_code hR w0 ((((xs (i + 1)).toInt64) <<< ((32 : Int32).toInt64 &&& 63)) ||| (((xs (i + 2)).toInt64) &&& 4294967295)) (xs (i + 3))).1 c_)
  refine W.widen (k := 21 + t + 1) (n := 2133 + 6 * t + 6) (by omega) (by omega) ?_
  exact kk ((zf_X_code st ((((xs (i + 1)).toInt64) <<< ((32 : Int32).toInt64 &&& 63)) ||| (((xs (i + 2)).toInt64) &&& 4294967295)) (xs (i + 3))).2) ((zf_M_code w0 w7 w8 w9 ((((xs (i + 1)).toInt64) <<< ((32 : Int32).toInt64 &&& 63)) ||| (((xs (i + 2)).toInt64) &&& 4294967295)) (xs (i + 3))).2.1) w1 w2 w3 w4 w5 w6 ((zf_M_code w0 w7 w8 w9 ((((xs (i + 1)).toInt64) <<< ((32 : Int32).toInt64 &&& 63)) ||| (((xs (i + 2)).toInt64) &&& 4294967295)) (xs (i + 3))).2.2.1) ((zf_M_code w0 w7 w8 w9 ((((xs (i + 1)).toInt64) <<< ((32 : Int32).toInt64 &&& 63)) ||| (((xs (i + 2)).toInt64) &&& 4294967295)) (xs (i + 3))).2.2.2.1) ((zf_M_code w0 w7 w8 w9 ((((xs (i + 1)).toInt64) <<< ((32 : Int32).toInt64 &&& 63)) ||| (((xs (i + 2)).toInt64) &&& 4294967295)) (xs (i + 3))).2.2.2.2) w10 w11 w12 w13 w14 w15 w16 w17 w18 w19 w20 w21 o (zq_code hR w0 ((((xs (i + 1)).toInt64) <<< ((32 : Int32).toInt64 &&& 63)) ||| (((xs (i + 2)).toInt64) &&& 4294967295)) (xs (i + 3))).2 _ _ hP hD hS _ (lv_sub hl [0, 1, 2, 3, 4] rfl)
set_option maxHeartbeats 4000000 in
set_option maxRecDepth 100000 in
theorem zl_arm_7 {p : Program} {l : Launch} {e : Env} {s : State} {m : MethodId} {below : List Frame} {meth : Method} {c : Code} {A : Nat → Prop} {dC : Nat → ClassId} {dI : Nat → Nat → Nat} {cI cZ cL : ClassId} {a0 a1 a2 a3 a4 a5 a6 a7 a8 a9 a10 a11 a12 a13 a14 a15 a16 a17 a18 a19 a20 b L i t : Nat} {xs : Nat → Int32} (F : zl_F l p s m meth c b L xs A dC dI cI cZ cL) (hi : i + 4 < L) (ht : t ≤ 511) (kk : zl_K p l e s m below meth c A dC dI cI cZ cL a0 a1 a2 a3 a4 a5 a6 a7 a8 a9 a10 a11 a12 a13 a14 a15 a16 a17 a18 a19 a20 b i (21 + t + 1) (2133 + 6 * t + 6) 1002) : zl_K p l e s m below meth c A dC dI cI cZ cL a0 a1 a2 a3 a4 a5 a6 a7 a8 a9 a10 a11 a12 a13 a14 a15 a16 a17 a18 a19 a20 b i (21 + t) (2133 + 6 * t) 546 := by
  obtain ⟨hx, hb, hml, hown, htB, hX, hbl, hbA, hE, hZ, hA, hK, hf0, hL, hAs, hr, hlocks⟩ := id F
  intro st w0 w1 w2 w3 w4 w5 w6 w7 w8 w9 w10 w11 w12 w13 w14 w15 w16 w17 w18 w19 w20 w21 o hR H locs hP hD hS ls hl
  have hm := hR.S.m30
  have hc := hR.C.le
  have hp := hR.P.le
  have hxm : st.2.1.2.2.1 ≤ 30 := by rw [hR.S.made]; exact hm
  have hxc : st.2.2.1.2.2 ≤ 20 := by rw [hR.C.n]; exact hc
  have hxp : st.2.2.2.1.2.2.2 ≤ 20 := by rw [hR.P.n]; exact hp
  refine lv_aload_n hx hb zd_law_546 rfl (lv_at hl 1 rfl) ?_
  refine lv_aload_n hx hb zd_law_547 rfl (lv_at hl 0 rfl) ?_
  refine lv_iload hx hb zd_law_548 (lv_at hl 4 rfl) ?_
  refine lv_iconst (v := 1) hx hb zd_law_550 (by decide) ?_
  refine lv_iadd hx hb zd_law_551 ?_
  rw [nI_1 i]
  refine zl_sld hx hb hX hbl hbA hS (k := i + 1) (by omega) (by omega) zd_law_552 ?_
  refine zz_ci (va_runV (As := [.int (xs (i + 1))]) (rest := []) ⟨hx, hb, hml, hown, htB⟩ (zc_X_day l dC dI cI cZ cL a0 a1 a2 a3 a4 a5 a6 a7 a8 a9 a10 a11 H.size st (xs (i + 1)) ) (cwV 1 htB (zz_gV zk_4c7878c0 zk_8e95dda3 zk_ce3c0243 zk_cfe38e2e zk_f0cfdb23) rfl rfl rfl ⟨rfl, zh_X_day⟩ ⟨Nat.le_of_ble_eq_true rfl, Nat.le_of_ble_eq_true rfl⟩) (zz_preV (ci := 0) (q := (zr_X, zF_X, 7)) hP hD hK hE [0, 1, 2, 3, 4, 5, 6, 7, 8, 9, 10, 11] (by decide) rfl rfl rfl) rfl rfl hl.1 rfl (lv_room (Nat.le_of_ble_eq_true rfl)) zd_law_553 ⟨by show _ ≤ (1054 : Nat); omega, by show _ ≤ (10379 : Nat); omega⟩) hP hD hS hA [0, 1, 2, 3, 4, 5, 6, 7, 8, 9, 10, 11] [12, 13, 14, 15, 16, 17, 18, 19, 20] [9, 10, 11, 12, 13, 14, 15, 16, 17, 18, 19, 20, 0, 1, 2, 3, 4, 5, 6, 7, 8] rfl rfl (by decide) (by decide) (by decide) rfl (fun H locs hP hD hS => ?_)
  have hP : va_P (dC, dI) zz_cl (zv_L cI cZ cL a0 a1 a2 a3 a4 a5 a6 a7 a8 a9 a10 a11 a12 a13 a14 a15 a16 a17 a18 a19 a20 ((zf_X_day st (xs (i + 1))).2) w0 w1 w2 w3 w4 w5 w6 w7 w8 w9 w10 w11 w12 w13 w14 w15 w16 w17 w18 w19 w20 w21 o) H := hP
  have hD : va_D A (zv_L cI cZ cL a0 a1 a2 a3 a4 a5 a6 a7 a8 a9 a10 a11 a12 a13 a14 a15 a16 a17 a18 a19 a20 ((zf_X_day st (xs (i + 1))).2) w0 w1 w2 w3 w4 w5 w6 w7 w8 w9 w10 w11 w12 w13 w14 w15 w16 w17 w18 w19 w20 w21 o) := hD
  refine lv_aload_n hx hb zd_law_556 rfl (lv_at hl 2 rfl) ?_
  refine lv_aload_n hx hb zd_law_557 rfl (lv_at hl 0 rfl) ?_
  refine lv_iload hx hb zd_law_558 (lv_at hl 4 rfl) ?_
  refine lv_iconst (v := 1) hx hb zd_law_560 (by decide) ?_
  refine lv_iadd hx hb zd_law_561 ?_
  rw [nI_1 i]
  refine zl_sld hx hb hX hbl hbA hS (k := i + 1) (by omega) (by omega) zd_law_562 ?_
  refine zz_ci (va_runV (As := [.int (xs (i + 1))]) (rest := [.int ((zf_X_day st (xs (i + 1))).1)]) ⟨hx, hb, hml, hown, htB⟩ (zc_M_day l dC dI cI cZ cL a12 a13 a14 a15 a16 a17 a18 a19 H.size w0 w1 w2 w3 w4 w5 w6 w7 w8 w9 w10 w11 w12 w13 w14 w15 w16 w17 w18 w19 w20 w21 (xs (i + 1)) ) (cwV 1 htB (zz_gV zk_bb869da4 zk_578d7969 zk_4927891a zk_91cc3b19 zk_176d6d1e) rfl rfl rfl ⟨rfl, zh_M_day⟩ ⟨Nat.le_of_ble_eq_true rfl, Nat.le_of_ble_eq_true rfl⟩) (zz_preV (ci := 5) (q := (zr_M, zF_M, 22)) hP hD hK hE [12, 13, 14, 15, 16, 17, 18, 19] (by decide) rfl rfl rfl) rfl rfl hl.1 rfl (lv_room (Nat.le_of_ble_eq_true rfl)) zd_law_563 ⟨by show _ ≤ (1054 : Nat); omega, by show _ ≤ (10379 : Nat); omega⟩) hP hD hS hA [12, 13, 14, 15, 16, 17, 18, 19] [0, 1, 2, 3, 4, 5, 6, 7, 8, 9, 10, 11, 20] [0, 1, 2, 3, 4, 5, 6, 7, 8, 9, 10, 11, 13, 14, 15, 16, 17, 18, 19, 20, 12] rfl rfl (by decide) (by decide) (by decide) rfl (fun H locs hP hD hS => ?_)
  have hP : va_P (dC, dI) zz_cl (zv_L cI cZ cL a0 a1 a2 a3 a4 a5 a6 a7 a8 a9 a10 a11 a12 a13 a14 a15 a16 a17 a18 a19 a20 ((zf_X_day st (xs (i + 1))).2) ((zf_M_day w0 w6 (xs (i + 1))).2.1) w1 w2 w3 w4 w5 ((zf_M_day w0 w6 (xs (i + 1))).2.2) w7 w8 w9 w10 w11 w12 w13 w14 w15 w16 w17 w18 w19 w20 w21 o) H := hP
  have hD : va_D A (zv_L cI cZ cL a0 a1 a2 a3 a4 a5 a6 a7 a8 a9 a10 a11 a12 a13 a14 a15 a16 a17 a18 a19 a20 ((zf_X_day st (xs (i + 1))).2) ((zf_M_day w0 w6 (xs (i + 1))).2.1) w1 w2 w3 w4 w5 ((zf_M_day w0 w6 (xs (i + 1))).2.2) w7 w8 w9 w10 w11 w12 w13 w14 w15 w16 w17 w18 w19 w20 w21 o) := hD
  refine lv_icmp_eq (tgt := 1002) hx hb zd_law_566 (by decide) (fun _ => ?_) (fun c_ => absurd (zq_day hR w0 (xs (i + 1))).1 c_)
  refine W.widen (k := 21 + t + 1) (n := 2133 + 6 * t + 6) (by omega) (by omega) ?_
  exact kk ((zf_X_day st (xs (i + 1))).2) ((zf_M_day w0 w6 (xs (i + 1))).2.1) w1 w2 w3 w4 w5 ((zf_M_day w0 w6 (xs (i + 1))).2.2) w7 w8 w9 w10 w11 w12 w13 w14 w15 w16 w17 w18 w19 w20 w21 o (zq_day hR w0 (xs (i + 1))).2 _ _ hP hD hS _ (lv_sub hl [0, 1, 2, 3, 4] rfl)
set_option maxHeartbeats 4000000 in
set_option maxRecDepth 100000 in
theorem zl_arm_8 {p : Program} {l : Launch} {e : Env} {s : State} {m : MethodId} {below : List Frame} {meth : Method} {c : Code} {A : Nat → Prop} {dC : Nat → ClassId} {dI : Nat → Nat → Nat} {cI cZ cL : ClassId} {a0 a1 a2 a3 a4 a5 a6 a7 a8 a9 a10 a11 a12 a13 a14 a15 a16 a17 a18 a19 a20 b L i t : Nat} {xs : Nat → Int32} (F : zl_F l p s m meth c b L xs A dC dI cI cZ cL) (hi : i + 4 < L) (ht : t ≤ 511) (kk : zl_K p l e s m below meth c A dC dI cI cZ cL a0 a1 a2 a3 a4 a5 a6 a7 a8 a9 a10 a11 a12 a13 a14 a15 a16 a17 a18 a19 a20 b i (21 + t + 1) (2133 + 6 * t + 6) 1002) : zl_K p l e s m below meth c A dC dI cI cZ cL a0 a1 a2 a3 a4 a5 a6 a7 a8 a9 a10 a11 a12 a13 a14 a15 a16 a17 a18 a19 a20 b i (21 + t) (2133 + 6 * t) 571 := by
  obtain ⟨hx, hb, hml, hown, htB, hX, hbl, hbA, hE, hZ, hA, hK, hf0, hL, hAs, hr, hlocks⟩ := id F
  intro st w0 w1 w2 w3 w4 w5 w6 w7 w8 w9 w10 w11 w12 w13 w14 w15 w16 w17 w18 w19 w20 w21 o hR H locs hP hD hS ls hl
  have hm := hR.S.m30
  have hc := hR.C.le
  have hp := hR.P.le
  have hxm : st.2.1.2.2.1 ≤ 30 := by rw [hR.S.made]; exact hm
  have hxc : st.2.2.1.2.2 ≤ 20 := by rw [hR.C.n]; exact hc
  have hxp : st.2.2.2.1.2.2.2 ≤ 20 := by rw [hR.P.n]; exact hp
  refine lv_aload_n hx hb zd_law_571 rfl (lv_at hl 1 rfl) ?_
  refine zz_ki (va_runV (As := []) (rest := []) ⟨hx, hb, hml, hown, htB⟩ (zc_X_check l dC dI cI cZ cL a0 a1 a2 a3 a4 a5 a6 a7 a8 a9 a10 a11 H.size st  hxc) (cwV 0 htB (zz_gV zk_32786506 zk_f6b6f3c5 zk_7115eaaf zk_cfe38e2e zk_dd3f9fec) rfl rfl rfl ⟨rfl, zh_X_check⟩ ⟨Nat.le_of_ble_eq_true rfl, Nat.le_of_ble_eq_true rfl⟩) (zz_preV (ci := 0) (q := (zr_X, zF_X, 7)) hP hD hK hE [0, 1, 2, 3, 4, 5, 6, 7, 8, 9, 10, 11] (by decide) rfl rfl rfl) rfl rfl hl.1 rfl (lv_room (Nat.le_of_ble_eq_true rfl)) zd_law_572 ⟨by show _ ≤ (1054 : Nat); omega, by show _ ≤ (10379 : Nat); omega⟩) ?_
  refine lv_aload_n hx hb zd_law_575 rfl (lv_at hl 2 rfl) ?_
  refine zz_ci (va_runV (As := []) (rest := [.int (zf_X_check st)]) ⟨hx, hb, hml, hown, htB⟩ (zc_M_check l dC dI cI cZ cL a12 a13 a14 a15 a16 a17 a18 a19 H.size w0 w1 w2 w3 w4 w5 w6 w7 w8 w9 w10 w11 w12 w13 w14 w15 w16 w17 w18 w19 w20 w21  hm hc) (cwV 0 htB (zz_gV zk_1e42d0d0 zk_28e6573c zk_0eebee04 zk_91cc3b19 zk_c8f53340) rfl rfl rfl ⟨rfl, zh_M_check⟩ ⟨Nat.le_of_ble_eq_true rfl, Nat.le_of_ble_eq_true rfl⟩) (zz_preV (ci := 5) (q := (zr_M, zF_M, 22)) hP hD hK hE [12, 13, 14, 15, 16, 17, 18, 19] (by decide) rfl rfl rfl) rfl rfl hl.1 rfl (lv_room (Nat.le_of_ble_eq_true rfl)) zd_law_576 ⟨by show _ ≤ (1054 : Nat); omega, by show _ ≤ (10379 : Nat); omega⟩) hP hD hS hA [12, 13, 14, 15, 16, 17, 18, 19] [0, 1, 2, 3, 4, 5, 6, 7, 8, 9, 10, 11, 20] [0, 1, 2, 3, 4, 5, 6, 7, 8, 9, 10, 11, 13, 14, 15, 16, 17, 18, 19, 20, 12] rfl rfl (by decide) (by decide) (by decide) rfl (fun H locs hP hD hS => ?_)
  have hP : va_P (dC, dI) zz_cl (zv_L cI cZ cL a0 a1 a2 a3 a4 a5 a6 a7 a8 a9 a10 a11 a12 a13 a14 a15 a16 a17 a18 a19 a20 st ((zf_M_check w0 w1 w2 w3 w4 w6 w7 w8 w9).2) w1 w2 w3 w4 w5 w6 w7 w8 w9 w10 w11 w12 w13 w14 w15 w16 w17 w18 w19 w20 w21 o) H := hP
  have hD : va_D A (zv_L cI cZ cL a0 a1 a2 a3 a4 a5 a6 a7 a8 a9 a10 a11 a12 a13 a14 a15 a16 a17 a18 a19 a20 st ((zf_M_check w0 w1 w2 w3 w4 w6 w7 w8 w9).2) w1 w2 w3 w4 w5 w6 w7 w8 w9 w10 w11 w12 w13 w14 w15 w16 w17 w18 w19 w20 w21 o) := hD
  refine lv_icmp_eq (tgt := 1002) hx hb zd_law_579 (by decide) (fun _ => ?_) (fun c_ => absurd (zq_check hR w0) c_)
  refine W.widen (k := 21 + t + 1) (n := 2133 + 6 * t + 6) (by omega) (by omega) ?_
  exact kk st ((zf_M_check w0 w1 w2 w3 w4 w6 w7 w8 w9).2) w1 w2 w3 w4 w5 w6 w7 w8 w9 w10 w11 w12 w13 w14 w15 w16 w17 w18 w19 w20 w21 o hR _ _ hP hD hS _ (lv_sub hl [0, 1, 2, 3, 4] rfl)
