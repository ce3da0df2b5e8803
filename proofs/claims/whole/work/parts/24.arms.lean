set_option maxHeartbeats 4000000 in
set_option maxRecDepth 100000 in
theorem zl_arm_9 {p : Program} {l : Launch} {e : Env} {s : State} {m : MethodId} {below : List Frame} {meth : Method} {c : Code} {A : Nat → Prop} {dC : Nat → ClassId} {dI : Nat → Nat → Nat} {cI cZ cL : ClassId} {a0 a1 a2 a3 a4 a5 a6 a7 a8 a9 a10 a11 a12 a13 a14 a15 a16 a17 a18 a19 a20 b L i t : Nat} {xs : Nat → Int32} (F : zl_F l p s m meth c b L xs A dC dI cI cZ cL) (hi : i + 4 < L) (ht : t ≤ 511) (kk : zl_K p l e s m below meth c A dC dI cI cZ cL a0 a1 a2 a3 a4 a5 a6 a7 a8 a9 a10 a11 a12 a13 a14 a15 a16 a17 a18 a19 a20 b i (21 + t + 1) (2133 + 6 * t + 6) 1002) : zl_K p l e s m below meth c A dC dI cI cZ cL a0 a1 a2 a3 a4 a5 a6 a7 a8 a9 a10 a11 a12 a13 a14 a15 a16 a17 a18 a19 a20 b i (21 + t) (2133 + 6 * t) 584 := by
  obtain ⟨hx, hb, hml, hown, htB, hX, hbl, hbA, hE, hZ, hA, hK, hf0, hL, hAs, hr, hlocks⟩ := id F
  intro st w0 w1 w2 w3 w4 w5 w6 w7 w8 w9 w10 w11 w12 w13 w14 w15 w16 w17 w18 w19 w20 w21 o hR H locs hP hD hS ls hl
  have hm := hR.S.m30
  have hc := hR.C.le
  have hp := hR.P.le
  have hxm : st.2.1.2.2.1 ≤ 30 := by rw [hR.S.made]; exact hm
  have hxc : st.2.2.1.2.2 ≤ 20 := by rw [hR.C.n]; exact hc
  have hxp : st.2.2.2.1.2.2.2 ≤ 20 := by rw [hR.P.n]; exact hp
  refine lv_aload_n hx hb zd_law_584 rfl (lv_at hl 1 rfl) ?_
  refine zz_ci (va_runV (As := []) (rest := []) ⟨hx, hb, hml, hown, htB⟩ (zc_X_lodge l dC dI cI cZ cL a0 a1 a2 a3 a4 a5 a6 a7 a8 a9 a10 a11 H.size st  hxc) (cwV 0 htB (zz_gV zk_a65e49f3 zk_e4e634d6 zk_6e57d6ff zk_cfe38e2e zk_dabce10c) rfl rfl rfl ⟨rfl, zh_X_lodge⟩ ⟨Nat.le_of_ble_eq_true rfl, Nat.le_of_ble_eq_true rfl⟩) (zz_preV (ci := 0) (q := (zr_X, zF_X, 7)) hP hD hK hE [0, 1, 2, 3, 4, 5, 6, 7, 8, 9, 10, 11] (by decide) rfl rfl rfl) rfl rfl hl.1 rfl (lv_room (Nat.le_of_ble_eq_true rfl)) zd_law_585 ⟨by show _ ≤ (1054 : Nat); omega, by show _ ≤ (10379 : Nat); omega⟩) hP hD hS hA [0, 1, 2, 3, 4, 5, 6, 7, 8, 9, 10, 11] [12, 13, 14, 15, 16, 17, 18, 19, 20] [9, 10, 11, 12, 13, 14, 15, 16, 17, 18, 19, 20, 0, 1, 2, 3, 4, 5, 6, 7, 8] rfl rfl (by decide) (by decide) (by decide) rfl (fun H locs hP hD hS => ?_)
  have hP : va_P (dC, dI) zz_cl (zv_L cI cZ cL a0 a1 a2 a3 a4 a5 a6 a7 a8 a9 a10 a11 a12 a13 a14 a15 a16 a17 a18 a19 a20 ((zf_X_lodge st).2) w0 w1 w2 w3 w4 w5 w6 w7 w8 w9 w10 w11 w12 w13 w14 w15 w16 w17 w18 w19 w20 w21 o) H := hP
  have hD : va_D A (zv_L cI cZ cL a0 a1 a2 a3 a4 a5 a6 a7 a8 a9 a10 a11 a12 a13 a14 a15 a16 a17 a18 a19 a20 ((zf_X_lodge st).2) w0 w1 w2 w3 w4 w5 w6 w7 w8 w9 w10 w11 w12 w13 w14 w15 w16 w17 w18 w19 w20 w21 o) := hD
  refine lv_aload_n hx hb zd_law_588 rfl (lv_at hl 2 rfl) ?_
  refine zz_ci (va_runV (As := []) (rest := [.int ((zf_X_lodge st).1)]) ⟨hx, hb, hml, hown, htB⟩ (zc_M_lodge l dC dI cI cZ cL a12 a13 a14 a15 a16 a17 a18 a19 H.size w0 w1 w2 w3 w4 w5 w6 w7 w8 w9 w10 w11 w12 w13 w14 w15 w16 w17 w18 w19 w20 w21  hm hc) (cwV 0 htB (zz_gV zk_e68587bf zk_a93e4e19 zk_b13e7c89 zk_91cc3b19 zk_8b1b51f7) rfl rfl rfl ⟨rfl, zh_M_lodge⟩ ⟨Nat.le_of_ble_eq_true rfl, Nat.le_of_ble_eq_true rfl⟩) (zz_preV (ci := 5) (q := (zr_M, zF_M, 22)) hP hD hK hE [12, 13, 14, 15, 16, 17, 18, 19] (by decide) rfl rfl rfl) rfl rfl hl.1 rfl (lv_room (Nat.le_of_ble_eq_true rfl)) zd_law_589 ⟨by show _ ≤ (1054 : Nat); omega, by show _ ≤ (10379 : Nat); omega⟩) hP hD hS hA [12, 13, 14, 15, 16, 17, 18, 19] [0, 1, 2, 3, 4, 5, 6, 7, 8, 9, 10, 11, 20] [0, 1, 2, 3, 4, 5, 6, 7, 8, 9, 10, 11, 13, 14, 15, 16, 17, 18, 19, 20, 12] rfl rfl (by decide) (by decide) (by decide) rfl (fun H locs hP hD hS => ?_)
  have hP : va_P (dC, dI) zz_cl (zv_L cI cZ cL a0 a1 a2 a3 a4 a5 a6 a7 a8 a9 a10 a11 a12 a13 a14 a15 a16 a17 a18 a19 a20 ((zf_X_lodge st).2) ((zf_M_lodge w0 w1 w2 w3 w4 w5 w6 w7 w8 w9).2.1) w1 w2 w3 w4 ((zf_M_lodge w0 w1 w2 w3 w4 w5 w6 w7 w8 w9).2.2) w6 w7 w8 w9 w10 w11 w12 w13 w14 w15 w16 w17 w18 w19 w20 w21 o) H := hP
  have hD : va_D A (zv_L cI cZ cL a0 a1 a2 a3 a4 a5 a6 a7 a8 a9 a10 a11 a12 a13 a14 a15 a16 a17 a18 a19 a20 ((zf_X_lodge st).2) ((zf_M_lodge w0 w1 w2 w3 w4 w5 w6 w7 w8 w9).2.1) w1 w2 w3 w4 ((zf_M_lodge w0 w1 w2 w3 w4 w5 w6 w7 w8 w9).2.2) w6 w7 w8 w9 w10 w11 w12 w13 w14 w15 w16 w17 w18 w19 w20 w21 o) := hD
  refine lv_icmp_eq (tgt := 1002) hx hb zd_law_592 (by decide) (fun _ => ?_) (fun c_ => absurd (zq_lodge hR w0).1 c_)
  refine W.widen (k := 21 + t + 1) (n := 2133 + 6 * t + 6) (by omega) (by omega) ?_
  exact kk ((zf_X_lodge st).2) ((zf_M_lodge w0 w1 w2 w3 w4 w5 w6 w7 w8 w9).2.1) w1 w2 w3 w4 ((zf_M_lodge w0 w1 w2 w3 w4 w5 w6 w7 w8 w9).2.2) w6 w7 w8 w9 w10 w11 w12 w13 w14 w15 w16 w17 w18 w19 w20 w21 o (zq_lodge hR w0).2 _ _ hP hD hS _ (lv_sub hl [0, 1, 2, 3, 4] rfl)
set_option maxHeartbeats 4000000 in
set_option maxRecDepth 100000 in
theorem zl_arm_10 {p : Program} {l : Launch} {e : Env} {s : State} {m : MethodId} {below : List Frame} {meth : Method} {c : Code} {A : Nat → Prop} {dC : Nat → ClassId} {dI : Nat → Nat → Nat} {cI cZ cL : ClassId} {a0 a1 a2 a3 a4 a5 a6 a7 a8 a9 a10 a11 a12 a13 a14 a15 a16 a17 a18 a19 a20 b L i t : Nat} {xs : Nat → Int32} (F : zl_F l p s m meth c b L xs A dC dI cI cZ cL) (hi : i + 4 < L) (ht : t ≤ 511) (kk : zl_K p l e s m below meth c A dC dI cI cZ cL a0 a1 a2 a3 a4 a5 a6 a7 a8 a9 a10 a11 a12 a13 a14 a15 a16 a17 a18 a19 a20 b i (21 + t + 1) (2133 + 6 * t + 6) 1002) : zl_K p l e s m below meth c A dC dI cI cZ cL a0 a1 a2 a3 a4 a5 a6 a7 a8 a9 a10 a11 a12 a13 a14 a15 a16 a17 a18 a19 a20 b i (21 + t) (2133 + 6 * t) 597 := by
  obtain ⟨hx, hb, hml, hown, htB, hX, hbl, hbA, hE, hZ, hA, hK, hf0, hL, hAs, hr, hlocks⟩ := id F
  intro st w0 w1 w2 w3 w4 w5 w6 w7 w8 w9 w10 w11 w12 w13 w14 w15 w16 w17 w18 w19 w20 w21 o hR H locs hP hD hS ls hl
  have hm := hR.S.m30
  have hc := hR.C.le
  have hp := hR.P.le
  have hxm : st.2.1.2.2.1 ≤ 30 := by rw [hR.S.made]; exact hm
  have hxc : st.2.2.1.2.2 ≤ 20 := by rw [hR.C.n]; exact hc
  have hxp : st.2.2.2.1.2.2.2 ≤ 20 := by rw [hR.P.n]; exact hp
  refine lv_aload_n hx hb zd_law_597 rfl (lv_at hl 1 rfl) ?_
  refine lv_aload_n hx hb zd_law_598 rfl (lv_at hl 0 rfl) ?_
  refine lv_iload hx hb zd_law_599 (lv_at hl 4 rfl) ?_
  refine lv_iconst (v := 1) hx hb zd_law_601 (by decide) ?_
  refine lv_iadd hx hb zd_law_602 ?_
  rw [nI_1 i]
  refine zl_sld hx hb hX hbl hbA hS (k := i + 1) (by omega) (by omega) zd_law_603 ?_
  refine lv_aload_n hx hb zd_law_604 rfl (lv_at hl 0 rfl) ?_
  refine lv_iload hx hb zd_law_605 (lv_at hl 4 rfl) ?_
  refine lv_iconst (v := 2) hx hb zd_law_607 (by decide) ?_
  refine lv_iadd hx hb zd_law_608 ?_
  rw [show nI i + 2 = nI (i + 2) from nI_add i 2]
  refine zl_sld hx hb hX hbl hbA hS (k := i + 2) (by omega) (by omega) zd_law_609 ?_
  refine lv_aload_n hx hb zd_law_610 rfl (lv_at hl 0 rfl) ?_
  refine lv_iload hx hb zd_law_611 (lv_at hl 4 rfl) ?_
  refine lv_iconst (v := 3) hx hb zd_law_613 (by decide) ?_
  refine lv_iadd hx hb zd_law_614 ?_
  rw [show nI i + 3 = nI (i + 3) from nI_add i 3]
  refine zl_sld hx hb hX hbl hbA hS (k := i + 3) (by omega) (by omega) zd_law_615 ?_
  refine lv_i2l hx hb zd_law_616 rfl ?_
  refine lv_bipush (v := 32) hx hb zd_law_617 (by decide) ?_
  refine lv_lshl hx hb zd_law_619 rfl ?_
  refine lv_aload_n hx hb zd_law_620 rfl (lv_at hl 0 rfl) ?_
  refine lv_iload hx hb zd_law_621 (lv_at hl 4 rfl) ?_
  refine lv_iconst (v := 4) hx hb zd_law_623 (by decide) ?_
  refine lv_iadd hx hb zd_law_624 ?_
  rw [show nI i + 4 = nI (i + 4) from nI_add i 4]
  refine zl_sld hx hb hX hbl hbA hS (k := i + 4) (by omega) (by omega) zd_law_625 ?_
  refine lv_i2l hx hb zd_law_626 rfl ?_
  refine lv_ldc2 (v := 4294967295) hx hb hown (htB _ zk_f7ae233a) zd_law_627 ?_
  refine lv_land hx hb zd_law_630 ?_
  refine lv_lor hx hb zd_law_631 ?_
  refine lv_aload_n hx hb zd_law_632 rfl (lv_at hl 3 rfl) ?_
  refine zz_ci (zh_runS (As := [.ref a0, .int (xs (i + 1)), .int (xs (i + 2)), .long ((((xs (i + 3)).toInt64) <<< ((32 : Int32).toInt64 &&& 63)) ||| (((xs (i + 4)).toInt64) &&& 4294967295)), .ref a20]) (rest := []) ⟨hx, hb, hml, hown, htB⟩ (zc_H_amend l dC dI cI cZ cL a0 a1 a2 a3 a4 a5 a6 a7 a8 a9 a10 a11 a20 H.size (st, o) (xs (i + 1)) (xs (i + 2)) ((((xs (i + 3)).toInt64) <<< ((32 : Int32).toInt64 &&& 63)) ||| (((xs (i + 4)).toInt64) &&& 4294967295)) hxc hf0) (zh_g zk_e66c1ea9 zk_c8a09942 zk_47055d91 zk_53adebf8) rfl rfl rfl zh_H_amend ⟨Nat.le_of_ble_eq_true rfl, Nat.le_of_ble_eq_true rfl⟩ (zh_preS hP hD hK hE hZ hS hA [0, 1, 2, 3, 4, 5, 6, 7, 8, 9, 10, 11, 20] (by decide) rfl) rfl rfl hl.1 rfl (lv_room (Nat.le_of_ble_eq_true rfl)) zd_law_633 ⟨by show _ ≤ (1054 : Nat); omega, by show _ ≤ (10379 : Nat); omega⟩) hP hD hS hA [0, 1, 2, 3, 4, 5, 6, 7, 8, 9, 10, 11, 20] [12, 13, 14, 15, 16, 17, 18, 19] [8, 9, 10, 11, 12, 13, 14, 15, 16, 17, 18, 19, 0, 1, 2, 3, 4, 5, 6, 7, 20] rfl rfl (by decide) (by decide) (by decide) rfl (fun H locs hP hD hS => ?_)
  have hP : va_P (dC, dI) zz_cl (zv_L cI cZ cL a0 a1 a2 a3 a4 a5 a6 a7 a8 a9 a10 a11 a12 a13 a14 a15 a16 a17 a18 a19 a20 (((zf_H_amend (st, o) (xs (i + 1)) (xs (i + 2)) ((((xs (i + 3)).toInt64) <<< ((32 : Int32).toInt64 &&& 63)) ||| (((xs (i + 4)).toInt64) &&& 4294967295))).2).1) w0 w1 w2 w3 w4 w5 w6 w7 w8 w9 w10 w11 w12 w13 w14 w15 w16 w17 w18 w19 w20 w21 (((zf_H_amend (st, o) (xs (i + 1)) (xs (i + 2)) ((((xs (i + 3)).toInt64) <<< ((32 : Int32).toInt64 &&& 63)) ||| (((xs (i + 4)).toInt64) &&& 4294967295))).2).2)) H := hP
  have hD : va_D A (zv_L cI cZ cL a0 a1 a2 a3 a4 a5 a6 a7 a8 a9 a10 a11 a12 a13 a14 a15 a16 a17 a18 a19 a20 (((zf_H_amend (st, o) (xs (i + 1)) (xs (i + 2)) ((((xs (i + 3)).toInt64) <<< ((32 : Int32).toInt64 &&& 63)) ||| (((xs (i + 4)).toInt64) &&& 4294967295))).2).1) w0 w1 w2 w3 w4 w5 w6 w7 w8 w9 w10 w11 w12 w13 w14 w15 w16 w17 w18 w19 w20 w21 (((zf_H_amend (st, o) (xs (i + 1)) (xs (i + 2)) ((((xs (i + 3)).toInt64) <<< ((32 : Int32).toInt64 &&& 63)) ||| (((xs (i + 4)).toInt64) &&& 4294967295))).2).2)) := hD
  refine lv_istore (lv' := [(5, .int ((zf_H_amend (st, o) (xs (i + 1)) (xs (i + 2)) ((((xs (i + 3)).toInt64) <<< ((32 : Int32).toInt64 &&& 63)) ||| (((xs (i + 4)).toInt64) &&& 4294967295))).1)), (0, .ref b), (1, .ref a0), (2, .ref a12), (3, .ref a20), (4, .int (nI i))]) hx hb zd_law_636 hl (by decide) rfl (fun ls hl => ?_)
  refine lv_aload_n hx hb zd_law_638 rfl (lv_at hl 3 rfl) ?_
  refine lv_aload_n hx hb zd_law_639 rfl (lv_at hl 1 rfl) ?_
  refine lv_iload hx hb zd_law_640 (lv_at hl 5 rfl) ?_
  refine lv_iconst (v := 1) hx hb zd_law_642 (by decide) ?_
  refine lv_iadd hx hb zd_law_643 ?_
  rw [nI_1 i]
  refine zl_sld hx hb hX hbl hbA hS (k := i + 1) (by omega) (by omega) zd_law_644 ?_
  refine lv_aload_n hx hb zd_law_645 rfl (lv_at hl 1 rfl) ?_
  refine lv_iload hx hb zd_law_646 (lv_at hl 5 rfl) ?_
  refine lv_iconst (v := 2) hx hb zd_law_648 (by decide) ?_
  refine lv_iadd hx hb zd_law_649 ?_
  rw [show nI i + 2 = nI (i + 2) from nI_add i 2]
  refine zl_sld hx hb hX hbl hbA hS (k := i + 2) (by omega) (by omega) zd_law_650 ?_
  refine lv_aload_n hx hb zd_law_651 rfl (lv_at hl 1 rfl) ?_
  refine lv_iload hx hb zd_law_652 (lv_at hl 5 rfl) ?_
  refine lv_iconst (v := 3) hx hb zd_law_654 (by decide) ?_
  refine lv_iadd hx hb zd_law_655 ?_
  rw [show nI i + 3 = nI (i + 3) from nI_add i 3]
  refine zl_sld hx hb hX hbl hbA hS (k := i + 3) (by omega) (by omega) zd_law_656 ?_
  refine lv_i2l hx hb zd_law_657 rfl ?_
  refine lv_bipush (v := 32) hx hb zd_law_658 (by decide) ?_
  refine lv_lshl hx hb zd_law_660 rfl ?_
  refine lv_aload_n hx hb zd_law_661 rfl (lv_at hl 1 rfl) ?_
  refine lv_iload hx hb zd_law_662 (lv_at hl 5 rfl) ?_
  refine lv_iconst (v := 4) hx hb zd_law_664 (by decide) ?_
  refine lv_iadd hx hb zd_law_665 ?_
  rw [show nI i + 4 = nI (i + 4) from nI_add i 4]
  refine zl_sld hx hb hX hbl hbA hS (k := i + 4) (by omega) (by omega) zd_law_666 ?_
  refine lv_i2l hx hb zd_law_667 rfl ?_
  refine lv_ldc2 (v := 4294967295) hx hb hown (htB _ zk_f7ae233a) zd_law_668 ?_
  refine lv_land hx hb zd_law_671 ?_
  refine lv_lor hx hb zd_law_672 ?_
  refine zz_ci (va_runV (As := [.int (xs (i + 1)), .int (xs (i + 2)), .long ((((xs (i + 3)).toInt64) <<< ((32 : Int32).toInt64 &&& 63)) ||| (((xs (i + 4)).toInt64) &&& 4294967295))]) (rest := []) ⟨hx, hb, hml, hown, htB⟩ (zc_M_amend l dC dI cI cZ cL a12 a13 a14 a15 a16 a17 a18 a19 H.size w0 w1 w2 w3 w4 w5 w6 w7 w8 w9 w10 w11 w12 w13 w14 w15 w16 w17 w18 w19 w20 w21 (xs (i + 1)) (xs (i + 2)) ((((xs (i + 3)).toInt64) <<< ((32 : Int32).toInt64 &&& 63)) ||| (((xs (i + 4)).toInt64) &&& 4294967295)) hm hc) (cwV 3 htB (zz_gV zk_30c964a0 zk_8aec31e8 zk_70e0b51b zk_91cc3b19 zk_4573c7fc) rfl rfl rfl ⟨rfl, zh_M_amend⟩ ⟨Nat.le_of_ble_eq_true rfl, Nat.le_of_ble_eq_true rfl⟩) (zz_preV (ci := 5) (q := (zr_M, zF_M, 22)) hP hD hK hE [12, 13, 14, 15, 16, 17, 18, 19] (by decide) rfl rfl rfl) rfl rfl hl.1 rfl (lv_room (Nat.le_of_ble_eq_true rfl)) zd_law_673 ⟨by show _ ≤ (1054 : Nat); omega, by show _ ≤ (10379 : Nat); omega⟩) hP hD hS hA [12, 13, 14, 15, 16, 17, 18, 19] [0, 1, 2, 3, 4, 5, 6, 7, 8, 9, 10, 11, 20] [0, 1, 2, 3, 4, 5, 6, 7, 8, 9, 10, 11, 13, 14, 15, 16, 17, 18, 19, 20, 12] rfl rfl (by decide) (by decide) (by decide) rfl (fun H locs hP hD hS => ?_)
  have hP : va_P (dC, dI) zz_cl (zv_L cI cZ cL a0 a1 a2 a3 a4 a5 a6 a7 a8 a9 a10 a11 a12 a13 a14 a15 a16 a17 a18 a19 a20 (((zf_H_amend (st, o) (xs (i + 1)) (xs (i + 2)) ((((xs (i + 3)).toInt64) <<< ((32 : Int32).toInt64 &&& 63)) ||| (((xs (i + 4)).toInt64) &&& 4294967295))).2).1) ((zf_M_amend w0 w1 w2 w3 w4 w5 w6 w7 w8 w9 (xs (i + 1)) (xs (i + 2)) ((((xs (i + 3)).toInt64) <<< ((32 : Int32).toInt64 &&& 63)) ||| (((xs (i + 4)).toInt64) &&& 4294967295))).2.1) w1 w2 w3 ((zf_M_amend w0 w1 w2 w3 w4 w5 w6 w7 w8 w9 (xs (i + 1)) (xs (i + 2)) ((((xs (i + 3)).toInt64) <<< ((32 : Int32).toInt64 &&& 63)) ||| (((xs (i + 4)).toInt64) &&& 4294967295))).2.2) w5 w6 w7 w8 w9 w10 w11 w12 w13 w14 w15 w16 w17 w18 w19 w20 w21 (((zf_H_amend (st, o) (xs (i + 1)) (xs (i + 2)) ((((xs (i + 3)).toInt64) <<< ((32 : Int32).toInt64 &&& 63)) ||| (((xs (i + 4)).toInt64) &&& 4294967295))).2).2)) H := hP
  have hD : va_D A (zv_L cI cZ cL a0 a1 a2 a3 a4 a5 a6 a7 a8 a9 a10 a11 a12 a13 a14 a15 a16 a17 a18 a19 a20 (((zf_H_amend (st, o) (xs (i + 1)) (xs (i + 2)) ((((xs (i + 3)).toInt64) <<< ((32 : Int32).toInt64 &&& 63)) ||| (((xs (i + 4)).toInt64) &&& 4294967295))).2).1) ((zf_M_amend w0 w1 w2 w3 w4 w5 w6 w7 w8 w9 (xs (i + 1)) (xs (i + 2)) ((((xs (i + 3)).toInt64) <<< ((32 : Int32).toInt64 &&& 63)) ||| (((xs (i + 4)).toInt64) &&& 4294967295))).2.1) w1 w2 w3 ((zf_M_amend w0 w1 w2 w3 w4 w5 w6 w7 w8 w9 (xs (i + 1)) (xs (i + 2)) ((((xs (i + 3)).toInt64) <<< ((32 : Int32).toInt64 &&& 63)) ||| (((xs (i + 4)).toInt64) &&& 4294967295))).2.2) w5 w6 w7 w8 w9 w10 w11 w12 w13 w14 w15 w16 w17 w18 w19 w20 w21 (((zf_H_amend (st, o) (xs (i + 1)) (xs (i + 2)) ((((xs (i + 3)).toInt64) <<< ((32 : Int32).toInt64 &&& 63)) ||| (((xs (i + 4)).toInt64) &&& 4294967295))).2).2)) := hD
  refine lv_istore (lv' := [(6, .int ((zf_M_amend w0 w1 w2 w3 w4 w5 w6 w7 w8 w9 (xs (i + 1)) (xs (i + 2)) ((((xs (i + 3)).toInt64) <<< ((32 : Int32).toInt64 &&& 63)) ||| (((xs (i + 4)).toInt64) &&& 4294967295))).1)), (5, .int ((zf_H_amend (st, o) (xs (i + 1)) (xs (i + 2)) ((((xs (i + 3)).toInt64) <<< ((32 : Int32).toInt64 &&& 63)) ||| (((xs (i + 4)).toInt64) &&& 4294967295))).1)), (0, .ref b), (1, .ref a0), (2, .ref a12), (3, .ref a20), (4, .int (nI i))]) hx hb zd_law_676 hl (by decide) rfl (fun ls hl => ?_)
  refine lv_aload_n hx hb zd_law_678 rfl (lv_at hl 4 rfl) ?_
  refine zz_ki (va_runV (As := []) (rest := []) ⟨hx, hb, hml, hown, htB⟩ (zc_M_thrown l dC dI cI cZ cL a12 a13 a14 a15 a16 a17 a18 a19 H.size ((zf_M_amend w0 w1 w2 w3 w4 w5 w6 w7 w8 w9 (xs (i + 1)) (xs (i + 2)) ((((xs (i + 3)).toInt64) <<< ((32 : Int32).toInt64 &&& 63)) ||| (((xs (i + 4)).toInt64) &&& 4294967295))).2.1) w1 w2 w3 ((zf_M_amend w0 w1 w2 w3 w4 w5 w6 w7 w8 w9 (xs (i + 1)) (xs (i + 2)) ((((xs (i + 3)).toInt64) <<< ((32 : Int32).toInt64 &&& 63)) ||| (((xs (i + 4)).toInt64) &&& 4294967295))).2.2) w5 w6 w7 w8 w9 w10 w11 w12 w13 w14 w15 w16 w17 w18 w19 w20 w21  ) (cwV 0 htB (zz_gV zk_8e32f3ef zk_7bff8b59 zk_098c063e zk_91cc3b19 zk_b51a64f9) rfl rfl rfl ⟨rfl, zh_M_thrown⟩ ⟨Nat.le_of_ble_eq_true rfl, Nat.le_of_ble_eq_true rfl⟩) (zz_preV (ci := 5) (q := (zr_M, zF_M, 22)) hP hD hK hE [12, 13, 14, 15, 16, 17, 18, 19] (by decide) rfl rfl rfl) rfl rfl hl.1 rfl (lv_room (Nat.le_of_ble_eq_true rfl)) zd_law_679 ⟨by show _ ≤ (1054 : Nat); omega, by show _ ≤ (10379 : Nat); omega⟩) ?_
  refine lv_iload hx hb zd_law_682 (lv_at hl 1 rfl) ?_
  refine lv_icmp_eq (tgt := 689) hx hb zd_law_684 (by decide) (fun _ => ?_) (fun c_ => absurd ((zq_amend hR w0 (xs (i + 1)) (xs (i + 2)) ((((xs (i + 3)).toInt64) <<< ((32 : Int32).toInt64 &&& 63)) ||| (((xs (i + 4)).toInt64) &&& 4294967295))).1.symm.trans (zl_H_amend st o (xs (i + 1)) (xs (i + 2)) ((((xs (i + 3)).toInt64) <<< ((32 : Int32).toInt64 &&& 63)) ||| (((xs (i + 4)).toInt64) &&& 4294967295))).1.symm) c_)
  refine lv_iload hx hb zd_law_689 (lv_at hl 1 rfl) ?_
  refine lv_if_ne (tgt := 706) hx hb zd_law_691 (by decide) (fun c_691 => ?_) (fun c_691 => ?_)
  · refine lv_goto (tgt := 1002) hx hb zd_law_706 (by decide) ?_
    refine W.widen (k := 21 + t + 1) (n := 2133 + 6 * t + 6) (by omega) (by omega) ?_
    exact kk (((zf_H_amend (st, o) (xs (i + 1)) (xs (i + 2)) ((((xs (i + 3)).toInt64) <<< ((32 : Int32).toInt64 &&& 63)) ||| (((xs (i + 4)).toInt64) &&& 4294967295))).2).1) ((zf_M_amend w0 w1 w2 w3 w4 w5 w6 w7 w8 w9 (xs (i + 1)) (xs (i + 2)) ((((xs (i + 3)).toInt64) <<< ((32 : Int32).toInt64 &&& 63)) ||| (((xs (i + 4)).toInt64) &&& 4294967295))).2.1) w1 w2 w3 ((zf_M_amend w0 w1 w2 w3 w4 w5 w6 w7 w8 w9 (xs (i + 1)) (xs (i + 2)) ((((xs (i + 3)).toInt64) <<< ((32 : Int32).toInt64 &&& 63)) ||| (((xs (i + 4)).toInt64) &&& 4294967295))).2.2) w5 w6 w7 w8 w9 w10 w11 w12 w13 w14 w15 w16 w17 w18 w19 w20 w21 (((zf_H_amend (st, o) (xs (i + 1)) (xs (i + 2)) ((((xs (i + 3)).toInt64) <<< ((32 : Int32).toInt64 &&& 63)) ||| (((xs (i + 4)).toInt64) &&& 4294967295))).2).2) (by rw [(zl_H_amend st o (xs (i + 1)) (xs (i + 2)) ((((xs (i + 3)).toInt64) <<< ((32 : Int32).toInt64 &&& 63)) ||| (((xs (i + 4)).toInt64) &&& 4294967295))).2.1]; exact (zq_amend hR w0 (xs (i + 1)) (xs (i + 2)) ((((xs (i + 3)).toInt64) <<< ((32 : Int32).toInt64 &&& 63)) ||| (((xs (i + 4)).toInt64) &&& 4294967295))).2.2) _ _ hP hD hS _ (lv_sub hl [2, 3, 4, 5, 6] rfl)
  · refine lv_aload_n hx hb zd_law_694 rfl (lv_at hl 5 rfl) ?_
    refine lv_iconst (v := 0) hx hb zd_law_695 (by decide) ?_
    refine va_lald hx hb hK hP 20 2 rfl rfl zh_in0 zd_law_696 ?_
    refine lv_iload hx hb zd_law_697 (lv_at hl 0 rfl) ?_
    refine lv_i2l hx hb zd_law_699 rfl ?_
    refine W.lcmp hx hb zd_law_700 ?_
    refine lv_if_eq (tgt := 706) hx hb zd_law_701 (by decide) (fun _ => ?_) (fun c_ => absurd ((lg_cmp_eq _ _).mpr (((zl_H_amend st o (xs (i + 1)) (xs (i + 2)) ((((xs (i + 3)).toInt64) <<< ((32 : Int32).toInt64 &&& 63)) ||| (((xs (i + 4)).toInt64) &&& 4294967295))).2.2 c_691).2.trans (congrArg Int32.toInt64 ((zq_amend hR w0 (xs (i + 1)) (xs (i + 2)) ((((xs (i + 3)).toInt64) <<< ((32 : Int32).toInt64 &&& 63)) ||| (((xs (i + 4)).toInt64) &&& 4294967295))).2.1 ((zl_H_amend st o (xs (i + 1)) (xs (i + 2)) ((((xs (i + 3)).toInt64) <<< ((32 : Int32).toInt64 &&& 63)) ||| (((xs (i + 4)).toInt64) &&& 4294967295))).2.2 c_691).1)))) c_)
    refine lv_goto (tgt := 1002) hx hb zd_law_706 (by decide) ?_
    refine W.widen (k := 21 + t + 1) (n := 2133 + 6 * t + 6) (by omega) (by omega) ?_
    exact kk (((zf_H_amend (st, o) (xs (i + 1)) (xs (i + 2)) ((((xs (i + 3)).toInt64) <<< ((32 : Int32).toInt64 &&& 63)) ||| (((xs (i + 4)).toInt64) &&& 4294967295))).2).1) ((zf_M_amend w0 w1 w2 w3 w4 w5 w6 w7 w8 w9 (xs (i + 1)) (xs (i + 2)) ((((xs (i + 3)).toInt64) <<< ((32 : Int32).toInt64 &&& 63)) ||| (((xs (i + 4)).toInt64) &&& 4294967295))).2.1) w1 w2 w3 ((zf_M_amend w0 w1 w2 w3 w4 w5 w6 w7 w8 w9 (xs (i + 1)) (xs (i + 2)) ((((xs (i + 3)).toInt64) <<< ((32 : Int32).toInt64 &&& 63)) ||| (((xs (i + 4)).toInt64) &&& 4294967295))).2.2) w5 w6 w7 w8 w9 w10 w11 w12 w13 w14 w15 w16 w17 w18 w19 w20 w21 (((zf_H_amend (st, o) (xs (i + 1)) (xs (i + 2)) ((((xs (i + 3)).toInt64) <<< ((32 : Int32).toInt64 &&& 63)) ||| (((xs (i + 4)).toInt64) &&& 4294967295))).2).2) (by rw [(zl_H_amend st o (xs (i + 1)) (xs (i + 2)) ((((xs (i + 3)).toInt64) <<< ((32 : Int32).toInt64 &&& 63)) ||| (((xs (i + 4)).toInt64) &&& 4294967295))).2.1]; exact (zq_amend hR w0 (xs (i + 1)) (xs (i + 2)) ((((xs (i + 3)).toInt64) <<< ((32 : Int32).toInt64 &&& 63)) ||| (((xs (i + 4)).toInt64) &&& 4294967295))).2.2) _ _ hP hD hS _ (lv_sub hl [2, 3, 4, 5, 6] rfl)
set_option maxHeartbeats 4000000 in
set_option maxRecDepth 100000 in
theorem zl_arm_11 {p : Program} {l : Launch} {e : Env} {s : State} {m : MethodId} {below : List Frame} {meth : Method} {c : Code} {A : Nat → Prop} {dC : Nat → ClassId} {dI : Nat → Nat → Nat} {cI cZ cL : ClassId} {a0 a1 a2 a3 a4 a5 a6 a7 a8 a9 a10 a11 a12 a13 a14 a15 a16 a17 a18 a19 a20 b L i t : Nat} {xs : Nat → Int32} (F : zl_F l p s m meth c b L xs A dC dI cI cZ cL) (hi : i + 4 < L) (ht : t ≤ 511) (kk : zl_K p l e s m below meth c A dC dI cI cZ cL a0 a1 a2 a3 a4 a5 a6 a7 a8 a9 a10 a11 a12 a13 a14 a15 a16 a17 a18 a19 a20 b i (21 + t + 1) (2133 + 6 * t + 6) 1002) : zl_K p l e s m below meth c A dC dI cI cZ cL a0 a1 a2 a3 a4 a5 a6 a7 a8 a9 a10 a11 a12 a13 a14 a15 a16 a17 a18 a19 a20 b i (21 + t) (2133 + 6 * t) 709 := by
  obtain ⟨hx, hb, hml, hown, htB, hX, hbl, hbA, hE, hZ, hA, hK, hf0, hL, hAs, hr, hlocks⟩ := id F
  intro st w0 w1 w2 w3 w4 w5 w6 w7 w8 w9 w10 w11 w12 w13 w14 w15 w16 w17 w18 w19 w20 w21 o hR H locs hP hD hS ls hl
  have hm := hR.S.m30
  have hc := hR.C.le
  have hp := hR.P.le
  have hxm : st.2.1.2.2.1 ≤ 30 := by rw [hR.S.made]; exact hm
  have hxc : st.2.2.1.2.2 ≤ 20 := by rw [hR.C.n]; exact hc
  have hxp : st.2.2.2.1.2.2.2 ≤ 20 := by rw [hR.P.n]; exact hp
  refine lv_aload_n hx hb zd_law_709 rfl (lv_at hl 1 rfl) ?_
  refine lv_aload_n hx hb zd_law_710 rfl (lv_at hl 0 rfl) ?_
  refine lv_iload hx hb zd_law_711 (lv_at hl 4 rfl) ?_
  refine lv_iconst (v := 1) hx hb zd_law_713 (by decide) ?_
  refine lv_iadd hx hb zd_law_714 ?_
  rw [nI_1 i]
  refine zl_sld hx hb hX hbl hbA hS (k := i + 1) (by omega) (by omega) zd_law_715 ?_
  refine lv_aload_n hx hb zd_law_716 rfl (lv_at hl 0 rfl) ?_
  refine lv_iload hx hb zd_law_717 (lv_at hl 4 rfl) ?_
  refine lv_iconst (v := 2) hx hb zd_law_719 (by decide) ?_
  refine lv_iadd hx hb zd_law_720 ?_
  rw [show nI i + 2 = nI (i + 2) from nI_add i 2]
  refine zl_sld hx hb hX hbl hbA hS (k := i + 2) (by omega) (by omega) zd_law_721 ?_
  refine zz_ci (va_runV (As := [.int (xs (i + 1)), .int (xs (i + 2))]) (rest := []) ⟨hx, hb, hml, hown, htB⟩ (zc_X_paper l dC dI cI cZ cL a0 a1 a2 a3 a4 a5 a6 a7 a8 a9 a10 a11 H.size st (xs (i + 1)) (xs (i + 2)) hxp) (cwV 2 htB (zz_gV zk_c832b7eb zk_3b764f8c zk_7401595b zk_cfe38e2e zk_8865d7e8) rfl rfl rfl ⟨rfl, zh_X_paper⟩ ⟨Nat.le_of_ble_eq_true rfl, Nat.le_of_ble_eq_true rfl⟩) (zz_preV (ci := 0) (q := (zr_X, zF_X, 7)) hP hD hK hE [0, 1, 2, 3, 4, 5, 6, 7, 8, 9, 10, 11] (by decide) rfl rfl rfl) rfl rfl hl.1 rfl (lv_room (Nat.le_of_ble_eq_true rfl)) zd_law_722 ⟨by show _ ≤ (1054 : Nat); omega, by show _ ≤ (10379 : Nat); omega⟩) hP hD hS hA [0, 1, 2, 3, 4, 5, 6, 7, 8, 9, 10, 11] [12, 13, 14, 15, 16, 17, 18, 19, 20] [9, 10, 11, 12, 13, 14, 15, 16, 17, 18, 19, 20, 0, 1, 2, 3, 4, 5, 6, 7, 8] rfl rfl (by decide) (by decide) (by decide) rfl (fun H locs hP hD hS => ?_)
  have hP : va_P (dC, dI) zz_cl (zv_L cI cZ cL a0 a1 a2 a3 a4 a5 a6 a7 a8 a9 a10 a11 a12 a13 a14 a15 a16 a17 a18 a19 a20 ((zf_X_paper st (xs (i + 1)) (xs (i + 2))).2) w0 w1 w2 w3 w4 w5 w6 w7 w8 w9 w10 w11 w12 w13 w14 w15 w16 w17 w18 w19 w20 w21 o) H := hP
  have hD : va_D A (zv_L cI cZ cL a0 a1 a2 a3 a4 a5 a6 a7 a8 a9 a10 a11 a12 a13 a14 a15 a16 a17 a18 a19 a20 ((zf_X_paper st (xs (i + 1)) (xs (i + 2))).2) w0 w1 w2 w3 w4 w5 w6 w7 w8 w9 w10 w11 w12 w13 w14 w15 w16 w17 w18 w19 w20 w21 o) := hD
  refine lv_aload_n hx hb zd_law_725 rfl (lv_at hl 2 rfl) ?_
  refine lv_aload_n hx hb zd_law_726 rfl (lv_at hl 0 rfl) ?_
  refine lv_iload hx hb zd_law_727 (lv_at hl 4 rfl) ?_
  refine lv_iconst (v := 1) hx hb zd_law_729 (by decide) ?_
  refine lv_iadd hx hb zd_law_730 ?_
  rw [nI_1 i]
  refine zl_sld hx hb hX hbl hbA hS (k := i + 1) (by omega) (by omega) zd_law_731 ?_
  refine lv_aload_n hx hb zd_law_732 rfl (lv_at hl 0 rfl) ?_
  refine lv_iload hx hb zd_law_733 (lv_at hl 4 rfl) ?_
  refine lv_iconst (v := 2) hx hb zd_law_735 (by decide) ?_
  refine lv_iadd hx hb zd_law_736 ?_
  rw [show nI i + 2 = nI (i + 2) from nI_add i 2]
  refine zl_sld hx hb hX hbl hbA hS (k := i + 2) (by omega) (by omega) zd_law_737 ?_
  refine zz_ci (va_runV (As := [.int (xs (i + 1)), .int (xs (i + 2))]) (rest := [.int ((zf_X_paper st (xs (i + 1)) (xs (i + 2))).1)]) ⟨hx, hb, hml, hown, htB⟩ (zc_M_paper l dC dI cI cZ cL a12 a13 a14 a15 a16 a17 a18 a19 H.size w0 w1 w2 w3 w4 w5 w6 w7 w8 w9 w10 w11 w12 w13 w14 w15 w16 w17 w18 w19 w20 w21 (xs (i + 1)) (xs (i + 2)) hp) (cwV 2 htB (zz_gV zk_3bf42102 zk_e98e7ce8 zk_0e9483fc zk_91cc3b19 zk_0941bab0) rfl rfl rfl ⟨rfl, zh_M_paper⟩ ⟨Nat.le_of_ble_eq_true rfl, Nat.le_of_ble_eq_true rfl⟩) (zz_preV (ci := 5) (q := (zr_M, zF_M, 22)) hP hD hK hE [12, 13, 14, 15, 16, 17, 18, 19] (by decide) rfl rfl rfl) rfl rfl hl.1 rfl (lv_room (Nat.le_of_ble_eq_true rfl)) zd_law_738 ⟨by show _ ≤ (1054 : Nat); omega, by show _ ≤ (10379 : Nat); omega⟩) hP hD hS hA [12, 13, 14, 15, 16, 17, 18, 19] [0, 1, 2, 3, 4, 5, 6, 7, 8, 9, 10, 11, 20] [0, 1, 2, 3, 4, 5, 6, 7, 8, 9, 10, 11, 13, 14, 15, 16, 17, 18, 19, 20, 12] rfl rfl (by decide) (by decide) (by decide) rfl (fun H locs hP hD hS => ?_)
  have hP : va_P (dC, dI) zz_cl (zv_L cI cZ cL a0 a1 a2 a3 a4 a5 a6 a7 a8 a9 a10 a11 a12 a13 a14 a15 a16 a17 a18 a19 a20 ((zf_X_paper st (xs (i + 1)) (xs (i + 2))).2) ((zf_M_paper w0 w10 w11 w12 (xs (i + 1)) (xs (i + 2))).2.1) w1 w2 w3 w4 w5 w6 w7 w8 w9 ((zf_M_paper w0 w10 w11 w12 (xs (i + 1)) (xs (i + 2))).2.2.1) ((zf_M_paper w0 w10 w11 w12 (xs (i + 1)) (xs (i + 2))).2.2.2.1) ((zf_M_paper w0 w10 w11 w12 (xs (i + 1)) (xs (i + 2))).2.2.2.2) w13 w14 w15 w16 w17 w18 w19 w20 w21 o) H := hP
  have hD : va_D A (zv_L cI cZ cL a0 a1 a2 a3 a4 a5 a6 a7 a8 a9 a10 a11 a12 a13 a14 a15 a16 a17 a18 a19 a20 ((zf_X_paper st (xs (i + 1)) (xs (i + 2))).2) ((zf_M_paper w0 w10 w11 w12 (xs (i + 1)) (xs (i + 2))).2.1) w1 w2 w3 w4 w5 w6 w7 w8 w9 ((zf_M_paper w0 w10 w11 w12 (xs (i + 1)) (xs (i + 2))).2.2.1) ((zf_M_paper w0 w10 w11 w12 (xs (i + 1)) (xs (i + 2))).2.2.2.1) ((zf_M_paper w0 w10 w11 w12 (xs (i + 1)) (xs (i + 2))).2.2.2.2) w13 w14 w15 w16 w17 w18 w19 w20 w21 o) := hD
  refine lv_icmp_eq (tgt := 1002) hx hb zd_law_741 (by decide) (fun _ => ?_) (fun c_ => absurd (zq_paper hR w0 (xs (i + 1)) (xs (i + 2))).1 c_)
  refine W.widen (k := 21 + t + 1) (n := 2133 + 6 * t + 6) (by omega) (by omega) ?_
  exact kk ((zf_X_paper st (xs (i + 1)) (xs (i + 2))).2) ((zf_M_paper w0 w10 w11 w12 (xs (i + 1)) (xs (i + 2))).2.1) w1 w2 w3 w4 w5 w6 w7 w8 w9 ((zf_M_paper w0 w10 w11 w12 (xs (i + 1)) (xs (i + 2))).2.2.1) ((zf_M_paper w0 w10 w11 w12 (xs (i + 1)) (xs (i + 2))).2.2.2.1) ((zf_M_paper w0 w10 w11 w12 (xs (i + 1)) (xs (i + 2))).2.2.2.2) w13 w14 w15 w16 w17 w18 w19 w20 w21 o (zq_paper hR w0 (xs (i + 1)) (xs (i + 2))).2 _ _ hP hD hS _ (lv_sub hl [0, 1, 2, 3, 4] rfl)
set_option maxHeartbeats 4000000 in
set_option maxRecDepth 100000 in
theorem zl_arm_12 {p : Program} {l : Launch} {e : Env} {s : State} {m : MethodId} {below : List Frame} {meth : Method} {c : Code} {A : Nat → Prop} {dC : Nat → ClassId} {dI : Nat → Nat → Nat} {cI cZ cL : ClassId} {a0 a1 a2 a3 a4 a5 a6 a7 a8 a9 a10 a11 a12 a13 a14 a15 a16 a17 a18 a19 a20 b L i t : Nat} {xs : Nat → Int32} (F : zl_F l p s m meth c b L xs A dC dI cI cZ cL) (hi : i + 4 < L) (ht : t ≤ 511) (kk : zl_K p l e s m below meth c A dC dI cI cZ cL a0 a1 a2 a3 a4 a5 a6 a7 a8 a9 a10 a11 a12 a13 a14 a15 a16 a17 a18 a19 a20 b i (21 + t + 1) (2133 + 6 * t + 6) 1002) : zl_K p l e s m below meth c A dC dI cI cZ cL a0 a1 a2 a3 a4 a5 a6 a7 a8 a9 a10 a11 a12 a13 a14 a15 a16 a17 a18 a19 a20 b i (21 + t) (2133 + 6 * t) 746 := by
  obtain ⟨hx, hb, hml, hown, htB, hX, hbl, hbA, hE, hZ, hA, hK, hf0, hL, hAs, hr, hlocks⟩ := id F
  intro st w0 w1 w2 w3 w4 w5 w6 w7 w8 w9 w10 w11 w12 w13 w14 w15 w16 w17 w18 w19 w20 w21 o hR H locs hP hD hS ls hl
  have hm := hR.S.m30
  have hc := hR.C.le
  have hp := hR.P.le
  have hxm : st.2.1.2.2.1 ≤ 30 := by rw [hR.S.made]; exact hm
  have hxc : st.2.2.1.2.2 ≤ 20 := by rw [hR.C.n]; exact hc
  have hxp : st.2.2.2.1.2.2.2 ≤ 20 := by rw [hR.P.n]; exact hp
  refine lv_aload_n hx hb zd_law_746 rfl (lv_at hl 1 rfl) ?_
  refine lv_aload_n hx hb zd_law_747 rfl (lv_at hl 0 rfl) ?_
  refine lv_iload hx hb zd_law_748 (lv_at hl 4 rfl) ?_
  refine lv_iconst (v := 1) hx hb zd_law_750 (by decide) ?_
  refine lv_iadd hx hb zd_law_751 ?_
  rw [nI_1 i]
  refine zl_sld hx hb hX hbl hbA hS (k := i + 1) (by omega) (by omega) zd_law_752 ?_
  refine lv_aload_n hx hb zd_law_753 rfl (lv_at hl 0 rfl) ?_
  refine lv_iload hx hb zd_law_754 (lv_at hl 4 rfl) ?_
  refine lv_iconst (v := 2) hx hb zd_law_756 (by decide) ?_
  refine lv_iadd hx hb zd_law_757 ?_
  rw [show nI i + 2 = nI (i + 2) from nI_add i 2]
  refine zl_sld hx hb hX hbl hbA hS (k := i + 2) (by omega) (by omega) zd_law_758 ?_
  refine lv_aload_n hx hb zd_law_759 rfl (lv_at hl 0 rfl) ?_
  refine lv_iload hx hb zd_law_760 (lv_at hl 4 rfl) ?_
  refine lv_iconst (v := 3) hx hb zd_law_762 (by decide) ?_
  refine lv_iadd hx hb zd_law_763 ?_
  rw [show nI i + 3 = nI (i + 3) from nI_add i 3]
  refine zl_sld hx hb hX hbl hbA hS (k := i + 3) (by omega) (by omega) zd_law_764 ?_
  refine lv_aload_n hx hb zd_law_765 rfl (lv_at hl 3 rfl) ?_
  refine zz_ci (zh_runS (As := [.ref a0, .int (xs (i + 1)), .int (xs (i + 2)), .int (xs (i + 3)), .ref a20]) (rest := []) ⟨hx, hb, hml, hown, htB⟩ (zc_H_draw l dC dI cI cZ cL a0 a1 a2 a3 a4 a5 a6 a7 a8 a9 a10 a11 a20 H.size (st, o) (xs (i + 1)) (xs (i + 2)) (xs (i + 3)) hxp hf0) (zh_g zk_54c3973b zk_3d61b6f5 zk_47055d91 zk_d2cd05b2) rfl rfl rfl zh_H_draw ⟨Nat.le_of_ble_eq_true rfl, Nat.le_of_ble_eq_true rfl⟩ (zh_preS hP hD hK hE hZ hS hA [0, 1, 2, 3, 4, 5, 6, 7, 8, 9, 10, 11, 20] (by decide) rfl) rfl rfl hl.1 rfl (lv_room (Nat.le_of_ble_eq_true rfl)) zd_law_766 ⟨by show _ ≤ (1054 : Nat); omega, by show _ ≤ (10379 : Nat); omega⟩) hP hD hS hA [0, 1, 2, 3, 4, 5, 6, 7, 8, 9, 10, 11, 20] [12, 13, 14, 15, 16, 17, 18, 19] [8, 9, 10, 11, 12, 13, 14, 15, 16, 17, 18, 19, 0, 1, 2, 3, 4, 5, 6, 7, 20] rfl rfl (by decide) (by decide) (by decide) rfl (fun H locs hP hD hS => ?_)
  have hP : va_P (dC, dI) zz_cl (zv_L cI cZ cL a0 a1 a2 a3 a4 a5 a6 a7 a8 a9 a10 a11 a12 a13 a14 a15 a16 a17 a18 a19 a20 (((zf_H_draw (st, o) (xs (i + 1)) (xs (i + 2)) (xs (i + 3))).2).1) w0 w1 w2 w3 w4 w5 w6 w7 w8 w9 w10 w11 w12 w13 w14 w15 w16 w17 w18 w19 w20 w21 (((zf_H_draw (st, o) (xs (i + 1)) (xs (i + 2)) (xs (i + 3))).2).2)) H := hP
  have hD : va_D A (zv_L cI cZ cL a0 a1 a2 a3 a4 a5 a6 a7 a8 a9 a10 a11 a12 a13 a14 a15 a16 a17 a18 a19 a20 (((zf_H_draw (st, o) (xs (i + 1)) (xs (i + 2)) (xs (i + 3))).2).1) w0 w1 w2 w3 w4 w5 w6 w7 w8 w9 w10 w11 w12 w13 w14 w15 w16 w17 w18 w19 w20 w21 (((zf_H_draw (st, o) (xs (i + 1)) (xs (i + 2)) (xs (i + 3))).2).2)) := hD
  refine lv_istore (lv' := [(5, .int ((zf_H_draw (st, o) (xs (i + 1)) (xs (i + 2)) (xs (i + 3))).1)), (0, .ref b), (1, .ref a0), (2, .ref a12), (3, .ref a20), (4, .int (nI i))]) hx hb zd_law_769 hl (by decide) rfl (fun ls hl => ?_)
  refine lv_aload_n hx hb zd_law_771 rfl (lv_at hl 3 rfl) ?_
  refine lv_aload_n hx hb zd_law_772 rfl (lv_at hl 1 rfl) ?_
  refine lv_iload hx hb zd_law_773 (lv_at hl 5 rfl) ?_
  refine lv_iconst (v := 1) hx hb zd_law_775 (by decide) ?_
  refine lv_iadd hx hb zd_law_776 ?_
  rw [nI_1 i]
  refine zl_sld hx hb hX hbl hbA hS (k := i + 1) (by omega) (by omega) zd_law_777 ?_
  refine lv_aload_n hx hb zd_law_778 rfl (lv_at hl 1 rfl) ?_
  refine lv_iload hx hb zd_law_779 (lv_at hl 5 rfl) ?_
  refine lv_iconst (v := 2) hx hb zd_law_781 (by decide) ?_
  refine lv_iadd hx hb zd_law_782 ?_
  rw [show nI i + 2 = nI (i + 2) from nI_add i 2]
  refine zl_sld hx hb hX hbl hbA hS (k := i + 2) (by omega) (by omega) zd_law_783 ?_
  refine lv_aload_n hx hb zd_law_784 rfl (lv_at hl 1 rfl) ?_
  refine lv_iload hx hb zd_law_785 (lv_at hl 5 rfl) ?_
  refine lv_iconst (v := 3) hx hb zd_law_787 (by decide) ?_
  refine lv_iadd hx hb zd_law_788 ?_
  rw [show nI i + 3 = nI (i + 3) from nI_add i 3]
  refine zl_sld hx hb hX hbl hbA hS (k := i + 3) (by omega) (by omega) zd_law_789 ?_
  refine zz_ci (va_runV (As := [.int (xs (i + 1)), .int (xs (i + 2)), .int (xs (i + 3))]) (rest := []) ⟨hx, hb, hml, hown, htB⟩ (zc_M_draw l dC dI cI cZ cL a12 a13 a14 a15 a16 a17 a18 a19 H.size w0 w1 w2 w3 w4 w5 w6 w7 w8 w9 w10 w11 w12 w13 w14 w15 w16 w17 w18 w19 w20 w21 (xs (i + 1)) (xs (i + 2)) (xs (i + 3)) hm hp) (cwV 3 htB (zz_gV zk_cf7d141f zk_61036efd zk_f7397c42 zk_91cc3b19 zk_b3ea1c1c) rfl rfl rfl ⟨rfl, zh_M_draw⟩ ⟨Nat.le_of_ble_eq_true rfl, Nat.le_of_ble_eq_true rfl⟩) (zz_preV (ci := 5) (q := (zr_M, zF_M, 22)) hP hD hK hE [12, 13, 14, 15, 16, 17, 18, 19] (by decide) rfl rfl rfl) rfl rfl hl.1 rfl (lv_room (Nat.le_of_ble_eq_true rfl)) zd_law_790 ⟨by show _ ≤ (1054 : Nat); omega, by show _ ≤ (10379 : Nat); omega⟩) hP hD hS hA [12, 13, 14, 15, 16, 17, 18, 19] [0, 1, 2, 3, 4, 5, 6, 7, 8, 9, 10, 11, 20] [0, 1, 2, 3, 4, 5, 6, 7, 8, 9, 10, 11, 13, 14, 15, 16, 17, 18, 19, 20, 12] rfl rfl (by decide) (by decide) (by decide) rfl (fun H locs hP hD hS => ?_)
  have hP : va_P (dC, dI) zz_cl (zv_L cI cZ cL a0 a1 a2 a3 a4 a5 a6 a7 a8 a9 a10 a11 a12 a13 a14 a15 a16 a17 a18 a19 a20 (((zf_H_draw (st, o) (xs (i + 1)) (xs (i + 2)) (xs (i + 3))).2).1) ((zf_M_draw w0 w2 w3 w5 w10 w11 w12 w13 (xs (i + 1)) (xs (i + 2)) (xs (i + 3))).2.1) w1 w2 w3 w4 w5 w6 w7 w8 w9 w10 w11 ((zf_M_draw w0 w2 w3 w5 w10 w11 w12 w13 (xs (i + 1)) (xs (i + 2)) (xs (i + 3))).2.2.1) ((zf_M_draw w0 w2 w3 w5 w10 w11 w12 w13 (xs (i + 1)) (xs (i + 2)) (xs (i + 3))).2.2.2) w14 w15 w16 w17 w18 w19 w20 w21 (((zf_H_draw (st, o) (xs (i + 1)) (xs (i + 2)) (xs (i + 3))).2).2)) H := hP
  have hD : va_D A (zv_L cI cZ cL a0 a1 a2 a3 a4 a5 a6 a7 a8 a9 a10 a11 a12 a13 a14 a15 a16 a17 a18 a19 a20 (((zf_H_draw (st, o) (xs (i + 1)) (xs (i + 2)) (xs (i + 3))).2).1) ((zf_M_draw w0 w2 w3 w5 w10 w11 w12 w13 (xs (i + 1)) (xs (i + 2)) (xs (i + 3))).2.1) w1 w2 w3 w4 w5 w6 w7 w8 w9 w10 w11 ((zf_M_draw w0 w2 w3 w5 w10 w11 w12 w13 (xs (i + 1)) (xs (i + 2)) (xs (i + 3))).2.2.1) ((zf_M_draw w0 w2 w3 w5 w10 w11 w12 w13 (xs (i + 1)) (xs (i + 2)) (xs (i + 3))).2.2.2) w14 w15 w16 w17 w18 w19 w20 w21 (((zf_H_draw (st, o) (xs (i + 1)) (xs (i + 2)) (xs (i + 3))).2).2)) := hD
  refine lv_istore (lv' := [(6, .int ((zf_M_draw w0 w2 w3 w5 w10 w11 w12 w13 (xs (i + 1)) (xs (i + 2)) (xs (i + 3))).1)), (5, .int ((zf_H_draw (st, o) (xs (i + 1)) (xs (i + 2)) (xs (i + 3))).1)), (0, .ref b), (1, .ref a0), (2, .ref a12), (3, .ref a20), (4, .int (nI i))]) hx hb zd_law_793 hl (by decide) rfl (fun ls hl => ?_)
  refine lv_aload_n hx hb zd_law_795 rfl (lv_at hl 4 rfl) ?_
  refine zz_ki (va_runV (As := []) (rest := []) ⟨hx, hb, hml, hown, htB⟩ (zc_M_thrown l dC dI cI cZ cL a12 a13 a14 a15 a16 a17 a18 a19 H.size ((zf_M_draw w0 w2 w3 w5 w10 w11 w12 w13 (xs (i + 1)) (xs (i + 2)) (xs (i + 3))).2.1) w1 w2 w3 w4 w5 w6 w7 w8 w9 w10 w11 ((zf_M_draw w0 w2 w3 w5 w10 w11 w12 w13 (xs (i + 1)) (xs (i + 2)) (xs (i + 3))).2.2.1) ((zf_M_draw w0 w2 w3 w5 w10 w11 w12 w13 (xs (i + 1)) (xs (i + 2)) (xs (i + 3))).2.2.2) w14 w15 w16 w17 w18 w19 w20 w21  ) (cwV 0 htB (zz_gV zk_8e32f3ef zk_7bff8b59 zk_098c063e zk_91cc3b19 zk_b51a64f9) rfl rfl rfl ⟨rfl, zh_M_thrown⟩ ⟨Nat.le_of_ble_eq_true rfl, Nat.le_of_ble_eq_true rfl⟩) (zz_preV (ci := 5) (q := (zr_M, zF_M, 22)) hP hD hK hE [12, 13, 14, 15, 16, 17, 18, 19] (by decide) rfl rfl rfl) rfl rfl hl.1 rfl (lv_room (Nat.le_of_ble_eq_true rfl)) zd_law_796 ⟨by show _ ≤ (1054 : Nat); omega, by show _ ≤ (10379 : Nat); omega⟩) ?_
  refine lv_iload hx hb zd_law_799 (lv_at hl 1 rfl) ?_
  refine lv_icmp_eq (tgt := 806) hx hb zd_law_801 (by decide) (fun _ => ?_) (fun c_ => absurd ((zq_draw hR w0 (xs (i + 1)) (xs (i + 2)) (xs (i + 3))).1.symm.trans (zl_H_draw st o (xs (i + 1)) (xs (i + 2)) (xs (i + 3))).1.symm) c_)
  refine lv_iload hx hb zd_law_806 (lv_at hl 1 rfl) ?_
  refine lv_if_ne (tgt := 823) hx hb zd_law_808 (by decide) (fun c_808 => ?_) (fun c_808 => ?_)
  · refine lv_goto (tgt := 1002) hx hb zd_law_823 (by decide) ?_
    refine W.widen (k := 21 + t + 1) (n := 2133 + 6 * t + 6) (by omega) (by omega) ?_
    exact kk (((zf_H_draw (st, o) (xs (i + 1)) (xs (i + 2)) (xs (i + 3))).2).1) ((zf_M_draw w0 w2 w3 w5 w10 w11 w12 w13 (xs (i + 1)) (xs (i + 2)) (xs (i + 3))).2.1) w1 w2 w3 w4 w5 w6 w7 w8 w9 w10 w11 ((zf_M_draw w0 w2 w3 w5 w10 w11 w12 w13 (xs (i + 1)) (xs (i + 2)) (xs (i + 3))).2.2.1) ((zf_M_draw w0 w2 w3 w5 w10 w11 w12 w13 (xs (i + 1)) (xs (i + 2)) (xs (i + 3))).2.2.2) w14 w15 w16 w17 w18 w19 w20 w21 (((zf_H_draw (st, o) (xs (i + 1)) (xs (i + 2)) (xs (i + 3))).2).2) (by rw [(zl_H_draw st o (xs (i + 1)) (xs (i + 2)) (xs (i + 3))).2.1]; exact (zq_draw hR w0 (xs (i + 1)) (xs (i + 2)) (xs (i + 3))).2.2) _ _ hP hD hS _ (lv_sub hl [2, 3, 4, 5, 6] rfl)
  · refine lv_aload_n hx hb zd_law_811 rfl (lv_at hl 5 rfl) ?_
    refine lv_iconst (v := 0) hx hb zd_law_812 (by decide) ?_
    refine va_lald hx hb hK hP 20 2 rfl rfl zh_in0 zd_law_813 ?_
    refine lv_iload hx hb zd_law_814 (lv_at hl 0 rfl) ?_
    refine lv_i2l hx hb zd_law_816 rfl ?_
    refine W.lcmp hx hb zd_law_817 ?_
    refine lv_if_eq (tgt := 823) hx hb zd_law_818 (by decide) (fun _ => ?_) (fun c_ => absurd ((lg_cmp_eq _ _).mpr (((zl_H_draw st o (xs (i + 1)) (xs (i + 2)) (xs (i + 3))).2.2 c_808).2.trans (congrArg Int32.toInt64 ((zq_draw hR w0 (xs (i + 1)) (xs (i + 2)) (xs (i + 3))).2.1 ((zl_H_draw st o (xs (i + 1)) (xs (i + 2)) (xs (i + 3))).2.2 c_808).1)))) c_)
    refine lv_goto (tgt := 1002) hx hb zd_law_823 (by decide) ?_
    refine W.widen (k := 21 + t + 1) (n := 2133 + 6 * t + 6) (by omega) (by omega) ?_
    exact kk (((zf_H_draw (st, o) (xs (i + 1)) (xs (i + 2)) (xs (i + 3))).2).1) ((zf_M_draw w0 w2 w3 w5 w10 w11 w12 w13 (xs (i + 1)) (xs (i + 2)) (xs (i + 3))).2.1) w1 w2 w3 w4 w5 w6 w7 w8 w9 w10 w11 ((zf_M_draw w0 w2 w3 w5 w10 w11 w12 w13 (xs (i + 1)) (xs (i + 2)) (xs (i + 3))).2.2.1) ((zf_M_draw w0 w2 w3 w5 w10 w11 w12 w13 (xs (i + 1)) (xs (i + 2)) (xs (i + 3))).2.2.2) w14 w15 w16 w17 w18 w19 w20 w21 (((zf_H_draw (st, o) (xs (i + 1)) (xs (i + 2)) (xs (i + 3))).2).2) (by rw [(zl_H_draw st o (xs (i + 1)) (xs (i + 2)) (xs (i + 3))).2.1]; exact (zq_draw hR w0 (xs (i + 1)) (xs (i + 2)) (xs (i + 3))).2.2) _ _ hP hD hS _ (lv_sub hl [2, 3, 4, 5, 6] rfl)
set_option maxHeartbeats 4000000 in
set_option maxRecDepth 100000 in
theorem zl_arm_13 {p : Program} {l : Launch} {e : Env} {s : State} {m : MethodId} {below : List Frame} {meth : Method} {c : Code} {A : Nat → Prop} {dC : Nat → ClassId} {dI : Nat → Nat → Nat} {cI cZ cL : ClassId} {a0 a1 a2 a3 a4 a5 a6 a7 a8 a9 a10 a11 a12 a13 a14 a15 a16 a17 a18 a19 a20 b L i t : Nat} {xs : Nat → Int32} (F : zl_F l p s m meth c b L xs A dC dI cI cZ cL) (hi : i + 4 < L) (ht : t ≤ 511) (kk : zl_K p l e s m below meth c A dC dI cI cZ cL a0 a1 a2 a3 a4 a5 a6 a7 a8 a9 a10 a11 a12 a13 a14 a15 a16 a17 a18 a19 a20 b i (21 + t + 1) (2133 + 6 * t + 6) 1002) : zl_K p l e s m below meth c A dC dI cI cZ cL a0 a1 a2 a3 a4 a5 a6 a7 a8 a9 a10 a11 a12 a13 a14 a15 a16 a17 a18 a19 a20 b i (21 + t) (2133 + 6 * t) 826 := by
  obtain ⟨hx, hb, hml, hown, htB, hX, hbl, hbA, hE, hZ, hA, hK, hf0, hL, hAs, hr, hlocks⟩ := id F
  intro st w0 w1 w2 w3 w4 w5 w6 w7 w8 w9 w10 w11 w12 w13 w14 w15 w16 w17 w18 w19 w20 w21 o hR H locs hP hD hS ls hl
  have hm := hR.S.m30
  have hc := hR.C.le
  have hp := hR.P.le
  have hxm : st.2.1.2.2.1 ≤ 30 := by rw [hR.S.made]; exact hm
  have hxc : st.2.2.1.2.2 ≤ 20 := by rw [hR.C.n]; exact hc
  have hxp : st.2.2.2.1.2.2.2 ≤ 20 := by rw [hR.P.n]; exact hp
  refine lv_aload_n hx hb zd_law_826 rfl (lv_at hl 1 rfl) ?_
  refine lv_aload_n hx hb zd_law_827 rfl (lv_at hl 0 rfl) ?_
  refine lv_iload hx hb zd_law_828 (lv_at hl 4 rfl) ?_
  refine lv_iconst (v := 1) hx hb zd_law_830 (by decide) ?_
  refine lv_iadd hx hb zd_law_831 ?_
  rw [nI_1 i]
  refine zl_sld hx hb hX hbl hbA hS (k := i + 1) (by omega) (by omega) zd_law_832 ?_
  refine lv_aload_n hx hb zd_law_833 rfl (lv_at hl 3 rfl) ?_
  refine zz_ci (zh_runS (As := [.ref a0, .int (xs (i + 1)), .ref a20]) (rest := []) ⟨hx, hb, hml, hown, htB⟩ (zc_H_sum l dC dI cI cZ cL a0 a1 a2 a3 a4 a5 a6 a7 a8 a9 a10 a11 a20 H.size (st, o) (xs (i + 1))  hf0) (zh_g zk_b7a26965 zk_b843a36d zk_47055d91 zk_211c376e) rfl rfl rfl zh_H_sum ⟨Nat.le_of_ble_eq_true rfl, Nat.le_of_ble_eq_true rfl⟩ (zh_preS hP hD hK hE hZ hS hA [0, 1, 2, 3, 4, 5, 6, 7, 8, 9, 10, 11, 20] (by decide) rfl) rfl rfl hl.1 rfl (lv_room (Nat.le_of_ble_eq_true rfl)) zd_law_834 ⟨by show _ ≤ (1054 : Nat); omega, by show _ ≤ (10379 : Nat); omega⟩) hP hD hS hA [0, 1, 2, 3, 4, 5, 6, 7, 8, 9, 10, 11, 20] [12, 13, 14, 15, 16, 17, 18, 19] [8, 9, 10, 11, 12, 13, 14, 15, 16, 17, 18, 19, 0, 1, 2, 3, 4, 5, 6, 7, 20] rfl rfl (by decide) (by decide) (by decide) rfl (fun H locs hP hD hS => ?_)
  have hP : va_P (dC, dI) zz_cl (zv_L cI cZ cL a0 a1 a2 a3 a4 a5 a6 a7 a8 a9 a10 a11 a12 a13 a14 a15 a16 a17 a18 a19 a20 (((zf_H_sum (st, o) (xs (i + 1))).2).1) w0 w1 w2 w3 w4 w5 w6 w7 w8 w9 w10 w11 w12 w13 w14 w15 w16 w17 w18 w19 w20 w21 (((zf_H_sum (st, o) (xs (i + 1))).2).2)) H := hP
  have hD : va_D A (zv_L cI cZ cL a0 a1 a2 a3 a4 a5 a6 a7 a8 a9 a10 a11 a12 a13 a14 a15 a16 a17 a18 a19 a20 (((zf_H_sum (st, o) (xs (i + 1))).2).1) w0 w1 w2 w3 w4 w5 w6 w7 w8 w9 w10 w11 w12 w13 w14 w15 w16 w17 w18 w19 w20 w21 (((zf_H_sum (st, o) (xs (i + 1))).2).2)) := hD
  refine lv_istore (lv' := [(5, .int ((zf_H_sum (st, o) (xs (i + 1))).1)), (0, .ref b), (1, .ref a0), (2, .ref a12), (3, .ref a20), (4, .int (nI i))]) hx hb zd_law_837 hl (by decide) rfl (fun ls hl => ?_)
  refine lv_aload_n hx hb zd_law_839 rfl (lv_at hl 3 rfl) ?_
  refine lv_aload_n hx hb zd_law_840 rfl (lv_at hl 1 rfl) ?_
  refine lv_iload hx hb zd_law_841 (lv_at hl 5 rfl) ?_
  refine lv_iconst (v := 1) hx hb zd_law_843 (by decide) ?_
  refine lv_iadd hx hb zd_law_844 ?_
  rw [nI_1 i]
  refine zl_sld hx hb hX hbl hbA hS (k := i + 1) (by omega) (by omega) zd_law_845 ?_
  refine zz_cl_ (va_runV (As := [.int (xs (i + 1))]) (rest := []) ⟨hx, hb, hml, hown, htB⟩ (zc_M_sum l dC dI cI cZ cL a12 a13 a14 a15 a16 a17 a18 a19 H.size w0 w1 w2 w3 w4 w5 w6 w7 w8 w9 w10 w11 w12 w13 w14 w15 w16 w17 w18 w19 w20 w21 (xs (i + 1)) hm) (cwV 1 htB (zz_gV zk_df95e78c zk_7b4d31b1 zk_6b98f931 zk_91cc3b19 zk_61edd241) rfl rfl rfl ⟨rfl, zh_M_sum⟩ ⟨Nat.le_of_ble_eq_true rfl, Nat.le_of_ble_eq_true rfl⟩) (zz_preV (ci := 5) (q := (zr_M, zF_M, 22)) hP hD hK hE [12, 13, 14, 15, 16, 17, 18, 19] (by decide) rfl rfl rfl) rfl rfl hl.1 rfl (lv_room (Nat.le_of_ble_eq_true rfl)) zd_law_846 ⟨by show _ ≤ (1054 : Nat); omega, by show _ ≤ (10379 : Nat); omega⟩) hP hD hS hA [12, 13, 14, 15, 16, 17, 18, 19] [0, 1, 2, 3, 4, 5, 6, 7, 8, 9, 10, 11, 20] [0, 1, 2, 3, 4, 5, 6, 7, 8, 9, 10, 11, 13, 14, 15, 16, 17, 18, 19, 20, 12] rfl rfl (by decide) (by decide) (by decide) rfl (fun H locs hP hD hS => ?_)
  have hP : va_P (dC, dI) zz_cl (zv_L cI cZ cL a0 a1 a2 a3 a4 a5 a6 a7 a8 a9 a10 a11 a12 a13 a14 a15 a16 a17 a18 a19 a20 (((zf_H_sum (st, o) (xs (i + 1))).2).1) ((zf_M_sum w0 w2 w4 (xs (i + 1))).2) w1 w2 w3 w4 w5 w6 w7 w8 w9 w10 w11 w12 w13 w14 w15 w16 w17 w18 w19 w20 w21 (((zf_H_sum (st, o) (xs (i + 1))).2).2)) H := hP
  have hD : va_D A (zv_L cI cZ cL a0 a1 a2 a3 a4 a5 a6 a7 a8 a9 a10 a11 a12 a13 a14 a15 a16 a17 a18 a19 a20 (((zf_H_sum (st, o) (xs (i + 1))).2).1) ((zf_M_sum w0 w2 w4 (xs (i + 1))).2) w1 w2 w3 w4 w5 w6 w7 w8 w9 w10 w11 w12 w13 w14 w15 w16 w17 w18 w19 w20 w21 (((zf_H_sum (st, o) (xs (i + 1))).2).2)) := hD
  refine lv_lstore (lv' := [(6, .long ((zf_M_sum w0 w2 w4 (xs (i + 1))).1)), (5, .int ((zf_H_sum (st, o) (xs (i + 1))).1)), (0, .ref b), (1, .ref a0), (2, .ref a12), (3, .ref a20), (4, .int (nI i))]) hx hb zd_law_849 hl (by decide) rfl (fun ls hl => ?_)
  refine lv_aload_n hx hb zd_law_851 rfl (lv_at hl 4 rfl) ?_
  refine zz_ki (va_runV (As := []) (rest := []) ⟨hx, hb, hml, hown, htB⟩ (zc_M_thrown l dC dI cI cZ cL a12 a13 a14 a15 a16 a17 a18 a19 H.size ((zf_M_sum w0 w2 w4 (xs (i + 1))).2) w1 w2 w3 w4 w5 w6 w7 w8 w9 w10 w11 w12 w13 w14 w15 w16 w17 w18 w19 w20 w21  ) (cwV 0 htB (zz_gV zk_8e32f3ef zk_7bff8b59 zk_098c063e zk_91cc3b19 zk_b51a64f9) rfl rfl rfl ⟨rfl, zh_M_thrown⟩ ⟨Nat.le_of_ble_eq_true rfl, Nat.le_of_ble_eq_true rfl⟩) (zz_preV (ci := 5) (q := (zr_M, zF_M, 22)) hP hD hK hE [12, 13, 14, 15, 16, 17, 18, 19] (by decide) rfl rfl rfl) rfl rfl hl.1 rfl (lv_room (Nat.le_of_ble_eq_true rfl)) zd_law_852 ⟨by show _ ≤ (1054 : Nat); omega, by show _ ≤ (10379 : Nat); omega⟩) ?_
  refine lv_iload hx hb zd_law_855 (lv_at hl 1 rfl) ?_
  refine lv_icmp_eq (tgt := 862) hx hb zd_law_857 (by decide) (fun _ => ?_) (fun c_ => absurd ((zq_sum hR w0 (xs (i + 1))).1.symm.trans (zl_H_sum st o (xs (i + 1))).1.symm) c_)
  refine lv_iload hx hb zd_law_862 (lv_at hl 1 rfl) ?_
  refine lv_if_ne (tgt := 878) hx hb zd_law_864 (by decide) (fun c_864 => ?_) (fun c_864 => ?_)
  · refine lv_goto (tgt := 1002) hx hb zd_law_878 (by decide) ?_
    refine W.widen (k := 21 + t + 1) (n := 2133 + 6 * t + 6) (by omega) (by omega) ?_
    exact kk (((zf_H_sum (st, o) (xs (i + 1))).2).1) ((zf_M_sum w0 w2 w4 (xs (i + 1))).2) w1 w2 w3 w4 w5 w6 w7 w8 w9 w10 w11 w12 w13 w14 w15 w16 w17 w18 w19 w20 w21 (((zf_H_sum (st, o) (xs (i + 1))).2).2) (by rw [(zl_H_sum st o (xs (i + 1))).2.1]; exact hR) _ _ hP hD hS _ (lv_sub hl [2, 3, 4, 5, 6] rfl)
  · refine lv_aload_n hx hb zd_law_867 rfl (lv_at hl 5 rfl) ?_
    refine lv_iconst (v := 0) hx hb zd_law_868 (by decide) ?_
    refine va_lald hx hb hK hP 20 2 rfl rfl zh_in0 zd_law_869 ?_
    refine lv_lload hx hb zd_law_870 (lv_at hl 0 rfl) ?_
    refine W.lcmp hx hb zd_law_872 ?_
    refine lv_if_eq (tgt := 878) hx hb zd_law_873 (by decide) (fun _ => ?_) (fun c_ => absurd ((lg_cmp_eq _ _).mpr (((zl_H_sum st o (xs (i + 1))).2.2 c_864).2.trans ((zq_sum hR w0 (xs (i + 1))).2 ((zl_H_sum st o (xs (i + 1))).2.2 c_864).1))) c_)
    refine lv_goto (tgt := 1002) hx hb zd_law_878 (by decide) ?_
    refine W.widen (k := 21 + t + 1) (n := 2133 + 6 * t + 6) (by omega) (by omega) ?_
    exact kk (((zf_H_sum (st, o) (xs (i + 1))).2).1) ((zf_M_sum w0 w2 w4 (xs (i + 1))).2) w1 w2 w3 w4 w5 w6 w7 w8 w9 w10 w11 w12 w13 w14 w15 w16 w17 w18 w19 w20 w21 (((zf_H_sum (st, o) (xs (i + 1))).2).2) (by rw [(zl_H_sum st o (xs (i + 1))).2.1]; exact hR) _ _ hP hD hS _ (lv_sub hl [2, 3, 4, 5, 6] rfl)
set_option maxHeartbeats 4000000 in
set_option maxRecDepth 100000 in
theorem zl_arm_14 {p : Program} {l : Launch} {e : Env} {s : State} {m : MethodId} {below : List Frame} {meth : Method} {c : Code} {A : Nat → Prop} {dC : Nat → ClassId} {dI : Nat → Nat → Nat} {cI cZ cL : ClassId} {a0 a1 a2 a3 a4 a5 a6 a7 a8 a9 a10 a11 a12 a13 a14 a15 a16 a17 a18 a19 a20 b L i t : Nat} {xs : Nat → Int32} (F : zl_F l p s m meth c b L xs A dC dI cI cZ cL) (hi : i + 4 < L) (ht : t ≤ 511) (kk : zl_K p l e s m below meth c A dC dI cI cZ cL a0 a1 a2 a3 a4 a5 a6 a7 a8 a9 a10 a11 a12 a13 a14 a15 a16 a17 a18 a19 a20 b i (21 + t + 1) (2133 + 6 * t + 6) 1002) : zl_K p l e s m below meth c A dC dI cI cZ cL a0 a1 a2 a3 a4 a5 a6 a7 a8 a9 a10 a11 a12 a13 a14 a15 a16 a17 a18 a19 a20 b i (21 + t) (2133 + 6 * t) 881 := by
  obtain ⟨hx, hb, hml, hown, htB, hX, hbl, hbA, hE, hZ, hA, hK, hf0, hL, hAs, hr, hlocks⟩ := id F
  intro st w0 w1 w2 w3 w4 w5 w6 w7 w8 w9 w10 w11 w12 w13 w14 w15 w16 w17 w18 w19 w20 w21 o hR H locs hP hD hS ls hl
  have hm := hR.S.m30
  have hc := hR.C.le
  have hp := hR.P.le
  have hxm : st.2.1.2.2.1 ≤ 30 := by rw [hR.S.made]; exact hm
  have hxc : st.2.2.1.2.2 ≤ 20 := by rw [hR.C.n]; exact hc
  have hxp : st.2.2.2.1.2.2.2 ≤ 20 := by rw [hR.P.n]; exact hp
  refine lv_aload_n hx hb zd_law_881 rfl (lv_at hl 1 rfl) ?_
  refine zz_ki (va_runV (As := []) (rest := []) ⟨hx, hb, hml, hown, htB⟩ (zc_X_pack l dC dI cI cZ cL a0 a1 a2 a3 a4 a5 a6 a7 a8 a9 a10 a11 H.size st  ) (cwV 0 htB (zz_gV zk_e5c98e88 zk_15c98730 zk_fcfdfd39 zk_cfe38e2e zk_27dc7096) rfl rfl rfl ⟨rfl, zh_X_pack⟩ ⟨Nat.le_of_ble_eq_true rfl, Nat.le_of_ble_eq_true rfl⟩) (zz_preV (ci := 0) (q := (zr_X, zF_X, 7)) hP hD hK hE [0, 1, 2, 3, 4, 5, 6, 7, 8, 9, 10, 11] (by decide) rfl rfl rfl) rfl rfl hl.1 rfl (lv_room (Nat.le_of_ble_eq_true rfl)) zd_law_882 ⟨by show _ ≤ (1054 : Nat); omega, by show _ ≤ (10379 : Nat); omega⟩) ?_
  refine lv_aload_n hx hb zd_law_885 rfl (lv_at hl 2 rfl) ?_
  refine zz_ci (va_runV (As := []) (rest := [.int (zf_X_pack st)]) ⟨hx, hb, hml, hown, htB⟩ (zc_M_pack l dC dI cI cZ cL a12 a13 a14 a15 a16 a17 a18 a19 H.size w0 w1 w2 w3 w4 w5 w6 w7 w8 w9 w10 w11 w12 w13 w14 w15 w16 w17 w18 w19 w20 w21  hm) (cwV 0 htB (zz_gV zk_fc1b1166 zk_b759ff55 zk_902eefe9 zk_91cc3b19 zk_60c63fd1) rfl rfl rfl ⟨rfl, zh_M_pack⟩ ⟨Nat.le_of_ble_eq_true rfl, Nat.le_of_ble_eq_true rfl⟩) (zz_preV (ci := 5) (q := (zr_M, zF_M, 22)) hP hD hK hE [12, 13, 14, 15, 16, 17, 18, 19] (by decide) rfl rfl rfl) rfl rfl hl.1 rfl (lv_room (Nat.le_of_ble_eq_true rfl)) zd_law_886 ⟨by show _ ≤ (1054 : Nat); omega, by show _ ≤ (10379 : Nat); omega⟩) hP hD hS hA [12, 13, 14, 15, 16, 17, 18, 19] [0, 1, 2, 3, 4, 5, 6, 7, 8, 9, 10, 11, 20] [0, 1, 2, 3, 4, 5, 6, 7, 8, 9, 10, 11, 13, 14, 15, 16, 17, 18, 19, 20, 12] rfl rfl (by decide) (by decide) (by decide) rfl (fun H locs hP hD hS => ?_)
  have hP : va_P (dC, dI) zz_cl (zv_L cI cZ cL a0 a1 a2 a3 a4 a5 a6 a7 a8 a9 a10 a11 a12 a13 a14 a15 a16 a17 a18 a19 a20 st ((zf_M_pack w0 w2 w4).2) w1 w2 w3 w4 w5 w6 w7 w8 w9 w10 w11 w12 w13 w14 w15 w16 w17 w18 w19 w20 w21 o) H := hP
  have hD : va_D A (zv_L cI cZ cL a0 a1 a2 a3 a4 a5 a6 a7 a8 a9 a10 a11 a12 a13 a14 a15 a16 a17 a18 a19 a20 st ((zf_M_pack w0 w2 w4).2) w1 w2 w3 w4 w5 w6 w7 w8 w9 w10 w11 w12 w13 w14 w15 w16 w17 w18 w19 w20 w21 o) := hD
  refine lv_icmp_eq (tgt := 1002) hx hb zd_law_889 (by decide) (fun _ => ?_) (fun c_ => absurd (zq_pack hR w0) c_)
  refine W.widen (k := 21 + t + 1) (n := 2133 + 6 * t + 6) (by omega) (by omega) ?_
  exact kk st ((zf_M_pack w0 w2 w4).2) w1 w2 w3 w4 w5 w6 w7 w8 w9 w10 w11 w12 w13 w14 w15 w16 w17 w18 w19 w20 w21 o hR _ _ hP hD hS _ (lv_sub hl [0, 1, 2, 3, 4] rfl)
set_option maxHeartbeats 4000000 in
set_option maxRecDepth 100000 in
theorem zl_arm_15 {p : Program} {l : Launch} {e : Env} {s : State} {m : MethodId} {below : List Frame} {meth : Method} {c : Code} {A : Nat → Prop} {dC : Nat → ClassId} {dI : Nat → Nat → Nat} {cI cZ cL : ClassId} {a0 a1 a2 a3 a4 a5 a6 a7 a8 a9 a10 a11 a12 a13 a14 a15 a16 a17 a18 a19 a20 b L i t : Nat} {xs : Nat → Int32} (F : zl_F l p s m meth c b L xs A dC dI cI cZ cL) (hi : i + 4 < L) (ht : t ≤ 511) (kk : zl_K p l e s m below meth c A dC dI cI cZ cL a0 a1 a2 a3 a4 a5 a6 a7 a8 a9 a10 a11 a12 a13 a14 a15 a16 a17 a18 a19 a20 b i (21 + t + 1) (2133 + 6 * t + 6) 1002) : zl_K p l e s m below meth c A dC dI cI cZ cL a0 a1 a2 a3 a4 a5 a6 a7 a8 a9 a10 a11 a12 a13 a14 a15 a16 a17 a18 a19 a20 b i (21 + t) (2133 + 6 * t) 894 := by
  obtain ⟨hx, hb, hml, hown, htB, hX, hbl, hbA, hE, hZ, hA, hK, hf0, hL, hAs, hr, hlocks⟩ := id F
  intro st w0 w1 w2 w3 w4 w5 w6 w7 w8 w9 w10 w11 w12 w13 w14 w15 w16 w17 w18 w19 w20 w21 o hR H locs hP hD hS ls hl
  have hm := hR.S.m30
  have hc := hR.C.le
  have hp := hR.P.le
  have hxm : st.2.1.2.2.1 ≤ 30 := by rw [hR.S.made]; exact hm
  have hxc : st.2.2.1.2.2 ≤ 20 := by rw [hR.C.n]; exact hc
  have hxp : st.2.2.2.1.2.2.2 ≤ 20 := by rw [hR.P.n]; exact hp
  refine lv_aload_n hx hb zd_law_894 rfl (lv_at hl 1 rfl) ?_
  refine lv_aload_n hx hb zd_law_895 rfl (lv_at hl 0 rfl) ?_
  refine lv_iload hx hb zd_law_896 (lv_at hl 4 rfl) ?_
  refine lv_iconst (v := 1) hx hb zd_law_898 (by decide) ?_
  refine lv_iadd hx hb zd_law_899 ?_
  rw [nI_1 i]
  refine zl_sld hx hb hX hbl hbA hS (k := i + 1) (by omega) (by omega) zd_law_900 ?_
  refine lv_aload_n hx hb zd_law_901 rfl (lv_at hl 3 rfl) ?_
  refine zz_ci (zh_runS (As := [.ref a0, .int (xs (i + 1)), .ref a20]) (rest := []) ⟨hx, hb, hml, hown, htB⟩ (zc_H_octet l dC dI cI cZ cL a0 a1 a2 a3 a4 a5 a6 a7 a8 a9 a10 a11 a20 H.size (st, o) (xs (i + 1))  hf0) (zh_g zk_3371e754 zk_8d34c0e7 zk_47055d91 zk_db2f9799) rfl rfl rfl zh_H_octet ⟨Nat.le_of_ble_eq_true rfl, Nat.le_of_ble_eq_true rfl⟩ (zh_preS hP hD hK hE hZ hS hA [0, 1, 2, 3, 4, 5, 6, 7, 8, 9, 10, 11, 20] (by decide) rfl) rfl rfl hl.1 rfl (lv_room (Nat.le_of_ble_eq_true rfl)) zd_law_902 ⟨by show _ ≤ (1054 : Nat); omega, by show _ ≤ (10379 : Nat); omega⟩) hP hD hS hA [0, 1, 2, 3, 4, 5, 6, 7, 8, 9, 10, 11, 20] [12, 13, 14, 15, 16, 17, 18, 19] [8, 9, 10, 11, 12, 13, 14, 15, 16, 17, 18, 19, 0, 1, 2, 3, 4, 5, 6, 7, 20] rfl rfl (by decide) (by decide) (by decide) rfl (fun H locs hP hD hS => ?_)
  have hP : va_P (dC, dI) zz_cl (zv_L cI cZ cL a0 a1 a2 a3 a4 a5 a6 a7 a8 a9 a10 a11 a12 a13 a14 a15 a16 a17 a18 a19 a20 (((zf_H_octet (st, o) (xs (i + 1))).2).1) w0 w1 w2 w3 w4 w5 w6 w7 w8 w9 w10 w11 w12 w13 w14 w15 w16 w17 w18 w19 w20 w21 (((zf_H_octet (st, o) (xs (i + 1))).2).2)) H := hP
  have hD : va_D A (zv_L cI cZ cL a0 a1 a2 a3 a4 a5 a6 a7 a8 a9 a10 a11 a12 a13 a14 a15 a16 a17 a18 a19 a20 (((zf_H_octet (st, o) (xs (i + 1))).2).1) w0 w1 w2 w3 w4 w5 w6 w7 w8 w9 w10 w11 w12 w13 w14 w15 w16 w17 w18 w19 w20 w21 (((zf_H_octet (st, o) (xs (i + 1))).2).2)) := hD
  refine lv_istore (lv' := [(5, .int ((zf_H_octet (st, o) (xs (i + 1))).1)), (0, .ref b), (1, .ref a0), (2, .ref a12), (3, .ref a20), (4, .int (nI i))]) hx hb zd_law_905 hl (by decide) rfl (fun ls hl => ?_)
  refine lv_aload_n hx hb zd_law_907 rfl (lv_at hl 3 rfl) ?_
  refine lv_aload_n hx hb zd_law_908 rfl (lv_at hl 1 rfl) ?_
  refine lv_iload hx hb zd_law_909 (lv_at hl 5 rfl) ?_
  refine lv_iconst (v := 1) hx hb zd_law_911 (by decide) ?_
  refine lv_iadd hx hb zd_law_912 ?_
  rw [nI_1 i]
  refine zl_sld hx hb hX hbl hbA hS (k := i + 1) (by omega) (by omega) zd_law_913 ?_
  refine zz_ci (va_runV (As := [.int (xs (i + 1))]) (rest := []) ⟨hx, hb, hml, hown, htB⟩ (zc_M_octet l dC dI cI cZ cL a12 a13 a14 a15 a16 a17 a18 a19 H.size w0 w1 w2 w3 w4 w5 w6 w7 w8 w9 w10 w11 w12 w13 w14 w15 w16 w17 w18 w19 w20 w21 (xs (i + 1)) hm (zq_octH hR (xs (i + 1)))) (cwV 1 htB (zz_gV zk_545e9a28 zk_ac38c6c4 zk_28f647fe zk_91cc3b19 zk_d8995f75) rfl rfl rfl ⟨rfl, zh_M_octet⟩ ⟨Nat.le_of_ble_eq_true rfl, Nat.le_of_ble_eq_true rfl⟩) (zz_preV (ci := 5) (q := (zr_M, zF_M, 22)) hP hD hK hE [12, 13, 14, 15, 16, 17, 18, 19] (by decide) rfl rfl rfl) rfl rfl hl.1 rfl (lv_room (Nat.le_of_ble_eq_true rfl)) zd_law_914 ⟨by show _ ≤ (1054 : Nat); omega, by show _ ≤ (10379 : Nat); omega⟩) hP hD hS hA [12, 13, 14, 15, 16, 17, 18, 19] [0, 1, 2, 3, 4, 5, 6, 7, 8, 9, 10, 11, 20] [0, 1, 2, 3, 4, 5, 6, 7, 8, 9, 10, 11, 13, 14, 15, 16, 17, 18, 19, 20, 12] rfl rfl (by decide) (by decide) (by decide) rfl (fun H locs hP hD hS => ?_)
  have hP : va_P (dC, dI) zz_cl (zv_L cI cZ cL a0 a1 a2 a3 a4 a5 a6 a7 a8 a9 a10 a11 a12 a13 a14 a15 a16 a17 a18 a19 a20 (((zf_H_octet (st, o) (xs (i + 1))).2).1) ((zf_M_octet w0 w1 w2 w4 (xs (i + 1))).2) w1 w2 w3 w4 w5 w6 w7 w8 w9 w10 w11 w12 w13 w14 w15 w16 w17 w18 w19 w20 w21 (((zf_H_octet (st, o) (xs (i + 1))).2).2)) H := hP
  have hD : va_D A (zv_L cI cZ cL a0 a1 a2 a3 a4 a5 a6 a7 a8 a9 a10 a11 a12 a13 a14 a15 a16 a17 a18 a19 a20 (((zf_H_octet (st, o) (xs (i + 1))).2).1) ((zf_M_octet w0 w1 w2 w4 (xs (i + 1))).2) w1 w2 w3 w4 w5 w6 w7 w8 w9 w10 w11 w12 w13 w14 w15 w16 w17 w18 w19 w20 w21 (((zf_H_octet (st, o) (xs (i + 1))).2).2)) := hD
  refine lv_istore (lv' := [(6, .int ((zf_M_octet w0 w1 w2 w4 (xs (i + 1))).1)), (5, .int ((zf_H_octet (st, o) (xs (i + 1))).1)), (0, .ref b), (1, .ref a0), (2, .ref a12), (3, .ref a20), (4, .int (nI i))]) hx hb zd_law_917 hl (by decide) rfl (fun ls hl => ?_)
  refine lv_aload_n hx hb zd_law_919 rfl (lv_at hl 4 rfl) ?_
  refine zz_ki (va_runV (As := []) (rest := []) ⟨hx, hb, hml, hown, htB⟩ (zc_M_thrown l dC dI cI cZ cL a12 a13 a14 a15 a16 a17 a18 a19 H.size ((zf_M_octet w0 w1 w2 w4 (xs (i + 1))).2) w1 w2 w3 w4 w5 w6 w7 w8 w9 w10 w11 w12 w13 w14 w15 w16 w17 w18 w19 w20 w21  ) (cwV 0 htB (zz_gV zk_8e32f3ef zk_7bff8b59 zk_098c063e zk_91cc3b19 zk_b51a64f9) rfl rfl rfl ⟨rfl, zh_M_thrown⟩ ⟨Nat.le_of_ble_eq_true rfl, Nat.le_of_ble_eq_true rfl⟩) (zz_preV (ci := 5) (q := (zr_M, zF_M, 22)) hP hD hK hE [12, 13, 14, 15, 16, 17, 18, 19] (by decide) rfl rfl rfl) rfl rfl hl.1 rfl (lv_room (Nat.le_of_ble_eq_true rfl)) zd_law_920 ⟨by show _ ≤ (1054 : Nat); omega, by show _ ≤ (10379 : Nat); omega⟩) ?_
  refine lv_iload hx hb zd_law_923 (lv_at hl 1 rfl) ?_
  refine lv_icmp_eq (tgt := 930) hx hb zd_law_925 (by decide) (fun _ => ?_) (fun c_ => absurd ((zq_octet hR w0 (xs (i + 1))).1.symm.trans (zl_H_octet st o (xs (i + 1))).1.symm) c_)
  refine lv_iload hx hb zd_law_930 (lv_at hl 1 rfl) ?_
  refine lv_if_ne (tgt := 947) hx hb zd_law_932 (by decide) (fun c_932 => ?_) (fun c_932 => ?_)
  · refine lv_goto (tgt := 1002) hx hb zd_law_947 (by decide) ?_
    refine W.widen (k := 21 + t + 1) (n := 2133 + 6 * t + 6) (by omega) (by omega) ?_
    exact kk (((zf_H_octet (st, o) (xs (i + 1))).2).1) ((zf_M_octet w0 w1 w2 w4 (xs (i + 1))).2) w1 w2 w3 w4 w5 w6 w7 w8 w9 w10 w11 w12 w13 w14 w15 w16 w17 w18 w19 w20 w21 (((zf_H_octet (st, o) (xs (i + 1))).2).2) (by rw [(zl_H_octet st o (xs (i + 1))).2.1]; exact hR) _ _ hP hD hS _ (lv_sub hl [2, 3, 4, 5, 6] rfl)
  · refine lv_aload_n hx hb zd_law_935 rfl (lv_at hl 5 rfl) ?_
    refine lv_iconst (v := 0) hx hb zd_law_936 (by decide) ?_
    refine va_lald hx hb hK hP 20 2 rfl rfl zh_in0 zd_law_937 ?_
    refine lv_iload hx hb zd_law_938 (lv_at hl 0 rfl) ?_
    refine lv_i2l hx hb zd_law_940 rfl ?_
    refine W.lcmp hx hb zd_law_941 ?_
    refine lv_if_eq (tgt := 947) hx hb zd_law_942 (by decide) (fun _ => ?_) (fun c_ => absurd ((lg_cmp_eq _ _).mpr (((zl_H_octet st o (xs (i + 1))).2.2 c_932).2.trans (congrArg Int32.toInt64 ((zq_octet hR w0 (xs (i + 1))).2 ((zl_H_octet st o (xs (i + 1))).2.2 c_932).1)))) c_)
    refine lv_goto (tgt := 1002) hx hb zd_law_947 (by decide) ?_
    refine W.widen (k := 21 + t + 1) (n := 2133 + 6 * t + 6) (by omega) (by omega) ?_
    exact kk (((zf_H_octet (st, o) (xs (i + 1))).2).1) ((zf_M_octet w0 w1 w2 w4 (xs (i + 1))).2) w1 w2 w3 w4 w5 w6 w7 w8 w9 w10 w11 w12 w13 w14 w15 w16 w17 w18 w19 w20 w21 (((zf_H_octet (st, o) (xs (i + 1))).2).2) (by rw [(zl_H_octet st o (xs (i + 1))).2.1]; exact hR) _ _ hP hD hS _ (lv_sub hl [2, 3, 4, 5, 6] rfl)
set_option maxHeartbeats 4000000 in
set_option maxRecDepth 100000 in
theorem zl_arm_16 {p : Program} {l : Launch} {e : Env} {s : State} {m : MethodId} {below : List Frame} {meth : Method} {c : Code} {A : Nat → Prop} {dC : Nat → ClassId} {dI : Nat → Nat → Nat} {cI cZ cL : ClassId} {a0 a1 a2 a3 a4 a5 a6 a7 a8 a9 a10 a11 a12 a13 a14 a15 a16 a17 a18 a19 a20 b L i t : Nat} {xs : Nat → Int32} (F : zl_F l p s m meth c b L xs A dC dI cI cZ cL) (hi : i + 4 < L) (ht : t ≤ 511) (kk : zl_K p l e s m below meth c A dC dI cI cZ cL a0 a1 a2 a3 a4 a5 a6 a7 a8 a9 a10 a11 a12 a13 a14 a15 a16 a17 a18 a19 a20 b i (21 + t + 1) (2133 + 6 * t + 6) 1002) : zl_K p l e s m below meth c A dC dI cI cZ cL a0 a1 a2 a3 a4 a5 a6 a7 a8 a9 a10 a11 a12 a13 a14 a15 a16 a17 a18 a19 a20 b i (21 + t) (2133 + 6 * t) 950 := by
  obtain ⟨hx, hb, hml, hown, htB, hX, hbl, hbA, hE, hZ, hA, hK, hf0, hL, hAs, hr, hlocks⟩ := id F
  intro st w0 w1 w2 w3 w4 w5 w6 w7 w8 w9 w10 w11 w12 w13 w14 w15 w16 w17 w18 w19 w20 w21 o hR H locs hP hD hS ls hl
  have hm := hR.S.m30
  have hc := hR.C.le
  have hp := hR.P.le
  have hxm : st.2.1.2.2.1 ≤ 30 := by rw [hR.S.made]; exact hm
  have hxc : st.2.2.1.2.2 ≤ 20 := by rw [hR.C.n]; exact hc
  have hxp : st.2.2.2.1.2.2.2 ≤ 20 := by rw [hR.P.n]; exact hp
  refine lv_aload_n hx hb zd_law_950 rfl (lv_at hl 1 rfl) ?_
  refine lv_aload_n hx hb zd_law_951 rfl (lv_at hl 0 rfl) ?_
  refine lv_iload hx hb zd_law_952 (lv_at hl 4 rfl) ?_
  refine lv_iconst (v := 1) hx hb zd_law_954 (by decide) ?_
  refine lv_iadd hx hb zd_law_955 ?_
  rw [nI_1 i]
  refine zl_sld hx hb hX hbl hbA hS (k := i + 1) (by omega) (by omega) zd_law_956 ?_
  refine lv_i2b hx hb zd_law_957 rfl ?_
  refine zz_ci (va_runV (As := [.int ((xs (i + 1)).toInt8.toInt32)]) (rest := []) ⟨hx, hb, hml, hown, htB⟩ (zc_X_read l dC dI cI cZ cL a0 a1 a2 a3 a4 a5 a6 a7 a8 a9 a10 a11 H.size st ((xs (i + 1)).toInt8.toInt32) ) (cwV 1 htB (zz_gV zk_4bb4b6f4 zk_d5b2c901 zk_b3b756c2 zk_cfe38e2e zk_20b1a5d6) rfl rfl rfl ⟨rfl, zh_X_read⟩ ⟨Nat.le_of_ble_eq_true rfl, Nat.le_of_ble_eq_true rfl⟩) (zz_preV (ci := 0) (q := (zr_X, zF_X, 7)) hP hD hK hE [0, 1, 2, 3, 4, 5, 6, 7, 8, 9, 10, 11] (by decide) rfl rfl rfl) rfl rfl hl.1 rfl (lv_room (Nat.le_of_ble_eq_true rfl)) zd_law_958 ⟨by show _ ≤ (1054 : Nat); omega, by show _ ≤ (10379 : Nat); omega⟩) hP hD hS hA [0, 1, 2, 3, 4, 5, 6, 7, 8, 9, 10, 11] [12, 13, 14, 15, 16, 17, 18, 19, 20] [9, 10, 11, 12, 13, 14, 15, 16, 17, 18, 19, 20, 0, 1, 2, 3, 4, 5, 6, 7, 8] rfl rfl (by decide) (by decide) (by decide) rfl (fun H locs hP hD hS => ?_)
  have hP : va_P (dC, dI) zz_cl (zv_L cI cZ cL a0 a1 a2 a3 a4 a5 a6 a7 a8 a9 a10 a11 a12 a13 a14 a15 a16 a17 a18 a19 a20 ((zf_X_read st ((xs (i + 1)).toInt8.toInt32)).2) w0 w1 w2 w3 w4 w5 w6 w7 w8 w9 w10 w11 w12 w13 w14 w15 w16 w17 w18 w19 w20 w21 o) H := hP
  have hD : va_D A (zv_L cI cZ cL a0 a1 a2 a3 a4 a5 a6 a7 a8 a9 a10 a11 a12 a13 a14 a15 a16 a17 a18 a19 a20 ((zf_X_read st ((xs (i + 1)).toInt8.toInt32)).2) w0 w1 w2 w3 w4 w5 w6 w7 w8 w9 w10 w11 w12 w13 w14 w15 w16 w17 w18 w19 w20 w21 o) := hD
  refine lv_aload_n hx hb zd_law_961 rfl (lv_at hl 2 rfl) ?_
  refine lv_aload_n hx hb zd_law_962 rfl (lv_at hl 0 rfl) ?_
  refine lv_iload hx hb zd_law_963 (lv_at hl 4 rfl) ?_
  refine lv_iconst (v := 1) hx hb zd_law_965 (by decide) ?_
  refine lv_iadd hx hb zd_law_966 ?_
  rw [nI_1 i]
  refine zl_sld hx hb hX hbl hbA hS (k := i + 1) (by omega) (by omega) zd_law_967 ?_
  refine lv_i2b hx hb zd_law_968 rfl ?_
  refine zz_ci (va_runV (As := [.int ((xs (i + 1)).toInt8.toInt32)]) (rest := [.int ((zf_X_read st ((xs (i + 1)).toInt8.toInt32)).1)]) ⟨hx, hb, hml, hown, htB⟩ (zc_M_read l dC dI cI cZ cL a12 a13 a14 a15 a16 a17 a18 a19 H.size w0 w1 w2 w3 w4 w5 w6 w7 w8 w9 w10 w11 w12 w13 w14 w15 w16 w17 w18 w19 w20 w21 ((xs (i + 1)).toInt8.toInt32) ) (cwV 1 htB (zz_gV zk_0706d42f zk_b54a9c7a zk_85411e12 zk_91cc3b19 zk_3c5bab38) rfl rfl rfl ⟨rfl, zh_M_read⟩ ⟨Nat.le_of_ble_eq_true rfl, Nat.le_of_ble_eq_true rfl⟩) (zz_preV (ci := 5) (q := (zr_M, zF_M, 22)) hP hD hK hE [12, 13, 14, 15, 16, 17, 18, 19] (by decide) rfl rfl rfl) rfl rfl hl.1 rfl (lv_room (Nat.le_of_ble_eq_true rfl)) zd_law_969 ⟨by show _ ≤ (1054 : Nat); omega, by show _ ≤ (10379 : Nat); omega⟩) hP hD hS hA [12, 13, 14, 15, 16, 17, 18, 19] [0, 1, 2, 3, 4, 5, 6, 7, 8, 9, 10, 11, 20] [0, 1, 2, 3, 4, 5, 6, 7, 8, 9, 10, 11, 13, 14, 15, 16, 17, 18, 19, 20, 12] rfl rfl (by decide) (by decide) (by decide) rfl (fun H locs hP hD hS => ?_)
  have hP : va_P (dC, dI) zz_cl (zv_L cI cZ cL a0 a1 a2 a3 a4 a5 a6 a7 a8 a9 a10 a11 a12 a13 a14 a15 a16 a17 a18 a19 a20 ((zf_X_read st ((xs (i + 1)).toInt8.toInt32)).2) ((zf_M_read w0 w14 w15 w16 w17 w18 w19 w20 w21 ((xs (i + 1)).toInt8.toInt32)).2.1) w1 w2 w3 w4 w5 w6 w7 w8 w9 w10 w11 w12 w13 ((zf_M_read w0 w14 w15 w16 w17 w18 w19 w20 w21 ((xs (i + 1)).toInt8.toInt32)).2.2.1) ((zf_M_read w0 w14 w15 w16 w17 w18 w19 w20 w21 ((xs (i + 1)).toInt8.toInt32)).2.2.2.1) ((zf_M_read w0 w14 w15 w16 w17 w18 w19 w20 w21 ((xs (i + 1)).toInt8.toInt32)).2.2.2.2.1) ((zf_M_read w0 w14 w15 w16 w17 w18 w19 w20 w21 ((xs (i + 1)).toInt8.toInt32)).2.2.2.2.2.1) ((zf_M_read w0 w14 w15 w16 w17 w18 w19 w20 w21 ((xs (i + 1)).toInt8.toInt32)).2.2.2.2.2.2.1) ((zf_M_read w0 w14 w15 w16 w17 w18 w19 w20 w21 ((xs (i + 1)).toInt8.toInt32)).2.2.2.2.2.2.2.1) ((zf_M_read w0 w14 w15 w16 w17 w18 w19 w20 w21 ((xs (i + 1)).toInt8.toInt32)).2.2.2.2.2.2.2.2.1) ((zf_M_read w0 w14 w15 w16 w17 w18 w19 w20 w21 ((xs (i + 1)).toInt8.toInt32)).2.2.2.2.2.2.2.2.2) o) H := hP
  have hD : va_D A (zv_L cI cZ cL a0 a1 a2 a3 a4 a5 a6 a7 a8 a9 a10 a11 a12 a13 a14 a15 a16 a17 a18 a19 a20 ((zf_X_read st ((xs (i + 1)).toInt8.toInt32)).2) ((zf_M_read w0 w14 w15 w16 w17 w18 w19 w20 w21 ((xs (i + 1)).toInt8.toInt32)).2.1) w1 w2 w3 w4 w5 w6 w7 w8 w9 w10 w11 w12 w13 ((zf_M_read w0 w14 w15 w16 w17 w18 w19 w20 w21 ((xs (i + 1)).toInt8.toInt32)).2.2.1) ((zf_M_read w0 w14 w15 w16 w17 w18 w19 w20 w21 ((xs (i + 1)).toInt8.toInt32)).2.2.2.1) ((zf_M_read w0 w14 w15 w16 w17 w18 w19 w20 w21 ((xs (i + 1)).toInt8.toInt32)).2.2.2.2.1) ((zf_M_read w0 w14 w15 w16 w17 w18 w19 w20 w21 ((xs (i + 1)).toInt8.toInt32)).2.2.2.2.2.1) ((zf_M_read w0 w14 w15 w16 w17 w18 w19 w20 w21 ((xs (i + 1)).toInt8.toInt32)).2.2.2.2.2.2.1) ((zf_M_read w0 w14 w15 w16 w17 w18 w19 w20 w21 ((xs (i + 1)).toInt8.toInt32)).2.2.2.2.2.2.2.1) ((zf_M_read w0 w14 w15 w16 w17 w18 w19 w20 w21 ((xs (i + 1)).toInt8.toInt32)).2.2.2.2.2.2.2.2.1) ((zf_M_read w0 w14 w15 w16 w17 w18 w19 w20 w21 ((xs (i + 1)).toInt8.toInt32)).2.2.2.2.2.2.2.2.2) o) := hD
  refine lv_icmp_eq (tgt := 1002) hx hb zd_law_972 (by decide) (fun _ => ?_) (fun c_ => absurd (zq_read hR w0 ((xs (i + 1)).toInt8.toInt32)).1 c_)
  refine W.widen (k := 21 + t + 1) (n := 2133 + 6 * t + 6) (by omega) (by omega) ?_
  exact kk ((zf_X_read st ((xs (i + 1)).toInt8.toInt32)).2) ((zf_M_read w0 w14 w15 w16 w17 w18 w19 w20 w21 ((xs (i + 1)).toInt8.toInt32)).2.1) w1 w2 w3 w4 w5 w6 w7 w8 w9 w10 w11 w12 w13 ((zf_M_read w0 w14 w15 w16 w17 w18 w19 w20 w21 ((xs (i + 1)).toInt8.toInt32)).2.2.1) ((zf_M_read w0 w14 w15 w16 w17 w18 w19 w20 w21 ((xs (i + 1)).toInt8.toInt32)).2.2.2.1) ((zf_M_read w0 w14 w15 w16 w17 w18 w19 w20 w21 ((xs (i + 1)).toInt8.toInt32)).2.2.2.2.1) ((zf_M_read w0 w14 w15 w16 w17 w18 w19 w20 w21 ((xs (i + 1)).toInt8.toInt32)).2.2.2.2.2.1) ((zf_M_read w0 w14 w15 w16 w17 w18 w19 w20 w21 ((xs (i + 1)).toInt8.toInt32)).2.2.2.2.2.2.1) ((zf_M_read w0 w14 w15 w16 w17 w18 w19 w20 w21 ((xs (i + 1)).toInt8.toInt32)).2.2.2.2.2.2.2.1) ((zf_M_read w0 w14 w15 w16 w17 w18 w19 w20 w21 ((xs (i + 1)).toInt8.toInt32)).2.2.2.2.2.2.2.2.1) ((zf_M_read w0 w14 w15 w16 w17 w18 w19 w20 w21 ((xs (i + 1)).toInt8.toInt32)).2.2.2.2.2.2.2.2.2) o (zq_read hR w0 ((xs (i + 1)).toInt8.toInt32)).2 _ _ hP hD hS _ (lv_sub hl [0, 1, 2, 3, 4] rfl)
set_option maxHeartbeats 4000000 in
set_option maxRecDepth 100000 in
theorem zl_arm_17 {p : Program} {l : Launch} {e : Env} {s : State} {m : MethodId} {below : List Frame} {meth : Method} {c : Code} {A : Nat → Prop} {dC : Nat → ClassId} {dI : Nat → Nat → Nat} {cI cZ cL : ClassId} {a0 a1 a2 a3 a4 a5 a6 a7 a8 a9 a10 a11 a12 a13 a14 a15 a16 a17 a18 a19 a20 b L i t : Nat} {xs : Nat → Int32} (F : zl_F l p s m meth c b L xs A dC dI cI cZ cL) (hi : i + 4 < L) (ht : t ≤ 511) (kk : zl_K p l e s m below meth c A dC dI cI cZ cL a0 a1 a2 a3 a4 a5 a6 a7 a8 a9 a10 a11 a12 a13 a14 a15 a16 a17 a18 a19 a20 b i (21 + t + 1) (2133 + 6 * t + 6) 1002) : zl_K p l e s m below meth c A dC dI cI cZ cL a0 a1 a2 a3 a4 a5 a6 a7 a8 a9 a10 a11 a12 a13 a14 a15 a16 a17 a18 a19 a20 b i (21 + t) (2133 + 6 * t) 977 := by
  obtain ⟨hx, hb, hml, hown, htB, hX, hbl, hbA, hE, hZ, hA, hK, hf0, hL, hAs, hr, hlocks⟩ := id F
  intro st w0 w1 w2 w3 w4 w5 w6 w7 w8 w9 w10 w11 w12 w13 w14 w15 w16 w17 w18 w19 w20 w21 o hR H locs hP hD hS ls hl
  have hm := hR.S.m30
  have hc := hR.C.le
  have hp := hR.P.le
  have hxm : st.2.1.2.2.1 ≤ 30 := by rw [hR.S.made]; exact hm
  have hxc : st.2.2.1.2.2 ≤ 20 := by rw [hR.C.n]; exact hc
  have hxp : st.2.2.2.1.2.2.2 ≤ 20 := by rw [hR.P.n]; exact hp
  refine lv_aload_n hx hb zd_law_977 rfl (lv_at hl 1 rfl) ?_
  refine lv_aload_n hx hb zd_law_978 rfl (lv_at hl 0 rfl) ?_
  refine lv_iload hx hb zd_law_979 (lv_at hl 4 rfl) ?_
  refine lv_iconst (v := 1) hx hb zd_law_981 (by decide) ?_
  refine lv_iadd hx hb zd_law_982 ?_
  rw [nI_1 i]
  refine zl_sld hx hb hX hbl hbA hS (k := i + 1) (by omega) (by omega) zd_law_983 ?_
  refine zz_ki (va_runV (As := [.int (xs (i + 1))]) (rest := []) ⟨hx, hb, hml, hown, htB⟩ (zc_X_count l dC dI cI cZ cL a0 a1 a2 a3 a4 a5 a6 a7 a8 a9 a10 a11 H.size st (xs (i + 1)) hxc hxp) (cwV 1 htB (zz_gV zk_bd6aa137 zk_38abb1b5 zk_0fb0bdb6 zk_cfe38e2e zk_4c2a8ca5) rfl rfl rfl ⟨rfl, zh_X_count⟩ ⟨Nat.le_of_ble_eq_true rfl, Nat.le_of_ble_eq_true rfl⟩) (zz_preV (ci := 0) (q := (zr_X, zF_X, 7)) hP hD hK hE [0, 1, 2, 3, 4, 5, 6, 7, 8, 9, 10, 11] (by decide) rfl rfl rfl) rfl rfl hl.1 rfl (lv_room (Nat.le_of_ble_eq_true rfl)) zd_law_984 ⟨by show _ ≤ (1054 : Nat); omega, by show _ ≤ (10379 : Nat); omega⟩) ?_
  refine lv_aload_n hx hb zd_law_987 rfl (lv_at hl 2 rfl) ?_
  refine lv_aload_n hx hb zd_law_988 rfl (lv_at hl 0 rfl) ?_
  refine lv_iload hx hb zd_law_989 (lv_at hl 4 rfl) ?_
  refine lv_iconst (v := 1) hx hb zd_law_991 (by decide) ?_
  refine lv_iadd hx hb zd_law_992 ?_
  rw [nI_1 i]
  refine zl_sld hx hb hX hbl hbA hS (k := i + 1) (by omega) (by omega) zd_law_993 ?_
  refine zz_ci (va_runV (As := [.int (xs (i + 1))]) (rest := [.int (zf_X_count st (xs (i + 1)))]) ⟨hx, hb, hml, hown, htB⟩ (zc_M_count l dC dI cI cZ cL a12 a13 a14 a15 a16 a17 a18 a19 H.size w0 w1 w2 w3 w4 w5 w6 w7 w8 w9 w10 w11 w12 w13 w14 w15 w16 w17 w18 w19 w20 w21 (xs (i + 1)) hm hc hp) (cwV 1 htB (zz_gV zk_3a1d1bf3 zk_8e6ee69c zk_b75de5f1 zk_91cc3b19 zk_8a9c3deb) rfl rfl rfl ⟨rfl, zh_M_count⟩ ⟨Nat.le_of_ble_eq_true rfl, Nat.le_of_ble_eq_true rfl⟩) (zz_preV (ci := 5) (q := (zr_M, zF_M, 22)) hP hD hK hE [12, 13, 14, 15, 16, 17, 18, 19] (by decide) rfl rfl rfl) rfl rfl hl.1 rfl (lv_room (Nat.le_of_ble_eq_true rfl)) zd_law_994 ⟨by show _ ≤ (1054 : Nat); omega, by show _ ≤ (10379 : Nat); omega⟩) hP hD hS hA [12, 13, 14, 15, 16, 17, 18, 19] [0, 1, 2, 3, 4, 5, 6, 7, 8, 9, 10, 11, 20] [0, 1, 2, 3, 4, 5, 6, 7, 8, 9, 10, 11, 13, 14, 15, 16, 17, 18, 19, 20, 12] rfl rfl (by decide) (by decide) (by decide) rfl (fun H locs hP hD hS => ?_)
  have hP : va_P (dC, dI) zz_cl (zv_L cI cZ cL a0 a1 a2 a3 a4 a5 a6 a7 a8 a9 a10 a11 a12 a13 a14 a15 a16 a17 a18 a19 a20 st ((zf_M_count w0 w1 w2 w3 w4 w5 w6 w7 w9 w10 w11 w12 w20 w21 (xs (i + 1))).2) w1 w2 w3 w4 w5 w6 w7 w8 w9 w10 w11 w12 w13 w14 w15 w16 w17 w18 w19 w20 w21 o) H := hP
  have hD : va_D A (zv_L cI cZ cL a0 a1 a2 a3 a4 a5 a6 a7 a8 a9 a10 a11 a12 a13 a14 a15 a16 a17 a18 a19 a20 st ((zf_M_count w0 w1 w2 w3 w4 w5 w6 w7 w9 w10 w11 w12 w20 w21 (xs (i + 1))).2) w1 w2 w3 w4 w5 w6 w7 w8 w9 w10 w11 w12 w13 w14 w15 w16 w17 w18 w19 w20 w21 o) := hD
  refine lv_icmp_eq (tgt := 1002) hx hb zd_law_997 (by decide) (fun _ => ?_) (fun c_ => absurd (zq_count hR w0 (xs (i + 1))) c_)
  refine W.widen (k := 21 + t + 1) (n := 2133 + 6 * t + 6) (by omega) (by omega) ?_
  exact kk st ((zf_M_count w0 w1 w2 w3 w4 w5 w6 w7 w9 w10 w11 w12 w20 w21 (xs (i + 1))).2) w1 w2 w3 w4 w5 w6 w7 w8 w9 w10 w11 w12 w13 w14 w15 w16 w17 w18 w19 w20 w21 o hR _ _ hP hD hS _ (lv_sub hl [0, 1, 2, 3, 4] rfl)
