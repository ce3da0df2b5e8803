set_option maxHeartbeats 4000000 in
set_option maxRecDepth 100000 in
theorem zc_R_wholeRows (l : Launch) (dC : Nat → ClassId) (dI : Nat → Nat → Nat) (cI cZ cL : ClassId) (a0 : Nat) (sz : Nat) (st : zu_R)  : Met l zy_R_wholeRows (zz_ws zy_R_wholeRows zb_R_wholeRows 1 (some .int)) ({ frames := 0, cells := 0, slots := 0, locals := 0 } : Room) (va_Pc ([.ref a0] : List Value) (zz_P (dC, dI) (zz_ty cI cZ cL) sz (zw_R cI cZ cL a0 st))) (zz_Ki (zf_R_wholeRows st)) 0 0 (fun _ => False) := by
  refine zz_ofK (by decide) (Nat.le_of_ble_eq_true rfl) ?_
  intro p e s m below meth c C0 hK hP hD ls hl
  obtain ⟨hx, hb, hr, hml, hown, htB, hlocks, hE⟩ := id C0
  have hl : lv_has ls 1 [(0, .ref a0)] := hl
  refine lv_aload_n hx hb zd_R_wholeRows_0 rfl (lv_at hl 0 rfl) ?_
  refine va_get (D := (dC, dI)) (ci := 4) (v := .int st.2.2.2.2.2.2.2.1) (C := zr_R) (T := zF_R) (N := 9) hx hb htB zi_R hown hK hP 0 rfl rfl 7 (by decide) (htB _ zk_e7cbea07) (fun _ h9 => h9) rfl zd_R_wholeRows_1 ?_
  rw [(show zf_R_wholeRows st = st.2.2.2.2.2.2.2.1 from by first | rfl | (rw [zf_R_wholeRows]))]
  exact zz_kiret hx hb hr hlocks zd_R_wholeRows_4 rfl
set_option maxHeartbeats 4000000 in
set_option maxRecDepth 100000 in
theorem zc_R_latestFields (l : Launch) (dC : Nat → ClassId) (dI : Nat → Nat → Nat) (cI cZ cL : ClassId) (a0 : Nat) (sz : Nat) (st : zu_R)  : Met l zy_R_latestFields (zz_ws zy_R_latestFields zb_R_latestFields 1 (some .int)) ({ frames := 0, cells := 0, slots := 0, locals := 0 } : Room) (va_Pc ([.ref a0] : List Value) (zz_P (dC, dI) (zz_ty cI cZ cL) sz (zw_R cI cZ cL a0 st))) (zz_Ki (zf_R_latestFields st)) 0 0 (fun _ => False) := by
  refine zz_ofK (by decide) (Nat.le_of_ble_eq_true rfl) ?_
  intro p e s m below meth c C0 hK hP hD ls hl
  obtain ⟨hx, hb, hr, hml, hown, htB, hlocks, hE⟩ := id C0
  have hl : lv_has ls 1 [(0, .ref a0)] := hl
  refine lv_aload_n hx hb zd_R_latestFields_0 rfl (lv_at hl 0 rfl) ?_
  refine va_get (D := (dC, dI)) (ci := 4) (v := .int st.2.2.2.2.2.2.2.2) (C := zr_R) (T := zF_R) (N := 9) hx hb htB zi_R hown hK hP 0 rfl rfl 8 (by decide) (htB _ zk_8c4f15a9) (fun _ h9 => h9) rfl zd_R_latestFields_1 ?_
  rw [(show zf_R_latestFields st = st.2.2.2.2.2.2.2.2 from by first | rfl | (rw [zf_R_latestFields]))]
  exact zz_kiret hx hb hr hlocks zd_R_latestFields_4 rfl
set_option maxHeartbeats 4000000 in
set_option maxRecDepth 100000 in
theorem zc_R_takeKind (l : Launch) (dC : Nat → ClassId) (dI : Nat → Nat → Nat) (cI cZ cL : ClassId) (a0 : Nat) (sz : Nat) (st : zu_R) (p1 : Int32)  : Met l zy_R_takeKind (zz_ws zy_R_takeKind zb_R_takeKind 2 (some .boolean)) ({ frames := 0, cells := 0, slots := 0, locals := 0 } : Room) (va_Pc ([.ref a0, .int p1] : List Value) (zz_P (dC, dI) (zz_ty cI cZ cL) sz (zw_R cI cZ cL a0 st))) (zz_Qi (dC, dI) (zz_ty cI cZ cL) (va_A (zw_R cI cZ cL a0 st) sz) ((zf_R_takeKind st p1).1) (zw_R cI cZ cL a0 ((zf_R_takeKind st p1).2))) 0 0 (va_A (zw_R cI cZ cL a0 st) sz) := by
  refine zz_ofW (Q := fun A => (zz_Qi (dC, dI) (zz_ty cI cZ cL) A ((zf_R_takeKind st p1).1) (zw_R cI cZ cL a0 ((zf_R_takeKind st p1).2)))) (by decide) (Nat.le_of_ble_eq_true rfl) ?_
  intro p e s m below meth c A C0 _ hA hK hP hD _ ls hl
  obtain ⟨hx, hb, hr, hml, hown, htB, hlocks, hE⟩ := id C0
  have hS : va_S A s.heap s.heap [] := va_S.rf
  have hl : lv_has ls 2 [(0, .ref a0), (1, .int p1)] := hl
  refine lv_aload_n hx hb zd_R_takeKind_0 rfl (lv_at hl 0 rfl) ?_
  refine lv_iload_n hx hb zd_R_takeKind_1 rfl (lv_at hl 1 rfl) ?_
  refine va_put (D := (dC, dI)) (ci := 4) (v := .int p1) (C := zr_R) (T := zF_R) (N := 9) hx hb htB zi_R zT_R zT_R_ok zn_R hown hK hP hD hS 0 rfl rfl 1 (by decide) (htB _ zk_04fa654a) (fun _ h9 => h9) rfl (zT_R_ok 1 (by decide)) rfl rfl (Nat.le_of_ble_eq_true rfl) zd_R_takeKind_2 (fun H locs hP hD hS => ?_)
  have hP : va_P (dC, dI) zz_cl (zw_R cI cZ cL a0 (st.1, p1, st.2.2.1, st.2.2.2.1, st.2.2.2.2.1, st.2.2.2.2.2.1, st.2.2.2.2.2.2.1, st.2.2.2.2.2.2.2.1, st.2.2.2.2.2.2.2.2)) H := hP
  have hD : va_D A (zw_R cI cZ cL a0 (st.1, p1, st.2.2.1, st.2.2.2.1, st.2.2.2.2.1, st.2.2.2.2.2.1, st.2.2.2.2.2.2.1, st.2.2.2.2.2.2.2.1, st.2.2.2.2.2.2.2.2)) := hD
  refine lv_aload_n hx hb zd_R_takeKind_5 rfl (lv_at hl 0 rfl) ?_
  refine lv_iconst (v := (-1)) hx hb zd_R_takeKind_6 (by decide) ?_
  refine va_put (D := (dC, dI)) (ci := 4) (v := .int (-1)) (C := zr_R) (T := zF_R) (N := 9) hx hb htB zi_R zT_R zT_R_ok zn_R hown hK hP hD hS 0 rfl rfl 5 (by decide) (htB _ zk_5d4512b9) (fun _ h9 => h9) rfl (zT_R_ok 5 (by decide)) rfl rfl (Nat.le_of_ble_eq_true rfl) zd_R_takeKind_7 (fun H locs hP hD hS => ?_)
  have hP : va_P (dC, dI) zz_cl (zw_R cI cZ cL a0 (st.1, p1, st.2.2.1, st.2.2.2.1, st.2.2.2.2.1, (-1), st.2.2.2.2.2.2.1, st.2.2.2.2.2.2.2.1, st.2.2.2.2.2.2.2.2)) H := hP
  have hD : va_D A (zw_R cI cZ cL a0 (st.1, p1, st.2.2.1, st.2.2.2.1, st.2.2.2.2.1, (-1), st.2.2.2.2.2.2.1, st.2.2.2.2.2.2.2.1, st.2.2.2.2.2.2.2.2)) := hD
  refine lv_iload_n hx hb zd_R_takeKind_10 rfl (lv_at hl 1 rfl) ?_
  refine lv_iconst (v := 3) hx hb zd_R_takeKind_11 (by decide) ?_
  refine lv_icmp_gt (tgt := 19) hx hb zd_R_takeKind_12 (by decide) (fun c_12 => ?_) (fun c_12 => ?_)
  · refine lv_iconst (v := 0) hx hb zd_R_takeKind_19 (by decide) ?_
    rw [(show zf_R_takeKind st p1 = (0, (st.1, p1, st.2.2.1, st.2.2.2.1, st.2.2.2.2.1, (-1), st.2.2.2.2.2.2.1, st.2.2.2.2.2.2.2.1, st.2.2.2.2.2.2.2.2)) from by rw [zf_R_takeKind, if_pos c_12])]
    exact zz_zret hx hb hr hlocks narrow_b0 hK hP hD hS zd_R_takeKind_20 rfl
  · refine lv_iconst (v := 1) hx hb zd_R_takeKind_15 (by decide) ?_
    refine lv_goto (tgt := 20) hx hb zd_R_takeKind_16 (by decide) ?_
    rw [(show zf_R_takeKind st p1 = (1, (st.1, p1, st.2.2.1, st.2.2.2.1, st.2.2.2.2.1, (-1), st.2.2.2.2.2.2.1, st.2.2.2.2.2.2.2.1, st.2.2.2.2.2.2.2.2)) from by rw [zf_R_takeKind, if_neg c_12])]
    exact zz_zret hx hb hr hlocks narrow_b1 hK hP hD hS zd_R_takeKind_20 rfl
set_option maxHeartbeats 4000000 in
set_option maxRecDepth 100000 in
theorem zc_R_takeHigher (l : Launch) (dC : Nat → ClassId) (dI : Nat → Nat → Nat) (cI cZ cL : ClassId) (a0 : Nat) (sz : Nat) (st : zu_R) (p1 : Int32)  : Met l zy_R_takeHigher (zz_ws zy_R_takeHigher zb_R_takeHigher 2 (some .boolean)) ({ frames := 0, cells := 0, slots := 0, locals := 0 } : Room) (va_Pc ([.ref a0, .int p1] : List Value) (zz_P (dC, dI) (zz_ty cI cZ cL) sz (zw_R cI cZ cL a0 st))) (zz_Qi (dC, dI) (zz_ty cI cZ cL) (va_A (zw_R cI cZ cL a0 st) sz) ((zf_R_takeHigher st p1).1) (zw_R cI cZ cL a0 ((zf_R_takeHigher st p1).2))) 0 0 (va_A (zw_R cI cZ cL a0 st) sz) := by
  refine zz_ofW (Q := fun A => (zz_Qi (dC, dI) (zz_ty cI cZ cL) A ((zf_R_takeHigher st p1).1) (zw_R cI cZ cL a0 ((zf_R_takeHigher st p1).2)))) (by decide) (Nat.le_of_ble_eq_true rfl) ?_
  intro p e s m below meth c A C0 _ hA hK hP hD _ ls hl
  obtain ⟨hx, hb, hr, hml, hown, htB, hlocks, hE⟩ := id C0
  have hS : va_S A s.heap s.heap [] := va_S.rf
  have hl : lv_has ls 2 [(0, .ref a0), (1, .int p1)] := hl
  refine lv_aload_n hx hb zd_R_takeHigher_0 rfl (lv_at hl 0 rfl) ?_
  refine lv_iload_n hx hb zd_R_takeHigher_1 rfl (lv_at hl 1 rfl) ?_
  refine lv_sipush (v := 256) hx hb zd_R_takeHigher_2 (by decide) ?_
  refine lv_imul hx hb zd_R_takeHigher_5 ?_
  refine va_put (D := (dC, dI)) (ci := 4) (v := .int (p1 * 256)) (C := zr_R) (T := zF_R) (N := 9) hx hb htB zi_R zT_R zT_R_ok zn_R hown hK hP hD hS 0 rfl rfl 2 (by decide) (htB _ zk_64a6c42c) (fun _ h9 => h9) rfl (zT_R_ok 2 (by decide)) rfl rfl (Nat.le_of_ble_eq_true rfl) zd_R_takeHigher_6 (fun H locs hP hD hS => ?_)
  have hP : va_P (dC, dI) zz_cl (zw_R cI cZ cL a0 (st.1, st.2.1, p1 * 256, st.2.2.2.1, st.2.2.2.2.1, st.2.2.2.2.2.1, st.2.2.2.2.2.2.1, st.2.2.2.2.2.2.2.1, st.2.2.2.2.2.2.2.2)) H := hP
  have hD : va_D A (zw_R cI cZ cL a0 (st.1, st.2.1, p1 * 256, st.2.2.2.1, st.2.2.2.2.1, st.2.2.2.2.2.1, st.2.2.2.2.2.2.1, st.2.2.2.2.2.2.2.1, st.2.2.2.2.2.2.2.2)) := hD
  refine lv_aload_n hx hb zd_R_takeHigher_9 rfl (lv_at hl 0 rfl) ?_
  refine va_get (D := (dC, dI)) (ci := 4) (v := .int (p1 * 256)) (C := zr_R) (T := zF_R) (N := 9) hx hb htB zi_R hown hK hP 0 rfl rfl 2 (by decide) (htB _ zk_64a6c42c) (fun _ h9 => h9) rfl zd_R_takeHigher_10 ?_
  refine lv_sipush (v := 610) hx hb zd_R_takeHigher_13 (by decide) ?_
  refine lv_icmp_gt (tgt := 23) hx hb zd_R_takeHigher_16 (by decide) (fun c_16 => ?_) (fun c_16 => ?_)
  · refine lv_iconst (v := 0) hx hb zd_R_takeHigher_23 (by decide) ?_
    rw [(show zf_R_takeHigher st p1 = (0, (st.1, st.2.1, p1 * 256, st.2.2.2.1, st.2.2.2.2.1, st.2.2.2.2.2.1, st.2.2.2.2.2.2.1, st.2.2.2.2.2.2.2.1, st.2.2.2.2.2.2.2.2)) from by rw [zf_R_takeHigher, if_pos c_16])]
    exact zz_zret hx hb hr hlocks narrow_b0 hK hP hD hS zd_R_takeHigher_24 rfl
  · refine lv_iconst (v := 1) hx hb zd_R_takeHigher_19 (by decide) ?_
    refine lv_goto (tgt := 24) hx hb zd_R_takeHigher_20 (by decide) ?_
    rw [(show zf_R_takeHigher st p1 = (1, (st.1, st.2.1, p1 * 256, st.2.2.2.1, st.2.2.2.2.1, st.2.2.2.2.2.1, st.2.2.2.2.2.2.1, st.2.2.2.2.2.2.2.1, st.2.2.2.2.2.2.2.2)) from by rw [zf_R_takeHigher, if_neg c_16])]
    exact zz_zret hx hb hr hlocks narrow_b1 hK hP hD hS zd_R_takeHigher_24 rfl
set_option maxHeartbeats 4000000 in
set_option maxRecDepth 100000 in
theorem zc_R_takeLower (l : Launch) (dC : Nat → ClassId) (dI : Nat → Nat → Nat) (cI cZ cL : ClassId) (a0 : Nat) (sz : Nat) (st : zu_R) (p1 : Int32)  : Met l zy_R_takeLower (zz_ws zy_R_takeLower zb_R_takeLower 2 (some .boolean)) ({ frames := 0, cells := 0, slots := 0, locals := 0 } : Room) (va_Pc ([.ref a0, .int p1] : List Value) (zz_P (dC, dI) (zz_ty cI cZ cL) sz (zw_R cI cZ cL a0 st))) (zz_Qi (dC, dI) (zz_ty cI cZ cL) (va_A (zw_R cI cZ cL a0 st) sz) ((zf_R_takeLower st p1).1) (zw_R cI cZ cL a0 ((zf_R_takeLower st p1).2))) 0 0 (va_A (zw_R cI cZ cL a0 st) sz) := by
  refine zz_ofW (Q := fun A => (zz_Qi (dC, dI) (zz_ty cI cZ cL) A ((zf_R_takeLower st p1).1) (zw_R cI cZ cL a0 ((zf_R_takeLower st p1).2)))) (by decide) (Nat.le_of_ble_eq_true rfl) ?_
  intro p e s m below meth c A C0 _ hA hK hP hD _ ls hl
  obtain ⟨hx, hb, hr, hml, hown, htB, hlocks, hE⟩ := id C0
  have hS : va_S A s.heap s.heap [] := va_S.rf
  have hl : lv_has ls 2 [(0, .ref a0), (1, .int p1)] := hl
  refine lv_aload_n hx hb zd_R_takeLower_0 rfl (lv_at hl 0 rfl) ?_
  refine lv_dup hx hb zd_R_takeLower_1 rfl ?_
  refine va_get (D := (dC, dI)) (ci := 4) (v := .int st.2.2.1) (C := zr_R) (T := zF_R) (N := 9) hx hb htB zi_R hown hK hP 0 rfl rfl 2 (by decide) (htB _ zk_64a6c42c) (fun _ h9 => h9) rfl zd_R_takeLower_2 ?_
  refine lv_iload_n hx hb zd_R_takeLower_5 rfl (lv_at hl 1 rfl) ?_
  refine lv_iadd hx hb zd_R_takeLower_6 ?_
  refine va_put (D := (dC, dI)) (ci := 4) (v := .int (st.2.2.1 + p1)) (C := zr_R) (T := zF_R) (N := 9) hx hb htB zi_R zT_R zT_R_ok zn_R hown hK hP hD hS 0 rfl rfl 2 (by decide) (htB _ zk_64a6c42c) (fun _ h9 => h9) rfl (zT_R_ok 2 (by decide)) rfl rfl (Nat.le_of_ble_eq_true rfl) zd_R_takeLower_7 (fun H locs hP hD hS => ?_)
  have hP : va_P (dC, dI) zz_cl (zw_R cI cZ cL a0 (st.1, st.2.1, st.2.2.1 + p1, st.2.2.2.1, st.2.2.2.2.1, st.2.2.2.2.2.1, st.2.2.2.2.2.2.1, st.2.2.2.2.2.2.2.1, st.2.2.2.2.2.2.2.2)) H := hP
  have hD : va_D A (zw_R cI cZ cL a0 (st.1, st.2.1, st.2.2.1 + p1, st.2.2.2.1, st.2.2.2.2.1, st.2.2.2.2.2.1, st.2.2.2.2.2.2.1, st.2.2.2.2.2.2.2.1, st.2.2.2.2.2.2.2.2)) := hD
  refine lv_aload_n hx hb zd_R_takeLower_10 rfl (lv_at hl 0 rfl) ?_
  refine lv_aload_n hx hb zd_R_takeLower_11 rfl (lv_at hl 0 rfl) ?_
  refine va_get (D := (dC, dI)) (ci := 4) (v := .int (st.2.2.1 + p1)) (C := zr_R) (T := zF_R) (N := 9) hx hb htB zi_R hown hK hP 0 rfl rfl 2 (by decide) (htB _ zk_64a6c42c) (fun _ h9 => h9) rfl zd_R_takeLower_12 ?_
  refine va_put (D := (dC, dI)) (ci := 4) (v := .int (st.2.2.1 + p1)) (C := zr_R) (T := zF_R) (N := 9) hx hb htB zi_R zT_R zT_R_ok zn_R hown hK hP hD hS 0 rfl rfl 3 (by decide) (htB _ zk_19b26606) (fun _ h9 => h9) rfl (zT_R_ok 3 (by decide)) rfl rfl (Nat.le_of_ble_eq_true rfl) zd_R_takeLower_15 (fun H locs hP hD hS => ?_)
  have hP : va_P (dC, dI) zz_cl (zw_R cI cZ cL a0 (st.1, st.2.1, st.2.2.1 + p1, st.2.2.1 + p1, st.2.2.2.2.1, st.2.2.2.2.2.1, st.2.2.2.2.2.2.1, st.2.2.2.2.2.2.2.1, st.2.2.2.2.2.2.2.2)) H := hP
  have hD : va_D A (zw_R cI cZ cL a0 (st.1, st.2.1, st.2.2.1 + p1, st.2.2.1 + p1, st.2.2.2.2.1, st.2.2.2.2.2.1, st.2.2.2.2.2.2.1, st.2.2.2.2.2.2.2.1, st.2.2.2.2.2.2.2.2)) := hD
  refine lv_aload_n hx hb zd_R_takeLower_18 rfl (lv_at hl 0 rfl) ?_
  refine va_get (D := (dC, dI)) (ci := 4) (v := .int (st.2.2.1 + p1)) (C := zr_R) (T := zF_R) (N := 9) hx hb htB zi_R hown hK hP 0 rfl rfl 2 (by decide) (htB _ zk_64a6c42c) (fun _ h9 => h9) rfl zd_R_takeLower_19 ?_
  refine lv_sipush (v := 610) hx hb zd_R_takeLower_22 (by decide) ?_
  refine lv_icmp_gt (tgt := 32) hx hb zd_R_takeLower_25 (by decide) (fun c_25 => ?_) (fun c_25 => ?_)
  · refine lv_iconst (v := 0) hx hb zd_R_takeLower_32 (by decide) ?_
    rw [(show zf_R_takeLower st p1 = (0, (st.1, st.2.1, st.2.2.1 + p1, st.2.2.1 + p1, st.2.2.2.2.1, st.2.2.2.2.2.1, st.2.2.2.2.2.2.1, st.2.2.2.2.2.2.2.1, st.2.2.2.2.2.2.2.2)) from by rw [zf_R_takeLower, if_pos c_25])]
    exact zz_zret hx hb hr hlocks narrow_b0 hK hP hD hS zd_R_takeLower_33 rfl
  · refine lv_iconst (v := 1) hx hb zd_R_takeLower_28 (by decide) ?_
    refine lv_goto (tgt := 33) hx hb zd_R_takeLower_29 (by decide) ?_
    rw [(show zf_R_takeLower st p1 = (1, (st.1, st.2.1, st.2.2.1 + p1, st.2.2.1 + p1, st.2.2.2.2.1, st.2.2.2.2.2.1, st.2.2.2.2.2.2.1, st.2.2.2.2.2.2.2.1, st.2.2.2.2.2.2.2.2)) from by rw [zf_R_takeLower, if_neg c_25])]
    exact zz_zret hx hb hr hlocks narrow_b1 hK hP hD hS zd_R_takeLower_33 rfl
set_option maxHeartbeats 4000000 in
set_option maxRecDepth 100000 in
theorem zc_R_takeField (l : Launch) (dC : Nat → ClassId) (dI : Nat → Nat → Nat) (cI cZ cL : ClassId) (a0 : Nat) (sz : Nat) (st : zu_R) (p1 : Int32)  : Met l zy_R_takeField (zz_ws zy_R_takeField zb_R_takeField 2 (some .boolean)) ({ frames := 1, cells := 0, slots := 0, locals := 21 } : Room) (va_Pc ([.ref a0, .int p1] : List Value) (zz_P (dC, dI) (zz_ty cI cZ cL) sz (zw_R cI cZ cL a0 st))) (zz_Qi (dC, dI) (zz_ty cI cZ cL) (va_A (zw_R cI cZ cL a0 st) sz) ((zf_R_takeField st p1).1) (zw_R cI cZ cL a0 ((zf_R_takeField st p1).2))) 0 0 (va_A (zw_R cI cZ cL a0 st) sz) := by
  refine zz_ofW (Q := fun A => (zz_Qi (dC, dI) (zz_ty cI cZ cL) A ((zf_R_takeField st p1).1) (zw_R cI cZ cL a0 ((zf_R_takeField st p1).2)))) (by decide) (Nat.le_of_ble_eq_true rfl) ?_
  intro p e s m below meth c A C0 _ hA hK hP hD _ ls hl
  obtain ⟨hx, hb, hr, hml, hown, htB, hlocks, hE⟩ := id C0
  have hS : va_S A s.heap s.heap [] := va_S.rf
  have hl : lv_has ls 2 [(0, .ref a0), (1, .int p1)] := hl
  refine lv_aload_n hx hb zd_R_takeField_0 rfl (lv_at hl 0 rfl) ?_
  refine lv_iload_n hx hb zd_R_takeField_1 rfl (lv_at hl 1 rfl) ?_
  refine va_put (D := (dC, dI)) (ci := 4) (v := .int p1) (C := zr_R) (T := zF_R) (N := 9) hx hb htB zi_R zT_R zT_R_ok zn_R hown hK hP hD hS 0 rfl rfl 4 (by decide) (htB _ zk_38af8887) (fun _ h9 => h9) rfl (zT_R_ok 4 (by decide)) rfl rfl (Nat.le_of_ble_eq_true rfl) zd_R_takeField_2 (fun H locs hP hD hS => ?_)
  have hP : va_P (dC, dI) zz_cl (zw_R cI cZ cL a0 (st.1, st.2.1, st.2.2.1, st.2.2.2.1, p1, st.2.2.2.2.2.1, st.2.2.2.2.2.2.1, st.2.2.2.2.2.2.2.1, st.2.2.2.2.2.2.2.2)) H := hP
  have hD : va_D A (zw_R cI cZ cL a0 (st.1, st.2.1, st.2.2.1, st.2.2.2.1, p1, st.2.2.2.2.2.1, st.2.2.2.2.2.2.1, st.2.2.2.2.2.2.2.1, st.2.2.2.2.2.2.2.2)) := hD
  refine lv_iload_n hx hb zd_R_takeField_5 rfl (lv_at hl 1 rfl) ?_
  refine lv_bipush (v := 19) hx hb zd_R_takeField_6 (by decide) ?_
  refine lv_icmp_gt (tgt := 27) hx hb zd_R_takeField_8 (by decide) (fun c_8 => ?_) (fun c_8 => ?_)
  · refine lv_iconst (v := 0) hx hb zd_R_takeField_27 (by decide) ?_
    rw [(show zf_R_takeField st p1 = (0, (st.1, st.2.1, st.2.2.1, st.2.2.2.1, p1, st.2.2.2.2.2.1, st.2.2.2.2.2.2.1, st.2.2.2.2.2.2.2.1, st.2.2.2.2.2.2.2.2)) from by rw [zf_R_takeField, if_pos c_8])]
    exact zz_zret hx hb hr hlocks narrow_b0 hK hP hD hS zd_R_takeField_28 rfl
  · refine lv_aload_n hx hb zd_R_takeField_11 rfl (lv_at hl 0 rfl) ?_
    refine va_get (D := (dC, dI)) (ci := 4) (v := .int st.2.1) (C := zr_R) (T := zF_R) (N := 9) hx hb htB zi_R hown hK hP 0 rfl rfl 1 (by decide) (htB _ zk_04fa654a) (fun _ h9 => h9) rfl zd_R_takeField_12 ?_
    refine lv_iload_n hx hb zd_R_takeField_15 rfl (lv_at hl 1 rfl) ?_
    refine zz_ki (va_runSN (As := [.int st.2.1, .int p1]) (rest := []) ⟨hx, hb, hml, hown, htB⟩ (zc_X_needBy l dC dI cI cZ cL  H.size  st.2.1 p1 ) ⟨va_cnB 2 htB (zz_gB zk_dd814726) rfl rfl rfl (hE.1 _ (List.mem_of_getElem? (i := 3) rfl)) (htB _ zk_cfe38e2e) zh_X_needBy ⟨Nat.le_of_ble_eq_true rfl, Nat.le_of_ble_eq_true rfl⟩, htB _ zk_e14187d6, trivial⟩ (zz_preS hP hD hK hE [] (by decide) rfl) rfl rfl hl.1 rfl (lv_room (Nat.le_of_ble_eq_true rfl)) zd_R_takeField_16 ⟨Nat.le_of_ble_eq_true rfl, Nat.le_of_ble_eq_true rfl⟩) ?_
    refine lv_iconst (v := 3) hx hb zd_R_takeField_19 (by decide) ?_
    refine lv_icmp_eq (tgt := 27) hx hb zd_R_takeField_20 (by decide) (fun c_20 => ?_) (fun c_20 => ?_)
    · refine lv_iconst (v := 0) hx hb zd_R_takeField_27 (by decide) ?_
      rw [(show zf_R_takeField st p1 = (0, (st.1, st.2.1, st.2.2.1, st.2.2.2.1, p1, st.2.2.2.2.2.1, st.2.2.2.2.2.2.1, st.2.2.2.2.2.2.2.1, st.2.2.2.2.2.2.2.2)) from by rw [zf_R_takeField, if_neg c_8, if_pos c_20])]
      exact zz_zret hx hb hr hlocks narrow_b0 hK hP hD hS zd_R_takeField_28 rfl
    · refine lv_iconst (v := 1) hx hb zd_R_takeField_23 (by decide) ?_
      refine lv_goto (tgt := 28) hx hb zd_R_takeField_24 (by decide) ?_
      rw [(show zf_R_takeField st p1 = (1, (st.1, st.2.1, st.2.2.1, st.2.2.2.1, p1, st.2.2.2.2.2.1, st.2.2.2.2.2.2.1, st.2.2.2.2.2.2.2.1, st.2.2.2.2.2.2.2.2)) from by rw [zf_R_takeField, if_neg c_8, if_neg c_20])]
      exact zz_zret hx hb hr hlocks narrow_b1 hK hP hD hS zd_R_takeField_28 rfl
set_option maxHeartbeats 4000000 in
set_option maxRecDepth 100000 in
theorem zc_R_takeLine (l : Launch) (dC : Nat → ClassId) (dI : Nat → Nat → Nat) (cI cZ cL : ClassId) (a0 : Nat) (sz : Nat) (st : zu_R) (p1 : Int32)  : Met l zy_R_takeLine (zz_ws zy_R_takeLine zb_R_takeLine 5 (some .boolean)) ({ frames := 0, cells := 0, slots := 0, locals := 0 } : Room) (va_Pc ([.ref a0, .int p1] : List Value) (zz_P (dC, dI) (zz_ty cI cZ cL) sz (zw_R cI cZ cL a0 st))) (zz_Qi (dC, dI) (zz_ty cI cZ cL) (va_A (zw_R cI cZ cL a0 st) sz) ((zf_R_takeLine st p1).1) (zw_R cI cZ cL a0 ((zf_R_takeLine st p1).2))) 0 0 (va_A (zw_R cI cZ cL a0 st) sz) := by
  refine zz_ofW (Q := fun A => (zz_Qi (dC, dI) (zz_ty cI cZ cL) A ((zf_R_takeLine st p1).1) (zw_R cI cZ cL a0 ((zf_R_takeLine st p1).2)))) (by decide) (Nat.le_of_ble_eq_true rfl) ?_
  intro p e s m below meth c A C0 _ hA hK hP hD _ ls hl
  obtain ⟨hx, hb, hr, hml, hown, htB, hlocks, hE⟩ := id C0
  have hS : va_S A s.heap s.heap [] := va_S.rf
  have hl : lv_has ls 5 [(0, .ref a0), (1, .int p1)] := hl
  refine lv_aload_n hx hb zd_R_takeLine_0 rfl (lv_at hl 0 rfl) ?_
  refine va_get (D := (dC, dI)) (ci := 4) (v := .int st.2.2.2.2.1) (C := zr_R) (T := zF_R) (N := 9) hx hb htB zi_R hown hK hP 0 rfl rfl 4 (by decide) (htB _ zk_38af8887) (fun _ h9 => h9) rfl zd_R_takeLine_1 ?_
  refine lv_bipush (v := 10) hx hb zd_R_takeLine_4 (by decide) ?_
  refine lv_icmp_ge (tgt := 21) hx hb zd_R_takeLine_6 (by decide) (fun c_6 => ?_) (fun c_6 => ?_)
  · refine lv_iload_n hx hb zd_R_takeLine_21 rfl (lv_at hl 1 rfl) ?_
    refine lv_iconst (v := 1) hx hb zd_R_takeLine_22 (by decide) ?_
    refine lv_icmp_lt (tgt := 36) hx hb zd_R_takeLine_23 (by decide) (fun c_23 => ?_) (fun c_23 => ?_)
    · refine lv_iconst (v := 0) hx hb zd_R_takeLine_36 (by decide) ?_
      refine lv_istore_n (lv' := [(2, .int 0), (0, .ref a0), (1, .int p1)]) hx hb zd_R_takeLine_37 rfl hl (by decide) rfl (fun ls hl => ?_)
      refine lv_iload_n hx hb zd_R_takeLine_38 rfl (lv_at hl 2 rfl) ?_
      refine lv_bipush (v := 10) hx hb zd_R_takeLine_39 (by decide) ?_
      refine lv_imul hx hb zd_R_takeLine_41 ?_
      refine lv_aload_n hx hb zd_R_takeLine_42 rfl (lv_at hl 1 rfl) ?_
      refine va_get (D := (dC, dI)) (ci := 4) (v := .int st.2.2.2.2.1) (C := zr_R) (T := zF_R) (N := 9) hx hb htB zi_R hown hK hP 0 rfl rfl 4 (by decide) (htB _ zk_38af8887) (fun _ h9 => h9) rfl zd_R_takeLine_43 ?_
      refine lv_bipush (v := 10) hx hb zd_R_takeLine_46 (by decide) ?_
      refine lv_irem hx hb zd_R_takeLine_48 (by decide) ?_
      refine lv_iadd hx hb zd_R_takeLine_49 ?_
      refine lv_istore_n (lv' := [(3, .int ((p1 * 10) + (st.2.2.2.2.1 - st.2.2.2.2.1 / 10 * 10))), (2, .int 0), (0, .ref a0), (1, .int p1)]) hx hb zd_R_takeLine_50 rfl hl (by decide) rfl (fun ls hl => ?_)
      refine lv_iload_n hx hb zd_R_takeLine_51 rfl (lv_at hl 0 rfl) ?_
      refine lv_aload_n hx hb zd_R_takeLine_52 rfl (lv_at hl 2 rfl) ?_
      refine va_get (D := (dC, dI)) (ci := 4) (v := .int st.2.2.2.2.2.1) (C := zr_R) (T := zF_R) (N := 9) hx hb htB zi_R hown hK hP 0 rfl rfl 5 (by decide) (htB _ zk_5d4512b9) (fun _ h9 => h9) rfl zd_R_takeLine_53 ?_
      refine lv_icmp_le (tgt := 63) hx hb zd_R_takeLine_56 (by decide) (fun c_56 => ?_) (fun c_56 => ?_)
      · refine lv_iconst (v := 0) hx hb zd_R_takeLine_63 (by decide) ?_
        refine lv_istore (lv' := [(4, .int 0), (3, .int ((p1 * 10) + (st.2.2.2.2.1 - st.2.2.2.2.1 / 10 * 10))), (2, .int 0), (0, .ref a0), (1, .int p1)]) hx hb zd_R_takeLine_64 hl (by decide) rfl (fun ls hl => ?_)
        refine lv_aload_n hx hb zd_R_takeLine_66 rfl (lv_at hl 3 rfl) ?_
        refine lv_iload_n hx hb zd_R_takeLine_67 rfl (lv_at hl 1 rfl) ?_
        refine va_put (D := (dC, dI)) (ci := 4) (v := .int ((p1 * 10) + (st.2.2.2.2.1 - st.2.2.2.2.1 / 10 * 10))) (C := zr_R) (T := zF_R) (N := 9) hx hb htB zi_R zT_R zT_R_ok zn_R hown hK hP hD hS 0 rfl rfl 5 (by decide) (htB _ zk_5d4512b9) (fun _ h9 => h9) rfl (zT_R_ok 5 (by decide)) rfl rfl (Nat.le_of_ble_eq_true rfl) zd_R_takeLine_68 (fun H locs hP hD hS => ?_)
        have hP : va_P (dC, dI) zz_cl (zw_R cI cZ cL a0 (st.1, st.2.1, st.2.2.1, st.2.2.2.1, st.2.2.2.2.1, (p1 * 10) + (st.2.2.2.2.1 - st.2.2.2.2.1 / 10 * 10), st.2.2.2.2.2.2.1, st.2.2.2.2.2.2.2.1, st.2.2.2.2.2.2.2.2)) H := hP
        have hD : va_D A (zw_R cI cZ cL a0 (st.1, st.2.1, st.2.2.1, st.2.2.2.1, st.2.2.2.2.1, (p1 * 10) + (st.2.2.2.2.1 - st.2.2.2.2.1 / 10 * 10), st.2.2.2.2.2.2.1, st.2.2.2.2.2.2.2.1, st.2.2.2.2.2.2.2.2)) := hD
        refine lv_aload_n hx hb zd_R_takeLine_71 rfl (lv_at hl 3 rfl) ?_
        refine lv_lconst (v := 0) hx hb zd_R_takeLine_72 (by decide) ?_
        refine va_put (D := (dC, dI)) (ci := 4) (v := .long 0) (C := zr_R) (T := zF_R) (N := 9) hx hb htB zi_R zT_R zT_R_ok zn_R hown hK hP hD hS 0 rfl rfl 6 (by decide) (htB _ zk_d4c3bc94) (fun _ h9 => h9) rfl (zT_R_ok 6 (by decide)) rfl rfl (Nat.le_of_ble_eq_true rfl) zd_R_takeLine_73 (fun H locs hP hD hS => ?_)
        have hP : va_P (dC, dI) zz_cl (zw_R cI cZ cL a0 (st.1, st.2.1, st.2.2.1, st.2.2.2.1, st.2.2.2.2.1, (p1 * 10) + (st.2.2.2.2.1 - st.2.2.2.2.1 / 10 * 10), 0, st.2.2.2.2.2.2.2.1, st.2.2.2.2.2.2.2.2)) H := hP
        have hD : va_D A (zw_R cI cZ cL a0 (st.1, st.2.1, st.2.2.1, st.2.2.2.1, st.2.2.2.2.1, (p1 * 10) + (st.2.2.2.2.1 - st.2.2.2.2.1 / 10 * 10), 0, st.2.2.2.2.2.2.2.1, st.2.2.2.2.2.2.2.2)) := hD
        refine lv_iload_n hx hb zd_R_takeLine_76 rfl (lv_at hl 2 rfl) ?_
        refine lv_if_eq (tgt := 89) hx hb zd_R_takeLine_77 (by decide) (fun _ => ?_) (fun c_ => absurd (by decide) c_)
        refine lv_iconst (v := 0) hx hb zd_R_takeLine_89 (by decide) ?_
        rw [(show zf_R_takeLine st p1 = (0, (st.1, st.2.1, st.2.2.1, st.2.2.2.1, st.2.2.2.2.1, (p1 * 10) + (st.2.2.2.2.1 - st.2.2.2.2.1 / 10 * 10), 0, st.2.2.2.2.2.2.2.1, st.2.2.2.2.2.2.2.2)) from by rw [zf_R_takeLine, if_pos c_6, if_pos c_23, if_pos c_56])]
        exact zz_zret hx hb hr hlocks narrow_b0 hK hP hD hS zd_R_takeLine_90 rfl
      · refine lv_iconst (v := 1) hx hb zd_R_takeLine_59 (by decide) ?_
        refine lv_goto (tgt := 64) hx hb zd_R_takeLine_60 (by decide) ?_
        refine lv_istore (lv' := [(4, .int 1), (3, .int ((p1 * 10) + (st.2.2.2.2.1 - st.2.2.2.2.1 / 10 * 10))), (2, .int 0), (0, .ref a0), (1, .int p1)]) hx hb zd_R_takeLine_64 hl (by decide) rfl (fun ls hl => ?_)
        refine lv_aload_n hx hb zd_R_takeLine_66 rfl (lv_at hl 3 rfl) ?_
        refine lv_iload_n hx hb zd_R_takeLine_67 rfl (lv_at hl 1 rfl) ?_
        refine va_put (D := (dC, dI)) (ci := 4) (v := .int ((p1 * 10) + (st.2.2.2.2.1 - st.2.2.2.2.1 / 10 * 10))) (C := zr_R) (T := zF_R) (N := 9) hx hb htB zi_R zT_R zT_R_ok zn_R hown hK hP hD hS 0 rfl rfl 5 (by decide) (htB _ zk_5d4512b9) (fun _ h9 => h9) rfl (zT_R_ok 5 (by decide)) rfl rfl (Nat.le_of_ble_eq_true rfl) zd_R_takeLine_68 (fun H locs hP hD hS => ?_)
        have hP : va_P (dC, dI) zz_cl (zw_R cI cZ cL a0 (st.1, st.2.1, st.2.2.1, st.2.2.2.1, st.2.2.2.2.1, (p1 * 10) + (st.2.2.2.2.1 - st.2.2.2.2.1 / 10 * 10), st.2.2.2.2.2.2.1, st.2.2.2.2.2.2.2.1, st.2.2.2.2.2.2.2.2)) H := hP
        have hD : va_D A (zw_R cI cZ cL a0 (st.1, st.2.1, st.2.2.1, st.2.2.2.1, st.2.2.2.2.1, (p1 * 10) + (st.2.2.2.2.1 - st.2.2.2.2.1 / 10 * 10), st.2.2.2.2.2.2.1, st.2.2.2.2.2.2.2.1, st.2.2.2.2.2.2.2.2)) := hD
        refine lv_aload_n hx hb zd_R_takeLine_71 rfl (lv_at hl 3 rfl) ?_
        refine lv_lconst (v := 0) hx hb zd_R_takeLine_72 (by decide) ?_
        refine va_put (D := (dC, dI)) (ci := 4) (v := .long 0) (C := zr_R) (T := zF_R) (N := 9) hx hb htB zi_R zT_R zT_R_ok zn_R hown hK hP hD hS 0 rfl rfl 6 (by decide) (htB _ zk_d4c3bc94) (fun _ h9 => h9) rfl (zT_R_ok 6 (by decide)) rfl rfl (Nat.le_of_ble_eq_true rfl) zd_R_takeLine_73 (fun H locs hP hD hS => ?_)
        have hP : va_P (dC, dI) zz_cl (zw_R cI cZ cL a0 (st.1, st.2.1, st.2.2.1, st.2.2.2.1, st.2.2.2.2.1, (p1 * 10) + (st.2.2.2.2.1 - st.2.2.2.2.1 / 10 * 10), 0, st.2.2.2.2.2.2.2.1, st.2.2.2.2.2.2.2.2)) H := hP
        have hD : va_D A (zw_R cI cZ cL a0 (st.1, st.2.1, st.2.2.1, st.2.2.2.1, st.2.2.2.2.1, (p1 * 10) + (st.2.2.2.2.1 - st.2.2.2.2.1 / 10 * 10), 0, st.2.2.2.2.2.2.2.1, st.2.2.2.2.2.2.2.2)) := hD
        refine lv_iload_n hx hb zd_R_takeLine_76 rfl (lv_at hl 2 rfl) ?_
        refine lv_if_eq (tgt := 89) hx hb zd_R_takeLine_77 (by decide) (fun _ => ?_) (fun c_ => absurd (by decide) c_)
        refine lv_iconst (v := 0) hx hb zd_R_takeLine_89 (by decide) ?_
        rw [(show zf_R_takeLine st p1 = (0, (st.1, st.2.1, st.2.2.1, st.2.2.2.1, st.2.2.2.2.1, (p1 * 10) + (st.2.2.2.2.1 - st.2.2.2.2.1 / 10 * 10), 0, st.2.2.2.2.2.2.2.1, st.2.2.2.2.2.2.2.2)) from by rw [zf_R_takeLine, if_pos c_6, if_pos c_23, if_neg c_56])]
        exact zz_zret hx hb hr hlocks narrow_b0 hK hP hD hS zd_R_takeLine_90 rfl
    · refine lv_iload_n hx hb zd_R_takeLine_26 rfl (lv_at hl 1 rfl) ?_
      refine lv_bipush (v := 30) hx hb zd_R_takeLine_27 (by decide) ?_
      refine lv_icmp_gt (tgt := 36) hx hb zd_R_takeLine_29 (by decide) (fun c_29 => ?_) (fun c_29 => ?_)
      · refine lv_iconst (v := 0) hx hb zd_R_takeLine_36 (by decide) ?_
        refine lv_istore_n (lv' := [(2, .int 0), (0, .ref a0), (1, .int p1)]) hx hb zd_R_takeLine_37 rfl hl (by decide) rfl (fun ls hl => ?_)
        refine lv_iload_n hx hb zd_R_takeLine_38 rfl (lv_at hl 2 rfl) ?_
        refine lv_bipush (v := 10) hx hb zd_R_takeLine_39 (by decide) ?_
        refine lv_imul hx hb zd_R_takeLine_41 ?_
        refine lv_aload_n hx hb zd_R_takeLine_42 rfl (lv_at hl 1 rfl) ?_
        refine va_get (D := (dC, dI)) (ci := 4) (v := .int st.2.2.2.2.1) (C := zr_R) (T := zF_R) (N := 9) hx hb htB zi_R hown hK hP 0 rfl rfl 4 (by decide) (htB _ zk_38af8887) (fun _ h9 => h9) rfl zd_R_takeLine_43 ?_
        refine lv_bipush (v := 10) hx hb zd_R_takeLine_46 (by decide) ?_
        refine lv_irem hx hb zd_R_takeLine_48 (by decide) ?_
        refine lv_iadd hx hb zd_R_takeLine_49 ?_
        refine lv_istore_n (lv' := [(3, .int ((p1 * 10) + (st.2.2.2.2.1 - st.2.2.2.2.1 / 10 * 10))), (2, .int 0), (0, .ref a0), (1, .int p1)]) hx hb zd_R_takeLine_50 rfl hl (by decide) rfl (fun ls hl => ?_)
        refine lv_iload_n hx hb zd_R_takeLine_51 rfl (lv_at hl 0 rfl) ?_
        refine lv_aload_n hx hb zd_R_takeLine_52 rfl (lv_at hl 2 rfl) ?_
        refine va_get (D := (dC, dI)) (ci := 4) (v := .int st.2.2.2.2.2.1) (C := zr_R) (T := zF_R) (N := 9) hx hb htB zi_R hown hK hP 0 rfl rfl 5 (by decide) (htB _ zk_5d4512b9) (fun _ h9 => h9) rfl zd_R_takeLine_53 ?_
        refine lv_icmp_le (tgt := 63) hx hb zd_R_takeLine_56 (by decide) (fun c_56 => ?_) (fun c_56 => ?_)
        · refine lv_iconst (v := 0) hx hb zd_R_takeLine_63 (by decide) ?_
          refine lv_istore (lv' := [(4, .int 0), (3, .int ((p1 * 10) + (st.2.2.2.2.1 - st.2.2.2.2.1 / 10 * 10))), (2, .int 0), (0, .ref a0), (1, .int p1)]) hx hb zd_R_takeLine_64 hl (by decide) rfl (fun ls hl => ?_)
          refine lv_aload_n hx hb zd_R_takeLine_66 rfl (lv_at hl 3 rfl) ?_
          refine lv_iload_n hx hb zd_R_takeLine_67 rfl (lv_at hl 1 rfl) ?_
          refine va_put (D := (dC, dI)) (ci := 4) (v := .int ((p1 * 10) + (st.2.2.2.2.1 - st.2.2.2.2.1 / 10 * 10))) (C := zr_R) (T := zF_R) (N := 9) hx hb htB zi_R zT_R zT_R_ok zn_R hown hK hP hD hS 0 rfl rfl 5 (by decide) (htB _ zk_5d4512b9) (fun _ h9 => h9) rfl (zT_R_ok 5 (by decide)) rfl rfl (Nat.le_of_ble_eq_true rfl) zd_R_takeLine_68 (fun H locs hP hD hS => ?_)
          have hP : va_P (dC, dI) zz_cl (zw_R cI cZ cL a0 (st.1, st.2.1, st.2.2.1, st.2.2.2.1, st.2.2.2.2.1, (p1 * 10) + (st.2.2.2.2.1 - st.2.2.2.2.1 / 10 * 10), st.2.2.2.2.2.2.1, st.2.2.2.2.2.2.2.1, st.2.2.2.2.2.2.2.2)) H := hP
          have hD : va_D A (zw_R cI cZ cL a0 (st.1, st.2.1, st.2.2.1, st.2.2.2.1, st.2.2.2.2.1, (p1 * 10) + (st.2.2.2.2.1 - st.2.2.2.2.1 / 10 * 10), st.2.2.2.2.2.2.1, st.2.2.2.2.2.2.2.1, st.2.2.2.2.2.2.2.2)) := hD
          refine lv_aload_n hx hb zd_R_takeLine_71 rfl (lv_at hl 3 rfl) ?_
          refine lv_lconst (v := 0) hx hb zd_R_takeLine_72 (by decide) ?_
          refine va_put (D := (dC, dI)) (ci := 4) (v := .long 0) (C := zr_R) (T := zF_R) (N := 9) hx hb htB zi_R zT_R zT_R_ok zn_R hown hK hP hD hS 0 rfl rfl 6 (by decide) (htB _ zk_d4c3bc94) (fun _ h9 => h9) rfl (zT_R_ok 6 (by decide)) rfl rfl (Nat.le_of_ble_eq_true rfl) zd_R_takeLine_73 (fun H locs hP hD hS => ?_)
          have hP : va_P (dC, dI) zz_cl (zw_R cI cZ cL a0 (st.1, st.2.1, st.2.2.1, st.2.2.2.1, st.2.2.2.2.1, (p1 * 10) + (st.2.2.2.2.1 - st.2.2.2.2.1 / 10 * 10), 0, st.2.2.2.2.2.2.2.1, st.2.2.2.2.2.2.2.2)) H := hP
          have hD : va_D A (zw_R cI cZ cL a0 (st.1, st.2.1, st.2.2.1, st.2.2.2.1, st.2.2.2.2.1, (p1 * 10) + (st.2.2.2.2.1 - st.2.2.2.2.1 / 10 * 10), 0, st.2.2.2.2.2.2.2.1, st.2.2.2.2.2.2.2.2)) := hD
          refine lv_iload_n hx hb zd_R_takeLine_76 rfl (lv_at hl 2 rfl) ?_
          refine lv_if_eq (tgt := 89) hx hb zd_R_takeLine_77 (by decide) (fun _ => ?_) (fun c_ => absurd (by decide) c_)
          refine lv_iconst (v := 0) hx hb zd_R_takeLine_89 (by decide) ?_
          rw [(show zf_R_takeLine st p1 = (0, (st.1, st.2.1, st.2.2.1, st.2.2.2.1, st.2.2.2.2.1, (p1 * 10) + (st.2.2.2.2.1 - st.2.2.2.2.1 / 10 * 10), 0, st.2.2.2.2.2.2.2.1, st.2.2.2.2.2.2.2.2)) from by rw [zf_R_takeLine, if_pos c_6, if_neg c_23, if_pos c_29, if_pos c_56])]
          exact zz_zret hx hb hr hlocks narrow_b0 hK hP hD hS zd_R_takeLine_90 rfl
        · refine lv_iconst (v := 1) hx hb zd_R_takeLine_59 (by decide) ?_
          refine lv_goto (tgt := 64) hx hb zd_R_takeLine_60 (by decide) ?_
          refine lv_istore (lv' := [(4, .int 1), (3, .int ((p1 * 10) + (st.2.2.2.2.1 - st.2.2.2.2.1 / 10 * 10))), (2, .int 0), (0, .ref a0), (1, .int p1)]) hx hb zd_R_takeLine_64 hl (by decide) rfl (fun ls hl => ?_)
          refine lv_aload_n hx hb zd_R_takeLine_66 rfl (lv_at hl 3 rfl) ?_
          refine lv_iload_n hx hb zd_R_takeLine_67 rfl (lv_at hl 1 rfl) ?_
          refine va_put (D := (dC, dI)) (ci := 4) (v := .int ((p1 * 10) + (st.2.2.2.2.1 - st.2.2.2.2.1 / 10 * 10))) (C := zr_R) (T := zF_R) (N := 9) hx hb htB zi_R zT_R zT_R_ok zn_R hown hK hP hD hS 0 rfl rfl 5 (by decide) (htB _ zk_5d4512b9) (fun _ h9 => h9) rfl (zT_R_ok 5 (by decide)) rfl rfl (Nat.le_of_ble_eq_true rfl) zd_R_takeLine_68 (fun H locs hP hD hS => ?_)
          have hP : va_P (dC, dI) zz_cl (zw_R cI cZ cL a0 (st.1, st.2.1, st.2.2.1, st.2.2.2.1, st.2.2.2.2.1, (p1 * 10) + (st.2.2.2.2.1 - st.2.2.2.2.1 / 10 * 10), st.2.2.2.2.2.2.1, st.2.2.2.2.2.2.2.1, st.2.2.2.2.2.2.2.2)) H := hP
          have hD : va_D A (zw_R cI cZ cL a0 (st.1, st.2.1, st.2.2.1, st.2.2.2.1, st.2.2.2.2.1, (p1 * 10) + (st.2.2.2.2.1 - st.2.2.2.2.1 / 10 * 10), st.2.2.2.2.2.2.1, st.2.2.2.2.2.2.2.1, st.2.2.2.2.2.2.2.2)) := hD
          refine lv_aload_n hx hb zd_R_takeLine_71 rfl (lv_at hl 3 rfl) ?_
          refine lv_lconst (v := 0) hx hb zd_R_takeLine_72 (by decide) ?_
          refine va_put (D := (dC, dI)) (ci := 4) (v := .long 0) (C := zr_R) (T := zF_R) (N := 9) hx hb htB zi_R zT_R zT_R_ok zn_R hown hK hP hD hS 0 rfl rfl 6 (by decide) (htB _ zk_d4c3bc94) (fun _ h9 => h9) rfl (zT_R_ok 6 (by decide)) rfl rfl (Nat.le_of_ble_eq_true rfl) zd_R_takeLine_73 (fun H locs hP hD hS => ?_)
          have hP : va_P (dC, dI) zz_cl (zw_R cI cZ cL a0 (st.1, st.2.1, st.2.2.1, st.2.2.2.1, st.2.2.2.2.1, (p1 * 10) + (st.2.2.2.2.1 - st.2.2.2.2.1 / 10 * 10), 0, st.2.2.2.2.2.2.2.1, st.2.2.2.2.2.2.2.2)) H := hP
          have hD : va_D A (zw_R cI cZ cL a0 (st.1, st.2.1, st.2.2.1, st.2.2.2.1, st.2.2.2.2.1, (p1 * 10) + (st.2.2.2.2.1 - st.2.2.2.2.1 / 10 * 10), 0, st.2.2.2.2.2.2.2.1, st.2.2.2.2.2.2.2.2)) := hD
          refine lv_iload_n hx hb zd_R_takeLine_76 rfl (lv_at hl 2 rfl) ?_
          refine lv_if_eq (tgt := 89) hx hb zd_R_takeLine_77 (by decide) (fun _ => ?_) (fun c_ => absurd (by decide) c_)
          refine lv_iconst (v := 0) hx hb zd_R_takeLine_89 (by decide) ?_
          rw [(show zf_R_takeLine st p1 = (0, (st.1, st.2.1, st.2.2.1, st.2.2.2.1, st.2.2.2.2.1, (p1 * 10) + (st.2.2.2.2.1 - st.2.2.2.2.1 / 10 * 10), 0, st.2.2.2.2.2.2.2.1, st.2.2.2.2.2.2.2.2)) from by rw [zf_R_takeLine, if_pos c_6, if_neg c_23, if_pos c_29, if_neg c_56])]
          exact zz_zret hx hb hr hlocks narrow_b0 hK hP hD hS zd_R_takeLine_90 rfl
      · refine lv_iconst (v := 1) hx hb zd_R_takeLine_32 (by decide) ?_
        refine lv_goto (tgt := 37) hx hb zd_R_takeLine_33 (by decide) ?_
        refine lv_istore_n (lv' := [(2, .int 1), (0, .ref a0), (1, .int p1)]) hx hb zd_R_takeLine_37 rfl hl (by decide) rfl (fun ls hl => ?_)
        refine lv_iload_n hx hb zd_R_takeLine_38 rfl (lv_at hl 2 rfl) ?_
        refine lv_bipush (v := 10) hx hb zd_R_takeLine_39 (by decide) ?_
        refine lv_imul hx hb zd_R_takeLine_41 ?_
        refine lv_aload_n hx hb zd_R_takeLine_42 rfl (lv_at hl 1 rfl) ?_
        refine va_get (D := (dC, dI)) (ci := 4) (v := .int st.2.2.2.2.1) (C := zr_R) (T := zF_R) (N := 9) hx hb htB zi_R hown hK hP 0 rfl rfl 4 (by decide) (htB _ zk_38af8887) (fun _ h9 => h9) rfl zd_R_takeLine_43 ?_
        refine lv_bipush (v := 10) hx hb zd_R_takeLine_46 (by decide) ?_
        refine lv_irem hx hb zd_R_takeLine_48 (by decide) ?_
        refine lv_iadd hx hb zd_R_takeLine_49 ?_
        refine lv_istore_n (lv' := [(3, .int ((p1 * 10) + (st.2.2.2.2.1 - st.2.2.2.2.1 / 10 * 10))), (2, .int 1), (0, .ref a0), (1, .int p1)]) hx hb zd_R_takeLine_50 rfl hl (by decide) rfl (fun ls hl => ?_)
        refine lv_iload_n hx hb zd_R_takeLine_51 rfl (lv_at hl 0 rfl) ?_
        refine lv_aload_n hx hb zd_R_takeLine_52 rfl (lv_at hl 2 rfl) ?_
        refine va_get (D := (dC, dI)) (ci := 4) (v := .int st.2.2.2.2.2.1) (C := zr_R) (T := zF_R) (N := 9) hx hb htB zi_R hown hK hP 0 rfl rfl 5 (by decide) (htB _ zk_5d4512b9) (fun _ h9 => h9) rfl zd_R_takeLine_53 ?_
        refine lv_icmp_le (tgt := 63) hx hb zd_R_takeLine_56 (by decide) (fun c_56 => ?_) (fun c_56 => ?_)
        · refine lv_iconst (v := 0) hx hb zd_R_takeLine_63 (by decide) ?_
          refine lv_istore (lv' := [(4, .int 0), (3, .int ((p1 * 10) + (st.2.2.2.2.1 - st.2.2.2.2.1 / 10 * 10))), (2, .int 1), (0, .ref a0), (1, .int p1)]) hx hb zd_R_takeLine_64 hl (by decide) rfl (fun ls hl => ?_)
          refine lv_aload_n hx hb zd_R_takeLine_66 rfl (lv_at hl 3 rfl) ?_
          refine lv_iload_n hx hb zd_R_takeLine_67 rfl (lv_at hl 1 rfl) ?_
          refine va_put (D := (dC, dI)) (ci := 4) (v := .int ((p1 * 10) + (st.2.2.2.2.1 - st.2.2.2.2.1 / 10 * 10))) (C := zr_R) (T := zF_R) (N := 9) hx hb htB zi_R zT_R zT_R_ok zn_R hown hK hP hD hS 0 rfl rfl 5 (by decide) (htB _ zk_5d4512b9) (fun _ h9 => h9) rfl (zT_R_ok 5 (by decide)) rfl rfl (Nat.le_of_ble_eq_true rfl) zd_R_takeLine_68 (fun H locs hP hD hS => ?_)
          have hP : va_P (dC, dI) zz_cl (zw_R cI cZ cL a0 (st.1, st.2.1, st.2.2.1, st.2.2.2.1, st.2.2.2.2.1, (p1 * 10) + (st.2.2.2.2.1 - st.2.2.2.2.1 / 10 * 10), st.2.2.2.2.2.2.1, st.2.2.2.2.2.2.2.1, st.2.2.2.2.2.2.2.2)) H := hP
          have hD : va_D A (zw_R cI cZ cL a0 (st.1, st.2.1, st.2.2.1, st.2.2.2.1, st.2.2.2.2.1, (p1 * 10) + (st.2.2.2.2.1 - st.2.2.2.2.1 / 10 * 10), st.2.2.2.2.2.2.1, st.2.2.2.2.2.2.2.1, st.2.2.2.2.2.2.2.2)) := hD
          refine lv_aload_n hx hb zd_R_takeLine_71 rfl (lv_at hl 3 rfl) ?_
          refine lv_lconst (v := 0) hx hb zd_R_takeLine_72 (by decide) ?_
          refine va_put (D := (dC, dI)) (ci := 4) (v := .long 0) (C := zr_R) (T := zF_R) (N := 9) hx hb htB zi_R zT_R zT_R_ok zn_R hown hK hP hD hS 0 rfl rfl 6 (by decide) (htB _ zk_d4c3bc94) (fun _ h9 => h9) rfl (zT_R_ok 6 (by decide)) rfl rfl (Nat.le_of_ble_eq_true rfl) zd_R_takeLine_73 (fun H locs hP hD hS => ?_)
          have hP : va_P (dC, dI) zz_cl (zw_R cI cZ cL a0 (st.1, st.2.1, st.2.2.1, st.2.2.2.1, st.2.2.2.2.1, (p1 * 10) + (st.2.2.2.2.1 - st.2.2.2.2.1 / 10 * 10), 0, st.2.2.2.2.2.2.2.1, st.2.2.2.2.2.2.2.2)) H := hP
          have hD : va_D A (zw_R cI cZ cL a0 (st.1, st.2.1, st.2.2.1, st.2.2.2.1, st.2.2.2.2.1, (p1 * 10) + (st.2.2.2.2.1 - st.2.2.2.2.1 / 10 * 10), 0, st.2.2.2.2.2.2.2.1, st.2.2.2.2.2.2.2.2)) := hD
          refine lv_iload_n hx hb zd_R_takeLine_76 rfl (lv_at hl 2 rfl) ?_
          refine lv_if_eq (tgt := 89) hx hb zd_R_takeLine_77 (by decide) (fun c_ => absurd c_ (by decide)) (fun _ => ?_)
          refine lv_iload hx hb zd_R_takeLine_80 (lv_at hl 0 rfl) ?_
          refine lv_if_eq (tgt := 89) hx hb zd_R_takeLine_82 (by decide) (fun _ => ?_) (fun c_ => absurd (by decide) c_)
          refine lv_iconst (v := 0) hx hb zd_R_takeLine_89 (by decide) ?_
          rw [(show zf_R_takeLine st p1 = (0, (st.1, st.2.1, st.2.2.1, st.2.2.2.1, st.2.2.2.2.1, (p1 * 10) + (st.2.2.2.2.1 - st.2.2.2.2.1 / 10 * 10), 0, st.2.2.2.2.2.2.2.1, st.2.2.2.2.2.2.2.2)) from by rw [zf_R_takeLine, if_pos c_6, if_neg c_23, if_neg c_29, if_pos c_56])]
          exact zz_zret hx hb hr hlocks narrow_b0 hK hP hD hS zd_R_takeLine_90 rfl
        · refine lv_iconst (v := 1) hx hb zd_R_takeLine_59 (by decide) ?_
          refine lv_goto (tgt := 64) hx hb zd_R_takeLine_60 (by decide) ?_
          refine lv_istore (lv' := [(4, .int 1), (3, .int ((p1 * 10) + (st.2.2.2.2.1 - st.2.2.2.2.1 / 10 * 10))), (2, .int 1), (0, .ref a0), (1, .int p1)]) hx hb zd_R_takeLine_64 hl (by decide) rfl (fun ls hl => ?_)
          refine lv_aload_n hx hb zd_R_takeLine_66 rfl (lv_at hl 3 rfl) ?_
          refine lv_iload_n hx hb zd_R_takeLine_67 rfl (lv_at hl 1 rfl) ?_
          refine va_put (D := (dC, dI)) (ci := 4) (v := .int ((p1 * 10) + (st.2.2.2.2.1 - st.2.2.2.2.1 / 10 * 10))) (C := zr_R) (T := zF_R) (N := 9) hx hb htB zi_R zT_R zT_R_ok zn_R hown hK hP hD hS 0 rfl rfl 5 (by decide) (htB _ zk_5d4512b9) (fun _ h9 => h9) rfl (zT_R_ok 5 (by decide)) rfl rfl (Nat.le_of_ble_eq_true rfl) zd_R_takeLine_68 (fun H locs hP hD hS => ?_)
          have hP : va_P (dC, dI) zz_cl (zw_R cI cZ cL a0 (st.1, st.2.1, st.2.2.1, st.2.2.2.1, st.2.2.2.2.1, (p1 * 10) + (st.2.2.2.2.1 - st.2.2.2.2.1 / 10 * 10), st.2.2.2.2.2.2.1, st.2.2.2.2.2.2.2.1, st.2.2.2.2.2.2.2.2)) H := hP
          have hD : va_D A (zw_R cI cZ cL a0 (st.1, st.2.1, st.2.2.1, st.2.2.2.1, st.2.2.2.2.1, (p1 * 10) + (st.2.2.2.2.1 - st.2.2.2.2.1 / 10 * 10), st.2.2.2.2.2.2.1, st.2.2.2.2.2.2.2.1, st.2.2.2.2.2.2.2.2)) := hD
          refine lv_aload_n hx hb zd_R_takeLine_71 rfl (lv_at hl 3 rfl) ?_
          refine lv_lconst (v := 0) hx hb zd_R_takeLine_72 (by decide) ?_
          refine va_put (D := (dC, dI)) (ci := 4) (v := .long 0) (C := zr_R) (T := zF_R) (N := 9) hx hb htB zi_R zT_R zT_R_ok zn_R hown hK hP hD hS 0 rfl rfl 6 (by decide) (htB _ zk_d4c3bc94) (fun _ h9 => h9) rfl (zT_R_ok 6 (by decide)) rfl rfl (Nat.le_of_ble_eq_true rfl) zd_R_takeLine_73 (fun H locs hP hD hS => ?_)
          have hP : va_P (dC, dI) zz_cl (zw_R cI cZ cL a0 (st.1, st.2.1, st.2.2.1, st.2.2.2.1, st.2.2.2.2.1, (p1 * 10) + (st.2.2.2.2.1 - st.2.2.2.2.1 / 10 * 10), 0, st.2.2.2.2.2.2.2.1, st.2.2.2.2.2.2.2.2)) H := hP
          have hD : va_D A (zw_R cI cZ cL a0 (st.1, st.2.1, st.2.2.1, st.2.2.2.1, st.2.2.2.2.1, (p1 * 10) + (st.2.2.2.2.1 - st.2.2.2.2.1 / 10 * 10), 0, st.2.2.2.2.2.2.2.1, st.2.2.2.2.2.2.2.2)) := hD
          refine lv_iload_n hx hb zd_R_takeLine_76 rfl (lv_at hl 2 rfl) ?_
          refine lv_if_eq (tgt := 89) hx hb zd_R_takeLine_77 (by decide) (fun c_ => absurd c_ (by decide)) (fun _ => ?_)
          refine lv_iload hx hb zd_R_takeLine_80 (lv_at hl 0 rfl) ?_
          refine lv_if_eq (tgt := 89) hx hb zd_R_takeLine_82 (by decide) (fun c_ => absurd c_ (by decide)) (fun _ => ?_)
          refine lv_iconst (v := 1) hx hb zd_R_takeLine_85 (by decide) ?_
          refine lv_goto (tgt := 90) hx hb zd_R_takeLine_86 (by decide) ?_
          rw [(show zf_R_takeLine st p1 = (1, (st.1, st.2.1, st.2.2.1, st.2.2.2.1, st.2.2.2.2.1, (p1 * 10) + (st.2.2.2.2.1 - st.2.2.2.2.1 / 10 * 10), 0, st.2.2.2.2.2.2.2.1, st.2.2.2.2.2.2.2.2)) from by rw [zf_R_takeLine, if_pos c_6, if_neg c_23, if_neg c_29, if_neg c_56])]
          exact zz_zret hx hb hr hlocks narrow_b1 hK hP hD hS zd_R_takeLine_90 rfl
  · refine lv_iload_n hx hb zd_R_takeLine_9 rfl (lv_at hl 1 rfl) ?_
    refine lv_if_ne (tgt := 17) hx hb zd_R_takeLine_10 (by decide) (fun c_10 => ?_) (fun c_10 => ?_)
    · refine lv_iconst (v := 0) hx hb zd_R_takeLine_17 (by decide) ?_
      refine lv_goto (tgt := 37) hx hb zd_R_takeLine_18 (by decide) ?_
      refine lv_istore_n (lv' := [(2, .int 0), (0, .ref a0), (1, .int p1)]) hx hb zd_R_takeLine_37 rfl hl (by decide) rfl (fun ls hl => ?_)
      refine lv_iload_n hx hb zd_R_takeLine_38 rfl (lv_at hl 2 rfl) ?_
      refine lv_bipush (v := 10) hx hb zd_R_takeLine_39 (by decide) ?_
      refine lv_imul hx hb zd_R_takeLine_41 ?_
      refine lv_aload_n hx hb zd_R_takeLine_42 rfl (lv_at hl 1 rfl) ?_
      refine va_get (D := (dC, dI)) (ci := 4) (v := .int st.2.2.2.2.1) (C := zr_R) (T := zF_R) (N := 9) hx hb htB zi_R hown hK hP 0 rfl rfl 4 (by decide) (htB _ zk_38af8887) (fun _ h9 => h9) rfl zd_R_takeLine_43 ?_
      refine lv_bipush (v := 10) hx hb zd_R_takeLine_46 (by decide) ?_
      refine lv_irem hx hb zd_R_takeLine_48 (by decide) ?_
      refine lv_iadd hx hb zd_R_takeLine_49 ?_
      refine lv_istore_n (lv' := [(3, .int ((p1 * 10) + (st.2.2.2.2.1 - st.2.2.2.2.1 / 10 * 10))), (2, .int 0), (0, .ref a0), (1, .int p1)]) hx hb zd_R_takeLine_50 rfl hl (by decide) rfl (fun ls hl => ?_)
      refine lv_iload_n hx hb zd_R_takeLine_51 rfl (lv_at hl 0 rfl) ?_
      refine lv_aload_n hx hb zd_R_takeLine_52 rfl (lv_at hl 2 rfl) ?_
      refine va_get (D := (dC, dI)) (ci := 4) (v := .int st.2.2.2.2.2.1) (C := zr_R) (T := zF_R) (N := 9) hx hb htB zi_R hown hK hP 0 rfl rfl 5 (by decide) (htB _ zk_5d4512b9) (fun _ h9 => h9) rfl zd_R_takeLine_53 ?_
      refine lv_icmp_le (tgt := 63) hx hb zd_R_takeLine_56 (by decide) (fun c_56 => ?_) (fun c_56 => ?_)
      · refine lv_iconst (v := 0) hx hb zd_R_takeLine_63 (by decide) ?_
        refine lv_istore (lv' := [(4, .int 0), (3, .int ((p1 * 10) + (st.2.2.2.2.1 - st.2.2.2.2.1 / 10 * 10))), (2, .int 0), (0, .ref a0), (1, .int p1)]) hx hb zd_R_takeLine_64 hl (by decide) rfl (fun ls hl => ?_)
        refine lv_aload_n hx hb zd_R_takeLine_66 rfl (lv_at hl 3 rfl) ?_
        refine lv_iload_n hx hb zd_R_takeLine_67 rfl (lv_at hl 1 rfl) ?_
        refine va_put (D := (dC, dI)) (ci := 4) (v := .int ((p1 * 10) + (st.2.2.2.2.1 - st.2.2.2.2.1 / 10 * 10))) (C := zr_R) (T := zF_R) (N := 9) hx hb htB zi_R zT_R zT_R_ok zn_R hown hK hP hD hS 0 rfl rfl 5 (by decide) (htB _ zk_5d4512b9) (fun _ h9 => h9) rfl (zT_R_ok 5 (by decide)) rfl rfl (Nat.le_of_ble_eq_true rfl) zd_R_takeLine_68 (fun H locs hP hD hS => ?_)
        have hP : va_P (dC, dI) zz_cl (zw_R cI cZ cL a0 (st.1, st.2.1, st.2.2.1, st.2.2.2.1, st.2.2.2.2.1, (p1 * 10) + (st.2.2.2.2.1 - st.2.2.2.2.1 / 10 * 10), st.2.2.2.2.2.2.1, st.2.2.2.2.2.2.2.1, st.2.2.2.2.2.2.2.2)) H := hP
        have hD : va_D A (zw_R cI cZ cL a0 (st.1, st.2.1, st.2.2.1, st.2.2.2.1, st.2.2.2.2.1, (p1 * 10) + (st.2.2.2.2.1 - st.2.2.2.2.1 / 10 * 10), st.2.2.2.2.2.2.1, st.2.2.2.2.2.2.2.1, st.2.2.2.2.2.2.2.2)) := hD
        refine lv_aload_n hx hb zd_R_takeLine_71 rfl (lv_at hl 3 rfl) ?_
        refine lv_lconst (v := 0) hx hb zd_R_takeLine_72 (by decide) ?_
        refine va_put (D := (dC, dI)) (ci := 4) (v := .long 0) (C := zr_R) (T := zF_R) (N := 9) hx hb htB zi_R zT_R zT_R_ok zn_R hown hK hP hD hS 0 rfl rfl 6 (by decide) (htB _ zk_d4c3bc94) (fun _ h9 => h9) rfl (zT_R_ok 6 (by decide)) rfl rfl (Nat.le_of_ble_eq_true rfl) zd_R_takeLine_73 (fun H locs hP hD hS => ?_)
        have hP : va_P (dC, dI) zz_cl (zw_R cI cZ cL a0 (st.1, st.2.1, st.2.2.1, st.2.2.2.1, st.2.2.2.2.1, (p1 * 10) + (st.2.2.2.2.1 - st.2.2.2.2.1 / 10 * 10), 0, st.2.2.2.2.2.2.2.1, st.2.2.2.2.2.2.2.2)) H := hP
        have hD : va_D A (zw_R cI cZ cL a0 (st.1, st.2.1, st.2.2.1, st.2.2.2.1, st.2.2.2.2.1, (p1 * 10) + (st.2.2.2.2.1 - st.2.2.2.2.1 / 10 * 10), 0, st.2.2.2.2.2.2.2.1, st.2.2.2.2.2.2.2.2)) := hD
        refine lv_iload_n hx hb zd_R_takeLine_76 rfl (lv_at hl 2 rfl) ?_
        refine lv_if_eq (tgt := 89) hx hb zd_R_takeLine_77 (by decide) (fun _ => ?_) (fun c_ => absurd (by decide) c_)
        refine lv_iconst (v := 0) hx hb zd_R_takeLine_89 (by decide) ?_
        rw [(show zf_R_takeLine st p1 = (0, (st.1, st.2.1, st.2.2.1, st.2.2.2.1, st.2.2.2.2.1, (p1 * 10) + (st.2.2.2.2.1 - st.2.2.2.2.1 / 10 * 10), 0, st.2.2.2.2.2.2.2.1, st.2.2.2.2.2.2.2.2)) from by rw [zf_R_takeLine, if_neg c_6, if_neg c_10, if_pos c_56])]
        exact zz_zret hx hb hr hlocks narrow_b0 hK hP hD hS zd_R_takeLine_90 rfl
      · refine lv_iconst (v := 1) hx hb zd_R_takeLine_59 (by decide) ?_
        refine lv_goto (tgt := 64) hx hb zd_R_takeLine_60 (by decide) ?_
        refine lv_istore (lv' := [(4, .int 1), (3, .int ((p1 * 10) + (st.2.2.2.2.1 - st.2.2.2.2.1 / 10 * 10))), (2, .int 0), (0, .ref a0), (1, .int p1)]) hx hb zd_R_takeLine_64 hl (by decide) rfl (fun ls hl => ?_)
        refine lv_aload_n hx hb zd_R_takeLine_66 rfl (lv_at hl 3 rfl) ?_
        refine lv_iload_n hx hb zd_R_takeLine_67 rfl (lv_at hl 1 rfl) ?_
        refine va_put (D := (dC, dI)) (ci := 4) (v := .int ((p1 * 10) + (st.2.2.2.2.1 - st.2.2.2.2.1 / 10 * 10))) (C := zr_R) (T := zF_R) (N := 9) hx hb htB zi_R zT_R zT_R_ok zn_R hown hK hP hD hS 0 rfl rfl 5 (by decide) (htB _ zk_5d4512b9) (fun _ h9 => h9) rfl (zT_R_ok 5 (by decide)) rfl rfl (Nat.le_of_ble_eq_true rfl) zd_R_takeLine_68 (fun H locs hP hD hS => ?_)
        have hP : va_P (dC, dI) zz_cl (zw_R cI cZ cL a0 (st.1, st.2.1, st.2.2.1, st.2.2.2.1, st.2.2.2.2.1, (p1 * 10) + (st.2.2.2.2.1 - st.2.2.2.2.1 / 10 * 10), st.2.2.2.2.2.2.1, st.2.2.2.2.2.2.2.1, st.2.2.2.2.2.2.2.2)) H := hP
        have hD : va_D A (zw_R cI cZ cL a0 (st.1, st.2.1, st.2.2.1, st.2.2.2.1, st.2.2.2.2.1, (p1 * 10) + (st.2.2.2.2.1 - st.2.2.2.2.1 / 10 * 10), st.2.2.2.2.2.2.1, st.2.2.2.2.2.2.2.1, st.2.2.2.2.2.2.2.2)) := hD
        refine lv_aload_n hx hb zd_R_takeLine_71 rfl (lv_at hl 3 rfl) ?_
        refine lv_lconst (v := 0) hx hb zd_R_takeLine_72 (by decide) ?_
        refine va_put (D := (dC, dI)) (ci := 4) (v := .long 0) (C := zr_R) (T := zF_R) (N := 9) hx hb htB zi_R zT_R zT_R_ok zn_R hown hK hP hD hS 0 rfl rfl 6 (by decide) (htB _ zk_d4c3bc94) (fun _ h9 => h9) rfl (zT_R_ok 6 (by decide)) rfl rfl (Nat.le_of_ble_eq_true rfl) zd_R_takeLine_73 (fun H locs hP hD hS => ?_)
        have hP : va_P (dC, dI) zz_cl (zw_R cI cZ cL a0 (st.1, st.2.1, st.2.2.1, st.2.2.2.1, st.2.2.2.2.1, (p1 * 10) + (st.2.2.2.2.1 - st.2.2.2.2.1 / 10 * 10), 0, st.2.2.2.2.2.2.2.1, st.2.2.2.2.2.2.2.2)) H := hP
        have hD : va_D A (zw_R cI cZ cL a0 (st.1, st.2.1, st.2.2.1, st.2.2.2.1, st.2.2.2.2.1, (p1 * 10) + (st.2.2.2.2.1 - st.2.2.2.2.1 / 10 * 10), 0, st.2.2.2.2.2.2.2.1, st.2.2.2.2.2.2.2.2)) := hD
        refine lv_iload_n hx hb zd_R_takeLine_76 rfl (lv_at hl 2 rfl) ?_
        refine lv_if_eq (tgt := 89) hx hb zd_R_takeLine_77 (by decide) (fun _ => ?_) (fun c_ => absurd (by decide) c_)
        refine lv_iconst (v := 0) hx hb zd_R_takeLine_89 (by decide) ?_
        rw [(show zf_R_takeLine st p1 = (0, (st.1, st.2.1, st.2.2.1, st.2.2.2.1, st.2.2.2.2.1, (p1 * 10) + (st.2.2.2.2.1 - st.2.2.2.2.1 / 10 * 10), 0, st.2.2.2.2.2.2.2.1, st.2.2.2.2.2.2.2.2)) from by rw [zf_R_takeLine, if_neg c_6, if_neg c_10, if_neg c_56])]
        exact zz_zret hx hb hr hlocks narrow_b0 hK hP hD hS zd_R_takeLine_90 rfl
    · refine lv_iconst (v := 1) hx hb zd_R_takeLine_13 (by decide) ?_
      refine lv_goto (tgt := 37) hx hb zd_R_takeLine_14 (by decide) ?_
      refine lv_istore_n (lv' := [(2, .int 1), (0, .ref a0), (1, .int p1)]) hx hb zd_R_takeLine_37 rfl hl (by decide) rfl (fun ls hl => ?_)
      refine lv_iload_n hx hb zd_R_takeLine_38 rfl (lv_at hl 2 rfl) ?_
      refine lv_bipush (v := 10) hx hb zd_R_takeLine_39 (by decide) ?_
      refine lv_imul hx hb zd_R_takeLine_41 ?_
      refine lv_aload_n hx hb zd_R_takeLine_42 rfl (lv_at hl 1 rfl) ?_
      refine va_get (D := (dC, dI)) (ci := 4) (v := .int st.2.2.2.2.1) (C := zr_R) (T := zF_R) (N := 9) hx hb htB zi_R hown hK hP 0 rfl rfl 4 (by decide) (htB _ zk_38af8887) (fun _ h9 => h9) rfl zd_R_takeLine_43 ?_
      refine lv_bipush (v := 10) hx hb zd_R_takeLine_46 (by decide) ?_
      refine lv_irem hx hb zd_R_takeLine_48 (by decide) ?_
      refine lv_iadd hx hb zd_R_takeLine_49 ?_
      refine lv_istore_n (lv' := [(3, .int ((p1 * 10) + (st.2.2.2.2.1 - st.2.2.2.2.1 / 10 * 10))), (2, .int 1), (0, .ref a0), (1, .int p1)]) hx hb zd_R_takeLine_50 rfl hl (by decide) rfl (fun ls hl => ?_)
      refine lv_iload_n hx hb zd_R_takeLine_51 rfl (lv_at hl 0 rfl) ?_
      refine lv_aload_n hx hb zd_R_takeLine_52 rfl (lv_at hl 2 rfl) ?_
      refine va_get (D := (dC, dI)) (ci := 4) (v := .int st.2.2.2.2.2.1) (C := zr_R) (T := zF_R) (N := 9) hx hb htB zi_R hown hK hP 0 rfl rfl 5 (by decide) (htB _ zk_5d4512b9) (fun _ h9 => h9) rfl zd_R_takeLine_53 ?_
      refine lv_icmp_le (tgt := 63) hx hb zd_R_takeLine_56 (by decide) (fun c_56 => ?_) (fun c_56 => ?_)
      · refine lv_iconst (v := 0) hx hb zd_R_takeLine_63 (by decide) ?_
        refine lv_istore (lv' := [(4, .int 0), (3, .int ((p1 * 10) + (st.2.2.2.2.1 - st.2.2.2.2.1 / 10 * 10))), (2, .int 1), (0, .ref a0), (1, .int p1)]) hx hb zd_R_takeLine_64 hl (by decide) rfl (fun ls hl => ?_)
        refine lv_aload_n hx hb zd_R_takeLine_66 rfl (lv_at hl 3 rfl) ?_
        refine lv_iload_n hx hb zd_R_takeLine_67 rfl (lv_at hl 1 rfl) ?_
        refine va_put (D := (dC, dI)) (ci := 4) (v := .int ((p1 * 10) + (st.2.2.2.2.1 - st.2.2.2.2.1 / 10 * 10))) (C := zr_R) (T := zF_R) (N := 9) hx hb htB zi_R zT_R zT_R_ok zn_R hown hK hP hD hS 0 rfl rfl 5 (by decide) (htB _ zk_5d4512b9) (fun _ h9 => h9) rfl (zT_R_ok 5 (by decide)) rfl rfl (Nat.le_of_ble_eq_true rfl) zd_R_takeLine_68 (fun H locs hP hD hS => ?_)
        have hP : va_P (dC, dI) zz_cl (zw_R cI cZ cL a0 (st.1, st.2.1, st.2.2.1, st.2.2.2.1, st.2.2.2.2.1, (p1 * 10) + (st.2.2.2.2.1 - st.2.2.2.2.1 / 10 * 10), st.2.2.2.2.2.2.1, st.2.2.2.2.2.2.2.1, st.2.2.2.2.2.2.2.2)) H := hP
        have hD : va_D A (zw_R cI cZ cL a0 (st.1, st.2.1, st.2.2.1, st.2.2.2.1, st.2.2.2.2.1, (p1 * 10) + (st.2.2.2.2.1 - st.2.2.2.2.1 / 10 * 10), st.2.2.2.2.2.2.1, st.2.2.2.2.2.2.2.1, st.2.2.2.2.2.2.2.2)) := hD
        refine lv_aload_n hx hb zd_R_takeLine_71 rfl (lv_at hl 3 rfl) ?_
        refine lv_lconst (v := 0) hx hb zd_R_takeLine_72 (by decide) ?_
        refine va_put (D := (dC, dI)) (ci := 4) (v := .long 0) (C := zr_R) (T := zF_R) (N := 9) hx hb htB zi_R zT_R zT_R_ok zn_R hown hK hP hD hS 0 rfl rfl 6 (by decide) (htB _ zk_d4c3bc94) (fun _ h9 => h9) rfl (zT_R_ok 6 (by decide)) rfl rfl (Nat.le_of_ble_eq_true rfl) zd_R_takeLine_73 (fun H locs hP hD hS => ?_)
        have hP : va_P (dC, dI) zz_cl (zw_R cI cZ cL a0 (st.1, st.2.1, st.2.2.1, st.2.2.2.1, st.2.2.2.2.1, (p1 * 10) + (st.2.2.2.2.1 - st.2.2.2.2.1 / 10 * 10), 0, st.2.2.2.2.2.2.2.1, st.2.2.2.2.2.2.2.2)) H := hP
        have hD : va_D A (zw_R cI cZ cL a0 (st.1, st.2.1, st.2.2.1, st.2.2.2.1, st.2.2.2.2.1, (p1 * 10) + (st.2.2.2.2.1 - st.2.2.2.2.1 / 10 * 10), 0, st.2.2.2.2.2.2.2.1, st.2.2.2.2.2.2.2.2)) := hD
        refine lv_iload_n hx hb zd_R_takeLine_76 rfl (lv_at hl 2 rfl) ?_
        refine lv_if_eq (tgt := 89) hx hb zd_R_takeLine_77 (by decide) (fun c_ => absurd c_ (by decide)) (fun _ => ?_)
        refine lv_iload hx hb zd_R_takeLine_80 (lv_at hl 0 rfl) ?_
        refine lv_if_eq (tgt := 89) hx hb zd_R_takeLine_82 (by decide) (fun _ => ?_) (fun c_ => absurd (by decide) c_)
        refine lv_iconst (v := 0) hx hb zd_R_takeLine_89 (by decide) ?_
        rw [(show zf_R_takeLine st p1 = (0, (st.1, st.2.1, st.2.2.1, st.2.2.2.1, st.2.2.2.2.1, (p1 * 10) + (st.2.2.2.2.1 - st.2.2.2.2.1 / 10 * 10), 0, st.2.2.2.2.2.2.2.1, st.2.2.2.2.2.2.2.2)) from by rw [zf_R_takeLine, if_neg c_6, if_pos c_10, if_pos c_56])]
        exact zz_zret hx hb hr hlocks narrow_b0 hK hP hD hS zd_R_takeLine_90 rfl
      · refine lv_iconst (v := 1) hx hb zd_R_takeLine_59 (by decide) ?_
        refine lv_goto (tgt := 64) hx hb zd_R_takeLine_60 (by decide) ?_
        refine lv_istore (lv' := [(4, .int 1), (3, .int ((p1 * 10) + (st.2.2.2.2.1 - st.2.2.2.2.1 / 10 * 10))), (2, .int 1), (0, .ref a0), (1, .int p1)]) hx hb zd_R_takeLine_64 hl (by decide) rfl (fun ls hl => ?_)
        refine lv_aload_n hx hb zd_R_takeLine_66 rfl (lv_at hl 3 rfl) ?_
        refine lv_iload_n hx hb zd_R_takeLine_67 rfl (lv_at hl 1 rfl) ?_
        refine va_put (D := (dC, dI)) (ci := 4) (v := .int ((p1 * 10) + (st.2.2.2.2.1 - st.2.2.2.2.1 / 10 * 10))) (C := zr_R) (T := zF_R) (N := 9) hx hb htB zi_R zT_R zT_R_ok zn_R hown hK hP hD hS 0 rfl rfl 5 (by decide) (htB _ zk_5d4512b9) (fun _ h9 => h9) rfl (zT_R_ok 5 (by decide)) rfl rfl (Nat.le_of_ble_eq_true rfl) zd_R_takeLine_68 (fun H locs hP hD hS => ?_)
        have hP : va_P (dC, dI) zz_cl (zw_R cI cZ cL a0 (st.1, st.2.1, st.2.2.1, st.2.2.2.1, st.2.2.2.2.1, (p1 * 10) + (st.2.2.2.2.1 - st.2.2.2.2.1 / 10 * 10), st.2.2.2.2.2.2.1, st.2.2.2.2.2.2.2.1, st.2.2.2.2.2.2.2.2)) H := hP
        have hD : va_D A (zw_R cI cZ cL a0 (st.1, st.2.1, st.2.2.1, st.2.2.2.1, st.2.2.2.2.1, (p1 * 10) + (st.2.2.2.2.1 - st.2.2.2.2.1 / 10 * 10), st.2.2.2.2.2.2.1, st.2.2.2.2.2.2.2.1, st.2.2.2.2.2.2.2.2)) := hD
        refine lv_aload_n hx hb zd_R_takeLine_71 rfl (lv_at hl 3 rfl) ?_
        refine lv_lconst (v := 0) hx hb zd_R_takeLine_72 (by decide) ?_
        refine va_put (D := (dC, dI)) (ci := 4) (v := .long 0) (C := zr_R) (T := zF_R) (N := 9) hx hb htB zi_R zT_R zT_R_ok zn_R hown hK hP hD hS 0 rfl rfl 6 (by decide) (htB _ zk_d4c3bc94) (fun _ h9 => h9) rfl (zT_R_ok 6 (by decide)) rfl rfl (Nat.le_of_ble_eq_true rfl) zd_R_takeLine_73 (fun H locs hP hD hS => ?_)
        have hP : va_P (dC, dI) zz_cl (zw_R cI cZ cL a0 (st.1, st.2.1, st.2.2.1, st.2.2.2.1, st.2.2.2.2.1, (p1 * 10) + (st.2.2.2.2.1 - st.2.2.2.2.1 / 10 * 10), 0, st.2.2.2.2.2.2.2.1, st.2.2.2.2.2.2.2.2)) H := hP
        have hD : va_D A (zw_R cI cZ cL a0 (st.1, st.2.1, st.2.2.1, st.2.2.2.1, st.2.2.2.2.1, (p1 * 10) + (st.2.2.2.2.1 - st.2.2.2.2.1 / 10 * 10), 0, st.2.2.2.2.2.2.2.1, st.2.2.2.2.2.2.2.2)) := hD
        refine lv_iload_n hx hb zd_R_takeLine_76 rfl (lv_at hl 2 rfl) ?_
        refine lv_if_eq (tgt := 89) hx hb zd_R_takeLine_77 (by decide) (fun c_ => absurd c_ (by decide)) (fun _ => ?_)
        refine lv_iload hx hb zd_R_takeLine_80 (lv_at hl 0 rfl) ?_
        refine lv_if_eq (tgt := 89) hx hb zd_R_takeLine_82 (by decide) (fun c_ => absurd c_ (by decide)) (fun _ => ?_)
        refine lv_iconst (v := 1) hx hb zd_R_takeLine_85 (by decide) ?_
        refine lv_goto (tgt := 90) hx hb zd_R_takeLine_86 (by decide) ?_
        rw [(show zf_R_takeLine st p1 = (1, (st.1, st.2.1, st.2.2.1, st.2.2.2.1, st.2.2.2.2.1, (p1 * 10) + (st.2.2.2.2.1 - st.2.2.2.2.1 / 10 * 10), 0, st.2.2.2.2.2.2.2.1, st.2.2.2.2.2.2.2.2)) from by rw [zf_R_takeLine, if_neg c_6, if_pos c_10, if_neg c_56])]
        exact zz_zret hx hb hr hlocks narrow_b1 hK hP hD hS zd_R_takeLine_90 rfl
set_option maxHeartbeats 4000000 in
set_option maxRecDepth 100000 in
theorem zc_R_takeValue (l : Launch) (dC : Nat → ClassId) (dI : Nat → Nat → Nat) (cI cZ cL : ClassId) (a0 : Nat) (sz : Nat) (st : zu_R) (p1 : Int32)  : Met l zy_R_takeValue (zz_ws zy_R_takeValue zb_R_takeValue 2 (some .boolean)) ({ frames := 0, cells := 0, slots := 0, locals := 0 } : Room) (va_Pc ([.ref a0, .int p1] : List Value) (zz_P (dC, dI) (zz_ty cI cZ cL) sz (zw_R cI cZ cL a0 st))) (zz_Qi (dC, dI) (zz_ty cI cZ cL) (va_A (zw_R cI cZ cL a0 st) sz) ((zf_R_takeValue st p1).1) (zw_R cI cZ cL a0 ((zf_R_takeValue st p1).2))) 0 0 (va_A (zw_R cI cZ cL a0 st) sz) := by
  refine zz_ofW (Q := fun A => (zz_Qi (dC, dI) (zz_ty cI cZ cL) A ((zf_R_takeValue st p1).1) (zw_R cI cZ cL a0 ((zf_R_takeValue st p1).2)))) (by decide) (Nat.le_of_ble_eq_true rfl) ?_
  intro p e s m below meth c A C0 _ hA hK hP hD _ ls hl
  obtain ⟨hx, hb, hr, hml, hown, htB, hlocks, hE⟩ := id C0
  have hS : va_S A s.heap s.heap [] := va_S.rf
  have hl : lv_has ls 2 [(0, .ref a0), (1, .int p1)] := hl
  refine lv_aload_n hx hb zd_R_takeValue_0 rfl (lv_at hl 0 rfl) ?_
  refine lv_aload_n hx hb zd_R_takeValue_1 rfl (lv_at hl 0 rfl) ?_
  refine va_get (D := (dC, dI)) (ci := 4) (v := .long st.2.2.2.2.2.2.1) (C := zr_R) (T := zF_R) (N := 9) hx hb htB zi_R hown hK hP 0 rfl rfl 6 (by decide) (htB _ zk_d4c3bc94) (fun _ h9 => h9) rfl zd_R_takeValue_2 ?_
  refine lv_ldc2 (v := 256) hx hb hown (htB _ zk_145c8149) zd_R_takeValue_5 ?_
  refine lv_lmul hx hb zd_R_takeValue_8 ?_
  refine lv_iload_n hx hb zd_R_takeValue_9 rfl (lv_at hl 1 rfl) ?_
  refine lv_i2l hx hb zd_R_takeValue_10 rfl ?_
  refine lv_ladd hx hb zd_R_takeValue_11 ?_
  refine va_put (D := (dC, dI)) (ci := 4) (v := .long ((st.2.2.2.2.2.2.1 * 256) + p1.toInt64)) (C := zr_R) (T := zF_R) (N := 9) hx hb htB zi_R zT_R zT_R_ok zn_R hown hK hP hD hS 0 rfl rfl 6 (by decide) (htB _ zk_d4c3bc94) (fun _ h9 => h9) rfl (zT_R_ok 6 (by decide)) rfl rfl (Nat.le_of_ble_eq_true rfl) zd_R_takeValue_12 (fun H locs hP hD hS => ?_)
  have hP : va_P (dC, dI) zz_cl (zw_R cI cZ cL a0 (st.1, st.2.1, st.2.2.1, st.2.2.2.1, st.2.2.2.2.1, st.2.2.2.2.2.1, (st.2.2.2.2.2.2.1 * 256) + p1.toInt64, st.2.2.2.2.2.2.2.1, st.2.2.2.2.2.2.2.2)) H := hP
  have hD : va_D A (zw_R cI cZ cL a0 (st.1, st.2.1, st.2.2.1, st.2.2.2.1, st.2.2.2.2.1, st.2.2.2.2.2.1, (st.2.2.2.2.2.2.1 * 256) + p1.toInt64, st.2.2.2.2.2.2.2.1, st.2.2.2.2.2.2.2.2)) := hD
  refine lv_aload_n hx hb zd_R_takeValue_15 rfl (lv_at hl 0 rfl) ?_
  refine va_get (D := (dC, dI)) (ci := 4) (v := .int st.1) (C := zr_R) (T := zF_R) (N := 9) hx hb htB zi_R hown hK hP 0 rfl rfl 0 (by decide) (htB _ zk_b8a9b261) (fun _ h9 => h9) rfl zd_R_takeValue_16 ?_
  refine lv_bipush (v := 8) hx hb zd_R_takeValue_19 (by decide) ?_
  refine lv_icmp_ne (tgt := 35) hx hb zd_R_takeValue_21 (by decide) (fun c_21 => ?_) (fun c_21 => ?_)
  · refine lv_iconst (v := 1) hx hb zd_R_takeValue_35 (by decide) ?_
    refine lv_goto (tgt := 40) hx hb zd_R_takeValue_36 (by decide) ?_
    rw [(show zf_R_takeValue st p1 = (1, (st.1, st.2.1, st.2.2.1, st.2.2.2.1, st.2.2.2.2.1, st.2.2.2.2.2.1, (st.2.2.2.2.2.2.1 * 256) + p1.toInt64, st.2.2.2.2.2.2.2.1, st.2.2.2.2.2.2.2.2)) from by rw [zf_R_takeValue, if_neg c_21])]
    exact zz_zret hx hb hr hlocks narrow_b1 hK hP hD hS zd_R_takeValue_40 rfl
  · refine lv_aload_n hx hb zd_R_takeValue_24 rfl (lv_at hl 0 rfl) ?_
    refine va_get (D := (dC, dI)) (ci := 4) (v := .long ((st.2.2.2.2.2.2.1 * 256) + p1.toInt64)) (C := zr_R) (T := zF_R) (N := 9) hx hb htB zi_R hown hK hP 0 rfl rfl 6 (by decide) (htB _ zk_d4c3bc94) (fun _ h9 => h9) rfl zd_R_takeValue_25 ?_
    refine lv_ldc2 (v := 1000000000) hx hb hown (htB _ zk_1a63ba43) zd_R_takeValue_28 ?_
    refine W.lcmp hx hb zd_R_takeValue_31 ?_
    refine lv_if_gt (tgt := 39) hx hb zd_R_takeValue_32 (by decide) (fun c_32 => ?_) (fun c_32 => ?_)
    · refine lv_iconst (v := 0) hx hb zd_R_takeValue_39 (by decide) ?_
      rw [(show zf_R_takeValue st p1 = (0, (st.1, st.2.1, st.2.2.1, st.2.2.2.1, st.2.2.2.2.1, st.2.2.2.2.2.1, (st.2.2.2.2.2.2.1 * 256) + p1.toInt64, st.2.2.2.2.2.2.2.1, st.2.2.2.2.2.2.2.2)) from by rw [zf_R_takeValue, if_pos c_21, if_pos c_32])]
      exact zz_zret hx hb hr hlocks narrow_b0 hK hP hD hS zd_R_takeValue_40 rfl
    · refine lv_iconst (v := 1) hx hb zd_R_takeValue_35 (by decide) ?_
      refine lv_goto (tgt := 40) hx hb zd_R_takeValue_36 (by decide) ?_
      rw [(show zf_R_takeValue st p1 = (1, (st.1, st.2.1, st.2.2.1, st.2.2.2.1, st.2.2.2.2.1, st.2.2.2.2.2.1, (st.2.2.2.2.2.2.1 * 256) + p1.toInt64, st.2.2.2.2.2.2.2.1, st.2.2.2.2.2.2.2.2)) from by rw [zf_R_takeValue, if_pos c_21, if_neg c_32])]
      exact zz_zret hx hb hr hlocks narrow_b1 hK hP hD hS zd_R_takeValue_40 rfl
set_option maxHeartbeats 4000000 in
set_option maxRecDepth 100000 in
theorem zc_R_stands (l : Launch) (dC : Nat → ClassId) (dI : Nat → Nat → Nat) (cI cZ cL : ClassId) (a0 : Nat) (sz : Nat) (st : zu_R) (p1 : Int32)  : Met l zy_R_stands (zz_ws zy_R_stands zb_R_stands 2 (some .boolean)) ({ frames := 2, cells := 0, slots := 0, locals := 42 } : Room) (va_Pc ([.ref a0, .int p1] : List Value) (zz_P (dC, dI) (zz_ty cI cZ cL) sz (zw_R cI cZ cL a0 st))) (zz_Qi (dC, dI) (zz_ty cI cZ cL) (va_A (zw_R cI cZ cL a0 st) sz) ((zf_R_stands st p1).1) (zw_R cI cZ cL a0 ((zf_R_stands st p1).2))) 0 0 (va_A (zw_R cI cZ cL a0 st) sz) := by
  refine zz_ofW (Q := fun A => (zz_Qi (dC, dI) (zz_ty cI cZ cL) A ((zf_R_stands st p1).1) (zw_R cI cZ cL a0 ((zf_R_stands st p1).2)))) (by decide) (Nat.le_of_ble_eq_true rfl) ?_
  intro p e s m below meth c A C0 _ hA hK hP hD _ ls hl
  obtain ⟨hx, hb, hr, hml, hown, htB, hlocks, hE⟩ := id C0
  have hS : va_S A s.heap s.heap [] := va_S.rf
  have hl : lv_has ls 2 [(0, .ref a0), (1, .int p1)] := hl
  refine lv_aload_n hx hb zd_R_stands_0 rfl (lv_at hl 0 rfl) ?_
  refine va_get (D := (dC, dI)) (ci := 4) (v := .int st.1) (C := zr_R) (T := zF_R) (N := 9) hx hb htB zi_R hown hK hP 0 rfl rfl 0 (by decide) (htB _ zk_b8a9b261) (fun _ h9 => h9) rfl zd_R_stands_1 ?_
  by_cases c_4_0 : st.1 = 0
  · refine lv_tableIn (off := 36) (tgt := 40) hx hb zd_R_stands_4 (by rw [c_4_0]; decide) (by rw [c_4_0]; decide) (by rw [c_4_0]; rfl) (by decide) ?_
    refine lv_aload_n hx hb zd_R_stands_40 rfl (lv_at hl 0 rfl) ?_
    refine lv_iload_n hx hb zd_R_stands_41 rfl (lv_at hl 1 rfl) ?_
    refine zz_ci (va_runV (As := [.int p1]) (rest := []) ⟨hx, hb, hml, hown, htB⟩ (zc_R_takeKind l dC dI cI cZ cL a0 s.heap.size st p1 ) (cwV 1 htB (zz_gV zk_5035b69c zk_4915e962 zk_f37331cd zk_136d7407 zk_614f5db7) rfl rfl rfl ⟨rfl, zh_R_takeKind⟩ ⟨Nat.le_of_ble_eq_true rfl, Nat.le_of_ble_eq_true rfl⟩) (zz_preV (ci := 4) (q := (zr_R, zF_R, 9)) hP hD hK hE [0] (by decide) rfl rfl rfl) rfl rfl hl.1 rfl (lv_room (Nat.le_of_ble_eq_true rfl)) zd_R_stands_42 ⟨Nat.le_of_ble_eq_true rfl, Nat.le_of_ble_eq_true rfl⟩) hP hD hS hA [0] [] [0] rfl rfl (by decide) (by decide) (by decide) rfl (fun H locs hP hD hS => ?_)
    have hP : va_P (dC, dI) zz_cl (zw_R cI cZ cL a0 ((zf_R_takeKind st p1).2)) H := hP
    have hD : va_D A (zw_R cI cZ cL a0 ((zf_R_takeKind st p1).2)) := hD
    rw [(show zf_R_stands st p1 = ((zf_R_takeKind st p1).1, (zf_R_takeKind st p1).2) from by rw [zf_R_stands, if_pos c_4_0])]
    exact zz_zret hx hb hr hlocks (zo_R_takeKind st p1) hK hP hD hS zd_R_stands_45 rfl
  by_cases c_4_1 : st.1 = 1
  · refine lv_tableIn (off := 42) (tgt := 46) hx hb zd_R_stands_4 (by rw [c_4_1]; decide) (by rw [c_4_1]; decide) (by rw [c_4_1]; rfl) (by decide) ?_
    refine lv_aload_n hx hb zd_R_stands_46 rfl (lv_at hl 0 rfl) ?_
    refine lv_iload_n hx hb zd_R_stands_47 rfl (lv_at hl 1 rfl) ?_
    refine zz_ci (va_runV (As := [.int p1]) (rest := []) ⟨hx, hb, hml, hown, htB⟩ (zc_R_takeHigher l dC dI cI cZ cL a0 s.heap.size st p1 ) (cwV 1 htB (zz_gV zk_7f1a353c zk_0e9f7475 zk_6d04e37b zk_136d7407 zk_f4d57b21) rfl rfl rfl ⟨rfl, zh_R_takeHigher⟩ ⟨Nat.le_of_ble_eq_true rfl, Nat.le_of_ble_eq_true rfl⟩) (zz_preV (ci := 4) (q := (zr_R, zF_R, 9)) hP hD hK hE [0] (by decide) rfl rfl rfl) rfl rfl hl.1 rfl (lv_room (Nat.le_of_ble_eq_true rfl)) zd_R_stands_48 ⟨Nat.le_of_ble_eq_true rfl, Nat.le_of_ble_eq_true rfl⟩) hP hD hS hA [0] [] [0] rfl rfl (by decide) (by decide) (by decide) rfl (fun H locs hP hD hS => ?_)
    have hP : va_P (dC, dI) zz_cl (zw_R cI cZ cL a0 ((zf_R_takeHigher st p1).2)) H := hP
    have hD : va_D A (zw_R cI cZ cL a0 ((zf_R_takeHigher st p1).2)) := hD
    rw [(show zf_R_stands st p1 = ((zf_R_takeHigher st p1).1, (zf_R_takeHigher st p1).2) from by rw [zf_R_stands, if_neg c_4_0, if_pos c_4_1])]
    exact zz_zret hx hb hr hlocks (zo_R_takeHigher st p1) hK hP hD hS zd_R_stands_51 rfl
  by_cases c_4_2 : st.1 = 2
  · refine lv_tableIn (off := 48) (tgt := 52) hx hb zd_R_stands_4 (by rw [c_4_2]; decide) (by rw [c_4_2]; decide) (by rw [c_4_2]; rfl) (by decide) ?_
    refine lv_aload_n hx hb zd_R_stands_52 rfl (lv_at hl 0 rfl) ?_
    refine lv_iload_n hx hb zd_R_stands_53 rfl (lv_at hl 1 rfl) ?_
    refine zz_ci (va_runV (As := [.int p1]) (rest := []) ⟨hx, hb, hml, hown, htB⟩ (zc_R_takeLower l dC dI cI cZ cL a0 s.heap.size st p1 ) (cwV 1 htB (zz_gV zk_c3b75ea1 zk_12bcf610 zk_e48d9ff2 zk_136d7407 zk_3bf2a372) rfl rfl rfl ⟨rfl, zh_R_takeLower⟩ ⟨Nat.le_of_ble_eq_true rfl, Nat.le_of_ble_eq_true rfl⟩) (zz_preV (ci := 4) (q := (zr_R, zF_R, 9)) hP hD hK hE [0] (by decide) rfl rfl rfl) rfl rfl hl.1 rfl (lv_room (Nat.le_of_ble_eq_true rfl)) zd_R_stands_54 ⟨Nat.le_of_ble_eq_true rfl, Nat.le_of_ble_eq_true rfl⟩) hP hD hS hA [0] [] [0] rfl rfl (by decide) (by decide) (by decide) rfl (fun H locs hP hD hS => ?_)
    have hP : va_P (dC, dI) zz_cl (zw_R cI cZ cL a0 ((zf_R_takeLower st p1).2)) H := hP
    have hD : va_D A (zw_R cI cZ cL a0 ((zf_R_takeLower st p1).2)) := hD
    rw [(show zf_R_stands st p1 = ((zf_R_takeLower st p1).1, (zf_R_takeLower st p1).2) from by rw [zf_R_stands, if_neg c_4_0, if_neg c_4_1, if_pos c_4_2])]
    exact zz_zret hx hb hr hlocks (zo_R_takeLower st p1) hK hP hD hS zd_R_stands_57 rfl
  by_cases c_4_3 : st.1 = 3
  · refine lv_tableIn (off := 54) (tgt := 58) hx hb zd_R_stands_4 (by rw [c_4_3]; decide) (by rw [c_4_3]; decide) (by rw [c_4_3]; rfl) (by decide) ?_
    refine lv_aload_n hx hb zd_R_stands_58 rfl (lv_at hl 0 rfl) ?_
    refine lv_iload_n hx hb zd_R_stands_59 rfl (lv_at hl 1 rfl) ?_
    refine zz_ci (va_runV (As := [.int p1]) (rest := []) ⟨hx, hb, hml, hown, htB⟩ (zc_R_takeField l dC dI cI cZ cL a0 s.heap.size st p1 ) (cwV 1 htB (zz_gV zk_c22db35c zk_934369ad zk_a14f995b zk_136d7407 zk_0b6e1656) rfl rfl rfl ⟨rfl, zh_R_takeField⟩ ⟨Nat.le_of_ble_eq_true rfl, Nat.le_of_ble_eq_true rfl⟩) (zz_preV (ci := 4) (q := (zr_R, zF_R, 9)) hP hD hK hE [0] (by decide) rfl rfl rfl) rfl rfl hl.1 rfl (lv_room (Nat.le_of_ble_eq_true rfl)) zd_R_stands_60 ⟨Nat.le_of_ble_eq_true rfl, Nat.le_of_ble_eq_true rfl⟩) hP hD hS hA [0] [] [0] rfl rfl (by decide) (by decide) (by decide) rfl (fun H locs hP hD hS => ?_)
    have hP : va_P (dC, dI) zz_cl (zw_R cI cZ cL a0 ((zf_R_takeField st p1).2)) H := hP
    have hD : va_D A (zw_R cI cZ cL a0 ((zf_R_takeField st p1).2)) := hD
    rw [(show zf_R_stands st p1 = ((zf_R_takeField st p1).1, (zf_R_takeField st p1).2) from by rw [zf_R_stands, if_neg c_4_0, if_neg c_4_1, if_neg c_4_2, if_pos c_4_3])]
    exact zz_zret hx hb hr hlocks (zo_R_takeField st p1) hK hP hD hS zd_R_stands_63 rfl
  by_cases c_4_4 : st.1 = 4
  · refine lv_tableIn (off := 60) (tgt := 64) hx hb zd_R_stands_4 (by rw [c_4_4]; decide) (by rw [c_4_4]; decide) (by rw [c_4_4]; rfl) (by decide) ?_
    refine lv_aload_n hx hb zd_R_stands_64 rfl (lv_at hl 0 rfl) ?_
    refine lv_iload_n hx hb zd_R_stands_65 rfl (lv_at hl 1 rfl) ?_
    refine zz_ci (va_runV (As := [.int p1]) (rest := []) ⟨hx, hb, hml, hown, htB⟩ (zc_R_takeLine l dC dI cI cZ cL a0 s.heap.size st p1 ) (cwV 1 htB (zz_gV zk_76bb2fce zk_f84625d5 zk_975b5658 zk_136d7407 zk_8bbbc545) rfl rfl rfl ⟨rfl, zh_R_takeLine⟩ ⟨Nat.le_of_ble_eq_true rfl, Nat.le_of_ble_eq_true rfl⟩) (zz_preV (ci := 4) (q := (zr_R, zF_R, 9)) hP hD hK hE [0] (by decide) rfl rfl rfl) rfl rfl hl.1 rfl (lv_room (Nat.le_of_ble_eq_true rfl)) zd_R_stands_66 ⟨Nat.le_of_ble_eq_true rfl, Nat.le_of_ble_eq_true rfl⟩) hP hD hS hA [0] [] [0] rfl rfl (by decide) (by decide) (by decide) rfl (fun H locs hP hD hS => ?_)
    have hP : va_P (dC, dI) zz_cl (zw_R cI cZ cL a0 ((zf_R_takeLine st p1).2)) H := hP
    have hD : va_D A (zw_R cI cZ cL a0 ((zf_R_takeLine st p1).2)) := hD
    rw [(show zf_R_stands st p1 = ((zf_R_takeLine st p1).1, (zf_R_takeLine st p1).2) from by rw [zf_R_stands, if_neg c_4_0, if_neg c_4_1, if_neg c_4_2, if_neg c_4_3, if_pos c_4_4])]
    exact zz_zret hx hb hr hlocks (zo_R_takeLine st p1) hK hP hD hS zd_R_stands_69 rfl
  refine lv_tableOut (tgt := 70) hx hb zd_R_stands_4 (by have n0 := lv_neT c_4_0 (a := 0) (by decide); have n1 := lv_neT c_4_1 (a := 1) (by decide); have n2 := lv_neT c_4_2 (a := 2) (by decide); have n3 := lv_neT c_4_3 (a := 3) (by decide); have n4 := lv_neT c_4_4 (a := 4) (by decide); omega) (by decide) ?_
  refine lv_aload_n hx hb zd_R_stands_70 rfl (lv_at hl 0 rfl) ?_
  refine lv_iload_n hx hb zd_R_stands_71 rfl (lv_at hl 1 rfl) ?_
  refine zz_ci (va_runV (As := [.int p1]) (rest := []) ⟨hx, hb, hml, hown, htB⟩ (zc_R_takeValue l dC dI cI cZ cL a0 s.heap.size st p1 ) (cwV 1 htB (zz_gV zk_0ec6c850 zk_69ba10b9 zk_9ba1f689 zk_136d7407 zk_ba187e4f) rfl rfl rfl ⟨rfl, zh_R_takeValue⟩ ⟨Nat.le_of_ble_eq_true rfl, Nat.le_of_ble_eq_true rfl⟩) (zz_preV (ci := 4) (q := (zr_R, zF_R, 9)) hP hD hK hE [0] (by decide) rfl rfl rfl) rfl rfl hl.1 rfl (lv_room (Nat.le_of_ble_eq_true rfl)) zd_R_stands_72 ⟨Nat.le_of_ble_eq_true rfl, Nat.le_of_ble_eq_true rfl⟩) hP hD hS hA [0] [] [0] rfl rfl (by decide) (by decide) (by decide) rfl (fun H locs hP hD hS => ?_)
  have hP : va_P (dC, dI) zz_cl (zw_R cI cZ cL a0 ((zf_R_takeValue st p1).2)) H := hP
  have hD : va_D A (zw_R cI cZ cL a0 ((zf_R_takeValue st p1).2)) := hD
  rw [(show zf_R_stands st p1 = ((zf_R_takeValue st p1).1, (zf_R_takeValue st p1).2) from by rw [zf_R_stands, if_neg c_4_0, if_neg c_4_1, if_neg c_4_2, if_neg c_4_3, if_neg c_4_4])]
  exact zz_zret hx hb hr hlocks (zo_R_takeValue st p1) hK hP hD hS zd_R_stands_75 rfl
set_option maxHeartbeats 4000000 in
set_option maxRecDepth 100000 in
theorem zc_R_accept (l : Launch) (dC : Nat → ClassId) (dI : Nat → Nat → Nat) (cI cZ cL : ClassId) (a0 : Nat) (sz : Nat) (st : zu_R) (p1 : Int32)  : Met l zy_R_accept (zz_ws zy_R_accept zb_R_accept 2 (some .int)) ({ frames := 3, cells := 0, slots := 0, locals := 63 } : Room) (va_Pc ([.ref a0, .int p1] : List Value) (zz_P (dC, dI) (zz_ty cI cZ cL) sz (zw_R cI cZ cL a0 st))) (zz_Qi (dC, dI) (zz_ty cI cZ cL) (va_A (zw_R cI cZ cL a0 st) sz) ((zf_R_accept st p1).1) (zw_R cI cZ cL a0 ((zf_R_accept st p1).2))) 0 0 (va_A (zw_R cI cZ cL a0 st) sz) := by
  refine zz_ofW (Q := fun A => (zz_Qi (dC, dI) (zz_ty cI cZ cL) A ((zf_R_accept st p1).1) (zw_R cI cZ cL a0 ((zf_R_accept st p1).2)))) (by decide) (Nat.le_of_ble_eq_true rfl) ?_
  intro p e s m below meth c A C0 _ hA hK hP hD _ ls hl
  obtain ⟨hx, hb, hr, hml, hown, htB, hlocks, hE⟩ := id C0
  have hS : va_S A s.heap s.heap [] := va_S.rf
  have hl : lv_has ls 2 [(0, .ref a0), (1, .int p1)] := hl
  refine lv_aload_n hx hb zd_R_accept_0 rfl (lv_at hl 0 rfl) ?_
  refine lv_iload_n hx hb zd_R_accept_1 rfl (lv_at hl 1 rfl) ?_
  refine zz_ci (va_runV (As := [.int p1]) (rest := []) ⟨hx, hb, hml, hown, htB⟩ (zc_R_stands l dC dI cI cZ cL a0 s.heap.size st p1 ) (cwV 1 htB (zz_gV zk_2e9dfa34 zk_07adda86 zk_059ede22 zk_136d7407 zk_3daecf7f) rfl rfl rfl ⟨rfl, zh_R_stands⟩ ⟨Nat.le_of_ble_eq_true rfl, Nat.le_of_ble_eq_true rfl⟩) (zz_preV (ci := 4) (q := (zr_R, zF_R, 9)) hP hD hK hE [0] (by decide) rfl rfl rfl) rfl rfl hl.1 rfl (lv_room (Nat.le_of_ble_eq_true rfl)) zd_R_accept_2 ⟨Nat.le_of_ble_eq_true rfl, Nat.le_of_ble_eq_true rfl⟩) hP hD hS hA [0] [] [0] rfl rfl (by decide) (by decide) (by decide) rfl (fun H locs hP hD hS => ?_)
  have hP : va_P (dC, dI) zz_cl (zw_R cI cZ cL a0 ((zf_R_stands st p1).2)) H := hP
  have hD : va_D A (zw_R cI cZ cL a0 ((zf_R_stands st p1).2)) := hD
  refine lv_if_ne (tgt := 15) hx hb zd_R_accept_5 (by decide) (fun c_5 => ?_) (fun c_5 => ?_)
  · refine lv_aload_n hx hb zd_R_accept_15 rfl (lv_at hl 0 rfl) ?_
    refine va_get (D := (dC, dI)) (ci := 4) (v := .int (((zf_R_stands st p1).2).1)) (C := zr_R) (T := zF_R) (N := 9) hx hb htB zi_R hown hK hP 0 rfl rfl 0 (by decide) (htB _ zk_b8a9b261) (fun _ h9 => h9) rfl zd_R_accept_16 ?_
    refine lv_bipush (v := 8) hx hb zd_R_accept_19 (by decide) ?_
    refine lv_icmp_ne (tgt := 34) hx hb zd_R_accept_21 (by decide) (fun c_21 => ?_) (fun c_21 => ?_)
    · refine lv_aload_n hx hb zd_R_accept_34 rfl (lv_at hl 0 rfl) ?_
      refine va_get (D := (dC, dI)) (ci := 4) (v := .int (((zf_R_stands st p1).2).1)) (C := zr_R) (T := zF_R) (N := 9) hx hb htB zi_R hown hK hP 0 rfl rfl 0 (by decide) (htB _ zk_b8a9b261) (fun _ h9 => h9) rfl zd_R_accept_35 ?_
      refine lv_iconst (v := 2) hx hb zd_R_accept_38 (by decide) ?_
      refine lv_icmp_eq (tgt := 51) hx hb zd_R_accept_39 (by decide) (fun c_39 => ?_) (fun c_39 => ?_)
      · refine lv_aload_n hx hb zd_R_accept_51 rfl (lv_at hl 0 rfl) ?_
        refine va_get (D := (dC, dI)) (ci := 4) (v := .int (((zf_R_stands st p1).2).2.2.2.1)) (C := zr_R) (T := zF_R) (N := 9) hx hb htB zi_R hown hK hP 0 rfl rfl 3 (by decide) (htB _ zk_19b26606) (fun _ h9 => h9) rfl zd_R_accept_52 ?_
        refine lv_if_ne (tgt := 83) hx hb zd_R_accept_55 (by decide) (fun c_55 => ?_) (fun c_55 => ?_)
        · refine lv_aload_n hx hb zd_R_accept_83 rfl (lv_at hl 0 rfl) ?_
          refine lv_aload_n hx hb zd_R_accept_84 rfl (lv_at hl 0 rfl) ?_
          refine va_get (D := (dC, dI)) (ci := 4) (v := .int (((zf_R_stands st p1).2).1)) (C := zr_R) (T := zF_R) (N := 9) hx hb htB zi_R hown hK hP 0 rfl rfl 0 (by decide) (htB _ zk_b8a9b261) (fun _ h9 => h9) rfl zd_R_accept_85 ?_
          refine lv_bipush (v := 8) hx hb zd_R_accept_88 (by decide) ?_
          refine lv_icmp_ne (tgt := 97) hx hb zd_R_accept_90 (by decide) (fun _ => ?_) (fun c_ => absurd c_ c_21)
          refine lv_aload_n hx hb zd_R_accept_97 rfl (lv_at hl 0 rfl) ?_
          refine va_get (D := (dC, dI)) (ci := 4) (v := .int (((zf_R_stands st p1).2).1)) (C := zr_R) (T := zF_R) (N := 9) hx hb htB zi_R hown hK hP 0 rfl rfl 0 (by decide) (htB _ zk_b8a9b261) (fun _ h9 => h9) rfl zd_R_accept_98 ?_
          refine lv_iconst (v := 1) hx hb zd_R_accept_101 (by decide) ?_
          refine lv_iadd hx hb zd_R_accept_102 ?_
          refine va_put (D := (dC, dI)) (ci := 4) (v := .int ((((zf_R_stands st p1).2).1) + 1)) (C := zr_R) (T := zF_R) (N := 9) hx hb htB zi_R zT_R zT_R_ok zn_R hown hK hP hD hS 0 rfl rfl 0 (by decide) (htB _ zk_b8a9b261) (fun _ h9 => h9) rfl (zT_R_ok 0 (by decide)) rfl rfl (Nat.le_of_ble_eq_true rfl) zd_R_accept_103 (fun H locs hP hD hS => ?_)
          have hP : va_P (dC, dI) zz_cl (zw_R cI cZ cL a0 ((((zf_R_stands st p1).2).1) + 1, ((zf_R_stands st p1).2).2.1, ((zf_R_stands st p1).2).2.2.1, ((zf_R_stands st p1).2).2.2.2.1, ((zf_R_stands st p1).2).2.2.2.2.1, ((zf_R_stands st p1).2).2.2.2.2.2.1, ((zf_R_stands st p1).2).2.2.2.2.2.2.1, ((zf_R_stands st p1).2).2.2.2.2.2.2.2.1, ((zf_R_stands st p1).2).2.2.2.2.2.2.2.2)) H := hP
          have hD : va_D A (zw_R cI cZ cL a0 ((((zf_R_stands st p1).2).1) + 1, ((zf_R_stands st p1).2).2.1, ((zf_R_stands st p1).2).2.2.1, ((zf_R_stands st p1).2).2.2.2.1, ((zf_R_stands st p1).2).2.2.2.2.1, ((zf_R_stands st p1).2).2.2.2.2.2.1, ((zf_R_stands st p1).2).2.2.2.2.2.2.1, ((zf_R_stands st p1).2).2.2.2.2.2.2.2.1, ((zf_R_stands st p1).2).2.2.2.2.2.2.2.2)) := hD
          refine lv_iconst (v := 0) hx hb zd_R_accept_106 (by decide) ?_
          rw [(show zf_R_accept st p1 = (0, ((((zf_R_stands st p1).2).1) + 1, ((zf_R_stands st p1).2).2.1, ((zf_R_stands st p1).2).2.2.1, ((zf_R_stands st p1).2).2.2.2.1, ((zf_R_stands st p1).2).2.2.2.2.1, ((zf_R_stands st p1).2).2.2.2.2.2.1, ((zf_R_stands st p1).2).2.2.2.2.2.2.1, ((zf_R_stands st p1).2).2.2.2.2.2.2.2.1, ((zf_R_stands st p1).2).2.2.2.2.2.2.2.2)) from by rw [zf_R_accept, if_neg c_5, if_neg c_21, if_pos c_39, if_neg c_55])]
          exact zz_iret hx hb hr hlocks hK hP hD hS zd_R_accept_107 rfl
        · refine lv_aload_n hx hb zd_R_accept_58 rfl (lv_at hl 0 rfl) ?_
          refine lv_dup hx hb zd_R_accept_59 rfl ?_
          refine va_get (D := (dC, dI)) (ci := 4) (v := .int (((zf_R_stands st p1).2).2.2.2.2.2.2.2.1)) (C := zr_R) (T := zF_R) (N := 9) hx hb htB zi_R hown hK hP 0 rfl rfl 7 (by decide) (htB _ zk_e7cbea07) (fun _ h9 => h9) rfl zd_R_accept_60 ?_
          refine lv_iconst (v := 1) hx hb zd_R_accept_63 (by decide) ?_
          refine lv_iadd hx hb zd_R_accept_64 ?_
          refine va_put (D := (dC, dI)) (ci := 4) (v := .int ((((zf_R_stands st p1).2).2.2.2.2.2.2.2.1) + 1)) (C := zr_R) (T := zF_R) (N := 9) hx hb htB zi_R zT_R zT_R_ok zn_R hown hK hP hD hS 0 rfl rfl 7 (by decide) (htB _ zk_e7cbea07) (fun _ h9 => h9) rfl (zT_R_ok 7 (by decide)) rfl rfl (Nat.le_of_ble_eq_true rfl) zd_R_accept_65 (fun H locs hP hD hS => ?_)
          have hP : va_P (dC, dI) zz_cl (zw_R cI cZ cL a0 (((zf_R_stands st p1).2).1, ((zf_R_stands st p1).2).2.1, ((zf_R_stands st p1).2).2.2.1, ((zf_R_stands st p1).2).2.2.2.1, ((zf_R_stands st p1).2).2.2.2.2.1, ((zf_R_stands st p1).2).2.2.2.2.2.1, ((zf_R_stands st p1).2).2.2.2.2.2.2.1, (((zf_R_stands st p1).2).2.2.2.2.2.2.2.1) + 1, ((zf_R_stands st p1).2).2.2.2.2.2.2.2.2)) H := hP
          have hD : va_D A (zw_R cI cZ cL a0 (((zf_R_stands st p1).2).1, ((zf_R_stands st p1).2).2.1, ((zf_R_stands st p1).2).2.2.1, ((zf_R_stands st p1).2).2.2.2.1, ((zf_R_stands st p1).2).2.2.2.2.1, ((zf_R_stands st p1).2).2.2.2.2.2.1, ((zf_R_stands st p1).2).2.2.2.2.2.2.1, (((zf_R_stands st p1).2).2.2.2.2.2.2.2.1) + 1, ((zf_R_stands st p1).2).2.2.2.2.2.2.2.2)) := hD
          refine lv_aload_n hx hb zd_R_accept_68 rfl (lv_at hl 0 rfl) ?_
          refine lv_aload_n hx hb zd_R_accept_69 rfl (lv_at hl 0 rfl) ?_
          refine va_get (D := (dC, dI)) (ci := 4) (v := .int (((zf_R_stands st p1).2).2.2.1)) (C := zr_R) (T := zF_R) (N := 9) hx hb htB zi_R hown hK hP 0 rfl rfl 2 (by decide) (htB _ zk_64a6c42c) (fun _ h9 => h9) rfl zd_R_accept_70 ?_
          refine va_put (D := (dC, dI)) (ci := 4) (v := .int (((zf_R_stands st p1).2).2.2.1)) (C := zr_R) (T := zF_R) (N := 9) hx hb htB zi_R zT_R zT_R_ok zn_R hown hK hP hD hS 0 rfl rfl 8 (by decide) (htB _ zk_8c4f15a9) (fun _ h9 => h9) rfl (zT_R_ok 8 (by decide)) rfl rfl (Nat.le_of_ble_eq_true rfl) zd_R_accept_73 (fun H locs hP hD hS => ?_)
          have hP : va_P (dC, dI) zz_cl (zw_R cI cZ cL a0 (((zf_R_stands st p1).2).1, ((zf_R_stands st p1).2).2.1, ((zf_R_stands st p1).2).2.2.1, ((zf_R_stands st p1).2).2.2.2.1, ((zf_R_stands st p1).2).2.2.2.2.1, ((zf_R_stands st p1).2).2.2.2.2.2.1, ((zf_R_stands st p1).2).2.2.2.2.2.2.1, (((zf_R_stands st p1).2).2.2.2.2.2.2.2.1) + 1, ((zf_R_stands st p1).2).2.2.1)) H := hP
          have hD : va_D A (zw_R cI cZ cL a0 (((zf_R_stands st p1).2).1, ((zf_R_stands st p1).2).2.1, ((zf_R_stands st p1).2).2.2.1, ((zf_R_stands st p1).2).2.2.2.1, ((zf_R_stands st p1).2).2.2.2.2.1, ((zf_R_stands st p1).2).2.2.2.2.2.1, ((zf_R_stands st p1).2).2.2.2.2.2.2.1, (((zf_R_stands st p1).2).2.2.2.2.2.2.2.1) + 1, ((zf_R_stands st p1).2).2.2.1)) := hD
          refine lv_aload_n hx hb zd_R_accept_76 rfl (lv_at hl 0 rfl) ?_
          refine lv_iconst (v := 0) hx hb zd_R_accept_77 (by decide) ?_
          refine va_put (D := (dC, dI)) (ci := 4) (v := .int 0) (C := zr_R) (T := zF_R) (N := 9) hx hb htB zi_R zT_R zT_R_ok zn_R hown hK hP hD hS 0 rfl rfl 0 (by decide) (htB _ zk_b8a9b261) (fun _ h9 => h9) rfl (zT_R_ok 0 (by decide)) rfl rfl (Nat.le_of_ble_eq_true rfl) zd_R_accept_78 (fun H locs hP hD hS => ?_)
          have hP : va_P (dC, dI) zz_cl (zw_R cI cZ cL a0 (0, ((zf_R_stands st p1).2).2.1, ((zf_R_stands st p1).2).2.2.1, ((zf_R_stands st p1).2).2.2.2.1, ((zf_R_stands st p1).2).2.2.2.2.1, ((zf_R_stands st p1).2).2.2.2.2.2.1, ((zf_R_stands st p1).2).2.2.2.2.2.2.1, (((zf_R_stands st p1).2).2.2.2.2.2.2.2.1) + 1, ((zf_R_stands st p1).2).2.2.1)) H := hP
          have hD : va_D A (zw_R cI cZ cL a0 (0, ((zf_R_stands st p1).2).2.1, ((zf_R_stands st p1).2).2.2.1, ((zf_R_stands st p1).2).2.2.2.1, ((zf_R_stands st p1).2).2.2.2.2.1, ((zf_R_stands st p1).2).2.2.2.2.2.1, ((zf_R_stands st p1).2).2.2.2.2.2.2.1, (((zf_R_stands st p1).2).2.2.2.2.2.2.2.1) + 1, ((zf_R_stands st p1).2).2.2.1)) := hD
          refine lv_iconst (v := 1) hx hb zd_R_accept_81 (by decide) ?_
          rw [(show zf_R_accept st p1 = (1, (0, ((zf_R_stands st p1).2).2.1, ((zf_R_stands st p1).2).2.2.1, ((zf_R_stands st p1).2).2.2.2.1, ((zf_R_stands st p1).2).2.2.2.2.1, ((zf_R_stands st p1).2).2.2.2.2.2.1, ((zf_R_stands st p1).2).2.2.2.2.2.2.1, (((zf_R_stands st p1).2).2.2.2.2.2.2.2.1) + 1, ((zf_R_stands st p1).2).2.2.1)) from by rw [zf_R_accept, if_neg c_5, if_neg c_21, if_pos c_39, if_pos c_55])]
          exact zz_iret hx hb hr hlocks hK hP hD hS zd_R_accept_82 rfl
      · refine lv_aload_n hx hb zd_R_accept_42 rfl (lv_at hl 0 rfl) ?_
        refine va_get (D := (dC, dI)) (ci := 4) (v := .int (((zf_R_stands st p1).2).1)) (C := zr_R) (T := zF_R) (N := 9) hx hb htB zi_R hown hK hP 0 rfl rfl 0 (by decide) (htB _ zk_b8a9b261) (fun _ h9 => h9) rfl zd_R_accept_43 ?_
        refine lv_bipush (v := 8) hx hb zd_R_accept_46 (by decide) ?_
        refine lv_icmp_ne (tgt := 83) hx hb zd_R_accept_48 (by decide) (fun _ => ?_) (fun c_ => absurd c_ c_21)
        refine lv_aload_n hx hb zd_R_accept_83 rfl (lv_at hl 0 rfl) ?_
        refine lv_aload_n hx hb zd_R_accept_84 rfl (lv_at hl 0 rfl) ?_
        refine va_get (D := (dC, dI)) (ci := 4) (v := .int (((zf_R_stands st p1).2).1)) (C := zr_R) (T := zF_R) (N := 9) hx hb htB zi_R hown hK hP 0 rfl rfl 0 (by decide) (htB _ zk_b8a9b261) (fun _ h9 => h9) rfl zd_R_accept_85 ?_
        refine lv_bipush (v := 8) hx hb zd_R_accept_88 (by decide) ?_
        refine lv_icmp_ne (tgt := 97) hx hb zd_R_accept_90 (by decide) (fun _ => ?_) (fun c_ => absurd c_ c_21)
        refine lv_aload_n hx hb zd_R_accept_97 rfl (lv_at hl 0 rfl) ?_
        refine va_get (D := (dC, dI)) (ci := 4) (v := .int (((zf_R_stands st p1).2).1)) (C := zr_R) (T := zF_R) (N := 9) hx hb htB zi_R hown hK hP 0 rfl rfl 0 (by decide) (htB _ zk_b8a9b261) (fun _ h9 => h9) rfl zd_R_accept_98 ?_
        refine lv_iconst (v := 1) hx hb zd_R_accept_101 (by decide) ?_
        refine lv_iadd hx hb zd_R_accept_102 ?_
        refine va_put (D := (dC, dI)) (ci := 4) (v := .int ((((zf_R_stands st p1).2).1) + 1)) (C := zr_R) (T := zF_R) (N := 9) hx hb htB zi_R zT_R zT_R_ok zn_R hown hK hP hD hS 0 rfl rfl 0 (by decide) (htB _ zk_b8a9b261) (fun _ h9 => h9) rfl (zT_R_ok 0 (by decide)) rfl rfl (Nat.le_of_ble_eq_true rfl) zd_R_accept_103 (fun H locs hP hD hS => ?_)
        have hP : va_P (dC, dI) zz_cl (zw_R cI cZ cL a0 ((((zf_R_stands st p1).2).1) + 1, ((zf_R_stands st p1).2).2.1, ((zf_R_stands st p1).2).2.2.1, ((zf_R_stands st p1).2).2.2.2.1, ((zf_R_stands st p1).2).2.2.2.2.1, ((zf_R_stands st p1).2).2.2.2.2.2.1, ((zf_R_stands st p1).2).2.2.2.2.2.2.1, ((zf_R_stands st p1).2).2.2.2.2.2.2.2.1, ((zf_R_stands st p1).2).2.2.2.2.2.2.2.2)) H := hP
        have hD : va_D A (zw_R cI cZ cL a0 ((((zf_R_stands st p1).2).1) + 1, ((zf_R_stands st p1).2).2.1, ((zf_R_stands st p1).2).2.2.1, ((zf_R_stands st p1).2).2.2.2.1, ((zf_R_stands st p1).2).2.2.2.2.1, ((zf_R_stands st p1).2).2.2.2.2.2.1, ((zf_R_stands st p1).2).2.2.2.2.2.2.1, ((zf_R_stands st p1).2).2.2.2.2.2.2.2.1, ((zf_R_stands st p1).2).2.2.2.2.2.2.2.2)) := hD
        refine lv_iconst (v := 0) hx hb zd_R_accept_106 (by decide) ?_
        rw [(show zf_R_accept st p1 = (0, ((((zf_R_stands st p1).2).1) + 1, ((zf_R_stands st p1).2).2.1, ((zf_R_stands st p1).2).2.2.1, ((zf_R_stands st p1).2).2.2.2.1, ((zf_R_stands st p1).2).2.2.2.2.1, ((zf_R_stands st p1).2).2.2.2.2.2.1, ((zf_R_stands st p1).2).2.2.2.2.2.2.1, ((zf_R_stands st p1).2).2.2.2.2.2.2.2.1, ((zf_R_stands st p1).2).2.2.2.2.2.2.2.2)) from by rw [zf_R_accept, if_neg c_5, if_neg c_21, if_neg c_39])]
        exact zz_iret hx hb hr hlocks hK hP hD hS zd_R_accept_107 rfl
    · refine lv_aload_n hx hb zd_R_accept_24 rfl (lv_at hl 0 rfl) ?_
      refine lv_dup hx hb zd_R_accept_25 rfl ?_
      refine va_get (D := (dC, dI)) (ci := 4) (v := .int (((zf_R_stands st p1).2).2.2.2.1)) (C := zr_R) (T := zF_R) (N := 9) hx hb htB zi_R hown hK hP 0 rfl rfl 3 (by decide) (htB _ zk_19b26606) (fun _ h9 => h9) rfl zd_R_accept_26 ?_
      refine lv_iconst (v := 1) hx hb zd_R_accept_29 (by decide) ?_
      refine lv_isub hx hb zd_R_accept_30 ?_
      refine va_put (D := (dC, dI)) (ci := 4) (v := .int ((((zf_R_stands st p1).2).2.2.2.1) - 1)) (C := zr_R) (T := zF_R) (N := 9) hx hb htB zi_R zT_R zT_R_ok zn_R hown hK hP hD hS 0 rfl rfl 3 (by decide) (htB _ zk_19b26606) (fun _ h9 => h9) rfl (zT_R_ok 3 (by decide)) rfl rfl (Nat.le_of_ble_eq_true rfl) zd_R_accept_31 (fun H locs hP hD hS => ?_)
      have hP : va_P (dC, dI) zz_cl (zw_R cI cZ cL a0 (((zf_R_stands st p1).2).1, ((zf_R_stands st p1).2).2.1, ((zf_R_stands st p1).2).2.2.1, (((zf_R_stands st p1).2).2.2.2.1) - 1, ((zf_R_stands st p1).2).2.2.2.2.1, ((zf_R_stands st p1).2).2.2.2.2.2.1, ((zf_R_stands st p1).2).2.2.2.2.2.2.1, ((zf_R_stands st p1).2).2.2.2.2.2.2.2.1, ((zf_R_stands st p1).2).2.2.2.2.2.2.2.2)) H := hP
      have hD : va_D A (zw_R cI cZ cL a0 (((zf_R_stands st p1).2).1, ((zf_R_stands st p1).2).2.1, ((zf_R_stands st p1).2).2.2.1, (((zf_R_stands st p1).2).2.2.2.1) - 1, ((zf_R_stands st p1).2).2.2.2.2.1, ((zf_R_stands st p1).2).2.2.2.2.2.1, ((zf_R_stands st p1).2).2.2.2.2.2.2.1, ((zf_R_stands st p1).2).2.2.2.2.2.2.2.1, ((zf_R_stands st p1).2).2.2.2.2.2.2.2.2)) := hD
      refine lv_aload_n hx hb zd_R_accept_34 rfl (lv_at hl 0 rfl) ?_
      refine va_get (D := (dC, dI)) (ci := 4) (v := .int (((zf_R_stands st p1).2).1)) (C := zr_R) (T := zF_R) (N := 9) hx hb htB zi_R hown hK hP 0 rfl rfl 0 (by decide) (htB _ zk_b8a9b261) (fun _ h9 => h9) rfl zd_R_accept_35 ?_
      refine lv_iconst (v := 2) hx hb zd_R_accept_38 (by decide) ?_
      refine lv_icmp_eq (tgt := 51) hx hb zd_R_accept_39 (by decide) (fun c_39 => ?_) (fun c_39 => ?_)
      · refine lv_aload_n hx hb zd_R_accept_51 rfl (lv_at hl 0 rfl) ?_
        refine va_get (D := (dC, dI)) (ci := 4) (v := .int ((((zf_R_stands st p1).2).2.2.2.1) - 1)) (C := zr_R) (T := zF_R) (N := 9) hx hb htB zi_R hown hK hP 0 rfl rfl 3 (by decide) (htB _ zk_19b26606) (fun _ h9 => h9) rfl zd_R_accept_52 ?_
        refine lv_if_ne (tgt := 83) hx hb zd_R_accept_55 (by decide) (fun c_55 => ?_) (fun c_55 => ?_)
        · refine lv_aload_n hx hb zd_R_accept_83 rfl (lv_at hl 0 rfl) ?_
          refine lv_aload_n hx hb zd_R_accept_84 rfl (lv_at hl 0 rfl) ?_
          refine va_get (D := (dC, dI)) (ci := 4) (v := .int (((zf_R_stands st p1).2).1)) (C := zr_R) (T := zF_R) (N := 9) hx hb htB zi_R hown hK hP 0 rfl rfl 0 (by decide) (htB _ zk_b8a9b261) (fun _ h9 => h9) rfl zd_R_accept_85 ?_
          refine lv_bipush (v := 8) hx hb zd_R_accept_88 (by decide) ?_
          refine lv_icmp_ne (tgt := 97) hx hb zd_R_accept_90 (by decide) (fun c_ => absurd c_21 c_) (fun _ => ?_)
          refine lv_iconst (v := 3) hx hb zd_R_accept_93 (by decide) ?_
          refine lv_goto (tgt := 103) hx hb zd_R_accept_94 (by decide) ?_
          refine va_put (D := (dC, dI)) (ci := 4) (v := .int 3) (C := zr_R) (T := zF_R) (N := 9) hx hb htB zi_R zT_R zT_R_ok zn_R hown hK hP hD hS 0 rfl rfl 0 (by decide) (htB _ zk_b8a9b261) (fun _ h9 => h9) rfl (zT_R_ok 0 (by decide)) rfl rfl (Nat.le_of_ble_eq_true rfl) zd_R_accept_103 (fun H locs hP hD hS => ?_)
          have hP : va_P (dC, dI) zz_cl (zw_R cI cZ cL a0 (3, ((zf_R_stands st p1).2).2.1, ((zf_R_stands st p1).2).2.2.1, (((zf_R_stands st p1).2).2.2.2.1) - 1, ((zf_R_stands st p1).2).2.2.2.2.1, ((zf_R_stands st p1).2).2.2.2.2.2.1, ((zf_R_stands st p1).2).2.2.2.2.2.2.1, ((zf_R_stands st p1).2).2.2.2.2.2.2.2.1, ((zf_R_stands st p1).2).2.2.2.2.2.2.2.2)) H := hP
          have hD : va_D A (zw_R cI cZ cL a0 (3, ((zf_R_stands st p1).2).2.1, ((zf_R_stands st p1).2).2.2.1, (((zf_R_stands st p1).2).2.2.2.1) - 1, ((zf_R_stands st p1).2).2.2.2.2.1, ((zf_R_stands st p1).2).2.2.2.2.2.1, ((zf_R_stands st p1).2).2.2.2.2.2.2.1, ((zf_R_stands st p1).2).2.2.2.2.2.2.2.1, ((zf_R_stands st p1).2).2.2.2.2.2.2.2.2)) := hD
          refine lv_iconst (v := 0) hx hb zd_R_accept_106 (by decide) ?_
          rw [(show zf_R_accept st p1 = (0, (3, ((zf_R_stands st p1).2).2.1, ((zf_R_stands st p1).2).2.2.1, (((zf_R_stands st p1).2).2.2.2.1) - 1, ((zf_R_stands st p1).2).2.2.2.2.1, ((zf_R_stands st p1).2).2.2.2.2.2.1, ((zf_R_stands st p1).2).2.2.2.2.2.2.1, ((zf_R_stands st p1).2).2.2.2.2.2.2.2.1, ((zf_R_stands st p1).2).2.2.2.2.2.2.2.2)) from by rw [zf_R_accept, if_neg c_5, if_pos c_21, if_pos c_39, if_neg c_55])]
          exact zz_iret hx hb hr hlocks hK hP hD hS zd_R_accept_107 rfl
        · refine lv_aload_n hx hb zd_R_accept_58 rfl (lv_at hl 0 rfl) ?_
          refine lv_dup hx hb zd_R_accept_59 rfl ?_
          refine va_get (D := (dC, dI)) (ci := 4) (v := .int (((zf_R_stands st p1).2).2.2.2.2.2.2.2.1)) (C := zr_R) (T := zF_R) (N := 9) hx hb htB zi_R hown hK hP 0 rfl rfl 7 (by decide) (htB _ zk_e7cbea07) (fun _ h9 => h9) rfl zd_R_accept_60 ?_
          refine lv_iconst (v := 1) hx hb zd_R_accept_63 (by decide) ?_
          refine lv_iadd hx hb zd_R_accept_64 ?_
          refine va_put (D := (dC, dI)) (ci := 4) (v := .int ((((zf_R_stands st p1).2).2.2.2.2.2.2.2.1) + 1)) (C := zr_R) (T := zF_R) (N := 9) hx hb htB zi_R zT_R zT_R_ok zn_R hown hK hP hD hS 0 rfl rfl 7 (by decide) (htB _ zk_e7cbea07) (fun _ h9 => h9) rfl (zT_R_ok 7 (by decide)) rfl rfl (Nat.le_of_ble_eq_true rfl) zd_R_accept_65 (fun H locs hP hD hS => ?_)
          have hP : va_P (dC, dI) zz_cl (zw_R cI cZ cL a0 (((zf_R_stands st p1).2).1, ((zf_R_stands st p1).2).2.1, ((zf_R_stands st p1).2).2.2.1, (((zf_R_stands st p1).2).2.2.2.1) - 1, ((zf_R_stands st p1).2).2.2.2.2.1, ((zf_R_stands st p1).2).2.2.2.2.2.1, ((zf_R_stands st p1).2).2.2.2.2.2.2.1, (((zf_R_stands st p1).2).2.2.2.2.2.2.2.1) + 1, ((zf_R_stands st p1).2).2.2.2.2.2.2.2.2)) H := hP
          have hD : va_D A (zw_R cI cZ cL a0 (((zf_R_stands st p1).2).1, ((zf_R_stands st p1).2).2.1, ((zf_R_stands st p1).2).2.2.1, (((zf_R_stands st p1).2).2.2.2.1) - 1, ((zf_R_stands st p1).2).2.2.2.2.1, ((zf_R_stands st p1).2).2.2.2.2.2.1, ((zf_R_stands st p1).2).2.2.2.2.2.2.1, (((zf_R_stands st p1).2).2.2.2.2.2.2.2.1) + 1, ((zf_R_stands st p1).2).2.2.2.2.2.2.2.2)) := hD
          refine lv_aload_n hx hb zd_R_accept_68 rfl (lv_at hl 0 rfl) ?_
          refine lv_aload_n hx hb zd_R_accept_69 rfl (lv_at hl 0 rfl) ?_
          refine va_get (D := (dC, dI)) (ci := 4) (v := .int (((zf_R_stands st p1).2).2.2.1)) (C := zr_R) (T := zF_R) (N := 9) hx hb htB zi_R hown hK hP 0 rfl rfl 2 (by decide) (htB _ zk_64a6c42c) (fun _ h9 => h9) rfl zd_R_accept_70 ?_
          refine va_put (D := (dC, dI)) (ci := 4) (v := .int (((zf_R_stands st p1).2).2.2.1)) (C := zr_R) (T := zF_R) (N := 9) hx hb htB zi_R zT_R zT_R_ok zn_R hown hK hP hD hS 0 rfl rfl 8 (by decide) (htB _ zk_8c4f15a9) (fun _ h9 => h9) rfl (zT_R_ok 8 (by decide)) rfl rfl (Nat.le_of_ble_eq_true rfl) zd_R_accept_73 (fun H locs hP hD hS => ?_)
          have hP : va_P (dC, dI) zz_cl (zw_R cI cZ cL a0 (((zf_R_stands st p1).2).1, ((zf_R_stands st p1).2).2.1, ((zf_R_stands st p1).2).2.2.1, (((zf_R_stands st p1).2).2.2.2.1) - 1, ((zf_R_stands st p1).2).2.2.2.2.1, ((zf_R_stands st p1).2).2.2.2.2.2.1, ((zf_R_stands st p1).2).2.2.2.2.2.2.1, (((zf_R_stands st p1).2).2.2.2.2.2.2.2.1) + 1, ((zf_R_stands st p1).2).2.2.1)) H := hP
          have hD : va_D A (zw_R cI cZ cL a0 (((zf_R_stands st p1).2).1, ((zf_R_stands st p1).2).2.1, ((zf_R_stands st p1).2).2.2.1, (((zf_R_stands st p1).2).2.2.2.1) - 1, ((zf_R_stands st p1).2).2.2.2.2.1, ((zf_R_stands st p1).2).2.2.2.2.2.1, ((zf_R_stands st p1).2).2.2.2.2.2.2.1, (((zf_R_stands st p1).2).2.2.2.2.2.2.2.1) + 1, ((zf_R_stands st p1).2).2.2.1)) := hD
          refine lv_aload_n hx hb zd_R_accept_76 rfl (lv_at hl 0 rfl) ?_
          refine lv_iconst (v := 0) hx hb zd_R_accept_77 (by decide) ?_
          refine va_put (D := (dC, dI)) (ci := 4) (v := .int 0) (C := zr_R) (T := zF_R) (N := 9) hx hb htB zi_R zT_R zT_R_ok zn_R hown hK hP hD hS 0 rfl rfl 0 (by decide) (htB _ zk_b8a9b261) (fun _ h9 => h9) rfl (zT_R_ok 0 (by decide)) rfl rfl (Nat.le_of_ble_eq_true rfl) zd_R_accept_78 (fun H locs hP hD hS => ?_)
          have hP : va_P (dC, dI) zz_cl (zw_R cI cZ cL a0 (0, ((zf_R_stands st p1).2).2.1, ((zf_R_stands st p1).2).2.2.1, (((zf_R_stands st p1).2).2.2.2.1) - 1, ((zf_R_stands st p1).2).2.2.2.2.1, ((zf_R_stands st p1).2).2.2.2.2.2.1, ((zf_R_stands st p1).2).2.2.2.2.2.2.1, (((zf_R_stands st p1).2).2.2.2.2.2.2.2.1) + 1, ((zf_R_stands st p1).2).2.2.1)) H := hP
          have hD : va_D A (zw_R cI cZ cL a0 (0, ((zf_R_stands st p1).2).2.1, ((zf_R_stands st p1).2).2.2.1, (((zf_R_stands st p1).2).2.2.2.1) - 1, ((zf_R_stands st p1).2).2.2.2.2.1, ((zf_R_stands st p1).2).2.2.2.2.2.1, ((zf_R_stands st p1).2).2.2.2.2.2.2.1, (((zf_R_stands st p1).2).2.2.2.2.2.2.2.1) + 1, ((zf_R_stands st p1).2).2.2.1)) := hD
          refine lv_iconst (v := 1) hx hb zd_R_accept_81 (by decide) ?_
          rw [(show zf_R_accept st p1 = (1, (0, ((zf_R_stands st p1).2).2.1, ((zf_R_stands st p1).2).2.2.1, (((zf_R_stands st p1).2).2.2.2.1) - 1, ((zf_R_stands st p1).2).2.2.2.2.1, ((zf_R_stands st p1).2).2.2.2.2.2.1, ((zf_R_stands st p1).2).2.2.2.2.2.2.1, (((zf_R_stands st p1).2).2.2.2.2.2.2.2.1) + 1, ((zf_R_stands st p1).2).2.2.1)) from by rw [zf_R_accept, if_neg c_5, if_pos c_21, if_pos c_39, if_pos c_55])]
          exact zz_iret hx hb hr hlocks hK hP hD hS zd_R_accept_82 rfl
      · refine lv_aload_n hx hb zd_R_accept_42 rfl (lv_at hl 0 rfl) ?_
        refine va_get (D := (dC, dI)) (ci := 4) (v := .int (((zf_R_stands st p1).2).1)) (C := zr_R) (T := zF_R) (N := 9) hx hb htB zi_R hown hK hP 0 rfl rfl 0 (by decide) (htB _ zk_b8a9b261) (fun _ h9 => h9) rfl zd_R_accept_43 ?_
        refine lv_bipush (v := 8) hx hb zd_R_accept_46 (by decide) ?_
        refine lv_icmp_ne (tgt := 83) hx hb zd_R_accept_48 (by decide) (fun c_ => absurd c_21 c_) (fun _ => ?_)
        refine lv_aload_n hx hb zd_R_accept_51 rfl (lv_at hl 0 rfl) ?_
        refine va_get (D := (dC, dI)) (ci := 4) (v := .int ((((zf_R_stands st p1).2).2.2.2.1) - 1)) (C := zr_R) (T := zF_R) (N := 9) hx hb htB zi_R hown hK hP 0 rfl rfl 3 (by decide) (htB _ zk_19b26606) (fun _ h9 => h9) rfl zd_R_accept_52 ?_
        refine lv_if_ne (tgt := 83) hx hb zd_R_accept_55 (by decide) (fun c_55 => ?_) (fun c_55 => ?_)
        · refine lv_aload_n hx hb zd_R_accept_83 rfl (lv_at hl 0 rfl) ?_
          refine lv_aload_n hx hb zd_R_accept_84 rfl (lv_at hl 0 rfl) ?_
          refine va_get (D := (dC, dI)) (ci := 4) (v := .int (((zf_R_stands st p1).2).1)) (C := zr_R) (T := zF_R) (N := 9) hx hb htB zi_R hown hK hP 0 rfl rfl 0 (by decide) (htB _ zk_b8a9b261) (fun _ h9 => h9) rfl zd_R_accept_85 ?_
          refine lv_bipush (v := 8) hx hb zd_R_accept_88 (by decide) ?_
          refine lv_icmp_ne (tgt := 97) hx hb zd_R_accept_90 (by decide) (fun c_ => absurd c_21 c_) (fun _ => ?_)
          refine lv_iconst (v := 3) hx hb zd_R_accept_93 (by decide) ?_
          refine lv_goto (tgt := 103) hx hb zd_R_accept_94 (by decide) ?_
          refine va_put (D := (dC, dI)) (ci := 4) (v := .int 3) (C := zr_R) (T := zF_R) (N := 9) hx hb htB zi_R zT_R zT_R_ok zn_R hown hK hP hD hS 0 rfl rfl 0 (by decide) (htB _ zk_b8a9b261) (fun _ h9 => h9) rfl (zT_R_ok 0 (by decide)) rfl rfl (Nat.le_of_ble_eq_true rfl) zd_R_accept_103 (fun H locs hP hD hS => ?_)
          have hP : va_P (dC, dI) zz_cl (zw_R cI cZ cL a0 (3, ((zf_R_stands st p1).2).2.1, ((zf_R_stands st p1).2).2.2.1, (((zf_R_stands st p1).2).2.2.2.1) - 1, ((zf_R_stands st p1).2).2.2.2.2.1, ((zf_R_stands st p1).2).2.2.2.2.2.1, ((zf_R_stands st p1).2).2.2.2.2.2.2.1, ((zf_R_stands st p1).2).2.2.2.2.2.2.2.1, ((zf_R_stands st p1).2).2.2.2.2.2.2.2.2)) H := hP
          have hD : va_D A (zw_R cI cZ cL a0 (3, ((zf_R_stands st p1).2).2.1, ((zf_R_stands st p1).2).2.2.1, (((zf_R_stands st p1).2).2.2.2.1) - 1, ((zf_R_stands st p1).2).2.2.2.2.1, ((zf_R_stands st p1).2).2.2.2.2.2.1, ((zf_R_stands st p1).2).2.2.2.2.2.2.1, ((zf_R_stands st p1).2).2.2.2.2.2.2.2.1, ((zf_R_stands st p1).2).2.2.2.2.2.2.2.2)) := hD
          refine lv_iconst (v := 0) hx hb zd_R_accept_106 (by decide) ?_
          rw [(show zf_R_accept st p1 = (0, (3, ((zf_R_stands st p1).2).2.1, ((zf_R_stands st p1).2).2.2.1, (((zf_R_stands st p1).2).2.2.2.1) - 1, ((zf_R_stands st p1).2).2.2.2.2.1, ((zf_R_stands st p1).2).2.2.2.2.2.1, ((zf_R_stands st p1).2).2.2.2.2.2.2.1, ((zf_R_stands st p1).2).2.2.2.2.2.2.2.1, ((zf_R_stands st p1).2).2.2.2.2.2.2.2.2)) from by rw [zf_R_accept, if_neg c_5, if_pos c_21, if_neg c_39, if_neg c_55])]
          exact zz_iret hx hb hr hlocks hK hP hD hS zd_R_accept_107 rfl
        · refine lv_aload_n hx hb zd_R_accept_58 rfl (lv_at hl 0 rfl) ?_
          refine lv_dup hx hb zd_R_accept_59 rfl ?_
          refine va_get (D := (dC, dI)) (ci := 4) (v := .int (((zf_R_stands st p1).2).2.2.2.2.2.2.2.1)) (C := zr_R) (T := zF_R) (N := 9) hx hb htB zi_R hown hK hP 0 rfl rfl 7 (by decide) (htB _ zk_e7cbea07) (fun _ h9 => h9) rfl zd_R_accept_60 ?_
          refine lv_iconst (v := 1) hx hb zd_R_accept_63 (by decide) ?_
          refine lv_iadd hx hb zd_R_accept_64 ?_
          refine va_put (D := (dC, dI)) (ci := 4) (v := .int ((((zf_R_stands st p1).2).2.2.2.2.2.2.2.1) + 1)) (C := zr_R) (T := zF_R) (N := 9) hx hb htB zi_R zT_R zT_R_ok zn_R hown hK hP hD hS 0 rfl rfl 7 (by decide) (htB _ zk_e7cbea07) (fun _ h9 => h9) rfl (zT_R_ok 7 (by decide)) rfl rfl (Nat.le_of_ble_eq_true rfl) zd_R_accept_65 (fun H locs hP hD hS => ?_)
          have hP : va_P (dC, dI) zz_cl (zw_R cI cZ cL a0 (((zf_R_stands st p1).2).1, ((zf_R_stands st p1).2).2.1, ((zf_R_stands st p1).2).2.2.1, (((zf_R_stands st p1).2).2.2.2.1) - 1, ((zf_R_stands st p1).2).2.2.2.2.1, ((zf_R_stands st p1).2).2.2.2.2.2.1, ((zf_R_stands st p1).2).2.2.2.2.2.2.1, (((zf_R_stands st p1).2).2.2.2.2.2.2.2.1) + 1, ((zf_R_stands st p1).2).2.2.2.2.2.2.2.2)) H := hP
          have hD : va_D A (zw_R cI cZ cL a0 (((zf_R_stands st p1).2).1, ((zf_R_stands st p1).2).2.1, ((zf_R_stands st p1).2).2.2.1, (((zf_R_stands st p1).2).2.2.2.1) - 1, ((zf_R_stands st p1).2).2.2.2.2.1, ((zf_R_stands st p1).2).2.2.2.2.2.1, ((zf_R_stands st p1).2).2.2.2.2.2.2.1, (((zf_R_stands st p1).2).2.2.2.2.2.2.2.1) + 1, ((zf_R_stands st p1).2).2.2.2.2.2.2.2.2)) := hD
          refine lv_aload_n hx hb zd_R_accept_68 rfl (lv_at hl 0 rfl) ?_
          refine lv_aload_n hx hb zd_R_accept_69 rfl (lv_at hl 0 rfl) ?_
          refine va_get (D := (dC, dI)) (ci := 4) (v := .int (((zf_R_stands st p1).2).2.2.1)) (C := zr_R) (T := zF_R) (N := 9) hx hb htB zi_R hown hK hP 0 rfl rfl 2 (by decide) (htB _ zk_64a6c42c) (fun _ h9 => h9) rfl zd_R_accept_70 ?_
          refine va_put (D := (dC, dI)) (ci := 4) (v := .int (((zf_R_stands st p1).2).2.2.1)) (C := zr_R) (T := zF_R) (N := 9) hx hb htB zi_R zT_R zT_R_ok zn_R hown hK hP hD hS 0 rfl rfl 8 (by decide) (htB _ zk_8c4f15a9) (fun _ h9 => h9) rfl (zT_R_ok 8 (by decide)) rfl rfl (Nat.le_of_ble_eq_true rfl) zd_R_accept_73 (fun H locs hP hD hS => ?_)
          have hP : va_P (dC, dI) zz_cl (zw_R cI cZ cL a0 (((zf_R_stands st p1).2).1, ((zf_R_stands st p1).2).2.1, ((zf_R_stands st p1).2).2.2.1, (((zf_R_stands st p1).2).2.2.2.1) - 1, ((zf_R_stands st p1).2).2.2.2.2.1, ((zf_R_stands st p1).2).2.2.2.2.2.1, ((zf_R_stands st p1).2).2.2.2.2.2.2.1, (((zf_R_stands st p1).2).2.2.2.2.2.2.2.1) + 1, ((zf_R_stands st p1).2).2.2.1)) H := hP
          have hD : va_D A (zw_R cI cZ cL a0 (((zf_R_stands st p1).2).1, ((zf_R_stands st p1).2).2.1, ((zf_R_stands st p1).2).2.2.1, (((zf_R_stands st p1).2).2.2.2.1) - 1, ((zf_R_stands st p1).2).2.2.2.2.1, ((zf_R_stands st p1).2).2.2.2.2.2.1, ((zf_R_stands st p1).2).2.2.2.2.2.2.1, (((zf_R_stands st p1).2).2.2.2.2.2.2.2.1) + 1, ((zf_R_stands st p1).2).2.2.1)) := hD
          refine lv_aload_n hx hb zd_R_accept_76 rfl (lv_at hl 0 rfl) ?_
          refine lv_iconst (v := 0) hx hb zd_R_accept_77 (by decide) ?_
          refine va_put (D := (dC, dI)) (ci := 4) (v := .int 0) (C := zr_R) (T := zF_R) (N := 9) hx hb htB zi_R zT_R zT_R_ok zn_R hown hK hP hD hS 0 rfl rfl 0 (by decide) (htB _ zk_b8a9b261) (fun _ h9 => h9) rfl (zT_R_ok 0 (by decide)) rfl rfl (Nat.le_of_ble_eq_true rfl) zd_R_accept_78 (fun H locs hP hD hS => ?_)
          have hP : va_P (dC, dI) zz_cl (zw_R cI cZ cL a0 (0, ((zf_R_stands st p1).2).2.1, ((zf_R_stands st p1).2).2.2.1, (((zf_R_stands st p1).2).2.2.2.1) - 1, ((zf_R_stands st p1).2).2.2.2.2.1, ((zf_R_stands st p1).2).2.2.2.2.2.1, ((zf_R_stands st p1).2).2.2.2.2.2.2.1, (((zf_R_stands st p1).2).2.2.2.2.2.2.2.1) + 1, ((zf_R_stands st p1).2).2.2.1)) H := hP
          have hD : va_D A (zw_R cI cZ cL a0 (0, ((zf_R_stands st p1).2).2.1, ((zf_R_stands st p1).2).2.2.1, (((zf_R_stands st p1).2).2.2.2.1) - 1, ((zf_R_stands st p1).2).2.2.2.2.1, ((zf_R_stands st p1).2).2.2.2.2.2.1, ((zf_R_stands st p1).2).2.2.2.2.2.2.1, (((zf_R_stands st p1).2).2.2.2.2.2.2.2.1) + 1, ((zf_R_stands st p1).2).2.2.1)) := hD
          refine lv_iconst (v := 1) hx hb zd_R_accept_81 (by decide) ?_
          rw [(show zf_R_accept st p1 = (1, (0, ((zf_R_stands st p1).2).2.1, ((zf_R_stands st p1).2).2.2.1, (((zf_R_stands st p1).2).2.2.2.1) - 1, ((zf_R_stands st p1).2).2.2.2.2.1, ((zf_R_stands st p1).2).2.2.2.2.2.1, ((zf_R_stands st p1).2).2.2.2.2.2.2.1, (((zf_R_stands st p1).2).2.2.2.2.2.2.2.1) + 1, ((zf_R_stands st p1).2).2.2.1)) from by rw [zf_R_accept, if_neg c_5, if_pos c_21, if_neg c_39, if_pos c_55])]
          exact zz_iret hx hb hr hlocks hK hP hD hS zd_R_accept_82 rfl
  · refine lv_aload_n hx hb zd_R_accept_8 rfl (lv_at hl 0 rfl) ?_
    refine lv_iconst (v := 0) hx hb zd_R_accept_9 (by decide) ?_
    refine va_put (D := (dC, dI)) (ci := 4) (v := .int 0) (C := zr_R) (T := zF_R) (N := 9) hx hb htB zi_R zT_R zT_R_ok zn_R hown hK hP hD hS 0 rfl rfl 0 (by decide) (htB _ zk_b8a9b261) (fun _ h9 => h9) rfl (zT_R_ok 0 (by decide)) rfl rfl (Nat.le_of_ble_eq_true rfl) zd_R_accept_10 (fun H locs hP hD hS => ?_)
    have hP : va_P (dC, dI) zz_cl (zw_R cI cZ cL a0 (0, ((zf_R_stands st p1).2).2.1, ((zf_R_stands st p1).2).2.2.1, ((zf_R_stands st p1).2).2.2.2.1, ((zf_R_stands st p1).2).2.2.2.2.1, ((zf_R_stands st p1).2).2.2.2.2.2.1, ((zf_R_stands st p1).2).2.2.2.2.2.2.1, ((zf_R_stands st p1).2).2.2.2.2.2.2.2.1, ((zf_R_stands st p1).2).2.2.2.2.2.2.2.2)) H := hP
    have hD : va_D A (zw_R cI cZ cL a0 (0, ((zf_R_stands st p1).2).2.1, ((zf_R_stands st p1).2).2.2.1, ((zf_R_stands st p1).2).2.2.2.1, ((zf_R_stands st p1).2).2.2.2.2.1, ((zf_R_stands st p1).2).2.2.2.2.2.1, ((zf_R_stands st p1).2).2.2.2.2.2.2.1, ((zf_R_stands st p1).2).2.2.2.2.2.2.2.1, ((zf_R_stands st p1).2).2.2.2.2.2.2.2.2)) := hD
    refine lv_iconst (v := (-1)) hx hb zd_R_accept_13 (by decide) ?_
    rw [(show zf_R_accept st p1 = ((-1), (0, ((zf_R_stands st p1).2).2.1, ((zf_R_stands st p1).2).2.2.1, ((zf_R_stands st p1).2).2.2.2.1, ((zf_R_stands st p1).2).2.2.2.2.1, ((zf_R_stands st p1).2).2.2.2.2.2.1, ((zf_R_stands st p1).2).2.2.2.2.2.2.1, ((zf_R_stands st p1).2).2.2.2.2.2.2.2.1, ((zf_R_stands st p1).2).2.2.2.2.2.2.2.2)) from by rw [zf_R_accept, if_pos c_5])]
    exact zz_iret hx hb hr hlocks hK hP hD hS zd_R_accept_14 rfl
