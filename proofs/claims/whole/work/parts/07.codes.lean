set_option maxHeartbeats 4000000 in
set_option maxRecDepth 100000 in
theorem zp_C_find_2 {p : Program} {l : Launch} {e : Env} {s : State} {m : MethodId} {below : List Frame} {meth : Method} {c : Code} (dC : Nat → ClassId) (dI : Nat → Nat → Nat) (cI cZ cL : ClassId) (a0 a1 a2 : Nat) (st : zu_C) (p1 : Int32) (hh : st.2.2 ≤ 20) (C0 : zz_C p s m ([.ref a0, .int p1] : List Value).toArray meth c zb_C_find 3 (some .int) zy_C_find.cls) (hK : va_K (dC, dI) zz_cl (zz_ty cI cZ cL) s) (hP : va_P (dC, dI) zz_cl (zw_C cI cZ cL a0 a1 a2 st) s.heap) (hD : va_D (fun _ => True) (zw_C cI cZ cL a0 a1 a2 st)) :
    ∀ (mm k : Nat), k + mm = st.2.2 → ∀ ls : Array Slot, lv_has ls 3 [(0, .ref a0), (1, .int p1), (2, .int (nI k))] →
    W p l e ({ frames := 0, cells := 0, slots := 0, locals := 0 } : Room) s m ([.ref a0, .int p1] : List Value).toArray below meth c s.heap [] 0 0 (MQ below (zz_Ki (zf_C_find_L2 st p1 mm k)) ([.ref a0, .int p1] : List Value).toArray s 0 0 (fun _ => False)) (F0 m 2 ls []) := by
  obtain ⟨hx, hb, hr, hml, hown, htB, hlocks, hE⟩ := id C0
  intro mm
  induction mm with
  | zero =>
    intro k hk  ls hl
    refine lv_iload_n hx hb zd_C_find_2 rfl (lv_at hl 2 rfl) ?_
    refine lv_aload_n hx hb zd_C_find_3 rfl (lv_at hl 0 rfl) ?_
    refine va_get (D := (dC, dI)) (ci := 2) (v := .int (nI st.2.2)) (C := zr_C) (T := zF_C) (N := 3) hx hb htB zi_C hown hK hP 0 rfl rfl 2 (by decide) (htB _ zk_e0fac5f1) (fun _ h9 => h9) rfl zd_C_find_4 ?_
    refine lv_icmp_ge (tgt := 28) hx hb zd_C_find_7 (by decide) (fun _ => ?_) (fun c_ => absurd (zz_geT (b := st.2.2) rfl (by omega) (by omega)) c_)
    refine lv_iconst (v := (-1)) hx hb zd_C_find_28 (by decide) ?_
    rw [(show zf_C_find_L2 st p1 0 k = (-1) from by first | rfl | (rw [zf_C_find_L2]))]
    exact zz_kiret hx hb hr hlocks zd_C_find_29 rfl
  | succ mm ih =>
    intro k hk  ls hl
    refine lv_iload_n hx hb zd_C_find_2 rfl (lv_at hl 2 rfl) ?_
    refine lv_aload_n hx hb zd_C_find_3 rfl (lv_at hl 0 rfl) ?_
    refine va_get (D := (dC, dI)) (ci := 2) (v := .int (nI st.2.2)) (C := zr_C) (T := zF_C) (N := 3) hx hb htB zi_C hown hK hP 0 rfl rfl 2 (by decide) (htB _ zk_e0fac5f1) (fun _ h9 => h9) rfl zd_C_find_4 ?_
    refine lv_icmp_ge (tgt := 28) hx hb zd_C_find_7 (by decide) (fun c_ => absurd c_ (zz_geF (b := st.2.2) rfl (by omega) (by omega))) (fun _ => ?_)
    refine lv_aload_n hx hb zd_C_find_10 rfl (lv_at hl 0 rfl) ?_
    refine va_get (D := (dC, dI)) (ci := 2) (v := .ref a1) (C := zr_C) (T := zF_C) (N := 3) hx hb htB zi_C hown hK hP 0 rfl rfl 0 (by decide) (htB _ zk_a8e5cdbb) (fun _ h9 => h9) rfl zd_C_find_11 ?_
    refine lv_iload_n hx hb zd_C_find_14 rfl (lv_at hl 2 rfl) ?_
    refine zz_iald hx hb hK hP 1 0 rfl rfl (by omega) (by decide) zd_C_find_15 ?_
    refine lv_iload_n hx hb zd_C_find_16 rfl (lv_at hl 1 rfl) ?_
    refine lv_icmp_ne (tgt := 22) hx hb zd_C_find_17 (by decide) (fun c_17 => ?_) (fun c_17 => ?_)
    · refine lv_iinc (v := nI (k + 1)) (lv' := [(2, .int (nI (k + 1))), (0, .ref a0), (1, .int p1)]) hx hb zd_C_find_22 hl (k := 2) rfl (nI_1 k) (by decide) rfl (fun ls hl => ?_)
      refine lv_goto (tgt := 2) hx hb zd_C_find_25 (by decide) ?_
      rw [(show zf_C_find_L2 st p1 (mm + 1) k = zf_C_find_L2 st p1 mm (k + 1) from by rw [zf_C_find_L2, if_neg c_17])]
      exact ih (k + 1) (by omega)   _ (lv_sub hl [1, 2, 0] rfl)
    · refine lv_iload_n hx hb zd_C_find_20 rfl (lv_at hl 2 rfl) ?_
      rw [(show zf_C_find_L2 st p1 (mm + 1) k = nI k from by rw [zf_C_find_L2, if_pos c_17])]
      exact zz_kiret hx hb hr hlocks zd_C_find_21 rfl
set_option maxHeartbeats 4000000 in
set_option maxRecDepth 100000 in
theorem zc_C_find (l : Launch) (dC : Nat → ClassId) (dI : Nat → Nat → Nat) (cI cZ cL : ClassId) (a0 a1 a2 : Nat) (sz : Nat) (st : zu_C) (p1 : Int32) (hh : st.2.2 ≤ 20) : Met l zy_C_find (zz_ws zy_C_find zb_C_find 3 (some .int)) ({ frames := 0, cells := 0, slots := 0, locals := 0 } : Room) (va_Pc ([.ref a0, .int p1] : List Value) (zz_P (dC, dI) (zz_ty cI cZ cL) sz (zw_C cI cZ cL a0 a1 a2 st))) (zz_Ki (zf_C_find st p1)) 0 0 (fun _ => False) := by
  refine zz_ofK (by decide) (Nat.le_of_ble_eq_true rfl) ?_
  intro p e s m below meth c C0 hK hP hD ls hl
  obtain ⟨hx, hb, hr, hml, hown, htB, hlocks, hE⟩ := id C0
  have hl : lv_has ls 3 [(0, .ref a0), (1, .int p1)] := hl
  refine lv_iconst (v := 0) hx hb zd_C_find_0 (by decide) ?_
  refine lv_istore_n (lv' := [(2, .int 0), (0, .ref a0), (1, .int p1)]) hx hb zd_C_find_1 rfl hl (by decide) rfl (fun ls hl => ?_)
  rw [(show zf_C_find st p1 = zf_C_find_L2 st p1 st.2.2 0 from by first | rfl | (rw [zf_C_find]))]
  exact zp_C_find_2 dC dI cI cZ cL a0 a1 a2 st p1 hh C0 hK hP hD st.2.2 0 (Nat.zero_add _)   _ (lv_sub hl [1, 2, 0] rfl)
set_option maxHeartbeats 4000000 in
set_option maxRecDepth 100000 in
theorem zc_C_tell (l : Launch) (dC : Nat → ClassId) (dI : Nat → Nat → Nat) (cI cZ cL : ClassId) (a0 a1 a2 : Nat) (sz : Nat) (st : zu_C) (p1 : Int32) (p2 : Int32) (hh : st.2.2 ≤ 20) : Met l zy_C_tell (zz_ws zy_C_tell zb_C_tell 4 (some .boolean)) ({ frames := 1, cells := 0, slots := 0, locals := 22 } : Room) (va_Pc ([.ref a0, .int p1, .int p2] : List Value) (zz_P (dC, dI) (zz_ty cI cZ cL) sz (zw_C cI cZ cL a0 a1 a2 st))) (zz_Qi (dC, dI) (zz_ty cI cZ cL) (va_A (zw_C cI cZ cL a0 a1 a2 st) sz) ((zf_C_tell st p1 p2).1) (zw_C cI cZ cL a0 a1 a2 ((zf_C_tell st p1 p2).2))) 0 0 (va_A (zw_C cI cZ cL a0 a1 a2 st) sz) := by
  refine zz_ofW (Q := fun A => (zz_Qi (dC, dI) (zz_ty cI cZ cL) A ((zf_C_tell st p1 p2).1) (zw_C cI cZ cL a0 a1 a2 ((zf_C_tell st p1 p2).2)))) (by decide) (Nat.le_of_ble_eq_true rfl) ?_
  intro p e s m below meth c A C0 _ hA hK hP hD _ ls hl
  obtain ⟨hx, hb, hr, hml, hown, htB, hlocks, hE⟩ := id C0
  have hS : va_S A s.heap s.heap [] := va_S.rf
  have hl : lv_has ls 4 [(0, .ref a0), (1, .int p1), (2, .int p2)] := hl
  refine lv_aload_n hx hb zd_C_tell_0 rfl (lv_at hl 0 rfl) ?_
  refine lv_iload_n hx hb zd_C_tell_1 rfl (lv_at hl 1 rfl) ?_
  refine zz_ki (va_runV (As := [.int p1]) (rest := []) ⟨hx, hb, hml, hown, htB⟩ (zc_C_find l dC dI cI cZ cL a0 a1 a2 s.heap.size st p1 hh) (cwV 1 htB (zz_gV zk_6aa25b7b zk_c68528a2 zk_cb222ee4 zk_e143c677 zk_09d76f48) rfl rfl rfl ⟨rfl, zh_C_find⟩ ⟨Nat.le_of_ble_eq_true rfl, Nat.le_of_ble_eq_true rfl⟩) (zz_preV (ci := 2) (q := (zr_C, zF_C, 3)) hP hD hK hE [0, 1, 2] (by decide) rfl rfl rfl) rfl rfl hl.1 rfl (lv_room (Nat.le_of_ble_eq_true rfl)) zd_C_tell_2 ⟨Nat.le_of_ble_eq_true rfl, Nat.le_of_ble_eq_true rfl⟩) ?_
  refine lv_istore_n (lv' := [(3, .int (zf_C_find st p1)), (0, .ref a0), (1, .int p1), (2, .int p2)]) hx hb zd_C_tell_5 rfl hl (by decide) rfl (fun ls hl => ?_)
  refine lv_iload_n hx hb zd_C_tell_6 rfl (lv_at hl 0 rfl) ?_
  refine lv_iconst (v := (-1)) hx hb zd_C_tell_7 (by decide) ?_
  refine lv_icmp_ne (tgt := 44) hx hb zd_C_tell_8 (by decide) (fun c_8 => ?_) (fun c_8 => ?_)
  · refine lv_aload_n hx hb zd_C_tell_44 rfl (lv_at hl 1 rfl) ?_
    refine va_get (D := (dC, dI)) (ci := 2) (v := .ref a2) (C := zr_C) (T := zF_C) (N := 3) hx hb htB zi_C hown hK hP 0 rfl rfl 1 (by decide) (htB _ zk_ca3ffb47) (fun _ h9 => h9) rfl zd_C_tell_45 ?_
    refine lv_iload_n hx hb zd_C_tell_48 rfl (lv_at hl 0 rfl) ?_
    refine lv_iload_n hx hb zd_C_tell_49 rfl (lv_at hl 3 rfl) ?_
    refine va_iast hx hb hK hP hD hS 2 0 rfl rfl (zx_cfind hh c_8) zd_C_tell_50 (fun H locs hP hD hS => ?_)
    have hP : va_P (dC, dI) zz_cl (zw_C cI cZ cL a0 a1 a2 (st.1, (upd st.2.1 (zf_C_find st p1).toNatClampNeg p2), st.2.2)) H := hP
    have hD : va_D A (zw_C cI cZ cL a0 a1 a2 (st.1, (upd st.2.1 (zf_C_find st p1).toNatClampNeg p2), st.2.2)) := hD
    refine lv_iconst (v := 1) hx hb zd_C_tell_51 (by decide) ?_
    rw [(show zf_C_tell st p1 p2 = (1, (st.1, (upd st.2.1 (zf_C_find st p1).toNatClampNeg p2), st.2.2)) from by rw [zf_C_tell, if_neg c_8])]
    exact zz_zret hx hb hr hlocks narrow_b1 hK hP hD hS zd_C_tell_52 rfl
  · refine lv_aload_n hx hb zd_C_tell_11 rfl (lv_at hl 1 rfl) ?_
    refine va_get (D := (dC, dI)) (ci := 2) (v := .int (nI st.2.2)) (C := zr_C) (T := zF_C) (N := 3) hx hb htB zi_C hown hK hP 0 rfl rfl 2 (by decide) (htB _ zk_e0fac5f1) (fun _ h9 => h9) rfl zd_C_tell_12 ?_
    refine lv_bipush (v := 20) hx hb zd_C_tell_15 (by decide) ?_
    refine lv_icmp_lt (tgt := 22) hx hb zd_C_tell_17 (by decide) (fun c_17 => ?_) (fun c_17 => ?_)
    · refine lv_aload_n hx hb zd_C_tell_22 rfl (lv_at hl 1 rfl) ?_
      refine va_get (D := (dC, dI)) (ci := 2) (v := .int (nI st.2.2)) (C := zr_C) (T := zF_C) (N := 3) hx hb htB zi_C hown hK hP 0 rfl rfl 2 (by decide) (htB _ zk_e0fac5f1) (fun _ h9 => h9) rfl zd_C_tell_23 ?_
      refine lv_istore_n (lv' := [(3, .int (nI st.2.2)), (0, .ref a0), (1, .int p1), (2, .int p2)]) hx hb zd_C_tell_26 rfl hl (by decide) rfl (fun ls hl => ?_)
      refine lv_aload_n hx hb zd_C_tell_27 rfl (lv_at hl 1 rfl) ?_
      refine lv_dup hx hb zd_C_tell_28 rfl ?_
      refine va_get (D := (dC, dI)) (ci := 2) (v := .int (nI st.2.2)) (C := zr_C) (T := zF_C) (N := 3) hx hb htB zi_C hown hK hP 0 rfl rfl 2 (by decide) (htB _ zk_e0fac5f1) (fun _ h9 => h9) rfl zd_C_tell_29 ?_
      refine lv_iconst (v := 1) hx hb zd_C_tell_32 (by decide) ?_
      refine lv_iadd hx hb zd_C_tell_33 ?_
      rw [nI_1 st.2.2]
      refine va_put (D := (dC, dI)) (ci := 2) (v := .int (nI (st.2.2 + 1))) (C := zr_C) (T := zF_C) (N := 3) hx hb htB zi_C zT_C zT_C_ok zn_C hown hK hP hD hS 0 rfl rfl 2 (by decide) (htB _ zk_e0fac5f1) (fun _ h9 => h9) rfl (zT_C_ok 2 (by decide)) rfl rfl (Nat.le_of_ble_eq_true rfl) zd_C_tell_34 (fun H locs hP hD hS => ?_)
      have hP : va_P (dC, dI) zz_cl (zw_C cI cZ cL a0 a1 a2 (st.1, st.2.1, (st.2.2 + 1))) H := hP
      have hD : va_D A (zw_C cI cZ cL a0 a1 a2 (st.1, st.2.1, (st.2.2 + 1))) := hD
      refine lv_aload_n hx hb zd_C_tell_37 rfl (lv_at hl 1 rfl) ?_
      refine va_get (D := (dC, dI)) (ci := 2) (v := .ref a1) (C := zr_C) (T := zF_C) (N := 3) hx hb htB zi_C hown hK hP 0 rfl rfl 0 (by decide) (htB _ zk_a8e5cdbb) (fun _ h9 => h9) rfl zd_C_tell_38 ?_
      refine lv_iload_n hx hb zd_C_tell_41 rfl (lv_at hl 0 rfl) ?_
      refine lv_iload_n hx hb zd_C_tell_42 rfl (lv_at hl 2 rfl) ?_
      refine zz_iast hx hb hK hP hD hS 1 0 rfl rfl (zx_h20 hh c_17) (by decide) zd_C_tell_43 (fun H locs hP hD hS => ?_)
      have hP : va_P (dC, dI) zz_cl (zw_C cI cZ cL a0 a1 a2 ((upd st.1 st.2.2 p1), st.2.1, (st.2.2 + 1))) H := hP
      have hD : va_D A (zw_C cI cZ cL a0 a1 a2 ((upd st.1 st.2.2 p1), st.2.1, (st.2.2 + 1))) := hD
      refine lv_aload_n hx hb zd_C_tell_44 rfl (lv_at hl 1 rfl) ?_
      refine va_get (D := (dC, dI)) (ci := 2) (v := .ref a2) (C := zr_C) (T := zF_C) (N := 3) hx hb htB zi_C hown hK hP 0 rfl rfl 1 (by decide) (htB _ zk_ca3ffb47) (fun _ h9 => h9) rfl zd_C_tell_45 ?_
      refine lv_iload_n hx hb zd_C_tell_48 rfl (lv_at hl 0 rfl) ?_
      refine lv_iload_n hx hb zd_C_tell_49 rfl (lv_at hl 3 rfl) ?_
      refine zz_iast hx hb hK hP hD hS 2 0 rfl rfl (zx_h20 hh c_17) (by decide) zd_C_tell_50 (fun H locs hP hD hS => ?_)
      have hP : va_P (dC, dI) zz_cl (zw_C cI cZ cL a0 a1 a2 ((upd st.1 st.2.2 p1), (upd st.2.1 st.2.2 p2), (st.2.2 + 1))) H := hP
      have hD : va_D A (zw_C cI cZ cL a0 a1 a2 ((upd st.1 st.2.2 p1), (upd st.2.1 st.2.2 p2), (st.2.2 + 1))) := hD
      refine lv_iconst (v := 1) hx hb zd_C_tell_51 (by decide) ?_
      rw [(show zf_C_tell st p1 p2 = (1, ((upd st.1 st.2.2 p1), (upd st.2.1 st.2.2 p2), (st.2.2 + 1))) from by rw [zf_C_tell, if_pos c_8, if_pos c_17])]
      exact zz_zret hx hb hr hlocks narrow_b1 hK hP hD hS zd_C_tell_52 rfl
    · refine lv_iconst (v := 0) hx hb zd_C_tell_20 (by decide) ?_
      rw [(show zf_C_tell st p1 p2 = (0, st) from by rw [zf_C_tell, if_pos c_8, if_neg c_17])]
      exact zz_zret hx hb hr hlocks narrow_b0 hK hP hD hS zd_C_tell_21 rfl
set_option maxHeartbeats 4000000 in
set_option maxRecDepth 100000 in
theorem zc_C_isGood (l : Launch) (dC : Nat → ClassId) (dI : Nat → Nat → Nat) (cI cZ cL : ClassId) (a0 a1 a2 : Nat) (sz : Nat) (st : zu_C) (p1 : Int32) (p2 : Int32) (hh : st.2.2 ≤ 20) : Met l zy_C_isGood (zz_ws zy_C_isGood zb_C_isGood 4 (some .boolean)) ({ frames := 1, cells := 0, slots := 0, locals := 22 } : Room) (va_Pc ([.ref a0, .int p1, .int p2] : List Value) (zz_P (dC, dI) (zz_ty cI cZ cL) sz (zw_C cI cZ cL a0 a1 a2 st))) (zz_Ki (zf_C_isGood st p1 p2)) 0 0 (fun _ => False) := by
  refine zz_ofK (by decide) (Nat.le_of_ble_eq_true rfl) ?_
  intro p e s m below meth c C0 hK hP hD ls hl
  obtain ⟨hx, hb, hr, hml, hown, htB, hlocks, hE⟩ := id C0
  have hl : lv_has ls 4 [(0, .ref a0), (1, .int p1), (2, .int p2)] := hl
  refine lv_aload_n hx hb zd_C_isGood_0 rfl (lv_at hl 0 rfl) ?_
  refine lv_iload_n hx hb zd_C_isGood_1 rfl (lv_at hl 1 rfl) ?_
  refine zz_ki (va_runV (As := [.int p1]) (rest := []) ⟨hx, hb, hml, hown, htB⟩ (zc_C_find l dC dI cI cZ cL a0 a1 a2 s.heap.size st p1 hh) (cwV 1 htB (zz_gV zk_6aa25b7b zk_c68528a2 zk_cb222ee4 zk_e143c677 zk_09d76f48) rfl rfl rfl ⟨rfl, zh_C_find⟩ ⟨Nat.le_of_ble_eq_true rfl, Nat.le_of_ble_eq_true rfl⟩) (zz_preV (ci := 2) (q := (zr_C, zF_C, 3)) hP hD hK hE [0, 1, 2] (by decide) rfl rfl rfl) rfl rfl hl.1 rfl (lv_room (Nat.le_of_ble_eq_true rfl)) zd_C_isGood_2 ⟨Nat.le_of_ble_eq_true rfl, Nat.le_of_ble_eq_true rfl⟩) ?_
  refine lv_istore_n (lv' := [(3, .int (zf_C_find st p1)), (0, .ref a0), (1, .int p1), (2, .int p2)]) hx hb zd_C_isGood_5 rfl hl (by decide) rfl (fun ls hl => ?_)
  refine lv_iload_n hx hb zd_C_isGood_6 rfl (lv_at hl 0 rfl) ?_
  refine lv_iconst (v := (-1)) hx hb zd_C_isGood_7 (by decide) ?_
  refine lv_icmp_eq (tgt := 25) hx hb zd_C_isGood_8 (by decide) (fun c_8 => ?_) (fun c_8 => ?_)
  · refine lv_iconst (v := 0) hx hb zd_C_isGood_25 (by decide) ?_
    rw [(show zf_C_isGood st p1 p2 = 0 from by rw [zf_C_isGood, if_pos c_8])]
    exact zz_kzret hx hb hr hlocks narrow_b0 zd_C_isGood_26 rfl
  · refine lv_aload_n hx hb zd_C_isGood_11 rfl (lv_at hl 1 rfl) ?_
    refine va_get (D := (dC, dI)) (ci := 2) (v := .ref a2) (C := zr_C) (T := zF_C) (N := 3) hx hb htB zi_C hown hK hP 0 rfl rfl 1 (by decide) (htB _ zk_ca3ffb47) (fun _ h9 => h9) rfl zd_C_isGood_12 ?_
    refine lv_iload_n hx hb zd_C_isGood_15 rfl (lv_at hl 0 rfl) ?_
    refine va_iald hx hb hK hP 2 0 rfl rfl (zx_cfind hh c_8) zd_C_isGood_16 ?_
    refine lv_iload_n hx hb zd_C_isGood_17 rfl (lv_at hl 3 rfl) ?_
    refine lv_icmp_lt (tgt := 25) hx hb zd_C_isGood_18 (by decide) (fun c_18 => ?_) (fun c_18 => ?_)
    · refine lv_iconst (v := 0) hx hb zd_C_isGood_25 (by decide) ?_
      rw [(show zf_C_isGood st p1 p2 = 0 from by rw [zf_C_isGood, if_neg c_8, if_pos c_18])]
      exact zz_kzret hx hb hr hlocks narrow_b0 zd_C_isGood_26 rfl
    · refine lv_iconst (v := 1) hx hb zd_C_isGood_21 (by decide) ?_
      refine lv_goto (tgt := 26) hx hb zd_C_isGood_22 (by decide) ?_
      rw [(show zf_C_isGood st p1 p2 = 1 from by rw [zf_C_isGood, if_neg c_8, if_neg c_18])]
      exact zz_kzret hx hb hr hlocks narrow_b1 zd_C_isGood_26 rfl
set_option maxHeartbeats 4000000 in
set_option maxRecDepth 100000 in
theorem zp_C_goodCount_4 {p : Program} {l : Launch} {e : Env} {s : State} {m : MethodId} {below : List Frame} {meth : Method} {c : Code} (dC : Nat → ClassId) (dI : Nat → Nat → Nat) (cI cZ cL : ClassId) (a0 a1 a2 : Nat) (st : zu_C) (p1 : Int32) (hh : st.2.2 ≤ 20) (C0 : zz_C p s m ([.ref a0, .int p1] : List Value).toArray meth c zb_C_goodCount 4 (some .int) zy_C_goodCount.cls) (hK : va_K (dC, dI) zz_cl (zz_ty cI cZ cL) s) (hP : va_P (dC, dI) zz_cl (zw_C cI cZ cL a0 a1 a2 st) s.heap) (hD : va_D (fun _ => True) (zw_C cI cZ cL a0 a1 a2 st)) :
    ∀ (mm k : Nat), k + mm = st.2.2 → ∀ (x2 : Int32), ∀ ls : Array Slot, lv_has ls 4 [(0, .ref a0), (1, .int p1), (2, .int x2), (3, .int (nI k))] →
    W p l e ({ frames := 0, cells := 0, slots := 0, locals := 0 } : Room) s m ([.ref a0, .int p1] : List Value).toArray below meth c s.heap [] 0 0 (MQ below (zz_Ki (zf_C_goodCount_L4 st p1 mm k x2)) ([.ref a0, .int p1] : List Value).toArray s 0 0 (fun _ => False)) (F0 m 4 ls []) := by
  obtain ⟨hx, hb, hr, hml, hown, htB, hlocks, hE⟩ := id C0
  intro mm
  induction mm with
  | zero =>
    intro k hk x2 ls hl
    refine lv_iload_n hx hb zd_C_goodCount_4 rfl (lv_at hl 3 rfl) ?_
    refine lv_aload_n hx hb zd_C_goodCount_5 rfl (lv_at hl 0 rfl) ?_
    refine va_get (D := (dC, dI)) (ci := 2) (v := .int (nI st.2.2)) (C := zr_C) (T := zF_C) (N := 3) hx hb htB zi_C hown hK hP 0 rfl rfl 2 (by decide) (htB _ zk_e0fac5f1) (fun _ h9 => h9) rfl zd_C_goodCount_6 ?_
    refine lv_icmp_ge (tgt := 31) hx hb zd_C_goodCount_9 (by decide) (fun _ => ?_) (fun c_ => absurd (zz_geT (b := st.2.2) rfl (by omega) (by omega)) c_)
    refine lv_iload_n hx hb zd_C_goodCount_31 rfl (lv_at hl 2 rfl) ?_
    rw [(show zf_C_goodCount_L4 st p1 0 k x2 = x2 from by first | rfl | (rw [zf_C_goodCount_L4]))]
    exact zz_kiret hx hb hr hlocks zd_C_goodCount_32 rfl
  | succ mm ih =>
    intro k hk x2 ls hl
    refine lv_iload_n hx hb zd_C_goodCount_4 rfl (lv_at hl 3 rfl) ?_
    refine lv_aload_n hx hb zd_C_goodCount_5 rfl (lv_at hl 0 rfl) ?_
    refine va_get (D := (dC, dI)) (ci := 2) (v := .int (nI st.2.2)) (C := zr_C) (T := zF_C) (N := 3) hx hb htB zi_C hown hK hP 0 rfl rfl 2 (by decide) (htB _ zk_e0fac5f1) (fun _ h9 => h9) rfl zd_C_goodCount_6 ?_
    refine lv_icmp_ge (tgt := 31) hx hb zd_C_goodCount_9 (by decide) (fun c_ => absurd c_ (zz_geF (b := st.2.2) rfl (by omega) (by omega))) (fun _ => ?_)
    refine lv_aload_n hx hb zd_C_goodCount_12 rfl (lv_at hl 0 rfl) ?_
    refine va_get (D := (dC, dI)) (ci := 2) (v := .ref a2) (C := zr_C) (T := zF_C) (N := 3) hx hb htB zi_C hown hK hP 0 rfl rfl 1 (by decide) (htB _ zk_ca3ffb47) (fun _ h9 => h9) rfl zd_C_goodCount_13 ?_
    refine lv_iload_n hx hb zd_C_goodCount_16 rfl (lv_at hl 3 rfl) ?_
    refine zz_iald hx hb hK hP 2 0 rfl rfl (by omega) (by decide) zd_C_goodCount_17 ?_
    refine lv_iload_n hx hb zd_C_goodCount_18 rfl (lv_at hl 1 rfl) ?_
    refine lv_icmp_lt (tgt := 25) hx hb zd_C_goodCount_19 (by decide) (fun c_19 => ?_) (fun c_19 => ?_)
    · refine lv_iinc (v := nI (k + 1)) (lv' := [(3, .int (nI (k + 1))), (0, .ref a0), (1, .int p1), (2, .int x2)]) hx hb zd_C_goodCount_25 hl (k := 3) rfl (nI_1 k) (by decide) rfl (fun ls hl => ?_)
      refine lv_goto (tgt := 4) hx hb zd_C_goodCount_28 (by decide) ?_
      rw [(show zf_C_goodCount_L4 st p1 (mm + 1) k x2 = zf_C_goodCount_L4 st p1 mm (k + 1) x2 from by rw [zf_C_goodCount_L4, if_pos c_19])]
      exact ih (k + 1) (by omega) x2  _ (lv_sub hl [1, 2, 3, 0] rfl)
    · refine lv_iinc (v := x2 + 1) (lv' := [(2, .int (x2 + 1)), (0, .ref a0), (1, .int p1), (3, .int (nI k))]) hx hb zd_C_goodCount_22 hl (k := 2) rfl rfl (by decide) rfl (fun ls hl => ?_)
      refine lv_iinc (v := nI (k + 1)) (lv' := [(3, .int (nI (k + 1))), (2, .int (x2 + 1)), (0, .ref a0), (1, .int p1)]) hx hb zd_C_goodCount_25 hl (k := 3) rfl (nI_1 k) (by decide) rfl (fun ls hl => ?_)
      refine lv_goto (tgt := 4) hx hb zd_C_goodCount_28 (by decide) ?_
      rw [(show zf_C_goodCount_L4 st p1 (mm + 1) k x2 = zf_C_goodCount_L4 st p1 mm (k + 1) (x2 + 1) from by rw [zf_C_goodCount_L4, if_neg c_19])]
      exact ih (k + 1) (by omega) (x2 + 1)  _ (lv_sub hl [2, 3, 1, 0] rfl)
set_option maxHeartbeats 4000000 in
set_option maxRecDepth 100000 in
theorem zc_C_goodCount (l : Launch) (dC : Nat → ClassId) (dI : Nat → Nat → Nat) (cI cZ cL : ClassId) (a0 a1 a2 : Nat) (sz : Nat) (st : zu_C) (p1 : Int32) (hh : st.2.2 ≤ 20) : Met l zy_C_goodCount (zz_ws zy_C_goodCount zb_C_goodCount 4 (some .int)) ({ frames := 0, cells := 0, slots := 0, locals := 0 } : Room) (va_Pc ([.ref a0, .int p1] : List Value) (zz_P (dC, dI) (zz_ty cI cZ cL) sz (zw_C cI cZ cL a0 a1 a2 st))) (zz_Ki (zf_C_goodCount st p1)) 0 0 (fun _ => False) := by
  refine zz_ofK (by decide) (Nat.le_of_ble_eq_true rfl) ?_
  intro p e s m below meth c C0 hK hP hD ls hl
  obtain ⟨hx, hb, hr, hml, hown, htB, hlocks, hE⟩ := id C0
  have hl : lv_has ls 4 [(0, .ref a0), (1, .int p1)] := hl
  refine lv_iconst (v := 0) hx hb zd_C_goodCount_0 (by decide) ?_
  refine lv_istore_n (lv' := [(2, .int 0), (0, .ref a0), (1, .int p1)]) hx hb zd_C_goodCount_1 rfl hl (by decide) rfl (fun ls hl => ?_)
  refine lv_iconst (v := 0) hx hb zd_C_goodCount_2 (by decide) ?_
  refine lv_istore_n (lv' := [(3, .int 0), (2, .int 0), (0, .ref a0), (1, .int p1)]) hx hb zd_C_goodCount_3 rfl hl (by decide) rfl (fun ls hl => ?_)
  rw [(show zf_C_goodCount st p1 = zf_C_goodCount_L4 st p1 st.2.2 0 0 from by first | rfl | (rw [zf_C_goodCount]))]
  exact zp_C_goodCount_4 dC dI cI cZ cL a0 a1 a2 st p1 hh C0 hK hP hD st.2.2 0 (Nat.zero_add _) 0  _ (lv_sub hl [2, 3, 1, 0] rfl)
set_option maxHeartbeats 4000000 in
set_option maxRecDepth 100000 in
theorem zc_P_size (l : Launch) (dC : Nat → ClassId) (dI : Nat → Nat → Nat) (cI cZ cL : ClassId) (a0 a1 a2 a3 : Nat) (sz : Nat) (st : zu_P)  : Met l zy_P_size (zz_ws zy_P_size zb_P_size 1 (some .int)) ({ frames := 0, cells := 0, slots := 0, locals := 0 } : Room) (va_Pc ([.ref a0] : List Value) (zz_P (dC, dI) (zz_ty cI cZ cL) sz (zw_P cI cZ cL a0 a1 a2 a3 st))) (zz_Ki (zf_P_size st)) 0 0 (fun _ => False) := by
  refine zz_ofK (by decide) (Nat.le_of_ble_eq_true rfl) ?_
  intro p e s m below meth c C0 hK hP hD ls hl
  obtain ⟨hx, hb, hr, hml, hown, htB, hlocks, hE⟩ := id C0
  have hl : lv_has ls 1 [(0, .ref a0)] := hl
  refine lv_aload_n hx hb zd_P_size_0 rfl (lv_at hl 0 rfl) ?_
  refine va_get (D := (dC, dI)) (ci := 3) (v := .int (nI st.2.2.2)) (C := zr_P) (T := zF_P) (N := 4) hx hb htB zi_P hown hK hP 0 rfl rfl 3 (by decide) (htB _ zk_3b4f7965) (fun _ h9 => h9) rfl zd_P_size_1 ?_
  rw [(show zf_P_size st = nI st.2.2.2 from by first | rfl | (rw [zf_P_size]))]
  exact zz_kiret hx hb hr hlocks zd_P_size_4 rfl
set_option maxHeartbeats 4000000 in
set_option maxRecDepth 100000 in
theorem zp_P_find_2 {p : Program} {l : Launch} {e : Env} {s : State} {m : MethodId} {below : List Frame} {meth : Method} {c : Code} (dC : Nat → ClassId) (dI : Nat → Nat → Nat) (cI cZ cL : ClassId) (a0 a1 a2 a3 : Nat) (st : zu_P) (p1 : Int32) (hh : st.2.2.2 ≤ 20) (C0 : zz_C p s m ([.ref a0, .int p1] : List Value).toArray meth c zb_P_find 3 (some .int) zy_P_find.cls) (hK : va_K (dC, dI) zz_cl (zz_ty cI cZ cL) s) (hP : va_P (dC, dI) zz_cl (zw_P cI cZ cL a0 a1 a2 a3 st) s.heap) (hD : va_D (fun _ => True) (zw_P cI cZ cL a0 a1 a2 a3 st)) :
    ∀ (mm k : Nat), k + mm = st.2.2.2 → ∀ ls : Array Slot, lv_has ls 3 [(0, .ref a0), (1, .int p1), (2, .int (nI k))] →
    W p l e ({ frames := 0, cells := 0, slots := 0, locals := 0 } : Room) s m ([.ref a0, .int p1] : List Value).toArray below meth c s.heap [] 0 0 (MQ below (zz_Ki (zf_P_find_L2 st p1 mm k)) ([.ref a0, .int p1] : List Value).toArray s 0 0 (fun _ => False)) (F0 m 2 ls []) := by
  obtain ⟨hx, hb, hr, hml, hown, htB, hlocks, hE⟩ := id C0
  intro mm
  induction mm with
  | zero =>
    intro k hk  ls hl
    refine lv_iload_n hx hb zd_P_find_2 rfl (lv_at hl 2 rfl) ?_
    refine lv_aload_n hx hb zd_P_find_3 rfl (lv_at hl 0 rfl) ?_
    refine va_get (D := (dC, dI)) (ci := 3) (v := .int (nI st.2.2.2)) (C := zr_P) (T := zF_P) (N := 4) hx hb htB zi_P hown hK hP 0 rfl rfl 3 (by decide) (htB _ zk_3b4f7965) (fun _ h9 => h9) rfl zd_P_find_4 ?_
    refine lv_icmp_ge (tgt := 28) hx hb zd_P_find_7 (by decide) (fun _ => ?_) (fun c_ => absurd (zz_geT (b := st.2.2.2) rfl (by omega) (by omega)) c_)
    refine lv_iconst (v := (-1)) hx hb zd_P_find_28 (by decide) ?_
    rw [(show zf_P_find_L2 st p1 0 k = (-1) from by first | rfl | (rw [zf_P_find_L2]))]
    exact zz_kiret hx hb hr hlocks zd_P_find_29 rfl
  | succ mm ih =>
    intro k hk  ls hl
    refine lv_iload_n hx hb zd_P_find_2 rfl (lv_at hl 2 rfl) ?_
    refine lv_aload_n hx hb zd_P_find_3 rfl (lv_at hl 0 rfl) ?_
    refine va_get (D := (dC, dI)) (ci := 3) (v := .int (nI st.2.2.2)) (C := zr_P) (T := zF_P) (N := 4) hx hb htB zi_P hown hK hP 0 rfl rfl 3 (by decide) (htB _ zk_3b4f7965) (fun _ h9 => h9) rfl zd_P_find_4 ?_
    refine lv_icmp_ge (tgt := 28) hx hb zd_P_find_7 (by decide) (fun c_ => absurd c_ (zz_geF (b := st.2.2.2) rfl (by omega) (by omega))) (fun _ => ?_)
    refine lv_aload_n hx hb zd_P_find_10 rfl (lv_at hl 0 rfl) ?_
    refine va_get (D := (dC, dI)) (ci := 3) (v := .ref a1) (C := zr_P) (T := zF_P) (N := 4) hx hb htB zi_P hown hK hP 0 rfl rfl 0 (by decide) (htB _ zk_9516c5fd) (fun _ h9 => h9) rfl zd_P_find_11 ?_
    refine lv_iload_n hx hb zd_P_find_14 rfl (lv_at hl 2 rfl) ?_
    refine zz_iald hx hb hK hP 1 0 rfl rfl (by omega) (by decide) zd_P_find_15 ?_
    refine lv_iload_n hx hb zd_P_find_16 rfl (lv_at hl 1 rfl) ?_
    refine lv_icmp_ne (tgt := 22) hx hb zd_P_find_17 (by decide) (fun c_17 => ?_) (fun c_17 => ?_)
    · refine lv_iinc (v := nI (k + 1)) (lv' := [(2, .int (nI (k + 1))), (0, .ref a0), (1, .int p1)]) hx hb zd_P_find_22 hl (k := 2) rfl (nI_1 k) (by decide) rfl (fun ls hl => ?_)
      refine lv_goto (tgt := 2) hx hb zd_P_find_25 (by decide) ?_
      rw [(show zf_P_find_L2 st p1 (mm + 1) k = zf_P_find_L2 st p1 mm (k + 1) from by rw [zf_P_find_L2, if_neg c_17])]
      exact ih (k + 1) (by omega)   _ (lv_sub hl [1, 2, 0] rfl)
    · refine lv_iload_n hx hb zd_P_find_20 rfl (lv_at hl 2 rfl) ?_
      rw [(show zf_P_find_L2 st p1 (mm + 1) k = nI k from by rw [zf_P_find_L2, if_pos c_17])]
      exact zz_kiret hx hb hr hlocks zd_P_find_21 rfl
set_option maxHeartbeats 4000000 in
set_option maxRecDepth 100000 in
theorem zc_P_find (l : Launch) (dC : Nat → ClassId) (dI : Nat → Nat → Nat) (cI cZ cL : ClassId) (a0 a1 a2 a3 : Nat) (sz : Nat) (st : zu_P) (p1 : Int32) (hh : st.2.2.2 ≤ 20) : Met l zy_P_find (zz_ws zy_P_find zb_P_find 3 (some .int)) ({ frames := 0, cells := 0, slots := 0, locals := 0 } : Room) (va_Pc ([.ref a0, .int p1] : List Value) (zz_P (dC, dI) (zz_ty cI cZ cL) sz (zw_P cI cZ cL a0 a1 a2 a3 st))) (zz_Ki (zf_P_find st p1)) 0 0 (fun _ => False) := by
  refine zz_ofK (by decide) (Nat.le_of_ble_eq_true rfl) ?_
  intro p e s m below meth c C0 hK hP hD ls hl
  obtain ⟨hx, hb, hr, hml, hown, htB, hlocks, hE⟩ := id C0
  have hl : lv_has ls 3 [(0, .ref a0), (1, .int p1)] := hl
  refine lv_iconst (v := 0) hx hb zd_P_find_0 (by decide) ?_
  refine lv_istore_n (lv' := [(2, .int 0), (0, .ref a0), (1, .int p1)]) hx hb zd_P_find_1 rfl hl (by decide) rfl (fun ls hl => ?_)
  rw [(show zf_P_find st p1 = zf_P_find_L2 st p1 st.2.2.2 0 from by first | rfl | (rw [zf_P_find]))]
  exact zp_P_find_2 dC dI cI cZ cL a0 a1 a2 a3 st p1 hh C0 hK hP hD st.2.2.2 0 (Nat.zero_add _)   _ (lv_sub hl [1, 2, 0] rfl)
set_option maxHeartbeats 4000000 in
set_option maxRecDepth 100000 in
theorem zc_P_register (l : Launch) (dC : Nat → ClassId) (dI : Nat → Nat → Nat) (cI cZ cL : ClassId) (a0 a1 a2 a3 : Nat) (sz : Nat) (st : zu_P) (p1 : Int32) (p2 : Int32) (hh : st.2.2.2 ≤ 20) : Met l zy_P_register (zz_ws zy_P_register zb_P_register 3 (some .boolean)) ({ frames := 1, cells := 0, slots := 0, locals := 22 } : Room) (va_Pc ([.ref a0, .int p1, .int p2] : List Value) (zz_P (dC, dI) (zz_ty cI cZ cL) sz (zw_P cI cZ cL a0 a1 a2 a3 st))) (zz_Qi (dC, dI) (zz_ty cI cZ cL) (va_A (zw_P cI cZ cL a0 a1 a2 a3 st) sz) ((zf_P_register st p1 p2).1) (zw_P cI cZ cL a0 a1 a2 a3 ((zf_P_register st p1 p2).2))) 0 0 (va_A (zw_P cI cZ cL a0 a1 a2 a3 st) sz) := by
  refine zz_ofW (Q := fun A => (zz_Qi (dC, dI) (zz_ty cI cZ cL) A ((zf_P_register st p1 p2).1) (zw_P cI cZ cL a0 a1 a2 a3 ((zf_P_register st p1 p2).2)))) (by decide) (Nat.le_of_ble_eq_true rfl) ?_
  intro p e s m below meth c A C0 _ hA hK hP hD _ ls hl
  obtain ⟨hx, hb, hr, hml, hown, htB, hlocks, hE⟩ := id C0
  have hS : va_S A s.heap s.heap [] := va_S.rf
  have hl : lv_has ls 3 [(0, .ref a0), (1, .int p1), (2, .int p2)] := hl
  refine lv_aload_n hx hb zd_P_register_0 rfl (lv_at hl 0 rfl) ?_
  refine va_get (D := (dC, dI)) (ci := 3) (v := .int (nI st.2.2.2)) (C := zr_P) (T := zF_P) (N := 4) hx hb htB zi_P hown hK hP 0 rfl rfl 3 (by decide) (htB _ zk_3b4f7965) (fun _ h9 => h9) rfl zd_P_register_1 ?_
  refine lv_bipush (v := 20) hx hb zd_P_register_4 (by decide) ?_
  refine lv_icmp_ge (tgt := 18) hx hb zd_P_register_6 (by decide) (fun c_6 => ?_) (fun c_6 => ?_)
  · refine lv_iconst (v := 0) hx hb zd_P_register_18 (by decide) ?_
    rw [(show zf_P_register st p1 p2 = (0, st) from by rw [zf_P_register, if_pos c_6])]
    exact zz_zret hx hb hr hlocks narrow_b0 hK hP hD hS zd_P_register_19 rfl
  · refine lv_aload_n hx hb zd_P_register_9 rfl (lv_at hl 0 rfl) ?_
    refine lv_iload_n hx hb zd_P_register_10 rfl (lv_at hl 1 rfl) ?_
    refine zz_ki (va_runV (As := [.int p1]) (rest := []) ⟨hx, hb, hml, hown, htB⟩ (zc_P_find l dC dI cI cZ cL a0 a1 a2 a3 s.heap.size st p1 hh) (cwV 1 htB (zz_gV zk_ae2cc950 zk_260dcf75 zk_9eb9dfdc zk_f301a5bc zk_94b92128) rfl rfl rfl ⟨rfl, zh_P_find⟩ ⟨Nat.le_of_ble_eq_true rfl, Nat.le_of_ble_eq_true rfl⟩) (zz_preV (ci := 3) (q := (zr_P, zF_P, 4)) hP hD hK hE [0, 1, 2, 3] (by decide) rfl rfl rfl) rfl rfl hl.1 rfl (lv_room (Nat.le_of_ble_eq_true rfl)) zd_P_register_11 ⟨Nat.le_of_ble_eq_true rfl, Nat.le_of_ble_eq_true rfl⟩) ?_
    refine lv_iconst (v := (-1)) hx hb zd_P_register_14 (by decide) ?_
    refine lv_icmp_eq (tgt := 20) hx hb zd_P_register_15 (by decide) (fun c_15 => ?_) (fun c_15 => ?_)
    · refine lv_aload_n hx hb zd_P_register_20 rfl (lv_at hl 0 rfl) ?_
      refine va_get (D := (dC, dI)) (ci := 3) (v := .ref a1) (C := zr_P) (T := zF_P) (N := 4) hx hb htB zi_P hown hK hP 0 rfl rfl 0 (by decide) (htB _ zk_9516c5fd) (fun _ h9 => h9) rfl zd_P_register_21 ?_
      refine lv_aload_n hx hb zd_P_register_24 rfl (lv_at hl 0 rfl) ?_
      refine va_get (D := (dC, dI)) (ci := 3) (v := .int (nI st.2.2.2)) (C := zr_P) (T := zF_P) (N := 4) hx hb htB zi_P hown hK hP 0 rfl rfl 3 (by decide) (htB _ zk_3b4f7965) (fun _ h9 => h9) rfl zd_P_register_25 ?_
      refine lv_iload_n hx hb zd_P_register_28 rfl (lv_at hl 1 rfl) ?_
      refine zz_iast hx hb hK hP hD hS 1 0 rfl rfl (zx_h20n hh c_6) (by decide) zd_P_register_29 (fun H locs hP hD hS => ?_)
      have hP : va_P (dC, dI) zz_cl (zw_P cI cZ cL a0 a1 a2 a3 ((upd st.1 st.2.2.2 p1), st.2.1, st.2.2.1, st.2.2.2)) H := hP
      have hD : va_D A (zw_P cI cZ cL a0 a1 a2 a3 ((upd st.1 st.2.2.2 p1), st.2.1, st.2.2.1, st.2.2.2)) := hD
      refine lv_aload_n hx hb zd_P_register_30 rfl (lv_at hl 0 rfl) ?_
      refine va_get (D := (dC, dI)) (ci := 3) (v := .ref a2) (C := zr_P) (T := zF_P) (N := 4) hx hb htB zi_P hown hK hP 0 rfl rfl 1 (by decide) (htB _ zk_39cf8cfd) (fun _ h9 => h9) rfl zd_P_register_31 ?_
      refine lv_aload_n hx hb zd_P_register_34 rfl (lv_at hl 0 rfl) ?_
      refine va_get (D := (dC, dI)) (ci := 3) (v := .int (nI st.2.2.2)) (C := zr_P) (T := zF_P) (N := 4) hx hb htB zi_P hown hK hP 0 rfl rfl 3 (by decide) (htB _ zk_3b4f7965) (fun _ h9 => h9) rfl zd_P_register_35 ?_
      refine lv_iload_n hx hb zd_P_register_38 rfl (lv_at hl 2 rfl) ?_
      refine zz_iast hx hb hK hP hD hS 2 0 rfl rfl (zx_h20n hh c_6) (by decide) zd_P_register_39 (fun H locs hP hD hS => ?_)
      have hP : va_P (dC, dI) zz_cl (zw_P cI cZ cL a0 a1 a2 a3 ((upd st.1 st.2.2.2 p1), (upd st.2.1 st.2.2.2 p2), st.2.2.1, st.2.2.2)) H := hP
      have hD : va_D A (zw_P cI cZ cL a0 a1 a2 a3 ((upd st.1 st.2.2.2 p1), (upd st.2.1 st.2.2.2 p2), st.2.2.1, st.2.2.2)) := hD
      refine lv_aload_n hx hb zd_P_register_40 rfl (lv_at hl 0 rfl) ?_
      refine lv_dup hx hb zd_P_register_41 rfl ?_
      refine va_get (D := (dC, dI)) (ci := 3) (v := .int (nI st.2.2.2)) (C := zr_P) (T := zF_P) (N := 4) hx hb htB zi_P hown hK hP 0 rfl rfl 3 (by decide) (htB _ zk_3b4f7965) (fun _ h9 => h9) rfl zd_P_register_42 ?_
      refine lv_iconst (v := 1) hx hb zd_P_register_45 (by decide) ?_
      refine lv_iadd hx hb zd_P_register_46 ?_
      rw [nI_1 st.2.2.2]
      refine va_put (D := (dC, dI)) (ci := 3) (v := .int (nI (st.2.2.2 + 1))) (C := zr_P) (T := zF_P) (N := 4) hx hb htB zi_P zT_P zT_P_ok zn_P hown hK hP hD hS 0 rfl rfl 3 (by decide) (htB _ zk_3b4f7965) (fun _ h9 => h9) rfl (zT_P_ok 3 (by decide)) rfl rfl (Nat.le_of_ble_eq_true rfl) zd_P_register_47 (fun H locs hP hD hS => ?_)
      have hP : va_P (dC, dI) zz_cl (zw_P cI cZ cL a0 a1 a2 a3 ((upd st.1 st.2.2.2 p1), (upd st.2.1 st.2.2.2 p2), st.2.2.1, (st.2.2.2 + 1))) H := hP
      have hD : va_D A (zw_P cI cZ cL a0 a1 a2 a3 ((upd st.1 st.2.2.2 p1), (upd st.2.1 st.2.2.2 p2), st.2.2.1, (st.2.2.2 + 1))) := hD
      refine lv_iconst (v := 1) hx hb zd_P_register_50 (by decide) ?_
      rw [(show zf_P_register st p1 p2 = (1, ((upd st.1 st.2.2.2 p1), (upd st.2.1 st.2.2.2 p2), st.2.2.1, (st.2.2.2 + 1))) from by rw [zf_P_register, if_neg c_6, if_pos c_15])]
      exact zz_zret hx hb hr hlocks narrow_b1 hK hP hD hS zd_P_register_51 rfl
    · refine lv_iconst (v := 0) hx hb zd_P_register_18 (by decide) ?_
      rw [(show zf_P_register st p1 p2 = (0, st) from by rw [zf_P_register, if_neg c_6, if_neg c_15])]
      exact zz_zret hx hb hr hlocks narrow_b0 hK hP hD hS zd_P_register_19 rfl
set_option maxHeartbeats 4000000 in
set_option maxRecDepth 100000 in
theorem zc_P_balanceOf (l : Launch) (dC : Nat → ClassId) (dI : Nat → Nat → Nat) (cI cZ cL : ClassId) (a0 a1 a2 a3 : Nat) (sz : Nat) (st : zu_P) (p1 : Int32) (hh : st.2.2.2 ≤ 20) : Met l zy_P_balanceOf (zz_ws zy_P_balanceOf zb_P_balanceOf 3 (some .int)) ({ frames := 1, cells := 0, slots := 0, locals := 22 } : Room) (va_Pc ([.ref a0, .int p1] : List Value) (zz_P (dC, dI) (zz_ty cI cZ cL) sz (zw_P cI cZ cL a0 a1 a2 a3 st))) (zz_Ki (zf_P_balanceOf st p1)) 0 0 (fun _ => False) := by
  refine zz_ofK (by decide) (Nat.le_of_ble_eq_true rfl) ?_
  intro p e s m below meth c C0 hK hP hD ls hl
  obtain ⟨hx, hb, hr, hml, hown, htB, hlocks, hE⟩ := id C0
  have hl : lv_has ls 3 [(0, .ref a0), (1, .int p1)] := hl
  refine lv_aload_n hx hb zd_P_balanceOf_0 rfl (lv_at hl 0 rfl) ?_
  refine lv_iload_n hx hb zd_P_balanceOf_1 rfl (lv_at hl 1 rfl) ?_
  refine zz_ki (va_runV (As := [.int p1]) (rest := []) ⟨hx, hb, hml, hown, htB⟩ (zc_P_find l dC dI cI cZ cL a0 a1 a2 a3 s.heap.size st p1 hh) (cwV 1 htB (zz_gV zk_ae2cc950 zk_260dcf75 zk_9eb9dfdc zk_f301a5bc zk_94b92128) rfl rfl rfl ⟨rfl, zh_P_find⟩ ⟨Nat.le_of_ble_eq_true rfl, Nat.le_of_ble_eq_true rfl⟩) (zz_preV (ci := 3) (q := (zr_P, zF_P, 4)) hP hD hK hE [0, 1, 2, 3] (by decide) rfl rfl rfl) rfl rfl hl.1 rfl (lv_room (Nat.le_of_ble_eq_true rfl)) zd_P_balanceOf_2 ⟨Nat.le_of_ble_eq_true rfl, Nat.le_of_ble_eq_true rfl⟩) ?_
  refine lv_istore_n (lv' := [(2, .int (zf_P_find st p1)), (0, .ref a0), (1, .int p1)]) hx hb zd_P_balanceOf_5 rfl hl (by decide) rfl (fun ls hl => ?_)
  refine lv_iload_n hx hb zd_P_balanceOf_6 rfl (lv_at hl 0 rfl) ?_
  refine lv_iconst (v := (-1)) hx hb zd_P_balanceOf_7 (by decide) ?_
  refine lv_icmp_ne (tgt := 15) hx hb zd_P_balanceOf_8 (by decide) (fun c_8 => ?_) (fun c_8 => ?_)
  · refine lv_aload_n hx hb zd_P_balanceOf_15 rfl (lv_at hl 1 rfl) ?_
    refine va_get (D := (dC, dI)) (ci := 3) (v := .ref a2) (C := zr_P) (T := zF_P) (N := 4) hx hb htB zi_P hown hK hP 0 rfl rfl 1 (by decide) (htB _ zk_39cf8cfd) (fun _ h9 => h9) rfl zd_P_balanceOf_16 ?_
    refine lv_iload_n hx hb zd_P_balanceOf_19 rfl (lv_at hl 0 rfl) ?_
    refine va_iald hx hb hK hP 2 0 rfl rfl (zx_pfind hh c_8) zd_P_balanceOf_20 ?_
    rw [(show zf_P_balanceOf st p1 = st.2.1 (zf_P_find st p1).toNatClampNeg from by rw [zf_P_balanceOf, if_neg c_8])]
    exact zz_kiret hx hb hr hlocks zd_P_balanceOf_21 rfl
  · refine lv_iconst (v := (-1)) hx hb zd_P_balanceOf_11 (by decide) ?_
    refine lv_goto (tgt := 21) hx hb zd_P_balanceOf_12 (by decide) ?_
    rw [(show zf_P_balanceOf st p1 = (-1) from by rw [zf_P_balanceOf, if_pos c_8])]
    exact zz_kiret hx hb hr hlocks zd_P_balanceOf_21 rfl
set_option maxHeartbeats 4000000 in
set_option maxRecDepth 100000 in
theorem zc_P_take (l : Launch) (dC : Nat → ClassId) (dI : Nat → Nat → Nat) (cI cZ cL : ClassId) (a0 a1 a2 a3 : Nat) (sz : Nat) (st : zu_P) (p1 : Int32) (p2 : Int32) (p3 : Int32) (hh : st.2.2.2 ≤ 20) : Met l zy_P_take (zz_ws zy_P_take zb_P_take 4 (some .int)) ({ frames := 0, cells := 0, slots := 0, locals := 0 } : Room) (va_Pc ([.ref a0, .int p1, .int p2, .int p3] : List Value) (zz_P (dC, dI) (zz_ty cI cZ cL) sz (zw_P cI cZ cL a0 a1 a2 a3 st))) (zz_Qi (dC, dI) (zz_ty cI cZ cL) (va_A (zw_P cI cZ cL a0 a1 a2 a3 st) sz) ((zf_P_take st p1 p2 p3).1) (zw_P cI cZ cL a0 a1 a2 a3 ((zf_P_take st p1 p2 p3).2))) 0 0 (va_A (zw_P cI cZ cL a0 a1 a2 a3 st) sz) := by
  refine zz_ofW (Q := fun A => (zz_Qi (dC, dI) (zz_ty cI cZ cL) A ((zf_P_take st p1 p2 p3).1) (zw_P cI cZ cL a0 a1 a2 a3 ((zf_P_take st p1 p2 p3).2)))) (by decide) (Nat.le_of_ble_eq_true rfl) ?_
  intro p e s m below meth c A C0 _ hA hK hP hD _ ls hl
  obtain ⟨hx, hb, hr, hml, hown, htB, hlocks, hE⟩ := id C0
  have hS : va_S A s.heap s.heap [] := va_S.rf
  have hl : lv_has ls 4 [(0, .ref a0), (1, .int p1), (2, .int p2), (3, .int p3)] := hl
  refine lv_iload_n hx hb zd_P_take_0 rfl (lv_at hl 1 rfl) ?_
  refine lv_if_lt (tgt := 32) hx hb zd_P_take_1 (by decide) (fun c_1 => ?_) (fun c_1 => ?_)
  · refine lv_iconst (v := (-1)) hx hb zd_P_take_32 (by decide) ?_
    rw [(show zf_P_take st p1 p2 p3 = ((-1), st) from by rw [zf_P_take, if_pos c_1])]
    exact zz_iret hx hb hr hlocks hK hP hD hS zd_P_take_33 rfl
  · refine lv_iload_n hx hb zd_P_take_4 rfl (lv_at hl 1 rfl) ?_
    refine lv_bipush (v := 30) hx hb zd_P_take_5 (by decide) ?_
    refine lv_icmp_gt (tgt := 32) hx hb zd_P_take_7 (by decide) (fun c_7 => ?_) (fun c_7 => ?_)
    · refine lv_iconst (v := (-1)) hx hb zd_P_take_32 (by decide) ?_
      rw [(show zf_P_take st p1 p2 p3 = ((-1), st) from by rw [zf_P_take, if_neg c_1, if_pos c_7])]
      exact zz_iret hx hb hr hlocks hK hP hD hS zd_P_take_33 rfl
    · refine lv_iload_n hx hb zd_P_take_10 rfl (lv_at hl 2 rfl) ?_
      refine lv_if_lt (tgt := 32) hx hb zd_P_take_11 (by decide) (fun c_11 => ?_) (fun c_11 => ?_)
      · refine lv_iconst (v := (-1)) hx hb zd_P_take_32 (by decide) ?_
        rw [(show zf_P_take st p1 p2 p3 = ((-1), st) from by rw [zf_P_take, if_neg c_1, if_neg c_7, if_pos c_11])]
        exact zz_iret hx hb hr hlocks hK hP hD hS zd_P_take_33 rfl
      · refine lv_iload_n hx hb zd_P_take_14 rfl (lv_at hl 2 rfl) ?_
        refine lv_aload_n hx hb zd_P_take_15 rfl (lv_at hl 0 rfl) ?_
        refine va_get (D := (dC, dI)) (ci := 3) (v := .int (nI st.2.2.2)) (C := zr_P) (T := zF_P) (N := 4) hx hb htB zi_P hown hK hP 0 rfl rfl 3 (by decide) (htB _ zk_3b4f7965) (fun _ h9 => h9) rfl zd_P_take_16 ?_
        refine lv_icmp_ge (tgt := 32) hx hb zd_P_take_19 (by decide) (fun c_19 => ?_) (fun c_19 => ?_)
        · refine lv_iconst (v := (-1)) hx hb zd_P_take_32 (by decide) ?_
          rw [(show zf_P_take st p1 p2 p3 = ((-1), st) from by rw [zf_P_take, if_neg c_1, if_neg c_7, if_neg c_11, if_pos c_19])]
          exact zz_iret hx hb hr hlocks hK hP hD hS zd_P_take_33 rfl
        · refine lv_aload_n hx hb zd_P_take_22 rfl (lv_at hl 0 rfl) ?_
          refine va_get (D := (dC, dI)) (ci := 3) (v := .ref a2) (C := zr_P) (T := zF_P) (N := 4) hx hb htB zi_P hown hK hP 0 rfl rfl 1 (by decide) (htB _ zk_39cf8cfd) (fun _ h9 => h9) rfl zd_P_take_23 ?_
          refine lv_iload_n hx hb zd_P_take_26 rfl (lv_at hl 2 rfl) ?_
          refine va_iald hx hb hK hP 2 0 rfl rfl (zx_at hh c_11 c_19) zd_P_take_27 ?_
          refine lv_iload_n hx hb zd_P_take_28 rfl (lv_at hl 3 rfl) ?_
          refine lv_icmp_ge (tgt := 34) hx hb zd_P_take_29 (by decide) (fun c_29 => ?_) (fun c_29 => ?_)
          · refine lv_aload_n hx hb zd_P_take_34 rfl (lv_at hl 0 rfl) ?_
            refine va_get (D := (dC, dI)) (ci := 3) (v := .ref a2) (C := zr_P) (T := zF_P) (N := 4) hx hb htB zi_P hown hK hP 0 rfl rfl 1 (by decide) (htB _ zk_39cf8cfd) (fun _ h9 => h9) rfl zd_P_take_35 ?_
            refine lv_iload_n hx hb zd_P_take_38 rfl (lv_at hl 2 rfl) ?_
            refine lv_dup2_11 hx hb zd_P_take_39 rfl rfl ?_
            refine va_iald hx hb hK hP 2 0 rfl rfl (zx_at hh c_11 c_19) zd_P_take_40 ?_
            refine lv_iload_n hx hb zd_P_take_41 rfl (lv_at hl 3 rfl) ?_
            refine lv_isub hx hb zd_P_take_42 ?_
            refine va_iast hx hb hK hP hD hS 2 0 rfl rfl (zx_at hh c_11 c_19) zd_P_take_43 (fun H locs hP hD hS => ?_)
            have hP : va_P (dC, dI) zz_cl (zw_P cI cZ cL a0 a1 a2 a3 (st.1, (upd st.2.1 p2.toNatClampNeg ((st.2.1 p2.toNatClampNeg) - p3)), st.2.2.1, st.2.2.2)) H := hP
            have hD : va_D A (zw_P cI cZ cL a0 a1 a2 a3 (st.1, (upd st.2.1 p2.toNatClampNeg ((st.2.1 p2.toNatClampNeg) - p3)), st.2.2.1, st.2.2.2)) := hD
            refine lv_aload_n hx hb zd_P_take_44 rfl (lv_at hl 0 rfl) ?_
            refine va_get (D := (dC, dI)) (ci := 3) (v := .ref a3) (C := zr_P) (T := zF_P) (N := 4) hx hb htB zi_P hown hK hP 0 rfl rfl 2 (by decide) (htB _ zk_7cfd8f23) (fun _ h9 => h9) rfl zd_P_take_45 ?_
            refine lv_iload_n hx hb zd_P_take_48 rfl (lv_at hl 1 rfl) ?_
            refine lv_bipush (v := 20) hx hb zd_P_take_49 (by decide) ?_
            refine lv_imul hx hb zd_P_take_51 ?_
            refine lv_iload_n hx hb zd_P_take_52 rfl (lv_at hl 2 rfl) ?_
            refine lv_iadd hx hb zd_P_take_53 ?_
            refine lv_dup2_11 hx hb zd_P_take_54 rfl rfl ?_
            refine va_iald hx hb hK hP 3 0 rfl rfl (zx_dr hh c_1 c_7 c_11 c_19) zd_P_take_55 ?_
            refine lv_iload_n hx hb zd_P_take_56 rfl (lv_at hl 3 rfl) ?_
            refine lv_iadd hx hb zd_P_take_57 ?_
            refine va_iast hx hb hK hP hD hS 3 0 rfl rfl (zx_dr hh c_1 c_7 c_11 c_19) zd_P_take_58 (fun H locs hP hD hS => ?_)
            have hP : va_P (dC, dI) zz_cl (zw_P cI cZ cL a0 a1 a2 a3 (st.1, (upd st.2.1 p2.toNatClampNeg ((st.2.1 p2.toNatClampNeg) - p3)), (upd st.2.2.1 ((p1 * 20) + p2).toNatClampNeg ((st.2.2.1 ((p1 * 20) + p2).toNatClampNeg) + p3)), st.2.2.2)) H := hP
            have hD : va_D A (zw_P cI cZ cL a0 a1 a2 a3 (st.1, (upd st.2.1 p2.toNatClampNeg ((st.2.1 p2.toNatClampNeg) - p3)), (upd st.2.2.1 ((p1 * 20) + p2).toNatClampNeg ((st.2.2.1 ((p1 * 20) + p2).toNatClampNeg) + p3)), st.2.2.2)) := hD
            refine lv_aload_n hx hb zd_P_take_59 rfl (lv_at hl 0 rfl) ?_
            refine va_get (D := (dC, dI)) (ci := 3) (v := .ref a2) (C := zr_P) (T := zF_P) (N := 4) hx hb htB zi_P hown hK hP 0 rfl rfl 1 (by decide) (htB _ zk_39cf8cfd) (fun _ h9 => h9) rfl zd_P_take_60 ?_
            refine lv_iload_n hx hb zd_P_take_63 rfl (lv_at hl 2 rfl) ?_
            refine va_iald hx hb hK hP 2 0 rfl rfl (zx_at hh c_11 c_19) zd_P_take_64 ?_
            rw [(show zf_P_take st p1 p2 p3 = ((upd st.2.1 p2.toNatClampNeg ((st.2.1 p2.toNatClampNeg) - p3)) p2.toNatClampNeg, (st.1, (upd st.2.1 p2.toNatClampNeg ((st.2.1 p2.toNatClampNeg) - p3)), (upd st.2.2.1 ((p1 * 20) + p2).toNatClampNeg ((st.2.2.1 ((p1 * 20) + p2).toNatClampNeg) + p3)), st.2.2.2)) from by rw [zf_P_take, if_neg c_1, if_neg c_7, if_neg c_11, if_neg c_19, if_pos c_29])]
            exact zz_iret hx hb hr hlocks hK hP hD hS zd_P_take_65 rfl
          · refine lv_iconst (v := (-1)) hx hb zd_P_take_32 (by decide) ?_
            rw [(show zf_P_take st p1 p2 p3 = ((-1), st) from by rw [zf_P_take, if_neg c_1, if_neg c_7, if_neg c_11, if_neg c_19, if_neg c_29])]
            exact zz_iret hx hb hr hlocks hK hP hD hS zd_P_take_33 rfl
set_option maxHeartbeats 4000000 in
set_option maxRecDepth 100000 in
theorem zp_P_giveBack_13 {p : Program} {l : Launch} {e : Env} {s : State} {m : MethodId} {below : List Frame} {meth : Method} {c : Code} {A : Nat → Prop} (dC : Nat → ClassId) (dI : Nat → Nat → Nat) (cI cZ cL : ClassId) (a0 a1 a2 a3 : Nat) (p1 : Int32) (c_1 : ¬ p1 < 0) (c_7 : p1 ≤ 30) (C0 : zz_C p s m ([.ref a0, .int p1] : List Value).toArray meth c zb_P_giveBack 3 (none) zy_P_giveBack.cls) (hA : ∀ q : Nat, s.heap.size ≤ q → A q) (hK : va_K (dC, dI) zz_cl (zz_ty cI cZ cL) s) :
    ∀ (mm k : Nat) (st : zu_P) (hh : st.2.2.2 ≤ 20), k + mm = st.2.2.2 → ∀ (H : Heap) (locs : List Loc), va_P (dC, dI) zz_cl (zw_P cI cZ cL a0 a1 a2 a3 st) H → va_D A (zw_P cI cZ cL a0 a1 a2 a3 st) → va_S A s.heap H locs → ∀ ls : Array Slot, lv_has ls 3 [(0, .ref a0), (1, .int p1), (2, .int (nI k))] →
    W p l e ({ frames := 0, cells := 0, slots := 0, locals := 0 } : Room) s m ([.ref a0, .int p1] : List Value).toArray below meth c H locs 0 0 (MQ below (zz_Qv (dC, dI) (zz_ty cI cZ cL) A (zw_P cI cZ cL a0 a1 a2 a3 (zf_P_giveBack_L13 p1 mm k st))) ([.ref a0, .int p1] : List Value).toArray s 0 0 A) (F0 m 13 ls []) := by
  obtain ⟨hx, hb, hr, hml, hown, htB, hlocks, hE⟩ := id C0
  intro mm
  induction mm with
  | zero =>
    intro k st hh hk H locs hP hD hS ls hl
    refine lv_iload_n hx hb zd_P_giveBack_13 rfl (lv_at hl 2 rfl) ?_
    refine lv_aload_n hx hb zd_P_giveBack_14 rfl (lv_at hl 0 rfl) ?_
    refine va_get (D := (dC, dI)) (ci := 3) (v := .int (nI st.2.2.2)) (C := zr_P) (T := zF_P) (N := 4) hx hb htB zi_P hown hK hP 0 rfl rfl 3 (by decide) (htB _ zk_3b4f7965) (fun _ h9 => h9) rfl zd_P_giveBack_15 ?_
    refine lv_icmp_ge (tgt := 47) hx hb zd_P_giveBack_18 (by decide) (fun _ => ?_) (fun c_ => absurd (zz_geT (b := st.2.2.2) rfl (by omega) (by omega)) c_)
    rw [(show zf_P_giveBack_L13 p1 0 k st = st from by first | rfl | (rw [zf_P_giveBack_L13]))]
    exact zz_vret hx hb hr hlocks hK hP hD hS zd_P_giveBack_47
  | succ mm ih =>
    intro k st hh hk H locs hP hD hS ls hl
    refine lv_iload_n hx hb zd_P_giveBack_13 rfl (lv_at hl 2 rfl) ?_
    refine lv_aload_n hx hb zd_P_giveBack_14 rfl (lv_at hl 0 rfl) ?_
    refine va_get (D := (dC, dI)) (ci := 3) (v := .int (nI st.2.2.2)) (C := zr_P) (T := zF_P) (N := 4) hx hb htB zi_P hown hK hP 0 rfl rfl 3 (by decide) (htB _ zk_3b4f7965) (fun _ h9 => h9) rfl zd_P_giveBack_15 ?_
    refine lv_icmp_ge (tgt := 47) hx hb zd_P_giveBack_18 (by decide) (fun c_ => absurd c_ (zz_geF (b := st.2.2.2) rfl (by omega) (by omega))) (fun _ => ?_)
    refine lv_aload_n hx hb zd_P_giveBack_21 rfl (lv_at hl 0 rfl) ?_
    refine va_get (D := (dC, dI)) (ci := 3) (v := .ref a2) (C := zr_P) (T := zF_P) (N := 4) hx hb htB zi_P hown hK hP 0 rfl rfl 1 (by decide) (htB _ zk_39cf8cfd) (fun _ h9 => h9) rfl zd_P_giveBack_22 ?_
    refine lv_iload_n hx hb zd_P_giveBack_25 rfl (lv_at hl 2 rfl) ?_
    refine lv_dup2_11 hx hb zd_P_giveBack_26 rfl rfl ?_
    refine zz_iald hx hb hK hP 2 0 rfl rfl (by omega) (by decide) zd_P_giveBack_27 ?_
    refine lv_aload_n hx hb zd_P_giveBack_28 rfl (lv_at hl 0 rfl) ?_
    refine va_get (D := (dC, dI)) (ci := 3) (v := .ref a3) (C := zr_P) (T := zF_P) (N := 4) hx hb htB zi_P hown hK hP 0 rfl rfl 2 (by decide) (htB _ zk_7cfd8f23) (fun _ h9 => h9) rfl zd_P_giveBack_29 ?_
    refine lv_iload_n hx hb zd_P_giveBack_32 rfl (lv_at hl 1 rfl) ?_
    refine lv_bipush (v := 20) hx hb zd_P_giveBack_33 (by decide) ?_
    refine lv_imul hx hb zd_P_giveBack_35 ?_
    refine lv_iload_n hx hb zd_P_giveBack_36 rfl (lv_at hl 2 rfl) ?_
    refine lv_iadd hx hb zd_P_giveBack_37 ?_
    refine va_iald hx hb hK hP 3 0 rfl rfl (zx_dk c_1 c_7 (by omega)) zd_P_giveBack_38 ?_
    refine lv_iadd hx hb zd_P_giveBack_39 ?_
    refine zz_iast hx hb hK hP hD hS 2 0 rfl rfl (by omega) (by decide) zd_P_giveBack_40 (fun H locs hP hD hS => ?_)
    have hP : va_P (dC, dI) zz_cl (zw_P cI cZ cL a0 a1 a2 a3 (st.1, (upd st.2.1 k ((st.2.1 k) + (st.2.2.1 ((p1 * 20) + (nI k)).toNatClampNeg))), st.2.2.1, st.2.2.2)) H := hP
    have hD : va_D A (zw_P cI cZ cL a0 a1 a2 a3 (st.1, (upd st.2.1 k ((st.2.1 k) + (st.2.2.1 ((p1 * 20) + (nI k)).toNatClampNeg))), st.2.2.1, st.2.2.2)) := hD
    refine lv_iinc (v := nI (k + 1)) (lv' := [(2, .int (nI (k + 1))), (0, .ref a0), (1, .int p1)]) hx hb zd_P_giveBack_41 hl (k := 2) rfl (nI_1 k) (by decide) rfl (fun ls hl => ?_)
    refine lv_goto (tgt := 13) hx hb zd_P_giveBack_44 (by decide) ?_
    rw [(show zf_P_giveBack_L13 p1 (mm + 1) k st = zf_P_giveBack_L13 p1 mm (k + 1) (st.1, (upd st.2.1 k ((st.2.1 k) + (st.2.2.1 ((p1 * 20) + (nI k)).toNatClampNeg))), st.2.2.1, st.2.2.2) from by first | rfl | (rw [zf_P_giveBack_L13]))]
    exact ih (k + 1) (st.1, (upd st.2.1 k ((st.2.1 k) + (st.2.2.1 ((p1 * 20) + (nI k)).toNatClampNeg))), st.2.2.1, st.2.2.2) hh (by show k + 1 + mm = st.2.2.2; omega) _ _ hP hD hS _ (lv_sub hl [1, 2, 0] rfl)
set_option maxHeartbeats 4000000 in
set_option maxRecDepth 100000 in
theorem zc_P_giveBack (l : Launch) (dC : Nat → ClassId) (dI : Nat → Nat → Nat) (cI cZ cL : ClassId) (a0 a1 a2 a3 : Nat) (sz : Nat) (st : zu_P) (p1 : Int32) (hh : st.2.2.2 ≤ 20) : Met l zy_P_giveBack (zz_ws zy_P_giveBack zb_P_giveBack 3 (none)) ({ frames := 0, cells := 0, slots := 0, locals := 0 } : Room) (va_Pc ([.ref a0, .int p1] : List Value) (zz_P (dC, dI) (zz_ty cI cZ cL) sz (zw_P cI cZ cL a0 a1 a2 a3 st))) (zz_Qv (dC, dI) (zz_ty cI cZ cL) (va_A (zw_P cI cZ cL a0 a1 a2 a3 st) sz) (zw_P cI cZ cL a0 a1 a2 a3 (zf_P_giveBack st p1))) 0 0 (va_A (zw_P cI cZ cL a0 a1 a2 a3 st) sz) := by
  refine zz_ofW (Q := fun A => (zz_Qv (dC, dI) (zz_ty cI cZ cL) A (zw_P cI cZ cL a0 a1 a2 a3 (zf_P_giveBack st p1)))) (by decide) (Nat.le_of_ble_eq_true rfl) ?_
  intro p e s m below meth c A C0 _ hA hK hP hD _ ls hl
  obtain ⟨hx, hb, hr, hml, hown, htB, hlocks, hE⟩ := id C0
  have hS : va_S A s.heap s.heap [] := va_S.rf
  have hl : lv_has ls 3 [(0, .ref a0), (1, .int p1)] := hl
  refine lv_iload_n hx hb zd_P_giveBack_0 rfl (lv_at hl 1 rfl) ?_
  refine lv_if_lt (tgt := 10) hx hb zd_P_giveBack_1 (by decide) (fun c_1 => ?_) (fun c_1 => ?_)
  · rw [(show zf_P_giveBack st p1 = st from by rw [zf_P_giveBack, if_pos c_1])]
    exact zz_vret hx hb hr hlocks hK hP hD hS zd_P_giveBack_10
  · refine lv_iload_n hx hb zd_P_giveBack_4 rfl (lv_at hl 1 rfl) ?_
    refine lv_bipush (v := 30) hx hb zd_P_giveBack_5 (by decide) ?_
    refine lv_icmp_le (tgt := 11) hx hb zd_P_giveBack_7 (by decide) (fun c_7 => ?_) (fun c_7 => ?_)
    · refine lv_iconst (v := 0) hx hb zd_P_giveBack_11 (by decide) ?_
      refine lv_istore_n (lv' := [(2, .int 0), (0, .ref a0), (1, .int p1)]) hx hb zd_P_giveBack_12 rfl hl (by decide) rfl (fun ls hl => ?_)
      rw [(show zf_P_giveBack st p1 = zf_P_giveBack_L13 p1 st.2.2.2 0 st from by rw [zf_P_giveBack, if_neg c_1, if_pos c_7])]
      exact zp_P_giveBack_13 dC dI cI cZ cL a0 a1 a2 a3 p1 c_1 c_7 C0 hA hK st.2.2.2 0 st hh (Nat.zero_add _) _ _ hP hD hS _ (lv_sub hl [1, 2, 0] rfl)
    · rw [(show zf_P_giveBack st p1 = st from by rw [zf_P_giveBack, if_neg c_1, if_neg c_7])]
      exact zz_vret hx hb hr hlocks hK hP hD hS zd_P_giveBack_10
