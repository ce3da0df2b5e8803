set_option maxHeartbeats 4000000 in
set_option maxRecDepth 100000 in
theorem zp_X_firstWithoutGoodCode_2 {p : Program} {l : Launch} {e : Env} {s : State} {m : MethodId} {below : List Frame} {meth : Method} {c : Code} (dC : Nat → ClassId) (dI : Nat → Nat → Nat) (cI cZ cL : ClassId) (a0 a1 a2 a3 a4 a5 a6 a7 a8 a9 a10 a11 : Nat) (st : zu_X) (hc : st.2.2.1.2.2 ≤ 20) (C0 : zz_C p s m ([.ref a0] : List Value).toArray meth c zb_X_firstWithoutGoodCode 4 (some .int) zy_X_firstWithoutGoodCode.cls) (hK : va_K (dC, dI) zz_cl (zz_ty cI cZ cL) s) (hP : va_P (dC, dI) zz_cl (zw_X cI cZ cL a0 a1 a2 a3 a4 a5 a6 a7 a8 a9 a10 a11 st) s.heap) (hD : va_D (fun _ => True) (zw_X cI cZ cL a0 a1 a2 a3 a4 a5 a6 a7 a8 a9 a10 a11 st)) :
    ∀ (mm k : Nat), k + mm = 31 → ∀ ls : Array Slot, lv_has ls 4 [(0, .ref a0), (1, .int (nI k))] →
    W p l e ({ frames := 2, cells := 0, slots := 0, locals := 45 } : Room) s m ([.ref a0] : List Value).toArray below meth c s.heap [] 0 0 (MQ below (zz_Ki (zf_X_firstWithoutGoodCode_L2 st mm k)) ([.ref a0] : List Value).toArray s 0 0 (fun _ => False)) (F0 m 2 ls []) := by
  obtain ⟨hx, hb, hr, hml, hown, htB, hlocks, hE⟩ := id C0
  intro mm
  induction mm with
  | zero =>
    intro k hk  ls hl
    refine lv_iload_n hx hb zd_X_firstWithoutGoodCode_2 rfl (lv_at hl 1 rfl) ?_
    refine lv_bipush (v := 30) hx hb zd_X_firstWithoutGoodCode_3 (by decide) ?_
    refine lv_icmp_gt (tgt := 56) hx hb zd_X_firstWithoutGoodCode_5 (by decide) (fun _ => ?_) (fun c_ => absurd (zz_gtT (b := 30) rfl (by omega) (by omega)) c_)
    refine lv_iconst (v := (-1)) hx hb zd_X_firstWithoutGoodCode_56 (by decide) ?_
    rw [(show zf_X_firstWithoutGoodCode_L2 st 0 k = (-1) from by first | rfl | (rw [zf_X_firstWithoutGoodCode_L2]))]
    exact zz_kiret hx hb hr hlocks zd_X_firstWithoutGoodCode_57 rfl
  | succ mm ih =>
    intro k hk  ls hl
    refine lv_iload_n hx hb zd_X_firstWithoutGoodCode_2 rfl (lv_at hl 1 rfl) ?_
    refine lv_bipush (v := 30) hx hb zd_X_firstWithoutGoodCode_3 (by decide) ?_
    refine lv_icmp_gt (tgt := 56) hx hb zd_X_firstWithoutGoodCode_5 (by decide) (fun c_ => absurd c_ (zz_gtF (b := 30) rfl (by omega) (by omega))) (fun _ => ?_)
    refine lv_aload_n hx hb zd_X_firstWithoutGoodCode_8 rfl (lv_at hl 0 rfl) ?_
    refine va_get (D := (dC, dI)) (ci := 0) (v := .ref a1) (C := zr_X) (T := zF_X) (N := 7) hx hb htB zi_X hown hK hP 0 rfl rfl 1 (by decide) (htB _ zk_ac6f5f75) (fun _ h9 => h9) rfl zd_X_firstWithoutGoodCode_9 ?_
    refine lv_bipush (v := 10) hx hb zd_X_firstWithoutGoodCode_12 (by decide) ?_
    refine lv_iload_n hx hb zd_X_firstWithoutGoodCode_14 rfl (lv_at hl 1 rfl) ?_
    refine zz_ki (va_runV (As := [.int 10, .int (nI k)]) (rest := []) ⟨hx, hb, hml, hown, htB⟩ (zc_S_slotOf l dC dI cI cZ cL a1 a2 a3 s.heap.size st.2.1 10 (nI k) ) (cwV 2 htB (zz_gV zk_3749943e zk_13757a2f zk_9f779419 zk_f1a23aa7 zk_e4817253) rfl rfl rfl ⟨rfl, zh_S_slotOf⟩ ⟨Nat.le_of_ble_eq_true rfl, Nat.le_of_ble_eq_true rfl⟩) (zz_preV (ci := 1) (q := (zr_S, zF_S, 5)) hP hD hK hE [1, 2, 3] (by decide) rfl rfl rfl) rfl rfl hl.1 rfl (lv_room (Nat.le_of_ble_eq_true rfl)) zd_X_firstWithoutGoodCode_15 ⟨Nat.le_of_ble_eq_true rfl, Nat.le_of_ble_eq_true rfl⟩) ?_
    refine lv_istore_n (lv' := [(2, .int (zf_S_slotOf st.2.1 10 (nI k))), (0, .ref a0), (1, .int (nI k))]) hx hb zd_X_firstWithoutGoodCode_18 rfl hl (by decide) rfl (fun ls hl => ?_)
    refine lv_aload_n hx hb zd_X_firstWithoutGoodCode_19 rfl (lv_at hl 1 rfl) ?_
    refine va_get (D := (dC, dI)) (ci := 0) (v := .ref a1) (C := zr_X) (T := zF_X) (N := 7) hx hb htB zi_X hown hK hP 0 rfl rfl 1 (by decide) (htB _ zk_ac6f5f75) (fun _ h9 => h9) rfl zd_X_firstWithoutGoodCode_20 ?_
    refine lv_iload_n hx hb zd_X_firstWithoutGoodCode_23 rfl (lv_at hl 0 rfl) ?_
    refine zz_ki (va_runV (As := [.int (zf_S_slotOf st.2.1 10 (nI k))]) (rest := []) ⟨hx, hb, hml, hown, htB⟩ (zc_S_valueAt l dC dI cI cZ cL a1 a2 a3 s.heap.size st.2.1 (zf_S_slotOf st.2.1 10 (nI k)) ) (cwV 1 htB (zz_gV zk_79454776 zk_1fa0ab90 zk_4c70df44 zk_f1a23aa7 zk_fdbb5e96) rfl rfl rfl ⟨rfl, zh_S_valueAt⟩ ⟨Nat.le_of_ble_eq_true rfl, Nat.le_of_ble_eq_true rfl⟩) (zz_preV (ci := 1) (q := (zr_S, zF_S, 5)) hP hD hK hE [1, 2, 3] (by decide) rfl rfl rfl) rfl rfl hl.1 rfl (lv_room (Nat.le_of_ble_eq_true rfl)) zd_X_firstWithoutGoodCode_24 ⟨Nat.le_of_ble_eq_true rfl, Nat.le_of_ble_eq_true rfl⟩) ?_
    refine lv_istore_n (lv' := [(3, .int (zf_S_valueAt st.2.1 (zf_S_slotOf st.2.1 10 (nI k)))), (2, .int (zf_S_slotOf st.2.1 10 (nI k))), (0, .ref a0), (1, .int (nI k))]) hx hb zd_X_firstWithoutGoodCode_27 rfl hl (by decide) rfl (fun ls hl => ?_)
    refine lv_iload_n hx hb zd_X_firstWithoutGoodCode_28 rfl (lv_at hl 0 rfl) ?_
    refine lv_iconst (v := (-1)) hx hb zd_X_firstWithoutGoodCode_29 (by decide) ?_
    refine lv_icmp_eq (tgt := 50) hx hb zd_X_firstWithoutGoodCode_30 (by decide) (fun c_30 => ?_) (fun c_30 => ?_)
    · refine lv_iinc (v := nI (k + 1)) (lv' := [(1, .int (nI (k + 1))), (3, .int (zf_S_valueAt st.2.1 (zf_S_slotOf st.2.1 10 (nI k)))), (2, .int (zf_S_slotOf st.2.1 10 (nI k))), (0, .ref a0)]) hx hb zd_X_firstWithoutGoodCode_50 hl (k := 3) rfl (nI_1 k) (by decide) rfl (fun ls hl => ?_)
      refine lv_goto (tgt := 2) hx hb zd_X_firstWithoutGoodCode_53 (by decide) ?_
      rw [(show zf_X_firstWithoutGoodCode_L2 st (mm + 1) k = zf_X_firstWithoutGoodCode_L2 st mm (k + 1) from by rw [zf_X_firstWithoutGoodCode_L2, if_pos c_30])]
      exact ih (k + 1) (by omega)   _ (lv_sub hl [3, 0] rfl)
    · refine lv_aload_n hx hb zd_X_firstWithoutGoodCode_33 rfl (lv_at hl 2 rfl) ?_
      refine va_get (D := (dC, dI)) (ci := 0) (v := .ref a4) (C := zr_X) (T := zF_X) (N := 7) hx hb htB zi_X hown hK hP 0 rfl rfl 2 (by decide) (htB _ zk_92bcf320) (fun _ h9 => h9) rfl zd_X_firstWithoutGoodCode_34 ?_
      refine lv_iload_n hx hb zd_X_firstWithoutGoodCode_37 rfl (lv_at hl 0 rfl) ?_
      refine lv_aload_n hx hb zd_X_firstWithoutGoodCode_38 rfl (lv_at hl 2 rfl) ?_
      refine va_get (D := (dC, dI)) (ci := 0) (v := .int st.2.2.2.2.2.1) (C := zr_X) (T := zF_X) (N := 7) hx hb htB zi_X hown hK hP 0 rfl rfl 5 (by decide) (htB _ zk_be002196) (fun _ h9 => h9) rfl zd_X_firstWithoutGoodCode_39 ?_
      refine zz_ki (va_runV (As := [.int (zf_S_valueAt st.2.1 (zf_S_slotOf st.2.1 10 (nI k))), .int st.2.2.2.2.2.1]) (rest := []) ⟨hx, hb, hml, hown, htB⟩ (zc_C_isGood l dC dI cI cZ cL a4 a5 a6 s.heap.size st.2.2.1 (zf_S_valueAt st.2.1 (zf_S_slotOf st.2.1 10 (nI k))) st.2.2.2.2.2.1 hc) (cwV 2 htB (zz_gV zk_c4308639 zk_a0a2078d zk_1368934a zk_e143c677 zk_16132e5e) rfl rfl rfl ⟨rfl, zh_C_isGood⟩ ⟨Nat.le_of_ble_eq_true rfl, Nat.le_of_ble_eq_true rfl⟩) (zz_preV (ci := 2) (q := (zr_C, zF_C, 3)) hP hD hK hE [4, 5, 6] (by decide) rfl rfl rfl) rfl rfl hl.1 rfl (lv_room (Nat.le_of_ble_eq_true rfl)) zd_X_firstWithoutGoodCode_42 ⟨Nat.le_of_ble_eq_true rfl, Nat.le_of_ble_eq_true rfl⟩) ?_
      refine lv_if_ne (tgt := 50) hx hb zd_X_firstWithoutGoodCode_45 (by decide) (fun c_45 => ?_) (fun c_45 => ?_)
      · refine lv_iinc (v := nI (k + 1)) (lv' := [(1, .int (nI (k + 1))), (3, .int (zf_S_valueAt st.2.1 (zf_S_slotOf st.2.1 10 (nI k)))), (2, .int (zf_S_slotOf st.2.1 10 (nI k))), (0, .ref a0)]) hx hb zd_X_firstWithoutGoodCode_50 hl (k := 3) rfl (nI_1 k) (by decide) rfl (fun ls hl => ?_)
        refine lv_goto (tgt := 2) hx hb zd_X_firstWithoutGoodCode_53 (by decide) ?_
        rw [(show zf_X_firstWithoutGoodCode_L2 st (mm + 1) k = zf_X_firstWithoutGoodCode_L2 st mm (k + 1) from by rw [zf_X_firstWithoutGoodCode_L2, if_neg c_30, if_neg c_45])]
        exact ih (k + 1) (by omega)   _ (lv_sub hl [3, 0] rfl)
      · refine lv_iload_n hx hb zd_X_firstWithoutGoodCode_48 rfl (lv_at hl 1 rfl) ?_
        rw [(show zf_X_firstWithoutGoodCode_L2 st (mm + 1) k = (zf_S_slotOf st.2.1 10 (nI k)) from by rw [zf_X_firstWithoutGoodCode_L2, if_neg c_30, if_pos c_45])]
        exact zz_kiret hx hb hr hlocks zd_X_firstWithoutGoodCode_49 rfl
set_option maxHeartbeats 4000000 in
set_option maxRecDepth 100000 in
theorem zc_X_firstWithoutGoodCode (l : Launch) (dC : Nat → ClassId) (dI : Nat → Nat → Nat) (cI cZ cL : ClassId) (a0 a1 a2 a3 a4 a5 a6 a7 a8 a9 a10 a11 : Nat) (sz : Nat) (st : zu_X) (hc : st.2.2.1.2.2 ≤ 20) : Met l zy_X_firstWithoutGoodCode (zz_ws zy_X_firstWithoutGoodCode zb_X_firstWithoutGoodCode 4 (some .int)) ({ frames := 2, cells := 0, slots := 0, locals := 45 } : Room) (va_Pc ([.ref a0] : List Value) (zz_P (dC, dI) (zz_ty cI cZ cL) sz (zw_X cI cZ cL a0 a1 a2 a3 a4 a5 a6 a7 a8 a9 a10 a11 st))) (zz_Ki (zf_X_firstWithoutGoodCode st)) 0 0 (fun _ => False) := by
  refine zz_ofK (by decide) (Nat.le_of_ble_eq_true rfl) ?_
  intro p e s m below meth c C0 hK hP hD ls hl
  obtain ⟨hx, hb, hr, hml, hown, htB, hlocks, hE⟩ := id C0
  have hl : lv_has ls 4 [(0, .ref a0)] := hl
  refine lv_iconst (v := 1) hx hb zd_X_firstWithoutGoodCode_0 (by decide) ?_
  refine lv_istore_n (lv' := [(1, .int 1), (0, .ref a0)]) hx hb zd_X_firstWithoutGoodCode_1 rfl hl (by decide) rfl (fun ls hl => ?_)
  rw [(show zf_X_firstWithoutGoodCode st = zf_X_firstWithoutGoodCode_L2 st 30 1 from by first | rfl | (rw [zf_X_firstWithoutGoodCode]))]
  exact zp_X_firstWithoutGoodCode_2 dC dI cI cZ cL a0 a1 a2 a3 a4 a5 a6 a7 a8 a9 a10 a11 st hc C0 hK hP hD 30 1 rfl   _ (lv_sub hl [1, 0] rfl)
set_option maxHeartbeats 4000000 in
set_option maxRecDepth 100000 in
theorem zc_X_check (l : Launch) (dC : Nat → ClassId) (dI : Nat → Nat → Nat) (cI cZ cL : ClassId) (a0 a1 a2 a3 a4 a5 a6 a7 a8 a9 a10 a11 : Nat) (sz : Nat) (st : zu_X) (hc : st.2.2.1.2.2 ≤ 20) : Met l zy_X_check (zz_ws zy_X_check zb_X_check 3 (some .int)) ({ frames := 4, cells := 0, slots := 0, locals := 90 } : Room) (va_Pc ([.ref a0] : List Value) (zz_P (dC, dI) (zz_ty cI cZ cL) sz (zw_X cI cZ cL a0 a1 a2 a3 a4 a5 a6 a7 a8 a9 a10 a11 st))) (zz_Ki (zf_X_check st)) 0 0 (fun _ => False) := by
  refine zz_ofK (by decide) (Nat.le_of_ble_eq_true rfl) ?_
  intro p e s m below meth c C0 hK hP hD ls hl
  obtain ⟨hx, hb, hr, hml, hown, htB, hlocks, hE⟩ := id C0
  have hl : lv_has ls 3 [(0, .ref a0)] := hl
  refine lv_aload_n hx hb zd_X_check_0 rfl (lv_at hl 0 rfl) ?_
  refine va_get (D := (dC, dI)) (ci := 0) (v := .ref a1) (C := zr_X) (T := zF_X) (N := 7) hx hb htB zi_X hown hK hP 0 rfl rfl 1 (by decide) (htB _ zk_ac6f5f75) (fun _ h9 => h9) rfl zd_X_check_1 ?_
  refine lv_aload_n hx hb zd_X_check_4 rfl (lv_at hl 0 rfl) ?_
  refine va_get (D := (dC, dI)) (ci := 0) (v := .int st.1) (C := zr_X) (T := zF_X) (N := 7) hx hb htB zi_X hown hK hP 0 rfl rfl 0 (by decide) (htB _ zk_26e1908c) (fun _ h9 => h9) rfl zd_X_check_5 ?_
  refine zz_ki (va_runV (As := [.int st.1]) (rest := []) ⟨hx, hb, hml, hown, htB⟩ (zc_S_firstMissing l dC dI cI cZ cL a1 a2 a3 s.heap.size st.2.1 st.1 ) (cwV 1 htB (zz_gV zk_02a77f53 zk_96eb0eaf zk_1b88eb0a zk_f1a23aa7 zk_866be72d) rfl rfl rfl ⟨rfl, zh_S_firstMissing⟩ ⟨Nat.le_of_ble_eq_true rfl, Nat.le_of_ble_eq_true rfl⟩) (zz_preV (ci := 1) (q := (zr_S, zF_S, 5)) hP hD hK hE [1, 2, 3] (by decide) rfl rfl rfl) rfl rfl hl.1 rfl (lv_room (Nat.le_of_ble_eq_true rfl)) zd_X_check_8 ⟨Nat.le_of_ble_eq_true rfl, Nat.le_of_ble_eq_true rfl⟩) ?_
  refine lv_istore_n (lv' := [(1, .int (zf_S_firstMissing st.2.1 st.1)), (0, .ref a0)]) hx hb zd_X_check_11 rfl hl (by decide) rfl (fun ls hl => ?_)
  refine lv_iload_n hx hb zd_X_check_12 rfl (lv_at hl 0 rfl) ?_
  refine lv_iconst (v := (-1)) hx hb zd_X_check_13 (by decide) ?_
  refine lv_icmp_eq (tgt := 25) hx hb zd_X_check_14 (by decide) (fun c_14 => ?_) (fun c_14 => ?_)
  · refine lv_aload_n hx hb zd_X_check_25 rfl (lv_at hl 1 rfl) ?_
    refine va_get (D := (dC, dI)) (ci := 0) (v := .ref a1) (C := zr_X) (T := zF_X) (N := 7) hx hb htB zi_X hown hK hP 0 rfl rfl 1 (by decide) (htB _ zk_ac6f5f75) (fun _ h9 => h9) rfl zd_X_check_26 ?_
    refine lv_iconst (v := 2) hx hb zd_X_check_29 (by decide) ?_
    refine lv_bipush (v := 12) hx hb zd_X_check_30 (by decide) ?_
    refine zz_ki (va_runV (As := [.int 2, .int 12]) (rest := []) ⟨hx, hb, hml, hown, htB⟩ (zc_S_sumIsWrong l dC dI cI cZ cL a1 a2 a3 s.heap.size st.2.1 2 12 ) (cwV 2 htB (zz_gV zk_173b95b6 zk_46869219 zk_bca93d4d zk_f1a23aa7 zk_bd36635a) rfl rfl rfl ⟨rfl, zh_S_sumIsWrong⟩ ⟨Nat.le_of_ble_eq_true rfl, Nat.le_of_ble_eq_true rfl⟩) (zz_preV (ci := 1) (q := (zr_S, zF_S, 5)) hP hD hK hE [1, 2, 3] (by decide) rfl rfl rfl) rfl rfl hl.1 rfl (lv_room (Nat.le_of_ble_eq_true rfl)) zd_X_check_32 ⟨Nat.le_of_ble_eq_true rfl, Nat.le_of_ble_eq_true rfl⟩) ?_
    refine lv_if_eq (tgt := 41) hx hb zd_X_check_35 (by decide) (fun c_35 => ?_) (fun c_35 => ?_)
    · refine lv_aload_n hx hb zd_X_check_41 rfl (lv_at hl 1 rfl) ?_
      refine va_get (D := (dC, dI)) (ci := 0) (v := .ref a1) (C := zr_X) (T := zF_X) (N := 7) hx hb htB zi_X hown hK hP 0 rfl rfl 1 (by decide) (htB _ zk_ac6f5f75) (fun _ h9 => h9) rfl zd_X_check_42 ?_
      refine lv_iconst (v := 3) hx hb zd_X_check_45 (by decide) ?_
      refine lv_bipush (v := 13) hx hb zd_X_check_46 (by decide) ?_
      refine zz_ki (va_runV (As := [.int 3, .int 13]) (rest := []) ⟨hx, hb, hml, hown, htB⟩ (zc_S_sumIsWrong l dC dI cI cZ cL a1 a2 a3 s.heap.size st.2.1 3 13 ) (cwV 2 htB (zz_gV zk_173b95b6 zk_46869219 zk_bca93d4d zk_f1a23aa7 zk_bd36635a) rfl rfl rfl ⟨rfl, zh_S_sumIsWrong⟩ ⟨Nat.le_of_ble_eq_true rfl, Nat.le_of_ble_eq_true rfl⟩) (zz_preV (ci := 1) (q := (zr_S, zF_S, 5)) hP hD hK hE [1, 2, 3] (by decide) rfl rfl rfl) rfl rfl hl.1 rfl (lv_room (Nat.le_of_ble_eq_true rfl)) zd_X_check_48 ⟨Nat.le_of_ble_eq_true rfl, Nat.le_of_ble_eq_true rfl⟩) ?_
      refine lv_if_eq (tgt := 57) hx hb zd_X_check_51 (by decide) (fun c_51 => ?_) (fun c_51 => ?_)
      · refine lv_aload_n hx hb zd_X_check_57 rfl (lv_at hl 1 rfl) ?_
        refine zz_ki (va_runV (As := []) (rest := []) ⟨hx, hb, hml, hown, htB⟩ (zc_X_firstWithoutGoodCode l dC dI cI cZ cL a0 a1 a2 a3 a4 a5 a6 a7 a8 a9 a10 a11 s.heap.size st  hc) (cwV 0 htB (zz_gV zk_90086960 zk_c31cd9ed zk_3a8f734f zk_cfe38e2e zk_e400f6cc) rfl rfl rfl ⟨rfl, zh_X_firstWithoutGoodCode⟩ ⟨Nat.le_of_ble_eq_true rfl, Nat.le_of_ble_eq_true rfl⟩) (zz_preV (ci := 0) (q := (zr_X, zF_X, 7)) hP hD hK hE [0, 1, 2, 3, 4, 5, 6, 7, 8, 9, 10, 11] (by decide) rfl rfl rfl) rfl rfl hl.1 rfl (lv_room (Nat.le_of_ble_eq_true rfl)) zd_X_check_58 ⟨Nat.le_of_ble_eq_true rfl, Nat.le_of_ble_eq_true rfl⟩) ?_
        refine lv_istore_n (lv' := [(2, .int (zf_X_firstWithoutGoodCode st)), (1, .int (zf_S_firstMissing st.2.1 st.1)), (0, .ref a0)]) hx hb zd_X_check_61 rfl hl (by decide) rfl (fun ls hl => ?_)
        refine lv_iload_n hx hb zd_X_check_62 rfl (lv_at hl 0 rfl) ?_
        refine lv_iconst (v := (-1)) hx hb zd_X_check_63 (by decide) ?_
        refine lv_icmp_eq (tgt := 75) hx hb zd_X_check_64 (by decide) (fun c_64 => ?_) (fun c_64 => ?_)
        · refine lv_aload_n hx hb zd_X_check_75 rfl (lv_at hl 2 rfl) ?_
          refine va_get (D := (dC, dI)) (ci := 0) (v := .ref a1) (C := zr_X) (T := zF_X) (N := 7) hx hb htB zi_X hown hK hP 0 rfl rfl 1 (by decide) (htB _ zk_ac6f5f75) (fun _ h9 => h9) rfl zd_X_check_76 ?_
          refine zz_ki (va_runV (As := []) (rest := []) ⟨hx, hb, hml, hown, htB⟩ (zc_S_lineCount l dC dI cI cZ cL a1 a2 a3 s.heap.size st.2.1  ) (cwV 0 htB (zz_gV zk_879c9a59 zk_79c9d9e2 zk_0aad96cc zk_f1a23aa7 zk_fcd24361) rfl rfl rfl ⟨rfl, zh_S_lineCount⟩ ⟨Nat.le_of_ble_eq_true rfl, Nat.le_of_ble_eq_true rfl⟩) (zz_preV (ci := 1) (q := (zr_S, zF_S, 5)) hP hD hK hE [1, 2, 3] (by decide) rfl rfl rfl) rfl rfl hl.1 rfl (lv_room (Nat.le_of_ble_eq_true rfl)) zd_X_check_79 ⟨Nat.le_of_ble_eq_true rfl, Nat.le_of_ble_eq_true rfl⟩) ?_
          refine lv_if_ne (tgt := 90) hx hb zd_X_check_82 (by decide) (fun c_82 => ?_) (fun c_82 => ?_)
          · refine lv_iconst (v := 0) hx hb zd_X_check_90 (by decide) ?_
            rw [(show zf_X_check st = 0 from by rw [zf_X_check, if_pos c_14, if_pos c_35, if_pos c_51, if_pos c_64, if_neg c_82])]
            exact zz_kiret hx hb hr hlocks zd_X_check_91 rfl
          · refine lv_ldc (v := 5000000) hx hb hown (htB _ zk_eb727f7f) zd_X_check_85 ?_
            refine lv_goto (tgt := 91) hx hb zd_X_check_87 (by decide) ?_
            rw [(show zf_X_check st = 5000000 from by rw [zf_X_check, if_pos c_14, if_pos c_35, if_pos c_51, if_pos c_64, if_pos c_82])]
            exact zz_kiret hx hb hr hlocks zd_X_check_91 rfl
        · refine lv_ldc (v := 4000000) hx hb hown (htB _ zk_981629e6) zd_X_check_67 ?_
          refine lv_iload_n hx hb zd_X_check_69 rfl (lv_at hl 0 rfl) ?_
          refine zz_ki (va_runS (As := [.int (zf_X_firstWithoutGoodCode st)]) (rest := [.int 4000000]) ⟨hx, hb, hml, hown, htB⟩ (zc_X_placeOf l dC dI cI cZ cL  s.heap.size  (zf_X_firstWithoutGoodCode st) ) (va_cwS 1 htB (zz_gS zk_137ff889 zk_79ac290e zk_cfe38e2e zk_ab1eecd8) rfl rfl rfl zh_X_placeOf ⟨Nat.le_of_ble_eq_true rfl, Nat.le_of_ble_eq_true rfl⟩) (zz_preS hP hD hK hE [] (by decide) rfl) rfl rfl hl.1 rfl (lv_room (Nat.le_of_ble_eq_true rfl)) zd_X_check_70 ⟨Nat.le_of_ble_eq_true rfl, Nat.le_of_ble_eq_true rfl⟩) ?_
          refine lv_iadd hx hb zd_X_check_73 ?_
          rw [(show zf_X_check st = 4000000 + (zf_X_placeOf (zf_X_firstWithoutGoodCode st)) from by rw [zf_X_check, if_pos c_14, if_pos c_35, if_pos c_51, if_neg c_64])]
          exact zz_kiret hx hb hr hlocks zd_X_check_74 rfl
      · refine lv_ldc (v := 3000000) hx hb hown (htB _ zk_94733b41) zd_X_check_54 ?_
        rw [(show zf_X_check st = 3000000 from by rw [zf_X_check, if_pos c_14, if_pos c_35, if_neg c_51])]
        exact zz_kiret hx hb hr hlocks zd_X_check_56 rfl
    · refine lv_ldc (v := 2000000) hx hb hown (htB _ zk_430cae2a) zd_X_check_38 ?_
      rw [(show zf_X_check st = 2000000 from by rw [zf_X_check, if_pos c_14, if_neg c_35])]
      exact zz_kiret hx hb hr hlocks zd_X_check_40 rfl
  · refine lv_ldc (v := 1000000) hx hb hown (htB _ zk_2f026ba4) zd_X_check_17 ?_
    refine lv_iload_n hx hb zd_X_check_19 rfl (lv_at hl 0 rfl) ?_
    refine zz_ki (va_runS (As := [.int (zf_S_firstMissing st.2.1 st.1)]) (rest := [.int 1000000]) ⟨hx, hb, hml, hown, htB⟩ (zc_X_placeOf l dC dI cI cZ cL  s.heap.size  (zf_S_firstMissing st.2.1 st.1) ) (va_cwS 1 htB (zz_gS zk_137ff889 zk_79ac290e zk_cfe38e2e zk_ab1eecd8) rfl rfl rfl zh_X_placeOf ⟨Nat.le_of_ble_eq_true rfl, Nat.le_of_ble_eq_true rfl⟩) (zz_preS hP hD hK hE [] (by decide) rfl) rfl rfl hl.1 rfl (lv_room (Nat.le_of_ble_eq_true rfl)) zd_X_check_20 ⟨Nat.le_of_ble_eq_true rfl, Nat.le_of_ble_eq_true rfl⟩) ?_
    refine lv_iadd hx hb zd_X_check_23 ?_
    rw [(show zf_X_check st = 1000000 + (zf_X_placeOf (zf_S_firstMissing st.2.1 st.1)) from by rw [zf_X_check, if_neg c_14])]
    exact zz_kiret hx hb hr hlocks zd_X_check_24 rfl
set_option maxHeartbeats 4000000 in
set_option maxRecDepth 100000 in
theorem zc_X_pack (l : Launch) (dC : Nat → ClassId) (dI : Nat → Nat → Nat) (cI cZ cL : ClassId) (a0 a1 a2 a3 a4 a5 a6 a7 a8 a9 a10 a11 : Nat) (sz : Nat) (st : zu_X)  : Met l zy_X_pack (zz_ws zy_X_pack zb_X_pack 1 (some .int)) ({ frames := 1, cells := 0, slots := 0, locals := 20 } : Room) (va_Pc ([.ref a0] : List Value) (zz_P (dC, dI) (zz_ty cI cZ cL) sz (zw_X cI cZ cL a0 a1 a2 a3 a4 a5 a6 a7 a8 a9 a10 a11 st))) (zz_Ki (zf_X_pack st)) 0 0 (fun _ => False) := by
  refine zz_ofK (by decide) (Nat.le_of_ble_eq_true rfl) ?_
  intro p e s m below meth c C0 hK hP hD ls hl
  obtain ⟨hx, hb, hr, hml, hown, htB, hlocks, hE⟩ := id C0
  have hl : lv_has ls 1 [(0, .ref a0)] := hl
  refine lv_iconst (v := 3) hx hb zd_X_pack_0 (by decide) ?_
  refine lv_bipush (v := 6) hx hb zd_X_pack_1 (by decide) ?_
  refine lv_aload_n hx hb zd_X_pack_3 rfl (lv_at hl 0 rfl) ?_
  refine va_get (D := (dC, dI)) (ci := 0) (v := .ref a1) (C := zr_X) (T := zF_X) (N := 7) hx hb htB zi_X hown hK hP 0 rfl rfl 1 (by decide) (htB _ zk_ac6f5f75) (fun _ h9 => h9) rfl zd_X_pack_4 ?_
  refine zz_ki (va_runV (As := []) (rest := [.int 6, .int 3]) ⟨hx, hb, hml, hown, htB⟩ (zc_S_setCount l dC dI cI cZ cL a1 a2 a3 s.heap.size st.2.1  ) (cwV 0 htB (zz_gV zk_d51b3908 zk_460a5c0b zk_dbc3e6b2 zk_f1a23aa7 zk_8b4375f5) rfl rfl rfl ⟨rfl, zh_S_setCount⟩ ⟨Nat.le_of_ble_eq_true rfl, Nat.le_of_ble_eq_true rfl⟩) (zz_preV (ci := 1) (q := (zr_S, zF_S, 5)) hP hD hK hE [1, 2, 3] (by decide) rfl rfl rfl) rfl rfl hl.1 rfl (lv_room (Nat.le_of_ble_eq_true rfl)) zd_X_pack_7 ⟨Nat.le_of_ble_eq_true rfl, Nat.le_of_ble_eq_true rfl⟩) ?_
  refine lv_imul hx hb zd_X_pack_10 ?_
  refine lv_iadd hx hb zd_X_pack_11 ?_
  rw [(show zf_X_pack st = 3 + (6 * (zf_S_setCount st.2.1)) from by first | rfl | (rw [zf_X_pack]))]
  exact zz_kiret hx hb hr hlocks zd_X_pack_12 rfl
set_option maxHeartbeats 4000000 in
set_option maxRecDepth 100000 in
theorem zc_X_packedByte (l : Launch) (dC : Nat → ClassId) (dI : Nat → Nat → Nat) (cI cZ cL : ClassId) (a0 a1 a2 a3 a4 a5 a6 a7 a8 a9 a10 a11 : Nat) (sz : Nat) (st : zu_X) (p1 : Int32) (p2 : Int32)  : Met l zy_X_packedByte (zz_ws zy_X_packedByte zb_X_packedByte 3 (some .byte)) ({ frames := 1, cells := 0, slots := 0, locals := 21 } : Room) (va_Pc ([.ref a0, .int p1, .int p2] : List Value) (zz_P (dC, dI) (zz_ty cI cZ cL) sz (zw_X cI cZ cL a0 a1 a2 a3 a4 a5 a6 a7 a8 a9 a10 a11 st))) (zz_Ki (zf_X_packedByte st p1 p2)) 0 0 (fun _ => False) := by
  refine zz_ofK (by decide) (Nat.le_of_ble_eq_true rfl) ?_
  intro p e s m below meth c C0 hK hP hD ls hl
  obtain ⟨hx, hb, hr, hml, hown, htB, hlocks, hE⟩ := id C0
  have hl : lv_has ls 3 [(0, .ref a0), (1, .int p1), (2, .int p2)] := hl
  refine lv_iload_n hx hb zd_X_packedByte_0 rfl (lv_at hl 2 rfl) ?_
  refine lv_if_ne (tgt := 10) hx hb zd_X_packedByte_1 (by decide) (fun c_1 => ?_) (fun c_1 => ?_)
  · refine lv_iload_n hx hb zd_X_packedByte_10 rfl (lv_at hl 2 rfl) ?_
    refine lv_iconst (v := 1) hx hb zd_X_packedByte_11 (by decide) ?_
    refine lv_icmp_ne (tgt := 21) hx hb zd_X_packedByte_12 (by decide) (fun c_12 => ?_) (fun c_12 => ?_)
    · refine lv_aload_n hx hb zd_X_packedByte_21 rfl (lv_at hl 0 rfl) ?_
      refine va_get (D := (dC, dI)) (ci := 0) (v := .ref a1) (C := zr_X) (T := zF_X) (N := 7) hx hb htB zi_X hown hK hP 0 rfl rfl 1 (by decide) (htB _ zk_ac6f5f75) (fun _ h9 => h9) rfl zd_X_packedByte_22 ?_
      refine lv_iload_n hx hb zd_X_packedByte_25 rfl (lv_at hl 1 rfl) ?_
      refine zz_ki (va_runV (As := [.int p1]) (rest := []) ⟨hx, hb, hml, hown, htB⟩ (zc_S_valueAt l dC dI cI cZ cL a1 a2 a3 s.heap.size st.2.1 p1 ) (cwV 1 htB (zz_gV zk_79454776 zk_1fa0ab90 zk_4c70df44 zk_f1a23aa7 zk_fdbb5e96) rfl rfl rfl ⟨rfl, zh_S_valueAt⟩ ⟨Nat.le_of_ble_eq_true rfl, Nat.le_of_ble_eq_true rfl⟩) (zz_preV (ci := 1) (q := (zr_S, zF_S, 5)) hP hD hK hE [1, 2, 3] (by decide) rfl rfl rfl) rfl rfl hl.1 rfl (lv_room (Nat.le_of_ble_eq_true rfl)) zd_X_packedByte_26 ⟨Nat.le_of_ble_eq_true rfl, Nat.le_of_ble_eq_true rfl⟩) ?_
      refine lv_iconst (v := 5) hx hb zd_X_packedByte_29 (by decide) ?_
      refine lv_iload_n hx hb zd_X_packedByte_30 rfl (lv_at hl 2 rfl) ?_
      refine lv_isub hx hb zd_X_packedByte_31 ?_
      refine zz_ki (va_runS (As := [.int (zf_S_valueAt st.2.1 p1), .int (5 - p2)]) (rest := []) ⟨hx, hb, hml, hown, htB⟩ (zc_X_byteOf l dC dI cI cZ cL  s.heap.size  (zf_S_valueAt st.2.1 p1) (5 - p2) ) (va_cwS 2 htB (zz_gS zk_fadbfa6c zk_700bf3ab zk_cfe38e2e zk_ad544a45) rfl rfl rfl zh_X_byteOf ⟨Nat.le_of_ble_eq_true rfl, Nat.le_of_ble_eq_true rfl⟩) (zz_preS hP hD hK hE [] (by decide) rfl) rfl rfl hl.1 rfl (lv_room (Nat.le_of_ble_eq_true rfl)) zd_X_packedByte_32 ⟨Nat.le_of_ble_eq_true rfl, Nat.le_of_ble_eq_true rfl⟩) ?_
      rw [(show zf_X_packedByte st p1 p2 = (zf_X_byteOf (zf_S_valueAt st.2.1 p1) (5 - p2)) from by rw [zf_X_packedByte, if_neg c_1, if_neg c_12])]
      exact zz_kzret hx hb hr hlocks (zo_X_byteOf (zf_S_valueAt st.2.1 p1) (5 - p2)) zd_X_packedByte_35 rfl
    · refine lv_iload_n hx hb zd_X_packedByte_15 rfl (lv_at hl 1 rfl) ?_
      refine zz_ki (va_runS (As := [.int p1]) (rest := []) ⟨hx, hb, hml, hown, htB⟩ (zc_X_lineOf l dC dI cI cZ cL  s.heap.size  p1 ) (va_cwS 1 htB (zz_gS zk_fcb9702c zk_bd1d2622 zk_cfe38e2e zk_7540bdb8) rfl rfl rfl zh_X_lineOf ⟨Nat.le_of_ble_eq_true rfl, Nat.le_of_ble_eq_true rfl⟩) (zz_preS hP hD hK hE [] (by decide) rfl) rfl rfl hl.1 rfl (lv_room (Nat.le_of_ble_eq_true rfl)) zd_X_packedByte_16 ⟨Nat.le_of_ble_eq_true rfl, Nat.le_of_ble_eq_true rfl⟩) ?_
      refine lv_i2b hx hb zd_X_packedByte_19 rfl ?_
      rw [(show zf_X_packedByte st p1 p2 = (zf_X_lineOf p1).toInt8.toInt32 from by rw [zf_X_packedByte, if_neg c_1, if_pos c_12])]
      exact zz_kzret hx hb hr hlocks (pk_nb _) zd_X_packedByte_20 rfl
  · refine lv_iload_n hx hb zd_X_packedByte_4 rfl (lv_at hl 1 rfl) ?_
    refine zz_ki (va_runS (As := [.int p1]) (rest := []) ⟨hx, hb, hml, hown, htB⟩ (zc_X_fieldOf l dC dI cI cZ cL  s.heap.size  p1 ) (va_cwS 1 htB (zz_gS zk_a091db21 zk_82f2c4f0 zk_cfe38e2e zk_1944e685) rfl rfl rfl zh_X_fieldOf ⟨Nat.le_of_ble_eq_true rfl, Nat.le_of_ble_eq_true rfl⟩) (zz_preS hP hD hK hE [] (by decide) rfl) rfl rfl hl.1 rfl (lv_room (Nat.le_of_ble_eq_true rfl)) zd_X_packedByte_5 ⟨Nat.le_of_ble_eq_true rfl, Nat.le_of_ble_eq_true rfl⟩) ?_
    refine lv_i2b hx hb zd_X_packedByte_8 rfl ?_
    rw [(show zf_X_packedByte st p1 p2 = (zf_X_fieldOf p1).toInt8.toInt32 from by rw [zf_X_packedByte, if_pos c_1])]
    exact zz_kzret hx hb hr hlocks (pk_nb _) zd_X_packedByte_9 rfl
set_option maxHeartbeats 4000000 in
set_option maxRecDepth 100000 in
theorem zc_X_remove (l : Launch) (dC : Nat → ClassId) (dI : Nat → Nat → Nat) (cI cZ cL : ClassId) (a0 a1 a2 a3 a4 a5 a6 a7 a8 a9 a10 a11 : Nat) (sz : Nat) (st : zu_X) (p1 : Int32) (hp : st.2.2.2.1.2.2.2 ≤ 20) : Met l zy_X_remove (zz_ws zy_X_remove zb_X_remove 2 (some .int)) ({ frames := 2, cells := 0, slots := 0, locals := 45 } : Room) (va_Pc ([.ref a0, .int p1] : List Value) (zz_P (dC, dI) (zz_ty cI cZ cL) sz (zw_X cI cZ cL a0 a1 a2 a3 a4 a5 a6 a7 a8 a9 a10 a11 st))) (zz_Qi (dC, dI) (zz_ty cI cZ cL) (va_A (zw_X cI cZ cL a0 a1 a2 a3 a4 a5 a6 a7 a8 a9 a10 a11 st) sz) ((zf_X_remove st p1).1) (zw_X cI cZ cL a0 a1 a2 a3 a4 a5 a6 a7 a8 a9 a10 a11 ((zf_X_remove st p1).2))) 0 0 (va_A (zw_X cI cZ cL a0 a1 a2 a3 a4 a5 a6 a7 a8 a9 a10 a11 st) sz) := by
  refine zz_ofW (Q := fun A => (zz_Qi (dC, dI) (zz_ty cI cZ cL) A ((zf_X_remove st p1).1) (zw_X cI cZ cL a0 a1 a2 a3 a4 a5 a6 a7 a8 a9 a10 a11 ((zf_X_remove st p1).2)))) (by decide) (Nat.le_of_ble_eq_true rfl) ?_
  intro p e s m below meth c A C0 _ hA hK hP hD _ ls hl
  obtain ⟨hx, hb, hr, hml, hown, htB, hlocks, hE⟩ := id C0
  have hS : va_S A s.heap s.heap [] := va_S.rf
  have hl : lv_has ls 2 [(0, .ref a0), (1, .int p1)] := hl
  refine lv_aload_n hx hb zd_X_remove_0 rfl (lv_at hl 0 rfl) ?_
  refine va_get (D := (dC, dI)) (ci := 0) (v := .int st.2.2.2.2.2.2) (C := zr_X) (T := zF_X) (N := 7) hx hb htB zi_X hown hK hP 0 rfl rfl 6 (by decide) (htB _ zk_a72d337f) (fun _ h9 => h9) rfl zd_X_remove_1 ?_
  refine lv_if_ne (tgt := 18) hx hb zd_X_remove_4 (by decide) (fun c_4 => ?_) (fun c_4 => ?_)
  · refine lv_iconst (v := (-1)) hx hb zd_X_remove_18 (by decide) ?_
    rw [(show zf_X_remove st p1 = ((-1), st) from by rw [zf_X_remove, if_neg c_4])]
    exact zz_iret hx hb hr hlocks hK hP hD hS zd_X_remove_19 rfl
  · refine lv_aload_n hx hb zd_X_remove_7 rfl (lv_at hl 0 rfl) ?_
    refine va_get (D := (dC, dI)) (ci := 0) (v := .ref a1) (C := zr_X) (T := zF_X) (N := 7) hx hb htB zi_X hown hK hP 0 rfl rfl 1 (by decide) (htB _ zk_ac6f5f75) (fun _ h9 => h9) rfl zd_X_remove_8 ?_
    refine lv_iload_n hx hb zd_X_remove_11 rfl (lv_at hl 1 rfl) ?_
    refine zz_ki (va_runV (As := [.int p1]) (rest := []) ⟨hx, hb, hml, hown, htB⟩ (zc_S_hasLine l dC dI cI cZ cL a1 a2 a3 s.heap.size st.2.1 p1 ) (cwV 1 htB (zz_gV zk_e942dd41 zk_3871fc92 zk_c72ec03e zk_f1a23aa7 zk_33cddec9) rfl rfl rfl ⟨rfl, zh_S_hasLine⟩ ⟨Nat.le_of_ble_eq_true rfl, Nat.le_of_ble_eq_true rfl⟩) (zz_preV (ci := 1) (q := (zr_S, zF_S, 5)) hP hD hK hE [1, 2, 3] (by decide) rfl rfl rfl) rfl rfl hl.1 rfl (lv_room (Nat.le_of_ble_eq_true rfl)) zd_X_remove_12 ⟨Nat.le_of_ble_eq_true rfl, Nat.le_of_ble_eq_true rfl⟩) ?_
    refine lv_if_ne (tgt := 20) hx hb zd_X_remove_15 (by decide) (fun c_15 => ?_) (fun c_15 => ?_)
    · refine lv_aload_n hx hb zd_X_remove_20 rfl (lv_at hl 0 rfl) ?_
      refine va_get (D := (dC, dI)) (ci := 0) (v := .ref a7) (C := zr_X) (T := zF_X) (N := 7) hx hb htB zi_X hown hK hP 0 rfl rfl 3 (by decide) (htB _ zk_4f9de2f5) (fun _ h9 => h9) rfl zd_X_remove_21 ?_
      refine lv_iload_n hx hb zd_X_remove_24 rfl (lv_at hl 1 rfl) ?_
      refine zz_cv (va_runV (As := [.int p1]) (rest := []) ⟨hx, hb, hml, hown, htB⟩ (zc_P_giveBack l dC dI cI cZ cL a7 a8 a9 a10 s.heap.size st.2.2.2.1 p1 hp) (cwV 1 htB (zz_gV zk_53df6765 zk_388ab2dc zk_a048ec62 zk_f301a5bc zk_9da3a71d) rfl rfl rfl ⟨rfl, zh_P_giveBack⟩ ⟨Nat.le_of_ble_eq_true rfl, Nat.le_of_ble_eq_true rfl⟩) (zz_preV (ci := 3) (q := (zr_P, zF_P, 4)) hP hD hK hE [7, 8, 9, 10] (by decide) rfl rfl rfl) rfl rfl hl.1 rfl (lv_room (Nat.le_of_ble_eq_true rfl)) zd_X_remove_25 ⟨Nat.le_of_ble_eq_true rfl, Nat.le_of_ble_eq_true rfl⟩) hP hD hS hA [7, 8, 9, 10] [0, 1, 2, 3, 4, 5, 6, 11] [0, 1, 2, 3, 4, 5, 6, 8, 9, 10, 11, 7] rfl rfl (by decide) (by decide) (by decide) rfl (fun H locs hP hD hS => ?_)
      have hP : va_P (dC, dI) zz_cl (zw_X cI cZ cL a0 a1 a2 a3 a4 a5 a6 a7 a8 a9 a10 a11 (st.1, st.2.1, st.2.2.1, (zf_P_giveBack st.2.2.2.1 p1), st.2.2.2.2.1, st.2.2.2.2.2.1, st.2.2.2.2.2.2)) H := hP
      have hD : va_D A (zw_X cI cZ cL a0 a1 a2 a3 a4 a5 a6 a7 a8 a9 a10 a11 (st.1, st.2.1, st.2.2.1, (zf_P_giveBack st.2.2.2.1 p1), st.2.2.2.2.1, st.2.2.2.2.2.1, st.2.2.2.2.2.2)) := hD
      refine lv_aload_n hx hb zd_X_remove_28 rfl (lv_at hl 0 rfl) ?_
      refine va_get (D := (dC, dI)) (ci := 0) (v := .ref a1) (C := zr_X) (T := zF_X) (N := 7) hx hb htB zi_X hown hK hP 0 rfl rfl 1 (by decide) (htB _ zk_ac6f5f75) (fun _ h9 => h9) rfl zd_X_remove_29 ?_
      refine lv_iload_n hx hb zd_X_remove_32 rfl (lv_at hl 1 rfl) ?_
      refine zz_ci (va_runV (As := [.int p1]) (rest := []) ⟨hx, hb, hml, hown, htB⟩ (zc_S_dropLine l dC dI cI cZ cL a1 a2 a3 H.size st.2.1 p1 ) (cwV 1 htB (zz_gV zk_c5885611 zk_4b7e294d zk_6f360118 zk_f1a23aa7 zk_8171e81f) rfl rfl rfl ⟨rfl, zh_S_dropLine⟩ ⟨Nat.le_of_ble_eq_true rfl, Nat.le_of_ble_eq_true rfl⟩) (zz_preV (ci := 1) (q := (zr_S, zF_S, 5)) hP hD hK hE [1, 2, 3] (by decide) rfl rfl rfl) rfl rfl hl.1 rfl (lv_room (Nat.le_of_ble_eq_true rfl)) zd_X_remove_33 ⟨Nat.le_of_ble_eq_true rfl, Nat.le_of_ble_eq_true rfl⟩) hP hD hS hA [1, 2, 3] [0, 4, 5, 6, 7, 8, 9, 10, 11] [0, 9, 10, 11, 1, 2, 3, 4, 5, 6, 7, 8] rfl rfl (by decide) (by decide) (by decide) rfl (fun H locs hP hD hS => ?_)
      have hP : va_P (dC, dI) zz_cl (zw_X cI cZ cL a0 a1 a2 a3 a4 a5 a6 a7 a8 a9 a10 a11 (st.1, (zf_S_dropLine st.2.1 p1).2, st.2.2.1, (zf_P_giveBack st.2.2.2.1 p1), st.2.2.2.2.1, st.2.2.2.2.2.1, st.2.2.2.2.2.2)) H := hP
      have hD : va_D A (zw_X cI cZ cL a0 a1 a2 a3 a4 a5 a6 a7 a8 a9 a10 a11 (st.1, (zf_S_dropLine st.2.1 p1).2, st.2.2.1, (zf_P_giveBack st.2.2.2.1 p1), st.2.2.2.2.1, st.2.2.2.2.2.1, st.2.2.2.2.2.2)) := hD
      rw [(show zf_X_remove st p1 = ((zf_S_dropLine st.2.1 p1).1, (st.1, (zf_S_dropLine st.2.1 p1).2, st.2.2.1, (zf_P_giveBack st.2.2.2.1 p1), st.2.2.2.2.1, st.2.2.2.2.2.1, st.2.2.2.2.2.2)) from by rw [zf_X_remove, if_pos c_4, if_neg c_15])]
      exact zz_iret hx hb hr hlocks hK hP hD hS zd_X_remove_36 rfl
    · refine lv_iconst (v := (-1)) hx hb zd_X_remove_18 (by decide) ?_
      rw [(show zf_X_remove st p1 = ((-1), st) from by rw [zf_X_remove, if_pos c_4, if_pos c_15])]
      exact zz_iret hx hb hr hlocks hK hP hD hS zd_X_remove_19 rfl
set_option maxHeartbeats 4000000 in
set_option maxRecDepth 100000 in
theorem zc_X_clear (l : Launch) (dC : Nat → ClassId) (dI : Nat → Nat → Nat) (cI cZ cL : ClassId) (a0 a1 a2 a3 a4 a5 a6 a7 a8 a9 a10 a11 : Nat) (sz : Nat) (st : zu_X) (p1 : Int32) (p2 : Int32)  : Met l zy_X_clear (zz_ws zy_X_clear zb_X_clear 4 (some .boolean)) ({ frames := 2, cells := 0, slots := 0, locals := 43 } : Room) (va_Pc ([.ref a0, .int p1, .int p2] : List Value) (zz_P (dC, dI) (zz_ty cI cZ cL) sz (zw_X cI cZ cL a0 a1 a2 a3 a4 a5 a6 a7 a8 a9 a10 a11 st))) (zz_Qi (dC, dI) (zz_ty cI cZ cL) (va_A (zw_X cI cZ cL a0 a1 a2 a3 a4 a5 a6 a7 a8 a9 a10 a11 st) sz) ((zf_X_clear st p1 p2).1) (zw_X cI cZ cL a0 a1 a2 a3 a4 a5 a6 a7 a8 a9 a10 a11 ((zf_X_clear st p1 p2).2))) 0 0 (va_A (zw_X cI cZ cL a0 a1 a2 a3 a4 a5 a6 a7 a8 a9 a10 a11 st) sz) := by
  refine zz_ofW (Q := fun A => (zz_Qi (dC, dI) (zz_ty cI cZ cL) A ((zf_X_clear st p1 p2).1) (zw_X cI cZ cL a0 a1 a2 a3 a4 a5 a6 a7 a8 a9 a10 a11 ((zf_X_clear st p1 p2).2)))) (by decide) (Nat.le_of_ble_eq_true rfl) ?_
  intro p e s m below meth c A C0 _ hA hK hP hD _ ls hl
  obtain ⟨hx, hb, hr, hml, hown, htB, hlocks, hE⟩ := id C0
  have hS : va_S A s.heap s.heap [] := va_S.rf
  have hl : lv_has ls 4 [(0, .ref a0), (1, .int p1), (2, .int p2)] := hl
  refine lv_aload_n hx hb zd_X_clear_0 rfl (lv_at hl 0 rfl) ?_
  refine va_get (D := (dC, dI)) (ci := 0) (v := .ref a1) (C := zr_X) (T := zF_X) (N := 7) hx hb htB zi_X hown hK hP 0 rfl rfl 1 (by decide) (htB _ zk_ac6f5f75) (fun _ h9 => h9) rfl zd_X_clear_1 ?_
  refine lv_iload_n hx hb zd_X_clear_4 rfl (lv_at hl 1 rfl) ?_
  refine lv_iload_n hx hb zd_X_clear_5 rfl (lv_at hl 2 rfl) ?_
  refine zz_ki (va_runV (As := [.int p1, .int p2]) (rest := []) ⟨hx, hb, hml, hown, htB⟩ (zc_S_slotOf l dC dI cI cZ cL a1 a2 a3 s.heap.size st.2.1 p1 p2 ) (cwV 2 htB (zz_gV zk_3749943e zk_13757a2f zk_9f779419 zk_f1a23aa7 zk_e4817253) rfl rfl rfl ⟨rfl, zh_S_slotOf⟩ ⟨Nat.le_of_ble_eq_true rfl, Nat.le_of_ble_eq_true rfl⟩) (zz_preV (ci := 1) (q := (zr_S, zF_S, 5)) hP hD hK hE [1, 2, 3] (by decide) rfl rfl rfl) rfl rfl hl.1 rfl (lv_room (Nat.le_of_ble_eq_true rfl)) zd_X_clear_6 ⟨Nat.le_of_ble_eq_true rfl, Nat.le_of_ble_eq_true rfl⟩) ?_
  refine lv_istore_n (lv' := [(3, .int (zf_S_slotOf st.2.1 p1 p2)), (0, .ref a0), (1, .int p1), (2, .int p2)]) hx hb zd_X_clear_9 rfl hl (by decide) rfl (fun ls hl => ?_)
  refine lv_aload_n hx hb zd_X_clear_10 rfl (lv_at hl 1 rfl) ?_
  refine va_get (D := (dC, dI)) (ci := 0) (v := .int st.2.2.2.2.2.2) (C := zr_X) (T := zF_X) (N := 7) hx hb htB zi_X hown hK hP 0 rfl rfl 6 (by decide) (htB _ zk_a72d337f) (fun _ h9 => h9) rfl zd_X_clear_11 ?_
  refine lv_if_ne (tgt := 34) hx hb zd_X_clear_14 (by decide) (fun c_14 => ?_) (fun c_14 => ?_)
  · refine lv_iconst (v := 0) hx hb zd_X_clear_34 (by decide) ?_
    rw [(show zf_X_clear st p1 p2 = (0, st) from by rw [zf_X_clear, if_neg c_14])]
    exact zz_zret hx hb hr hlocks narrow_b0 hK hP hD hS zd_X_clear_35 rfl
  · refine lv_iload_n hx hb zd_X_clear_17 rfl (lv_at hl 0 rfl) ?_
    refine lv_iconst (v := (-1)) hx hb zd_X_clear_18 (by decide) ?_
    refine lv_icmp_eq (tgt := 34) hx hb zd_X_clear_19 (by decide) (fun c_19 => ?_) (fun c_19 => ?_)
    · refine lv_iconst (v := 0) hx hb zd_X_clear_34 (by decide) ?_
      rw [(show zf_X_clear st p1 p2 = (0, st) from by rw [zf_X_clear, if_pos c_14, if_pos c_19])]
      exact zz_zret hx hb hr hlocks narrow_b0 hK hP hD hS zd_X_clear_35 rfl
    · refine lv_aload_n hx hb zd_X_clear_22 rfl (lv_at hl 1 rfl) ?_
      refine va_get (D := (dC, dI)) (ci := 0) (v := .ref a1) (C := zr_X) (T := zF_X) (N := 7) hx hb htB zi_X hown hK hP 0 rfl rfl 1 (by decide) (htB _ zk_ac6f5f75) (fun _ h9 => h9) rfl zd_X_clear_23 ?_
      refine lv_iload_n hx hb zd_X_clear_26 rfl (lv_at hl 0 rfl) ?_
      refine zz_ki (va_runV (As := [.int (zf_S_slotOf st.2.1 p1 p2)]) (rest := []) ⟨hx, hb, hml, hown, htB⟩ (zc_S_valueAt l dC dI cI cZ cL a1 a2 a3 s.heap.size st.2.1 (zf_S_slotOf st.2.1 p1 p2) ) (cwV 1 htB (zz_gV zk_79454776 zk_1fa0ab90 zk_4c70df44 zk_f1a23aa7 zk_fdbb5e96) rfl rfl rfl ⟨rfl, zh_S_valueAt⟩ ⟨Nat.le_of_ble_eq_true rfl, Nat.le_of_ble_eq_true rfl⟩) (zz_preV (ci := 1) (q := (zr_S, zF_S, 5)) hP hD hK hE [1, 2, 3] (by decide) rfl rfl rfl) rfl rfl hl.1 rfl (lv_room (Nat.le_of_ble_eq_true rfl)) zd_X_clear_27 ⟨Nat.le_of_ble_eq_true rfl, Nat.le_of_ble_eq_true rfl⟩) ?_
      refine lv_iconst (v := (-1)) hx hb zd_X_clear_30 (by decide) ?_
      refine lv_icmp_ne (tgt := 36) hx hb zd_X_clear_31 (by decide) (fun c_31 => ?_) (fun c_31 => ?_)
      · refine lv_aload_n hx hb zd_X_clear_36 rfl (lv_at hl 1 rfl) ?_
        refine va_get (D := (dC, dI)) (ci := 0) (v := .ref a1) (C := zr_X) (T := zF_X) (N := 7) hx hb htB zi_X hown hK hP 0 rfl rfl 1 (by decide) (htB _ zk_ac6f5f75) (fun _ h9 => h9) rfl zd_X_clear_37 ?_
        refine lv_iload_n hx hb zd_X_clear_40 rfl (lv_at hl 0 rfl) ?_
        refine lv_iconst (v := (-1)) hx hb zd_X_clear_41 (by decide) ?_
        refine zz_cv (va_runV (As := [.int (zf_S_slotOf st.2.1 p1 p2), .int (-1)]) (rest := []) ⟨hx, hb, hml, hown, htB⟩ (zc_S_put l dC dI cI cZ cL a1 a2 a3 s.heap.size st.2.1 (zf_S_slotOf st.2.1 p1 p2) (-1) ) (cwV 2 htB (zz_gV zk_f54cd352 zk_7151ae50 zk_2e2e7b1b zk_f1a23aa7 zk_29ef983f) rfl rfl rfl ⟨rfl, zh_S_put⟩ ⟨Nat.le_of_ble_eq_true rfl, Nat.le_of_ble_eq_true rfl⟩) (zz_preV (ci := 1) (q := (zr_S, zF_S, 5)) hP hD hK hE [1, 2, 3] (by decide) rfl rfl rfl) rfl rfl hl.1 rfl (lv_room (Nat.le_of_ble_eq_true rfl)) zd_X_clear_42 ⟨Nat.le_of_ble_eq_true rfl, Nat.le_of_ble_eq_true rfl⟩) hP hD hS hA [1, 2, 3] [0, 4, 5, 6, 7, 8, 9, 10, 11] [0, 9, 10, 11, 1, 2, 3, 4, 5, 6, 7, 8] rfl rfl (by decide) (by decide) (by decide) rfl (fun H locs hP hD hS => ?_)
        have hP : va_P (dC, dI) zz_cl (zw_X cI cZ cL a0 a1 a2 a3 a4 a5 a6 a7 a8 a9 a10 a11 (st.1, (zf_S_put st.2.1 (zf_S_slotOf st.2.1 p1 p2) (-1)), st.2.2.1, st.2.2.2.1, st.2.2.2.2.1, st.2.2.2.2.2.1, st.2.2.2.2.2.2)) H := hP
        have hD : va_D A (zw_X cI cZ cL a0 a1 a2 a3 a4 a5 a6 a7 a8 a9 a10 a11 (st.1, (zf_S_put st.2.1 (zf_S_slotOf st.2.1 p1 p2) (-1)), st.2.2.1, st.2.2.2.1, st.2.2.2.2.1, st.2.2.2.2.2.1, st.2.2.2.2.2.2)) := hD
        refine lv_iconst (v := 1) hx hb zd_X_clear_45 (by decide) ?_
        rw [(show zf_X_clear st p1 p2 = (1, (st.1, (zf_S_put st.2.1 (zf_S_slotOf st.2.1 p1 p2) (-1)), st.2.2.1, st.2.2.2.1, st.2.2.2.2.1, st.2.2.2.2.2.1, st.2.2.2.2.2.2)) from by rw [zf_X_clear, if_pos c_14, if_neg c_19, if_neg c_31])]
        exact zz_zret hx hb hr hlocks narrow_b1 hK hP hD hS zd_X_clear_46 rfl
      · refine lv_iconst (v := 0) hx hb zd_X_clear_34 (by decide) ?_
        rw [(show zf_X_clear st p1 p2 = (0, st) from by rw [zf_X_clear, if_pos c_14, if_neg c_19, if_pos c_31])]
        exact zz_zret hx hb hr hlocks narrow_b0 hK hP hD hS zd_X_clear_35 rfl
set_option maxHeartbeats 4000000 in
set_option maxRecDepth 100000 in
theorem zc_X_code (l : Launch) (dC : Nat → ClassId) (dI : Nat → Nat → Nat) (cI cZ cL : ClassId) (a0 a1 a2 a3 a4 a5 a6 a7 a8 a9 a10 a11 : Nat) (sz : Nat) (st : zu_X) (p1 : Int64) (p3 : Int32) (hc : st.2.2.1.2.2 ≤ 20) : Met l zy_X_code (zz_ws zy_X_code zb_X_code 4 (some .boolean)) ({ frames := 2, cells := 0, slots := 0, locals := 45 } : Room) (va_Pc ([.ref a0, .long p1, .int p3] : List Value) (zz_P (dC, dI) (zz_ty cI cZ cL) sz (zw_X cI cZ cL a0 a1 a2 a3 a4 a5 a6 a7 a8 a9 a10 a11 st))) (zz_Qi (dC, dI) (zz_ty cI cZ cL) (va_A (zw_X cI cZ cL a0 a1 a2 a3 a4 a5 a6 a7 a8 a9 a10 a11 st) sz) ((zf_X_code st p1 p3).1) (zw_X cI cZ cL a0 a1 a2 a3 a4 a5 a6 a7 a8 a9 a10 a11 ((zf_X_code st p1 p3).2))) 0 0 (va_A (zw_X cI cZ cL a0 a1 a2 a3 a4 a5 a6 a7 a8 a9 a10 a11 st) sz) := by
  refine zz_ofW (Q := fun A => (zz_Qi (dC, dI) (zz_ty cI cZ cL) A ((zf_X_code st p1 p3).1) (zw_X cI cZ cL a0 a1 a2 a3 a4 a5 a6 a7 a8 a9 a10 a11 ((zf_X_code st p1 p3).2)))) (by decide) (Nat.le_of_ble_eq_true rfl) ?_
  intro p e s m below meth c A C0 _ hA hK hP hD _ ls hl
  obtain ⟨hx, hb, hr, hml, hown, htB, hlocks, hE⟩ := id C0
  have hS : va_S A s.heap s.heap [] := va_S.rf
  have hl : lv_has ls 4 [(0, .ref a0), (1, .long p1), (3, .int p3)] := hl
  refine lv_lload_n hx hb zd_X_code_0 rfl (lv_at hl 1 rfl) ?_
  refine zz_ki (va_runS (As := [.long p1]) (rest := []) ⟨hx, hb, hml, hown, htB⟩ (zc_X_isValue l dC dI cI cZ cL  s.heap.size  p1 ) (va_cwS 1 htB (zz_gS zk_a4e11230 zk_aa84806c zk_cfe38e2e zk_39170c80) rfl rfl rfl zh_X_isValue ⟨Nat.le_of_ble_eq_true rfl, Nat.le_of_ble_eq_true rfl⟩) (zz_preS hP hD hK hE [] (by decide) rfl) rfl rfl hl.1 rfl (lv_room (Nat.le_of_ble_eq_true rfl)) zd_X_code_1 ⟨Nat.le_of_ble_eq_true rfl, Nat.le_of_ble_eq_true rfl⟩) ?_
  refine lv_if_eq (tgt := 17) hx hb zd_X_code_4 (by decide) (fun c_4 => ?_) (fun c_4 => ?_)
  · refine lv_iconst (v := 0) hx hb zd_X_code_17 (by decide) ?_
    rw [(show zf_X_code st p1 p3 = (0, st) from by rw [zf_X_code, if_pos c_4])]
    exact zz_zret hx hb hr hlocks narrow_b0 hK hP hD hS zd_X_code_18 rfl
  · refine lv_iload_n hx hb zd_X_code_7 rfl (lv_at hl 2 rfl) ?_
    refine lv_if_lt (tgt := 17) hx hb zd_X_code_8 (by decide) (fun c_8 => ?_) (fun c_8 => ?_)
    · refine lv_iconst (v := 0) hx hb zd_X_code_17 (by decide) ?_
      rw [(show zf_X_code st p1 p3 = (0, st) from by rw [zf_X_code, if_neg c_4, if_pos c_8])]
      exact zz_zret hx hb hr hlocks narrow_b0 hK hP hD hS zd_X_code_18 rfl
    · refine lv_iload_n hx hb zd_X_code_11 rfl (lv_at hl 2 rfl) ?_
      refine lv_ldc (v := 100000) hx hb hown (htB _ zk_fe2527bb) zd_X_code_12 ?_
      refine lv_icmp_le (tgt := 19) hx hb zd_X_code_14 (by decide) (fun c_14 => ?_) (fun c_14 => ?_)
      · refine lv_aload_n hx hb zd_X_code_19 rfl (lv_at hl 0 rfl) ?_
        refine va_get (D := (dC, dI)) (ci := 0) (v := .ref a4) (C := zr_X) (T := zF_X) (N := 7) hx hb htB zi_X hown hK hP 0 rfl rfl 2 (by decide) (htB _ zk_92bcf320) (fun _ h9 => h9) rfl zd_X_code_20 ?_
        refine lv_lload_n hx hb zd_X_code_23 rfl (lv_at hl 1 rfl) ?_
        refine lv_l2i hx hb zd_X_code_24 rfl ?_
        refine lv_iload_n hx hb zd_X_code_25 rfl (lv_at hl 2 rfl) ?_
        refine zz_ci (va_runV (As := [.int p1.toInt32, .int p3]) (rest := []) ⟨hx, hb, hml, hown, htB⟩ (zc_C_tell l dC dI cI cZ cL a4 a5 a6 s.heap.size st.2.2.1 p1.toInt32 p3 hc) (cwV 2 htB (zz_gV zk_42930984 zk_48dda302 zk_12cf4ec3 zk_e143c677 zk_46e44973) rfl rfl rfl ⟨rfl, zh_C_tell⟩ ⟨Nat.le_of_ble_eq_true rfl, Nat.le_of_ble_eq_true rfl⟩) (zz_preV (ci := 2) (q := (zr_C, zF_C, 3)) hP hD hK hE [4, 5, 6] (by decide) rfl rfl rfl) rfl rfl hl.1 rfl (lv_room (Nat.le_of_ble_eq_true rfl)) zd_X_code_26 ⟨Nat.le_of_ble_eq_true rfl, Nat.le_of_ble_eq_true rfl⟩) hP hD hS hA [4, 5, 6] [0, 1, 2, 3, 7, 8, 9, 10, 11] [0, 1, 2, 3, 9, 10, 11, 4, 5, 6, 7, 8] rfl rfl (by decide) (by decide) (by decide) rfl (fun H locs hP hD hS => ?_)
        have hP : va_P (dC, dI) zz_cl (zw_X cI cZ cL a0 a1 a2 a3 a4 a5 a6 a7 a8 a9 a10 a11 (st.1, st.2.1, (zf_C_tell st.2.2.1 p1.toInt32 p3).2, st.2.2.2.1, st.2.2.2.2.1, st.2.2.2.2.2.1, st.2.2.2.2.2.2)) H := hP
        have hD : va_D A (zw_X cI cZ cL a0 a1 a2 a3 a4 a5 a6 a7 a8 a9 a10 a11 (st.1, st.2.1, (zf_C_tell st.2.2.1 p1.toInt32 p3).2, st.2.2.2.1, st.2.2.2.2.1, st.2.2.2.2.2.1, st.2.2.2.2.2.2)) := hD
        rw [(show zf_X_code st p1 p3 = ((zf_C_tell st.2.2.1 p1.toInt32 p3).1, (st.1, st.2.1, (zf_C_tell st.2.2.1 p1.toInt32 p3).2, st.2.2.2.1, st.2.2.2.2.1, st.2.2.2.2.2.1, st.2.2.2.2.2.2)) from by rw [zf_X_code, if_neg c_4, if_neg c_8, if_pos c_14])]
        exact zz_zret hx hb hr hlocks (zo_C_tell st.2.2.1 p1.toInt32 p3) hK hP hD hS zd_X_code_29 rfl
      · refine lv_iconst (v := 0) hx hb zd_X_code_17 (by decide) ?_
        rw [(show zf_X_code st p1 p3 = (0, st) from by rw [zf_X_code, if_neg c_4, if_neg c_8, if_neg c_14])]
        exact zz_zret hx hb hr hlocks narrow_b0 hK hP hD hS zd_X_code_18 rfl
set_option maxHeartbeats 4000000 in
set_option maxRecDepth 100000 in
theorem zc_X_day (l : Launch) (dC : Nat → ClassId) (dI : Nat → Nat → Nat) (cI cZ cL : ClassId) (a0 a1 a2 a3 a4 a5 a6 a7 a8 a9 a10 a11 : Nat) (sz : Nat) (st : zu_X) (p1 : Int32)  : Met l zy_X_day (zz_ws zy_X_day zb_X_day 2 (some .boolean)) ({ frames := 0, cells := 0, slots := 0, locals := 0 } : Room) (va_Pc ([.ref a0, .int p1] : List Value) (zz_P (dC, dI) (zz_ty cI cZ cL) sz (zw_X cI cZ cL a0 a1 a2 a3 a4 a5 a6 a7 a8 a9 a10 a11 st))) (zz_Qi (dC, dI) (zz_ty cI cZ cL) (va_A (zw_X cI cZ cL a0 a1 a2 a3 a4 a5 a6 a7 a8 a9 a10 a11 st) sz) ((zf_X_day st p1).1) (zw_X cI cZ cL a0 a1 a2 a3 a4 a5 a6 a7 a8 a9 a10 a11 ((zf_X_day st p1).2))) 0 0 (va_A (zw_X cI cZ cL a0 a1 a2 a3 a4 a5 a6 a7 a8 a9 a10 a11 st) sz) := by
  refine zz_ofW (Q := fun A => (zz_Qi (dC, dI) (zz_ty cI cZ cL) A ((zf_X_day st p1).1) (zw_X cI cZ cL a0 a1 a2 a3 a4 a5 a6 a7 a8 a9 a10 a11 ((zf_X_day st p1).2)))) (by decide) (Nat.le_of_ble_eq_true rfl) ?_
  intro p e s m below meth c A C0 _ hA hK hP hD _ ls hl
  obtain ⟨hx, hb, hr, hml, hown, htB, hlocks, hE⟩ := id C0
  have hS : va_S A s.heap s.heap [] := va_S.rf
  have hl : lv_has ls 2 [(0, .ref a0), (1, .int p1)] := hl
  refine lv_iload_n hx hb zd_X_day_0 rfl (lv_at hl 1 rfl) ?_
  refine lv_aload_n hx hb zd_X_day_1 rfl (lv_at hl 0 rfl) ?_
  refine va_get (D := (dC, dI)) (ci := 0) (v := .int st.2.2.2.2.2.1) (C := zr_X) (T := zF_X) (N := 7) hx hb htB zi_X hown hK hP 0 rfl rfl 5 (by decide) (htB _ zk_be002196) (fun _ h9 => h9) rfl zd_X_day_2 ?_
  refine lv_icmp_lt (tgt := 14) hx hb zd_X_day_5 (by decide) (fun c_5 => ?_) (fun c_5 => ?_)
  · refine lv_iconst (v := 0) hx hb zd_X_day_14 (by decide) ?_
    rw [(show zf_X_day st p1 = (0, st) from by rw [zf_X_day, if_pos c_5])]
    exact zz_zret hx hb hr hlocks narrow_b0 hK hP hD hS zd_X_day_15 rfl
  · refine lv_iload_n hx hb zd_X_day_8 rfl (lv_at hl 1 rfl) ?_
    refine lv_ldc (v := 100000) hx hb hown (htB _ zk_fe2527bb) zd_X_day_9 ?_
    refine lv_icmp_le (tgt := 16) hx hb zd_X_day_11 (by decide) (fun c_11 => ?_) (fun c_11 => ?_)
    · refine lv_aload_n hx hb zd_X_day_16 rfl (lv_at hl 0 rfl) ?_
      refine lv_iload_n hx hb zd_X_day_17 rfl (lv_at hl 1 rfl) ?_
      refine va_put (D := (dC, dI)) (ci := 0) (v := .int p1) (C := zr_X) (T := zF_X) (N := 7) hx hb htB zi_X zT_X zT_X_ok zn_X hown hK hP hD hS 0 rfl rfl 5 (by decide) (htB _ zk_be002196) (fun _ h9 => h9) rfl (zT_X_ok 5 (by decide)) rfl rfl (Nat.le_of_ble_eq_true rfl) zd_X_day_18 (fun H locs hP hD hS => ?_)
      have hP : va_P (dC, dI) zz_cl (zw_X cI cZ cL a0 a1 a2 a3 a4 a5 a6 a7 a8 a9 a10 a11 (st.1, st.2.1, st.2.2.1, st.2.2.2.1, st.2.2.2.2.1, p1, st.2.2.2.2.2.2)) H := hP
      have hD : va_D A (zw_X cI cZ cL a0 a1 a2 a3 a4 a5 a6 a7 a8 a9 a10 a11 (st.1, st.2.1, st.2.2.1, st.2.2.2.1, st.2.2.2.2.1, p1, st.2.2.2.2.2.2)) := hD
      refine lv_iconst (v := 1) hx hb zd_X_day_21 (by decide) ?_
      rw [(show zf_X_day st p1 = (1, (st.1, st.2.1, st.2.2.1, st.2.2.2.1, st.2.2.2.2.1, p1, st.2.2.2.2.2.2)) from by rw [zf_X_day, if_neg c_5, if_pos c_11])]
      exact zz_zret hx hb hr hlocks narrow_b1 hK hP hD hS zd_X_day_22 rfl
    · refine lv_iconst (v := 0) hx hb zd_X_day_14 (by decide) ?_
      rw [(show zf_X_day st p1 = (0, st) from by rw [zf_X_day, if_neg c_5, if_neg c_11])]
      exact zz_zret hx hb hr hlocks narrow_b0 hK hP hD hS zd_X_day_15 rfl
set_option maxHeartbeats 4000000 in
set_option maxRecDepth 100000 in
theorem zc_X_lodge (l : Launch) (dC : Nat → ClassId) (dI : Nat → Nat → Nat) (cI cZ cL : ClassId) (a0 a1 a2 a3 a4 a5 a6 a7 a8 a9 a10 a11 : Nat) (sz : Nat) (st : zu_X) (hc : st.2.2.1.2.2 ≤ 20) : Met l zy_X_lodge (zz_ws zy_X_lodge zb_X_lodge 1 (some .int)) ({ frames := 5, cells := 0, slots := 0, locals := 112 } : Room) (va_Pc ([.ref a0] : List Value) (zz_P (dC, dI) (zz_ty cI cZ cL) sz (zw_X cI cZ cL a0 a1 a2 a3 a4 a5 a6 a7 a8 a9 a10 a11 st))) (zz_Qi (dC, dI) (zz_ty cI cZ cL) (va_A (zw_X cI cZ cL a0 a1 a2 a3 a4 a5 a6 a7 a8 a9 a10 a11 st) sz) ((zf_X_lodge st).1) (zw_X cI cZ cL a0 a1 a2 a3 a4 a5 a6 a7 a8 a9 a10 a11 ((zf_X_lodge st).2))) 0 0 (va_A (zw_X cI cZ cL a0 a1 a2 a3 a4 a5 a6 a7 a8 a9 a10 a11 st) sz) := by
  refine zz_ofW (Q := fun A => (zz_Qi (dC, dI) (zz_ty cI cZ cL) A ((zf_X_lodge st).1) (zw_X cI cZ cL a0 a1 a2 a3 a4 a5 a6 a7 a8 a9 a10 a11 ((zf_X_lodge st).2)))) (by decide) (Nat.le_of_ble_eq_true rfl) ?_
  intro p e s m below meth c A C0 _ hA hK hP hD _ ls hl
  obtain ⟨hx, hb, hr, hml, hown, htB, hlocks, hE⟩ := id C0
  have hS : va_S A s.heap s.heap [] := va_S.rf
  have hl : lv_has ls 1 [(0, .ref a0)] := hl
  refine lv_aload_n hx hb zd_X_lodge_0 rfl (lv_at hl 0 rfl) ?_
  refine va_get (D := (dC, dI)) (ci := 0) (v := .int st.2.2.2.2.2.2) (C := zr_X) (T := zF_X) (N := 7) hx hb htB zi_X hown hK hP 0 rfl rfl 6 (by decide) (htB _ zk_a72d337f) (fun _ h9 => h9) rfl zd_X_lodge_1 ?_
  refine lv_if_ne (tgt := 14) hx hb zd_X_lodge_4 (by decide) (fun c_4 => ?_) (fun c_4 => ?_)
  · refine lv_iconst (v := 0) hx hb zd_X_lodge_14 (by decide) ?_
    rw [(show zf_X_lodge st = (0, st) from by rw [zf_X_lodge, if_neg c_4])]
    exact zz_iret hx hb hr hlocks hK hP hD hS zd_X_lodge_15 rfl
  · refine lv_aload_n hx hb zd_X_lodge_7 rfl (lv_at hl 0 rfl) ?_
    refine zz_ki (va_runV (As := []) (rest := []) ⟨hx, hb, hml, hown, htB⟩ (zc_X_check l dC dI cI cZ cL a0 a1 a2 a3 a4 a5 a6 a7 a8 a9 a10 a11 s.heap.size st  hc) (cwV 0 htB (zz_gV zk_2055cd9b zk_f6b6f3c5 zk_7115eaaf zk_cfe38e2e zk_dd3f9fec) rfl rfl rfl ⟨rfl, zh_X_check⟩ ⟨Nat.le_of_ble_eq_true rfl, Nat.le_of_ble_eq_true rfl⟩) (zz_preV (ci := 0) (q := (zr_X, zF_X, 7)) hP hD hK hE [0, 1, 2, 3, 4, 5, 6, 7, 8, 9, 10, 11] (by decide) rfl rfl rfl) rfl rfl hl.1 rfl (lv_room (Nat.le_of_ble_eq_true rfl)) zd_X_lodge_8 ⟨Nat.le_of_ble_eq_true rfl, Nat.le_of_ble_eq_true rfl⟩) ?_
    refine lv_if_eq (tgt := 16) hx hb zd_X_lodge_11 (by decide) (fun c_11 => ?_) (fun c_11 => ?_)
    · refine lv_aload_n hx hb zd_X_lodge_16 rfl (lv_at hl 0 rfl) ?_
      refine lv_iconst (v := 1) hx hb zd_X_lodge_17 (by decide) ?_
      refine va_put (D := (dC, dI)) (ci := 0) (v := .int 1) (C := zr_X) (T := zF_X) (N := 7) hx hb htB zi_X zT_X zT_X_ok zn_X hown hK hP hD hS 0 rfl rfl 6 (by decide) (htB _ zk_a72d337f) (fun _ h9 => h9) rfl (zT_X_ok 6 (by decide)) rfl rfl (Nat.le_of_ble_eq_true rfl) zd_X_lodge_18 (fun H locs hP hD hS => ?_)
      have hP : va_P (dC, dI) zz_cl (zw_X cI cZ cL a0 a1 a2 a3 a4 a5 a6 a7 a8 a9 a10 a11 (st.1, st.2.1, st.2.2.1, st.2.2.2.1, st.2.2.2.2.1, st.2.2.2.2.2.1, 1)) H := hP
      have hD : va_D A (zw_X cI cZ cL a0 a1 a2 a3 a4 a5 a6 a7 a8 a9 a10 a11 (st.1, st.2.1, st.2.2.1, st.2.2.2.1, st.2.2.2.2.1, st.2.2.2.2.2.1, 1)) := hD
      refine lv_iconst (v := 1) hx hb zd_X_lodge_21 (by decide) ?_
      rw [(show zf_X_lodge st = (1, (st.1, st.2.1, st.2.2.1, st.2.2.2.1, st.2.2.2.2.1, st.2.2.2.2.2.1, 1)) from by rw [zf_X_lodge, if_pos c_4, if_pos c_11])]
      exact zz_iret hx hb hr hlocks hK hP hD hS zd_X_lodge_22 rfl
    · refine lv_iconst (v := 0) hx hb zd_X_lodge_14 (by decide) ?_
      rw [(show zf_X_lodge st = (0, st) from by rw [zf_X_lodge, if_pos c_4, if_neg c_11])]
      exact zz_iret hx hb hr hlocks hK hP hD hS zd_X_lodge_15 rfl
set_option maxHeartbeats 4000000 in
set_option maxRecDepth 100000 in
theorem zc_X_paper (l : Launch) (dC : Nat → ClassId) (dI : Nat → Nat → Nat) (cI cZ cL : ClassId) (a0 a1 a2 a3 a4 a5 a6 a7 a8 a9 a10 a11 : Nat) (sz : Nat) (st : zu_X) (p1 : Int32) (p2 : Int32) (hp : st.2.2.2.1.2.2.2 ≤ 20) : Met l zy_X_paper (zz_ws zy_X_paper zb_X_paper 3 (some .boolean)) ({ frames := 2, cells := 0, slots := 0, locals := 44 } : Room) (va_Pc ([.ref a0, .int p1, .int p2] : List Value) (zz_P (dC, dI) (zz_ty cI cZ cL) sz (zw_X cI cZ cL a0 a1 a2 a3 a4 a5 a6 a7 a8 a9 a10 a11 st))) (zz_Qi (dC, dI) (zz_ty cI cZ cL) (va_A (zw_X cI cZ cL a0 a1 a2 a3 a4 a5 a6 a7 a8 a9 a10 a11 st) sz) ((zf_X_paper st p1 p2).1) (zw_X cI cZ cL a0 a1 a2 a3 a4 a5 a6 a7 a8 a9 a10 a11 ((zf_X_paper st p1 p2).2))) 0 0 (va_A (zw_X cI cZ cL a0 a1 a2 a3 a4 a5 a6 a7 a8 a9 a10 a11 st) sz) := by
  refine zz_ofW (Q := fun A => (zz_Qi (dC, dI) (zz_ty cI cZ cL) A ((zf_X_paper st p1 p2).1) (zw_X cI cZ cL a0 a1 a2 a3 a4 a5 a6 a7 a8 a9 a10 a11 ((zf_X_paper st p1 p2).2)))) (by decide) (Nat.le_of_ble_eq_true rfl) ?_
  intro p e s m below meth c A C0 _ hA hK hP hD _ ls hl
  obtain ⟨hx, hb, hr, hml, hown, htB, hlocks, hE⟩ := id C0
  have hS : va_S A s.heap s.heap [] := va_S.rf
  have hl : lv_has ls 3 [(0, .ref a0), (1, .int p1), (2, .int p2)] := hl
  refine lv_iload_n hx hb zd_X_paper_0 rfl (lv_at hl 1 rfl) ?_
  refine lv_iconst (v := 1) hx hb zd_X_paper_1 (by decide) ?_
  refine lv_icmp_lt (tgt := 21) hx hb zd_X_paper_2 (by decide) (fun c_2 => ?_) (fun c_2 => ?_)
  · refine lv_iconst (v := 0) hx hb zd_X_paper_21 (by decide) ?_
    rw [(show zf_X_paper st p1 p2 = (0, st) from by rw [zf_X_paper, if_pos c_2])]
    exact zz_zret hx hb hr hlocks narrow_b0 hK hP hD hS zd_X_paper_22 rfl
  · refine lv_iload_n hx hb zd_X_paper_5 rfl (lv_at hl 1 rfl) ?_
    refine lv_ldc (v := 1000000) hx hb hown (htB _ zk_2f026ba4) zd_X_paper_6 ?_
    refine lv_icmp_gt (tgt := 21) hx hb zd_X_paper_8 (by decide) (fun c_8 => ?_) (fun c_8 => ?_)
    · refine lv_iconst (v := 0) hx hb zd_X_paper_21 (by decide) ?_
      rw [(show zf_X_paper st p1 p2 = (0, st) from by rw [zf_X_paper, if_neg c_2, if_pos c_8])]
      exact zz_zret hx hb hr hlocks narrow_b0 hK hP hD hS zd_X_paper_22 rfl
    · refine lv_iload_n hx hb zd_X_paper_11 rfl (lv_at hl 2 rfl) ?_
      refine lv_if_lt (tgt := 21) hx hb zd_X_paper_12 (by decide) (fun c_12 => ?_) (fun c_12 => ?_)
      · refine lv_iconst (v := 0) hx hb zd_X_paper_21 (by decide) ?_
        rw [(show zf_X_paper st p1 p2 = (0, st) from by rw [zf_X_paper, if_neg c_2, if_neg c_8, if_pos c_12])]
        exact zz_zret hx hb hr hlocks narrow_b0 hK hP hD hS zd_X_paper_22 rfl
      · refine lv_iload_n hx hb zd_X_paper_15 rfl (lv_at hl 2 rfl) ?_
        refine lv_ldc (v := 1000000) hx hb hown (htB _ zk_2f026ba4) zd_X_paper_16 ?_
        refine lv_icmp_le (tgt := 23) hx hb zd_X_paper_18 (by decide) (fun c_18 => ?_) (fun c_18 => ?_)
        · refine lv_aload_n hx hb zd_X_paper_23 rfl (lv_at hl 0 rfl) ?_
          refine va_get (D := (dC, dI)) (ci := 0) (v := .ref a7) (C := zr_X) (T := zF_X) (N := 7) hx hb htB zi_X hown hK hP 0 rfl rfl 3 (by decide) (htB _ zk_4f9de2f5) (fun _ h9 => h9) rfl zd_X_paper_24 ?_
          refine lv_iload_n hx hb zd_X_paper_27 rfl (lv_at hl 1 rfl) ?_
          refine lv_iload_n hx hb zd_X_paper_28 rfl (lv_at hl 2 rfl) ?_
          refine zz_ci (va_runV (As := [.int p1, .int p2]) (rest := []) ⟨hx, hb, hml, hown, htB⟩ (zc_P_register l dC dI cI cZ cL a7 a8 a9 a10 s.heap.size st.2.2.2.1 p1 p2 hp) (cwV 2 htB (zz_gV zk_7e19198c zk_fdae3f7d zk_7d854696 zk_f301a5bc zk_fb1d459a) rfl rfl rfl ⟨rfl, zh_P_register⟩ ⟨Nat.le_of_ble_eq_true rfl, Nat.le_of_ble_eq_true rfl⟩) (zz_preV (ci := 3) (q := (zr_P, zF_P, 4)) hP hD hK hE [7, 8, 9, 10] (by decide) rfl rfl rfl) rfl rfl hl.1 rfl (lv_room (Nat.le_of_ble_eq_true rfl)) zd_X_paper_29 ⟨Nat.le_of_ble_eq_true rfl, Nat.le_of_ble_eq_true rfl⟩) hP hD hS hA [7, 8, 9, 10] [0, 1, 2, 3, 4, 5, 6, 11] [0, 1, 2, 3, 4, 5, 6, 8, 9, 10, 11, 7] rfl rfl (by decide) (by decide) (by decide) rfl (fun H locs hP hD hS => ?_)
          have hP : va_P (dC, dI) zz_cl (zw_X cI cZ cL a0 a1 a2 a3 a4 a5 a6 a7 a8 a9 a10 a11 (st.1, st.2.1, st.2.2.1, (zf_P_register st.2.2.2.1 p1 p2).2, st.2.2.2.2.1, st.2.2.2.2.2.1, st.2.2.2.2.2.2)) H := hP
          have hD : va_D A (zw_X cI cZ cL a0 a1 a2 a3 a4 a5 a6 a7 a8 a9 a10 a11 (st.1, st.2.1, st.2.2.1, (zf_P_register st.2.2.2.1 p1 p2).2, st.2.2.2.2.1, st.2.2.2.2.2.1, st.2.2.2.2.2.2)) := hD
          rw [(show zf_X_paper st p1 p2 = ((zf_P_register st.2.2.2.1 p1 p2).1, (st.1, st.2.1, st.2.2.1, (zf_P_register st.2.2.2.1 p1 p2).2, st.2.2.2.2.1, st.2.2.2.2.2.1, st.2.2.2.2.2.2)) from by rw [zf_X_paper, if_neg c_2, if_neg c_8, if_neg c_12, if_pos c_18])]
          exact zz_zret hx hb hr hlocks (zo_P_register st.2.2.2.1 p1 p2) hK hP hD hS zd_X_paper_32 rfl
        · refine lv_iconst (v := 0) hx hb zd_X_paper_21 (by decide) ?_
          rw [(show zf_X_paper st p1 p2 = (0, st) from by rw [zf_X_paper, if_neg c_2, if_neg c_8, if_neg c_12, if_neg c_18])]
          exact zz_zret hx hb hr hlocks narrow_b0 hK hP hD hS zd_X_paper_22 rfl
set_option maxHeartbeats 4000000 in
set_option maxRecDepth 100000 in
theorem zc_X_read (l : Launch) (dC : Nat → ClassId) (dI : Nat → Nat → Nat) (cI cZ cL : ClassId) (a0 a1 a2 a3 a4 a5 a6 a7 a8 a9 a10 a11 : Nat) (sz : Nat) (st : zu_X) (p1 : Int32)  : Met l zy_X_read (zz_ws zy_X_read zb_X_read 2 (some .int)) ({ frames := 4, cells := 0, slots := 0, locals := 84 } : Room) (va_Pc ([.ref a0, .int p1] : List Value) (zz_P (dC, dI) (zz_ty cI cZ cL) sz (zw_X cI cZ cL a0 a1 a2 a3 a4 a5 a6 a7 a8 a9 a10 a11 st))) (zz_Qi (dC, dI) (zz_ty cI cZ cL) (va_A (zw_X cI cZ cL a0 a1 a2 a3 a4 a5 a6 a7 a8 a9 a10 a11 st) sz) ((zf_X_read st p1).1) (zw_X cI cZ cL a0 a1 a2 a3 a4 a5 a6 a7 a8 a9 a10 a11 ((zf_X_read st p1).2))) 0 0 (va_A (zw_X cI cZ cL a0 a1 a2 a3 a4 a5 a6 a7 a8 a9 a10 a11 st) sz) := by
  refine zz_ofW (Q := fun A => (zz_Qi (dC, dI) (zz_ty cI cZ cL) A ((zf_X_read st p1).1) (zw_X cI cZ cL a0 a1 a2 a3 a4 a5 a6 a7 a8 a9 a10 a11 ((zf_X_read st p1).2)))) (by decide) (Nat.le_of_ble_eq_true rfl) ?_
  intro p e s m below meth c A C0 _ hA hK hP hD _ ls hl
  obtain ⟨hx, hb, hr, hml, hown, htB, hlocks, hE⟩ := id C0
  have hS : va_S A s.heap s.heap [] := va_S.rf
  have hl : lv_has ls 2 [(0, .ref a0), (1, .int p1)] := hl
  refine lv_aload_n hx hb zd_X_read_0 rfl (lv_at hl 0 rfl) ?_
  refine va_get (D := (dC, dI)) (ci := 0) (v := .ref a11) (C := zr_X) (T := zF_X) (N := 7) hx hb htB zi_X hown hK hP 0 rfl rfl 4 (by decide) (htB _ zk_84f3c67c) (fun _ h9 => h9) rfl zd_X_read_1 ?_
  refine lv_iload_n hx hb zd_X_read_4 rfl (lv_at hl 1 rfl) ?_
  refine lv_sipush (v := 255) hx hb zd_X_read_5 (by decide) ?_
  refine lv_iand hx hb zd_X_read_8 ?_
  refine zz_ci (va_runV (As := [.int (p1 &&& 255)]) (rest := []) ⟨hx, hb, hml, hown, htB⟩ (zc_R_accept l dC dI cI cZ cL a11 s.heap.size st.2.2.2.2.1 (p1 &&& 255) ) (cwV 1 htB (zz_gV zk_ebd94e33 zk_1b0d4895 zk_bb028677 zk_136d7407 zk_ce99025e) rfl rfl rfl ⟨rfl, zh_R_accept⟩ ⟨Nat.le_of_ble_eq_true rfl, Nat.le_of_ble_eq_true rfl⟩) (zz_preV (ci := 4) (q := (zr_R, zF_R, 9)) hP hD hK hE [11] (by decide) rfl rfl rfl) rfl rfl hl.1 rfl (lv_room (Nat.le_of_ble_eq_true rfl)) zd_X_read_9 ⟨Nat.le_of_ble_eq_true rfl, Nat.le_of_ble_eq_true rfl⟩) hP hD hS hA [11] [0, 1, 2, 3, 4, 5, 6, 7, 8, 9, 10] [0, 1, 2, 3, 4, 5, 6, 7, 8, 9, 10, 11] rfl rfl (by decide) (by decide) (by decide) rfl (fun H locs hP hD hS => ?_)
  have hP : va_P (dC, dI) zz_cl (zw_X cI cZ cL a0 a1 a2 a3 a4 a5 a6 a7 a8 a9 a10 a11 (st.1, st.2.1, st.2.2.1, st.2.2.2.1, (zf_R_accept st.2.2.2.2.1 (p1 &&& 255)).2, st.2.2.2.2.2.1, st.2.2.2.2.2.2)) H := hP
  have hD : va_D A (zw_X cI cZ cL a0 a1 a2 a3 a4 a5 a6 a7 a8 a9 a10 a11 (st.1, st.2.1, st.2.2.1, st.2.2.2.1, (zf_R_accept st.2.2.2.2.1 (p1 &&& 255)).2, st.2.2.2.2.2.1, st.2.2.2.2.2.2)) := hD
  rw [(show zf_X_read st p1 = ((zf_R_accept st.2.2.2.2.1 (p1 &&& 255)).1, (st.1, st.2.1, st.2.2.1, st.2.2.2.1, (zf_R_accept st.2.2.2.2.1 (p1 &&& 255)).2, st.2.2.2.2.2.1, st.2.2.2.2.2.2)) from by first | rfl | (rw [zf_X_read]))]
  exact zz_iret hx hb hr hlocks hK hP hD hS zd_X_read_12 rfl
set_option maxHeartbeats 4000000 in
set_option maxRecDepth 100000 in
theorem zc_X_count (l : Launch) (dC : Nat → ClassId) (dI : Nat → Nat → Nat) (cI cZ cL : ClassId) (a0 a1 a2 a3 a4 a5 a6 a7 a8 a9 a10 a11 : Nat) (sz : Nat) (st : zu_X) (p1 : Int32) (hc : st.2.2.1.2.2 ≤ 20) (hp : st.2.2.2.1.2.2.2 ≤ 20) : Met l zy_X_count (zz_ws zy_X_count zb_X_count 2 (some .int)) ({ frames := 2, cells := 0, slots := 0, locals := 44 } : Room) (va_Pc ([.ref a0, .int p1] : List Value) (zz_P (dC, dI) (zz_ty cI cZ cL) sz (zw_X cI cZ cL a0 a1 a2 a3 a4 a5 a6 a7 a8 a9 a10 a11 st))) (zz_Ki (zf_X_count st p1)) 0 0 (fun _ => False) := by
  refine zz_ofK (by decide) (Nat.le_of_ble_eq_true rfl) ?_
  intro p e s m below meth c C0 hK hP hD ls hl
  obtain ⟨hx, hb, hr, hml, hown, htB, hlocks, hE⟩ := id C0
  have hl : lv_has ls 2 [(0, .ref a0), (1, .int p1)] := hl
  refine lv_iload_n hx hb zd_X_count_0 rfl (lv_at hl 1 rfl) ?_
  by_cases c_1_0 : p1 = 0
  · refine lv_tableIn (off := 51) (tgt := 52) hx hb zd_X_count_1 (by rw [c_1_0]; decide) (by rw [c_1_0]; decide) (by rw [c_1_0]; rfl) (by decide) ?_
    refine lv_aload_n hx hb zd_X_count_52 rfl (lv_at hl 0 rfl) ?_
    refine va_get (D := (dC, dI)) (ci := 0) (v := .ref a1) (C := zr_X) (T := zF_X) (N := 7) hx hb htB zi_X hown hK hP 0 rfl rfl 1 (by decide) (htB _ zk_ac6f5f75) (fun _ h9 => h9) rfl zd_X_count_53 ?_
    refine zz_ki (va_runV (As := []) (rest := []) ⟨hx, hb, hml, hown, htB⟩ (zc_S_lineCount l dC dI cI cZ cL a1 a2 a3 s.heap.size st.2.1  ) (cwV 0 htB (zz_gV zk_879c9a59 zk_79c9d9e2 zk_0aad96cc zk_f1a23aa7 zk_fcd24361) rfl rfl rfl ⟨rfl, zh_S_lineCount⟩ ⟨Nat.le_of_ble_eq_true rfl, Nat.le_of_ble_eq_true rfl⟩) (zz_preV (ci := 1) (q := (zr_S, zF_S, 5)) hP hD hK hE [1, 2, 3] (by decide) rfl rfl rfl) rfl rfl hl.1 rfl (lv_room (Nat.le_of_ble_eq_true rfl)) zd_X_count_56 ⟨Nat.le_of_ble_eq_true rfl, Nat.le_of_ble_eq_true rfl⟩) ?_
    rw [(show zf_X_count st p1 = (zf_S_lineCount st.2.1) from by rw [zf_X_count, if_pos c_1_0])]
    exact zz_kiret hx hb hr hlocks zd_X_count_59 rfl
  by_cases c_1_1 : p1 = 1
  · refine lv_tableIn (off := 59) (tgt := 60) hx hb zd_X_count_1 (by rw [c_1_1]; decide) (by rw [c_1_1]; decide) (by rw [c_1_1]; rfl) (by decide) ?_
    refine lv_aload_n hx hb zd_X_count_60 rfl (lv_at hl 0 rfl) ?_
    refine va_get (D := (dC, dI)) (ci := 0) (v := .ref a1) (C := zr_X) (T := zF_X) (N := 7) hx hb htB zi_X hown hK hP 0 rfl rfl 1 (by decide) (htB _ zk_ac6f5f75) (fun _ h9 => h9) rfl zd_X_count_61 ?_
    refine zz_ki (va_runV (As := []) (rest := []) ⟨hx, hb, hml, hown, htB⟩ (zc_S_setCount l dC dI cI cZ cL a1 a2 a3 s.heap.size st.2.1  ) (cwV 0 htB (zz_gV zk_d51b3908 zk_460a5c0b zk_dbc3e6b2 zk_f1a23aa7 zk_8b4375f5) rfl rfl rfl ⟨rfl, zh_S_setCount⟩ ⟨Nat.le_of_ble_eq_true rfl, Nat.le_of_ble_eq_true rfl⟩) (zz_preV (ci := 1) (q := (zr_S, zF_S, 5)) hP hD hK hE [1, 2, 3] (by decide) rfl rfl rfl) rfl rfl hl.1 rfl (lv_room (Nat.le_of_ble_eq_true rfl)) zd_X_count_64 ⟨Nat.le_of_ble_eq_true rfl, Nat.le_of_ble_eq_true rfl⟩) ?_
    rw [(show zf_X_count st p1 = (zf_S_setCount st.2.1) from by rw [zf_X_count, if_neg c_1_0, if_pos c_1_1])]
    exact zz_kiret hx hb hr hlocks zd_X_count_67 rfl
  by_cases c_1_2 : p1 = 2
  · refine lv_tableIn (off := 67) (tgt := 68) hx hb zd_X_count_1 (by rw [c_1_2]; decide) (by rw [c_1_2]; decide) (by rw [c_1_2]; rfl) (by decide) ?_
    refine lv_aload_n hx hb zd_X_count_68 rfl (lv_at hl 0 rfl) ?_
    refine va_get (D := (dC, dI)) (ci := 0) (v := .int st.2.2.2.2.2.2) (C := zr_X) (T := zF_X) (N := 7) hx hb htB zi_X hown hK hP 0 rfl rfl 6 (by decide) (htB _ zk_a72d337f) (fun _ h9 => h9) rfl zd_X_count_69 ?_
    refine lv_if_eq (tgt := 79) hx hb zd_X_count_72 (by decide) (fun c_72 => ?_) (fun c_72 => ?_)
    · refine lv_iconst (v := 0) hx hb zd_X_count_79 (by decide) ?_
      rw [(show zf_X_count st p1 = 0 from by rw [zf_X_count, if_neg c_1_0, if_neg c_1_1, if_pos c_1_2, if_pos c_72])]
      exact zz_kiret hx hb hr hlocks zd_X_count_80 rfl
    · refine lv_iconst (v := 1) hx hb zd_X_count_75 (by decide) ?_
      refine lv_goto (tgt := 80) hx hb zd_X_count_76 (by decide) ?_
      rw [(show zf_X_count st p1 = 1 from by rw [zf_X_count, if_neg c_1_0, if_neg c_1_1, if_pos c_1_2, if_neg c_72])]
      exact zz_kiret hx hb hr hlocks zd_X_count_80 rfl
  by_cases c_1_3 : p1 = 3
  · refine lv_tableIn (off := 80) (tgt := 81) hx hb zd_X_count_1 (by rw [c_1_3]; decide) (by rw [c_1_3]; decide) (by rw [c_1_3]; rfl) (by decide) ?_
    refine lv_aload_n hx hb zd_X_count_81 rfl (lv_at hl 0 rfl) ?_
    refine va_get (D := (dC, dI)) (ci := 0) (v := .ref a4) (C := zr_X) (T := zF_X) (N := 7) hx hb htB zi_X hown hK hP 0 rfl rfl 2 (by decide) (htB _ zk_92bcf320) (fun _ h9 => h9) rfl zd_X_count_82 ?_
    refine lv_aload_n hx hb zd_X_count_85 rfl (lv_at hl 0 rfl) ?_
    refine va_get (D := (dC, dI)) (ci := 0) (v := .int st.2.2.2.2.2.1) (C := zr_X) (T := zF_X) (N := 7) hx hb htB zi_X hown hK hP 0 rfl rfl 5 (by decide) (htB _ zk_be002196) (fun _ h9 => h9) rfl zd_X_count_86 ?_
    refine zz_ki (va_runV (As := [.int st.2.2.2.2.2.1]) (rest := []) ⟨hx, hb, hml, hown, htB⟩ (zc_C_goodCount l dC dI cI cZ cL a4 a5 a6 s.heap.size st.2.2.1 st.2.2.2.2.2.1 hc) (cwV 1 htB (zz_gV zk_3d151568 zk_a00f8f37 zk_f023d959 zk_e143c677 zk_9bbffd41) rfl rfl rfl ⟨rfl, zh_C_goodCount⟩ ⟨Nat.le_of_ble_eq_true rfl, Nat.le_of_ble_eq_true rfl⟩) (zz_preV (ci := 2) (q := (zr_C, zF_C, 3)) hP hD hK hE [4, 5, 6] (by decide) rfl rfl rfl) rfl rfl hl.1 rfl (lv_room (Nat.le_of_ble_eq_true rfl)) zd_X_count_89 ⟨Nat.le_of_ble_eq_true rfl, Nat.le_of_ble_eq_true rfl⟩) ?_
    rw [(show zf_X_count st p1 = (zf_C_goodCount st.2.2.1 st.2.2.2.2.2.1) from by rw [zf_X_count, if_neg c_1_0, if_neg c_1_1, if_neg c_1_2, if_pos c_1_3])]
    exact zz_kiret hx hb hr hlocks zd_X_count_92 rfl
  by_cases c_1_4 : p1 = 4
  · refine lv_tableIn (off := 92) (tgt := 93) hx hb zd_X_count_1 (by rw [c_1_4]; decide) (by rw [c_1_4]; decide) (by rw [c_1_4]; rfl) (by decide) ?_
    refine lv_aload_n hx hb zd_X_count_93 rfl (lv_at hl 0 rfl) ?_
    refine va_get (D := (dC, dI)) (ci := 0) (v := .ref a7) (C := zr_X) (T := zF_X) (N := 7) hx hb htB zi_X hown hK hP 0 rfl rfl 3 (by decide) (htB _ zk_4f9de2f5) (fun _ h9 => h9) rfl zd_X_count_94 ?_
    refine zz_ki (va_runV (As := []) (rest := []) ⟨hx, hb, hml, hown, htB⟩ (zc_P_size l dC dI cI cZ cL a7 a8 a9 a10 s.heap.size st.2.2.2.1  ) (cwV 0 htB (zz_gV zk_37c0246d zk_a344ebc1 zk_f7bcf776 zk_f301a5bc zk_f2dbcaa8) rfl rfl rfl ⟨rfl, zh_P_size⟩ ⟨Nat.le_of_ble_eq_true rfl, Nat.le_of_ble_eq_true rfl⟩) (zz_preV (ci := 3) (q := (zr_P, zF_P, 4)) hP hD hK hE [7, 8, 9, 10] (by decide) rfl rfl rfl) rfl rfl hl.1 rfl (lv_room (Nat.le_of_ble_eq_true rfl)) zd_X_count_97 ⟨Nat.le_of_ble_eq_true rfl, Nat.le_of_ble_eq_true rfl⟩) ?_
    rw [(show zf_X_count st p1 = (zf_P_size st.2.2.2.1) from by rw [zf_X_count, if_neg c_1_0, if_neg c_1_1, if_neg c_1_2, if_neg c_1_3, if_pos c_1_4])]
    exact zz_kiret hx hb hr hlocks zd_X_count_100 rfl
  by_cases c_1_5 : p1 = 5
  · refine lv_tableIn (off := 100) (tgt := 101) hx hb zd_X_count_1 (by rw [c_1_5]; decide) (by rw [c_1_5]; decide) (by rw [c_1_5]; rfl) (by decide) ?_
    refine lv_aload_n hx hb zd_X_count_101 rfl (lv_at hl 0 rfl) ?_
    refine va_get (D := (dC, dI)) (ci := 0) (v := .int st.2.2.2.2.2.1) (C := zr_X) (T := zF_X) (N := 7) hx hb htB zi_X hown hK hP 0 rfl rfl 5 (by decide) (htB _ zk_be002196) (fun _ h9 => h9) rfl zd_X_count_102 ?_
    rw [(show zf_X_count st p1 = st.2.2.2.2.2.1 from by rw [zf_X_count, if_neg c_1_0, if_neg c_1_1, if_neg c_1_2, if_neg c_1_3, if_neg c_1_4, if_pos c_1_5])]
    exact zz_kiret hx hb hr hlocks zd_X_count_105 rfl
  by_cases c_1_6 : p1 = 6
  · refine lv_tableIn (off := 105) (tgt := 106) hx hb zd_X_count_1 (by rw [c_1_6]; decide) (by rw [c_1_6]; decide) (by rw [c_1_6]; rfl) (by decide) ?_
    refine lv_aload_n hx hb zd_X_count_106 rfl (lv_at hl 0 rfl) ?_
    refine va_get (D := (dC, dI)) (ci := 0) (v := .int st.1) (C := zr_X) (T := zF_X) (N := 7) hx hb htB zi_X hown hK hP 0 rfl rfl 0 (by decide) (htB _ zk_26e1908c) (fun _ h9 => h9) rfl zd_X_count_107 ?_
    rw [(show zf_X_count st p1 = st.1 from by rw [zf_X_count, if_neg c_1_0, if_neg c_1_1, if_neg c_1_2, if_neg c_1_3, if_neg c_1_4, if_neg c_1_5, if_pos c_1_6])]
    exact zz_kiret hx hb hr hlocks zd_X_count_110 rfl
  by_cases c_1_7 : p1 = 7
  · refine lv_tableIn (off := 110) (tgt := 111) hx hb zd_X_count_1 (by rw [c_1_7]; decide) (by rw [c_1_7]; decide) (by rw [c_1_7]; rfl) (by decide) ?_
    refine lv_aload_n hx hb zd_X_count_111 rfl (lv_at hl 0 rfl) ?_
    refine va_get (D := (dC, dI)) (ci := 0) (v := .ref a11) (C := zr_X) (T := zF_X) (N := 7) hx hb htB zi_X hown hK hP 0 rfl rfl 4 (by decide) (htB _ zk_84f3c67c) (fun _ h9 => h9) rfl zd_X_count_112 ?_
    refine zz_ki (va_runV (As := []) (rest := []) ⟨hx, hb, hml, hown, htB⟩ (zc_R_wholeRows l dC dI cI cZ cL a11 s.heap.size st.2.2.2.2.1  ) (cwV 0 htB (zz_gV zk_12ec970f zk_7dd5f14a zk_32e2b4e8 zk_136d7407 zk_2362f403) rfl rfl rfl ⟨rfl, zh_R_wholeRows⟩ ⟨Nat.le_of_ble_eq_true rfl, Nat.le_of_ble_eq_true rfl⟩) (zz_preV (ci := 4) (q := (zr_R, zF_R, 9)) hP hD hK hE [11] (by decide) rfl rfl rfl) rfl rfl hl.1 rfl (lv_room (Nat.le_of_ble_eq_true rfl)) zd_X_count_115 ⟨Nat.le_of_ble_eq_true rfl, Nat.le_of_ble_eq_true rfl⟩) ?_
    rw [(show zf_X_count st p1 = (zf_R_wholeRows st.2.2.2.2.1) from by rw [zf_X_count, if_neg c_1_0, if_neg c_1_1, if_neg c_1_2, if_neg c_1_3, if_neg c_1_4, if_neg c_1_5, if_neg c_1_6, if_pos c_1_7])]
    exact zz_kiret hx hb hr hlocks zd_X_count_118 rfl
  by_cases c_1_8 : p1 = 8
  · refine lv_tableIn (off := 118) (tgt := 119) hx hb zd_X_count_1 (by rw [c_1_8]; decide) (by rw [c_1_8]; decide) (by rw [c_1_8]; rfl) (by decide) ?_
    refine lv_aload_n hx hb zd_X_count_119 rfl (lv_at hl 0 rfl) ?_
    refine va_get (D := (dC, dI)) (ci := 0) (v := .ref a11) (C := zr_X) (T := zF_X) (N := 7) hx hb htB zi_X hown hK hP 0 rfl rfl 4 (by decide) (htB _ zk_84f3c67c) (fun _ h9 => h9) rfl zd_X_count_120 ?_
    refine zz_ki (va_runV (As := []) (rest := []) ⟨hx, hb, hml, hown, htB⟩ (zc_R_latestFields l dC dI cI cZ cL a11 s.heap.size st.2.2.2.2.1  ) (cwV 0 htB (zz_gV zk_f58d715e zk_1f59c27a zk_5ba6d848 zk_136d7407 zk_ba062628) rfl rfl rfl ⟨rfl, zh_R_latestFields⟩ ⟨Nat.le_of_ble_eq_true rfl, Nat.le_of_ble_eq_true rfl⟩) (zz_preV (ci := 4) (q := (zr_R, zF_R, 9)) hP hD hK hE [11] (by decide) rfl rfl rfl) rfl rfl hl.1 rfl (lv_room (Nat.le_of_ble_eq_true rfl)) zd_X_count_123 ⟨Nat.le_of_ble_eq_true rfl, Nat.le_of_ble_eq_true rfl⟩) ?_
    rw [(show zf_X_count st p1 = (zf_R_latestFields st.2.2.2.2.1) from by rw [zf_X_count, if_neg c_1_0, if_neg c_1_1, if_neg c_1_2, if_neg c_1_3, if_neg c_1_4, if_neg c_1_5, if_neg c_1_6, if_neg c_1_7, if_pos c_1_8])]
    exact zz_kiret hx hb hr hlocks zd_X_count_126 rfl
  refine lv_tableOut (tgt := 127) hx hb zd_X_count_1 (by have n0 := lv_neT c_1_0 (a := 0) (by decide); have n1 := lv_neT c_1_1 (a := 1) (by decide); have n2 := lv_neT c_1_2 (a := 2) (by decide); have n3 := lv_neT c_1_3 (a := 3) (by decide); have n4 := lv_neT c_1_4 (a := 4) (by decide); have n5 := lv_neT c_1_5 (a := 5) (by decide); have n6 := lv_neT c_1_6 (a := 6) (by decide); have n7 := lv_neT c_1_7 (a := 7) (by decide); have n8 := lv_neT c_1_8 (a := 8) (by decide); omega) (by decide) ?_
  refine lv_iload_n hx hb zd_X_count_127 rfl (lv_at hl 1 rfl) ?_
  refine lv_bipush (v := 100) hx hb zd_X_count_128 (by decide) ?_
  refine lv_icmp_ge (tgt := 137) hx hb zd_X_count_130 (by decide) (fun c_130 => ?_) (fun c_130 => ?_)
  · refine lv_aload_n hx hb zd_X_count_137 rfl (lv_at hl 0 rfl) ?_
    refine va_get (D := (dC, dI)) (ci := 0) (v := .ref a7) (C := zr_X) (T := zF_X) (N := 7) hx hb htB zi_X hown hK hP 0 rfl rfl 3 (by decide) (htB _ zk_4f9de2f5) (fun _ h9 => h9) rfl zd_X_count_138 ?_
    refine lv_iload_n hx hb zd_X_count_141 rfl (lv_at hl 1 rfl) ?_
    refine lv_bipush (v := 100) hx hb zd_X_count_142 (by decide) ?_
    refine lv_isub hx hb zd_X_count_144 ?_
    refine zz_ki (va_runV (As := [.int (p1 - 100)]) (rest := []) ⟨hx, hb, hml, hown, htB⟩ (zc_P_balanceOf l dC dI cI cZ cL a7 a8 a9 a10 s.heap.size st.2.2.2.1 (p1 - 100) hp) (cwV 1 htB (zz_gV zk_4b0ca567 zk_5620dc61 zk_119f247c zk_f301a5bc zk_4890c725) rfl rfl rfl ⟨rfl, zh_P_balanceOf⟩ ⟨Nat.le_of_ble_eq_true rfl, Nat.le_of_ble_eq_true rfl⟩) (zz_preV (ci := 3) (q := (zr_P, zF_P, 4)) hP hD hK hE [7, 8, 9, 10] (by decide) rfl rfl rfl) rfl rfl hl.1 rfl (lv_room (Nat.le_of_ble_eq_true rfl)) zd_X_count_145 ⟨Nat.le_of_ble_eq_true rfl, Nat.le_of_ble_eq_true rfl⟩) ?_
    rw [(show zf_X_count st p1 = (zf_P_balanceOf st.2.2.2.1 (p1 - 100)) from by rw [zf_X_count, if_neg c_1_0, if_neg c_1_1, if_neg c_1_2, if_neg c_1_3, if_neg c_1_4, if_neg c_1_5, if_neg c_1_6, if_neg c_1_7, if_neg c_1_8, if_pos c_130])]
    exact zz_kiret hx hb hr hlocks zd_X_count_148 rfl
  · refine lv_iconst (v := (-1)) hx hb zd_X_count_133 (by decide) ?_
    refine lv_goto (tgt := 148) hx hb zd_X_count_134 (by decide) ?_
    rw [(show zf_X_count st p1 = (-1) from by rw [zf_X_count, if_neg c_1_0, if_neg c_1_1, if_neg c_1_2, if_neg c_1_3, if_neg c_1_4, if_neg c_1_5, if_neg c_1_6, if_neg c_1_7, if_neg c_1_8, if_neg c_130])]
    exact zz_kiret hx hb hr hlocks zd_X_count_148 rfl
