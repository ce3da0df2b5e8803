set_option maxHeartbeats 4000000 in
set_option maxRecDepth 100000 in
theorem zp_M_broken_164 {p : Program} {l : Launch} {e : Env} {s : State} {m : MethodId} {below : List Frame} {meth : Method} {c : Code} (dC : Nat → ClassId) (dI : Nat → Nat → Nat) (cI cZ cL : ClassId) (a0 a1 a2 a3 a4 a5 a6 a7 : Nat) (w0 : Int32) (w1 : Int32) (w2 : Nat) (w3 : Nat → Int32) (w4 : Nat → Int64) (w5 : Int32) (w6 : Int32) (w7 : Nat) (w8 : Nat → Int64) (w9 : Nat → Int32) (w10 : Nat) (w11 : Nat → Int32) (w12 : Nat → Int32) (w13 : Nat → Int32) (w14 : Int32) (w15 : Int32) (w16 : Int32) (w17 : Int32) (w18 : Int32) (w19 : Int64) (w20 : Int32) (w21 : Int32) (x1 : Int32) (hm : w2 ≤ 30) (hc : w7 ≤ 20) (C0 : zz_C p s m ([.ref a0] : List Value).toArray meth c zb_M_broken 6 (some .int) zy_M_broken.cls) (hK : va_K (dC, dI) zz_cl (zz_ty cI cZ cL) s) (hP : va_P (dC, dI) zz_cl (zv_M cI cZ cL a0 a1 a2 a3 a4 a5 a6 a7 w0 w1 w2 w3 w4 w5 w6 w7 w8 w9 w10 w11 w12 w13 w14 w15 w16 w17 w18 w19 w20 w21) s.heap) (hD : va_D (fun _ => True) (zv_M cI cZ cL a0 a1 a2 a3 a4 a5 a6 a7 w0 w1 w2 w3 w4 w5 w6 w7 w8 w9 w10 w11 w12 w13 w14 w15 w16 w17 w18 w19 w20 w21)) :
    ∀ (mm k : Nat), k + mm = w2 + 1 → ∀ ls : Array Slot, lv_has ls 6 [(0, .ref a0), (1, .int x1), (2, .int (nI k))] →
    W p l e ({ frames := 3, cells := 0, slots := 0, locals := 66 } : Room) s m ([.ref a0] : List Value).toArray below meth c s.heap [] 0 0 (MQ below (zz_Ki (zf_M_broken_L164 w1 w2 w3 w4 w6 w7 w8 w9 x1 mm k)) ([.ref a0] : List Value).toArray s 0 0 (fun _ => False)) (F0 m 164 ls []) := by
  obtain ⟨hx, hb, hr, hml, hown, htB, hlocks, hE⟩ := id C0
  intro mm
  induction mm with
  | zero =>
    intro k hk  ls hl
    refine lv_iload_n hx hb zd_M_broken_164 rfl (lv_at hl 2 rfl) ?_
    refine lv_aload_n hx hb zd_M_broken_165 rfl (lv_at hl 0 rfl) ?_
    refine va_get (D := (dC, dI)) (ci := 5) (v := .int (nI w2)) (C := zr_M) (T := zF_M) (N := 22) hx hb htB zi_M hown hK hP 0 rfl rfl 2 (by decide) (htB _ zk_d4ba64b0) (fun _ h9 => h9) rfl zd_M_broken_166 ?_
    refine lv_icmp_gt (tgt := 221) hx hb zd_M_broken_169 (by decide) (fun _ => ?_) (fun c_ => absurd (zz_gtT (b := w2) rfl (by omega) (by omega)) c_)
    refine lv_iload_n hx hb zd_M_broken_221 rfl (lv_at hl 1 rfl) ?_
    refine lv_if_ne (tgt := 230) hx hb zd_M_broken_222 (by decide) (fun c_222 => ?_) (fun c_222 => ?_)
    · refine lv_iconst (v := 0) hx hb zd_M_broken_230 (by decide) ?_
      rw [(show zf_M_broken_L164 w1 w2 w3 w4 w6 w7 w8 w9 x1 0 k = 0 from by rw [zf_M_broken_L164, if_neg c_222])]
      exact zz_kiret hx hb hr hlocks zd_M_broken_231 rfl
    · refine lv_ldc (v := 5000000) hx hb hown (htB _ zk_0d2910b4) zd_M_broken_225 ?_
      refine lv_goto (tgt := 231) hx hb zd_M_broken_227 (by decide) ?_
      rw [(show zf_M_broken_L164 w1 w2 w3 w4 w6 w7 w8 w9 x1 0 k = 5000000 from by rw [zf_M_broken_L164, if_pos c_222])]
      exact zz_kiret hx hb hr hlocks zd_M_broken_231 rfl
  | succ mm ih =>
    intro k hk  ls hl
    refine lv_iload_n hx hb zd_M_broken_164 rfl (lv_at hl 2 rfl) ?_
    refine lv_aload_n hx hb zd_M_broken_165 rfl (lv_at hl 0 rfl) ?_
    refine va_get (D := (dC, dI)) (ci := 5) (v := .int (nI w2)) (C := zr_M) (T := zF_M) (N := 22) hx hb htB zi_M hown hK hP 0 rfl rfl 2 (by decide) (htB _ zk_d4ba64b0) (fun _ h9 => h9) rfl zd_M_broken_166 ?_
    refine lv_icmp_gt (tgt := 221) hx hb zd_M_broken_169 (by decide) (fun c_ => absurd c_ (zz_gtF (b := w2) rfl (by omega) (by omega))) (fun _ => ?_)
    refine lv_aload_n hx hb zd_M_broken_172 rfl (lv_at hl 0 rfl) ?_
    refine va_get (D := (dC, dI)) (ci := 5) (v := .ref a2) (C := zr_M) (T := zF_M) (N := 22) hx hb htB zi_M hown hK hP 0 rfl rfl 4 (by decide) (htB _ zk_8e1cf9a2) (fun _ h9 => h9) rfl zd_M_broken_173 ?_
    refine lv_bipush (v := 10) hx hb zd_M_broken_176 (by decide) ?_
    refine lv_iload_n hx hb zd_M_broken_178 rfl (lv_at hl 2 rfl) ?_
    refine lv_imul hx hb zd_M_broken_179 ?_
    refine va_lald hx hb hK hP 2 2 rfl rfl (zy_l10 (by omega)) zd_M_broken_180 ?_
    refine lv_ldc2 (v := (-1)) hx hb hown (htB _ zk_1ad41f20) zd_M_broken_181 ?_
    refine W.lcmp hx hb zd_M_broken_184 ?_
    refine lv_if_eq (tgt := 215) hx hb zd_M_broken_185 (by decide) (fun c_185 => ?_) (fun c_185 => ?_)
    · refine lv_iinc (v := nI (k + 1)) (lv' := [(2, .int (nI (k + 1))), (0, .ref a0), (1, .int x1)]) hx hb zd_M_broken_215 hl (k := 2) rfl (nI_1 k) (by decide) rfl (fun ls hl => ?_)
      refine lv_goto (tgt := 164) hx hb zd_M_broken_218 (by decide) ?_
      rw [(show zf_M_broken_L164 w1 w2 w3 w4 w6 w7 w8 w9 x1 (mm + 1) k = zf_M_broken_L164 w1 w2 w3 w4 w6 w7 w8 w9 x1 mm (k + 1) from by rw [zf_M_broken_L164, if_pos c_185])]
      exact ih (k + 1) (by omega)    _ (lv_sub hl [1, 2, 0] rfl)
    · refine lv_aload_n hx hb zd_M_broken_188 rfl (lv_at hl 0 rfl) ?_
      refine lv_aload_n hx hb zd_M_broken_189 rfl (lv_at hl 0 rfl) ?_
      refine va_get (D := (dC, dI)) (ci := 5) (v := .ref a2) (C := zr_M) (T := zF_M) (N := 22) hx hb htB zi_M hown hK hP 0 rfl rfl 4 (by decide) (htB _ zk_8e1cf9a2) (fun _ h9 => h9) rfl zd_M_broken_190 ?_
      refine lv_bipush (v := 10) hx hb zd_M_broken_193 (by decide) ?_
      refine lv_iload_n hx hb zd_M_broken_195 rfl (lv_at hl 2 rfl) ?_
      refine lv_imul hx hb zd_M_broken_196 ?_
      refine va_lald hx hb hK hP 2 2 rfl rfl (zy_l10 (by omega)) zd_M_broken_197 ?_
      refine zz_ki (va_runV (As := [.long (w4 (10 * (nI k)).toNatClampNeg)]) (rest := []) ⟨hx, hb, hml, hown, htB⟩ (zc_M_isGood l dC dI cI cZ cL a0 a1 a2 a3 a4 a5 a6 a7 s.heap.size w0 w1 w2 w3 w4 w5 w6 w7 w8 w9 w10 w11 w12 w13 w14 w15 w16 w17 w18 w19 w20 w21 (w4 (10 * (nI k)).toNatClampNeg) hc) (cwV 1 htB (zz_gV zk_ec62feb0 zk_f09c5fb4 zk_8b825918 zk_91cc3b19 zk_5fed207e) rfl rfl rfl ⟨rfl, zh_M_isGood⟩ ⟨Nat.le_of_ble_eq_true rfl, Nat.le_of_ble_eq_true rfl⟩) (zz_preV (ci := 5) (q := (zr_M, zF_M, 22)) hP hD hK hE [0, 1, 2, 3, 4, 5, 6, 7] (by decide) rfl rfl rfl) rfl rfl hl.1 rfl (lv_room (Nat.le_of_ble_eq_true rfl)) zd_M_broken_198 ⟨Nat.le_of_ble_eq_true rfl, Nat.le_of_ble_eq_true rfl⟩) ?_
      refine lv_if_ne (tgt := 215) hx hb zd_M_broken_201 (by decide) (fun c_201 => ?_) (fun c_201 => ?_)
      · refine lv_iinc (v := nI (k + 1)) (lv' := [(2, .int (nI (k + 1))), (0, .ref a0), (1, .int x1)]) hx hb zd_M_broken_215 hl (k := 2) rfl (nI_1 k) (by decide) rfl (fun ls hl => ?_)
        refine lv_goto (tgt := 164) hx hb zd_M_broken_218 (by decide) ?_
        rw [(show zf_M_broken_L164 w1 w2 w3 w4 w6 w7 w8 w9 x1 (mm + 1) k = zf_M_broken_L164 w1 w2 w3 w4 w6 w7 w8 w9 x1 mm (k + 1) from by rw [zf_M_broken_L164, if_neg c_185, if_neg c_201])]
        exact ih (k + 1) (by omega)    _ (lv_sub hl [1, 2, 0] rfl)
      · refine lv_ldc (v := 4000000) hx hb hown (htB _ zk_b8ae9228) zd_M_broken_204 ?_
        refine lv_bipush (v := 100) hx hb zd_M_broken_206 (by decide) ?_
        refine lv_iload_n hx hb zd_M_broken_208 rfl (lv_at hl 2 rfl) ?_
        refine lv_imul hx hb zd_M_broken_209 ?_
        refine lv_iadd hx hb zd_M_broken_210 ?_
        refine lv_bipush (v := 10) hx hb zd_M_broken_211 (by decide) ?_
        refine lv_iadd hx hb zd_M_broken_213 ?_
        rw [(show zf_M_broken_L164 w1 w2 w3 w4 w6 w7 w8 w9 x1 (mm + 1) k = (4000000 + (100 * (nI k))) + 10 from by rw [zf_M_broken_L164, if_neg c_185, if_pos c_201])]
        exact zz_kiret hx hb hr hlocks zd_M_broken_214 rfl
set_option maxHeartbeats 4000000 in
set_option maxRecDepth 100000 in
theorem zp_M_broken_33 {p : Program} {l : Launch} {e : Env} {s : State} {m : MethodId} {below : List Frame} {meth : Method} {c : Code} (dC : Nat → ClassId) (dI : Nat → Nat → Nat) (cI cZ cL : ClassId) (a0 a1 a2 a3 a4 a5 a6 a7 : Nat) (w0 : Int32) (w1 : Int32) (w2 : Nat) (w3 : Nat → Int32) (w4 : Nat → Int64) (w5 : Int32) (w6 : Int32) (w7 : Nat) (w8 : Nat → Int64) (w9 : Nat → Int32) (w10 : Nat) (w11 : Nat → Int32) (w12 : Nat → Int32) (w13 : Nat → Int32) (w14 : Int32) (w15 : Int32) (w16 : Int32) (w17 : Int32) (w18 : Int32) (w19 : Int64) (w20 : Int32) (w21 : Int32) (x1 : Int32) (x2 : Nat) (x3 : Int32) (hm : w2 ≤ 30) (hc : w7 ≤ 20) (hx2 : x2 ≤ 30) (C0 : zz_C p s m ([.ref a0] : List Value).toArray meth c zb_M_broken 6 (some .int) zy_M_broken.cls) (hK : va_K (dC, dI) zz_cl (zz_ty cI cZ cL) s) (hP : va_P (dC, dI) zz_cl (zv_M cI cZ cL a0 a1 a2 a3 a4 a5 a6 a7 w0 w1 w2 w3 w4 w5 w6 w7 w8 w9 w10 w11 w12 w13 w14 w15 w16 w17 w18 w19 w20 w21) s.heap) (hD : va_D (fun _ => True) (zv_M cI cZ cL a0 a1 a2 a3 a4 a5 a6 a7 w0 w1 w2 w3 w4 w5 w6 w7 w8 w9 w10 w11 w12 w13 w14 w15 w16 w17 w18 w19 w20 w21)) {Qx : State → Prop} :
    ∀ (mm k : Nat), k + mm = 10 → ∀ ls : Array Slot, lv_has ls 6 [(0, .ref a0), (1, .int x1), (2, .int (nI x2)), (3, .int x3), (4, .int (nI k))] → (∀ (v : Int32) (ls : Array Slot), zf_M_broken_L33 w1 w2 w3 w4 w6 w7 w8 w9 x1 x2 x3 mm k = some v → W p l e ({ frames := 3, cells := 0, slots := 0, locals := 66 } : Room) s m ([.ref a0] : List Value).toArray below meth c s.heap [] 0 0 Qx (F0 m 101 ls [.int v])) → (zf_M_broken_L33 w1 w2 w3 w4 w6 w7 w8 w9 x1 x2 x3 mm k = none → ∀ ls : Array Slot, lv_has ls 6 [(0, .ref a0), (1, .int x1), (2, .int (nI x2)), (3, .int x3)] → W p l e ({ frames := 3, cells := 0, slots := 0, locals := 66 } : Room) s m ([.ref a0] : List Value).toArray below meth c s.heap [] 0 0 Qx (F0 m 108 ls [])) →
    W p l e ({ frames := 3, cells := 0, slots := 0, locals := 66 } : Room) s m ([.ref a0] : List Value).toArray below meth c s.heap [] 0 0 Qx (F0 m 33 ls []) := by
  obtain ⟨hx, hb, hr, hml, hown, htB, hlocks, hE⟩ := id C0
  intro mm
  induction mm with
  | zero =>
    intro k hk  ls hl hret hexit
    refine lv_iload hx hb zd_M_broken_33 (lv_at hl 4 rfl) ?_
    refine lv_bipush (v := 10) hx hb zd_M_broken_35 (by decide) ?_
    refine lv_icmp_ge (tgt := 108) hx hb zd_M_broken_37 (by decide) (fun _ => ?_) (fun c_ => absurd (zz_geT (b := 10) rfl (by omega) (by omega)) c_)
    exact hexit (show zf_M_broken_L33 w1 w2 w3 w4 w6 w7 w8 w9 x1 x2 x3 0 k = none from by first | rfl | (rw [zf_M_broken_L33])) _ (lv_sub hl [0, 1, 2, 3] rfl)
  | succ mm ih =>
    intro k hk  ls hl hret hexit
    refine lv_iload hx hb zd_M_broken_33 (lv_at hl 4 rfl) ?_
    refine lv_bipush (v := 10) hx hb zd_M_broken_35 (by decide) ?_
    refine lv_icmp_ge (tgt := 108) hx hb zd_M_broken_37 (by decide) (fun c_ => absurd c_ (zz_geF (b := 10) rfl (by omega) (by omega))) (fun _ => ?_)
    refine lv_iload_n hx hb zd_M_broken_40 rfl (lv_at hl 3 rfl) ?_
    refine lv_if_eq (tgt := 108) hx hb zd_M_broken_41 (by decide) (fun c_41 => ?_) (fun c_41 => ?_)
    · exact hexit (show zf_M_broken_L33 w1 w2 w3 w4 w6 w7 w8 w9 x1 x2 x3 (mm + 1) k = none from by rw [zf_M_broken_L33, if_pos c_41]) _ (lv_sub hl [0, 1, 2, 3] rfl)
    · refine lv_iload_n hx hb zd_M_broken_44 rfl (lv_at hl 2 rfl) ?_
      refine lv_if_ne (tgt := 53) hx hb zd_M_broken_45 (by decide) (fun c_45 => ?_) (fun c_45 => ?_)
      · refine lv_bipush (v := 10) hx hb zd_M_broken_53 (by decide) ?_
        refine lv_iload hx hb zd_M_broken_55 (lv_at hl 4 rfl) ?_
        refine lv_iadd hx hb zd_M_broken_57 ?_
        refine lv_istore (lv' := [(5, .int (10 + (nI k))), (0, .ref a0), (1, .int x1), (2, .int (nI x2)), (3, .int x3), (4, .int (nI k))]) hx hb zd_M_broken_58 hl (by decide) rfl (fun ls hl => ?_)
        refine lv_iload hx hb zd_M_broken_60 (lv_at hl 0 rfl) ?_
        refine lv_aload_n hx hb zd_M_broken_62 rfl (lv_at hl 1 rfl) ?_
        refine va_get (D := (dC, dI)) (ci := 5) (v := .int w1) (C := zr_M) (T := zF_M) (N := 22) hx hb htB zi_M hown hK hP 0 rfl rfl 1 (by decide) (htB _ zk_cf183326) (fun _ h9 => h9) rfl zd_M_broken_63 ?_
        refine zz_ki (va_runS (As := [.int (10 + (nI k)), .int w1]) (rest := []) ⟨hx, hb, hml, hown, htB⟩ (zc_M_needOf l dC dI cI cZ cL  s.heap.size  (10 + (nI k)) w1 ) (va_cwS 2 htB (zz_gS zk_69d8a7dc zk_8aca10f0 zk_91cc3b19 zk_57c855ba) rfl rfl rfl zh_M_needOf ⟨Nat.le_of_ble_eq_true rfl, Nat.le_of_ble_eq_true rfl⟩) (zz_preS hP hD hK hE [] (by decide) rfl) rfl rfl hl.1 rfl (lv_room (Nat.le_of_ble_eq_true rfl)) zd_M_broken_66 ⟨Nat.le_of_ble_eq_true rfl, Nat.le_of_ble_eq_true rfl⟩) ?_
        refine lv_if_ne (tgt := 102) hx hb zd_M_broken_69 (by decide) (fun c_69 => ?_) (fun c_69 => ?_)
        · refine lv_iinc (v := nI (k + 1)) (lv' := [(4, .int (nI (k + 1))), (5, .int (10 + (nI k))), (0, .ref a0), (1, .int x1), (2, .int (nI x2)), (3, .int x3)]) hx hb zd_M_broken_102 hl (k := 5) rfl (nI_1 k) (by decide) rfl (fun ls hl => ?_)
          refine lv_goto (tgt := 33) hx hb zd_M_broken_105 (by decide) ?_
          have e9 := (show zf_M_broken_L33 w1 w2 w3 w4 w6 w7 w8 w9 x1 x2 x3 (mm + 1) k = zf_M_broken_L33 w1 w2 w3 w4 w6 w7 w8 w9 x1 x2 x3 mm (k + 1) from by rw [zf_M_broken_L33, if_neg c_41, if_neg c_45, if_neg c_69])
          exact ih (k + 1) (by omega) _ (lv_sub hl [2, 3, 4, 5, 0] rfl) (fun v ls h => hret v ls (by rw [e9]; exact h)) (fun h => hexit (by rw [e9]; exact h))
        · refine lv_aload_n hx hb zd_M_broken_72 rfl (lv_at hl 1 rfl) ?_
          refine va_get (D := (dC, dI)) (ci := 5) (v := .ref a2) (C := zr_M) (T := zF_M) (N := 22) hx hb htB zi_M hown hK hP 0 rfl rfl 4 (by decide) (htB _ zk_8e1cf9a2) (fun _ h9 => h9) rfl zd_M_broken_73 ?_
          refine lv_bipush (v := 10) hx hb zd_M_broken_76 (by decide) ?_
          refine lv_iload_n hx hb zd_M_broken_78 rfl (lv_at hl 3 rfl) ?_
          refine lv_imul hx hb zd_M_broken_79 ?_
          refine lv_iload hx hb zd_M_broken_80 (lv_at hl 5 rfl) ?_
          refine lv_iadd hx hb zd_M_broken_82 ?_
          refine va_lald hx hb hK hP 2 2 rfl rfl (zy_lk (vp_in_nI (Nat.lt_succ_of_le hx2) (by decide)) (by omega)) zd_M_broken_83 ?_
          refine lv_ldc2 (v := (-1)) hx hb hown (htB _ zk_1ad41f20) zd_M_broken_84 ?_
          refine W.lcmp hx hb zd_M_broken_87 ?_
          refine lv_if_ne (tgt := 102) hx hb zd_M_broken_88 (by decide) (fun c_88 => ?_) (fun c_88 => ?_)
          · refine lv_iinc (v := nI (k + 1)) (lv' := [(4, .int (nI (k + 1))), (5, .int (10 + (nI k))), (0, .ref a0), (1, .int x1), (2, .int (nI x2)), (3, .int x3)]) hx hb zd_M_broken_102 hl (k := 5) rfl (nI_1 k) (by decide) rfl (fun ls hl => ?_)
            refine lv_goto (tgt := 33) hx hb zd_M_broken_105 (by decide) ?_
            have e9 := (show zf_M_broken_L33 w1 w2 w3 w4 w6 w7 w8 w9 x1 x2 x3 (mm + 1) k = zf_M_broken_L33 w1 w2 w3 w4 w6 w7 w8 w9 x1 x2 x3 mm (k + 1) from by rw [zf_M_broken_L33, if_neg c_41, if_neg c_45, if_pos c_69, if_neg c_88])
            exact ih (k + 1) (by omega) _ (lv_sub hl [2, 3, 4, 5, 0] rfl) (fun v ls h => hret v ls (by rw [e9]; exact h)) (fun h => hexit (by rw [e9]; exact h))
          · refine lv_ldc (v := 1000000) hx hb hown (htB _ zk_a44b4990) zd_M_broken_91 ?_
            refine lv_bipush (v := 100) hx hb zd_M_broken_93 (by decide) ?_
            refine lv_iload_n hx hb zd_M_broken_95 rfl (lv_at hl 3 rfl) ?_
            refine lv_imul hx hb zd_M_broken_96 ?_
            refine lv_iadd hx hb zd_M_broken_97 ?_
            refine lv_iload hx hb zd_M_broken_98 (lv_at hl 0 rfl) ?_
            refine lv_iadd hx hb zd_M_broken_100 ?_
            exact hret _ _ (show zf_M_broken_L33 w1 w2 w3 w4 w6 w7 w8 w9 x1 x2 x3 (mm + 1) k = some ((1000000 + (100 * (nI x2))) + (10 + (nI k))) from by rw [zf_M_broken_L33, if_neg c_41, if_neg c_45, if_pos c_69, if_pos c_88])
      · refine lv_iload hx hb zd_M_broken_48 (lv_at hl 4 rfl) ?_
        refine lv_goto (tgt := 58) hx hb zd_M_broken_50 (by decide) ?_
        refine lv_istore (lv' := [(5, .int (nI k)), (0, .ref a0), (1, .int x1), (2, .int (nI x2)), (3, .int x3), (4, .int (nI k))]) hx hb zd_M_broken_58 hl (by decide) rfl (fun ls hl => ?_)
        refine lv_iload hx hb zd_M_broken_60 (lv_at hl 0 rfl) ?_
        refine lv_aload_n hx hb zd_M_broken_62 rfl (lv_at hl 1 rfl) ?_
        refine va_get (D := (dC, dI)) (ci := 5) (v := .int w1) (C := zr_M) (T := zF_M) (N := 22) hx hb htB zi_M hown hK hP 0 rfl rfl 1 (by decide) (htB _ zk_cf183326) (fun _ h9 => h9) rfl zd_M_broken_63 ?_
        refine zz_ki (va_runS (As := [.int (nI k), .int w1]) (rest := []) ⟨hx, hb, hml, hown, htB⟩ (zc_M_needOf l dC dI cI cZ cL  s.heap.size  (nI k) w1 ) (va_cwS 2 htB (zz_gS zk_69d8a7dc zk_8aca10f0 zk_91cc3b19 zk_57c855ba) rfl rfl rfl zh_M_needOf ⟨Nat.le_of_ble_eq_true rfl, Nat.le_of_ble_eq_true rfl⟩) (zz_preS hP hD hK hE [] (by decide) rfl) rfl rfl hl.1 rfl (lv_room (Nat.le_of_ble_eq_true rfl)) zd_M_broken_66 ⟨Nat.le_of_ble_eq_true rfl, Nat.le_of_ble_eq_true rfl⟩) ?_
        refine lv_if_ne (tgt := 102) hx hb zd_M_broken_69 (by decide) (fun c_69 => ?_) (fun c_69 => ?_)
        · refine lv_iinc (v := nI (k + 1)) (lv' := [(4, .int (nI (k + 1))), (5, .int (nI k)), (0, .ref a0), (1, .int x1), (2, .int (nI x2)), (3, .int x3)]) hx hb zd_M_broken_102 hl (k := 5) rfl (nI_1 k) (by decide) rfl (fun ls hl => ?_)
          refine lv_goto (tgt := 33) hx hb zd_M_broken_105 (by decide) ?_
          have e9 := (show zf_M_broken_L33 w1 w2 w3 w4 w6 w7 w8 w9 x1 x2 x3 (mm + 1) k = zf_M_broken_L33 w1 w2 w3 w4 w6 w7 w8 w9 x1 x2 x3 mm (k + 1) from by rw [zf_M_broken_L33, if_neg c_41, if_pos c_45, if_neg c_69])
          exact ih (k + 1) (by omega) _ (lv_sub hl [2, 3, 4, 5, 0] rfl) (fun v ls h => hret v ls (by rw [e9]; exact h)) (fun h => hexit (by rw [e9]; exact h))
        · refine lv_aload_n hx hb zd_M_broken_72 rfl (lv_at hl 1 rfl) ?_
          refine va_get (D := (dC, dI)) (ci := 5) (v := .ref a2) (C := zr_M) (T := zF_M) (N := 22) hx hb htB zi_M hown hK hP 0 rfl rfl 4 (by decide) (htB _ zk_8e1cf9a2) (fun _ h9 => h9) rfl zd_M_broken_73 ?_
          refine lv_bipush (v := 10) hx hb zd_M_broken_76 (by decide) ?_
          refine lv_iload_n hx hb zd_M_broken_78 rfl (lv_at hl 3 rfl) ?_
          refine lv_imul hx hb zd_M_broken_79 ?_
          refine lv_iload hx hb zd_M_broken_80 (lv_at hl 5 rfl) ?_
          refine lv_iadd hx hb zd_M_broken_82 ?_
          refine va_lald hx hb hK hP 2 2 rfl rfl (zy_lk (vp_in_nI (Nat.lt_succ_of_le hx2) (by decide)) (by omega)) zd_M_broken_83 ?_
          refine lv_ldc2 (v := (-1)) hx hb hown (htB _ zk_1ad41f20) zd_M_broken_84 ?_
          refine W.lcmp hx hb zd_M_broken_87 ?_
          refine lv_if_ne (tgt := 102) hx hb zd_M_broken_88 (by decide) (fun c_88 => ?_) (fun c_88 => ?_)
          · refine lv_iinc (v := nI (k + 1)) (lv' := [(4, .int (nI (k + 1))), (5, .int (nI k)), (0, .ref a0), (1, .int x1), (2, .int (nI x2)), (3, .int x3)]) hx hb zd_M_broken_102 hl (k := 5) rfl (nI_1 k) (by decide) rfl (fun ls hl => ?_)
            refine lv_goto (tgt := 33) hx hb zd_M_broken_105 (by decide) ?_
            have e9 := (show zf_M_broken_L33 w1 w2 w3 w4 w6 w7 w8 w9 x1 x2 x3 (mm + 1) k = zf_M_broken_L33 w1 w2 w3 w4 w6 w7 w8 w9 x1 x2 x3 mm (k + 1) from by rw [zf_M_broken_L33, if_neg c_41, if_pos c_45, if_pos c_69, if_neg c_88])
            exact ih (k + 1) (by omega) _ (lv_sub hl [2, 3, 4, 5, 0] rfl) (fun v ls h => hret v ls (by rw [e9]; exact h)) (fun h => hexit (by rw [e9]; exact h))
          · refine lv_ldc (v := 1000000) hx hb hown (htB _ zk_a44b4990) zd_M_broken_91 ?_
            refine lv_bipush (v := 100) hx hb zd_M_broken_93 (by decide) ?_
            refine lv_iload_n hx hb zd_M_broken_95 rfl (lv_at hl 3 rfl) ?_
            refine lv_imul hx hb zd_M_broken_96 ?_
            refine lv_iadd hx hb zd_M_broken_97 ?_
            refine lv_iload hx hb zd_M_broken_98 (lv_at hl 0 rfl) ?_
            refine lv_iadd hx hb zd_M_broken_100 ?_
            exact hret _ _ (show zf_M_broken_L33 w1 w2 w3 w4 w6 w7 w8 w9 x1 x2 x3 (mm + 1) k = some ((1000000 + (100 * (nI x2))) + (nI k)) from by rw [zf_M_broken_L33, if_neg c_41, if_pos c_45, if_pos c_69, if_pos c_88])
set_option maxHeartbeats 4000000 in
set_option maxRecDepth 100000 in
theorem zp_M_broken_4 {p : Program} {l : Launch} {e : Env} {s : State} {m : MethodId} {below : List Frame} {meth : Method} {c : Code} (dC : Nat → ClassId) (dI : Nat → Nat → Nat) (cI cZ cL : ClassId) (a0 a1 a2 a3 a4 a5 a6 a7 : Nat) (w0 : Int32) (w1 : Int32) (w2 : Nat) (w3 : Nat → Int32) (w4 : Nat → Int64) (w5 : Int32) (w6 : Int32) (w7 : Nat) (w8 : Nat → Int64) (w9 : Nat → Int32) (w10 : Nat) (w11 : Nat → Int32) (w12 : Nat → Int32) (w13 : Nat → Int32) (w14 : Int32) (w15 : Int32) (w16 : Int32) (w17 : Int32) (w18 : Int32) (w19 : Int64) (w20 : Int32) (w21 : Int32) (hm : w2 ≤ 30) (hc : w7 ≤ 20) (C0 : zz_C p s m ([.ref a0] : List Value).toArray meth c zb_M_broken 6 (some .int) zy_M_broken.cls) (hK : va_K (dC, dI) zz_cl (zz_ty cI cZ cL) s) (hP : va_P (dC, dI) zz_cl (zv_M cI cZ cL a0 a1 a2 a3 a4 a5 a6 a7 w0 w1 w2 w3 w4 w5 w6 w7 w8 w9 w10 w11 w12 w13 w14 w15 w16 w17 w18 w19 w20 w21) s.heap) (hD : va_D (fun _ => True) (zv_M cI cZ cL a0 a1 a2 a3 a4 a5 a6 a7 w0 w1 w2 w3 w4 w5 w6 w7 w8 w9 w10 w11 w12 w13 w14 w15 w16 w17 w18 w19 w20 w21)) :
    ∀ (mm k : Nat), k + mm = w2 + 1 → ∀ (x1 : Int32), ∀ ls : Array Slot, lv_has ls 6 [(0, .ref a0), (1, .int x1), (2, .int (nI k))] →
    W p l e ({ frames := 3, cells := 0, slots := 0, locals := 66 } : Room) s m ([.ref a0] : List Value).toArray below meth c s.heap [] 0 0 (MQ below (zz_Ki (zf_M_broken_L4 w1 w2 w3 w4 w6 w7 w8 w9 mm k x1)) ([.ref a0] : List Value).toArray s 0 0 (fun _ => False)) (F0 m 4 ls []) := by
  obtain ⟨hx, hb, hr, hml, hown, htB, hlocks, hE⟩ := id C0
  intro mm
  induction mm with
  | zero =>
    intro k hk x1 ls hl
    refine lv_iload_n hx hb zd_M_broken_4 rfl (lv_at hl 2 rfl) ?_
    refine lv_aload_n hx hb zd_M_broken_5 rfl (lv_at hl 0 rfl) ?_
    refine va_get (D := (dC, dI)) (ci := 5) (v := .int (nI w2)) (C := zr_M) (T := zF_M) (N := 22) hx hb htB zi_M hown hK hP 0 rfl rfl 2 (by decide) (htB _ zk_d4ba64b0) (fun _ h9 => h9) rfl zd_M_broken_6 ?_
    refine lv_icmp_gt (tgt := 130) hx hb zd_M_broken_9 (by decide) (fun _ => ?_) (fun c_ => absurd (zz_gtT (b := w2) rfl (by omega) (by omega)) c_)
    refine lv_aload_n hx hb zd_M_broken_130 rfl (lv_at hl 0 rfl) ?_
    refine lv_iconst (v := 2) hx hb zd_M_broken_131 (by decide) ?_
    refine zz_ki (va_runV (As := [.int 2]) (rest := []) ⟨hx, hb, hml, hown, htB⟩ (zc_M_isSum l dC dI cI cZ cL a0 a1 a2 a3 a4 a5 a6 a7 s.heap.size w0 w1 w2 w3 w4 w5 w6 w7 w8 w9 w10 w11 w12 w13 w14 w15 w16 w17 w18 w19 w20 w21 2 hm (by decide)) (cwV 1 htB (zz_gV zk_1568d0e3 zk_51d61e9b zk_d335ebf9 zk_91cc3b19 zk_704f1844) rfl rfl rfl ⟨rfl, zh_M_isSum⟩ ⟨Nat.le_of_ble_eq_true rfl, Nat.le_of_ble_eq_true rfl⟩) (zz_preV (ci := 5) (q := (zr_M, zF_M, 22)) hP hD hK hE [0, 1, 2, 3, 4, 5, 6, 7] (by decide) rfl rfl rfl) rfl rfl hl.1 rfl (lv_room (Nat.le_of_ble_eq_true rfl)) zd_M_broken_132 ⟨Nat.le_of_ble_eq_true rfl, Nat.le_of_ble_eq_true rfl⟩) ?_
    refine lv_if_eq (tgt := 146) hx hb zd_M_broken_135 (by decide) (fun c_135 => ?_) (fun c_135 => ?_)
    · refine lv_aload_n hx hb zd_M_broken_146 rfl (lv_at hl 0 rfl) ?_
      refine lv_iconst (v := 2) hx hb zd_M_broken_147 (by decide) ?_
      refine zz_ki (va_runV (As := [.int 2]) (rest := []) ⟨hx, hb, hml, hown, htB⟩ (zc_M_isSum l dC dI cI cZ cL a0 a1 a2 a3 a4 a5 a6 a7 s.heap.size w0 w1 w2 w3 w4 w5 w6 w7 w8 w9 w10 w11 w12 w13 w14 w15 w16 w17 w18 w19 w20 w21 2 hm (by decide)) (cwV 1 htB (zz_gV zk_1568d0e3 zk_51d61e9b zk_d335ebf9 zk_91cc3b19 zk_704f1844) rfl rfl rfl ⟨rfl, zh_M_isSum⟩ ⟨Nat.le_of_ble_eq_true rfl, Nat.le_of_ble_eq_true rfl⟩) (zz_preV (ci := 5) (q := (zr_M, zF_M, 22)) hP hD hK hE [0, 1, 2, 3, 4, 5, 6, 7] (by decide) rfl rfl rfl) rfl rfl hl.1 rfl (lv_room (Nat.le_of_ble_eq_true rfl)) zd_M_broken_148 ⟨Nat.le_of_ble_eq_true rfl, Nat.le_of_ble_eq_true rfl⟩) ?_
      refine lv_if_eq (tgt := 159) hx hb zd_M_broken_151 (by decide) (fun _ => ?_) (fun c_ => absurd c_135 c_)
      refine lv_ldc (v := 2000000) hx hb hown (htB _ zk_14044799) zd_M_broken_159 ?_
      rw [(show zf_M_broken_L4 w1 w2 w3 w4 w6 w7 w8 w9 0 k x1 = 2000000 from by rw [zf_M_broken_L4, if_pos c_135])]
      exact zz_kiret hx hb hr hlocks zd_M_broken_161 rfl
    · refine lv_aload_n hx hb zd_M_broken_138 rfl (lv_at hl 0 rfl) ?_
      refine lv_iconst (v := 3) hx hb zd_M_broken_139 (by decide) ?_
      refine zz_ki (va_runV (As := [.int 3]) (rest := []) ⟨hx, hb, hml, hown, htB⟩ (zc_M_isSum l dC dI cI cZ cL a0 a1 a2 a3 a4 a5 a6 a7 s.heap.size w0 w1 w2 w3 w4 w5 w6 w7 w8 w9 w10 w11 w12 w13 w14 w15 w16 w17 w18 w19 w20 w21 3 hm (by decide)) (cwV 1 htB (zz_gV zk_1568d0e3 zk_51d61e9b zk_d335ebf9 zk_91cc3b19 zk_704f1844) rfl rfl rfl ⟨rfl, zh_M_isSum⟩ ⟨Nat.le_of_ble_eq_true rfl, Nat.le_of_ble_eq_true rfl⟩) (zz_preV (ci := 5) (q := (zr_M, zF_M, 22)) hP hD hK hE [0, 1, 2, 3, 4, 5, 6, 7] (by decide) rfl rfl rfl) rfl rfl hl.1 rfl (lv_room (Nat.le_of_ble_eq_true rfl)) zd_M_broken_140 ⟨Nat.le_of_ble_eq_true rfl, Nat.le_of_ble_eq_true rfl⟩) ?_
      refine lv_if_ne (tgt := 162) hx hb zd_M_broken_143 (by decide) (fun c_143 => ?_) (fun c_143 => ?_)
      · refine lv_iconst (v := 1) hx hb zd_M_broken_162 (by decide) ?_
        refine lv_istore_n (lv' := [(2, .int 1), (0, .ref a0), (1, .int x1)]) hx hb zd_M_broken_163 rfl hl (by decide) rfl (fun ls hl => ?_)
        rw [(show zf_M_broken_L4 w1 w2 w3 w4 w6 w7 w8 w9 0 k x1 = zf_M_broken_L164 w1 w2 w3 w4 w6 w7 w8 w9 x1 w2 1 from by rw [zf_M_broken_L4, if_neg c_135, if_neg c_143])]
        exact zp_M_broken_164 dC dI cI cZ cL a0 a1 a2 a3 a4 a5 a6 a7 w0 w1 w2 w3 w4 w5 w6 w7 w8 w9 w10 w11 w12 w13 w14 w15 w16 w17 w18 w19 w20 w21 x1 hm hc C0 hK hP hD w2 1 (by omega)    _ (lv_sub hl [1, 2, 0] rfl)
      · refine lv_aload_n hx hb zd_M_broken_146 rfl (lv_at hl 0 rfl) ?_
        refine lv_iconst (v := 2) hx hb zd_M_broken_147 (by decide) ?_
        refine zz_ki (va_runV (As := [.int 2]) (rest := []) ⟨hx, hb, hml, hown, htB⟩ (zc_M_isSum l dC dI cI cZ cL a0 a1 a2 a3 a4 a5 a6 a7 s.heap.size w0 w1 w2 w3 w4 w5 w6 w7 w8 w9 w10 w11 w12 w13 w14 w15 w16 w17 w18 w19 w20 w21 2 hm (by decide)) (cwV 1 htB (zz_gV zk_1568d0e3 zk_51d61e9b zk_d335ebf9 zk_91cc3b19 zk_704f1844) rfl rfl rfl ⟨rfl, zh_M_isSum⟩ ⟨Nat.le_of_ble_eq_true rfl, Nat.le_of_ble_eq_true rfl⟩) (zz_preV (ci := 5) (q := (zr_M, zF_M, 22)) hP hD hK hE [0, 1, 2, 3, 4, 5, 6, 7] (by decide) rfl rfl rfl) rfl rfl hl.1 rfl (lv_room (Nat.le_of_ble_eq_true rfl)) zd_M_broken_148 ⟨Nat.le_of_ble_eq_true rfl, Nat.le_of_ble_eq_true rfl⟩) ?_
        refine lv_if_eq (tgt := 159) hx hb zd_M_broken_151 (by decide) (fun c_ => absurd c_ c_135) (fun _ => ?_)
        refine lv_ldc (v := 3000000) hx hb hown (htB _ zk_20bf4c48) zd_M_broken_154 ?_
        refine lv_goto (tgt := 161) hx hb zd_M_broken_156 (by decide) ?_
        rw [(show zf_M_broken_L4 w1 w2 w3 w4 w6 w7 w8 w9 0 k x1 = 3000000 from by rw [zf_M_broken_L4, if_neg c_135, if_pos c_143])]
        exact zz_kiret hx hb hr hlocks zd_M_broken_161 rfl
  | succ mm ih =>
    intro k hk x1 ls hl
    refine lv_iload_n hx hb zd_M_broken_4 rfl (lv_at hl 2 rfl) ?_
    refine lv_aload_n hx hb zd_M_broken_5 rfl (lv_at hl 0 rfl) ?_
    refine va_get (D := (dC, dI)) (ci := 5) (v := .int (nI w2)) (C := zr_M) (T := zF_M) (N := 22) hx hb htB zi_M hown hK hP 0 rfl rfl 2 (by decide) (htB _ zk_d4ba64b0) (fun _ h9 => h9) rfl zd_M_broken_6 ?_
    refine lv_icmp_gt (tgt := 130) hx hb zd_M_broken_9 (by decide) (fun c_ => absurd c_ (zz_gtF (b := w2) rfl (by omega) (by omega))) (fun _ => ?_)
    refine lv_iload_n hx hb zd_M_broken_12 rfl (lv_at hl 2 rfl) ?_
    refine lv_if_eq (tgt := 24) hx hb zd_M_broken_13 (by decide) (fun c_13 => ?_) (fun c_13 => ?_)
    · refine lv_iconst (v := 1) hx hb zd_M_broken_24 (by decide) ?_
      refine lv_goto (tgt := 29) hx hb zd_M_broken_25 (by decide) ?_
      refine lv_istore_n (lv' := [(3, .int 1), (0, .ref a0), (1, .int x1), (2, .int (nI k))]) hx hb zd_M_broken_29 rfl hl (by decide) rfl (fun ls hl => ?_)
      refine lv_iconst (v := 0) hx hb zd_M_broken_30 (by decide) ?_
      refine lv_istore (lv' := [(4, .int 0), (3, .int 1), (0, .ref a0), (1, .int x1), (2, .int (nI k))]) hx hb zd_M_broken_31 hl (by decide) rfl (fun ls hl => ?_)
      refine zp_M_broken_33 dC dI cI cZ cL a0 a1 a2 a3 a4 a5 a6 a7 w0 w1 w2 w3 w4 w5 w6 w7 w8 w9 w10 w11 w12 w13 w14 w15 w16 w17 w18 w19 w20 w21 x1 k 1 hm hc (by omega) C0 hK hP hD 10 0 rfl _ (lv_sub hl [2, 3, 4, 1, 0] rfl) (fun v ls hv => ?_) (fun c_33 ls hl => ?_)
      · have c_33 : ¬ zf_M_broken_L33 w1 w2 w3 w4 w6 w7 w8 w9 x1 k 1 10 0 = none := by rw [hv]; simp
        rw [(show zf_M_broken_L4 w1 w2 w3 w4 w6 w7 w8 w9 (mm + 1) k x1 = (zf_M_broken_L33 w1 w2 w3 w4 w6 w7 w8 w9 x1 k 1 10 0).getD 0 from by rw [zf_M_broken_L4, if_pos c_13, if_neg c_33])]
        exact zz_kiret hx hb hr hlocks zd_M_broken_101 (by rw [hv]; rfl)
      · refine lv_iload_n hx hb zd_M_broken_108 rfl (lv_at hl 1 rfl) ?_
        refine lv_iload_n hx hb zd_M_broken_109 rfl (lv_at hl 2 rfl) ?_
        refine lv_if_le (tgt := 121) hx hb zd_M_broken_110 (by decide) (fun c_110 => ?_) (fun c_110 => ?_)
        · refine lv_iconst (v := 0) hx hb zd_M_broken_121 (by decide) ?_
          refine lv_iadd hx hb zd_M_broken_122 ?_
          refine lv_istore_n (lv' := [(1, .int (x1 + 0)), (0, .ref a0), (2, .int (nI k)), (3, .int 1)]) hx hb zd_M_broken_123 rfl hl (by decide) rfl (fun ls hl => ?_)
          refine lv_iinc (v := nI (k + 1)) (lv' := [(2, .int (nI (k + 1))), (1, .int (x1 + 0)), (0, .ref a0), (3, .int 1)]) hx hb zd_M_broken_124 hl (k := 2) rfl (nI_1 k) (by decide) rfl (fun ls hl => ?_)
          refine lv_goto (tgt := 4) hx hb zd_M_broken_127 (by decide) ?_
          rw [(show zf_M_broken_L4 w1 w2 w3 w4 w6 w7 w8 w9 (mm + 1) k x1 = zf_M_broken_L4 w1 w2 w3 w4 w6 w7 w8 w9 mm (k + 1) (x1 + 0) from by rw [zf_M_broken_L4, if_pos c_13, if_pos c_33, if_pos c_110])]
          exact ih (k + 1) (by omega) (x1 + 0)   _ (lv_sub hl [2, 1, 0] rfl)
        · refine lv_iload_n hx hb zd_M_broken_113 rfl (lv_at hl 3 rfl) ?_
          refine lv_if_eq (tgt := 121) hx hb zd_M_broken_114 (by decide) (fun c_ => absurd c_ (by decide)) (fun _ => ?_)
          refine lv_iconst (v := 1) hx hb zd_M_broken_117 (by decide) ?_
          refine lv_goto (tgt := 122) hx hb zd_M_broken_118 (by decide) ?_
          refine lv_iadd hx hb zd_M_broken_122 ?_
          refine lv_istore_n (lv' := [(1, .int (x1 + 1)), (0, .ref a0), (2, .int (nI k)), (3, .int 1)]) hx hb zd_M_broken_123 rfl hl (by decide) rfl (fun ls hl => ?_)
          refine lv_iinc (v := nI (k + 1)) (lv' := [(2, .int (nI (k + 1))), (1, .int (x1 + 1)), (0, .ref a0), (3, .int 1)]) hx hb zd_M_broken_124 hl (k := 2) rfl (nI_1 k) (by decide) rfl (fun ls hl => ?_)
          refine lv_goto (tgt := 4) hx hb zd_M_broken_127 (by decide) ?_
          rw [(show zf_M_broken_L4 w1 w2 w3 w4 w6 w7 w8 w9 (mm + 1) k x1 = zf_M_broken_L4 w1 w2 w3 w4 w6 w7 w8 w9 mm (k + 1) (x1 + 1) from by rw [zf_M_broken_L4, if_pos c_13, if_pos c_33, if_neg c_110])]
          exact ih (k + 1) (by omega) (x1 + 1)   _ (lv_sub hl [2, 1, 0] rfl)
    · refine lv_aload_n hx hb zd_M_broken_16 rfl (lv_at hl 0 rfl) ?_
      refine lv_iload_n hx hb zd_M_broken_17 rfl (lv_at hl 2 rfl) ?_
      refine zz_ki (va_runV (As := [.int (nI k)]) (rest := []) ⟨hx, hb, hml, hown, htB⟩ (zc_M_isLine l dC dI cI cZ cL a0 a1 a2 a3 a4 a5 a6 a7 s.heap.size w0 w1 w2 w3 w4 w5 w6 w7 w8 w9 w10 w11 w12 w13 w14 w15 w16 w17 w18 w19 w20 w21 (nI k) hm) (cwV 1 htB (zz_gV zk_42c4ccab zk_0528e464 zk_1a6dee55 zk_91cc3b19 zk_8cffb020) rfl rfl rfl ⟨rfl, zh_M_isLine⟩ ⟨Nat.le_of_ble_eq_true rfl, Nat.le_of_ble_eq_true rfl⟩) (zz_preV (ci := 5) (q := (zr_M, zF_M, 22)) hP hD hK hE [0, 1, 2, 3, 4, 5, 6, 7] (by decide) rfl rfl rfl) rfl rfl hl.1 rfl (lv_room (Nat.le_of_ble_eq_true rfl)) zd_M_broken_18 ⟨Nat.le_of_ble_eq_true rfl, Nat.le_of_ble_eq_true rfl⟩) ?_
      refine lv_if_eq (tgt := 28) hx hb zd_M_broken_21 (by decide) (fun c_21 => ?_) (fun c_21 => ?_)
      · refine lv_iconst (v := 0) hx hb zd_M_broken_28 (by decide) ?_
        refine lv_istore_n (lv' := [(3, .int 0), (0, .ref a0), (1, .int x1), (2, .int (nI k))]) hx hb zd_M_broken_29 rfl hl (by decide) rfl (fun ls hl => ?_)
        refine lv_iconst (v := 0) hx hb zd_M_broken_30 (by decide) ?_
        refine lv_istore (lv' := [(4, .int 0), (3, .int 0), (0, .ref a0), (1, .int x1), (2, .int (nI k))]) hx hb zd_M_broken_31 hl (by decide) rfl (fun ls hl => ?_)
        refine zp_M_broken_33 dC dI cI cZ cL a0 a1 a2 a3 a4 a5 a6 a7 w0 w1 w2 w3 w4 w5 w6 w7 w8 w9 w10 w11 w12 w13 w14 w15 w16 w17 w18 w19 w20 w21 x1 k 0 hm hc (by omega) C0 hK hP hD 10 0 rfl _ (lv_sub hl [2, 3, 4, 1, 0] rfl) (fun v ls hv => ?_) (fun c_33 ls hl => ?_)
        · have c_33 : ¬ zf_M_broken_L33 w1 w2 w3 w4 w6 w7 w8 w9 x1 k 0 10 0 = none := by rw [hv]; simp
          rw [(show zf_M_broken_L4 w1 w2 w3 w4 w6 w7 w8 w9 (mm + 1) k x1 = (zf_M_broken_L33 w1 w2 w3 w4 w6 w7 w8 w9 x1 k 0 10 0).getD 0 from by rw [zf_M_broken_L4, if_neg c_13, if_pos c_21, if_neg c_33])]
          exact zz_kiret hx hb hr hlocks zd_M_broken_101 (by rw [hv]; rfl)
        · refine lv_iload_n hx hb zd_M_broken_108 rfl (lv_at hl 1 rfl) ?_
          refine lv_iload_n hx hb zd_M_broken_109 rfl (lv_at hl 2 rfl) ?_
          refine lv_if_le (tgt := 121) hx hb zd_M_broken_110 (by decide) (fun c_110 => ?_) (fun c_110 => ?_)
          · refine lv_iconst (v := 0) hx hb zd_M_broken_121 (by decide) ?_
            refine lv_iadd hx hb zd_M_broken_122 ?_
            refine lv_istore_n (lv' := [(1, .int (x1 + 0)), (0, .ref a0), (2, .int (nI k)), (3, .int 0)]) hx hb zd_M_broken_123 rfl hl (by decide) rfl (fun ls hl => ?_)
            refine lv_iinc (v := nI (k + 1)) (lv' := [(2, .int (nI (k + 1))), (1, .int (x1 + 0)), (0, .ref a0), (3, .int 0)]) hx hb zd_M_broken_124 hl (k := 2) rfl (nI_1 k) (by decide) rfl (fun ls hl => ?_)
            refine lv_goto (tgt := 4) hx hb zd_M_broken_127 (by decide) ?_
            rw [(show zf_M_broken_L4 w1 w2 w3 w4 w6 w7 w8 w9 (mm + 1) k x1 = zf_M_broken_L4 w1 w2 w3 w4 w6 w7 w8 w9 mm (k + 1) (x1 + 0) from by rw [zf_M_broken_L4, if_neg c_13, if_pos c_21, if_pos c_33, if_pos c_110])]
            exact ih (k + 1) (by omega) (x1 + 0)   _ (lv_sub hl [2, 1, 0] rfl)
          · refine lv_iload_n hx hb zd_M_broken_113 rfl (lv_at hl 3 rfl) ?_
            refine lv_if_eq (tgt := 121) hx hb zd_M_broken_114 (by decide) (fun _ => ?_) (fun c_ => absurd (by decide) c_)
            refine lv_iconst (v := 0) hx hb zd_M_broken_121 (by decide) ?_
            refine lv_iadd hx hb zd_M_broken_122 ?_
            refine lv_istore_n (lv' := [(1, .int (x1 + 0)), (0, .ref a0), (2, .int (nI k)), (3, .int 0)]) hx hb zd_M_broken_123 rfl hl (by decide) rfl (fun ls hl => ?_)
            refine lv_iinc (v := nI (k + 1)) (lv' := [(2, .int (nI (k + 1))), (1, .int (x1 + 0)), (0, .ref a0), (3, .int 0)]) hx hb zd_M_broken_124 hl (k := 2) rfl (nI_1 k) (by decide) rfl (fun ls hl => ?_)
            refine lv_goto (tgt := 4) hx hb zd_M_broken_127 (by decide) ?_
            rw [(show zf_M_broken_L4 w1 w2 w3 w4 w6 w7 w8 w9 (mm + 1) k x1 = zf_M_broken_L4 w1 w2 w3 w4 w6 w7 w8 w9 mm (k + 1) (x1 + 0) from by rw [zf_M_broken_L4, if_neg c_13, if_pos c_21, if_pos c_33, if_neg c_110])]
            exact ih (k + 1) (by omega) (x1 + 0)   _ (lv_sub hl [2, 1, 0] rfl)
      · refine lv_iconst (v := 1) hx hb zd_M_broken_24 (by decide) ?_
        refine lv_goto (tgt := 29) hx hb zd_M_broken_25 (by decide) ?_
        refine lv_istore_n (lv' := [(3, .int 1), (0, .ref a0), (1, .int x1), (2, .int (nI k))]) hx hb zd_M_broken_29 rfl hl (by decide) rfl (fun ls hl => ?_)
        refine lv_iconst (v := 0) hx hb zd_M_broken_30 (by decide) ?_
        refine lv_istore (lv' := [(4, .int 0), (3, .int 1), (0, .ref a0), (1, .int x1), (2, .int (nI k))]) hx hb zd_M_broken_31 hl (by decide) rfl (fun ls hl => ?_)
        refine zp_M_broken_33 dC dI cI cZ cL a0 a1 a2 a3 a4 a5 a6 a7 w0 w1 w2 w3 w4 w5 w6 w7 w8 w9 w10 w11 w12 w13 w14 w15 w16 w17 w18 w19 w20 w21 x1 k 1 hm hc (by omega) C0 hK hP hD 10 0 rfl _ (lv_sub hl [2, 3, 4, 1, 0] rfl) (fun v ls hv => ?_) (fun c_33 ls hl => ?_)
        · have c_33 : ¬ zf_M_broken_L33 w1 w2 w3 w4 w6 w7 w8 w9 x1 k 1 10 0 = none := by rw [hv]; simp
          rw [(show zf_M_broken_L4 w1 w2 w3 w4 w6 w7 w8 w9 (mm + 1) k x1 = (zf_M_broken_L33 w1 w2 w3 w4 w6 w7 w8 w9 x1 k 1 10 0).getD 0 from by rw [zf_M_broken_L4, if_neg c_13, if_neg c_21, if_neg c_33])]
          exact zz_kiret hx hb hr hlocks zd_M_broken_101 (by rw [hv]; rfl)
        · refine lv_iload_n hx hb zd_M_broken_108 rfl (lv_at hl 1 rfl) ?_
          refine lv_iload_n hx hb zd_M_broken_109 rfl (lv_at hl 2 rfl) ?_
          refine lv_if_le (tgt := 121) hx hb zd_M_broken_110 (by decide) (fun c_110 => ?_) (fun c_110 => ?_)
          · refine lv_iconst (v := 0) hx hb zd_M_broken_121 (by decide) ?_
            refine lv_iadd hx hb zd_M_broken_122 ?_
            refine lv_istore_n (lv' := [(1, .int (x1 + 0)), (0, .ref a0), (2, .int (nI k)), (3, .int 1)]) hx hb zd_M_broken_123 rfl hl (by decide) rfl (fun ls hl => ?_)
            refine lv_iinc (v := nI (k + 1)) (lv' := [(2, .int (nI (k + 1))), (1, .int (x1 + 0)), (0, .ref a0), (3, .int 1)]) hx hb zd_M_broken_124 hl (k := 2) rfl (nI_1 k) (by decide) rfl (fun ls hl => ?_)
            refine lv_goto (tgt := 4) hx hb zd_M_broken_127 (by decide) ?_
            rw [(show zf_M_broken_L4 w1 w2 w3 w4 w6 w7 w8 w9 (mm + 1) k x1 = zf_M_broken_L4 w1 w2 w3 w4 w6 w7 w8 w9 mm (k + 1) (x1 + 0) from by rw [zf_M_broken_L4, if_neg c_13, if_neg c_21, if_pos c_33, if_pos c_110])]
            exact ih (k + 1) (by omega) (x1 + 0)   _ (lv_sub hl [2, 1, 0] rfl)
          · refine lv_iload_n hx hb zd_M_broken_113 rfl (lv_at hl 3 rfl) ?_
            refine lv_if_eq (tgt := 121) hx hb zd_M_broken_114 (by decide) (fun c_ => absurd c_ (by decide)) (fun _ => ?_)
            refine lv_iconst (v := 1) hx hb zd_M_broken_117 (by decide) ?_
            refine lv_goto (tgt := 122) hx hb zd_M_broken_118 (by decide) ?_
            refine lv_iadd hx hb zd_M_broken_122 ?_
            refine lv_istore_n (lv' := [(1, .int (x1 + 1)), (0, .ref a0), (2, .int (nI k)), (3, .int 1)]) hx hb zd_M_broken_123 rfl hl (by decide) rfl (fun ls hl => ?_)
            refine lv_iinc (v := nI (k + 1)) (lv' := [(2, .int (nI (k + 1))), (1, .int (x1 + 1)), (0, .ref a0), (3, .int 1)]) hx hb zd_M_broken_124 hl (k := 2) rfl (nI_1 k) (by decide) rfl (fun ls hl => ?_)
            refine lv_goto (tgt := 4) hx hb zd_M_broken_127 (by decide) ?_
            rw [(show zf_M_broken_L4 w1 w2 w3 w4 w6 w7 w8 w9 (mm + 1) k x1 = zf_M_broken_L4 w1 w2 w3 w4 w6 w7 w8 w9 mm (k + 1) (x1 + 1) from by rw [zf_M_broken_L4, if_neg c_13, if_neg c_21, if_pos c_33, if_neg c_110])]
            exact ih (k + 1) (by omega) (x1 + 1)   _ (lv_sub hl [2, 1, 0] rfl)
set_option maxHeartbeats 4000000 in
set_option maxRecDepth 100000 in
theorem zc_M_broken (l : Launch) (dC : Nat → ClassId) (dI : Nat → Nat → Nat) (cI cZ cL : ClassId) (a0 a1 a2 a3 a4 a5 a6 a7 : Nat) (sz : Nat) (w0 : Int32) (w1 : Int32) (w2 : Nat) (w3 : Nat → Int32) (w4 : Nat → Int64) (w5 : Int32) (w6 : Int32) (w7 : Nat) (w8 : Nat → Int64) (w9 : Nat → Int32) (w10 : Nat) (w11 : Nat → Int32) (w12 : Nat → Int32) (w13 : Nat → Int32) (w14 : Int32) (w15 : Int32) (w16 : Int32) (w17 : Int32) (w18 : Int32) (w19 : Int64) (w20 : Int32) (w21 : Int32) (hm : w2 ≤ 30) (hc : w7 ≤ 20) : Met l zy_M_broken (zz_ws zy_M_broken zb_M_broken 6 (some .int)) ({ frames := 3, cells := 0, slots := 0, locals := 66 } : Room) (va_Pc ([.ref a0] : List Value) (zz_P (dC, dI) (zz_ty cI cZ cL) sz (zv_M cI cZ cL a0 a1 a2 a3 a4 a5 a6 a7 w0 w1 w2 w3 w4 w5 w6 w7 w8 w9 w10 w11 w12 w13 w14 w15 w16 w17 w18 w19 w20 w21))) (zz_Ki (zf_M_broken w1 w2 w3 w4 w6 w7 w8 w9)) 0 0 (fun _ => False) := by
  refine zz_ofK (by decide) (Nat.le_of_ble_eq_true rfl) ?_
  intro p e s m below meth c C0 hK hP hD ls hl
  obtain ⟨hx, hb, hr, hml, hown, htB, hlocks, hE⟩ := id C0
  have hl : lv_has ls 6 [(0, .ref a0)] := hl
  refine lv_iconst (v := 0) hx hb zd_M_broken_0 (by decide) ?_
  refine lv_istore_n (lv' := [(1, .int 0), (0, .ref a0)]) hx hb zd_M_broken_1 rfl hl (by decide) rfl (fun ls hl => ?_)
  refine lv_iconst (v := 0) hx hb zd_M_broken_2 (by decide) ?_
  refine lv_istore_n (lv' := [(2, .int 0), (1, .int 0), (0, .ref a0)]) hx hb zd_M_broken_3 rfl hl (by decide) rfl (fun ls hl => ?_)
  rw [(show zf_M_broken w1 w2 w3 w4 w6 w7 w8 w9 = zf_M_broken_L4 w1 w2 w3 w4 w6 w7 w8 w9 (w2 + 1) 0 0 from by first | rfl | (rw [zf_M_broken]))]
  exact zp_M_broken_4 dC dI cI cZ cL a0 a1 a2 a3 a4 a5 a6 a7 w0 w1 w2 w3 w4 w5 w6 w7 w8 w9 w10 w11 w12 w13 w14 w15 w16 w17 w18 w19 w20 w21 hm hc C0 hK hP hD (w2 + 1) 0 (by omega) 0   _ (lv_sub hl [2, 1, 0] rfl)
set_option maxHeartbeats 4000000 in
set_option maxRecDepth 100000 in
theorem zc_M_check (l : Launch) (dC : Nat → ClassId) (dI : Nat → Nat → Nat) (cI cZ cL : ClassId) (a0 a1 a2 a3 a4 a5 a6 a7 : Nat) (sz : Nat) (w0 : Int32) (w1 : Int32) (w2 : Nat) (w3 : Nat → Int32) (w4 : Nat → Int64) (w5 : Int32) (w6 : Int32) (w7 : Nat) (w8 : Nat → Int64) (w9 : Nat → Int32) (w10 : Nat) (w11 : Nat → Int32) (w12 : Nat → Int32) (w13 : Nat → Int32) (w14 : Int32) (w15 : Int32) (w16 : Int32) (w17 : Int32) (w18 : Int32) (w19 : Int64) (w20 : Int32) (w21 : Int32) (hm : w2 ≤ 30) (hc : w7 ≤ 20) : Met l zy_M_check (zz_ws zy_M_check zb_M_check 1 (some .int)) ({ frames := 4, cells := 0, slots := 0, locals := 91 } : Room) (va_Pc ([.ref a0] : List Value) (zz_P (dC, dI) (zz_ty cI cZ cL) sz (zv_M cI cZ cL a0 a1 a2 a3 a4 a5 a6 a7 w0 w1 w2 w3 w4 w5 w6 w7 w8 w9 w10 w11 w12 w13 w14 w15 w16 w17 w18 w19 w20 w21))) (zz_Qi (dC, dI) (zz_ty cI cZ cL) (va_A (zv_M cI cZ cL a0 a1 a2 a3 a4 a5 a6 a7 w0 w1 w2 w3 w4 w5 w6 w7 w8 w9 w10 w11 w12 w13 w14 w15 w16 w17 w18 w19 w20 w21) sz) ((zf_M_check w0 w1 w2 w3 w4 w6 w7 w8 w9).1) (zv_M cI cZ cL a0 a1 a2 a3 a4 a5 a6 a7 ((zf_M_check w0 w1 w2 w3 w4 w6 w7 w8 w9).2) w1 w2 w3 w4 w5 w6 w7 w8 w9 w10 w11 w12 w13 w14 w15 w16 w17 w18 w19 w20 w21)) 0 0 (va_A (zv_M cI cZ cL a0 a1 a2 a3 a4 a5 a6 a7 w0 w1 w2 w3 w4 w5 w6 w7 w8 w9 w10 w11 w12 w13 w14 w15 w16 w17 w18 w19 w20 w21) sz) := by
  refine zz_ofW (Q := fun A => (zz_Qi (dC, dI) (zz_ty cI cZ cL) A ((zf_M_check w0 w1 w2 w3 w4 w6 w7 w8 w9).1) (zv_M cI cZ cL a0 a1 a2 a3 a4 a5 a6 a7 ((zf_M_check w0 w1 w2 w3 w4 w6 w7 w8 w9).2) w1 w2 w3 w4 w5 w6 w7 w8 w9 w10 w11 w12 w13 w14 w15 w16 w17 w18 w19 w20 w21))) (by decide) (Nat.le_of_ble_eq_true rfl) ?_
  intro p e s m below meth c A C0 _ hA hK hP hD _ ls hl
  obtain ⟨hx, hb, hr, hml, hown, htB, hlocks, hE⟩ := id C0
  have hS : va_S A s.heap s.heap [] := va_S.rf
  have hl : lv_has ls 1 [(0, .ref a0)] := hl
  refine lv_aload_n hx hb zd_M_check_0 rfl (lv_at hl 0 rfl) ?_
  refine lv_iconst (v := 0) hx hb zd_M_check_1 (by decide) ?_
  refine va_put (D := (dC, dI)) (ci := 5) (v := .int 0) (C := zr_M) (T := zF_M) (N := 22) hx hb htB zi_M zT_M zT_M_ok zn_M hown hK hP hD hS 0 rfl rfl 0 (by decide) (htB _ zk_d62d4141) (fun _ h9 => h9) rfl (zT_M_ok 0 (by decide)) rfl rfl (Nat.le_of_ble_eq_true rfl) zd_M_check_2 (fun H locs hP hD hS => ?_)
  have hP : va_P (dC, dI) zz_cl (zv_M cI cZ cL a0 a1 a2 a3 a4 a5 a6 a7 0 w1 w2 w3 w4 w5 w6 w7 w8 w9 w10 w11 w12 w13 w14 w15 w16 w17 w18 w19 w20 w21) H := hP
  have hD : va_D A (zv_M cI cZ cL a0 a1 a2 a3 a4 a5 a6 a7 0 w1 w2 w3 w4 w5 w6 w7 w8 w9 w10 w11 w12 w13 w14 w15 w16 w17 w18 w19 w20 w21) := hD
  refine lv_aload_n hx hb zd_M_check_5 rfl (lv_at hl 0 rfl) ?_
  refine zz_ki (va_runV (As := []) (rest := []) ⟨hx, hb, hml, hown, htB⟩ (zc_M_broken l dC dI cI cZ cL a0 a1 a2 a3 a4 a5 a6 a7 H.size 0 w1 w2 w3 w4 w5 w6 w7 w8 w9 w10 w11 w12 w13 w14 w15 w16 w17 w18 w19 w20 w21  hm hc) (cwV 0 htB (zz_gV zk_b502ed03 zk_8983c4a1 zk_b7637070 zk_91cc3b19 zk_89144701) rfl rfl rfl ⟨rfl, zh_M_broken⟩ ⟨Nat.le_of_ble_eq_true rfl, Nat.le_of_ble_eq_true rfl⟩) (zz_preV (ci := 5) (q := (zr_M, zF_M, 22)) hP hD hK hE [0, 1, 2, 3, 4, 5, 6, 7] (by decide) rfl rfl rfl) rfl rfl hl.1 rfl (lv_room (Nat.le_of_ble_eq_true rfl)) zd_M_check_6 ⟨Nat.le_of_ble_eq_true rfl, Nat.le_of_ble_eq_true rfl⟩) ?_
  rw [(show zf_M_check w0 w1 w2 w3 w4 w6 w7 w8 w9 = ((zf_M_broken w1 w2 w3 w4 w6 w7 w8 w9), 0) from by first | rfl | (rw [zf_M_check]))]
  exact zz_iret hx hb hr hlocks hK hP hD hS zd_M_check_9 rfl
set_option maxHeartbeats 4000000 in
set_option maxRecDepth 100000 in
theorem zc_M_lodge (l : Launch) (dC : Nat → ClassId) (dI : Nat → Nat → Nat) (cI cZ cL : ClassId) (a0 a1 a2 a3 a4 a5 a6 a7 : Nat) (sz : Nat) (w0 : Int32) (w1 : Int32) (w2 : Nat) (w3 : Nat → Int32) (w4 : Nat → Int64) (w5 : Int32) (w6 : Int32) (w7 : Nat) (w8 : Nat → Int64) (w9 : Nat → Int32) (w10 : Nat) (w11 : Nat → Int32) (w12 : Nat → Int32) (w13 : Nat → Int32) (w14 : Int32) (w15 : Int32) (w16 : Int32) (w17 : Int32) (w18 : Int32) (w19 : Int64) (w20 : Int32) (w21 : Int32) (hm : w2 ≤ 30) (hc : w7 ≤ 20) : Met l zy_M_lodge (zz_ws zy_M_lodge zb_M_lodge 1 (some .int)) ({ frames := 4, cells := 0, slots := 0, locals := 91 } : Room) (va_Pc ([.ref a0] : List Value) (zz_P (dC, dI) (zz_ty cI cZ cL) sz (zv_M cI cZ cL a0 a1 a2 a3 a4 a5 a6 a7 w0 w1 w2 w3 w4 w5 w6 w7 w8 w9 w10 w11 w12 w13 w14 w15 w16 w17 w18 w19 w20 w21))) (zz_Qi (dC, dI) (zz_ty cI cZ cL) (va_A (zv_M cI cZ cL a0 a1 a2 a3 a4 a5 a6 a7 w0 w1 w2 w3 w4 w5 w6 w7 w8 w9 w10 w11 w12 w13 w14 w15 w16 w17 w18 w19 w20 w21) sz) ((zf_M_lodge w0 w1 w2 w3 w4 w5 w6 w7 w8 w9).1) (zv_M cI cZ cL a0 a1 a2 a3 a4 a5 a6 a7 ((zf_M_lodge w0 w1 w2 w3 w4 w5 w6 w7 w8 w9).2.1) w1 w2 w3 w4 ((zf_M_lodge w0 w1 w2 w3 w4 w5 w6 w7 w8 w9).2.2) w6 w7 w8 w9 w10 w11 w12 w13 w14 w15 w16 w17 w18 w19 w20 w21)) 0 0 (va_A (zv_M cI cZ cL a0 a1 a2 a3 a4 a5 a6 a7 w0 w1 w2 w3 w4 w5 w6 w7 w8 w9 w10 w11 w12 w13 w14 w15 w16 w17 w18 w19 w20 w21) sz) := by
  refine zz_ofW (Q := fun A => (zz_Qi (dC, dI) (zz_ty cI cZ cL) A ((zf_M_lodge w0 w1 w2 w3 w4 w5 w6 w7 w8 w9).1) (zv_M cI cZ cL a0 a1 a2 a3 a4 a5 a6 a7 ((zf_M_lodge w0 w1 w2 w3 w4 w5 w6 w7 w8 w9).2.1) w1 w2 w3 w4 ((zf_M_lodge w0 w1 w2 w3 w4 w5 w6 w7 w8 w9).2.2) w6 w7 w8 w9 w10 w11 w12 w13 w14 w15 w16 w17 w18 w19 w20 w21))) (by decide) (Nat.le_of_ble_eq_true rfl) ?_
  intro p e s m below meth c A C0 _ hA hK hP hD _ ls hl
  obtain ⟨hx, hb, hr, hml, hown, htB, hlocks, hE⟩ := id C0
  have hS : va_S A s.heap s.heap [] := va_S.rf
  have hl : lv_has ls 1 [(0, .ref a0)] := hl
  refine lv_aload_n hx hb zd_M_lodge_0 rfl (lv_at hl 0 rfl) ?_
  refine lv_iconst (v := 0) hx hb zd_M_lodge_1 (by decide) ?_
  refine va_put (D := (dC, dI)) (ci := 5) (v := .int 0) (C := zr_M) (T := zF_M) (N := 22) hx hb htB zi_M zT_M zT_M_ok zn_M hown hK hP hD hS 0 rfl rfl 0 (by decide) (htB _ zk_d62d4141) (fun _ h9 => h9) rfl (zT_M_ok 0 (by decide)) rfl rfl (Nat.le_of_ble_eq_true rfl) zd_M_lodge_2 (fun H locs hP hD hS => ?_)
  have hP : va_P (dC, dI) zz_cl (zv_M cI cZ cL a0 a1 a2 a3 a4 a5 a6 a7 0 w1 w2 w3 w4 w5 w6 w7 w8 w9 w10 w11 w12 w13 w14 w15 w16 w17 w18 w19 w20 w21) H := hP
  have hD : va_D A (zv_M cI cZ cL a0 a1 a2 a3 a4 a5 a6 a7 0 w1 w2 w3 w4 w5 w6 w7 w8 w9 w10 w11 w12 w13 w14 w15 w16 w17 w18 w19 w20 w21) := hD
  refine lv_aload_n hx hb zd_M_lodge_5 rfl (lv_at hl 0 rfl) ?_
  refine va_get (D := (dC, dI)) (ci := 5) (v := .int w5) (C := zr_M) (T := zF_M) (N := 22) hx hb htB zi_M hown hK hP 0 rfl rfl 5 (by decide) (htB _ zk_ceae0b21) (fun _ h9 => h9) rfl zd_M_lodge_6 ?_
  refine lv_if_ne (tgt := 19) hx hb zd_M_lodge_9 (by decide) (fun c_9 => ?_) (fun c_9 => ?_)
  · refine lv_iconst (v := 0) hx hb zd_M_lodge_19 (by decide) ?_
    rw [(show zf_M_lodge w0 w1 w2 w3 w4 w5 w6 w7 w8 w9 = (0, 0, w5) from by rw [zf_M_lodge, if_neg c_9])]
    exact zz_iret hx hb hr hlocks hK hP hD hS zd_M_lodge_20 rfl
  · refine lv_aload_n hx hb zd_M_lodge_12 rfl (lv_at hl 0 rfl) ?_
    refine zz_ki (va_runV (As := []) (rest := []) ⟨hx, hb, hml, hown, htB⟩ (zc_M_broken l dC dI cI cZ cL a0 a1 a2 a3 a4 a5 a6 a7 H.size 0 w1 w2 w3 w4 w5 w6 w7 w8 w9 w10 w11 w12 w13 w14 w15 w16 w17 w18 w19 w20 w21  hm hc) (cwV 0 htB (zz_gV zk_b502ed03 zk_8983c4a1 zk_b7637070 zk_91cc3b19 zk_89144701) rfl rfl rfl ⟨rfl, zh_M_broken⟩ ⟨Nat.le_of_ble_eq_true rfl, Nat.le_of_ble_eq_true rfl⟩) (zz_preV (ci := 5) (q := (zr_M, zF_M, 22)) hP hD hK hE [0, 1, 2, 3, 4, 5, 6, 7] (by decide) rfl rfl rfl) rfl rfl hl.1 rfl (lv_room (Nat.le_of_ble_eq_true rfl)) zd_M_lodge_13 ⟨Nat.le_of_ble_eq_true rfl, Nat.le_of_ble_eq_true rfl⟩) ?_
    refine lv_if_eq (tgt := 21) hx hb zd_M_lodge_16 (by decide) (fun c_16 => ?_) (fun c_16 => ?_)
    · refine lv_aload_n hx hb zd_M_lodge_21 rfl (lv_at hl 0 rfl) ?_
      refine lv_iconst (v := 1) hx hb zd_M_lodge_22 (by decide) ?_
      refine va_put (D := (dC, dI)) (ci := 5) (v := .int 1) (C := zr_M) (T := zF_M) (N := 22) hx hb htB zi_M zT_M zT_M_ok zn_M hown hK hP hD hS 0 rfl rfl 5 (by decide) (htB _ zk_ceae0b21) (fun _ h9 => h9) rfl (zT_M_ok 5 (by decide)) rfl rfl (Nat.le_of_ble_eq_true rfl) zd_M_lodge_23 (fun H locs hP hD hS => ?_)
      have hP : va_P (dC, dI) zz_cl (zv_M cI cZ cL a0 a1 a2 a3 a4 a5 a6 a7 0 w1 w2 w3 w4 1 w6 w7 w8 w9 w10 w11 w12 w13 w14 w15 w16 w17 w18 w19 w20 w21) H := hP
      have hD : va_D A (zv_M cI cZ cL a0 a1 a2 a3 a4 a5 a6 a7 0 w1 w2 w3 w4 1 w6 w7 w8 w9 w10 w11 w12 w13 w14 w15 w16 w17 w18 w19 w20 w21) := hD
      refine lv_iconst (v := 1) hx hb zd_M_lodge_26 (by decide) ?_
      rw [(show zf_M_lodge w0 w1 w2 w3 w4 w5 w6 w7 w8 w9 = (1, 0, 1) from by rw [zf_M_lodge, if_pos c_9, if_pos c_16])]
      exact zz_iret hx hb hr hlocks hK hP hD hS zd_M_lodge_27 rfl
    · refine lv_iconst (v := 0) hx hb zd_M_lodge_19 (by decide) ?_
      rw [(show zf_M_lodge w0 w1 w2 w3 w4 w5 w6 w7 w8 w9 = (0, 0, w5) from by rw [zf_M_lodge, if_pos c_9, if_neg c_16])]
      exact zz_iret hx hb hr hlocks hK hP hD hS zd_M_lodge_20 rfl
set_option maxHeartbeats 4000000 in
set_option maxRecDepth 100000 in
theorem zc_M_amend (l : Launch) (dC : Nat → ClassId) (dI : Nat → Nat → Nat) (cI cZ cL : ClassId) (a0 a1 a2 a3 a4 a5 a6 a7 : Nat) (sz : Nat) (w0 : Int32) (w1 : Int32) (w2 : Nat) (w3 : Nat → Int32) (w4 : Nat → Int64) (w5 : Int32) (w6 : Int32) (w7 : Nat) (w8 : Nat → Int64) (w9 : Nat → Int32) (w10 : Nat) (w11 : Nat → Int32) (w12 : Nat → Int32) (w13 : Nat → Int32) (w14 : Int32) (w15 : Int32) (w16 : Int32) (w17 : Int32) (w18 : Int32) (w19 : Int64) (w20 : Int32) (w21 : Int32) (p1 : Int32) (p2 : Int32) (p3 : Int64) (hm : w2 ≤ 30) (hc : w7 ≤ 20) : Met l zy_M_amend (zz_ws zy_M_amend zb_M_amend 7 (some .int)) ({ frames := 4, cells := 0, slots := 0, locals := 91 } : Room) (va_Pc ([.ref a0, .int p1, .int p2, .long p3] : List Value) (zz_P (dC, dI) (zz_ty cI cZ cL) sz (zv_M cI cZ cL a0 a1 a2 a3 a4 a5 a6 a7 w0 w1 w2 w3 w4 w5 w6 w7 w8 w9 w10 w11 w12 w13 w14 w15 w16 w17 w18 w19 w20 w21))) (zz_Qi (dC, dI) (zz_ty cI cZ cL) (va_A (zv_M cI cZ cL a0 a1 a2 a3 a4 a5 a6 a7 w0 w1 w2 w3 w4 w5 w6 w7 w8 w9 w10 w11 w12 w13 w14 w15 w16 w17 w18 w19 w20 w21) sz) ((zf_M_amend w0 w1 w2 w3 w4 w5 w6 w7 w8 w9 p1 p2 p3).1) (zv_M cI cZ cL a0 a1 a2 a3 a4 a5 a6 a7 ((zf_M_amend w0 w1 w2 w3 w4 w5 w6 w7 w8 w9 p1 p2 p3).2.1) w1 w2 w3 ((zf_M_amend w0 w1 w2 w3 w4 w5 w6 w7 w8 w9 p1 p2 p3).2.2) w5 w6 w7 w8 w9 w10 w11 w12 w13 w14 w15 w16 w17 w18 w19 w20 w21)) 0 0 (va_A (zv_M cI cZ cL a0 a1 a2 a3 a4 a5 a6 a7 w0 w1 w2 w3 w4 w5 w6 w7 w8 w9 w10 w11 w12 w13 w14 w15 w16 w17 w18 w19 w20 w21) sz) := by
  refine zz_ofW (Q := fun A => (zz_Qi (dC, dI) (zz_ty cI cZ cL) A ((zf_M_amend w0 w1 w2 w3 w4 w5 w6 w7 w8 w9 p1 p2 p3).1) (zv_M cI cZ cL a0 a1 a2 a3 a4 a5 a6 a7 ((zf_M_amend w0 w1 w2 w3 w4 w5 w6 w7 w8 w9 p1 p2 p3).2.1) w1 w2 w3 ((zf_M_amend w0 w1 w2 w3 w4 w5 w6 w7 w8 w9 p1 p2 p3).2.2) w5 w6 w7 w8 w9 w10 w11 w12 w13 w14 w15 w16 w17 w18 w19 w20 w21))) (by decide) (Nat.le_of_ble_eq_true rfl) ?_
  intro p e s m below meth c A C0 _ hA hK hP hD _ ls hl
  obtain ⟨hx, hb, hr, hml, hown, htB, hlocks, hE⟩ := id C0
  have hS : va_S A s.heap s.heap [] := va_S.rf
  have hl : lv_has ls 7 [(0, .ref a0), (1, .int p1), (2, .int p2), (3, .long p3)] := hl
  refine lv_aload_n hx hb zd_M_amend_0 rfl (lv_at hl 0 rfl) ?_
  refine lv_iload_n hx hb zd_M_amend_1 rfl (lv_at hl 1 rfl) ?_
  refine lv_iload_n hx hb zd_M_amend_2 rfl (lv_at hl 2 rfl) ?_
  refine zz_ki (va_runV (As := [.int p1, .int p2]) (rest := []) ⟨hx, hb, hml, hown, htB⟩ (zc_M_isPlace l dC dI cI cZ cL a0 a1 a2 a3 a4 a5 a6 a7 s.heap.size w0 w1 w2 w3 w4 w5 w6 w7 w8 w9 w10 w11 w12 w13 w14 w15 w16 w17 w18 w19 w20 w21 p1 p2 hm) (cwV 2 htB (zz_gV zk_a0f7a764 zk_92fa40ee zk_546771c0 zk_91cc3b19 zk_1add32c5) rfl rfl rfl ⟨rfl, zh_M_isPlace⟩ ⟨Nat.le_of_ble_eq_true rfl, Nat.le_of_ble_eq_true rfl⟩) (zz_preV (ci := 5) (q := (zr_M, zF_M, 22)) hP hD hK hE [0, 1, 2, 3, 4, 5, 6, 7] (by decide) rfl rfl rfl) rfl rfl hl.1 rfl (lv_room (Nat.le_of_ble_eq_true rfl)) zd_M_amend_3 ⟨Nat.le_of_ble_eq_true rfl, Nat.le_of_ble_eq_true rfl⟩) ?_
  refine lv_if_eq (tgt := 20) hx hb zd_M_amend_6 (by decide) (fun c_6 => ?_) (fun c_6 => ?_)
  · refine lv_aload_n hx hb zd_M_amend_20 rfl (lv_at hl 0 rfl) ?_
    refine lv_iconst (v := 1) hx hb zd_M_amend_21 (by decide) ?_
    refine zz_ci (va_runV (As := [.int 1]) (rest := []) ⟨hx, hb, hml, hown, htB⟩ (zc_M_refuse l dC dI cI cZ cL a0 a1 a2 a3 a4 a5 a6 a7 s.heap.size w0 w1 w2 w3 w4 w5 w6 w7 w8 w9 w10 w11 w12 w13 w14 w15 w16 w17 w18 w19 w20 w21 1 ) (cwV 1 htB (zz_gV zk_05b1c230 zk_32615e0d zk_05b898fc zk_91cc3b19 zk_5f584b7b) rfl rfl rfl ⟨rfl, zh_M_refuse⟩ ⟨Nat.le_of_ble_eq_true rfl, Nat.le_of_ble_eq_true rfl⟩) (zz_preV (ci := 5) (q := (zr_M, zF_M, 22)) hP hD hK hE [0, 1, 2, 3, 4, 5, 6, 7] (by decide) rfl rfl rfl) rfl rfl hl.1 rfl (lv_room (Nat.le_of_ble_eq_true rfl)) zd_M_amend_22 ⟨Nat.le_of_ble_eq_true rfl, Nat.le_of_ble_eq_true rfl⟩) hP hD hS hA [0, 1, 2, 3, 4, 5, 6, 7] [] [0, 1, 2, 3, 4, 5, 6, 7] rfl rfl (by decide) (by decide) (by decide) rfl (fun H locs hP hD hS => ?_)
    have hP : va_P (dC, dI) zz_cl (zv_M cI cZ cL a0 a1 a2 a3 a4 a5 a6 a7 ((zf_M_refuse w0 1).2) w1 w2 w3 w4 w5 w6 w7 w8 w9 w10 w11 w12 w13 w14 w15 w16 w17 w18 w19 w20 w21) H := hP
    have hD : va_D A (zv_M cI cZ cL a0 a1 a2 a3 a4 a5 a6 a7 ((zf_M_refuse w0 1).2) w1 w2 w3 w4 w5 w6 w7 w8 w9 w10 w11 w12 w13 w14 w15 w16 w17 w18 w19 w20 w21) := hD
    rw [(show zf_M_amend w0 w1 w2 w3 w4 w5 w6 w7 w8 w9 p1 p2 p3 = ((zf_M_refuse w0 1).1, (zf_M_refuse w0 1).2, w4) from by rw [zf_M_amend, if_pos c_6])]
    exact zz_iret hx hb hr hlocks hK hP hD hS zd_M_amend_25 rfl
  · refine lv_lload_n hx hb zd_M_amend_9 rfl (lv_at hl 3 rfl) ?_
    refine lv_lconst (v := 0) hx hb zd_M_amend_10 (by decide) ?_
    refine lv_ldc2 (v := 1000000000) hx hb hown (htB _ zk_37a5971a) zd_M_amend_11 ?_
    refine zz_ki (va_runS (As := [.long p3, .long 0, .long 1000000000]) (rest := []) ⟨hx, hb, hml, hown, htB⟩ (zc_M_in l dC dI cI cZ cL  s.heap.size  p3 0 1000000000 ) (va_cwS 3 htB (zz_gS zk_3b1d8f54 zk_5de93d87 zk_91cc3b19 zk_d5048d4e) rfl rfl rfl zh_M_in ⟨Nat.le_of_ble_eq_true rfl, Nat.le_of_ble_eq_true rfl⟩) (zz_preS hP hD hK hE [] (by decide) rfl) rfl rfl hl.1 rfl (lv_room (Nat.le_of_ble_eq_true rfl)) zd_M_amend_14 ⟨Nat.le_of_ble_eq_true rfl, Nat.le_of_ble_eq_true rfl⟩) ?_
    refine lv_if_ne (tgt := 26) hx hb zd_M_amend_17 (by decide) (fun c_17 => ?_) (fun c_17 => ?_)
    · refine lv_aload_n hx hb zd_M_amend_26 rfl (lv_at hl 0 rfl) ?_
      refine va_get (D := (dC, dI)) (ci := 5) (v := .int w5) (C := zr_M) (T := zF_M) (N := 22) hx hb htB zi_M hown hK hP 0 rfl rfl 5 (by decide) (htB _ zk_ceae0b21) (fun _ h9 => h9) rfl zd_M_amend_27 ?_
      refine lv_if_ne (tgt := 39) hx hb zd_M_amend_30 (by decide) (fun c_30 => ?_) (fun c_30 => ?_)
      · refine lv_aload_n hx hb zd_M_amend_39 rfl (lv_at hl 0 rfl) ?_
        refine lv_iconst (v := 0) hx hb zd_M_amend_40 (by decide) ?_
        refine va_put (D := (dC, dI)) (ci := 5) (v := .int 0) (C := zr_M) (T := zF_M) (N := 22) hx hb htB zi_M zT_M zT_M_ok zn_M hown hK hP hD hS 0 rfl rfl 0 (by decide) (htB _ zk_d62d4141) (fun _ h9 => h9) rfl (zT_M_ok 0 (by decide)) rfl rfl (Nat.le_of_ble_eq_true rfl) zd_M_amend_41 (fun H locs hP hD hS => ?_)
        have hP : va_P (dC, dI) zz_cl (zv_M cI cZ cL a0 a1 a2 a3 a4 a5 a6 a7 0 w1 w2 w3 w4 w5 w6 w7 w8 w9 w10 w11 w12 w13 w14 w15 w16 w17 w18 w19 w20 w21) H := hP
        have hD : va_D A (zv_M cI cZ cL a0 a1 a2 a3 a4 a5 a6 a7 0 w1 w2 w3 w4 w5 w6 w7 w8 w9 w10 w11 w12 w13 w14 w15 w16 w17 w18 w19 w20 w21) := hD
        refine lv_iload_n hx hb zd_M_amend_44 rfl (lv_at hl 1 rfl) ?_
        refine lv_iconst (v := 3) hx hb zd_M_amend_45 (by decide) ?_
        refine lv_irem hx hb zd_M_amend_46 (by decide) ?_
        refine lv_if_eq (tgt := 62) hx hb zd_M_amend_47 (by decide) (fun c_47 => ?_) (fun c_47 => ?_)
        · refine lv_iconst (v := 0) hx hb zd_M_amend_62 (by decide) ?_
          rw [(show zf_M_amend w0 w1 w2 w3 w4 w5 w6 w7 w8 w9 p1 p2 p3 = (0, 0, w4) from by rw [zf_M_amend, if_neg c_6, if_neg c_17, if_neg c_30, if_pos c_47])]
          exact zz_iret hx hb hr hlocks hK hP hD hS zd_M_amend_63 rfl
        · refine lv_iload_n hx hb zd_M_amend_50 rfl (lv_at hl 1 rfl) ?_
          refine lv_aload_n hx hb zd_M_amend_51 rfl (lv_at hl 0 rfl) ?_
          refine va_get (D := (dC, dI)) (ci := 5) (v := .int w1) (C := zr_M) (T := zF_M) (N := 22) hx hb htB zi_M hown hK hP 0 rfl rfl 1 (by decide) (htB _ zk_cf183326) (fun _ h9 => h9) rfl zd_M_amend_52 ?_
          refine zz_ki (va_runS (As := [.int p1, .int w1]) (rest := []) ⟨hx, hb, hml, hown, htB⟩ (zc_M_needOf l dC dI cI cZ cL  H.size  p1 w1 ) (va_cwS 2 htB (zz_gS zk_69d8a7dc zk_8aca10f0 zk_91cc3b19 zk_57c855ba) rfl rfl rfl zh_M_needOf ⟨Nat.le_of_ble_eq_true rfl, Nat.le_of_ble_eq_true rfl⟩) (zz_preS hP hD hK hE [] (by decide) rfl) rfl rfl hl.1 rfl (lv_room (Nat.le_of_ble_eq_true rfl)) zd_M_amend_55 ⟨Nat.le_of_ble_eq_true rfl, Nat.le_of_ble_eq_true rfl⟩) ?_
          refine lv_iconst (v := 3) hx hb zd_M_amend_58 (by decide) ?_
          refine lv_icmp_ne (tgt := 64) hx hb zd_M_amend_59 (by decide) (fun c_59 => ?_) (fun c_59 => ?_)
          · refine lv_aload_n hx hb zd_M_amend_64 rfl (lv_at hl 0 rfl) ?_
            refine va_get (D := (dC, dI)) (ci := 5) (v := .ref a2) (C := zr_M) (T := zF_M) (N := 22) hx hb htB zi_M hown hK hP 0 rfl rfl 4 (by decide) (htB _ zk_8e1cf9a2) (fun _ h9 => h9) rfl zd_M_amend_65 ?_
            refine lv_iload_n hx hb zd_M_amend_68 rfl (lv_at hl 1 rfl) ?_
            refine lv_iload_n hx hb zd_M_amend_69 rfl (lv_at hl 2 rfl) ?_
            refine zz_ki (va_runS (As := [.int p1, .int p2]) (rest := [.ref a2]) ⟨hx, hb, hml, hown, htB⟩ (zc_M_at l dC dI cI cZ cL  H.size  p1 p2 ) (va_cwS 2 htB (zz_gS zk_15927651 zk_e84089c4 zk_91cc3b19 zk_3702f9eb) rfl rfl rfl zh_M_at ⟨Nat.le_of_ble_eq_true rfl, Nat.le_of_ble_eq_true rfl⟩) (zz_preS hP hD hK hE [] (by decide) rfl) rfl rfl hl.1 rfl (lv_room (Nat.le_of_ble_eq_true rfl)) zd_M_amend_70 ⟨Nat.le_of_ble_eq_true rfl, Nat.le_of_ble_eq_true rfl⟩) ?_
            refine va_lald hx hb hK hP 2 2 rfl rfl (zy_place hm c_6) zd_M_amend_73 ?_
            refine lv_lstore (lv' := [(5, .long (w4 (zf_M_at p1 p2).toNatClampNeg)), (0, .ref a0), (1, .int p1), (2, .int p2), (3, .long p3)]) hx hb zd_M_amend_74 hl (by decide) rfl (fun ls hl => ?_)
            refine lv_aload_n hx hb zd_M_amend_76 rfl (lv_at hl 1 rfl) ?_
            refine va_get (D := (dC, dI)) (ci := 5) (v := .ref a2) (C := zr_M) (T := zF_M) (N := 22) hx hb htB zi_M hown hK hP 0 rfl rfl 4 (by decide) (htB _ zk_8e1cf9a2) (fun _ h9 => h9) rfl zd_M_amend_77 ?_
            refine lv_iload_n hx hb zd_M_amend_80 rfl (lv_at hl 2 rfl) ?_
            refine lv_iload_n hx hb zd_M_amend_81 rfl (lv_at hl 3 rfl) ?_
            refine zz_ki (va_runS (As := [.int p1, .int p2]) (rest := [.ref a2]) ⟨hx, hb, hml, hown, htB⟩ (zc_M_at l dC dI cI cZ cL  H.size  p1 p2 ) (va_cwS 2 htB (zz_gS zk_15927651 zk_e84089c4 zk_91cc3b19 zk_3702f9eb) rfl rfl rfl zh_M_at ⟨Nat.le_of_ble_eq_true rfl, Nat.le_of_ble_eq_true rfl⟩) (zz_preS hP hD hK hE [] (by decide) rfl) rfl rfl hl.1 rfl (lv_room (Nat.le_of_ble_eq_true rfl)) zd_M_amend_82 ⟨Nat.le_of_ble_eq_true rfl, Nat.le_of_ble_eq_true rfl⟩) ?_
            refine lv_lload_n hx hb zd_M_amend_85 rfl (lv_at hl 4 rfl) ?_
            refine va_last hx hb hK hP hD hS 2 2 rfl rfl (zy_place hm c_6) zd_M_amend_86 (fun H locs hP hD hS => ?_)
            have hP : va_P (dC, dI) zz_cl (zv_M cI cZ cL a0 a1 a2 a3 a4 a5 a6 a7 0 w1 w2 w3 (vp_updL w4 (zf_M_at p1 p2).toNatClampNeg p3) w5 w6 w7 w8 w9 w10 w11 w12 w13 w14 w15 w16 w17 w18 w19 w20 w21) H := hP
            have hD : va_D A (zv_M cI cZ cL a0 a1 a2 a3 a4 a5 a6 a7 0 w1 w2 w3 (vp_updL w4 (zf_M_at p1 p2).toNatClampNeg p3) w5 w6 w7 w8 w9 w10 w11 w12 w13 w14 w15 w16 w17 w18 w19 w20 w21) := hD
            refine lv_aload_n hx hb zd_M_amend_87 rfl (lv_at hl 1 rfl) ?_
            refine zz_ki (va_runV (As := []) (rest := []) ⟨hx, hb, hml, hown, htB⟩ (zc_M_broken l dC dI cI cZ cL a0 a1 a2 a3 a4 a5 a6 a7 H.size 0 w1 w2 w3 (vp_updL w4 (zf_M_at p1 p2).toNatClampNeg p3) w5 w6 w7 w8 w9 w10 w11 w12 w13 w14 w15 w16 w17 w18 w19 w20 w21  hm hc) (cwV 0 htB (zz_gV zk_b502ed03 zk_8983c4a1 zk_b7637070 zk_91cc3b19 zk_89144701) rfl rfl rfl ⟨rfl, zh_M_broken⟩ ⟨Nat.le_of_ble_eq_true rfl, Nat.le_of_ble_eq_true rfl⟩) (zz_preV (ci := 5) (q := (zr_M, zF_M, 22)) hP hD hK hE [0, 1, 2, 3, 4, 5, 6, 7] (by decide) rfl rfl rfl) rfl rfl hl.1 rfl (lv_room (Nat.le_of_ble_eq_true rfl)) zd_M_amend_88 ⟨Nat.le_of_ble_eq_true rfl, Nat.le_of_ble_eq_true rfl⟩) ?_
            refine lv_if_eq (tgt := 108) hx hb zd_M_amend_91 (by decide) (fun c_91 => ?_) (fun c_91 => ?_)
            · refine lv_iconst (v := 1) hx hb zd_M_amend_108 (by decide) ?_
              rw [(show zf_M_amend w0 w1 w2 w3 w4 w5 w6 w7 w8 w9 p1 p2 p3 = (1, 0, (vp_updL w4 (zf_M_at p1 p2).toNatClampNeg p3)) from by rw [zf_M_amend, if_neg c_6, if_neg c_17, if_neg c_30, if_neg c_47, if_neg c_59, if_pos c_91])]
              exact zz_iret hx hb hr hlocks hK hP hD hS zd_M_amend_109 rfl
            · refine lv_aload_n hx hb zd_M_amend_94 rfl (lv_at hl 1 rfl) ?_
              refine va_get (D := (dC, dI)) (ci := 5) (v := .ref a2) (C := zr_M) (T := zF_M) (N := 22) hx hb htB zi_M hown hK hP 0 rfl rfl 4 (by decide) (htB _ zk_8e1cf9a2) (fun _ h9 => h9) rfl zd_M_amend_95 ?_
              refine lv_iload_n hx hb zd_M_amend_98 rfl (lv_at hl 2 rfl) ?_
              refine lv_iload_n hx hb zd_M_amend_99 rfl (lv_at hl 3 rfl) ?_
              refine zz_ki (va_runS (As := [.int p1, .int p2]) (rest := [.ref a2]) ⟨hx, hb, hml, hown, htB⟩ (zc_M_at l dC dI cI cZ cL  H.size  p1 p2 ) (va_cwS 2 htB (zz_gS zk_15927651 zk_e84089c4 zk_91cc3b19 zk_3702f9eb) rfl rfl rfl zh_M_at ⟨Nat.le_of_ble_eq_true rfl, Nat.le_of_ble_eq_true rfl⟩) (zz_preS hP hD hK hE [] (by decide) rfl) rfl rfl hl.1 rfl (lv_room (Nat.le_of_ble_eq_true rfl)) zd_M_amend_100 ⟨Nat.le_of_ble_eq_true rfl, Nat.le_of_ble_eq_true rfl⟩) ?_
              refine lv_lload hx hb zd_M_amend_103 (lv_at hl 0 rfl) ?_
              refine va_last hx hb hK hP hD hS 2 2 rfl rfl (zy_place hm c_6) zd_M_amend_105 (fun H locs hP hD hS => ?_)
              have hP : va_P (dC, dI) zz_cl (zv_M cI cZ cL a0 a1 a2 a3 a4 a5 a6 a7 0 w1 w2 w3 (vp_updL (vp_updL w4 (zf_M_at p1 p2).toNatClampNeg p3) (zf_M_at p1 p2).toNatClampNeg (w4 (zf_M_at p1 p2).toNatClampNeg)) w5 w6 w7 w8 w9 w10 w11 w12 w13 w14 w15 w16 w17 w18 w19 w20 w21) H := hP
              have hD : va_D A (zv_M cI cZ cL a0 a1 a2 a3 a4 a5 a6 a7 0 w1 w2 w3 (vp_updL (vp_updL w4 (zf_M_at p1 p2).toNatClampNeg p3) (zf_M_at p1 p2).toNatClampNeg (w4 (zf_M_at p1 p2).toNatClampNeg)) w5 w6 w7 w8 w9 w10 w11 w12 w13 w14 w15 w16 w17 w18 w19 w20 w21) := hD
              refine lv_iconst (v := 0) hx hb zd_M_amend_106 (by decide) ?_
              rw [(show zf_M_amend w0 w1 w2 w3 w4 w5 w6 w7 w8 w9 p1 p2 p3 = (0, 0, (vp_updL (vp_updL w4 (zf_M_at p1 p2).toNatClampNeg p3) (zf_M_at p1 p2).toNatClampNeg (w4 (zf_M_at p1 p2).toNatClampNeg))) from by rw [zf_M_amend, if_neg c_6, if_neg c_17, if_neg c_30, if_neg c_47, if_neg c_59, if_neg c_91])]
              exact zz_iret hx hb hr hlocks hK hP hD hS zd_M_amend_107 rfl
          · refine lv_iconst (v := 0) hx hb zd_M_amend_62 (by decide) ?_
            rw [(show zf_M_amend w0 w1 w2 w3 w4 w5 w6 w7 w8 w9 p1 p2 p3 = (0, 0, w4) from by rw [zf_M_amend, if_neg c_6, if_neg c_17, if_neg c_30, if_neg c_47, if_pos c_59])]
            exact zz_iret hx hb hr hlocks hK hP hD hS zd_M_amend_63 rfl
      · refine lv_aload_n hx hb zd_M_amend_33 rfl (lv_at hl 0 rfl) ?_
        refine lv_iconst (v := 2) hx hb zd_M_amend_34 (by decide) ?_
        refine zz_ci (va_runV (As := [.int 2]) (rest := []) ⟨hx, hb, hml, hown, htB⟩ (zc_M_refuse l dC dI cI cZ cL a0 a1 a2 a3 a4 a5 a6 a7 s.heap.size w0 w1 w2 w3 w4 w5 w6 w7 w8 w9 w10 w11 w12 w13 w14 w15 w16 w17 w18 w19 w20 w21 2 ) (cwV 1 htB (zz_gV zk_05b1c230 zk_32615e0d zk_05b898fc zk_91cc3b19 zk_5f584b7b) rfl rfl rfl ⟨rfl, zh_M_refuse⟩ ⟨Nat.le_of_ble_eq_true rfl, Nat.le_of_ble_eq_true rfl⟩) (zz_preV (ci := 5) (q := (zr_M, zF_M, 22)) hP hD hK hE [0, 1, 2, 3, 4, 5, 6, 7] (by decide) rfl rfl rfl) rfl rfl hl.1 rfl (lv_room (Nat.le_of_ble_eq_true rfl)) zd_M_amend_35 ⟨Nat.le_of_ble_eq_true rfl, Nat.le_of_ble_eq_true rfl⟩) hP hD hS hA [0, 1, 2, 3, 4, 5, 6, 7] [] [0, 1, 2, 3, 4, 5, 6, 7] rfl rfl (by decide) (by decide) (by decide) rfl (fun H locs hP hD hS => ?_)
        have hP : va_P (dC, dI) zz_cl (zv_M cI cZ cL a0 a1 a2 a3 a4 a5 a6 a7 ((zf_M_refuse w0 2).2) w1 w2 w3 w4 w5 w6 w7 w8 w9 w10 w11 w12 w13 w14 w15 w16 w17 w18 w19 w20 w21) H := hP
        have hD : va_D A (zv_M cI cZ cL a0 a1 a2 a3 a4 a5 a6 a7 ((zf_M_refuse w0 2).2) w1 w2 w3 w4 w5 w6 w7 w8 w9 w10 w11 w12 w13 w14 w15 w16 w17 w18 w19 w20 w21) := hD
        rw [(show zf_M_amend w0 w1 w2 w3 w4 w5 w6 w7 w8 w9 p1 p2 p3 = ((zf_M_refuse w0 2).1, (zf_M_refuse w0 2).2, w4) from by rw [zf_M_amend, if_neg c_6, if_neg c_17, if_pos c_30])]
        exact zz_iret hx hb hr hlocks hK hP hD hS zd_M_amend_38 rfl
    · refine lv_aload_n hx hb zd_M_amend_20 rfl (lv_at hl 0 rfl) ?_
      refine lv_iconst (v := 1) hx hb zd_M_amend_21 (by decide) ?_
      refine zz_ci (va_runV (As := [.int 1]) (rest := []) ⟨hx, hb, hml, hown, htB⟩ (zc_M_refuse l dC dI cI cZ cL a0 a1 a2 a3 a4 a5 a6 a7 s.heap.size w0 w1 w2 w3 w4 w5 w6 w7 w8 w9 w10 w11 w12 w13 w14 w15 w16 w17 w18 w19 w20 w21 1 ) (cwV 1 htB (zz_gV zk_05b1c230 zk_32615e0d zk_05b898fc zk_91cc3b19 zk_5f584b7b) rfl rfl rfl ⟨rfl, zh_M_refuse⟩ ⟨Nat.le_of_ble_eq_true rfl, Nat.le_of_ble_eq_true rfl⟩) (zz_preV (ci := 5) (q := (zr_M, zF_M, 22)) hP hD hK hE [0, 1, 2, 3, 4, 5, 6, 7] (by decide) rfl rfl rfl) rfl rfl hl.1 rfl (lv_room (Nat.le_of_ble_eq_true rfl)) zd_M_amend_22 ⟨Nat.le_of_ble_eq_true rfl, Nat.le_of_ble_eq_true rfl⟩) hP hD hS hA [0, 1, 2, 3, 4, 5, 6, 7] [] [0, 1, 2, 3, 4, 5, 6, 7] rfl rfl (by decide) (by decide) (by decide) rfl (fun H locs hP hD hS => ?_)
      have hP : va_P (dC, dI) zz_cl (zv_M cI cZ cL a0 a1 a2 a3 a4 a5 a6 a7 ((zf_M_refuse w0 1).2) w1 w2 w3 w4 w5 w6 w7 w8 w9 w10 w11 w12 w13 w14 w15 w16 w17 w18 w19 w20 w21) H := hP
      have hD : va_D A (zv_M cI cZ cL a0 a1 a2 a3 a4 a5 a6 a7 ((zf_M_refuse w0 1).2) w1 w2 w3 w4 w5 w6 w7 w8 w9 w10 w11 w12 w13 w14 w15 w16 w17 w18 w19 w20 w21) := hD
      rw [(show zf_M_amend w0 w1 w2 w3 w4 w5 w6 w7 w8 w9 p1 p2 p3 = ((zf_M_refuse w0 1).1, (zf_M_refuse w0 1).2, w4) from by rw [zf_M_amend, if_neg c_6, if_pos c_17])]
      exact zz_iret hx hb hr hlocks hK hP hD hS zd_M_amend_25 rfl
set_option maxHeartbeats 4000000 in
set_option maxRecDepth 100000 in
theorem zp_M_paperOf_4 {p : Program} {l : Launch} {e : Env} {s : State} {m : MethodId} {below : List Frame} {meth : Method} {c : Code} (dC : Nat → ClassId) (dI : Nat → Nat → Nat) (cI cZ cL : ClassId) (a0 a1 a2 a3 a4 a5 a6 a7 : Nat) (w0 : Int32) (w1 : Int32) (w2 : Nat) (w3 : Nat → Int32) (w4 : Nat → Int64) (w5 : Int32) (w6 : Int32) (w7 : Nat) (w8 : Nat → Int64) (w9 : Nat → Int32) (w10 : Nat) (w11 : Nat → Int32) (w12 : Nat → Int32) (w13 : Nat → Int32) (w14 : Int32) (w15 : Int32) (w16 : Int32) (w17 : Int32) (w18 : Int32) (w19 : Int64) (w20 : Int32) (w21 : Int32) (p1 : Int32) (hp : w10 ≤ 20) (C0 : zz_C p s m ([.ref a0, .int p1] : List Value).toArray meth c zb_M_paperOf 4 (some .int) zy_M_paperOf.cls) (hK : va_K (dC, dI) zz_cl (zz_ty cI cZ cL) s) (hP : va_P (dC, dI) zz_cl (zv_M cI cZ cL a0 a1 a2 a3 a4 a5 a6 a7 w0 w1 w2 w3 w4 w5 w6 w7 w8 w9 w10 w11 w12 w13 w14 w15 w16 w17 w18 w19 w20 w21) s.heap) (hD : va_D (fun _ => True) (zv_M cI cZ cL a0 a1 a2 a3 a4 a5 a6 a7 w0 w1 w2 w3 w4 w5 w6 w7 w8 w9 w10 w11 w12 w13 w14 w15 w16 w17 w18 w19 w20 w21)) :
    ∀ (mm k : Nat), k + mm = w10 → ∀ (x2 : Int32), ∀ ls : Array Slot, lv_has ls 4 [(0, .ref a0), (1, .int p1), (2, .int x2), (3, .int (nI k))] →
    W p l e ({ frames := 0, cells := 0, slots := 0, locals := 0 } : Room) s m ([.ref a0, .int p1] : List Value).toArray below meth c s.heap [] 0 0 (MQ below (zz_Ki (zf_M_paperOf_L4 w10 w11 p1 mm k x2)) ([.ref a0, .int p1] : List Value).toArray s 0 0 (fun _ => False)) (F0 m 4 ls []) := by
  obtain ⟨hx, hb, hr, hml, hown, htB, hlocks, hE⟩ := id C0
  intro mm
  induction mm with
  | zero =>
    intro k hk x2 ls hl
    refine lv_iload_n hx hb zd_M_paperOf_4 rfl (lv_at hl 3 rfl) ?_
    refine lv_aload_n hx hb zd_M_paperOf_5 rfl (lv_at hl 0 rfl) ?_
    refine va_get (D := (dC, dI)) (ci := 5) (v := .int (nI w10)) (C := zr_M) (T := zF_M) (N := 22) hx hb htB zi_M hown hK hP 0 rfl rfl 10 (by decide) (htB _ zk_b8d6ae4f) (fun _ h9 => h9) rfl zd_M_paperOf_6 ?_
    refine lv_icmp_ge (tgt := 34) hx hb zd_M_paperOf_9 (by decide) (fun _ => ?_) (fun c_ => absurd (zz_geT (b := w10) rfl (by omega) (by omega)) c_)
    refine lv_iload_n hx hb zd_M_paperOf_34 rfl (lv_at hl 2 rfl) ?_
    rw [(show zf_M_paperOf_L4 w10 w11 p1 0 k x2 = x2 from by first | rfl | (rw [zf_M_paperOf_L4]))]
    exact zz_kiret hx hb hr hlocks zd_M_paperOf_35 rfl
  | succ mm ih =>
    intro k hk x2 ls hl
    refine lv_iload_n hx hb zd_M_paperOf_4 rfl (lv_at hl 3 rfl) ?_
    refine lv_aload_n hx hb zd_M_paperOf_5 rfl (lv_at hl 0 rfl) ?_
    refine va_get (D := (dC, dI)) (ci := 5) (v := .int (nI w10)) (C := zr_M) (T := zF_M) (N := 22) hx hb htB zi_M hown hK hP 0 rfl rfl 10 (by decide) (htB _ zk_b8d6ae4f) (fun _ h9 => h9) rfl zd_M_paperOf_6 ?_
    refine lv_icmp_ge (tgt := 34) hx hb zd_M_paperOf_9 (by decide) (fun c_ => absurd c_ (zz_geF (b := w10) rfl (by omega) (by omega))) (fun _ => ?_)
    refine lv_aload_n hx hb zd_M_paperOf_12 rfl (lv_at hl 0 rfl) ?_
    refine va_get (D := (dC, dI)) (ci := 5) (v := .ref a5) (C := zr_M) (T := zF_M) (N := 22) hx hb htB zi_M hown hK hP 0 rfl rfl 11 (by decide) (htB _ zk_706ec683) (fun _ h9 => h9) rfl zd_M_paperOf_13 ?_
    refine lv_iload_n hx hb zd_M_paperOf_16 rfl (lv_at hl 3 rfl) ?_
    refine zz_iald hx hb hK hP 5 0 rfl rfl (by omega) (by decide) zd_M_paperOf_17 ?_
    refine lv_iload_n hx hb zd_M_paperOf_18 rfl (lv_at hl 1 rfl) ?_
    refine lv_icmp_ne (tgt := 26) hx hb zd_M_paperOf_19 (by decide) (fun c_19 => ?_) (fun c_19 => ?_)
    · refine lv_iload_n hx hb zd_M_paperOf_26 rfl (lv_at hl 2 rfl) ?_
      refine lv_istore_n (lv' := [(2, .int x2), (0, .ref a0), (1, .int p1), (3, .int (nI k))]) hx hb zd_M_paperOf_27 rfl hl (by decide) rfl (fun ls hl => ?_)
      refine lv_iinc (v := nI (k + 1)) (lv' := [(3, .int (nI (k + 1))), (2, .int x2), (0, .ref a0), (1, .int p1)]) hx hb zd_M_paperOf_28 hl (k := 3) rfl (nI_1 k) (by decide) rfl (fun ls hl => ?_)
      refine lv_goto (tgt := 4) hx hb zd_M_paperOf_31 (by decide) ?_
      rw [(show zf_M_paperOf_L4 w10 w11 p1 (mm + 1) k x2 = zf_M_paperOf_L4 w10 w11 p1 mm (k + 1) x2 from by rw [zf_M_paperOf_L4, if_neg c_19])]
      exact ih (k + 1) (by omega) x2   _ (lv_sub hl [2, 3, 1, 0] rfl)
    · refine lv_iload_n hx hb zd_M_paperOf_22 rfl (lv_at hl 3 rfl) ?_
      refine lv_goto (tgt := 27) hx hb zd_M_paperOf_23 (by decide) ?_
      refine lv_istore_n (lv' := [(2, .int (nI k)), (0, .ref a0), (1, .int p1), (3, .int (nI k))]) hx hb zd_M_paperOf_27 rfl hl (by decide) rfl (fun ls hl => ?_)
      refine lv_iinc (v := nI (k + 1)) (lv' := [(3, .int (nI (k + 1))), (2, .int (nI k)), (0, .ref a0), (1, .int p1)]) hx hb zd_M_paperOf_28 hl (k := 3) rfl (nI_1 k) (by decide) rfl (fun ls hl => ?_)
      refine lv_goto (tgt := 4) hx hb zd_M_paperOf_31 (by decide) ?_
      rw [(show zf_M_paperOf_L4 w10 w11 p1 (mm + 1) k x2 = zf_M_paperOf_L4 w10 w11 p1 mm (k + 1) (nI k) from by rw [zf_M_paperOf_L4, if_pos c_19])]
      exact ih (k + 1) (by omega) (nI k)   _ (lv_sub hl [2, 3, 1, 0] rfl)
set_option maxHeartbeats 4000000 in
set_option maxRecDepth 100000 in
theorem zc_M_paperOf (l : Launch) (dC : Nat → ClassId) (dI : Nat → Nat → Nat) (cI cZ cL : ClassId) (a0 a1 a2 a3 a4 a5 a6 a7 : Nat) (sz : Nat) (w0 : Int32) (w1 : Int32) (w2 : Nat) (w3 : Nat → Int32) (w4 : Nat → Int64) (w5 : Int32) (w6 : Int32) (w7 : Nat) (w8 : Nat → Int64) (w9 : Nat → Int32) (w10 : Nat) (w11 : Nat → Int32) (w12 : Nat → Int32) (w13 : Nat → Int32) (w14 : Int32) (w15 : Int32) (w16 : Int32) (w17 : Int32) (w18 : Int32) (w19 : Int64) (w20 : Int32) (w21 : Int32) (p1 : Int32) (hp : w10 ≤ 20) : Met l zy_M_paperOf (zz_ws zy_M_paperOf zb_M_paperOf 4 (some .int)) ({ frames := 0, cells := 0, slots := 0, locals := 0 } : Room) (va_Pc ([.ref a0, .int p1] : List Value) (zz_P (dC, dI) (zz_ty cI cZ cL) sz (zv_M cI cZ cL a0 a1 a2 a3 a4 a5 a6 a7 w0 w1 w2 w3 w4 w5 w6 w7 w8 w9 w10 w11 w12 w13 w14 w15 w16 w17 w18 w19 w20 w21))) (zz_Ki (zf_M_paperOf w10 w11 p1)) 0 0 (fun _ => False) := by
  refine zz_ofK (by decide) (Nat.le_of_ble_eq_true rfl) ?_
  intro p e s m below meth c C0 hK hP hD ls hl
  obtain ⟨hx, hb, hr, hml, hown, htB, hlocks, hE⟩ := id C0
  have hl : lv_has ls 4 [(0, .ref a0), (1, .int p1)] := hl
  refine lv_iconst (v := (-1)) hx hb zd_M_paperOf_0 (by decide) ?_
  refine lv_istore_n (lv' := [(2, .int (-1)), (0, .ref a0), (1, .int p1)]) hx hb zd_M_paperOf_1 rfl hl (by decide) rfl (fun ls hl => ?_)
  refine lv_iconst (v := 0) hx hb zd_M_paperOf_2 (by decide) ?_
  refine lv_istore_n (lv' := [(3, .int 0), (2, .int (-1)), (0, .ref a0), (1, .int p1)]) hx hb zd_M_paperOf_3 rfl hl (by decide) rfl (fun ls hl => ?_)
  rw [(show zf_M_paperOf w10 w11 p1 = zf_M_paperOf_L4 w10 w11 p1 w10 0 (-1) from by first | rfl | (rw [zf_M_paperOf]))]
  exact zp_M_paperOf_4 dC dI cI cZ cL a0 a1 a2 a3 a4 a5 a6 a7 w0 w1 w2 w3 w4 w5 w6 w7 w8 w9 w10 w11 w12 w13 w14 w15 w16 w17 w18 w19 w20 w21 p1 hp C0 hK hP hD w10 0 (by omega) (-1)   _ (lv_sub hl [2, 3, 1, 0] rfl)
set_option maxHeartbeats 4000000 in
set_option maxRecDepth 100000 in
theorem zc_M_paper (l : Launch) (dC : Nat → ClassId) (dI : Nat → Nat → Nat) (cI cZ cL : ClassId) (a0 a1 a2 a3 a4 a5 a6 a7 : Nat) (sz : Nat) (w0 : Int32) (w1 : Int32) (w2 : Nat) (w3 : Nat → Int32) (w4 : Nat → Int64) (w5 : Int32) (w6 : Int32) (w7 : Nat) (w8 : Nat → Int64) (w9 : Nat → Int32) (w10 : Nat) (w11 : Nat → Int32) (w12 : Nat → Int32) (w13 : Nat → Int32) (w14 : Int32) (w15 : Int32) (w16 : Int32) (w17 : Int32) (w18 : Int32) (w19 : Int64) (w20 : Int32) (w21 : Int32) (p1 : Int32) (p2 : Int32) (hp : w10 ≤ 20) : Met l zy_M_paper (zz_ws zy_M_paper zb_M_paper 3 (some .boolean)) ({ frames := 1, cells := 0, slots := 0, locals := 25 } : Room) (va_Pc ([.ref a0, .int p1, .int p2] : List Value) (zz_P (dC, dI) (zz_ty cI cZ cL) sz (zv_M cI cZ cL a0 a1 a2 a3 a4 a5 a6 a7 w0 w1 w2 w3 w4 w5 w6 w7 w8 w9 w10 w11 w12 w13 w14 w15 w16 w17 w18 w19 w20 w21))) (zz_Qi (dC, dI) (zz_ty cI cZ cL) (va_A (zv_M cI cZ cL a0 a1 a2 a3 a4 a5 a6 a7 w0 w1 w2 w3 w4 w5 w6 w7 w8 w9 w10 w11 w12 w13 w14 w15 w16 w17 w18 w19 w20 w21) sz) ((zf_M_paper w0 w10 w11 w12 p1 p2).1) (zv_M cI cZ cL a0 a1 a2 a3 a4 a5 a6 a7 ((zf_M_paper w0 w10 w11 w12 p1 p2).2.1) w1 w2 w3 w4 w5 w6 w7 w8 w9 ((zf_M_paper w0 w10 w11 w12 p1 p2).2.2.1) ((zf_M_paper w0 w10 w11 w12 p1 p2).2.2.2.1) ((zf_M_paper w0 w10 w11 w12 p1 p2).2.2.2.2) w13 w14 w15 w16 w17 w18 w19 w20 w21)) 0 0 (va_A (zv_M cI cZ cL a0 a1 a2 a3 a4 a5 a6 a7 w0 w1 w2 w3 w4 w5 w6 w7 w8 w9 w10 w11 w12 w13 w14 w15 w16 w17 w18 w19 w20 w21) sz) := by
  refine zz_ofW (Q := fun A => (zz_Qi (dC, dI) (zz_ty cI cZ cL) A ((zf_M_paper w0 w10 w11 w12 p1 p2).1) (zv_M cI cZ cL a0 a1 a2 a3 a4 a5 a6 a7 ((zf_M_paper w0 w10 w11 w12 p1 p2).2.1) w1 w2 w3 w4 w5 w6 w7 w8 w9 ((zf_M_paper w0 w10 w11 w12 p1 p2).2.2.1) ((zf_M_paper w0 w10 w11 w12 p1 p2).2.2.2.1) ((zf_M_paper w0 w10 w11 w12 p1 p2).2.2.2.2) w13 w14 w15 w16 w17 w18 w19 w20 w21))) (by decide) (Nat.le_of_ble_eq_true rfl) ?_
  intro p e s m below meth c A C0 _ hA hK hP hD _ ls hl
  obtain ⟨hx, hb, hr, hml, hown, htB, hlocks, hE⟩ := id C0
  have hS : va_S A s.heap s.heap [] := va_S.rf
  have hl : lv_has ls 3 [(0, .ref a0), (1, .int p1), (2, .int p2)] := hl
  refine lv_aload_n hx hb zd_M_paper_0 rfl (lv_at hl 0 rfl) ?_
  refine lv_iconst (v := 0) hx hb zd_M_paper_1 (by decide) ?_
  refine va_put (D := (dC, dI)) (ci := 5) (v := .int 0) (C := zr_M) (T := zF_M) (N := 22) hx hb htB zi_M zT_M zT_M_ok zn_M hown hK hP hD hS 0 rfl rfl 0 (by decide) (htB _ zk_d62d4141) (fun _ h9 => h9) rfl (zT_M_ok 0 (by decide)) rfl rfl (Nat.le_of_ble_eq_true rfl) zd_M_paper_2 (fun H locs hP hD hS => ?_)
  have hP : va_P (dC, dI) zz_cl (zv_M cI cZ cL a0 a1 a2 a3 a4 a5 a6 a7 0 w1 w2 w3 w4 w5 w6 w7 w8 w9 w10 w11 w12 w13 w14 w15 w16 w17 w18 w19 w20 w21) H := hP
  have hD : va_D A (zv_M cI cZ cL a0 a1 a2 a3 a4 a5 a6 a7 0 w1 w2 w3 w4 w5 w6 w7 w8 w9 w10 w11 w12 w13 w14 w15 w16 w17 w18 w19 w20 w21) := hD
  refine lv_iload_n hx hb zd_M_paper_5 rfl (lv_at hl 1 rfl) ?_
  refine lv_i2l hx hb zd_M_paper_6 rfl ?_
  refine lv_lconst (v := 1) hx hb zd_M_paper_7 (by decide) ?_
  refine lv_ldc2 (v := 1000000) hx hb hown (htB _ zk_06ddfe93) zd_M_paper_8 ?_
  refine zz_ki (va_runS (As := [.long p1.toInt64, .long 1, .long 1000000]) (rest := []) ⟨hx, hb, hml, hown, htB⟩ (zc_M_in l dC dI cI cZ cL  H.size  p1.toInt64 1 1000000 ) (va_cwS 3 htB (zz_gS zk_3b1d8f54 zk_5de93d87 zk_91cc3b19 zk_d5048d4e) rfl rfl rfl zh_M_in ⟨Nat.le_of_ble_eq_true rfl, Nat.le_of_ble_eq_true rfl⟩) (zz_preS hP hD hK hE [] (by decide) rfl) rfl rfl hl.1 rfl (lv_room (Nat.le_of_ble_eq_true rfl)) zd_M_paper_11 ⟨Nat.le_of_ble_eq_true rfl, Nat.le_of_ble_eq_true rfl⟩) ?_
  refine lv_if_eq (tgt := 46) hx hb zd_M_paper_14 (by decide) (fun c_14 => ?_) (fun c_14 => ?_)
  · refine lv_iconst (v := 0) hx hb zd_M_paper_46 (by decide) ?_
    rw [(show zf_M_paper w0 w10 w11 w12 p1 p2 = (0, 0, w10, w11, w12) from by rw [zf_M_paper, if_pos c_14])]
    exact zz_zret hx hb hr hlocks narrow_b0 hK hP hD hS zd_M_paper_47 rfl
  · refine lv_iload_n hx hb zd_M_paper_17 rfl (lv_at hl 2 rfl) ?_
    refine lv_i2l hx hb zd_M_paper_18 rfl ?_
    refine lv_lconst (v := 0) hx hb zd_M_paper_19 (by decide) ?_
    refine lv_ldc2 (v := 1000000) hx hb hown (htB _ zk_06ddfe93) zd_M_paper_20 ?_
    refine zz_ki (va_runS (As := [.long p2.toInt64, .long 0, .long 1000000]) (rest := []) ⟨hx, hb, hml, hown, htB⟩ (zc_M_in l dC dI cI cZ cL  H.size  p2.toInt64 0 1000000 ) (va_cwS 3 htB (zz_gS zk_3b1d8f54 zk_5de93d87 zk_91cc3b19 zk_d5048d4e) rfl rfl rfl zh_M_in ⟨Nat.le_of_ble_eq_true rfl, Nat.le_of_ble_eq_true rfl⟩) (zz_preS hP hD hK hE [] (by decide) rfl) rfl rfl hl.1 rfl (lv_room (Nat.le_of_ble_eq_true rfl)) zd_M_paper_23 ⟨Nat.le_of_ble_eq_true rfl, Nat.le_of_ble_eq_true rfl⟩) ?_
    refine lv_if_eq (tgt := 46) hx hb zd_M_paper_26 (by decide) (fun c_26 => ?_) (fun c_26 => ?_)
    · refine lv_iconst (v := 0) hx hb zd_M_paper_46 (by decide) ?_
      rw [(show zf_M_paper w0 w10 w11 w12 p1 p2 = (0, 0, w10, w11, w12) from by rw [zf_M_paper, if_neg c_14, if_pos c_26])]
      exact zz_zret hx hb hr hlocks narrow_b0 hK hP hD hS zd_M_paper_47 rfl
    · refine lv_aload_n hx hb zd_M_paper_29 rfl (lv_at hl 0 rfl) ?_
      refine lv_iload_n hx hb zd_M_paper_30 rfl (lv_at hl 1 rfl) ?_
      refine zz_ki (va_runV (As := [.int p1]) (rest := []) ⟨hx, hb, hml, hown, htB⟩ (zc_M_paperOf l dC dI cI cZ cL a0 a1 a2 a3 a4 a5 a6 a7 H.size 0 w1 w2 w3 w4 w5 w6 w7 w8 w9 w10 w11 w12 w13 w14 w15 w16 w17 w18 w19 w20 w21 p1 hp) (cwV 1 htB (zz_gV zk_5b5c84fc zk_6fdb838a zk_5e10595c zk_91cc3b19 zk_d550abbc) rfl rfl rfl ⟨rfl, zh_M_paperOf⟩ ⟨Nat.le_of_ble_eq_true rfl, Nat.le_of_ble_eq_true rfl⟩) (zz_preV (ci := 5) (q := (zr_M, zF_M, 22)) hP hD hK hE [0, 1, 2, 3, 4, 5, 6, 7] (by decide) rfl rfl rfl) rfl rfl hl.1 rfl (lv_room (Nat.le_of_ble_eq_true rfl)) zd_M_paper_31 ⟨Nat.le_of_ble_eq_true rfl, Nat.le_of_ble_eq_true rfl⟩) ?_
      refine lv_if_ge (tgt := 46) hx hb zd_M_paper_34 (by decide) (fun c_34 => ?_) (fun c_34 => ?_)
      · refine lv_iconst (v := 0) hx hb zd_M_paper_46 (by decide) ?_
        rw [(show zf_M_paper w0 w10 w11 w12 p1 p2 = (0, 0, w10, w11, w12) from by rw [zf_M_paper, if_neg c_14, if_neg c_26, if_pos c_34])]
        exact zz_zret hx hb hr hlocks narrow_b0 hK hP hD hS zd_M_paper_47 rfl
      · refine lv_aload_n hx hb zd_M_paper_37 rfl (lv_at hl 0 rfl) ?_
        refine va_get (D := (dC, dI)) (ci := 5) (v := .int (nI w10)) (C := zr_M) (T := zF_M) (N := 22) hx hb htB zi_M hown hK hP 0 rfl rfl 10 (by decide) (htB _ zk_b8d6ae4f) (fun _ h9 => h9) rfl zd_M_paper_38 ?_
        refine lv_bipush (v := 20) hx hb zd_M_paper_41 (by decide) ?_
        refine lv_icmp_ne (tgt := 48) hx hb zd_M_paper_43 (by decide) (fun c_43 => ?_) (fun c_43 => ?_)
        · refine lv_aload_n hx hb zd_M_paper_48 rfl (lv_at hl 0 rfl) ?_
          refine va_get (D := (dC, dI)) (ci := 5) (v := .ref a5) (C := zr_M) (T := zF_M) (N := 22) hx hb htB zi_M hown hK hP 0 rfl rfl 11 (by decide) (htB _ zk_706ec683) (fun _ h9 => h9) rfl zd_M_paper_49 ?_
          refine lv_aload_n hx hb zd_M_paper_52 rfl (lv_at hl 0 rfl) ?_
          refine va_get (D := (dC, dI)) (ci := 5) (v := .int (nI w10)) (C := zr_M) (T := zF_M) (N := 22) hx hb htB zi_M hown hK hP 0 rfl rfl 10 (by decide) (htB _ zk_b8d6ae4f) (fun _ h9 => h9) rfl zd_M_paper_53 ?_
          refine lv_iload_n hx hb zd_M_paper_56 rfl (lv_at hl 1 rfl) ?_
          refine zz_iast hx hb hK hP hD hS 5 0 rfl rfl (zy_n20 hp c_43) (by decide) zd_M_paper_57 (fun H locs hP hD hS => ?_)
          have hP : va_P (dC, dI) zz_cl (zv_M cI cZ cL a0 a1 a2 a3 a4 a5 a6 a7 0 w1 w2 w3 w4 w5 w6 w7 w8 w9 w10 (upd w11 w10 p1) w12 w13 w14 w15 w16 w17 w18 w19 w20 w21) H := hP
          have hD : va_D A (zv_M cI cZ cL a0 a1 a2 a3 a4 a5 a6 a7 0 w1 w2 w3 w4 w5 w6 w7 w8 w9 w10 (upd w11 w10 p1) w12 w13 w14 w15 w16 w17 w18 w19 w20 w21) := hD
          refine lv_aload_n hx hb zd_M_paper_58 rfl (lv_at hl 0 rfl) ?_
          refine va_get (D := (dC, dI)) (ci := 5) (v := .ref a6) (C := zr_M) (T := zF_M) (N := 22) hx hb htB zi_M hown hK hP 0 rfl rfl 12 (by decide) (htB _ zk_efdf3cf0) (fun _ h9 => h9) rfl zd_M_paper_59 ?_
          refine lv_aload_n hx hb zd_M_paper_62 rfl (lv_at hl 0 rfl) ?_
          refine va_get (D := (dC, dI)) (ci := 5) (v := .int (nI w10)) (C := zr_M) (T := zF_M) (N := 22) hx hb htB zi_M hown hK hP 0 rfl rfl 10 (by decide) (htB _ zk_b8d6ae4f) (fun _ h9 => h9) rfl zd_M_paper_63 ?_
          refine lv_iload_n hx hb zd_M_paper_66 rfl (lv_at hl 2 rfl) ?_
          refine zz_iast hx hb hK hP hD hS 6 0 rfl rfl (zy_n20 hp c_43) (by decide) zd_M_paper_67 (fun H locs hP hD hS => ?_)
          have hP : va_P (dC, dI) zz_cl (zv_M cI cZ cL a0 a1 a2 a3 a4 a5 a6 a7 0 w1 w2 w3 w4 w5 w6 w7 w8 w9 w10 (upd w11 w10 p1) (upd w12 w10 p2) w13 w14 w15 w16 w17 w18 w19 w20 w21) H := hP
          have hD : va_D A (zv_M cI cZ cL a0 a1 a2 a3 a4 a5 a6 a7 0 w1 w2 w3 w4 w5 w6 w7 w8 w9 w10 (upd w11 w10 p1) (upd w12 w10 p2) w13 w14 w15 w16 w17 w18 w19 w20 w21) := hD
          refine lv_aload_n hx hb zd_M_paper_68 rfl (lv_at hl 0 rfl) ?_
          refine lv_dup hx hb zd_M_paper_69 rfl ?_
          refine va_get (D := (dC, dI)) (ci := 5) (v := .int (nI w10)) (C := zr_M) (T := zF_M) (N := 22) hx hb htB zi_M hown hK hP 0 rfl rfl 10 (by decide) (htB _ zk_b8d6ae4f) (fun _ h9 => h9) rfl zd_M_paper_70 ?_
          refine lv_iconst (v := 1) hx hb zd_M_paper_73 (by decide) ?_
          refine lv_iadd hx hb zd_M_paper_74 ?_
          rw [nI_1 w10]
          refine va_put (D := (dC, dI)) (ci := 5) (v := .int (nI (w10 + 1))) (C := zr_M) (T := zF_M) (N := 22) hx hb htB zi_M zT_M zT_M_ok zn_M hown hK hP hD hS 0 rfl rfl 10 (by decide) (htB _ zk_b8d6ae4f) (fun _ h9 => h9) rfl (zT_M_ok 10 (by decide)) rfl rfl (Nat.le_of_ble_eq_true rfl) zd_M_paper_75 (fun H locs hP hD hS => ?_)
          have hP : va_P (dC, dI) zz_cl (zv_M cI cZ cL a0 a1 a2 a3 a4 a5 a6 a7 0 w1 w2 w3 w4 w5 w6 w7 w8 w9 (w10 + 1) (upd w11 w10 p1) (upd w12 w10 p2) w13 w14 w15 w16 w17 w18 w19 w20 w21) H := hP
          have hD : va_D A (zv_M cI cZ cL a0 a1 a2 a3 a4 a5 a6 a7 0 w1 w2 w3 w4 w5 w6 w7 w8 w9 (w10 + 1) (upd w11 w10 p1) (upd w12 w10 p2) w13 w14 w15 w16 w17 w18 w19 w20 w21) := hD
          refine lv_iconst (v := 1) hx hb zd_M_paper_78 (by decide) ?_
          rw [(show zf_M_paper w0 w10 w11 w12 p1 p2 = (1, 0, (w10 + 1), (upd w11 w10 p1), (upd w12 w10 p2)) from by rw [zf_M_paper, if_neg c_14, if_neg c_26, if_neg c_34, if_neg c_43])]
          exact zz_zret hx hb hr hlocks narrow_b1 hK hP hD hS zd_M_paper_79 rfl
        · refine lv_iconst (v := 0) hx hb zd_M_paper_46 (by decide) ?_
          rw [(show zf_M_paper w0 w10 w11 w12 p1 p2 = (0, 0, w10, w11, w12) from by rw [zf_M_paper, if_neg c_14, if_neg c_26, if_neg c_34, if_pos c_43])]
          exact zz_zret hx hb hr hlocks narrow_b0 hK hP hD hS zd_M_paper_47 rfl
set_option maxHeartbeats 4000000 in
set_option maxRecDepth 100000 in
theorem zc_M_draw (l : Launch) (dC : Nat → ClassId) (dI : Nat → Nat → Nat) (cI cZ cL : ClassId) (a0 a1 a2 a3 a4 a5 a6 a7 : Nat) (sz : Nat) (w0 : Int32) (w1 : Int32) (w2 : Nat) (w3 : Nat → Int32) (w4 : Nat → Int64) (w5 : Int32) (w6 : Int32) (w7 : Nat) (w8 : Nat → Int64) (w9 : Nat → Int32) (w10 : Nat) (w11 : Nat → Int32) (w12 : Nat → Int32) (w13 : Nat → Int32) (w14 : Int32) (w15 : Int32) (w16 : Int32) (w17 : Int32) (w18 : Int32) (w19 : Int64) (w20 : Int32) (w21 : Int32) (p1 : Int32) (p2 : Int32) (p3 : Int32) (hm : w2 ≤ 30) (hp : w10 ≤ 20) : Met l zy_M_draw (zz_ws zy_M_draw zb_M_draw 5 (some .int)) ({ frames := 1, cells := 0, slots := 0, locals := 25 } : Room) (va_Pc ([.ref a0, .int p1, .int p2, .int p3] : List Value) (zz_P (dC, dI) (zz_ty cI cZ cL) sz (zv_M cI cZ cL a0 a1 a2 a3 a4 a5 a6 a7 w0 w1 w2 w3 w4 w5 w6 w7 w8 w9 w10 w11 w12 w13 w14 w15 w16 w17 w18 w19 w20 w21))) (zz_Qi (dC, dI) (zz_ty cI cZ cL) (va_A (zv_M cI cZ cL a0 a1 a2 a3 a4 a5 a6 a7 w0 w1 w2 w3 w4 w5 w6 w7 w8 w9 w10 w11 w12 w13 w14 w15 w16 w17 w18 w19 w20 w21) sz) ((zf_M_draw w0 w2 w3 w5 w10 w11 w12 w13 p1 p2 p3).1) (zv_M cI cZ cL a0 a1 a2 a3 a4 a5 a6 a7 ((zf_M_draw w0 w2 w3 w5 w10 w11 w12 w13 p1 p2 p3).2.1) w1 w2 w3 w4 w5 w6 w7 w8 w9 w10 w11 ((zf_M_draw w0 w2 w3 w5 w10 w11 w12 w13 p1 p2 p3).2.2.1) ((zf_M_draw w0 w2 w3 w5 w10 w11 w12 w13 p1 p2 p3).2.2.2) w14 w15 w16 w17 w18 w19 w20 w21)) 0 0 (va_A (zv_M cI cZ cL a0 a1 a2 a3 a4 a5 a6 a7 w0 w1 w2 w3 w4 w5 w6 w7 w8 w9 w10 w11 w12 w13 w14 w15 w16 w17 w18 w19 w20 w21) sz) := by
  refine zz_ofW (Q := fun A => (zz_Qi (dC, dI) (zz_ty cI cZ cL) A ((zf_M_draw w0 w2 w3 w5 w10 w11 w12 w13 p1 p2 p3).1) (zv_M cI cZ cL a0 a1 a2 a3 a4 a5 a6 a7 ((zf_M_draw w0 w2 w3 w5 w10 w11 w12 w13 p1 p2 p3).2.1) w1 w2 w3 w4 w5 w6 w7 w8 w9 w10 w11 ((zf_M_draw w0 w2 w3 w5 w10 w11 w12 w13 p1 p2 p3).2.2.1) ((zf_M_draw w0 w2 w3 w5 w10 w11 w12 w13 p1 p2 p3).2.2.2) w14 w15 w16 w17 w18 w19 w20 w21))) (by decide) (Nat.le_of_ble_eq_true rfl) ?_
  intro p e s m below meth c A C0 _ hA hK hP hD _ ls hl
  obtain ⟨hx, hb, hr, hml, hown, htB, hlocks, hE⟩ := id C0
  have hS : va_S A s.heap s.heap [] := va_S.rf
  have hl : lv_has ls 5 [(0, .ref a0), (1, .int p1), (2, .int p2), (3, .int p3)] := hl
  refine lv_aload_n hx hb zd_M_draw_0 rfl (lv_at hl 0 rfl) ?_
  refine lv_iload_n hx hb zd_M_draw_1 rfl (lv_at hl 1 rfl) ?_
  refine zz_ki (va_runV (As := [.int p1]) (rest := []) ⟨hx, hb, hml, hown, htB⟩ (zc_M_isLine l dC dI cI cZ cL a0 a1 a2 a3 a4 a5 a6 a7 s.heap.size w0 w1 w2 w3 w4 w5 w6 w7 w8 w9 w10 w11 w12 w13 w14 w15 w16 w17 w18 w19 w20 w21 p1 hm) (cwV 1 htB (zz_gV zk_42c4ccab zk_0528e464 zk_1a6dee55 zk_91cc3b19 zk_8cffb020) rfl rfl rfl ⟨rfl, zh_M_isLine⟩ ⟨Nat.le_of_ble_eq_true rfl, Nat.le_of_ble_eq_true rfl⟩) (zz_preV (ci := 5) (q := (zr_M, zF_M, 22)) hP hD hK hE [0, 1, 2, 3, 4, 5, 6, 7] (by decide) rfl rfl rfl) rfl rfl hl.1 rfl (lv_room (Nat.le_of_ble_eq_true rfl)) zd_M_draw_2 ⟨Nat.le_of_ble_eq_true rfl, Nat.le_of_ble_eq_true rfl⟩) ?_
  refine lv_if_eq (tgt := 28) hx hb zd_M_draw_5 (by decide) (fun c_5 => ?_) (fun c_5 => ?_)
  · refine lv_aload_n hx hb zd_M_draw_28 rfl (lv_at hl 0 rfl) ?_
    refine lv_iconst (v := 1) hx hb zd_M_draw_29 (by decide) ?_
    refine zz_ci (va_runV (As := [.int 1]) (rest := []) ⟨hx, hb, hml, hown, htB⟩ (zc_M_refuse l dC dI cI cZ cL a0 a1 a2 a3 a4 a5 a6 a7 s.heap.size w0 w1 w2 w3 w4 w5 w6 w7 w8 w9 w10 w11 w12 w13 w14 w15 w16 w17 w18 w19 w20 w21 1 ) (cwV 1 htB (zz_gV zk_05b1c230 zk_32615e0d zk_05b898fc zk_91cc3b19 zk_5f584b7b) rfl rfl rfl ⟨rfl, zh_M_refuse⟩ ⟨Nat.le_of_ble_eq_true rfl, Nat.le_of_ble_eq_true rfl⟩) (zz_preV (ci := 5) (q := (zr_M, zF_M, 22)) hP hD hK hE [0, 1, 2, 3, 4, 5, 6, 7] (by decide) rfl rfl rfl) rfl rfl hl.1 rfl (lv_room (Nat.le_of_ble_eq_true rfl)) zd_M_draw_30 ⟨Nat.le_of_ble_eq_true rfl, Nat.le_of_ble_eq_true rfl⟩) hP hD hS hA [0, 1, 2, 3, 4, 5, 6, 7] [] [0, 1, 2, 3, 4, 5, 6, 7] rfl rfl (by decide) (by decide) (by decide) rfl (fun H locs hP hD hS => ?_)
    have hP : va_P (dC, dI) zz_cl (zv_M cI cZ cL a0 a1 a2 a3 a4 a5 a6 a7 ((zf_M_refuse w0 1).2) w1 w2 w3 w4 w5 w6 w7 w8 w9 w10 w11 w12 w13 w14 w15 w16 w17 w18 w19 w20 w21) H := hP
    have hD : va_D A (zv_M cI cZ cL a0 a1 a2 a3 a4 a5 a6 a7 ((zf_M_refuse w0 1).2) w1 w2 w3 w4 w5 w6 w7 w8 w9 w10 w11 w12 w13 w14 w15 w16 w17 w18 w19 w20 w21) := hD
    rw [(show zf_M_draw w0 w2 w3 w5 w10 w11 w12 w13 p1 p2 p3 = ((zf_M_refuse w0 1).1, (zf_M_refuse w0 1).2, w12, w13) from by rw [zf_M_draw, if_pos c_5])]
    exact zz_iret hx hb hr hlocks hK hP hD hS zd_M_draw_33 rfl
  · refine lv_aload_n hx hb zd_M_draw_8 rfl (lv_at hl 0 rfl) ?_
    refine lv_iload_n hx hb zd_M_draw_9 rfl (lv_at hl 2 rfl) ?_
    refine zz_ki (va_runV (As := [.int p2]) (rest := []) ⟨hx, hb, hml, hown, htB⟩ (zc_M_paperOf l dC dI cI cZ cL a0 a1 a2 a3 a4 a5 a6 a7 s.heap.size w0 w1 w2 w3 w4 w5 w6 w7 w8 w9 w10 w11 w12 w13 w14 w15 w16 w17 w18 w19 w20 w21 p2 hp) (cwV 1 htB (zz_gV zk_5b5c84fc zk_6fdb838a zk_5e10595c zk_91cc3b19 zk_d550abbc) rfl rfl rfl ⟨rfl, zh_M_paperOf⟩ ⟨Nat.le_of_ble_eq_true rfl, Nat.le_of_ble_eq_true rfl⟩) (zz_preV (ci := 5) (q := (zr_M, zF_M, 22)) hP hD hK hE [0, 1, 2, 3, 4, 5, 6, 7] (by decide) rfl rfl rfl) rfl rfl hl.1 rfl (lv_room (Nat.le_of_ble_eq_true rfl)) zd_M_draw_10 ⟨Nat.le_of_ble_eq_true rfl, Nat.le_of_ble_eq_true rfl⟩) ?_
    refine lv_if_lt (tgt := 28) hx hb zd_M_draw_13 (by decide) (fun c_13 => ?_) (fun c_13 => ?_)
    · refine lv_aload_n hx hb zd_M_draw_28 rfl (lv_at hl 0 rfl) ?_
      refine lv_iconst (v := 1) hx hb zd_M_draw_29 (by decide) ?_
      refine zz_ci (va_runV (As := [.int 1]) (rest := []) ⟨hx, hb, hml, hown, htB⟩ (zc_M_refuse l dC dI cI cZ cL a0 a1 a2 a3 a4 a5 a6 a7 s.heap.size w0 w1 w2 w3 w4 w5 w6 w7 w8 w9 w10 w11 w12 w13 w14 w15 w16 w17 w18 w19 w20 w21 1 ) (cwV 1 htB (zz_gV zk_05b1c230 zk_32615e0d zk_05b898fc zk_91cc3b19 zk_5f584b7b) rfl rfl rfl ⟨rfl, zh_M_refuse⟩ ⟨Nat.le_of_ble_eq_true rfl, Nat.le_of_ble_eq_true rfl⟩) (zz_preV (ci := 5) (q := (zr_M, zF_M, 22)) hP hD hK hE [0, 1, 2, 3, 4, 5, 6, 7] (by decide) rfl rfl rfl) rfl rfl hl.1 rfl (lv_room (Nat.le_of_ble_eq_true rfl)) zd_M_draw_30 ⟨Nat.le_of_ble_eq_true rfl, Nat.le_of_ble_eq_true rfl⟩) hP hD hS hA [0, 1, 2, 3, 4, 5, 6, 7] [] [0, 1, 2, 3, 4, 5, 6, 7] rfl rfl (by decide) (by decide) (by decide) rfl (fun H locs hP hD hS => ?_)
      have hP : va_P (dC, dI) zz_cl (zv_M cI cZ cL a0 a1 a2 a3 a4 a5 a6 a7 ((zf_M_refuse w0 1).2) w1 w2 w3 w4 w5 w6 w7 w8 w9 w10 w11 w12 w13 w14 w15 w16 w17 w18 w19 w20 w21) H := hP
      have hD : va_D A (zv_M cI cZ cL a0 a1 a2 a3 a4 a5 a6 a7 ((zf_M_refuse w0 1).2) w1 w2 w3 w4 w5 w6 w7 w8 w9 w10 w11 w12 w13 w14 w15 w16 w17 w18 w19 w20 w21) := hD
      rw [(show zf_M_draw w0 w2 w3 w5 w10 w11 w12 w13 p1 p2 p3 = ((zf_M_refuse w0 1).1, (zf_M_refuse w0 1).2, w12, w13) from by rw [zf_M_draw, if_neg c_5, if_pos c_13])]
      exact zz_iret hx hb hr hlocks hK hP hD hS zd_M_draw_33 rfl
    · refine lv_iload_n hx hb zd_M_draw_16 rfl (lv_at hl 3 rfl) ?_
      refine lv_i2l hx hb zd_M_draw_17 rfl ?_
      refine lv_lconst (v := 1) hx hb zd_M_draw_18 (by decide) ?_
      refine lv_ldc2 (v := 1000000) hx hb hown (htB _ zk_06ddfe93) zd_M_draw_19 ?_
      refine zz_ki (va_runS (As := [.long p3.toInt64, .long 1, .long 1000000]) (rest := []) ⟨hx, hb, hml, hown, htB⟩ (zc_M_in l dC dI cI cZ cL  s.heap.size  p3.toInt64 1 1000000 ) (va_cwS 3 htB (zz_gS zk_3b1d8f54 zk_5de93d87 zk_91cc3b19 zk_d5048d4e) rfl rfl rfl zh_M_in ⟨Nat.le_of_ble_eq_true rfl, Nat.le_of_ble_eq_true rfl⟩) (zz_preS hP hD hK hE [] (by decide) rfl) rfl rfl hl.1 rfl (lv_room (Nat.le_of_ble_eq_true rfl)) zd_M_draw_22 ⟨Nat.le_of_ble_eq_true rfl, Nat.le_of_ble_eq_true rfl⟩) ?_
      refine lv_if_ne (tgt := 34) hx hb zd_M_draw_25 (by decide) (fun c_25 => ?_) (fun c_25 => ?_)
      · refine lv_aload_n hx hb zd_M_draw_34 rfl (lv_at hl 0 rfl) ?_
        refine lv_iconst (v := 0) hx hb zd_M_draw_35 (by decide) ?_
        refine va_put (D := (dC, dI)) (ci := 5) (v := .int 0) (C := zr_M) (T := zF_M) (N := 22) hx hb htB zi_M zT_M zT_M_ok zn_M hown hK hP hD hS 0 rfl rfl 0 (by decide) (htB _ zk_d62d4141) (fun _ h9 => h9) rfl (zT_M_ok 0 (by decide)) rfl rfl (Nat.le_of_ble_eq_true rfl) zd_M_draw_36 (fun H locs hP hD hS => ?_)
        have hP : va_P (dC, dI) zz_cl (zv_M cI cZ cL a0 a1 a2 a3 a4 a5 a6 a7 0 w1 w2 w3 w4 w5 w6 w7 w8 w9 w10 w11 w12 w13 w14 w15 w16 w17 w18 w19 w20 w21) H := hP
        have hD : va_D A (zv_M cI cZ cL a0 a1 a2 a3 a4 a5 a6 a7 0 w1 w2 w3 w4 w5 w6 w7 w8 w9 w10 w11 w12 w13 w14 w15 w16 w17 w18 w19 w20 w21) := hD
        refine lv_aload_n hx hb zd_M_draw_39 rfl (lv_at hl 0 rfl) ?_
        refine lv_iload_n hx hb zd_M_draw_40 rfl (lv_at hl 2 rfl) ?_
        refine zz_ki (va_runV (As := [.int p2]) (rest := []) ⟨hx, hb, hml, hown, htB⟩ (zc_M_paperOf l dC dI cI cZ cL a0 a1 a2 a3 a4 a5 a6 a7 H.size 0 w1 w2 w3 w4 w5 w6 w7 w8 w9 w10 w11 w12 w13 w14 w15 w16 w17 w18 w19 w20 w21 p2 hp) (cwV 1 htB (zz_gV zk_5b5c84fc zk_6fdb838a zk_5e10595c zk_91cc3b19 zk_d550abbc) rfl rfl rfl ⟨rfl, zh_M_paperOf⟩ ⟨Nat.le_of_ble_eq_true rfl, Nat.le_of_ble_eq_true rfl⟩) (zz_preV (ci := 5) (q := (zr_M, zF_M, 22)) hP hD hK hE [0, 1, 2, 3, 4, 5, 6, 7] (by decide) rfl rfl rfl) rfl rfl hl.1 rfl (lv_room (Nat.le_of_ble_eq_true rfl)) zd_M_draw_41 ⟨Nat.le_of_ble_eq_true rfl, Nat.le_of_ble_eq_true rfl⟩) ?_
        refine lv_istore (lv' := [(4, .int (zf_M_paperOf w10 w11 p2)), (0, .ref a0), (1, .int p1), (2, .int p2), (3, .int p3)]) hx hb zd_M_draw_44 hl (by decide) rfl (fun ls hl => ?_)
        refine lv_aload_n hx hb zd_M_draw_46 rfl (lv_at hl 1 rfl) ?_
        refine va_get (D := (dC, dI)) (ci := 5) (v := .int w5) (C := zr_M) (T := zF_M) (N := 22) hx hb htB zi_M hown hK hP 0 rfl rfl 5 (by decide) (htB _ zk_ceae0b21) (fun _ h9 => h9) rfl zd_M_draw_47 ?_
        refine lv_if_ne (tgt := 64) hx hb zd_M_draw_50 (by decide) (fun c_50 => ?_) (fun c_50 => ?_)
        · refine lv_iconst (v := (-1)) hx hb zd_M_draw_64 (by decide) ?_
          rw [(show zf_M_draw w0 w2 w3 w5 w10 w11 w12 w13 p1 p2 p3 = ((-1), 0, w12, w13) from by rw [zf_M_draw, if_neg c_5, if_neg c_13, if_neg c_25, if_neg c_50])]
          exact zz_iret hx hb hr hlocks hK hP hD hS zd_M_draw_65 rfl
        · refine lv_aload_n hx hb zd_M_draw_53 rfl (lv_at hl 1 rfl) ?_
          refine va_get (D := (dC, dI)) (ci := 5) (v := .ref a6) (C := zr_M) (T := zF_M) (N := 22) hx hb htB zi_M hown hK hP 0 rfl rfl 12 (by decide) (htB _ zk_efdf3cf0) (fun _ h9 => h9) rfl zd_M_draw_54 ?_
          refine lv_iload hx hb zd_M_draw_57 (lv_at hl 0 rfl) ?_
          refine va_iald hx hb hK hP 6 0 rfl rfl (zy_mpf hp c_13) zd_M_draw_59 ?_
          refine lv_iload_n hx hb zd_M_draw_60 rfl (lv_at hl 4 rfl) ?_
          refine lv_icmp_ge (tgt := 66) hx hb zd_M_draw_61 (by decide) (fun c_61 => ?_) (fun c_61 => ?_)
          · refine lv_aload_n hx hb zd_M_draw_66 rfl (lv_at hl 1 rfl) ?_
            refine va_get (D := (dC, dI)) (ci := 5) (v := .ref a6) (C := zr_M) (T := zF_M) (N := 22) hx hb htB zi_M hown hK hP 0 rfl rfl 12 (by decide) (htB _ zk_efdf3cf0) (fun _ h9 => h9) rfl zd_M_draw_67 ?_
            refine lv_iload hx hb zd_M_draw_70 (lv_at hl 0 rfl) ?_
            refine lv_dup2_11 hx hb zd_M_draw_72 rfl rfl ?_
            refine va_iald hx hb hK hP 6 0 rfl rfl (zy_mpf hp c_13) zd_M_draw_73 ?_
            refine lv_iload_n hx hb zd_M_draw_74 rfl (lv_at hl 4 rfl) ?_
            refine lv_isub hx hb zd_M_draw_75 ?_
            refine va_iast hx hb hK hP hD hS 6 0 rfl rfl (zy_mpf hp c_13) zd_M_draw_76 (fun H locs hP hD hS => ?_)
            have hP : va_P (dC, dI) zz_cl (zv_M cI cZ cL a0 a1 a2 a3 a4 a5 a6 a7 0 w1 w2 w3 w4 w5 w6 w7 w8 w9 w10 w11 (upd w12 (zf_M_paperOf w10 w11 p2).toNatClampNeg ((w12 (zf_M_paperOf w10 w11 p2).toNatClampNeg) - p3)) w13 w14 w15 w16 w17 w18 w19 w20 w21) H := hP
            have hD : va_D A (zv_M cI cZ cL a0 a1 a2 a3 a4 a5 a6 a7 0 w1 w2 w3 w4 w5 w6 w7 w8 w9 w10 w11 (upd w12 (zf_M_paperOf w10 w11 p2).toNatClampNeg ((w12 (zf_M_paperOf w10 w11 p2).toNatClampNeg) - p3)) w13 w14 w15 w16 w17 w18 w19 w20 w21) := hD
            refine lv_aload_n hx hb zd_M_draw_77 rfl (lv_at hl 1 rfl) ?_
            refine va_get (D := (dC, dI)) (ci := 5) (v := .ref a7) (C := zr_M) (T := zF_M) (N := 22) hx hb htB zi_M hown hK hP 0 rfl rfl 13 (by decide) (htB _ zk_590f42cd) (fun _ h9 => h9) rfl zd_M_draw_78 ?_
            refine lv_bipush (v := 20) hx hb zd_M_draw_81 (by decide) ?_
            refine lv_iload_n hx hb zd_M_draw_83 rfl (lv_at hl 2 rfl) ?_
            refine lv_imul hx hb zd_M_draw_84 ?_
            refine lv_iload hx hb zd_M_draw_85 (lv_at hl 0 rfl) ?_
            refine lv_iadd hx hb zd_M_draw_87 ?_
            refine lv_dup2_11 hx hb zd_M_draw_88 rfl rfl ?_
            refine va_iald hx hb hK hP 7 0 rfl rfl (zy_20r (zy_isl hm c_5) (zy_mpf hp c_13)) zd_M_draw_89 ?_
            refine lv_iload_n hx hb zd_M_draw_90 rfl (lv_at hl 4 rfl) ?_
            refine lv_iadd hx hb zd_M_draw_91 ?_
            refine va_iast hx hb hK hP hD hS 7 0 rfl rfl (zy_20r (zy_isl hm c_5) (zy_mpf hp c_13)) zd_M_draw_92 (fun H locs hP hD hS => ?_)
            have hP : va_P (dC, dI) zz_cl (zv_M cI cZ cL a0 a1 a2 a3 a4 a5 a6 a7 0 w1 w2 w3 w4 w5 w6 w7 w8 w9 w10 w11 (upd w12 (zf_M_paperOf w10 w11 p2).toNatClampNeg ((w12 (zf_M_paperOf w10 w11 p2).toNatClampNeg) - p3)) (upd w13 ((20 * p1) + (zf_M_paperOf w10 w11 p2)).toNatClampNeg ((w13 ((20 * p1) + (zf_M_paperOf w10 w11 p2)).toNatClampNeg) + p3)) w14 w15 w16 w17 w18 w19 w20 w21) H := hP
            have hD : va_D A (zv_M cI cZ cL a0 a1 a2 a3 a4 a5 a6 a7 0 w1 w2 w3 w4 w5 w6 w7 w8 w9 w10 w11 (upd w12 (zf_M_paperOf w10 w11 p2).toNatClampNeg ((w12 (zf_M_paperOf w10 w11 p2).toNatClampNeg) - p3)) (upd w13 ((20 * p1) + (zf_M_paperOf w10 w11 p2)).toNatClampNeg ((w13 ((20 * p1) + (zf_M_paperOf w10 w11 p2)).toNatClampNeg) + p3)) w14 w15 w16 w17 w18 w19 w20 w21) := hD
            refine lv_aload_n hx hb zd_M_draw_93 rfl (lv_at hl 1 rfl) ?_
            refine va_get (D := (dC, dI)) (ci := 5) (v := .ref a6) (C := zr_M) (T := zF_M) (N := 22) hx hb htB zi_M hown hK hP 0 rfl rfl 12 (by decide) (htB _ zk_efdf3cf0) (fun _ h9 => h9) rfl zd_M_draw_94 ?_
            refine lv_iload hx hb zd_M_draw_97 (lv_at hl 0 rfl) ?_
            refine va_iald hx hb hK hP 6 0 rfl rfl (zy_mpf hp c_13) zd_M_draw_99 ?_
            rw [(show zf_M_draw w0 w2 w3 w5 w10 w11 w12 w13 p1 p2 p3 = ((upd w12 (zf_M_paperOf w10 w11 p2).toNatClampNeg ((w12 (zf_M_paperOf w10 w11 p2).toNatClampNeg) - p3)) (zf_M_paperOf w10 w11 p2).toNatClampNeg, 0, (upd w12 (zf_M_paperOf w10 w11 p2).toNatClampNeg ((w12 (zf_M_paperOf w10 w11 p2).toNatClampNeg) - p3)), (upd w13 ((20 * p1) + (zf_M_paperOf w10 w11 p2)).toNatClampNeg ((w13 ((20 * p1) + (zf_M_paperOf w10 w11 p2)).toNatClampNeg) + p3))) from by rw [zf_M_draw, if_neg c_5, if_neg c_13, if_neg c_25, if_pos c_50, if_pos c_61])]
            exact zz_iret hx hb hr hlocks hK hP hD hS zd_M_draw_100 rfl
          · refine lv_iconst (v := (-1)) hx hb zd_M_draw_64 (by decide) ?_
            rw [(show zf_M_draw w0 w2 w3 w5 w10 w11 w12 w13 p1 p2 p3 = ((-1), 0, w12, w13) from by rw [zf_M_draw, if_neg c_5, if_neg c_13, if_neg c_25, if_pos c_50, if_neg c_61])]
            exact zz_iret hx hb hr hlocks hK hP hD hS zd_M_draw_65 rfl
      · refine lv_aload_n hx hb zd_M_draw_28 rfl (lv_at hl 0 rfl) ?_
        refine lv_iconst (v := 1) hx hb zd_M_draw_29 (by decide) ?_
        refine zz_ci (va_runV (As := [.int 1]) (rest := []) ⟨hx, hb, hml, hown, htB⟩ (zc_M_refuse l dC dI cI cZ cL a0 a1 a2 a3 a4 a5 a6 a7 s.heap.size w0 w1 w2 w3 w4 w5 w6 w7 w8 w9 w10 w11 w12 w13 w14 w15 w16 w17 w18 w19 w20 w21 1 ) (cwV 1 htB (zz_gV zk_05b1c230 zk_32615e0d zk_05b898fc zk_91cc3b19 zk_5f584b7b) rfl rfl rfl ⟨rfl, zh_M_refuse⟩ ⟨Nat.le_of_ble_eq_true rfl, Nat.le_of_ble_eq_true rfl⟩) (zz_preV (ci := 5) (q := (zr_M, zF_M, 22)) hP hD hK hE [0, 1, 2, 3, 4, 5, 6, 7] (by decide) rfl rfl rfl) rfl rfl hl.1 rfl (lv_room (Nat.le_of_ble_eq_true rfl)) zd_M_draw_30 ⟨Nat.le_of_ble_eq_true rfl, Nat.le_of_ble_eq_true rfl⟩) hP hD hS hA [0, 1, 2, 3, 4, 5, 6, 7] [] [0, 1, 2, 3, 4, 5, 6, 7] rfl rfl (by decide) (by decide) (by decide) rfl (fun H locs hP hD hS => ?_)
        have hP : va_P (dC, dI) zz_cl (zv_M cI cZ cL a0 a1 a2 a3 a4 a5 a6 a7 ((zf_M_refuse w0 1).2) w1 w2 w3 w4 w5 w6 w7 w8 w9 w10 w11 w12 w13 w14 w15 w16 w17 w18 w19 w20 w21) H := hP
        have hD : va_D A (zv_M cI cZ cL a0 a1 a2 a3 a4 a5 a6 a7 ((zf_M_refuse w0 1).2) w1 w2 w3 w4 w5 w6 w7 w8 w9 w10 w11 w12 w13 w14 w15 w16 w17 w18 w19 w20 w21) := hD
        rw [(show zf_M_draw w0 w2 w3 w5 w10 w11 w12 w13 p1 p2 p3 = ((zf_M_refuse w0 1).1, (zf_M_refuse w0 1).2, w12, w13) from by rw [zf_M_draw, if_neg c_5, if_neg c_13, if_pos c_25])]
        exact zz_iret hx hb hr hlocks hK hP hD hS zd_M_draw_33 rfl
set_option maxHeartbeats 4000000 in
set_option maxRecDepth 100000 in
theorem zc_M_sum (l : Launch) (dC : Nat → ClassId) (dI : Nat → Nat → Nat) (cI cZ cL : ClassId) (a0 a1 a2 a3 a4 a5 a6 a7 : Nat) (sz : Nat) (w0 : Int32) (w1 : Int32) (w2 : Nat) (w3 : Nat → Int32) (w4 : Nat → Int64) (w5 : Int32) (w6 : Int32) (w7 : Nat) (w8 : Nat → Int64) (w9 : Nat → Int32) (w10 : Nat) (w11 : Nat → Int32) (w12 : Nat → Int32) (w13 : Nat → Int32) (w14 : Int32) (w15 : Int32) (w16 : Int32) (w17 : Int32) (w18 : Int32) (w19 : Int64) (w20 : Int32) (w21 : Int32) (p1 : Int32) (hm : w2 ≤ 30) : Met l zy_M_sum (zz_ws zy_M_sum zb_M_sum 2 (some .long)) ({ frames := 2, cells := 0, slots := 0, locals := 45 } : Room) (va_Pc ([.ref a0, .int p1] : List Value) (zz_P (dC, dI) (zz_ty cI cZ cL) sz (zv_M cI cZ cL a0 a1 a2 a3 a4 a5 a6 a7 w0 w1 w2 w3 w4 w5 w6 w7 w8 w9 w10 w11 w12 w13 w14 w15 w16 w17 w18 w19 w20 w21))) (zz_Ql (dC, dI) (zz_ty cI cZ cL) (va_A (zv_M cI cZ cL a0 a1 a2 a3 a4 a5 a6 a7 w0 w1 w2 w3 w4 w5 w6 w7 w8 w9 w10 w11 w12 w13 w14 w15 w16 w17 w18 w19 w20 w21) sz) ((zf_M_sum w0 w2 w4 p1).1) (zv_M cI cZ cL a0 a1 a2 a3 a4 a5 a6 a7 ((zf_M_sum w0 w2 w4 p1).2) w1 w2 w3 w4 w5 w6 w7 w8 w9 w10 w11 w12 w13 w14 w15 w16 w17 w18 w19 w20 w21)) 0 0 (va_A (zv_M cI cZ cL a0 a1 a2 a3 a4 a5 a6 a7 w0 w1 w2 w3 w4 w5 w6 w7 w8 w9 w10 w11 w12 w13 w14 w15 w16 w17 w18 w19 w20 w21) sz) := by
  refine zz_ofW (Q := fun A => (zz_Ql (dC, dI) (zz_ty cI cZ cL) A ((zf_M_sum w0 w2 w4 p1).1) (zv_M cI cZ cL a0 a1 a2 a3 a4 a5 a6 a7 ((zf_M_sum w0 w2 w4 p1).2) w1 w2 w3 w4 w5 w6 w7 w8 w9 w10 w11 w12 w13 w14 w15 w16 w17 w18 w19 w20 w21))) (by decide) (Nat.le_of_ble_eq_true rfl) ?_
  intro p e s m below meth c A C0 _ hA hK hP hD _ ls hl
  obtain ⟨hx, hb, hr, hml, hown, htB, hlocks, hE⟩ := id C0
  have hS : va_S A s.heap s.heap [] := va_S.rf
  have hl : lv_has ls 2 [(0, .ref a0), (1, .int p1)] := hl
  refine lv_aload_n hx hb zd_M_sum_0 rfl (lv_at hl 0 rfl) ?_
  refine lv_iload_n hx hb zd_M_sum_1 rfl (lv_at hl 1 rfl) ?_
  refine lv_i2l hx hb zd_M_sum_2 rfl ?_
  refine lv_ldc2 (v := 10) hx hb hown (htB _ zk_7987f3f8) zd_M_sum_3 ?_
  refine lv_ldc2 (v := 19) hx hb hown (htB _ zk_ff0c3da7) zd_M_sum_6 ?_
  refine zz_ki (va_runS (As := [.long p1.toInt64, .long 10, .long 19]) (rest := [.ref a0]) ⟨hx, hb, hml, hown, htB⟩ (zc_M_in l dC dI cI cZ cL  s.heap.size  p1.toInt64 10 19 ) (va_cwS 3 htB (zz_gS zk_3b1d8f54 zk_5de93d87 zk_91cc3b19 zk_d5048d4e) rfl rfl rfl zh_M_in ⟨Nat.le_of_ble_eq_true rfl, Nat.le_of_ble_eq_true rfl⟩) (zz_preS hP hD hK hE [] (by decide) rfl) rfl rfl hl.1 rfl (lv_room (Nat.le_of_ble_eq_true rfl)) zd_M_sum_9 ⟨Nat.le_of_ble_eq_true rfl, Nat.le_of_ble_eq_true rfl⟩) ?_
  refine lv_if_eq (tgt := 19) hx hb zd_M_sum_12 (by decide) (fun c_12 => ?_) (fun c_12 => ?_)
  · refine lv_iconst (v := 1) hx hb zd_M_sum_19 (by decide) ?_
    refine va_put (D := (dC, dI)) (ci := 5) (v := .int 1) (C := zr_M) (T := zF_M) (N := 22) hx hb htB zi_M zT_M zT_M_ok zn_M hown hK hP hD hS 0 rfl rfl 0 (by decide) (htB _ zk_d62d4141) (fun _ h9 => h9) rfl (zT_M_ok 0 (by decide)) rfl rfl (Nat.le_of_ble_eq_true rfl) zd_M_sum_20 (fun H locs hP hD hS => ?_)
    have hP : va_P (dC, dI) zz_cl (zv_M cI cZ cL a0 a1 a2 a3 a4 a5 a6 a7 1 w1 w2 w3 w4 w5 w6 w7 w8 w9 w10 w11 w12 w13 w14 w15 w16 w17 w18 w19 w20 w21) H := hP
    have hD : va_D A (zv_M cI cZ cL a0 a1 a2 a3 a4 a5 a6 a7 1 w1 w2 w3 w4 w5 w6 w7 w8 w9 w10 w11 w12 w13 w14 w15 w16 w17 w18 w19 w20 w21) := hD
    refine lv_aload_n hx hb zd_M_sum_23 rfl (lv_at hl 0 rfl) ?_
    refine va_get (D := (dC, dI)) (ci := 5) (v := .int 1) (C := zr_M) (T := zF_M) (N := 22) hx hb htB zi_M hown hK hP 0 rfl rfl 0 (by decide) (htB _ zk_d62d4141) (fun _ h9 => h9) rfl zd_M_sum_24 ?_
    refine lv_if_le (tgt := 34) hx hb zd_M_sum_27 (by decide) (fun c_ => absurd c_ (by decide)) (fun _ => ?_)
    refine lv_lconst (v := 0) hx hb zd_M_sum_30 (by decide) ?_
    refine lv_goto (tgt := 39) hx hb zd_M_sum_31 (by decide) ?_
    rw [(show zf_M_sum w0 w2 w4 p1 = (0, 1) from by rw [zf_M_sum, if_pos c_12])]
    exact zz_lret hx hb hr hlocks hK hP hD hS zd_M_sum_39 rfl
  · refine lv_iconst (v := 0) hx hb zd_M_sum_15 (by decide) ?_
    refine lv_goto (tgt := 20) hx hb zd_M_sum_16 (by decide) ?_
    refine va_put (D := (dC, dI)) (ci := 5) (v := .int 0) (C := zr_M) (T := zF_M) (N := 22) hx hb htB zi_M zT_M zT_M_ok zn_M hown hK hP hD hS 0 rfl rfl 0 (by decide) (htB _ zk_d62d4141) (fun _ h9 => h9) rfl (zT_M_ok 0 (by decide)) rfl rfl (Nat.le_of_ble_eq_true rfl) zd_M_sum_20 (fun H locs hP hD hS => ?_)
    have hP : va_P (dC, dI) zz_cl (zv_M cI cZ cL a0 a1 a2 a3 a4 a5 a6 a7 0 w1 w2 w3 w4 w5 w6 w7 w8 w9 w10 w11 w12 w13 w14 w15 w16 w17 w18 w19 w20 w21) H := hP
    have hD : va_D A (zv_M cI cZ cL a0 a1 a2 a3 a4 a5 a6 a7 0 w1 w2 w3 w4 w5 w6 w7 w8 w9 w10 w11 w12 w13 w14 w15 w16 w17 w18 w19 w20 w21) := hD
    refine lv_aload_n hx hb zd_M_sum_23 rfl (lv_at hl 0 rfl) ?_
    refine va_get (D := (dC, dI)) (ci := 5) (v := .int 0) (C := zr_M) (T := zF_M) (N := 22) hx hb htB zi_M hown hK hP 0 rfl rfl 0 (by decide) (htB _ zk_d62d4141) (fun _ h9 => h9) rfl zd_M_sum_24 ?_
    refine lv_if_le (tgt := 34) hx hb zd_M_sum_27 (by decide) (fun _ => ?_) (fun c_ => absurd (by decide) c_)
    refine lv_aload_n hx hb zd_M_sum_34 rfl (lv_at hl 0 rfl) ?_
    refine lv_iload_n hx hb zd_M_sum_35 rfl (lv_at hl 1 rfl) ?_
    refine zz_kl (va_runV (As := [.int p1]) (rest := []) ⟨hx, hb, hml, hown, htB⟩ (zc_M_sumOf l dC dI cI cZ cL a0 a1 a2 a3 a4 a5 a6 a7 H.size 0 w1 w2 w3 w4 w5 w6 w7 w8 w9 w10 w11 w12 w13 w14 w15 w16 w17 w18 w19 w20 w21 p1 hm (zy_sumf c_12)) (cwV 1 htB (zz_gV zk_fe3892f0 zk_fb867ac0 zk_2ca8367b zk_91cc3b19 zk_c94fa12d) rfl rfl rfl ⟨rfl, zh_M_sumOf⟩ ⟨Nat.le_of_ble_eq_true rfl, Nat.le_of_ble_eq_true rfl⟩) (zz_preV (ci := 5) (q := (zr_M, zF_M, 22)) hP hD hK hE [0, 1, 2, 3, 4, 5, 6, 7] (by decide) rfl rfl rfl) rfl rfl hl.1 rfl (lv_room (Nat.le_of_ble_eq_true rfl)) zd_M_sum_36 ⟨Nat.le_of_ble_eq_true rfl, Nat.le_of_ble_eq_true rfl⟩) ?_
    rw [(show zf_M_sum w0 w2 w4 p1 = ((zf_M_sumOf w2 w4 p1), 0) from by rw [zf_M_sum, if_neg c_12])]
    exact zz_lret hx hb hr hlocks hK hP hD hS zd_M_sum_39 rfl
set_option maxHeartbeats 4000000 in
set_option maxRecDepth 100000 in
theorem zp_M_set_4 {p : Program} {l : Launch} {e : Env} {s : State} {m : MethodId} {below : List Frame} {meth : Method} {c : Code} (dC : Nat → ClassId) (dI : Nat → Nat → Nat) (cI cZ cL : ClassId) (a0 a1 a2 a3 a4 a5 a6 a7 : Nat) (w0 : Int32) (w1 : Int32) (w2 : Nat) (w3 : Nat → Int32) (w4 : Nat → Int64) (w5 : Int32) (w6 : Int32) (w7 : Nat) (w8 : Nat → Int64) (w9 : Nat → Int32) (w10 : Nat) (w11 : Nat → Int32) (w12 : Nat → Int32) (w13 : Nat → Int32) (w14 : Int32) (w15 : Int32) (w16 : Int32) (w17 : Int32) (w18 : Int32) (w19 : Int64) (w20 : Int32) (w21 : Int32) (hm : w2 ≤ 30) (C0 : zz_C p s m ([.ref a0] : List Value).toArray meth c zb_M_set 3 (some .int) zy_M_set.cls) (hK : va_K (dC, dI) zz_cl (zz_ty cI cZ cL) s) (hP : va_P (dC, dI) zz_cl (zv_M cI cZ cL a0 a1 a2 a3 a4 a5 a6 a7 w0 w1 w2 w3 w4 w5 w6 w7 w8 w9 w10 w11 w12 w13 w14 w15 w16 w17 w18 w19 w20 w21) s.heap) (hD : va_D (fun _ => True) (zv_M cI cZ cL a0 a1 a2 a3 a4 a5 a6 a7 w0 w1 w2 w3 w4 w5 w6 w7 w8 w9 w10 w11 w12 w13 w14 w15 w16 w17 w18 w19 w20 w21)) :
    ∀ (mm k : Nat), k + mm = w2 + 1 → ∀ (x1 : Int32), ∀ ls : Array Slot, lv_has ls 3 [(0, .ref a0), (1, .int x1), (2, .int (nI k))] →
    W p l e ({ frames := 1, cells := 0, slots := 0, locals := 23 } : Room) s m ([.ref a0] : List Value).toArray below meth c s.heap [] 0 0 (MQ below (zz_Ki (zf_M_set_L4 w2 w4 mm k x1)) ([.ref a0] : List Value).toArray s 0 0 (fun _ => False)) (F0 m 4 ls []) := by
  obtain ⟨hx, hb, hr, hml, hown, htB, hlocks, hE⟩ := id C0
  intro mm
  induction mm with
  | zero =>
    intro k hk x1 ls hl
    refine lv_iload_n hx hb zd_M_set_4 rfl (lv_at hl 2 rfl) ?_
    refine lv_aload_n hx hb zd_M_set_5 rfl (lv_at hl 0 rfl) ?_
    refine va_get (D := (dC, dI)) (ci := 5) (v := .int (nI w2)) (C := zr_M) (T := zF_M) (N := 22) hx hb htB zi_M hown hK hP 0 rfl rfl 2 (by decide) (htB _ zk_d4ba64b0) (fun _ h9 => h9) rfl zd_M_set_6 ?_
    refine lv_icmp_gt (tgt := 26) hx hb zd_M_set_9 (by decide) (fun _ => ?_) (fun c_ => absurd (zz_gtT (b := w2) rfl (by omega) (by omega)) c_)
    refine lv_iload_n hx hb zd_M_set_26 rfl (lv_at hl 1 rfl) ?_
    rw [(show zf_M_set_L4 w2 w4 0 k x1 = x1 from by first | rfl | (rw [zf_M_set_L4]))]
    exact zz_kiret hx hb hr hlocks zd_M_set_27 rfl
  | succ mm ih =>
    intro k hk x1 ls hl
    refine lv_iload_n hx hb zd_M_set_4 rfl (lv_at hl 2 rfl) ?_
    refine lv_aload_n hx hb zd_M_set_5 rfl (lv_at hl 0 rfl) ?_
    refine va_get (D := (dC, dI)) (ci := 5) (v := .int (nI w2)) (C := zr_M) (T := zF_M) (N := 22) hx hb htB zi_M hown hK hP 0 rfl rfl 2 (by decide) (htB _ zk_d4ba64b0) (fun _ h9 => h9) rfl zd_M_set_6 ?_
    refine lv_icmp_gt (tgt := 26) hx hb zd_M_set_9 (by decide) (fun c_ => absurd c_ (zz_gtF (b := w2) rfl (by omega) (by omega))) (fun _ => ?_)
    refine lv_iload_n hx hb zd_M_set_12 rfl (lv_at hl 1 rfl) ?_
    refine lv_aload_n hx hb zd_M_set_13 rfl (lv_at hl 0 rfl) ?_
    refine lv_iload_n hx hb zd_M_set_14 rfl (lv_at hl 2 rfl) ?_
    refine zz_ki (va_runV (As := [.int (nI k)]) (rest := [.int x1]) ⟨hx, hb, hml, hown, htB⟩ (zc_M_setIn l dC dI cI cZ cL a0 a1 a2 a3 a4 a5 a6 a7 s.heap.size w0 w1 w2 w3 w4 w5 w6 w7 w8 w9 w10 w11 w12 w13 w14 w15 w16 w17 w18 w19 w20 w21 (nI k) (vp_in_nI (by omega) (by decide))) (cwV 1 htB (zz_gV zk_542d7788 zk_a39ede8e zk_4cca81b9 zk_91cc3b19 zk_4a85deba) rfl rfl rfl ⟨rfl, zh_M_setIn⟩ ⟨Nat.le_of_ble_eq_true rfl, Nat.le_of_ble_eq_true rfl⟩) (zz_preV (ci := 5) (q := (zr_M, zF_M, 22)) hP hD hK hE [0, 1, 2, 3, 4, 5, 6, 7] (by decide) rfl rfl rfl) rfl rfl hl.1 rfl (lv_room (Nat.le_of_ble_eq_true rfl)) zd_M_set_15 ⟨Nat.le_of_ble_eq_true rfl, Nat.le_of_ble_eq_true rfl⟩) ?_
    refine lv_iadd hx hb zd_M_set_18 ?_
    refine lv_istore_n (lv' := [(1, .int (x1 + (zf_M_setIn w4 (nI k)))), (0, .ref a0), (2, .int (nI k))]) hx hb zd_M_set_19 rfl hl (by decide) rfl (fun ls hl => ?_)
    refine lv_iinc (v := nI (k + 1)) (lv' := [(2, .int (nI (k + 1))), (1, .int (x1 + (zf_M_setIn w4 (nI k)))), (0, .ref a0)]) hx hb zd_M_set_20 hl (k := 2) rfl (nI_1 k) (by decide) rfl (fun ls hl => ?_)
    refine lv_goto (tgt := 4) hx hb zd_M_set_23 (by decide) ?_
    rw [(show zf_M_set_L4 w2 w4 (mm + 1) k x1 = zf_M_set_L4 w2 w4 mm (k + 1) (x1 + (zf_M_setIn w4 (nI k))) from by first | rfl | (rw [zf_M_set_L4]))]
    exact ih (k + 1) (by omega) (x1 + (zf_M_setIn w4 (nI k)))   _ (lv_sub hl [2, 1, 0] rfl)
set_option maxHeartbeats 4000000 in
set_option maxRecDepth 100000 in
theorem zc_M_set (l : Launch) (dC : Nat → ClassId) (dI : Nat → Nat → Nat) (cI cZ cL : ClassId) (a0 a1 a2 a3 a4 a5 a6 a7 : Nat) (sz : Nat) (w0 : Int32) (w1 : Int32) (w2 : Nat) (w3 : Nat → Int32) (w4 : Nat → Int64) (w5 : Int32) (w6 : Int32) (w7 : Nat) (w8 : Nat → Int64) (w9 : Nat → Int32) (w10 : Nat) (w11 : Nat → Int32) (w12 : Nat → Int32) (w13 : Nat → Int32) (w14 : Int32) (w15 : Int32) (w16 : Int32) (w17 : Int32) (w18 : Int32) (w19 : Int64) (w20 : Int32) (w21 : Int32) (hm : w2 ≤ 30) : Met l zy_M_set (zz_ws zy_M_set zb_M_set 3 (some .int)) ({ frames := 1, cells := 0, slots := 0, locals := 23 } : Room) (va_Pc ([.ref a0] : List Value) (zz_P (dC, dI) (zz_ty cI cZ cL) sz (zv_M cI cZ cL a0 a1 a2 a3 a4 a5 a6 a7 w0 w1 w2 w3 w4 w5 w6 w7 w8 w9 w10 w11 w12 w13 w14 w15 w16 w17 w18 w19 w20 w21))) (zz_Ki (zf_M_set w2 w4)) 0 0 (fun _ => False) := by
  refine zz_ofK (by decide) (Nat.le_of_ble_eq_true rfl) ?_
  intro p e s m below meth c C0 hK hP hD ls hl
  obtain ⟨hx, hb, hr, hml, hown, htB, hlocks, hE⟩ := id C0
  have hl : lv_has ls 3 [(0, .ref a0)] := hl
  refine lv_iconst (v := 0) hx hb zd_M_set_0 (by decide) ?_
  refine lv_istore_n (lv' := [(1, .int 0), (0, .ref a0)]) hx hb zd_M_set_1 rfl hl (by decide) rfl (fun ls hl => ?_)
  refine lv_iconst (v := 0) hx hb zd_M_set_2 (by decide) ?_
  refine lv_istore_n (lv' := [(2, .int 0), (1, .int 0), (0, .ref a0)]) hx hb zd_M_set_3 rfl hl (by decide) rfl (fun ls hl => ?_)
  rw [(show zf_M_set w2 w4 = zf_M_set_L4 w2 w4 (w2 + 1) 0 0 from by first | rfl | (rw [zf_M_set]))]
  exact zp_M_set_4 dC dI cI cZ cL a0 a1 a2 a3 a4 a5 a6 a7 w0 w1 w2 w3 w4 w5 w6 w7 w8 w9 w10 w11 w12 w13 w14 w15 w16 w17 w18 w19 w20 w21 hm C0 hK hP hD (w2 + 1) 0 (by omega) 0   _ (lv_sub hl [2, 1, 0] rfl)
set_option maxHeartbeats 4000000 in
set_option maxRecDepth 100000 in
theorem zc_M_pack (l : Launch) (dC : Nat → ClassId) (dI : Nat → Nat → Nat) (cI cZ cL : ClassId) (a0 a1 a2 a3 a4 a5 a6 a7 : Nat) (sz : Nat) (w0 : Int32) (w1 : Int32) (w2 : Nat) (w3 : Nat → Int32) (w4 : Nat → Int64) (w5 : Int32) (w6 : Int32) (w7 : Nat) (w8 : Nat → Int64) (w9 : Nat → Int32) (w10 : Nat) (w11 : Nat → Int32) (w12 : Nat → Int32) (w13 : Nat → Int32) (w14 : Int32) (w15 : Int32) (w16 : Int32) (w17 : Int32) (w18 : Int32) (w19 : Int64) (w20 : Int32) (w21 : Int32) (hm : w2 ≤ 30) : Met l zy_M_pack (zz_ws zy_M_pack zb_M_pack 1 (some .int)) ({ frames := 2, cells := 0, slots := 0, locals := 45 } : Room) (va_Pc ([.ref a0] : List Value) (zz_P (dC, dI) (zz_ty cI cZ cL) sz (zv_M cI cZ cL a0 a1 a2 a3 a4 a5 a6 a7 w0 w1 w2 w3 w4 w5 w6 w7 w8 w9 w10 w11 w12 w13 w14 w15 w16 w17 w18 w19 w20 w21))) (zz_Qi (dC, dI) (zz_ty cI cZ cL) (va_A (zv_M cI cZ cL a0 a1 a2 a3 a4 a5 a6 a7 w0 w1 w2 w3 w4 w5 w6 w7 w8 w9 w10 w11 w12 w13 w14 w15 w16 w17 w18 w19 w20 w21) sz) ((zf_M_pack w0 w2 w4).1) (zv_M cI cZ cL a0 a1 a2 a3 a4 a5 a6 a7 ((zf_M_pack w0 w2 w4).2) w1 w2 w3 w4 w5 w6 w7 w8 w9 w10 w11 w12 w13 w14 w15 w16 w17 w18 w19 w20 w21)) 0 0 (va_A (zv_M cI cZ cL a0 a1 a2 a3 a4 a5 a6 a7 w0 w1 w2 w3 w4 w5 w6 w7 w8 w9 w10 w11 w12 w13 w14 w15 w16 w17 w18 w19 w20 w21) sz) := by
  refine zz_ofW (Q := fun A => (zz_Qi (dC, dI) (zz_ty cI cZ cL) A ((zf_M_pack w0 w2 w4).1) (zv_M cI cZ cL a0 a1 a2 a3 a4 a5 a6 a7 ((zf_M_pack w0 w2 w4).2) w1 w2 w3 w4 w5 w6 w7 w8 w9 w10 w11 w12 w13 w14 w15 w16 w17 w18 w19 w20 w21))) (by decide) (Nat.le_of_ble_eq_true rfl) ?_
  intro p e s m below meth c A C0 _ hA hK hP hD _ ls hl
  obtain ⟨hx, hb, hr, hml, hown, htB, hlocks, hE⟩ := id C0
  have hS : va_S A s.heap s.heap [] := va_S.rf
  have hl : lv_has ls 1 [(0, .ref a0)] := hl
  refine lv_aload_n hx hb zd_M_pack_0 rfl (lv_at hl 0 rfl) ?_
  refine lv_iconst (v := 0) hx hb zd_M_pack_1 (by decide) ?_
  refine va_put (D := (dC, dI)) (ci := 5) (v := .int 0) (C := zr_M) (T := zF_M) (N := 22) hx hb htB zi_M zT_M zT_M_ok zn_M hown hK hP hD hS 0 rfl rfl 0 (by decide) (htB _ zk_d62d4141) (fun _ h9 => h9) rfl (zT_M_ok 0 (by decide)) rfl rfl (Nat.le_of_ble_eq_true rfl) zd_M_pack_2 (fun H locs hP hD hS => ?_)
  have hP : va_P (dC, dI) zz_cl (zv_M cI cZ cL a0 a1 a2 a3 a4 a5 a6 a7 0 w1 w2 w3 w4 w5 w6 w7 w8 w9 w10 w11 w12 w13 w14 w15 w16 w17 w18 w19 w20 w21) H := hP
  have hD : va_D A (zv_M cI cZ cL a0 a1 a2 a3 a4 a5 a6 a7 0 w1 w2 w3 w4 w5 w6 w7 w8 w9 w10 w11 w12 w13 w14 w15 w16 w17 w18 w19 w20 w21) := hD
  refine lv_iconst (v := 3) hx hb zd_M_pack_5 (by decide) ?_
  refine lv_bipush (v := 6) hx hb zd_M_pack_6 (by decide) ?_
  refine lv_aload_n hx hb zd_M_pack_8 rfl (lv_at hl 0 rfl) ?_
  refine zz_ki (va_runV (As := []) (rest := [.int 6, .int 3]) ⟨hx, hb, hml, hown, htB⟩ (zc_M_set l dC dI cI cZ cL a0 a1 a2 a3 a4 a5 a6 a7 H.size 0 w1 w2 w3 w4 w5 w6 w7 w8 w9 w10 w11 w12 w13 w14 w15 w16 w17 w18 w19 w20 w21  hm) (cwV 0 htB (zz_gV zk_4db78f98 zk_3de2aec0 zk_d43b7762 zk_91cc3b19 zk_2c5958d7) rfl rfl rfl ⟨rfl, zh_M_set⟩ ⟨Nat.le_of_ble_eq_true rfl, Nat.le_of_ble_eq_true rfl⟩) (zz_preV (ci := 5) (q := (zr_M, zF_M, 22)) hP hD hK hE [0, 1, 2, 3, 4, 5, 6, 7] (by decide) rfl rfl rfl) rfl rfl hl.1 rfl (lv_room (Nat.le_of_ble_eq_true rfl)) zd_M_pack_9 ⟨Nat.le_of_ble_eq_true rfl, Nat.le_of_ble_eq_true rfl⟩) ?_
  refine lv_imul hx hb zd_M_pack_12 ?_
  refine lv_iadd hx hb zd_M_pack_13 ?_
  rw [(show zf_M_pack w0 w2 w4 = (3 + (6 * (zf_M_set w2 w4)), 0) from by first | rfl | (rw [zf_M_pack]))]
  exact zz_iret hx hb hr hlocks hK hP hD hS zd_M_pack_14 rfl
set_option maxHeartbeats 4000000 in
set_option maxRecDepth 100000 in
theorem zp_M_placeOf_4 {p : Program} {l : Launch} {e : Env} {s : State} {m : MethodId} {below : List Frame} {meth : Method} {c : Code} (dC : Nat → ClassId) (dI : Nat → Nat → Nat) (cI cZ cL : ClassId) (a0 a1 a2 a3 a4 a5 a6 a7 : Nat) (w0 : Int32) (w1 : Int32) (w2 : Nat) (w3 : Nat → Int32) (w4 : Nat → Int64) (w5 : Int32) (w6 : Int32) (w7 : Nat) (w8 : Nat → Int64) (w9 : Nat → Int32) (w10 : Nat) (w11 : Nat → Int32) (w12 : Nat → Int32) (w13 : Nat → Int32) (w14 : Int32) (w15 : Int32) (w16 : Int32) (w17 : Int32) (w18 : Int32) (w19 : Int64) (w20 : Int32) (w21 : Int32) (p1 : Int32) (hq : zy_more w4 310 0 p1) (C0 : zz_C p s m ([.ref a0, .int p1] : List Value).toArray meth c zb_M_placeOf 4 (some .int) zy_M_placeOf.cls) (hK : va_K (dC, dI) zz_cl (zz_ty cI cZ cL) s) (hP : va_P (dC, dI) zz_cl (zv_M cI cZ cL a0 a1 a2 a3 a4 a5 a6 a7 w0 w1 w2 w3 w4 w5 w6 w7 w8 w9 w10 w11 w12 w13 w14 w15 w16 w17 w18 w19 w20 w21) s.heap) (hD : va_D (fun _ => True) (zv_M cI cZ cL a0 a1 a2 a3 a4 a5 a6 a7 w0 w1 w2 w3 w4 w5 w6 w7 w8 w9 w10 w11 w12 w13 w14 w15 w16 w17 w18 w19 w20 w21)) :
    ∀ (mm k : Nat), k + mm = 310 → ∀ (x2 : Int32) (hin : zy_more w4 mm k x2), ∀ ls : Array Slot, lv_has ls 4 [(0, .ref a0), (1, .int p1), (2, .int x2), (3, .int (nI k))] →
    W p l e ({ frames := 0, cells := 0, slots := 0, locals := 0 } : Room) s m ([.ref a0, .int p1] : List Value).toArray below meth c s.heap [] 0 0 (MQ below (zz_Ki (zf_M_placeOf_L4 w4 p1 mm k x2)) ([.ref a0, .int p1] : List Value).toArray s 0 0 (fun _ => False)) (F0 m 4 ls []) := by
  obtain ⟨hx, hb, hr, hml, hown, htB, hlocks, hE⟩ := id C0
  intro mm
  induction mm with
  | zero =>
    intro k hk x2 hin ls hl
    exact hin.elim
  | succ mm ih =>
    intro k hk x2 hin ls hl
    refine lv_aload_n hx hb zd_M_placeOf_4 rfl (lv_at hl 0 rfl) ?_
    refine va_get (D := (dC, dI)) (ci := 5) (v := .ref a2) (C := zr_M) (T := zF_M) (N := 22) hx hb htB zi_M hown hK hP 0 rfl rfl 4 (by decide) (htB _ zk_8e1cf9a2) (fun _ h9 => h9) rfl zd_M_placeOf_5 ?_
    refine lv_iload_n hx hb zd_M_placeOf_8 rfl (lv_at hl 3 rfl) ?_
    refine zz_lald hx hb hK hP 2 2 rfl rfl (by omega) (by decide) zd_M_placeOf_9 ?_
    refine lv_ldc2 (v := (-1)) hx hb hown (htB _ zk_1ad41f20) zd_M_placeOf_10 ?_
    refine W.lcmp hx hb zd_M_placeOf_13 ?_
    refine lv_if_eq (tgt := 21) hx hb zd_M_placeOf_14 (by decide) (fun c_14 => ?_) (fun c_14 => ?_)
    · refine lv_iload_n hx hb zd_M_placeOf_21 rfl (lv_at hl 2 rfl) ?_
      refine lv_aload_n hx hb zd_M_placeOf_22 rfl (lv_at hl 0 rfl) ?_
      refine va_get (D := (dC, dI)) (ci := 5) (v := .ref a2) (C := zr_M) (T := zF_M) (N := 22) hx hb htB zi_M hown hK hP 0 rfl rfl 4 (by decide) (htB _ zk_8e1cf9a2) (fun _ h9 => h9) rfl zd_M_placeOf_23 ?_
      refine lv_iload_n hx hb zd_M_placeOf_26 rfl (lv_at hl 3 rfl) ?_
      refine zz_lald hx hb hK hP 2 2 rfl rfl (by omega) (by decide) zd_M_placeOf_27 ?_
      refine lv_ldc2 (v := (-1)) hx hb hown (htB _ zk_1ad41f20) zd_M_placeOf_28 ?_
      refine W.lcmp hx hb zd_M_placeOf_31 ?_
      refine lv_if_ne (tgt := 39) hx hb zd_M_placeOf_32 (by decide) (fun c_ => absurd c_14 c_) (fun _ => ?_)
      refine lv_iconst (v := 0) hx hb zd_M_placeOf_35 (by decide) ?_
      refine lv_goto (tgt := 40) hx hb zd_M_placeOf_36 (by decide) ?_
      refine lv_isub hx hb zd_M_placeOf_40 ?_
      refine lv_istore_n (lv' := [(2, .int (x2 - 0)), (0, .ref a0), (1, .int p1), (3, .int (nI k))]) hx hb zd_M_placeOf_41 rfl hl (by decide) rfl (fun ls hl => ?_)
      refine lv_iinc (v := nI (k + 1)) (lv' := [(3, .int (nI (k + 1))), (2, .int (x2 - 0)), (0, .ref a0), (1, .int p1)]) hx hb zd_M_placeOf_42 hl (k := 3) rfl (nI_1 k) (by decide) rfl (fun ls hl => ?_)
      refine lv_goto (tgt := 4) hx hb zd_M_placeOf_45 (by decide) ?_
      rw [(show zf_M_placeOf_L4 w4 p1 (mm + 1) k x2 = zf_M_placeOf_L4 w4 p1 mm (k + 1) (x2 - 0) from by rw [zf_M_placeOf_L4, if_pos c_14])]
      exact ih (k + 1) (by omega) (x2 - 0)  (by first | (rw [zy_more, if_pos c_14] at hin; exact hin) | (rw [zy_more, if_neg c_14, if_neg c_18] at hin; exact hin)) _ (lv_sub hl [2, 3, 1, 0] rfl)
    · refine lv_iload_n hx hb zd_M_placeOf_17 rfl (lv_at hl 2 rfl) ?_
      refine lv_if_le (tgt := 48) hx hb zd_M_placeOf_18 (by decide) (fun c_18 => ?_) (fun c_18 => ?_)
      · refine lv_iload_n hx hb zd_M_placeOf_48 rfl (lv_at hl 3 rfl) ?_
        rw [(show zf_M_placeOf_L4 w4 p1 (mm + 1) k x2 = nI k from by rw [zf_M_placeOf_L4, if_neg c_14, if_pos c_18])]
        exact zz_kiret hx hb hr hlocks zd_M_placeOf_49 rfl
      · refine lv_iload_n hx hb zd_M_placeOf_21 rfl (lv_at hl 2 rfl) ?_
        refine lv_aload_n hx hb zd_M_placeOf_22 rfl (lv_at hl 0 rfl) ?_
        refine va_get (D := (dC, dI)) (ci := 5) (v := .ref a2) (C := zr_M) (T := zF_M) (N := 22) hx hb htB zi_M hown hK hP 0 rfl rfl 4 (by decide) (htB _ zk_8e1cf9a2) (fun _ h9 => h9) rfl zd_M_placeOf_23 ?_
        refine lv_iload_n hx hb zd_M_placeOf_26 rfl (lv_at hl 3 rfl) ?_
        refine zz_lald hx hb hK hP 2 2 rfl rfl (by omega) (by decide) zd_M_placeOf_27 ?_
        refine lv_ldc2 (v := (-1)) hx hb hown (htB _ zk_1ad41f20) zd_M_placeOf_28 ?_
        refine W.lcmp hx hb zd_M_placeOf_31 ?_
        refine lv_if_ne (tgt := 39) hx hb zd_M_placeOf_32 (by decide) (fun _ => ?_) (fun c_ => absurd c_ c_14)
        refine lv_iconst (v := 1) hx hb zd_M_placeOf_39 (by decide) ?_
        refine lv_isub hx hb zd_M_placeOf_40 ?_
        refine lv_istore_n (lv' := [(2, .int (x2 - 1)), (0, .ref a0), (1, .int p1), (3, .int (nI k))]) hx hb zd_M_placeOf_41 rfl hl (by decide) rfl (fun ls hl => ?_)
        refine lv_iinc (v := nI (k + 1)) (lv' := [(3, .int (nI (k + 1))), (2, .int (x2 - 1)), (0, .ref a0), (1, .int p1)]) hx hb zd_M_placeOf_42 hl (k := 3) rfl (nI_1 k) (by decide) rfl (fun ls hl => ?_)
        refine lv_goto (tgt := 4) hx hb zd_M_placeOf_45 (by decide) ?_
        rw [(show zf_M_placeOf_L4 w4 p1 (mm + 1) k x2 = zf_M_placeOf_L4 w4 p1 mm (k + 1) (x2 - 1) from by rw [zf_M_placeOf_L4, if_neg c_14, if_neg c_18])]
        exact ih (k + 1) (by omega) (x2 - 1)  (by first | (rw [zy_more, if_pos c_14] at hin; exact hin) | (rw [zy_more, if_neg c_14, if_neg c_18] at hin; exact hin)) _ (lv_sub hl [2, 3, 1, 0] rfl)
set_option maxHeartbeats 4000000 in
set_option maxRecDepth 100000 in
theorem zc_M_placeOf (l : Launch) (dC : Nat → ClassId) (dI : Nat → Nat → Nat) (cI cZ cL : ClassId) (a0 a1 a2 a3 a4 a5 a6 a7 : Nat) (sz : Nat) (w0 : Int32) (w1 : Int32) (w2 : Nat) (w3 : Nat → Int32) (w4 : Nat → Int64) (w5 : Int32) (w6 : Int32) (w7 : Nat) (w8 : Nat → Int64) (w9 : Nat → Int32) (w10 : Nat) (w11 : Nat → Int32) (w12 : Nat → Int32) (w13 : Nat → Int32) (w14 : Int32) (w15 : Int32) (w16 : Int32) (w17 : Int32) (w18 : Int32) (w19 : Int64) (w20 : Int32) (w21 : Int32) (p1 : Int32) (hq : zy_more w4 310 0 p1) : Met l zy_M_placeOf (zz_ws zy_M_placeOf zb_M_placeOf 4 (some .int)) ({ frames := 0, cells := 0, slots := 0, locals := 0 } : Room) (va_Pc ([.ref a0, .int p1] : List Value) (zz_P (dC, dI) (zz_ty cI cZ cL) sz (zv_M cI cZ cL a0 a1 a2 a3 a4 a5 a6 a7 w0 w1 w2 w3 w4 w5 w6 w7 w8 w9 w10 w11 w12 w13 w14 w15 w16 w17 w18 w19 w20 w21))) (zz_Ki (zf_M_placeOf w4 p1)) 0 0 (fun _ => False) := by
  refine zz_ofK (by decide) (Nat.le_of_ble_eq_true rfl) ?_
  intro p e s m below meth c C0 hK hP hD ls hl
  obtain ⟨hx, hb, hr, hml, hown, htB, hlocks, hE⟩ := id C0
  have hl : lv_has ls 4 [(0, .ref a0), (1, .int p1)] := hl
  refine lv_iload_n hx hb zd_M_placeOf_0 rfl (lv_at hl 1 rfl) ?_
  refine lv_istore_n (lv' := [(2, .int p1), (0, .ref a0), (1, .int p1)]) hx hb zd_M_placeOf_1 rfl hl (by decide) rfl (fun ls hl => ?_)
  refine lv_iconst (v := 0) hx hb zd_M_placeOf_2 (by decide) ?_
  refine lv_istore_n (lv' := [(3, .int 0), (2, .int p1), (0, .ref a0), (1, .int p1)]) hx hb zd_M_placeOf_3 rfl hl (by decide) rfl (fun ls hl => ?_)
  rw [(show zf_M_placeOf w4 p1 = zf_M_placeOf_L4 w4 p1 310 0 p1 from by first | rfl | (rw [zf_M_placeOf]))]
  exact zp_M_placeOf_4 dC dI cI cZ cL a0 a1 a2 a3 a4 a5 a6 a7 w0 w1 w2 w3 w4 w5 w6 w7 w8 w9 w10 w11 w12 w13 w14 w15 w16 w17 w18 w19 w20 w21 p1 hq C0 hK hP hD 310 0 (by omega) p1  hq _ (lv_sub hl [2, 3, 1, 0] rfl)
set_option maxHeartbeats 4000000 in
set_option maxRecDepth 100000 in
theorem zc_M_octet (l : Launch) (dC : Nat → ClassId) (dI : Nat → Nat → Nat) (cI cZ cL : ClassId) (a0 a1 a2 a3 a4 a5 a6 a7 : Nat) (sz : Nat) (w0 : Int32) (w1 : Int32) (w2 : Nat) (w3 : Nat → Int32) (w4 : Nat → Int64) (w5 : Int32) (w6 : Int32) (w7 : Nat) (w8 : Nat → Int64) (w9 : Nat → Int32) (w10 : Nat) (w11 : Nat → Int32) (w12 : Nat → Int32) (w13 : Nat → Int32) (w14 : Int32) (w15 : Int32) (w16 : Int32) (w17 : Int32) (w18 : Int32) (w19 : Int64) (w20 : Int32) (w21 : Int32) (p1 : Int32) (hm : w2 ≤ 30) (hq : ¬ p1 < 0 → p1 < (3 + (6 * (zf_M_set w2 w4))) → 3 ≤ p1 → zy_more w4 310 0 ((p1 - 3) / 6)) : Met l zy_M_octet (zz_ws zy_M_octet zb_M_octet 6 (some .byte)) ({ frames := 2, cells := 0, slots := 0, locals := 45 } : Room) (va_Pc ([.ref a0, .int p1] : List Value) (zz_P (dC, dI) (zz_ty cI cZ cL) sz (zv_M cI cZ cL a0 a1 a2 a3 a4 a5 a6 a7 w0 w1 w2 w3 w4 w5 w6 w7 w8 w9 w10 w11 w12 w13 w14 w15 w16 w17 w18 w19 w20 w21))) (zz_Qi (dC, dI) (zz_ty cI cZ cL) (va_A (zv_M cI cZ cL a0 a1 a2 a3 a4 a5 a6 a7 w0 w1 w2 w3 w4 w5 w6 w7 w8 w9 w10 w11 w12 w13 w14 w15 w16 w17 w18 w19 w20 w21) sz) ((zf_M_octet w0 w1 w2 w4 p1).1) (zv_M cI cZ cL a0 a1 a2 a3 a4 a5 a6 a7 ((zf_M_octet w0 w1 w2 w4 p1).2) w1 w2 w3 w4 w5 w6 w7 w8 w9 w10 w11 w12 w13 w14 w15 w16 w17 w18 w19 w20 w21)) 0 0 (va_A (zv_M cI cZ cL a0 a1 a2 a3 a4 a5 a6 a7 w0 w1 w2 w3 w4 w5 w6 w7 w8 w9 w10 w11 w12 w13 w14 w15 w16 w17 w18 w19 w20 w21) sz) := by
  refine zz_ofW (Q := fun A => (zz_Qi (dC, dI) (zz_ty cI cZ cL) A ((zf_M_octet w0 w1 w2 w4 p1).1) (zv_M cI cZ cL a0 a1 a2 a3 a4 a5 a6 a7 ((zf_M_octet w0 w1 w2 w4 p1).2) w1 w2 w3 w4 w5 w6 w7 w8 w9 w10 w11 w12 w13 w14 w15 w16 w17 w18 w19 w20 w21))) (by decide) (Nat.le_of_ble_eq_true rfl) ?_
  intro p e s m below meth c A C0 _ hA hK hP hD _ ls hl
  obtain ⟨hx, hb, hr, hml, hown, htB, hlocks, hE⟩ := id C0
  have hS : va_S A s.heap s.heap [] := va_S.rf
  have hl : lv_has ls 6 [(0, .ref a0), (1, .int p1)] := hl
  refine lv_aload_n hx hb zd_M_octet_0 rfl (lv_at hl 0 rfl) ?_
  refine zz_ki (va_runV (As := []) (rest := []) ⟨hx, hb, hml, hown, htB⟩ (zc_M_set l dC dI cI cZ cL a0 a1 a2 a3 a4 a5 a6 a7 s.heap.size w0 w1 w2 w3 w4 w5 w6 w7 w8 w9 w10 w11 w12 w13 w14 w15 w16 w17 w18 w19 w20 w21  hm) (cwV 0 htB (zz_gV zk_4db78f98 zk_3de2aec0 zk_d43b7762 zk_91cc3b19 zk_2c5958d7) rfl rfl rfl ⟨rfl, zh_M_set⟩ ⟨Nat.le_of_ble_eq_true rfl, Nat.le_of_ble_eq_true rfl⟩) (zz_preV (ci := 5) (q := (zr_M, zF_M, 22)) hP hD hK hE [0, 1, 2, 3, 4, 5, 6, 7] (by decide) rfl rfl rfl) rfl rfl hl.1 rfl (lv_room (Nat.le_of_ble_eq_true rfl)) zd_M_octet_1 ⟨Nat.le_of_ble_eq_true rfl, Nat.le_of_ble_eq_true rfl⟩) ?_
  refine lv_istore_n (lv' := [(2, .int (zf_M_set w2 w4)), (0, .ref a0), (1, .int p1)]) hx hb zd_M_octet_4 rfl hl (by decide) rfl (fun ls hl => ?_)
  refine lv_iload_n hx hb zd_M_octet_5 rfl (lv_at hl 2 rfl) ?_
  refine lv_if_lt (tgt := 19) hx hb zd_M_octet_6 (by decide) (fun c_6 => ?_) (fun c_6 => ?_)
  · refine lv_aload_n hx hb zd_M_octet_19 rfl (lv_at hl 1 rfl) ?_
    refine lv_iconst (v := 1) hx hb zd_M_octet_20 (by decide) ?_
    refine va_put (D := (dC, dI)) (ci := 5) (v := .int 1) (C := zr_M) (T := zF_M) (N := 22) hx hb htB zi_M zT_M zT_M_ok zn_M hown hK hP hD hS 0 rfl rfl 0 (by decide) (htB _ zk_d62d4141) (fun _ h9 => h9) rfl (zT_M_ok 0 (by decide)) rfl rfl (Nat.le_of_ble_eq_true rfl) zd_M_octet_21 (fun H locs hP hD hS => ?_)
    have hP : va_P (dC, dI) zz_cl (zv_M cI cZ cL a0 a1 a2 a3 a4 a5 a6 a7 1 w1 w2 w3 w4 w5 w6 w7 w8 w9 w10 w11 w12 w13 w14 w15 w16 w17 w18 w19 w20 w21) H := hP
    have hD : va_D A (zv_M cI cZ cL a0 a1 a2 a3 a4 a5 a6 a7 1 w1 w2 w3 w4 w5 w6 w7 w8 w9 w10 w11 w12 w13 w14 w15 w16 w17 w18 w19 w20 w21) := hD
    refine lv_iconst (v := 0) hx hb zd_M_octet_24 (by decide) ?_
    rw [(show zf_M_octet w0 w1 w2 w4 p1 = (0, 1) from by rw [zf_M_octet, if_pos c_6])]
    exact zz_zret hx hb hr hlocks rfl hK hP hD hS zd_M_octet_25 rfl
  · refine lv_iload_n hx hb zd_M_octet_9 rfl (lv_at hl 2 rfl) ?_
    refine lv_iconst (v := 3) hx hb zd_M_octet_10 (by decide) ?_
    refine lv_bipush (v := 6) hx hb zd_M_octet_11 (by decide) ?_
    refine lv_iload_n hx hb zd_M_octet_13 rfl (lv_at hl 0 rfl) ?_
    refine lv_imul hx hb zd_M_octet_14 ?_
    refine lv_iadd hx hb zd_M_octet_15 ?_
    refine lv_icmp_lt (tgt := 26) hx hb zd_M_octet_16 (by decide) (fun c_16 => ?_) (fun c_16 => ?_)
    · refine lv_aload_n hx hb zd_M_octet_26 rfl (lv_at hl 1 rfl) ?_
      refine lv_iconst (v := 0) hx hb zd_M_octet_27 (by decide) ?_
      refine va_put (D := (dC, dI)) (ci := 5) (v := .int 0) (C := zr_M) (T := zF_M) (N := 22) hx hb htB zi_M zT_M zT_M_ok zn_M hown hK hP hD hS 0 rfl rfl 0 (by decide) (htB _ zk_d62d4141) (fun _ h9 => h9) rfl (zT_M_ok 0 (by decide)) rfl rfl (Nat.le_of_ble_eq_true rfl) zd_M_octet_28 (fun H locs hP hD hS => ?_)
      have hP : va_P (dC, dI) zz_cl (zv_M cI cZ cL a0 a1 a2 a3 a4 a5 a6 a7 0 w1 w2 w3 w4 w5 w6 w7 w8 w9 w10 w11 w12 w13 w14 w15 w16 w17 w18 w19 w20 w21) H := hP
      have hD : va_D A (zv_M cI cZ cL a0 a1 a2 a3 a4 a5 a6 a7 0 w1 w2 w3 w4 w5 w6 w7 w8 w9 w10 w11 w12 w13 w14 w15 w16 w17 w18 w19 w20 w21) := hD
      refine lv_iload_n hx hb zd_M_octet_31 rfl (lv_at hl 2 rfl) ?_
      refine lv_iconst (v := 3) hx hb zd_M_octet_32 (by decide) ?_
      refine lv_icmp_ge (tgt := 62) hx hb zd_M_octet_33 (by decide) (fun c_33 => ?_) (fun c_33 => ?_)
      · refine lv_aload_n hx hb zd_M_octet_62 rfl (lv_at hl 1 rfl) ?_
        refine lv_iload_n hx hb zd_M_octet_63 rfl (lv_at hl 2 rfl) ?_
        refine lv_iconst (v := 3) hx hb zd_M_octet_64 (by decide) ?_
        refine lv_isub hx hb zd_M_octet_65 ?_
        refine lv_bipush (v := 6) hx hb zd_M_octet_66 (by decide) ?_
        refine lv_idiv hx hb zd_M_octet_68 (by decide) ?_
        refine zz_ki (va_runV (As := [.int ((p1 - 3) / 6)]) (rest := []) ⟨hx, hb, hml, hown, htB⟩ (zc_M_placeOf l dC dI cI cZ cL a0 a1 a2 a3 a4 a5 a6 a7 H.size 0 w1 w2 w3 w4 w5 w6 w7 w8 w9 w10 w11 w12 w13 w14 w15 w16 w17 w18 w19 w20 w21 ((p1 - 3) / 6) (hq c_6 c_16 c_33)) (cwV 1 htB (zz_gV zk_67892ef0 zk_145211a7 zk_1993e099 zk_91cc3b19 zk_ee44fc34) rfl rfl rfl ⟨rfl, zh_M_placeOf⟩ ⟨Nat.le_of_ble_eq_true rfl, Nat.le_of_ble_eq_true rfl⟩) (zz_preV (ci := 5) (q := (zr_M, zF_M, 22)) hP hD hK hE [0, 1, 2, 3, 4, 5, 6, 7] (by decide) rfl rfl rfl) rfl rfl hl.1 rfl (lv_room (Nat.le_of_ble_eq_true rfl)) zd_M_octet_69 ⟨Nat.le_of_ble_eq_true rfl, Nat.le_of_ble_eq_true rfl⟩) ?_
        refine lv_istore_n (lv' := [(3, .int (zf_M_placeOf w4 ((p1 - 3) / 6))), (2, .int (zf_M_set w2 w4)), (0, .ref a0), (1, .int p1)]) hx hb zd_M_octet_72 rfl hl (by decide) rfl (fun ls hl => ?_)
        refine lv_iload_n hx hb zd_M_octet_73 rfl (lv_at hl 3 rfl) ?_
        refine lv_iconst (v := 3) hx hb zd_M_octet_74 (by decide) ?_
        refine lv_isub hx hb zd_M_octet_75 ?_
        refine lv_bipush (v := 6) hx hb zd_M_octet_76 (by decide) ?_
        refine lv_irem hx hb zd_M_octet_78 (by decide) ?_
        refine lv_istore (lv' := [(4, .int ((p1 - 3) - (p1 - 3) / 6 * 6)), (3, .int (zf_M_placeOf w4 ((p1 - 3) / 6))), (2, .int (zf_M_set w2 w4)), (0, .ref a0), (1, .int p1)]) hx hb zd_M_octet_79 hl (by decide) rfl (fun ls hl => ?_)
        refine lv_iload_n hx hb zd_M_octet_81 rfl (lv_at hl 1 rfl) ?_
        refine lv_bipush (v := 10) hx hb zd_M_octet_82 (by decide) ?_
        refine lv_idiv hx hb zd_M_octet_84 (by decide) ?_
        refine lv_istore (lv' := [(5, .int ((zf_M_placeOf w4 ((p1 - 3) / 6)) / 10)), (4, .int ((p1 - 3) - (p1 - 3) / 6 * 6)), (3, .int (zf_M_placeOf w4 ((p1 - 3) / 6))), (2, .int (zf_M_set w2 w4)), (0, .ref a0), (1, .int p1)]) hx hb zd_M_octet_85 hl (by decide) rfl (fun ls hl => ?_)
        refine lv_iload hx hb zd_M_octet_87 (lv_at hl 1 rfl) ?_
        refine lv_if_ne (tgt := 113) hx hb zd_M_octet_89 (by decide) (fun c_89 => ?_) (fun c_89 => ?_)
        · refine lv_iload hx hb zd_M_octet_113 (lv_at hl 1 rfl) ?_
          refine lv_iconst (v := 1) hx hb zd_M_octet_115 (by decide) ?_
          refine lv_icmp_ne (tgt := 125) hx hb zd_M_octet_116 (by decide) (fun c_116 => ?_) (fun c_116 => ?_)
          · refine lv_aload_n hx hb zd_M_octet_125 rfl (lv_at hl 4 rfl) ?_
            refine va_get (D := (dC, dI)) (ci := 5) (v := .ref a2) (C := zr_M) (T := zF_M) (N := 22) hx hb htB zi_M hown hK hP 0 rfl rfl 4 (by decide) (htB _ zk_8e1cf9a2) (fun _ h9 => h9) rfl zd_M_octet_126 ?_
            refine lv_iload_n hx hb zd_M_octet_129 rfl (lv_at hl 2 rfl) ?_
            refine va_lald hx hb hK hP 2 2 rfl rfl (zy_plc (hq c_6 c_16 c_33)) zd_M_octet_130 ?_
            refine lv_bipush (v := 8) hx hb zd_M_octet_131 (by decide) ?_
            refine lv_iconst (v := 5) hx hb zd_M_octet_133 (by decide) ?_
            refine lv_iload hx hb zd_M_octet_134 (lv_at hl 1 rfl) ?_
            refine lv_isub hx hb zd_M_octet_136 ?_
            refine lv_imul hx hb zd_M_octet_137 ?_
            refine lv_lshr hx hb zd_M_octet_138 rfl ?_
            refine lv_l2i hx hb zd_M_octet_139 rfl ?_
            refine lv_i2b hx hb zd_M_octet_140 rfl ?_
            rw [(show zf_M_octet w0 w1 w2 w4 p1 = ((((w4 (zf_M_placeOf w4 ((p1 - 3) / 6)).toNatClampNeg) >>> ((8 * (5 - ((p1 - 3) - (p1 - 3) / 6 * 6))).toInt64 &&& 63)).toInt32).toInt8.toInt32, 0) from by rw [zf_M_octet, if_neg c_6, if_pos c_16, if_pos c_33, if_neg c_89, if_neg c_116])]
            exact zz_zret hx hb hr hlocks (pk_nb _) hK hP hD hS zd_M_octet_141 rfl
          · refine lv_iload hx hb zd_M_octet_119 (lv_at hl 0 rfl) ?_
            refine lv_i2l hx hb zd_M_octet_121 rfl ?_
            refine lv_goto (tgt := 139) hx hb zd_M_octet_122 (by decide) ?_
            refine lv_l2i hx hb zd_M_octet_139 rfl ?_
            refine lv_i2b hx hb zd_M_octet_140 rfl ?_
            rw [(show zf_M_octet w0 w1 w2 w4 p1 = (((((zf_M_placeOf w4 ((p1 - 3) / 6)) / 10).toInt64).toInt32).toInt8.toInt32, 0) from by rw [zf_M_octet, if_neg c_6, if_pos c_16, if_pos c_33, if_neg c_89, if_pos c_116])]
            exact zz_zret hx hb hr hlocks (pk_nb _) hK hP hD hS zd_M_octet_141 rfl
        · refine lv_iload hx hb zd_M_octet_92 (lv_at hl 0 rfl) ?_
          refine lv_if_ne (tgt := 102) hx hb zd_M_octet_94 (by decide) (fun c_94 => ?_) (fun c_94 => ?_)
          · refine lv_bipush (v := 10) hx hb zd_M_octet_102 (by decide) ?_
            refine lv_iload_n hx hb zd_M_octet_104 rfl (lv_at hl 2 rfl) ?_
            refine lv_bipush (v := 10) hx hb zd_M_octet_105 (by decide) ?_
            refine lv_irem hx hb zd_M_octet_107 (by decide) ?_
            refine lv_iadd hx hb zd_M_octet_108 ?_
            refine lv_i2l hx hb zd_M_octet_109 rfl ?_
            refine lv_goto (tgt := 139) hx hb zd_M_octet_110 (by decide) ?_
            refine lv_l2i hx hb zd_M_octet_139 rfl ?_
            refine lv_i2b hx hb zd_M_octet_140 rfl ?_
            rw [(show zf_M_octet w0 w1 w2 w4 p1 = ((((10 + ((zf_M_placeOf w4 ((p1 - 3) / 6)) - (zf_M_placeOf w4 ((p1 - 3) / 6)) / 10 * 10)).toInt64).toInt32).toInt8.toInt32, 0) from by rw [zf_M_octet, if_neg c_6, if_pos c_16, if_pos c_33, if_pos c_89, if_neg c_94])]
            exact zz_zret hx hb hr hlocks (pk_nb _) hK hP hD hS zd_M_octet_141 rfl
          · refine lv_iload_n hx hb zd_M_octet_97 rfl (lv_at hl 2 rfl) ?_
            refine lv_i2l hx hb zd_M_octet_98 rfl ?_
            refine lv_goto (tgt := 139) hx hb zd_M_octet_99 (by decide) ?_
            refine lv_l2i hx hb zd_M_octet_139 rfl ?_
            refine lv_i2b hx hb zd_M_octet_140 rfl ?_
            rw [(show zf_M_octet w0 w1 w2 w4 p1 = ((((zf_M_placeOf w4 ((p1 - 3) / 6)).toInt64).toInt32).toInt8.toInt32, 0) from by rw [zf_M_octet, if_neg c_6, if_pos c_16, if_pos c_33, if_pos c_89, if_pos c_94])]
            exact zz_zret hx hb hr hlocks (pk_nb _) hK hP hD hS zd_M_octet_141 rfl
      · refine lv_iload_n hx hb zd_M_octet_36 rfl (lv_at hl 2 rfl) ?_
        refine lv_if_ne (tgt := 47) hx hb zd_M_octet_37 (by decide) (fun c_37 => ?_) (fun c_37 => ?_)
        · refine lv_iload_n hx hb zd_M_octet_47 rfl (lv_at hl 2 rfl) ?_
          refine lv_iconst (v := 1) hx hb zd_M_octet_48 (by decide) ?_
          refine lv_icmp_ne (tgt := 59) hx hb zd_M_octet_49 (by decide) (fun c_49 => ?_) (fun c_49 => ?_)
          · refine lv_iload_n hx hb zd_M_octet_59 rfl (lv_at hl 0 rfl) ?_
            refine lv_i2b hx hb zd_M_octet_60 rfl ?_
            rw [(show zf_M_octet w0 w1 w2 w4 p1 = ((zf_M_set w2 w4).toInt8.toInt32, 0) from by rw [zf_M_octet, if_neg c_6, if_pos c_16, if_neg c_33, if_neg c_37, if_neg c_49])]
            exact zz_zret hx hb hr hlocks (pk_nb _) hK hP hD hS zd_M_octet_61 rfl
          · refine lv_iload_n hx hb zd_M_octet_52 rfl (lv_at hl 0 rfl) ?_
            refine lv_bipush (v := 8) hx hb zd_M_octet_53 (by decide) ?_
            refine lv_ishr hx hb zd_M_octet_55 ?_
            refine lv_goto (tgt := 60) hx hb zd_M_octet_56 (by decide) ?_
            refine lv_i2b hx hb zd_M_octet_60 rfl ?_
            rw [(show zf_M_octet w0 w1 w2 w4 p1 = (((zf_M_set w2 w4) >>> (8 &&& 31)).toInt8.toInt32, 0) from by rw [zf_M_octet, if_neg c_6, if_pos c_16, if_neg c_33, if_neg c_37, if_pos c_49])]
            exact zz_zret hx hb hr hlocks (pk_nb _) hK hP hD hS zd_M_octet_61 rfl
        · refine lv_aload_n hx hb zd_M_octet_40 rfl (lv_at hl 1 rfl) ?_
          refine va_get (D := (dC, dI)) (ci := 5) (v := .int w1) (C := zr_M) (T := zF_M) (N := 22) hx hb htB zi_M hown hK hP 0 rfl rfl 1 (by decide) (htB _ zk_cf183326) (fun _ h9 => h9) rfl zd_M_octet_41 ?_
          refine lv_goto (tgt := 60) hx hb zd_M_octet_44 (by decide) ?_
          refine lv_i2b hx hb zd_M_octet_60 rfl ?_
          rw [(show zf_M_octet w0 w1 w2 w4 p1 = (w1.toInt8.toInt32, 0) from by rw [zf_M_octet, if_neg c_6, if_pos c_16, if_neg c_33, if_pos c_37])]
          exact zz_zret hx hb hr hlocks (pk_nb _) hK hP hD hS zd_M_octet_61 rfl
    · refine lv_aload_n hx hb zd_M_octet_19 rfl (lv_at hl 1 rfl) ?_
      refine lv_iconst (v := 1) hx hb zd_M_octet_20 (by decide) ?_
      refine va_put (D := (dC, dI)) (ci := 5) (v := .int 1) (C := zr_M) (T := zF_M) (N := 22) hx hb htB zi_M zT_M zT_M_ok zn_M hown hK hP hD hS 0 rfl rfl 0 (by decide) (htB _ zk_d62d4141) (fun _ h9 => h9) rfl (zT_M_ok 0 (by decide)) rfl rfl (Nat.le_of_ble_eq_true rfl) zd_M_octet_21 (fun H locs hP hD hS => ?_)
      have hP : va_P (dC, dI) zz_cl (zv_M cI cZ cL a0 a1 a2 a3 a4 a5 a6 a7 1 w1 w2 w3 w4 w5 w6 w7 w8 w9 w10 w11 w12 w13 w14 w15 w16 w17 w18 w19 w20 w21) H := hP
      have hD : va_D A (zv_M cI cZ cL a0 a1 a2 a3 a4 a5 a6 a7 1 w1 w2 w3 w4 w5 w6 w7 w8 w9 w10 w11 w12 w13 w14 w15 w16 w17 w18 w19 w20 w21) := hD
      refine lv_iconst (v := 0) hx hb zd_M_octet_24 (by decide) ?_
      rw [(show zf_M_octet w0 w1 w2 w4 p1 = (0, 1) from by rw [zf_M_octet, if_neg c_6, if_neg c_16])]
      exact zz_zret hx hb hr hlocks rfl hK hP hD hS zd_M_octet_25 rfl
set_option maxHeartbeats 4000000 in
set_option maxRecDepth 100000 in
theorem zc_M_ends (l : Launch) (dC : Nat → ClassId) (dI : Nat → Nat → Nat) (cI cZ cL : ClassId) (a0 a1 a2 a3 a4 a5 a6 a7 : Nat) (sz : Nat) (w0 : Int32) (w1 : Int32) (w2 : Nat) (w3 : Nat → Int32) (w4 : Nat → Int64) (w5 : Int32) (w6 : Int32) (w7 : Nat) (w8 : Nat → Int64) (w9 : Nat → Int32) (w10 : Nat) (w11 : Nat → Int32) (w12 : Nat → Int32) (w13 : Nat → Int32) (w14 : Int32) (w15 : Int32) (w16 : Int32) (w17 : Int32) (w18 : Int32) (w19 : Int64) (w20 : Int32) (w21 : Int32) (p1 : Int32)  : Met l zy_M_ends (zz_ws zy_M_ends zb_M_ends 2 (some .int)) ({ frames := 0, cells := 0, slots := 0, locals := 0 } : Room) (va_Pc ([.ref a0, .int p1] : List Value) (zz_P (dC, dI) (zz_ty cI cZ cL) sz (zv_M cI cZ cL a0 a1 a2 a3 a4 a5 a6 a7 w0 w1 w2 w3 w4 w5 w6 w7 w8 w9 w10 w11 w12 w13 w14 w15 w16 w17 w18 w19 w20 w21))) (zz_Qi (dC, dI) (zz_ty cI cZ cL) (va_A (zv_M cI cZ cL a0 a1 a2 a3 a4 a5 a6 a7 w0 w1 w2 w3 w4 w5 w6 w7 w8 w9 w10 w11 w12 w13 w14 w15 w16 w17 w18 w19 w20 w21) sz) ((zf_M_ends w14 p1).1) (zv_M cI cZ cL a0 a1 a2 a3 a4 a5 a6 a7 w0 w1 w2 w3 w4 w5 w6 w7 w8 w9 w10 w11 w12 w13 ((zf_M_ends w14 p1).2) w15 w16 w17 w18 w19 w20 w21)) 0 0 (va_A (zv_M cI cZ cL a0 a1 a2 a3 a4 a5 a6 a7 w0 w1 w2 w3 w4 w5 w6 w7 w8 w9 w10 w11 w12 w13 w14 w15 w16 w17 w18 w19 w20 w21) sz) := by
  refine zz_ofW (Q := fun A => (zz_Qi (dC, dI) (zz_ty cI cZ cL) A ((zf_M_ends w14 p1).1) (zv_M cI cZ cL a0 a1 a2 a3 a4 a5 a6 a7 w0 w1 w2 w3 w4 w5 w6 w7 w8 w9 w10 w11 w12 w13 ((zf_M_ends w14 p1).2) w15 w16 w17 w18 w19 w20 w21))) (by decide) (Nat.le_of_ble_eq_true rfl) ?_
  intro p e s m below meth c A C0 _ hA hK hP hD _ ls hl
  obtain ⟨hx, hb, hr, hml, hown, htB, hlocks, hE⟩ := id C0
  have hS : va_S A s.heap s.heap [] := va_S.rf
  have hl : lv_has ls 2 [(0, .ref a0), (1, .int p1)] := hl
  refine lv_aload_n hx hb zd_M_ends_0 rfl (lv_at hl 0 rfl) ?_
  refine lv_iconst (v := 0) hx hb zd_M_ends_1 (by decide) ?_
  refine va_put (D := (dC, dI)) (ci := 5) (v := .int 0) (C := zr_M) (T := zF_M) (N := 22) hx hb htB zi_M zT_M zT_M_ok zn_M hown hK hP hD hS 0 rfl rfl 14 (by decide) (htB _ zk_6f7d9b7a) (fun _ h9 => h9) rfl (zT_M_ok 14 (by decide)) rfl rfl (Nat.le_of_ble_eq_true rfl) zd_M_ends_2 (fun H locs hP hD hS => ?_)
  have hP : va_P (dC, dI) zz_cl (zv_M cI cZ cL a0 a1 a2 a3 a4 a5 a6 a7 w0 w1 w2 w3 w4 w5 w6 w7 w8 w9 w10 w11 w12 w13 0 w15 w16 w17 w18 w19 w20 w21) H := hP
  have hD : va_D A (zv_M cI cZ cL a0 a1 a2 a3 a4 a5 a6 a7 w0 w1 w2 w3 w4 w5 w6 w7 w8 w9 w10 w11 w12 w13 0 w15 w16 w17 w18 w19 w20 w21) := hD
  refine lv_iload_n hx hb zd_M_ends_5 rfl (lv_at hl 1 rfl) ?_
  rw [(show zf_M_ends w14 p1 = (p1, 0) from by first | rfl | (rw [zf_M_ends]))]
  exact zz_iret hx hb hr hlocks hK hP hD hS zd_M_ends_6 rfl
set_option maxHeartbeats 4000000 in
set_option maxRecDepth 100000 in
theorem zc_M_whole (l : Launch) (dC : Nat → ClassId) (dI : Nat → Nat → Nat) (cI cZ cL : ClassId) (a0 a1 a2 a3 a4 a5 a6 a7 : Nat) (sz : Nat) (w0 : Int32) (w1 : Int32) (w2 : Nat) (w3 : Nat → Int32) (w4 : Nat → Int64) (w5 : Int32) (w6 : Int32) (w7 : Nat) (w8 : Nat → Int64) (w9 : Nat → Int32) (w10 : Nat) (w11 : Nat → Int32) (w12 : Nat → Int32) (w13 : Nat → Int32) (w14 : Int32) (w15 : Int32) (w16 : Int32) (w17 : Int32) (w18 : Int32) (w19 : Int64) (w20 : Int32) (w21 : Int32)  : Met l zy_M_whole (zz_ws zy_M_whole zb_M_whole 1 (some .int)) ({ frames := 1, cells := 0, slots := 0, locals := 21 } : Room) (va_Pc ([.ref a0] : List Value) (zz_P (dC, dI) (zz_ty cI cZ cL) sz (zv_M cI cZ cL a0 a1 a2 a3 a4 a5 a6 a7 w0 w1 w2 w3 w4 w5 w6 w7 w8 w9 w10 w11 w12 w13 w14 w15 w16 w17 w18 w19 w20 w21))) (zz_Qi (dC, dI) (zz_ty cI cZ cL) (va_A (zv_M cI cZ cL a0 a1 a2 a3 a4 a5 a6 a7 w0 w1 w2 w3 w4 w5 w6 w7 w8 w9 w10 w11 w12 w13 w14 w15 w16 w17 w18 w19 w20 w21) sz) ((zf_M_whole w14 w16 w20 w21).1) (zv_M cI cZ cL a0 a1 a2 a3 a4 a5 a6 a7 w0 w1 w2 w3 w4 w5 w6 w7 w8 w9 w10 w11 w12 w13 ((zf_M_whole w14 w16 w20 w21).2.1) w15 w16 w17 w18 w19 ((zf_M_whole w14 w16 w20 w21).2.2.1) ((zf_M_whole w14 w16 w20 w21).2.2.2))) 0 0 (va_A (zv_M cI cZ cL a0 a1 a2 a3 a4 a5 a6 a7 w0 w1 w2 w3 w4 w5 w6 w7 w8 w9 w10 w11 w12 w13 w14 w15 w16 w17 w18 w19 w20 w21) sz) := by
  refine zz_ofW (Q := fun A => (zz_Qi (dC, dI) (zz_ty cI cZ cL) A ((zf_M_whole w14 w16 w20 w21).1) (zv_M cI cZ cL a0 a1 a2 a3 a4 a5 a6 a7 w0 w1 w2 w3 w4 w5 w6 w7 w8 w9 w10 w11 w12 w13 ((zf_M_whole w14 w16 w20 w21).2.1) w15 w16 w17 w18 w19 ((zf_M_whole w14 w16 w20 w21).2.2.1) ((zf_M_whole w14 w16 w20 w21).2.2.2)))) (by decide) (Nat.le_of_ble_eq_true rfl) ?_
  intro p e s m below meth c A C0 _ hA hK hP hD _ ls hl
  obtain ⟨hx, hb, hr, hml, hown, htB, hlocks, hE⟩ := id C0
  have hS : va_S A s.heap s.heap [] := va_S.rf
  have hl : lv_has ls 1 [(0, .ref a0)] := hl
  refine lv_aload_n hx hb zd_M_whole_0 rfl (lv_at hl 0 rfl) ?_
  refine lv_dup hx hb zd_M_whole_1 rfl ?_
  refine va_get (D := (dC, dI)) (ci := 5) (v := .int w20) (C := zr_M) (T := zF_M) (N := 22) hx hb htB zi_M hown hK hP 0 rfl rfl 20 (by decide) (htB _ zk_4b3fcbca) (fun _ h9 => h9) rfl zd_M_whole_2 ?_
  refine lv_iconst (v := 1) hx hb zd_M_whole_5 (by decide) ?_
  refine lv_iadd hx hb zd_M_whole_6 ?_
  refine va_put (D := (dC, dI)) (ci := 5) (v := .int (w20 + 1)) (C := zr_M) (T := zF_M) (N := 22) hx hb htB zi_M zT_M zT_M_ok zn_M hown hK hP hD hS 0 rfl rfl 20 (by decide) (htB _ zk_4b3fcbca) (fun _ h9 => h9) rfl (zT_M_ok 20 (by decide)) rfl rfl (Nat.le_of_ble_eq_true rfl) zd_M_whole_7 (fun H locs hP hD hS => ?_)
  have hP : va_P (dC, dI) zz_cl (zv_M cI cZ cL a0 a1 a2 a3 a4 a5 a6 a7 w0 w1 w2 w3 w4 w5 w6 w7 w8 w9 w10 w11 w12 w13 w14 w15 w16 w17 w18 w19 (w20 + 1) w21) H := hP
  have hD : va_D A (zv_M cI cZ cL a0 a1 a2 a3 a4 a5 a6 a7 w0 w1 w2 w3 w4 w5 w6 w7 w8 w9 w10 w11 w12 w13 w14 w15 w16 w17 w18 w19 (w20 + 1) w21) := hD
  refine lv_aload_n hx hb zd_M_whole_10 rfl (lv_at hl 0 rfl) ?_
  refine lv_aload_n hx hb zd_M_whole_11 rfl (lv_at hl 0 rfl) ?_
  refine va_get (D := (dC, dI)) (ci := 5) (v := .int w16) (C := zr_M) (T := zF_M) (N := 22) hx hb htB zi_M hown hK hP 0 rfl rfl 16 (by decide) (htB _ zk_9faaf25a) (fun _ h9 => h9) rfl zd_M_whole_12 ?_
  refine va_put (D := (dC, dI)) (ci := 5) (v := .int w16) (C := zr_M) (T := zF_M) (N := 22) hx hb htB zi_M zT_M zT_M_ok zn_M hown hK hP hD hS 0 rfl rfl 21 (by decide) (htB _ zk_adfa104d) (fun _ h9 => h9) rfl (zT_M_ok 21 (by decide)) rfl rfl (Nat.le_of_ble_eq_true rfl) zd_M_whole_15 (fun H locs hP hD hS => ?_)
  have hP : va_P (dC, dI) zz_cl (zv_M cI cZ cL a0 a1 a2 a3 a4 a5 a6 a7 w0 w1 w2 w3 w4 w5 w6 w7 w8 w9 w10 w11 w12 w13 w14 w15 w16 w17 w18 w19 (w20 + 1) w16) H := hP
  have hD : va_D A (zv_M cI cZ cL a0 a1 a2 a3 a4 a5 a6 a7 w0 w1 w2 w3 w4 w5 w6 w7 w8 w9 w10 w11 w12 w13 w14 w15 w16 w17 w18 w19 (w20 + 1) w16) := hD
  refine lv_aload_n hx hb zd_M_whole_18 rfl (lv_at hl 0 rfl) ?_
  refine lv_iconst (v := 1) hx hb zd_M_whole_19 (by decide) ?_
  refine zz_ci (va_runV (As := [.int 1]) (rest := []) ⟨hx, hb, hml, hown, htB⟩ (zc_M_ends l dC dI cI cZ cL a0 a1 a2 a3 a4 a5 a6 a7 H.size w0 w1 w2 w3 w4 w5 w6 w7 w8 w9 w10 w11 w12 w13 w14 w15 w16 w17 w18 w19 (w20 + 1) w16 1 ) (cwV 1 htB (zz_gV zk_2d30793a zk_fed514dc zk_ec145e2c zk_91cc3b19 zk_feda7793) rfl rfl rfl ⟨rfl, zh_M_ends⟩ ⟨Nat.le_of_ble_eq_true rfl, Nat.le_of_ble_eq_true rfl⟩) (zz_preV (ci := 5) (q := (zr_M, zF_M, 22)) hP hD hK hE [0, 1, 2, 3, 4, 5, 6, 7] (by decide) rfl rfl rfl) rfl rfl hl.1 rfl (lv_room (Nat.le_of_ble_eq_true rfl)) zd_M_whole_20 ⟨Nat.le_of_ble_eq_true rfl, Nat.le_of_ble_eq_true rfl⟩) hP hD hS hA [0, 1, 2, 3, 4, 5, 6, 7] [] [0, 1, 2, 3, 4, 5, 6, 7] rfl rfl (by decide) (by decide) (by decide) rfl (fun H locs hP hD hS => ?_)
  have hP : va_P (dC, dI) zz_cl (zv_M cI cZ cL a0 a1 a2 a3 a4 a5 a6 a7 w0 w1 w2 w3 w4 w5 w6 w7 w8 w9 w10 w11 w12 w13 ((zf_M_ends w14 1).2) w15 w16 w17 w18 w19 (w20 + 1) w16) H := hP
  have hD : va_D A (zv_M cI cZ cL a0 a1 a2 a3 a4 a5 a6 a7 w0 w1 w2 w3 w4 w5 w6 w7 w8 w9 w10 w11 w12 w13 ((zf_M_ends w14 1).2) w15 w16 w17 w18 w19 (w20 + 1) w16) := hD
  rw [(show zf_M_whole w14 w16 w20 w21 = ((zf_M_ends w14 1).1, (zf_M_ends w14 1).2, w20 + 1, w16) from by first | rfl | (rw [zf_M_whole]))]
  exact zz_iret hx hb hr hlocks hK hP hD hS zd_M_whole_23 rfl
set_option maxHeartbeats 4000000 in
set_option maxRecDepth 100000 in
theorem zc_M_begins (l : Launch) (dC : Nat → ClassId) (dI : Nat → Nat → Nat) (cI cZ cL : ClassId) (a0 a1 a2 a3 a4 a5 a6 a7 : Nat) (sz : Nat) (w0 : Int32) (w1 : Int32) (w2 : Nat) (w3 : Nat → Int32) (w4 : Nat → Int64) (w5 : Int32) (w6 : Int32) (w7 : Nat) (w8 : Nat → Int64) (w9 : Nat → Int32) (w10 : Nat) (w11 : Nat → Int32) (w12 : Nat → Int32) (w13 : Nat → Int32) (w14 : Int32) (w15 : Int32) (w16 : Int32) (w17 : Int32) (w18 : Int32) (w19 : Int64) (w20 : Int32) (w21 : Int32) (p1 : Int32)  : Met l zy_M_begins (zz_ws zy_M_begins zb_M_begins 2 (some .int)) ({ frames := 2, cells := 0, slots := 0, locals := 41 } : Room) (va_Pc ([.ref a0, .int p1] : List Value) (zz_P (dC, dI) (zz_ty cI cZ cL) sz (zv_M cI cZ cL a0 a1 a2 a3 a4 a5 a6 a7 w0 w1 w2 w3 w4 w5 w6 w7 w8 w9 w10 w11 w12 w13 w14 w15 w16 w17 w18 w19 w20 w21))) (zz_Qi (dC, dI) (zz_ty cI cZ cL) (va_A (zv_M cI cZ cL a0 a1 a2 a3 a4 a5 a6 a7 w0 w1 w2 w3 w4 w5 w6 w7 w8 w9 w10 w11 w12 w13 w14 w15 w16 w17 w18 w19 w20 w21) sz) ((zf_M_begins w14 w15 w16 w17 w20 w21 p1).1) (zv_M cI cZ cL a0 a1 a2 a3 a4 a5 a6 a7 w0 w1 w2 w3 w4 w5 w6 w7 w8 w9 w10 w11 w12 w13 ((zf_M_begins w14 w15 w16 w17 w20 w21 p1).2.1) ((zf_M_begins w14 w15 w16 w17 w20 w21 p1).2.2.1) ((zf_M_begins w14 w15 w16 w17 w20 w21 p1).2.2.2.1) ((zf_M_begins w14 w15 w16 w17 w20 w21 p1).2.2.2.2.1) w18 w19 ((zf_M_begins w14 w15 w16 w17 w20 w21 p1).2.2.2.2.2.1) ((zf_M_begins w14 w15 w16 w17 w20 w21 p1).2.2.2.2.2.2))) 0 0 (va_A (zv_M cI cZ cL a0 a1 a2 a3 a4 a5 a6 a7 w0 w1 w2 w3 w4 w5 w6 w7 w8 w9 w10 w11 w12 w13 w14 w15 w16 w17 w18 w19 w20 w21) sz) := by
  refine zz_ofW (Q := fun A => (zz_Qi (dC, dI) (zz_ty cI cZ cL) A ((zf_M_begins w14 w15 w16 w17 w20 w21 p1).1) (zv_M cI cZ cL a0 a1 a2 a3 a4 a5 a6 a7 w0 w1 w2 w3 w4 w5 w6 w7 w8 w9 w10 w11 w12 w13 ((zf_M_begins w14 w15 w16 w17 w20 w21 p1).2.1) ((zf_M_begins w14 w15 w16 w17 w20 w21 p1).2.2.1) ((zf_M_begins w14 w15 w16 w17 w20 w21 p1).2.2.2.1) ((zf_M_begins w14 w15 w16 w17 w20 w21 p1).2.2.2.2.1) w18 w19 ((zf_M_begins w14 w15 w16 w17 w20 w21 p1).2.2.2.2.2.1) ((zf_M_begins w14 w15 w16 w17 w20 w21 p1).2.2.2.2.2.2)))) (by decide) (Nat.le_of_ble_eq_true rfl) ?_
  intro p e s m below meth c A C0 _ hA hK hP hD _ ls hl
  obtain ⟨hx, hb, hr, hml, hown, htB, hlocks, hE⟩ := id C0
  have hS : va_S A s.heap s.heap [] := va_S.rf
  have hl : lv_has ls 2 [(0, .ref a0), (1, .int p1)] := hl
  refine lv_aload_n hx hb zd_M_begins_0 rfl (lv_at hl 0 rfl) ?_
  refine va_get (D := (dC, dI)) (ci := 5) (v := .int w14) (C := zr_M) (T := zF_M) (N := 22) hx hb htB zi_M hown hK hP 0 rfl rfl 14 (by decide) (htB _ zk_6f7d9b7a) (fun _ h9 => h9) rfl zd_M_begins_1 ?_
  refine lv_if_ne (tgt := 32) hx hb zd_M_begins_4 (by decide) (fun c_4 => ?_) (fun c_4 => ?_)
  · refine lv_aload_n hx hb zd_M_begins_32 rfl (lv_at hl 0 rfl) ?_
    refine va_get (D := (dC, dI)) (ci := 5) (v := .int w14) (C := zr_M) (T := zF_M) (N := 22) hx hb htB zi_M hown hK hP 0 rfl rfl 14 (by decide) (htB _ zk_6f7d9b7a) (fun _ h9 => h9) rfl zd_M_begins_33 ?_
    refine lv_iconst (v := 1) hx hb zd_M_begins_36 (by decide) ?_
    refine lv_icmp_ne (tgt := 74) hx hb zd_M_begins_37 (by decide) (fun c_37 => ?_) (fun c_37 => ?_)
    · refine lv_aload_n hx hb zd_M_begins_74 rfl (lv_at hl 0 rfl) ?_
      refine lv_dup hx hb zd_M_begins_75 rfl ?_
      refine va_get (D := (dC, dI)) (ci := 5) (v := .int w16) (C := zr_M) (T := zF_M) (N := 22) hx hb htB zi_M hown hK hP 0 rfl rfl 16 (by decide) (htB _ zk_9faaf25a) (fun _ h9 => h9) rfl zd_M_begins_76 ?_
      refine lv_iload_n hx hb zd_M_begins_79 rfl (lv_at hl 1 rfl) ?_
      refine lv_iadd hx hb zd_M_begins_80 ?_
      refine va_put (D := (dC, dI)) (ci := 5) (v := .int (w16 + p1)) (C := zr_M) (T := zF_M) (N := 22) hx hb htB zi_M zT_M zT_M_ok zn_M hown hK hP hD hS 0 rfl rfl 16 (by decide) (htB _ zk_9faaf25a) (fun _ h9 => h9) rfl (zT_M_ok 16 (by decide)) rfl rfl (Nat.le_of_ble_eq_true rfl) zd_M_begins_81 (fun H locs hP hD hS => ?_)
      have hP : va_P (dC, dI) zz_cl (zv_M cI cZ cL a0 a1 a2 a3 a4 a5 a6 a7 w0 w1 w2 w3 w4 w5 w6 w7 w8 w9 w10 w11 w12 w13 w14 w15 (w16 + p1) w17 w18 w19 w20 w21) H := hP
      have hD : va_D A (zv_M cI cZ cL a0 a1 a2 a3 a4 a5 a6 a7 w0 w1 w2 w3 w4 w5 w6 w7 w8 w9 w10 w11 w12 w13 w14 w15 (w16 + p1) w17 w18 w19 w20 w21) := hD
      refine lv_aload_n hx hb zd_M_begins_84 rfl (lv_at hl 0 rfl) ?_
      refine lv_iconst (v := (-1)) hx hb zd_M_begins_85 (by decide) ?_
      refine va_put (D := (dC, dI)) (ci := 5) (v := .int (-1)) (C := zr_M) (T := zF_M) (N := 22) hx hb htB zi_M zT_M zT_M_ok zn_M hown hK hP hD hS 0 rfl rfl 17 (by decide) (htB _ zk_6ea1be67) (fun _ h9 => h9) rfl (zT_M_ok 17 (by decide)) rfl rfl (Nat.le_of_ble_eq_true rfl) zd_M_begins_86 (fun H locs hP hD hS => ?_)
      have hP : va_P (dC, dI) zz_cl (zv_M cI cZ cL a0 a1 a2 a3 a4 a5 a6 a7 w0 w1 w2 w3 w4 w5 w6 w7 w8 w9 w10 w11 w12 w13 w14 w15 (w16 + p1) (-1) w18 w19 w20 w21) H := hP
      have hD : va_D A (zv_M cI cZ cL a0 a1 a2 a3 a4 a5 a6 a7 w0 w1 w2 w3 w4 w5 w6 w7 w8 w9 w10 w11 w12 w13 w14 w15 (w16 + p1) (-1) w18 w19 w20 w21) := hD
      refine lv_aload_n hx hb zd_M_begins_89 rfl (lv_at hl 0 rfl) ?_
      refine lv_iconst (v := 3) hx hb zd_M_begins_90 (by decide) ?_
      refine va_put (D := (dC, dI)) (ci := 5) (v := .int 3) (C := zr_M) (T := zF_M) (N := 22) hx hb htB zi_M zT_M zT_M_ok zn_M hown hK hP hD hS 0 rfl rfl 14 (by decide) (htB _ zk_6f7d9b7a) (fun _ h9 => h9) rfl (zT_M_ok 14 (by decide)) rfl rfl (Nat.le_of_ble_eq_true rfl) zd_M_begins_91 (fun H locs hP hD hS => ?_)
      have hP : va_P (dC, dI) zz_cl (zv_M cI cZ cL a0 a1 a2 a3 a4 a5 a6 a7 w0 w1 w2 w3 w4 w5 w6 w7 w8 w9 w10 w11 w12 w13 3 w15 (w16 + p1) (-1) w18 w19 w20 w21) H := hP
      have hD : va_D A (zv_M cI cZ cL a0 a1 a2 a3 a4 a5 a6 a7 w0 w1 w2 w3 w4 w5 w6 w7 w8 w9 w10 w11 w12 w13 3 w15 (w16 + p1) (-1) w18 w19 w20 w21) := hD
      refine lv_aload_n hx hb zd_M_begins_94 rfl (lv_at hl 0 rfl) ?_
      refine va_get (D := (dC, dI)) (ci := 5) (v := .int (w16 + p1)) (C := zr_M) (T := zF_M) (N := 22) hx hb htB zi_M hown hK hP 0 rfl rfl 16 (by decide) (htB _ zk_9faaf25a) (fun _ h9 => h9) rfl zd_M_begins_95 ?_
      refine lv_sipush (v := 610) hx hb zd_M_begins_98 (by decide) ?_
      refine lv_icmp_le (tgt := 112) hx hb zd_M_begins_101 (by decide) (fun c_101 => ?_) (fun c_101 => ?_)
      · refine lv_aload_n hx hb zd_M_begins_112 rfl (lv_at hl 0 rfl) ?_
        refine va_get (D := (dC, dI)) (ci := 5) (v := .int (w16 + p1)) (C := zr_M) (T := zF_M) (N := 22) hx hb htB zi_M hown hK hP 0 rfl rfl 16 (by decide) (htB _ zk_9faaf25a) (fun _ h9 => h9) rfl zd_M_begins_113 ?_
        refine lv_if_ne (tgt := 126) hx hb zd_M_begins_116 (by decide) (fun c_116 => ?_) (fun c_116 => ?_)
        · refine lv_iconst (v := 0) hx hb zd_M_begins_126 (by decide) ?_
          rw [(show zf_M_begins w14 w15 w16 w17 w20 w21 p1 = (0, 3, w15, w16 + p1, (-1), w20, w21) from by rw [zf_M_begins, if_neg c_4, if_neg c_37, if_pos c_101, if_neg c_116])]
          exact zz_iret hx hb hr hlocks hK hP hD hS zd_M_begins_127 rfl
        · refine lv_aload_n hx hb zd_M_begins_119 rfl (lv_at hl 0 rfl) ?_
          refine zz_ci (va_runV (As := []) (rest := []) ⟨hx, hb, hml, hown, htB⟩ (zc_M_whole l dC dI cI cZ cL a0 a1 a2 a3 a4 a5 a6 a7 H.size w0 w1 w2 w3 w4 w5 w6 w7 w8 w9 w10 w11 w12 w13 3 w15 (w16 + p1) (-1) w18 w19 w20 w21  ) (cwV 0 htB (zz_gV zk_1aa1ae7f zk_9452f99b zk_d745f0f1 zk_91cc3b19 zk_534b3ca9) rfl rfl rfl ⟨rfl, zh_M_whole⟩ ⟨Nat.le_of_ble_eq_true rfl, Nat.le_of_ble_eq_true rfl⟩) (zz_preV (ci := 5) (q := (zr_M, zF_M, 22)) hP hD hK hE [0, 1, 2, 3, 4, 5, 6, 7] (by decide) rfl rfl rfl) rfl rfl hl.1 rfl (lv_room (Nat.le_of_ble_eq_true rfl)) zd_M_begins_120 ⟨Nat.le_of_ble_eq_true rfl, Nat.le_of_ble_eq_true rfl⟩) hP hD hS hA [0, 1, 2, 3, 4, 5, 6, 7] [] [0, 1, 2, 3, 4, 5, 6, 7] rfl rfl (by decide) (by decide) (by decide) rfl (fun H locs hP hD hS => ?_)
          have hP : va_P (dC, dI) zz_cl (zv_M cI cZ cL a0 a1 a2 a3 a4 a5 a6 a7 w0 w1 w2 w3 w4 w5 w6 w7 w8 w9 w10 w11 w12 w13 ((zf_M_whole 3 (w16 + p1) w20 w21).2.1) w15 (w16 + p1) (-1) w18 w19 ((zf_M_whole 3 (w16 + p1) w20 w21).2.2.1) ((zf_M_whole 3 (w16 + p1) w20 w21).2.2.2)) H := hP
          have hD : va_D A (zv_M cI cZ cL a0 a1 a2 a3 a4 a5 a6 a7 w0 w1 w2 w3 w4 w5 w6 w7 w8 w9 w10 w11 w12 w13 ((zf_M_whole 3 (w16 + p1) w20 w21).2.1) w15 (w16 + p1) (-1) w18 w19 ((zf_M_whole 3 (w16 + p1) w20 w21).2.2.1) ((zf_M_whole 3 (w16 + p1) w20 w21).2.2.2)) := hD
          refine lv_goto (tgt := 127) hx hb zd_M_begins_123 (by decide) ?_
          rw [(show zf_M_begins w14 w15 w16 w17 w20 w21 p1 = ((zf_M_whole 3 (w16 + p1) w20 w21).1, (zf_M_whole 3 (w16 + p1) w20 w21).2.1, w15, w16 + p1, (-1), (zf_M_whole 3 (w16 + p1) w20 w21).2.2.1, (zf_M_whole 3 (w16 + p1) w20 w21).2.2.2) from by rw [zf_M_begins, if_neg c_4, if_neg c_37, if_pos c_101, if_pos c_116])]
          exact zz_iret hx hb hr hlocks hK hP hD hS zd_M_begins_127 rfl
      · refine lv_aload_n hx hb zd_M_begins_104 rfl (lv_at hl 0 rfl) ?_
        refine lv_iconst (v := (-1)) hx hb zd_M_begins_105 (by decide) ?_
        refine zz_ci (va_runV (As := [.int (-1)]) (rest := []) ⟨hx, hb, hml, hown, htB⟩ (zc_M_ends l dC dI cI cZ cL a0 a1 a2 a3 a4 a5 a6 a7 H.size w0 w1 w2 w3 w4 w5 w6 w7 w8 w9 w10 w11 w12 w13 3 w15 (w16 + p1) (-1) w18 w19 w20 w21 (-1) ) (cwV 1 htB (zz_gV zk_2d30793a zk_fed514dc zk_ec145e2c zk_91cc3b19 zk_feda7793) rfl rfl rfl ⟨rfl, zh_M_ends⟩ ⟨Nat.le_of_ble_eq_true rfl, Nat.le_of_ble_eq_true rfl⟩) (zz_preV (ci := 5) (q := (zr_M, zF_M, 22)) hP hD hK hE [0, 1, 2, 3, 4, 5, 6, 7] (by decide) rfl rfl rfl) rfl rfl hl.1 rfl (lv_room (Nat.le_of_ble_eq_true rfl)) zd_M_begins_106 ⟨Nat.le_of_ble_eq_true rfl, Nat.le_of_ble_eq_true rfl⟩) hP hD hS hA [0, 1, 2, 3, 4, 5, 6, 7] [] [0, 1, 2, 3, 4, 5, 6, 7] rfl rfl (by decide) (by decide) (by decide) rfl (fun H locs hP hD hS => ?_)
        have hP : va_P (dC, dI) zz_cl (zv_M cI cZ cL a0 a1 a2 a3 a4 a5 a6 a7 w0 w1 w2 w3 w4 w5 w6 w7 w8 w9 w10 w11 w12 w13 ((zf_M_ends 3 (-1)).2) w15 (w16 + p1) (-1) w18 w19 w20 w21) H := hP
        have hD : va_D A (zv_M cI cZ cL a0 a1 a2 a3 a4 a5 a6 a7 w0 w1 w2 w3 w4 w5 w6 w7 w8 w9 w10 w11 w12 w13 ((zf_M_ends 3 (-1)).2) w15 (w16 + p1) (-1) w18 w19 w20 w21) := hD
        refine lv_goto (tgt := 127) hx hb zd_M_begins_109 (by decide) ?_
        rw [(show zf_M_begins w14 w15 w16 w17 w20 w21 p1 = ((zf_M_ends 3 (-1)).1, (zf_M_ends 3 (-1)).2, w15, w16 + p1, (-1), w20, w21) from by rw [zf_M_begins, if_neg c_4, if_neg c_37, if_neg c_101])]
        exact zz_iret hx hb hr hlocks hK hP hD hS zd_M_begins_127 rfl
    · refine lv_aload_n hx hb zd_M_begins_40 rfl (lv_at hl 0 rfl) ?_
      refine lv_sipush (v := 256) hx hb zd_M_begins_41 (by decide) ?_
      refine lv_iload_n hx hb zd_M_begins_44 rfl (lv_at hl 1 rfl) ?_
      refine lv_imul hx hb zd_M_begins_45 ?_
      refine va_put (D := (dC, dI)) (ci := 5) (v := .int (256 * p1)) (C := zr_M) (T := zF_M) (N := 22) hx hb htB zi_M zT_M zT_M_ok zn_M hown hK hP hD hS 0 rfl rfl 16 (by decide) (htB _ zk_9faaf25a) (fun _ h9 => h9) rfl (zT_M_ok 16 (by decide)) rfl rfl (Nat.le_of_ble_eq_true rfl) zd_M_begins_46 (fun H locs hP hD hS => ?_)
      have hP : va_P (dC, dI) zz_cl (zv_M cI cZ cL a0 a1 a2 a3 a4 a5 a6 a7 w0 w1 w2 w3 w4 w5 w6 w7 w8 w9 w10 w11 w12 w13 w14 w15 (256 * p1) w17 w18 w19 w20 w21) H := hP
      have hD : va_D A (zv_M cI cZ cL a0 a1 a2 a3 a4 a5 a6 a7 w0 w1 w2 w3 w4 w5 w6 w7 w8 w9 w10 w11 w12 w13 w14 w15 (256 * p1) w17 w18 w19 w20 w21) := hD
      refine lv_aload_n hx hb zd_M_begins_49 rfl (lv_at hl 0 rfl) ?_
      refine lv_iconst (v := 2) hx hb zd_M_begins_50 (by decide) ?_
      refine va_put (D := (dC, dI)) (ci := 5) (v := .int 2) (C := zr_M) (T := zF_M) (N := 22) hx hb htB zi_M zT_M zT_M_ok zn_M hown hK hP hD hS 0 rfl rfl 14 (by decide) (htB _ zk_6f7d9b7a) (fun _ h9 => h9) rfl (zT_M_ok 14 (by decide)) rfl rfl (Nat.le_of_ble_eq_true rfl) zd_M_begins_51 (fun H locs hP hD hS => ?_)
      have hP : va_P (dC, dI) zz_cl (zv_M cI cZ cL a0 a1 a2 a3 a4 a5 a6 a7 w0 w1 w2 w3 w4 w5 w6 w7 w8 w9 w10 w11 w12 w13 2 w15 (256 * p1) w17 w18 w19 w20 w21) H := hP
      have hD : va_D A (zv_M cI cZ cL a0 a1 a2 a3 a4 a5 a6 a7 w0 w1 w2 w3 w4 w5 w6 w7 w8 w9 w10 w11 w12 w13 2 w15 (256 * p1) w17 w18 w19 w20 w21) := hD
      refine lv_aload_n hx hb zd_M_begins_54 rfl (lv_at hl 0 rfl) ?_
      refine va_get (D := (dC, dI)) (ci := 5) (v := .int (256 * p1)) (C := zr_M) (T := zF_M) (N := 22) hx hb htB zi_M hown hK hP 0 rfl rfl 16 (by decide) (htB _ zk_9faaf25a) (fun _ h9 => h9) rfl zd_M_begins_55 ?_
      refine lv_sipush (v := 610) hx hb zd_M_begins_58 (by decide) ?_
      refine lv_icmp_le (tgt := 72) hx hb zd_M_begins_61 (by decide) (fun c_61 => ?_) (fun c_61 => ?_)
      · refine lv_iconst (v := 0) hx hb zd_M_begins_72 (by decide) ?_
        rw [(show zf_M_begins w14 w15 w16 w17 w20 w21 p1 = (0, 2, w15, 256 * p1, w17, w20, w21) from by rw [zf_M_begins, if_neg c_4, if_pos c_37, if_pos c_61])]
        exact zz_iret hx hb hr hlocks hK hP hD hS zd_M_begins_73 rfl
      · refine lv_aload_n hx hb zd_M_begins_64 rfl (lv_at hl 0 rfl) ?_
        refine lv_iconst (v := (-1)) hx hb zd_M_begins_65 (by decide) ?_
        refine zz_ci (va_runV (As := [.int (-1)]) (rest := []) ⟨hx, hb, hml, hown, htB⟩ (zc_M_ends l dC dI cI cZ cL a0 a1 a2 a3 a4 a5 a6 a7 H.size w0 w1 w2 w3 w4 w5 w6 w7 w8 w9 w10 w11 w12 w13 2 w15 (256 * p1) w17 w18 w19 w20 w21 (-1) ) (cwV 1 htB (zz_gV zk_2d30793a zk_fed514dc zk_ec145e2c zk_91cc3b19 zk_feda7793) rfl rfl rfl ⟨rfl, zh_M_ends⟩ ⟨Nat.le_of_ble_eq_true rfl, Nat.le_of_ble_eq_true rfl⟩) (zz_preV (ci := 5) (q := (zr_M, zF_M, 22)) hP hD hK hE [0, 1, 2, 3, 4, 5, 6, 7] (by decide) rfl rfl rfl) rfl rfl hl.1 rfl (lv_room (Nat.le_of_ble_eq_true rfl)) zd_M_begins_66 ⟨Nat.le_of_ble_eq_true rfl, Nat.le_of_ble_eq_true rfl⟩) hP hD hS hA [0, 1, 2, 3, 4, 5, 6, 7] [] [0, 1, 2, 3, 4, 5, 6, 7] rfl rfl (by decide) (by decide) (by decide) rfl (fun H locs hP hD hS => ?_)
        have hP : va_P (dC, dI) zz_cl (zv_M cI cZ cL a0 a1 a2 a3 a4 a5 a6 a7 w0 w1 w2 w3 w4 w5 w6 w7 w8 w9 w10 w11 w12 w13 ((zf_M_ends 2 (-1)).2) w15 (256 * p1) w17 w18 w19 w20 w21) H := hP
        have hD : va_D A (zv_M cI cZ cL a0 a1 a2 a3 a4 a5 a6 a7 w0 w1 w2 w3 w4 w5 w6 w7 w8 w9 w10 w11 w12 w13 ((zf_M_ends 2 (-1)).2) w15 (256 * p1) w17 w18 w19 w20 w21) := hD
        refine lv_goto (tgt := 73) hx hb zd_M_begins_69 (by decide) ?_
        rw [(show zf_M_begins w14 w15 w16 w17 w20 w21 p1 = ((zf_M_ends 2 (-1)).1, (zf_M_ends 2 (-1)).2, w15, 256 * p1, w17, w20, w21) from by rw [zf_M_begins, if_neg c_4, if_pos c_37, if_neg c_61])]
        exact zz_iret hx hb hr hlocks hK hP hD hS zd_M_begins_73 rfl
  · refine lv_aload_n hx hb zd_M_begins_7 rfl (lv_at hl 0 rfl) ?_
    refine lv_iload_n hx hb zd_M_begins_8 rfl (lv_at hl 1 rfl) ?_
    refine va_put (D := (dC, dI)) (ci := 5) (v := .int p1) (C := zr_M) (T := zF_M) (N := 22) hx hb htB zi_M zT_M zT_M_ok zn_M hown hK hP hD hS 0 rfl rfl 15 (by decide) (htB _ zk_c63d8cf7) (fun _ h9 => h9) rfl (zT_M_ok 15 (by decide)) rfl rfl (Nat.le_of_ble_eq_true rfl) zd_M_begins_9 (fun H locs hP hD hS => ?_)
    have hP : va_P (dC, dI) zz_cl (zv_M cI cZ cL a0 a1 a2 a3 a4 a5 a6 a7 w0 w1 w2 w3 w4 w5 w6 w7 w8 w9 w10 w11 w12 w13 w14 p1 w16 w17 w18 w19 w20 w21) H := hP
    have hD : va_D A (zv_M cI cZ cL a0 a1 a2 a3 a4 a5 a6 a7 w0 w1 w2 w3 w4 w5 w6 w7 w8 w9 w10 w11 w12 w13 w14 p1 w16 w17 w18 w19 w20 w21) := hD
    refine lv_aload_n hx hb zd_M_begins_12 rfl (lv_at hl 0 rfl) ?_
    refine lv_iconst (v := 1) hx hb zd_M_begins_13 (by decide) ?_
    refine va_put (D := (dC, dI)) (ci := 5) (v := .int 1) (C := zr_M) (T := zF_M) (N := 22) hx hb htB zi_M zT_M zT_M_ok zn_M hown hK hP hD hS 0 rfl rfl 14 (by decide) (htB _ zk_6f7d9b7a) (fun _ h9 => h9) rfl (zT_M_ok 14 (by decide)) rfl rfl (Nat.le_of_ble_eq_true rfl) zd_M_begins_14 (fun H locs hP hD hS => ?_)
    have hP : va_P (dC, dI) zz_cl (zv_M cI cZ cL a0 a1 a2 a3 a4 a5 a6 a7 w0 w1 w2 w3 w4 w5 w6 w7 w8 w9 w10 w11 w12 w13 1 p1 w16 w17 w18 w19 w20 w21) H := hP
    have hD : va_D A (zv_M cI cZ cL a0 a1 a2 a3 a4 a5 a6 a7 w0 w1 w2 w3 w4 w5 w6 w7 w8 w9 w10 w11 w12 w13 1 p1 w16 w17 w18 w19 w20 w21) := hD
    refine lv_iload_n hx hb zd_M_begins_17 rfl (lv_at hl 1 rfl) ?_
    refine lv_iconst (v := 3) hx hb zd_M_begins_18 (by decide) ?_
    refine lv_icmp_le (tgt := 30) hx hb zd_M_begins_19 (by decide) (fun c_19 => ?_) (fun c_19 => ?_)
    · refine lv_iconst (v := 0) hx hb zd_M_begins_30 (by decide) ?_
      rw [(show zf_M_begins w14 w15 w16 w17 w20 w21 p1 = (0, 1, p1, w16, w17, w20, w21) from by rw [zf_M_begins, if_pos c_4, if_pos c_19])]
      exact zz_iret hx hb hr hlocks hK hP hD hS zd_M_begins_31 rfl
    · refine lv_aload_n hx hb zd_M_begins_22 rfl (lv_at hl 0 rfl) ?_
      refine lv_iconst (v := (-1)) hx hb zd_M_begins_23 (by decide) ?_
      refine zz_ci (va_runV (As := [.int (-1)]) (rest := []) ⟨hx, hb, hml, hown, htB⟩ (zc_M_ends l dC dI cI cZ cL a0 a1 a2 a3 a4 a5 a6 a7 H.size w0 w1 w2 w3 w4 w5 w6 w7 w8 w9 w10 w11 w12 w13 1 p1 w16 w17 w18 w19 w20 w21 (-1) ) (cwV 1 htB (zz_gV zk_2d30793a zk_fed514dc zk_ec145e2c zk_91cc3b19 zk_feda7793) rfl rfl rfl ⟨rfl, zh_M_ends⟩ ⟨Nat.le_of_ble_eq_true rfl, Nat.le_of_ble_eq_true rfl⟩) (zz_preV (ci := 5) (q := (zr_M, zF_M, 22)) hP hD hK hE [0, 1, 2, 3, 4, 5, 6, 7] (by decide) rfl rfl rfl) rfl rfl hl.1 rfl (lv_room (Nat.le_of_ble_eq_true rfl)) zd_M_begins_24 ⟨Nat.le_of_ble_eq_true rfl, Nat.le_of_ble_eq_true rfl⟩) hP hD hS hA [0, 1, 2, 3, 4, 5, 6, 7] [] [0, 1, 2, 3, 4, 5, 6, 7] rfl rfl (by decide) (by decide) (by decide) rfl (fun H locs hP hD hS => ?_)
      have hP : va_P (dC, dI) zz_cl (zv_M cI cZ cL a0 a1 a2 a3 a4 a5 a6 a7 w0 w1 w2 w3 w4 w5 w6 w7 w8 w9 w10 w11 w12 w13 ((zf_M_ends 1 (-1)).2) p1 w16 w17 w18 w19 w20 w21) H := hP
      have hD : va_D A (zv_M cI cZ cL a0 a1 a2 a3 a4 a5 a6 a7 w0 w1 w2 w3 w4 w5 w6 w7 w8 w9 w10 w11 w12 w13 ((zf_M_ends 1 (-1)).2) p1 w16 w17 w18 w19 w20 w21) := hD
      refine lv_goto (tgt := 31) hx hb zd_M_begins_27 (by decide) ?_
      rw [(show zf_M_begins w14 w15 w16 w17 w20 w21 p1 = ((zf_M_ends 1 (-1)).1, (zf_M_ends 1 (-1)).2, p1, w16, w17, w20, w21) from by rw [zf_M_begins, if_pos c_4, if_neg c_19])]
      exact zz_iret hx hb hr hlocks hK hP hD hS zd_M_begins_31 rfl
set_option maxHeartbeats 4000000 in
set_option maxRecDepth 100000 in
theorem zc_M_read (l : Launch) (dC : Nat → ClassId) (dI : Nat → Nat → Nat) (cI cZ cL : ClassId) (a0 a1 a2 a3 a4 a5 a6 a7 : Nat) (sz : Nat) (w0 : Int32) (w1 : Int32) (w2 : Nat) (w3 : Nat → Int32) (w4 : Nat → Int64) (w5 : Int32) (w6 : Int32) (w7 : Nat) (w8 : Nat → Int64) (w9 : Nat → Int32) (w10 : Nat) (w11 : Nat → Int32) (w12 : Nat → Int32) (w13 : Nat → Int32) (w14 : Int32) (w15 : Int32) (w16 : Int32) (w17 : Int32) (w18 : Int32) (w19 : Int64) (w20 : Int32) (w21 : Int32) (p1 : Int32)  : Met l zy_M_read (zz_ws zy_M_read zb_M_read 7 (some .int)) ({ frames := 3, cells := 0, slots := 0, locals := 62 } : Room) (va_Pc ([.ref a0, .int p1] : List Value) (zz_P (dC, dI) (zz_ty cI cZ cL) sz (zv_M cI cZ cL a0 a1 a2 a3 a4 a5 a6 a7 w0 w1 w2 w3 w4 w5 w6 w7 w8 w9 w10 w11 w12 w13 w14 w15 w16 w17 w18 w19 w20 w21))) (zz_Qi (dC, dI) (zz_ty cI cZ cL) (va_A (zv_M cI cZ cL a0 a1 a2 a3 a4 a5 a6 a7 w0 w1 w2 w3 w4 w5 w6 w7 w8 w9 w10 w11 w12 w13 w14 w15 w16 w17 w18 w19 w20 w21) sz) ((zf_M_read w0 w14 w15 w16 w17 w18 w19 w20 w21 p1).1) (zv_M cI cZ cL a0 a1 a2 a3 a4 a5 a6 a7 ((zf_M_read w0 w14 w15 w16 w17 w18 w19 w20 w21 p1).2.1) w1 w2 w3 w4 w5 w6 w7 w8 w9 w10 w11 w12 w13 ((zf_M_read w0 w14 w15 w16 w17 w18 w19 w20 w21 p1).2.2.1) ((zf_M_read w0 w14 w15 w16 w17 w18 w19 w20 w21 p1).2.2.2.1) ((zf_M_read w0 w14 w15 w16 w17 w18 w19 w20 w21 p1).2.2.2.2.1) ((zf_M_read w0 w14 w15 w16 w17 w18 w19 w20 w21 p1).2.2.2.2.2.1) ((zf_M_read w0 w14 w15 w16 w17 w18 w19 w20 w21 p1).2.2.2.2.2.2.1) ((zf_M_read w0 w14 w15 w16 w17 w18 w19 w20 w21 p1).2.2.2.2.2.2.2.1) ((zf_M_read w0 w14 w15 w16 w17 w18 w19 w20 w21 p1).2.2.2.2.2.2.2.2.1) ((zf_M_read w0 w14 w15 w16 w17 w18 w19 w20 w21 p1).2.2.2.2.2.2.2.2.2))) 0 0 (va_A (zv_M cI cZ cL a0 a1 a2 a3 a4 a5 a6 a7 w0 w1 w2 w3 w4 w5 w6 w7 w8 w9 w10 w11 w12 w13 w14 w15 w16 w17 w18 w19 w20 w21) sz) := by
  refine zz_ofW (Q := fun A => (zz_Qi (dC, dI) (zz_ty cI cZ cL) A ((zf_M_read w0 w14 w15 w16 w17 w18 w19 w20 w21 p1).1) (zv_M cI cZ cL a0 a1 a2 a3 a4 a5 a6 a7 ((zf_M_read w0 w14 w15 w16 w17 w18 w19 w20 w21 p1).2.1) w1 w2 w3 w4 w5 w6 w7 w8 w9 w10 w11 w12 w13 ((zf_M_read w0 w14 w15 w16 w17 w18 w19 w20 w21 p1).2.2.1) ((zf_M_read w0 w14 w15 w16 w17 w18 w19 w20 w21 p1).2.2.2.1) ((zf_M_read w0 w14 w15 w16 w17 w18 w19 w20 w21 p1).2.2.2.2.1) ((zf_M_read w0 w14 w15 w16 w17 w18 w19 w20 w21 p1).2.2.2.2.2.1) ((zf_M_read w0 w14 w15 w16 w17 w18 w19 w20 w21 p1).2.2.2.2.2.2.1) ((zf_M_read w0 w14 w15 w16 w17 w18 w19 w20 w21 p1).2.2.2.2.2.2.2.1) ((zf_M_read w0 w14 w15 w16 w17 w18 w19 w20 w21 p1).2.2.2.2.2.2.2.2.1) ((zf_M_read w0 w14 w15 w16 w17 w18 w19 w20 w21 p1).2.2.2.2.2.2.2.2.2)))) (by decide) (Nat.le_of_ble_eq_true rfl) ?_
  intro p e s m below meth c A C0 _ hA hK hP hD _ ls hl
  obtain ⟨hx, hb, hr, hml, hown, htB, hlocks, hE⟩ := id C0
  have hS : va_S A s.heap s.heap [] := va_S.rf
  have hl : lv_has ls 7 [(0, .ref a0), (1, .int p1)] := hl
  refine lv_aload_n hx hb zd_M_read_0 rfl (lv_at hl 0 rfl) ?_
  refine lv_iconst (v := 0) hx hb zd_M_read_1 (by decide) ?_
  refine va_put (D := (dC, dI)) (ci := 5) (v := .int 0) (C := zr_M) (T := zF_M) (N := 22) hx hb htB zi_M zT_M zT_M_ok zn_M hown hK hP hD hS 0 rfl rfl 0 (by decide) (htB _ zk_d62d4141) (fun _ h9 => h9) rfl (zT_M_ok 0 (by decide)) rfl rfl (Nat.le_of_ble_eq_true rfl) zd_M_read_2 (fun H locs hP hD hS => ?_)
  have hP : va_P (dC, dI) zz_cl (zv_M cI cZ cL a0 a1 a2 a3 a4 a5 a6 a7 0 w1 w2 w3 w4 w5 w6 w7 w8 w9 w10 w11 w12 w13 w14 w15 w16 w17 w18 w19 w20 w21) H := hP
  have hD : va_D A (zv_M cI cZ cL a0 a1 a2 a3 a4 a5 a6 a7 0 w1 w2 w3 w4 w5 w6 w7 w8 w9 w10 w11 w12 w13 w14 w15 w16 w17 w18 w19 w20 w21) := hD
  refine lv_iload_n hx hb zd_M_read_5 rfl (lv_at hl 1 rfl) ?_
  refine lv_sipush (v := 255) hx hb zd_M_read_6 (by decide) ?_
  refine lv_iand hx hb zd_M_read_9 ?_
  refine lv_istore_n (lv' := [(2, .int (p1 &&& 255)), (0, .ref a0), (1, .int p1)]) hx hb zd_M_read_10 rfl hl (by decide) rfl (fun ls hl => ?_)
  refine lv_aload_n hx hb zd_M_read_11 rfl (lv_at hl 1 rfl) ?_
  refine va_get (D := (dC, dI)) (ci := 5) (v := .int w14) (C := zr_M) (T := zF_M) (N := 22) hx hb htB zi_M hown hK hP 0 rfl rfl 14 (by decide) (htB _ zk_6f7d9b7a) (fun _ h9 => h9) rfl zd_M_read_12 ?_
  refine lv_iconst (v := 3) hx hb zd_M_read_15 (by decide) ?_
  refine lv_icmp_ge (tgt := 25) hx hb zd_M_read_16 (by decide) (fun c_16 => ?_) (fun c_16 => ?_)
  · refine lv_aload_n hx hb zd_M_read_25 rfl (lv_at hl 1 rfl) ?_
    refine va_get (D := (dC, dI)) (ci := 5) (v := .int w14) (C := zr_M) (T := zF_M) (N := 22) hx hb htB zi_M hown hK hP 0 rfl rfl 14 (by decide) (htB _ zk_6f7d9b7a) (fun _ h9 => h9) rfl zd_M_read_26 ?_
    refine lv_iconst (v := 3) hx hb zd_M_read_29 (by decide) ?_
    refine lv_isub hx hb zd_M_read_30 ?_
    refine lv_bipush (v := 6) hx hb zd_M_read_31 (by decide) ?_
    refine lv_irem hx hb zd_M_read_33 (by decide) ?_
    refine lv_istore_n (lv' := [(3, .int ((w14 - 3) - (w14 - 3) / 6 * 6)), (2, .int (p1 &&& 255)), (0, .ref a0), (1, .int p1)]) hx hb zd_M_read_34 rfl hl (by decide) rfl (fun ls hl => ?_)
    refine lv_aload_n hx hb zd_M_read_35 rfl (lv_at hl 2 rfl) ?_
    refine lv_dup hx hb zd_M_read_36 rfl ?_
    refine va_get (D := (dC, dI)) (ci := 5) (v := .int w14) (C := zr_M) (T := zF_M) (N := 22) hx hb htB zi_M hown hK hP 0 rfl rfl 14 (by decide) (htB _ zk_6f7d9b7a) (fun _ h9 => h9) rfl zd_M_read_37 ?_
    refine lv_iconst (v := 1) hx hb zd_M_read_40 (by decide) ?_
    refine lv_iadd hx hb zd_M_read_41 ?_
    refine va_put (D := (dC, dI)) (ci := 5) (v := .int (w14 + 1)) (C := zr_M) (T := zF_M) (N := 22) hx hb htB zi_M zT_M zT_M_ok zn_M hown hK hP hD hS 0 rfl rfl 14 (by decide) (htB _ zk_6f7d9b7a) (fun _ h9 => h9) rfl (zT_M_ok 14 (by decide)) rfl rfl (Nat.le_of_ble_eq_true rfl) zd_M_read_42 (fun H locs hP hD hS => ?_)
    have hP : va_P (dC, dI) zz_cl (zv_M cI cZ cL a0 a1 a2 a3 a4 a5 a6 a7 0 w1 w2 w3 w4 w5 w6 w7 w8 w9 w10 w11 w12 w13 (w14 + 1) w15 w16 w17 w18 w19 w20 w21) H := hP
    have hD : va_D A (zv_M cI cZ cL a0 a1 a2 a3 a4 a5 a6 a7 0 w1 w2 w3 w4 w5 w6 w7 w8 w9 w10 w11 w12 w13 (w14 + 1) w15 w16 w17 w18 w19 w20 w21) := hD
    refine lv_iload_n hx hb zd_M_read_45 rfl (lv_at hl 0 rfl) ?_
    refine lv_if_ne (tgt := 82) hx hb zd_M_read_46 (by decide) (fun c_46 => ?_) (fun c_46 => ?_)
    · refine lv_iload_n hx hb zd_M_read_82 rfl (lv_at hl 0 rfl) ?_
      refine lv_iconst (v := 1) hx hb zd_M_read_83 (by decide) ?_
      refine lv_icmp_ne (tgt := 180) hx hb zd_M_read_84 (by decide) (fun c_84 => ?_) (fun c_84 => ?_)
      · refine lv_aload_n hx hb zd_M_read_180 rfl (lv_at hl 2 rfl) ?_
        refine lv_ldc2 (v := 256) hx hb hown (htB _ zk_6f20385e) zd_M_read_181 ?_
        refine lv_aload_n hx hb zd_M_read_184 rfl (lv_at hl 2 rfl) ?_
        refine va_get (D := (dC, dI)) (ci := 5) (v := .long w19) (C := zr_M) (T := zF_M) (N := 22) hx hb htB zi_M hown hK hP 0 rfl rfl 19 (by decide) (htB _ zk_d4862d65) (fun _ h9 => h9) rfl zd_M_read_185 ?_
        refine lv_lmul hx hb zd_M_read_188 ?_
        refine lv_iload_n hx hb zd_M_read_189 rfl (lv_at hl 1 rfl) ?_
        refine lv_i2l hx hb zd_M_read_190 rfl ?_
        refine lv_ladd hx hb zd_M_read_191 ?_
        refine va_put (D := (dC, dI)) (ci := 5) (v := .long ((256 * w19) + ((p1 &&& 255).toInt64))) (C := zr_M) (T := zF_M) (N := 22) hx hb htB zi_M zT_M zT_M_ok zn_M hown hK hP hD hS 0 rfl rfl 19 (by decide) (htB _ zk_d4862d65) (fun _ h9 => h9) rfl (zT_M_ok 19 (by decide)) rfl rfl (Nat.le_of_ble_eq_true rfl) zd_M_read_192 (fun H locs hP hD hS => ?_)
        have hP : va_P (dC, dI) zz_cl (zv_M cI cZ cL a0 a1 a2 a3 a4 a5 a6 a7 0 w1 w2 w3 w4 w5 w6 w7 w8 w9 w10 w11 w12 w13 (w14 + 1) w15 w16 w17 w18 ((256 * w19) + ((p1 &&& 255).toInt64)) w20 w21) H := hP
        have hD : va_D A (zv_M cI cZ cL a0 a1 a2 a3 a4 a5 a6 a7 0 w1 w2 w3 w4 w5 w6 w7 w8 w9 w10 w11 w12 w13 (w14 + 1) w15 w16 w17 w18 ((256 * w19) + ((p1 &&& 255).toInt64)) w20 w21) := hD
        refine lv_iload_n hx hb zd_M_read_195 rfl (lv_at hl 0 rfl) ?_
        refine lv_iconst (v := 5) hx hb zd_M_read_196 (by decide) ?_
        refine lv_icmp_ge (tgt := 202) hx hb zd_M_read_197 (by decide) (fun c_197 => ?_) (fun c_197 => ?_)
        · refine lv_aload_n hx hb zd_M_read_202 rfl (lv_at hl 2 rfl) ?_
          refine va_get (D := (dC, dI)) (ci := 5) (v := .long ((256 * w19) + ((p1 &&& 255).toInt64))) (C := zr_M) (T := zF_M) (N := 22) hx hb htB zi_M hown hK hP 0 rfl rfl 19 (by decide) (htB _ zk_d4862d65) (fun _ h9 => h9) rfl zd_M_read_203 ?_
          refine lv_ldc2 (v := 1000000000) hx hb hown (htB _ zk_37a5971a) zd_M_read_206 ?_
          refine W.lcmp hx hb zd_M_read_209 ?_
          refine lv_if_le (tgt := 219) hx hb zd_M_read_210 (by decide) (fun c_210 => ?_) (fun c_210 => ?_)
          · refine lv_aload_n hx hb zd_M_read_219 rfl (lv_at hl 2 rfl) ?_
            refine va_get (D := (dC, dI)) (ci := 5) (v := .int (w14 + 1)) (C := zr_M) (T := zF_M) (N := 22) hx hb htB zi_M hown hK hP 0 rfl rfl 14 (by decide) (htB _ zk_6f7d9b7a) (fun _ h9 => h9) rfl zd_M_read_220 ?_
            refine lv_iconst (v := 3) hx hb zd_M_read_223 (by decide) ?_
            refine lv_bipush (v := 6) hx hb zd_M_read_224 (by decide) ?_
            refine lv_aload_n hx hb zd_M_read_226 rfl (lv_at hl 2 rfl) ?_
            refine va_get (D := (dC, dI)) (ci := 5) (v := .int w16) (C := zr_M) (T := zF_M) (N := 22) hx hb htB zi_M hown hK hP 0 rfl rfl 16 (by decide) (htB _ zk_9faaf25a) (fun _ h9 => h9) rfl zd_M_read_227 ?_
            refine lv_imul hx hb zd_M_read_230 ?_
            refine lv_iadd hx hb zd_M_read_231 ?_
            refine lv_icmp_ne (tgt := 242) hx hb zd_M_read_232 (by decide) (fun c_232 => ?_) (fun c_232 => ?_)
            · refine lv_iconst (v := 0) hx hb zd_M_read_242 (by decide) ?_
              rw [(show zf_M_read w0 w14 w15 w16 w17 w18 w19 w20 w21 p1 = (0, 0, w14 + 1, w15, w16, w17, w18, (256 * w19) + ((p1 &&& 255).toInt64), w20, w21) from by rw [zf_M_read, if_pos c_16, if_neg c_46, if_neg c_84, if_pos c_197, if_pos c_210, if_neg c_232])]
              exact zz_iret hx hb hr hlocks hK hP hD hS zd_M_read_243 rfl
            · refine lv_aload_n hx hb zd_M_read_235 rfl (lv_at hl 2 rfl) ?_
              refine zz_ci (va_runV (As := []) (rest := []) ⟨hx, hb, hml, hown, htB⟩ (zc_M_whole l dC dI cI cZ cL a0 a1 a2 a3 a4 a5 a6 a7 H.size 0 w1 w2 w3 w4 w5 w6 w7 w8 w9 w10 w11 w12 w13 (w14 + 1) w15 w16 w17 w18 ((256 * w19) + ((p1 &&& 255).toInt64)) w20 w21  ) (cwV 0 htB (zz_gV zk_1aa1ae7f zk_9452f99b zk_d745f0f1 zk_91cc3b19 zk_534b3ca9) rfl rfl rfl ⟨rfl, zh_M_whole⟩ ⟨Nat.le_of_ble_eq_true rfl, Nat.le_of_ble_eq_true rfl⟩) (zz_preV (ci := 5) (q := (zr_M, zF_M, 22)) hP hD hK hE [0, 1, 2, 3, 4, 5, 6, 7] (by decide) rfl rfl rfl) rfl rfl hl.1 rfl (lv_room (Nat.le_of_ble_eq_true rfl)) zd_M_read_236 ⟨Nat.le_of_ble_eq_true rfl, Nat.le_of_ble_eq_true rfl⟩) hP hD hS hA [0, 1, 2, 3, 4, 5, 6, 7] [] [0, 1, 2, 3, 4, 5, 6, 7] rfl rfl (by decide) (by decide) (by decide) rfl (fun H locs hP hD hS => ?_)
              have hP : va_P (dC, dI) zz_cl (zv_M cI cZ cL a0 a1 a2 a3 a4 a5 a6 a7 0 w1 w2 w3 w4 w5 w6 w7 w8 w9 w10 w11 w12 w13 ((zf_M_whole (w14 + 1) w16 w20 w21).2.1) w15 w16 w17 w18 ((256 * w19) + ((p1 &&& 255).toInt64)) ((zf_M_whole (w14 + 1) w16 w20 w21).2.2.1) ((zf_M_whole (w14 + 1) w16 w20 w21).2.2.2)) H := hP
              have hD : va_D A (zv_M cI cZ cL a0 a1 a2 a3 a4 a5 a6 a7 0 w1 w2 w3 w4 w5 w6 w7 w8 w9 w10 w11 w12 w13 ((zf_M_whole (w14 + 1) w16 w20 w21).2.1) w15 w16 w17 w18 ((256 * w19) + ((p1 &&& 255).toInt64)) ((zf_M_whole (w14 + 1) w16 w20 w21).2.2.1) ((zf_M_whole (w14 + 1) w16 w20 w21).2.2.2)) := hD
              refine lv_goto (tgt := 243) hx hb zd_M_read_239 (by decide) ?_
              rw [(show zf_M_read w0 w14 w15 w16 w17 w18 w19 w20 w21 p1 = ((zf_M_whole (w14 + 1) w16 w20 w21).1, 0, (zf_M_whole (w14 + 1) w16 w20 w21).2.1, w15, w16, w17, w18, (256 * w19) + ((p1 &&& 255).toInt64), (zf_M_whole (w14 + 1) w16 w20 w21).2.2.1, (zf_M_whole (w14 + 1) w16 w20 w21).2.2.2) from by rw [zf_M_read, if_pos c_16, if_neg c_46, if_neg c_84, if_pos c_197, if_pos c_210, if_pos c_232])]
              exact zz_iret hx hb hr hlocks hK hP hD hS zd_M_read_243 rfl
          · refine lv_aload_n hx hb zd_M_read_213 rfl (lv_at hl 2 rfl) ?_
            refine lv_iconst (v := (-1)) hx hb zd_M_read_214 (by decide) ?_
            refine zz_ci (va_runV (As := [.int (-1)]) (rest := []) ⟨hx, hb, hml, hown, htB⟩ (zc_M_ends l dC dI cI cZ cL a0 a1 a2 a3 a4 a5 a6 a7 H.size 0 w1 w2 w3 w4 w5 w6 w7 w8 w9 w10 w11 w12 w13 (w14 + 1) w15 w16 w17 w18 ((256 * w19) + ((p1 &&& 255).toInt64)) w20 w21 (-1) ) (cwV 1 htB (zz_gV zk_2d30793a zk_fed514dc zk_ec145e2c zk_91cc3b19 zk_feda7793) rfl rfl rfl ⟨rfl, zh_M_ends⟩ ⟨Nat.le_of_ble_eq_true rfl, Nat.le_of_ble_eq_true rfl⟩) (zz_preV (ci := 5) (q := (zr_M, zF_M, 22)) hP hD hK hE [0, 1, 2, 3, 4, 5, 6, 7] (by decide) rfl rfl rfl) rfl rfl hl.1 rfl (lv_room (Nat.le_of_ble_eq_true rfl)) zd_M_read_215 ⟨Nat.le_of_ble_eq_true rfl, Nat.le_of_ble_eq_true rfl⟩) hP hD hS hA [0, 1, 2, 3, 4, 5, 6, 7] [] [0, 1, 2, 3, 4, 5, 6, 7] rfl rfl (by decide) (by decide) (by decide) rfl (fun H locs hP hD hS => ?_)
            have hP : va_P (dC, dI) zz_cl (zv_M cI cZ cL a0 a1 a2 a3 a4 a5 a6 a7 0 w1 w2 w3 w4 w5 w6 w7 w8 w9 w10 w11 w12 w13 ((zf_M_ends (w14 + 1) (-1)).2) w15 w16 w17 w18 ((256 * w19) + ((p1 &&& 255).toInt64)) w20 w21) H := hP
            have hD : va_D A (zv_M cI cZ cL a0 a1 a2 a3 a4 a5 a6 a7 0 w1 w2 w3 w4 w5 w6 w7 w8 w9 w10 w11 w12 w13 ((zf_M_ends (w14 + 1) (-1)).2) w15 w16 w17 w18 ((256 * w19) + ((p1 &&& 255).toInt64)) w20 w21) := hD
            rw [(show zf_M_read w0 w14 w15 w16 w17 w18 w19 w20 w21 p1 = ((zf_M_ends (w14 + 1) (-1)).1, 0, (zf_M_ends (w14 + 1) (-1)).2, w15, w16, w17, w18, (256 * w19) + ((p1 &&& 255).toInt64), w20, w21) from by rw [zf_M_read, if_pos c_16, if_neg c_46, if_neg c_84, if_pos c_197, if_neg c_210])]
            exact zz_iret hx hb hr hlocks hK hP hD hS zd_M_read_218 rfl
        · refine lv_iconst (v := 0) hx hb zd_M_read_200 (by decide) ?_
          rw [(show zf_M_read w0 w14 w15 w16 w17 w18 w19 w20 w21 p1 = (0, 0, w14 + 1, w15, w16, w17, w18, (256 * w19) + ((p1 &&& 255).toInt64), w20, w21) from by rw [zf_M_read, if_pos c_16, if_neg c_46, if_neg c_84, if_neg c_197])]
          exact zz_iret hx hb hr hlocks hK hP hD hS zd_M_read_201 rfl
      · refine lv_aload_n hx hb zd_M_read_87 rfl (lv_at hl 2 rfl) ?_
        refine va_get (D := (dC, dI)) (ci := 5) (v := .int w18) (C := zr_M) (T := zF_M) (N := 22) hx hb htB zi_M hown hK hP 0 rfl rfl 18 (by decide) (htB _ zk_54963032) (fun _ h9 => h9) rfl zd_M_read_88 ?_
        refine lv_bipush (v := 10) hx hb zd_M_read_91 (by decide) ?_
        refine lv_icmp_ge (tgt := 108) hx hb zd_M_read_93 (by decide) (fun c_93 => ?_) (fun c_93 => ?_)
        · refine lv_iload_n hx hb zd_M_read_108 rfl (lv_at hl 1 rfl) ?_
          refine lv_i2l hx hb zd_M_read_109 rfl ?_
          refine lv_lconst (v := 1) hx hb zd_M_read_110 (by decide) ?_
          refine lv_ldc2 (v := 30) hx hb hown (htB _ zk_a61128bd) zd_M_read_111 ?_
          refine zz_ki (va_runS (As := [.long ((p1 &&& 255).toInt64), .long 1, .long 30]) (rest := []) ⟨hx, hb, hml, hown, htB⟩ (zc_M_in l dC dI cI cZ cL  H.size  ((p1 &&& 255).toInt64) 1 30 ) (va_cwS 3 htB (zz_gS zk_3b1d8f54 zk_5de93d87 zk_91cc3b19 zk_d5048d4e) rfl rfl rfl zh_M_in ⟨Nat.le_of_ble_eq_true rfl, Nat.le_of_ble_eq_true rfl⟩) (zz_preS hP hD hK hE [] (by decide) rfl) rfl rfl hl.1 rfl (lv_room (Nat.le_of_ble_eq_true rfl)) zd_M_read_114 ⟨Nat.le_of_ble_eq_true rfl, Nat.le_of_ble_eq_true rfl⟩) ?_
          refine lv_istore (lv' := [(4, .int (zf_M_in ((p1 &&& 255).toInt64) 1 30)), (3, .int ((w14 - 3) - (w14 - 3) / 6 * 6)), (2, .int (p1 &&& 255)), (0, .ref a0), (1, .int p1)]) hx hb zd_M_read_117 hl (by decide) rfl (fun ls hl => ?_)
          refine lv_bipush (v := 10) hx hb zd_M_read_119 (by decide) ?_
          refine lv_iload_n hx hb zd_M_read_121 rfl (lv_at hl 2 rfl) ?_
          refine lv_imul hx hb zd_M_read_122 ?_
          refine lv_aload_n hx hb zd_M_read_123 rfl (lv_at hl 3 rfl) ?_
          refine va_get (D := (dC, dI)) (ci := 5) (v := .int w18) (C := zr_M) (T := zF_M) (N := 22) hx hb htB zi_M hown hK hP 0 rfl rfl 18 (by decide) (htB _ zk_54963032) (fun _ h9 => h9) rfl zd_M_read_124 ?_
          refine lv_bipush (v := 10) hx hb zd_M_read_127 (by decide) ?_
          refine lv_irem hx hb zd_M_read_129 (by decide) ?_
          refine lv_iadd hx hb zd_M_read_130 ?_
          refine lv_istore (lv' := [(5, .int ((10 * (p1 &&& 255)) + (w18 - w18 / 10 * 10))), (4, .int (zf_M_in ((p1 &&& 255).toInt64) 1 30)), (3, .int ((w14 - 3) - (w14 - 3) / 6 * 6)), (2, .int (p1 &&& 255)), (0, .ref a0), (1, .int p1)]) hx hb zd_M_read_131 hl (by decide) rfl (fun ls hl => ?_)
          refine lv_iload hx hb zd_M_read_133 (lv_at hl 0 rfl) ?_
          refine lv_aload_n hx hb zd_M_read_135 rfl (lv_at hl 4 rfl) ?_
          refine va_get (D := (dC, dI)) (ci := 5) (v := .int w17) (C := zr_M) (T := zF_M) (N := 22) hx hb htB zi_M hown hK hP 0 rfl rfl 17 (by decide) (htB _ zk_6ea1be67) (fun _ h9 => h9) rfl zd_M_read_136 ?_
          refine lv_icmp_le (tgt := 146) hx hb zd_M_read_139 (by decide) (fun c_139 => ?_) (fun c_139 => ?_)
          · refine lv_iconst (v := 0) hx hb zd_M_read_146 (by decide) ?_
            refine lv_istore (lv' := [(6, .int 0), (5, .int ((10 * (p1 &&& 255)) + (w18 - w18 / 10 * 10))), (4, .int (zf_M_in ((p1 &&& 255).toInt64) 1 30)), (3, .int ((w14 - 3) - (w14 - 3) / 6 * 6)), (2, .int (p1 &&& 255)), (0, .ref a0), (1, .int p1)]) hx hb zd_M_read_147 hl (by decide) rfl (fun ls hl => ?_)
            refine lv_aload_n hx hb zd_M_read_149 rfl (lv_at hl 5 rfl) ?_
            refine lv_iload hx hb zd_M_read_150 (lv_at hl 1 rfl) ?_
            refine va_put (D := (dC, dI)) (ci := 5) (v := .int ((10 * (p1 &&& 255)) + (w18 - w18 / 10 * 10))) (C := zr_M) (T := zF_M) (N := 22) hx hb htB zi_M zT_M zT_M_ok zn_M hown hK hP hD hS 0 rfl rfl 17 (by decide) (htB _ zk_6ea1be67) (fun _ h9 => h9) rfl (zT_M_ok 17 (by decide)) rfl rfl (Nat.le_of_ble_eq_true rfl) zd_M_read_152 (fun H locs hP hD hS => ?_)
            have hP : va_P (dC, dI) zz_cl (zv_M cI cZ cL a0 a1 a2 a3 a4 a5 a6 a7 0 w1 w2 w3 w4 w5 w6 w7 w8 w9 w10 w11 w12 w13 (w14 + 1) w15 w16 ((10 * (p1 &&& 255)) + (w18 - w18 / 10 * 10)) w18 w19 w20 w21) H := hP
            have hD : va_D A (zv_M cI cZ cL a0 a1 a2 a3 a4 a5 a6 a7 0 w1 w2 w3 w4 w5 w6 w7 w8 w9 w10 w11 w12 w13 (w14 + 1) w15 w16 ((10 * (p1 &&& 255)) + (w18 - w18 / 10 * 10)) w18 w19 w20 w21) := hD
            refine lv_aload_n hx hb zd_M_read_155 rfl (lv_at hl 5 rfl) ?_
            refine lv_lconst (v := 0) hx hb zd_M_read_156 (by decide) ?_
            refine va_put (D := (dC, dI)) (ci := 5) (v := .long 0) (C := zr_M) (T := zF_M) (N := 22) hx hb htB zi_M zT_M zT_M_ok zn_M hown hK hP hD hS 0 rfl rfl 19 (by decide) (htB _ zk_d4862d65) (fun _ h9 => h9) rfl (zT_M_ok 19 (by decide)) rfl rfl (Nat.le_of_ble_eq_true rfl) zd_M_read_157 (fun H locs hP hD hS => ?_)
            have hP : va_P (dC, dI) zz_cl (zv_M cI cZ cL a0 a1 a2 a3 a4 a5 a6 a7 0 w1 w2 w3 w4 w5 w6 w7 w8 w9 w10 w11 w12 w13 (w14 + 1) w15 w16 ((10 * (p1 &&& 255)) + (w18 - w18 / 10 * 10)) w18 0 w20 w21) H := hP
            have hD : va_D A (zv_M cI cZ cL a0 a1 a2 a3 a4 a5 a6 a7 0 w1 w2 w3 w4 w5 w6 w7 w8 w9 w10 w11 w12 w13 (w14 + 1) w15 w16 ((10 * (p1 &&& 255)) + (w18 - w18 / 10 * 10)) w18 0 w20 w21) := hD
            refine lv_iload hx hb zd_M_read_160 (lv_at hl 2 rfl) ?_
            refine lv_if_eq (tgt := 174) hx hb zd_M_read_162 (by decide) (fun c_162 => ?_) (fun c_162 => ?_)
            · refine lv_aload_n hx hb zd_M_read_174 rfl (lv_at hl 5 rfl) ?_
              refine lv_iconst (v := (-1)) hx hb zd_M_read_175 (by decide) ?_
              refine zz_ci (va_runV (As := [.int (-1)]) (rest := []) ⟨hx, hb, hml, hown, htB⟩ (zc_M_ends l dC dI cI cZ cL a0 a1 a2 a3 a4 a5 a6 a7 H.size 0 w1 w2 w3 w4 w5 w6 w7 w8 w9 w10 w11 w12 w13 (w14 + 1) w15 w16 ((10 * (p1 &&& 255)) + (w18 - w18 / 10 * 10)) w18 0 w20 w21 (-1) ) (cwV 1 htB (zz_gV zk_2d30793a zk_fed514dc zk_ec145e2c zk_91cc3b19 zk_feda7793) rfl rfl rfl ⟨rfl, zh_M_ends⟩ ⟨Nat.le_of_ble_eq_true rfl, Nat.le_of_ble_eq_true rfl⟩) (zz_preV (ci := 5) (q := (zr_M, zF_M, 22)) hP hD hK hE [0, 1, 2, 3, 4, 5, 6, 7] (by decide) rfl rfl rfl) rfl rfl hl.1 rfl (lv_room (Nat.le_of_ble_eq_true rfl)) zd_M_read_176 ⟨Nat.le_of_ble_eq_true rfl, Nat.le_of_ble_eq_true rfl⟩) hP hD hS hA [0, 1, 2, 3, 4, 5, 6, 7] [] [0, 1, 2, 3, 4, 5, 6, 7] rfl rfl (by decide) (by decide) (by decide) rfl (fun H locs hP hD hS => ?_)
              have hP : va_P (dC, dI) zz_cl (zv_M cI cZ cL a0 a1 a2 a3 a4 a5 a6 a7 0 w1 w2 w3 w4 w5 w6 w7 w8 w9 w10 w11 w12 w13 ((zf_M_ends (w14 + 1) (-1)).2) w15 w16 ((10 * (p1 &&& 255)) + (w18 - w18 / 10 * 10)) w18 0 w20 w21) H := hP
              have hD : va_D A (zv_M cI cZ cL a0 a1 a2 a3 a4 a5 a6 a7 0 w1 w2 w3 w4 w5 w6 w7 w8 w9 w10 w11 w12 w13 ((zf_M_ends (w14 + 1) (-1)).2) w15 w16 ((10 * (p1 &&& 255)) + (w18 - w18 / 10 * 10)) w18 0 w20 w21) := hD
              rw [(show zf_M_read w0 w14 w15 w16 w17 w18 w19 w20 w21 p1 = ((zf_M_ends (w14 + 1) (-1)).1, 0, (zf_M_ends (w14 + 1) (-1)).2, w15, w16, (10 * (p1 &&& 255)) + (w18 - w18 / 10 * 10), w18, 0, w20, w21) from by rw [zf_M_read, if_pos c_16, if_neg c_46, if_pos c_84, if_pos c_93, if_pos c_139, if_pos c_162])]
              exact zz_iret hx hb hr hlocks hK hP hD hS zd_M_read_179 rfl
            · refine lv_iload hx hb zd_M_read_165 (lv_at hl 0 rfl) ?_
              refine lv_if_eq (tgt := 174) hx hb zd_M_read_167 (by decide) (fun _ => ?_) (fun c_ => absurd (by decide) c_)
              refine lv_aload_n hx hb zd_M_read_174 rfl (lv_at hl 5 rfl) ?_
              refine lv_iconst (v := (-1)) hx hb zd_M_read_175 (by decide) ?_
              refine zz_ci (va_runV (As := [.int (-1)]) (rest := []) ⟨hx, hb, hml, hown, htB⟩ (zc_M_ends l dC dI cI cZ cL a0 a1 a2 a3 a4 a5 a6 a7 H.size 0 w1 w2 w3 w4 w5 w6 w7 w8 w9 w10 w11 w12 w13 (w14 + 1) w15 w16 ((10 * (p1 &&& 255)) + (w18 - w18 / 10 * 10)) w18 0 w20 w21 (-1) ) (cwV 1 htB (zz_gV zk_2d30793a zk_fed514dc zk_ec145e2c zk_91cc3b19 zk_feda7793) rfl rfl rfl ⟨rfl, zh_M_ends⟩ ⟨Nat.le_of_ble_eq_true rfl, Nat.le_of_ble_eq_true rfl⟩) (zz_preV (ci := 5) (q := (zr_M, zF_M, 22)) hP hD hK hE [0, 1, 2, 3, 4, 5, 6, 7] (by decide) rfl rfl rfl) rfl rfl hl.1 rfl (lv_room (Nat.le_of_ble_eq_true rfl)) zd_M_read_176 ⟨Nat.le_of_ble_eq_true rfl, Nat.le_of_ble_eq_true rfl⟩) hP hD hS hA [0, 1, 2, 3, 4, 5, 6, 7] [] [0, 1, 2, 3, 4, 5, 6, 7] rfl rfl (by decide) (by decide) (by decide) rfl (fun H locs hP hD hS => ?_)
              have hP : va_P (dC, dI) zz_cl (zv_M cI cZ cL a0 a1 a2 a3 a4 a5 a6 a7 0 w1 w2 w3 w4 w5 w6 w7 w8 w9 w10 w11 w12 w13 ((zf_M_ends (w14 + 1) (-1)).2) w15 w16 ((10 * (p1 &&& 255)) + (w18 - w18 / 10 * 10)) w18 0 w20 w21) H := hP
              have hD : va_D A (zv_M cI cZ cL a0 a1 a2 a3 a4 a5 a6 a7 0 w1 w2 w3 w4 w5 w6 w7 w8 w9 w10 w11 w12 w13 ((zf_M_ends (w14 + 1) (-1)).2) w15 w16 ((10 * (p1 &&& 255)) + (w18 - w18 / 10 * 10)) w18 0 w20 w21) := hD
              rw [(show zf_M_read w0 w14 w15 w16 w17 w18 w19 w20 w21 p1 = ((zf_M_ends (w14 + 1) (-1)).1, 0, (zf_M_ends (w14 + 1) (-1)).2, w15, w16, (10 * (p1 &&& 255)) + (w18 - w18 / 10 * 10), w18, 0, w20, w21) from by rw [zf_M_read, if_pos c_16, if_neg c_46, if_pos c_84, if_pos c_93, if_pos c_139, if_neg c_162])]
              exact zz_iret hx hb hr hlocks hK hP hD hS zd_M_read_179 rfl
          · refine lv_iconst (v := 1) hx hb zd_M_read_142 (by decide) ?_
            refine lv_goto (tgt := 147) hx hb zd_M_read_143 (by decide) ?_
            refine lv_istore (lv' := [(6, .int 1), (5, .int ((10 * (p1 &&& 255)) + (w18 - w18 / 10 * 10))), (4, .int (zf_M_in ((p1 &&& 255).toInt64) 1 30)), (3, .int ((w14 - 3) - (w14 - 3) / 6 * 6)), (2, .int (p1 &&& 255)), (0, .ref a0), (1, .int p1)]) hx hb zd_M_read_147 hl (by decide) rfl (fun ls hl => ?_)
            refine lv_aload_n hx hb zd_M_read_149 rfl (lv_at hl 5 rfl) ?_
            refine lv_iload hx hb zd_M_read_150 (lv_at hl 1 rfl) ?_
            refine va_put (D := (dC, dI)) (ci := 5) (v := .int ((10 * (p1 &&& 255)) + (w18 - w18 / 10 * 10))) (C := zr_M) (T := zF_M) (N := 22) hx hb htB zi_M zT_M zT_M_ok zn_M hown hK hP hD hS 0 rfl rfl 17 (by decide) (htB _ zk_6ea1be67) (fun _ h9 => h9) rfl (zT_M_ok 17 (by decide)) rfl rfl (Nat.le_of_ble_eq_true rfl) zd_M_read_152 (fun H locs hP hD hS => ?_)
            have hP : va_P (dC, dI) zz_cl (zv_M cI cZ cL a0 a1 a2 a3 a4 a5 a6 a7 0 w1 w2 w3 w4 w5 w6 w7 w8 w9 w10 w11 w12 w13 (w14 + 1) w15 w16 ((10 * (p1 &&& 255)) + (w18 - w18 / 10 * 10)) w18 w19 w20 w21) H := hP
            have hD : va_D A (zv_M cI cZ cL a0 a1 a2 a3 a4 a5 a6 a7 0 w1 w2 w3 w4 w5 w6 w7 w8 w9 w10 w11 w12 w13 (w14 + 1) w15 w16 ((10 * (p1 &&& 255)) + (w18 - w18 / 10 * 10)) w18 w19 w20 w21) := hD
            refine lv_aload_n hx hb zd_M_read_155 rfl (lv_at hl 5 rfl) ?_
            refine lv_lconst (v := 0) hx hb zd_M_read_156 (by decide) ?_
            refine va_put (D := (dC, dI)) (ci := 5) (v := .long 0) (C := zr_M) (T := zF_M) (N := 22) hx hb htB zi_M zT_M zT_M_ok zn_M hown hK hP hD hS 0 rfl rfl 19 (by decide) (htB _ zk_d4862d65) (fun _ h9 => h9) rfl (zT_M_ok 19 (by decide)) rfl rfl (Nat.le_of_ble_eq_true rfl) zd_M_read_157 (fun H locs hP hD hS => ?_)
            have hP : va_P (dC, dI) zz_cl (zv_M cI cZ cL a0 a1 a2 a3 a4 a5 a6 a7 0 w1 w2 w3 w4 w5 w6 w7 w8 w9 w10 w11 w12 w13 (w14 + 1) w15 w16 ((10 * (p1 &&& 255)) + (w18 - w18 / 10 * 10)) w18 0 w20 w21) H := hP
            have hD : va_D A (zv_M cI cZ cL a0 a1 a2 a3 a4 a5 a6 a7 0 w1 w2 w3 w4 w5 w6 w7 w8 w9 w10 w11 w12 w13 (w14 + 1) w15 w16 ((10 * (p1 &&& 255)) + (w18 - w18 / 10 * 10)) w18 0 w20 w21) := hD
            refine lv_iload hx hb zd_M_read_160 (lv_at hl 2 rfl) ?_
            refine lv_if_eq (tgt := 174) hx hb zd_M_read_162 (by decide) (fun c_162 => ?_) (fun c_162 => ?_)
            · refine lv_aload_n hx hb zd_M_read_174 rfl (lv_at hl 5 rfl) ?_
              refine lv_iconst (v := (-1)) hx hb zd_M_read_175 (by decide) ?_
              refine zz_ci (va_runV (As := [.int (-1)]) (rest := []) ⟨hx, hb, hml, hown, htB⟩ (zc_M_ends l dC dI cI cZ cL a0 a1 a2 a3 a4 a5 a6 a7 H.size 0 w1 w2 w3 w4 w5 w6 w7 w8 w9 w10 w11 w12 w13 (w14 + 1) w15 w16 ((10 * (p1 &&& 255)) + (w18 - w18 / 10 * 10)) w18 0 w20 w21 (-1) ) (cwV 1 htB (zz_gV zk_2d30793a zk_fed514dc zk_ec145e2c zk_91cc3b19 zk_feda7793) rfl rfl rfl ⟨rfl, zh_M_ends⟩ ⟨Nat.le_of_ble_eq_true rfl, Nat.le_of_ble_eq_true rfl⟩) (zz_preV (ci := 5) (q := (zr_M, zF_M, 22)) hP hD hK hE [0, 1, 2, 3, 4, 5, 6, 7] (by decide) rfl rfl rfl) rfl rfl hl.1 rfl (lv_room (Nat.le_of_ble_eq_true rfl)) zd_M_read_176 ⟨Nat.le_of_ble_eq_true rfl, Nat.le_of_ble_eq_true rfl⟩) hP hD hS hA [0, 1, 2, 3, 4, 5, 6, 7] [] [0, 1, 2, 3, 4, 5, 6, 7] rfl rfl (by decide) (by decide) (by decide) rfl (fun H locs hP hD hS => ?_)
              have hP : va_P (dC, dI) zz_cl (zv_M cI cZ cL a0 a1 a2 a3 a4 a5 a6 a7 0 w1 w2 w3 w4 w5 w6 w7 w8 w9 w10 w11 w12 w13 ((zf_M_ends (w14 + 1) (-1)).2) w15 w16 ((10 * (p1 &&& 255)) + (w18 - w18 / 10 * 10)) w18 0 w20 w21) H := hP
              have hD : va_D A (zv_M cI cZ cL a0 a1 a2 a3 a4 a5 a6 a7 0 w1 w2 w3 w4 w5 w6 w7 w8 w9 w10 w11 w12 w13 ((zf_M_ends (w14 + 1) (-1)).2) w15 w16 ((10 * (p1 &&& 255)) + (w18 - w18 / 10 * 10)) w18 0 w20 w21) := hD
              rw [(show zf_M_read w0 w14 w15 w16 w17 w18 w19 w20 w21 p1 = ((zf_M_ends (w14 + 1) (-1)).1, 0, (zf_M_ends (w14 + 1) (-1)).2, w15, w16, (10 * (p1 &&& 255)) + (w18 - w18 / 10 * 10), w18, 0, w20, w21) from by rw [zf_M_read, if_pos c_16, if_neg c_46, if_pos c_84, if_pos c_93, if_neg c_139, if_pos c_162])]
              exact zz_iret hx hb hr hlocks hK hP hD hS zd_M_read_179 rfl
            · refine lv_iload hx hb zd_M_read_165 (lv_at hl 0 rfl) ?_
              refine lv_if_eq (tgt := 174) hx hb zd_M_read_167 (by decide) (fun c_ => absurd c_ (by decide)) (fun _ => ?_)
              refine lv_iconst (v := 0) hx hb zd_M_read_170 (by decide) ?_
              refine lv_goto (tgt := 179) hx hb zd_M_read_171 (by decide) ?_
              rw [(show zf_M_read w0 w14 w15 w16 w17 w18 w19 w20 w21 p1 = (0, 0, w14 + 1, w15, w16, (10 * (p1 &&& 255)) + (w18 - w18 / 10 * 10), w18, 0, w20, w21) from by rw [zf_M_read, if_pos c_16, if_neg c_46, if_pos c_84, if_pos c_93, if_neg c_139, if_neg c_162])]
              exact zz_iret hx hb hr hlocks hK hP hD hS zd_M_read_179 rfl
        · refine lv_iload_n hx hb zd_M_read_96 rfl (lv_at hl 1 rfl) ?_
          refine lv_if_ne (tgt := 104) hx hb zd_M_read_97 (by decide) (fun c_97 => ?_) (fun c_97 => ?_)
          · refine lv_iconst (v := 0) hx hb zd_M_read_104 (by decide) ?_
            refine lv_goto (tgt := 117) hx hb zd_M_read_105 (by decide) ?_
            refine lv_istore (lv' := [(4, .int 0), (3, .int ((w14 - 3) - (w14 - 3) / 6 * 6)), (2, .int (p1 &&& 255)), (0, .ref a0), (1, .int p1)]) hx hb zd_M_read_117 hl (by decide) rfl (fun ls hl => ?_)
            refine lv_bipush (v := 10) hx hb zd_M_read_119 (by decide) ?_
            refine lv_iload_n hx hb zd_M_read_121 rfl (lv_at hl 2 rfl) ?_
            refine lv_imul hx hb zd_M_read_122 ?_
            refine lv_aload_n hx hb zd_M_read_123 rfl (lv_at hl 3 rfl) ?_
            refine va_get (D := (dC, dI)) (ci := 5) (v := .int w18) (C := zr_M) (T := zF_M) (N := 22) hx hb htB zi_M hown hK hP 0 rfl rfl 18 (by decide) (htB _ zk_54963032) (fun _ h9 => h9) rfl zd_M_read_124 ?_
            refine lv_bipush (v := 10) hx hb zd_M_read_127 (by decide) ?_
            refine lv_irem hx hb zd_M_read_129 (by decide) ?_
            refine lv_iadd hx hb zd_M_read_130 ?_
            refine lv_istore (lv' := [(5, .int ((10 * (p1 &&& 255)) + (w18 - w18 / 10 * 10))), (4, .int 0), (3, .int ((w14 - 3) - (w14 - 3) / 6 * 6)), (2, .int (p1 &&& 255)), (0, .ref a0), (1, .int p1)]) hx hb zd_M_read_131 hl (by decide) rfl (fun ls hl => ?_)
            refine lv_iload hx hb zd_M_read_133 (lv_at hl 0 rfl) ?_
            refine lv_aload_n hx hb zd_M_read_135 rfl (lv_at hl 4 rfl) ?_
            refine va_get (D := (dC, dI)) (ci := 5) (v := .int w17) (C := zr_M) (T := zF_M) (N := 22) hx hb htB zi_M hown hK hP 0 rfl rfl 17 (by decide) (htB _ zk_6ea1be67) (fun _ h9 => h9) rfl zd_M_read_136 ?_
            refine lv_icmp_le (tgt := 146) hx hb zd_M_read_139 (by decide) (fun c_139 => ?_) (fun c_139 => ?_)
            · refine lv_iconst (v := 0) hx hb zd_M_read_146 (by decide) ?_
              refine lv_istore (lv' := [(6, .int 0), (5, .int ((10 * (p1 &&& 255)) + (w18 - w18 / 10 * 10))), (4, .int 0), (3, .int ((w14 - 3) - (w14 - 3) / 6 * 6)), (2, .int (p1 &&& 255)), (0, .ref a0), (1, .int p1)]) hx hb zd_M_read_147 hl (by decide) rfl (fun ls hl => ?_)
              refine lv_aload_n hx hb zd_M_read_149 rfl (lv_at hl 5 rfl) ?_
              refine lv_iload hx hb zd_M_read_150 (lv_at hl 1 rfl) ?_
              refine va_put (D := (dC, dI)) (ci := 5) (v := .int ((10 * (p1 &&& 255)) + (w18 - w18 / 10 * 10))) (C := zr_M) (T := zF_M) (N := 22) hx hb htB zi_M zT_M zT_M_ok zn_M hown hK hP hD hS 0 rfl rfl 17 (by decide) (htB _ zk_6ea1be67) (fun _ h9 => h9) rfl (zT_M_ok 17 (by decide)) rfl rfl (Nat.le_of_ble_eq_true rfl) zd_M_read_152 (fun H locs hP hD hS => ?_)
              have hP : va_P (dC, dI) zz_cl (zv_M cI cZ cL a0 a1 a2 a3 a4 a5 a6 a7 0 w1 w2 w3 w4 w5 w6 w7 w8 w9 w10 w11 w12 w13 (w14 + 1) w15 w16 ((10 * (p1 &&& 255)) + (w18 - w18 / 10 * 10)) w18 w19 w20 w21) H := hP
              have hD : va_D A (zv_M cI cZ cL a0 a1 a2 a3 a4 a5 a6 a7 0 w1 w2 w3 w4 w5 w6 w7 w8 w9 w10 w11 w12 w13 (w14 + 1) w15 w16 ((10 * (p1 &&& 255)) + (w18 - w18 / 10 * 10)) w18 w19 w20 w21) := hD
              refine lv_aload_n hx hb zd_M_read_155 rfl (lv_at hl 5 rfl) ?_
              refine lv_lconst (v := 0) hx hb zd_M_read_156 (by decide) ?_
              refine va_put (D := (dC, dI)) (ci := 5) (v := .long 0) (C := zr_M) (T := zF_M) (N := 22) hx hb htB zi_M zT_M zT_M_ok zn_M hown hK hP hD hS 0 rfl rfl 19 (by decide) (htB _ zk_d4862d65) (fun _ h9 => h9) rfl (zT_M_ok 19 (by decide)) rfl rfl (Nat.le_of_ble_eq_true rfl) zd_M_read_157 (fun H locs hP hD hS => ?_)
              have hP : va_P (dC, dI) zz_cl (zv_M cI cZ cL a0 a1 a2 a3 a4 a5 a6 a7 0 w1 w2 w3 w4 w5 w6 w7 w8 w9 w10 w11 w12 w13 (w14 + 1) w15 w16 ((10 * (p1 &&& 255)) + (w18 - w18 / 10 * 10)) w18 0 w20 w21) H := hP
              have hD : va_D A (zv_M cI cZ cL a0 a1 a2 a3 a4 a5 a6 a7 0 w1 w2 w3 w4 w5 w6 w7 w8 w9 w10 w11 w12 w13 (w14 + 1) w15 w16 ((10 * (p1 &&& 255)) + (w18 - w18 / 10 * 10)) w18 0 w20 w21) := hD
              refine lv_iload hx hb zd_M_read_160 (lv_at hl 2 rfl) ?_
              refine lv_if_eq (tgt := 174) hx hb zd_M_read_162 (by decide) (fun _ => ?_) (fun c_ => absurd (by decide) c_)
              refine lv_aload_n hx hb zd_M_read_174 rfl (lv_at hl 5 rfl) ?_
              refine lv_iconst (v := (-1)) hx hb zd_M_read_175 (by decide) ?_
              refine zz_ci (va_runV (As := [.int (-1)]) (rest := []) ⟨hx, hb, hml, hown, htB⟩ (zc_M_ends l dC dI cI cZ cL a0 a1 a2 a3 a4 a5 a6 a7 H.size 0 w1 w2 w3 w4 w5 w6 w7 w8 w9 w10 w11 w12 w13 (w14 + 1) w15 w16 ((10 * (p1 &&& 255)) + (w18 - w18 / 10 * 10)) w18 0 w20 w21 (-1) ) (cwV 1 htB (zz_gV zk_2d30793a zk_fed514dc zk_ec145e2c zk_91cc3b19 zk_feda7793) rfl rfl rfl ⟨rfl, zh_M_ends⟩ ⟨Nat.le_of_ble_eq_true rfl, Nat.le_of_ble_eq_true rfl⟩) (zz_preV (ci := 5) (q := (zr_M, zF_M, 22)) hP hD hK hE [0, 1, 2, 3, 4, 5, 6, 7] (by decide) rfl rfl rfl) rfl rfl hl.1 rfl (lv_room (Nat.le_of_ble_eq_true rfl)) zd_M_read_176 ⟨Nat.le_of_ble_eq_true rfl, Nat.le_of_ble_eq_true rfl⟩) hP hD hS hA [0, 1, 2, 3, 4, 5, 6, 7] [] [0, 1, 2, 3, 4, 5, 6, 7] rfl rfl (by decide) (by decide) (by decide) rfl (fun H locs hP hD hS => ?_)
              have hP : va_P (dC, dI) zz_cl (zv_M cI cZ cL a0 a1 a2 a3 a4 a5 a6 a7 0 w1 w2 w3 w4 w5 w6 w7 w8 w9 w10 w11 w12 w13 ((zf_M_ends (w14 + 1) (-1)).2) w15 w16 ((10 * (p1 &&& 255)) + (w18 - w18 / 10 * 10)) w18 0 w20 w21) H := hP
              have hD : va_D A (zv_M cI cZ cL a0 a1 a2 a3 a4 a5 a6 a7 0 w1 w2 w3 w4 w5 w6 w7 w8 w9 w10 w11 w12 w13 ((zf_M_ends (w14 + 1) (-1)).2) w15 w16 ((10 * (p1 &&& 255)) + (w18 - w18 / 10 * 10)) w18 0 w20 w21) := hD
              rw [(show zf_M_read w0 w14 w15 w16 w17 w18 w19 w20 w21 p1 = ((zf_M_ends (w14 + 1) (-1)).1, 0, (zf_M_ends (w14 + 1) (-1)).2, w15, w16, (10 * (p1 &&& 255)) + (w18 - w18 / 10 * 10), w18, 0, w20, w21) from by rw [zf_M_read, if_pos c_16, if_neg c_46, if_pos c_84, if_neg c_93, if_neg c_97, if_pos c_139])]
              exact zz_iret hx hb hr hlocks hK hP hD hS zd_M_read_179 rfl
            · refine lv_iconst (v := 1) hx hb zd_M_read_142 (by decide) ?_
              refine lv_goto (tgt := 147) hx hb zd_M_read_143 (by decide) ?_
              refine lv_istore (lv' := [(6, .int 1), (5, .int ((10 * (p1 &&& 255)) + (w18 - w18 / 10 * 10))), (4, .int 0), (3, .int ((w14 - 3) - (w14 - 3) / 6 * 6)), (2, .int (p1 &&& 255)), (0, .ref a0), (1, .int p1)]) hx hb zd_M_read_147 hl (by decide) rfl (fun ls hl => ?_)
              refine lv_aload_n hx hb zd_M_read_149 rfl (lv_at hl 5 rfl) ?_
              refine lv_iload hx hb zd_M_read_150 (lv_at hl 1 rfl) ?_
              refine va_put (D := (dC, dI)) (ci := 5) (v := .int ((10 * (p1 &&& 255)) + (w18 - w18 / 10 * 10))) (C := zr_M) (T := zF_M) (N := 22) hx hb htB zi_M zT_M zT_M_ok zn_M hown hK hP hD hS 0 rfl rfl 17 (by decide) (htB _ zk_6ea1be67) (fun _ h9 => h9) rfl (zT_M_ok 17 (by decide)) rfl rfl (Nat.le_of_ble_eq_true rfl) zd_M_read_152 (fun H locs hP hD hS => ?_)
              have hP : va_P (dC, dI) zz_cl (zv_M cI cZ cL a0 a1 a2 a3 a4 a5 a6 a7 0 w1 w2 w3 w4 w5 w6 w7 w8 w9 w10 w11 w12 w13 (w14 + 1) w15 w16 ((10 * (p1 &&& 255)) + (w18 - w18 / 10 * 10)) w18 w19 w20 w21) H := hP
              have hD : va_D A (zv_M cI cZ cL a0 a1 a2 a3 a4 a5 a6 a7 0 w1 w2 w3 w4 w5 w6 w7 w8 w9 w10 w11 w12 w13 (w14 + 1) w15 w16 ((10 * (p1 &&& 255)) + (w18 - w18 / 10 * 10)) w18 w19 w20 w21) := hD
              refine lv_aload_n hx hb zd_M_read_155 rfl (lv_at hl 5 rfl) ?_
              refine lv_lconst (v := 0) hx hb zd_M_read_156 (by decide) ?_
              refine va_put (D := (dC, dI)) (ci := 5) (v := .long 0) (C := zr_M) (T := zF_M) (N := 22) hx hb htB zi_M zT_M zT_M_ok zn_M hown hK hP hD hS 0 rfl rfl 19 (by decide) (htB _ zk_d4862d65) (fun _ h9 => h9) rfl (zT_M_ok 19 (by decide)) rfl rfl (Nat.le_of_ble_eq_true rfl) zd_M_read_157 (fun H locs hP hD hS => ?_)
              have hP : va_P (dC, dI) zz_cl (zv_M cI cZ cL a0 a1 a2 a3 a4 a5 a6 a7 0 w1 w2 w3 w4 w5 w6 w7 w8 w9 w10 w11 w12 w13 (w14 + 1) w15 w16 ((10 * (p1 &&& 255)) + (w18 - w18 / 10 * 10)) w18 0 w20 w21) H := hP
              have hD : va_D A (zv_M cI cZ cL a0 a1 a2 a3 a4 a5 a6 a7 0 w1 w2 w3 w4 w5 w6 w7 w8 w9 w10 w11 w12 w13 (w14 + 1) w15 w16 ((10 * (p1 &&& 255)) + (w18 - w18 / 10 * 10)) w18 0 w20 w21) := hD
              refine lv_iload hx hb zd_M_read_160 (lv_at hl 2 rfl) ?_
              refine lv_if_eq (tgt := 174) hx hb zd_M_read_162 (by decide) (fun _ => ?_) (fun c_ => absurd (by decide) c_)
              refine lv_aload_n hx hb zd_M_read_174 rfl (lv_at hl 5 rfl) ?_
              refine lv_iconst (v := (-1)) hx hb zd_M_read_175 (by decide) ?_
              refine zz_ci (va_runV (As := [.int (-1)]) (rest := []) ⟨hx, hb, hml, hown, htB⟩ (zc_M_ends l dC dI cI cZ cL a0 a1 a2 a3 a4 a5 a6 a7 H.size 0 w1 w2 w3 w4 w5 w6 w7 w8 w9 w10 w11 w12 w13 (w14 + 1) w15 w16 ((10 * (p1 &&& 255)) + (w18 - w18 / 10 * 10)) w18 0 w20 w21 (-1) ) (cwV 1 htB (zz_gV zk_2d30793a zk_fed514dc zk_ec145e2c zk_91cc3b19 zk_feda7793) rfl rfl rfl ⟨rfl, zh_M_ends⟩ ⟨Nat.le_of_ble_eq_true rfl, Nat.le_of_ble_eq_true rfl⟩) (zz_preV (ci := 5) (q := (zr_M, zF_M, 22)) hP hD hK hE [0, 1, 2, 3, 4, 5, 6, 7] (by decide) rfl rfl rfl) rfl rfl hl.1 rfl (lv_room (Nat.le_of_ble_eq_true rfl)) zd_M_read_176 ⟨Nat.le_of_ble_eq_true rfl, Nat.le_of_ble_eq_true rfl⟩) hP hD hS hA [0, 1, 2, 3, 4, 5, 6, 7] [] [0, 1, 2, 3, 4, 5, 6, 7] rfl rfl (by decide) (by decide) (by decide) rfl (fun H locs hP hD hS => ?_)
              have hP : va_P (dC, dI) zz_cl (zv_M cI cZ cL a0 a1 a2 a3 a4 a5 a6 a7 0 w1 w2 w3 w4 w5 w6 w7 w8 w9 w10 w11 w12 w13 ((zf_M_ends (w14 + 1) (-1)).2) w15 w16 ((10 * (p1 &&& 255)) + (w18 - w18 / 10 * 10)) w18 0 w20 w21) H := hP
              have hD : va_D A (zv_M cI cZ cL a0 a1 a2 a3 a4 a5 a6 a7 0 w1 w2 w3 w4 w5 w6 w7 w8 w9 w10 w11 w12 w13 ((zf_M_ends (w14 + 1) (-1)).2) w15 w16 ((10 * (p1 &&& 255)) + (w18 - w18 / 10 * 10)) w18 0 w20 w21) := hD
              rw [(show zf_M_read w0 w14 w15 w16 w17 w18 w19 w20 w21 p1 = ((zf_M_ends (w14 + 1) (-1)).1, 0, (zf_M_ends (w14 + 1) (-1)).2, w15, w16, (10 * (p1 &&& 255)) + (w18 - w18 / 10 * 10), w18, 0, w20, w21) from by rw [zf_M_read, if_pos c_16, if_neg c_46, if_pos c_84, if_neg c_93, if_neg c_97, if_neg c_139])]
              exact zz_iret hx hb hr hlocks hK hP hD hS zd_M_read_179 rfl
          · refine lv_iconst (v := 1) hx hb zd_M_read_100 (by decide) ?_
            refine lv_goto (tgt := 117) hx hb zd_M_read_101 (by decide) ?_
            refine lv_istore (lv' := [(4, .int 1), (3, .int ((w14 - 3) - (w14 - 3) / 6 * 6)), (2, .int (p1 &&& 255)), (0, .ref a0), (1, .int p1)]) hx hb zd_M_read_117 hl (by decide) rfl (fun ls hl => ?_)
            refine lv_bipush (v := 10) hx hb zd_M_read_119 (by decide) ?_
            refine lv_iload_n hx hb zd_M_read_121 rfl (lv_at hl 2 rfl) ?_
            refine lv_imul hx hb zd_M_read_122 ?_
            refine lv_aload_n hx hb zd_M_read_123 rfl (lv_at hl 3 rfl) ?_
            refine va_get (D := (dC, dI)) (ci := 5) (v := .int w18) (C := zr_M) (T := zF_M) (N := 22) hx hb htB zi_M hown hK hP 0 rfl rfl 18 (by decide) (htB _ zk_54963032) (fun _ h9 => h9) rfl zd_M_read_124 ?_
            refine lv_bipush (v := 10) hx hb zd_M_read_127 (by decide) ?_
            refine lv_irem hx hb zd_M_read_129 (by decide) ?_
            refine lv_iadd hx hb zd_M_read_130 ?_
            refine lv_istore (lv' := [(5, .int ((10 * (p1 &&& 255)) + (w18 - w18 / 10 * 10))), (4, .int 1), (3, .int ((w14 - 3) - (w14 - 3) / 6 * 6)), (2, .int (p1 &&& 255)), (0, .ref a0), (1, .int p1)]) hx hb zd_M_read_131 hl (by decide) rfl (fun ls hl => ?_)
            refine lv_iload hx hb zd_M_read_133 (lv_at hl 0 rfl) ?_
            refine lv_aload_n hx hb zd_M_read_135 rfl (lv_at hl 4 rfl) ?_
            refine va_get (D := (dC, dI)) (ci := 5) (v := .int w17) (C := zr_M) (T := zF_M) (N := 22) hx hb htB zi_M hown hK hP 0 rfl rfl 17 (by decide) (htB _ zk_6ea1be67) (fun _ h9 => h9) rfl zd_M_read_136 ?_
            refine lv_icmp_le (tgt := 146) hx hb zd_M_read_139 (by decide) (fun c_139 => ?_) (fun c_139 => ?_)
            · refine lv_iconst (v := 0) hx hb zd_M_read_146 (by decide) ?_
              refine lv_istore (lv' := [(6, .int 0), (5, .int ((10 * (p1 &&& 255)) + (w18 - w18 / 10 * 10))), (4, .int 1), (3, .int ((w14 - 3) - (w14 - 3) / 6 * 6)), (2, .int (p1 &&& 255)), (0, .ref a0), (1, .int p1)]) hx hb zd_M_read_147 hl (by decide) rfl (fun ls hl => ?_)
              refine lv_aload_n hx hb zd_M_read_149 rfl (lv_at hl 5 rfl) ?_
              refine lv_iload hx hb zd_M_read_150 (lv_at hl 1 rfl) ?_
              refine va_put (D := (dC, dI)) (ci := 5) (v := .int ((10 * (p1 &&& 255)) + (w18 - w18 / 10 * 10))) (C := zr_M) (T := zF_M) (N := 22) hx hb htB zi_M zT_M zT_M_ok zn_M hown hK hP hD hS 0 rfl rfl 17 (by decide) (htB _ zk_6ea1be67) (fun _ h9 => h9) rfl (zT_M_ok 17 (by decide)) rfl rfl (Nat.le_of_ble_eq_true rfl) zd_M_read_152 (fun H locs hP hD hS => ?_)
              have hP : va_P (dC, dI) zz_cl (zv_M cI cZ cL a0 a1 a2 a3 a4 a5 a6 a7 0 w1 w2 w3 w4 w5 w6 w7 w8 w9 w10 w11 w12 w13 (w14 + 1) w15 w16 ((10 * (p1 &&& 255)) + (w18 - w18 / 10 * 10)) w18 w19 w20 w21) H := hP
              have hD : va_D A (zv_M cI cZ cL a0 a1 a2 a3 a4 a5 a6 a7 0 w1 w2 w3 w4 w5 w6 w7 w8 w9 w10 w11 w12 w13 (w14 + 1) w15 w16 ((10 * (p1 &&& 255)) + (w18 - w18 / 10 * 10)) w18 w19 w20 w21) := hD
              refine lv_aload_n hx hb zd_M_read_155 rfl (lv_at hl 5 rfl) ?_
              refine lv_lconst (v := 0) hx hb zd_M_read_156 (by decide) ?_
              refine va_put (D := (dC, dI)) (ci := 5) (v := .long 0) (C := zr_M) (T := zF_M) (N := 22) hx hb htB zi_M zT_M zT_M_ok zn_M hown hK hP hD hS 0 rfl rfl 19 (by decide) (htB _ zk_d4862d65) (fun _ h9 => h9) rfl (zT_M_ok 19 (by decide)) rfl rfl (Nat.le_of_ble_eq_true rfl) zd_M_read_157 (fun H locs hP hD hS => ?_)
              have hP : va_P (dC, dI) zz_cl (zv_M cI cZ cL a0 a1 a2 a3 a4 a5 a6 a7 0 w1 w2 w3 w4 w5 w6 w7 w8 w9 w10 w11 w12 w13 (w14 + 1) w15 w16 ((10 * (p1 &&& 255)) + (w18 - w18 / 10 * 10)) w18 0 w20 w21) H := hP
              have hD : va_D A (zv_M cI cZ cL a0 a1 a2 a3 a4 a5 a6 a7 0 w1 w2 w3 w4 w5 w6 w7 w8 w9 w10 w11 w12 w13 (w14 + 1) w15 w16 ((10 * (p1 &&& 255)) + (w18 - w18 / 10 * 10)) w18 0 w20 w21) := hD
              refine lv_iload hx hb zd_M_read_160 (lv_at hl 2 rfl) ?_
              refine lv_if_eq (tgt := 174) hx hb zd_M_read_162 (by decide) (fun c_ => absurd c_ (by decide)) (fun _ => ?_)
              refine lv_iload hx hb zd_M_read_165 (lv_at hl 0 rfl) ?_
              refine lv_if_eq (tgt := 174) hx hb zd_M_read_167 (by decide) (fun _ => ?_) (fun c_ => absurd (by decide) c_)
              refine lv_aload_n hx hb zd_M_read_174 rfl (lv_at hl 5 rfl) ?_
              refine lv_iconst (v := (-1)) hx hb zd_M_read_175 (by decide) ?_
              refine zz_ci (va_runV (As := [.int (-1)]) (rest := []) ⟨hx, hb, hml, hown, htB⟩ (zc_M_ends l dC dI cI cZ cL a0 a1 a2 a3 a4 a5 a6 a7 H.size 0 w1 w2 w3 w4 w5 w6 w7 w8 w9 w10 w11 w12 w13 (w14 + 1) w15 w16 ((10 * (p1 &&& 255)) + (w18 - w18 / 10 * 10)) w18 0 w20 w21 (-1) ) (cwV 1 htB (zz_gV zk_2d30793a zk_fed514dc zk_ec145e2c zk_91cc3b19 zk_feda7793) rfl rfl rfl ⟨rfl, zh_M_ends⟩ ⟨Nat.le_of_ble_eq_true rfl, Nat.le_of_ble_eq_true rfl⟩) (zz_preV (ci := 5) (q := (zr_M, zF_M, 22)) hP hD hK hE [0, 1, 2, 3, 4, 5, 6, 7] (by decide) rfl rfl rfl) rfl rfl hl.1 rfl (lv_room (Nat.le_of_ble_eq_true rfl)) zd_M_read_176 ⟨Nat.le_of_ble_eq_true rfl, Nat.le_of_ble_eq_true rfl⟩) hP hD hS hA [0, 1, 2, 3, 4, 5, 6, 7] [] [0, 1, 2, 3, 4, 5, 6, 7] rfl rfl (by decide) (by decide) (by decide) rfl (fun H locs hP hD hS => ?_)
              have hP : va_P (dC, dI) zz_cl (zv_M cI cZ cL a0 a1 a2 a3 a4 a5 a6 a7 0 w1 w2 w3 w4 w5 w6 w7 w8 w9 w10 w11 w12 w13 ((zf_M_ends (w14 + 1) (-1)).2) w15 w16 ((10 * (p1 &&& 255)) + (w18 - w18 / 10 * 10)) w18 0 w20 w21) H := hP
              have hD : va_D A (zv_M cI cZ cL a0 a1 a2 a3 a4 a5 a6 a7 0 w1 w2 w3 w4 w5 w6 w7 w8 w9 w10 w11 w12 w13 ((zf_M_ends (w14 + 1) (-1)).2) w15 w16 ((10 * (p1 &&& 255)) + (w18 - w18 / 10 * 10)) w18 0 w20 w21) := hD
              rw [(show zf_M_read w0 w14 w15 w16 w17 w18 w19 w20 w21 p1 = ((zf_M_ends (w14 + 1) (-1)).1, 0, (zf_M_ends (w14 + 1) (-1)).2, w15, w16, (10 * (p1 &&& 255)) + (w18 - w18 / 10 * 10), w18, 0, w20, w21) from by rw [zf_M_read, if_pos c_16, if_neg c_46, if_pos c_84, if_neg c_93, if_pos c_97, if_pos c_139])]
              exact zz_iret hx hb hr hlocks hK hP hD hS zd_M_read_179 rfl
            · refine lv_iconst (v := 1) hx hb zd_M_read_142 (by decide) ?_
              refine lv_goto (tgt := 147) hx hb zd_M_read_143 (by decide) ?_
              refine lv_istore (lv' := [(6, .int 1), (5, .int ((10 * (p1 &&& 255)) + (w18 - w18 / 10 * 10))), (4, .int 1), (3, .int ((w14 - 3) - (w14 - 3) / 6 * 6)), (2, .int (p1 &&& 255)), (0, .ref a0), (1, .int p1)]) hx hb zd_M_read_147 hl (by decide) rfl (fun ls hl => ?_)
              refine lv_aload_n hx hb zd_M_read_149 rfl (lv_at hl 5 rfl) ?_
              refine lv_iload hx hb zd_M_read_150 (lv_at hl 1 rfl) ?_
              refine va_put (D := (dC, dI)) (ci := 5) (v := .int ((10 * (p1 &&& 255)) + (w18 - w18 / 10 * 10))) (C := zr_M) (T := zF_M) (N := 22) hx hb htB zi_M zT_M zT_M_ok zn_M hown hK hP hD hS 0 rfl rfl 17 (by decide) (htB _ zk_6ea1be67) (fun _ h9 => h9) rfl (zT_M_ok 17 (by decide)) rfl rfl (Nat.le_of_ble_eq_true rfl) zd_M_read_152 (fun H locs hP hD hS => ?_)
              have hP : va_P (dC, dI) zz_cl (zv_M cI cZ cL a0 a1 a2 a3 a4 a5 a6 a7 0 w1 w2 w3 w4 w5 w6 w7 w8 w9 w10 w11 w12 w13 (w14 + 1) w15 w16 ((10 * (p1 &&& 255)) + (w18 - w18 / 10 * 10)) w18 w19 w20 w21) H := hP
              have hD : va_D A (zv_M cI cZ cL a0 a1 a2 a3 a4 a5 a6 a7 0 w1 w2 w3 w4 w5 w6 w7 w8 w9 w10 w11 w12 w13 (w14 + 1) w15 w16 ((10 * (p1 &&& 255)) + (w18 - w18 / 10 * 10)) w18 w19 w20 w21) := hD
              refine lv_aload_n hx hb zd_M_read_155 rfl (lv_at hl 5 rfl) ?_
              refine lv_lconst (v := 0) hx hb zd_M_read_156 (by decide) ?_
              refine va_put (D := (dC, dI)) (ci := 5) (v := .long 0) (C := zr_M) (T := zF_M) (N := 22) hx hb htB zi_M zT_M zT_M_ok zn_M hown hK hP hD hS 0 rfl rfl 19 (by decide) (htB _ zk_d4862d65) (fun _ h9 => h9) rfl (zT_M_ok 19 (by decide)) rfl rfl (Nat.le_of_ble_eq_true rfl) zd_M_read_157 (fun H locs hP hD hS => ?_)
              have hP : va_P (dC, dI) zz_cl (zv_M cI cZ cL a0 a1 a2 a3 a4 a5 a6 a7 0 w1 w2 w3 w4 w5 w6 w7 w8 w9 w10 w11 w12 w13 (w14 + 1) w15 w16 ((10 * (p1 &&& 255)) + (w18 - w18 / 10 * 10)) w18 0 w20 w21) H := hP
              have hD : va_D A (zv_M cI cZ cL a0 a1 a2 a3 a4 a5 a6 a7 0 w1 w2 w3 w4 w5 w6 w7 w8 w9 w10 w11 w12 w13 (w14 + 1) w15 w16 ((10 * (p1 &&& 255)) + (w18 - w18 / 10 * 10)) w18 0 w20 w21) := hD
              refine lv_iload hx hb zd_M_read_160 (lv_at hl 2 rfl) ?_
              refine lv_if_eq (tgt := 174) hx hb zd_M_read_162 (by decide) (fun c_ => absurd c_ (by decide)) (fun _ => ?_)
              refine lv_iload hx hb zd_M_read_165 (lv_at hl 0 rfl) ?_
              refine lv_if_eq (tgt := 174) hx hb zd_M_read_167 (by decide) (fun c_ => absurd c_ (by decide)) (fun _ => ?_)
              refine lv_iconst (v := 0) hx hb zd_M_read_170 (by decide) ?_
              refine lv_goto (tgt := 179) hx hb zd_M_read_171 (by decide) ?_
              rw [(show zf_M_read w0 w14 w15 w16 w17 w18 w19 w20 w21 p1 = (0, 0, w14 + 1, w15, w16, (10 * (p1 &&& 255)) + (w18 - w18 / 10 * 10), w18, 0, w20, w21) from by rw [zf_M_read, if_pos c_16, if_neg c_46, if_pos c_84, if_neg c_93, if_pos c_97, if_neg c_139])]
              exact zz_iret hx hb hr hlocks hK hP hD hS zd_M_read_179 rfl
    · refine lv_aload_n hx hb zd_M_read_49 rfl (lv_at hl 2 rfl) ?_
      refine lv_iload_n hx hb zd_M_read_50 rfl (lv_at hl 1 rfl) ?_
      refine va_put (D := (dC, dI)) (ci := 5) (v := .int (p1 &&& 255)) (C := zr_M) (T := zF_M) (N := 22) hx hb htB zi_M zT_M zT_M_ok zn_M hown hK hP hD hS 0 rfl rfl 18 (by decide) (htB _ zk_54963032) (fun _ h9 => h9) rfl (zT_M_ok 18 (by decide)) rfl rfl (Nat.le_of_ble_eq_true rfl) zd_M_read_51 (fun H locs hP hD hS => ?_)
      have hP : va_P (dC, dI) zz_cl (zv_M cI cZ cL a0 a1 a2 a3 a4 a5 a6 a7 0 w1 w2 w3 w4 w5 w6 w7 w8 w9 w10 w11 w12 w13 (w14 + 1) w15 w16 w17 (p1 &&& 255) w19 w20 w21) H := hP
      have hD : va_D A (zv_M cI cZ cL a0 a1 a2 a3 a4 a5 a6 a7 0 w1 w2 w3 w4 w5 w6 w7 w8 w9 w10 w11 w12 w13 (w14 + 1) w15 w16 w17 (p1 &&& 255) w19 w20 w21) := hD
      refine lv_iload_n hx hb zd_M_read_54 rfl (lv_at hl 1 rfl) ?_
      refine lv_bipush (v := 19) hx hb zd_M_read_55 (by decide) ?_
      refine lv_icmp_gt (tgt := 72) hx hb zd_M_read_57 (by decide) (fun c_57 => ?_) (fun c_57 => ?_)
      · refine lv_aload_n hx hb zd_M_read_72 rfl (lv_at hl 2 rfl) ?_
        refine lv_iconst (v := (-1)) hx hb zd_M_read_73 (by decide) ?_
        refine zz_ci (va_runV (As := [.int (-1)]) (rest := []) ⟨hx, hb, hml, hown, htB⟩ (zc_M_ends l dC dI cI cZ cL a0 a1 a2 a3 a4 a5 a6 a7 H.size 0 w1 w2 w3 w4 w5 w6 w7 w8 w9 w10 w11 w12 w13 (w14 + 1) w15 w16 w17 (p1 &&& 255) w19 w20 w21 (-1) ) (cwV 1 htB (zz_gV zk_2d30793a zk_fed514dc zk_ec145e2c zk_91cc3b19 zk_feda7793) rfl rfl rfl ⟨rfl, zh_M_ends⟩ ⟨Nat.le_of_ble_eq_true rfl, Nat.le_of_ble_eq_true rfl⟩) (zz_preV (ci := 5) (q := (zr_M, zF_M, 22)) hP hD hK hE [0, 1, 2, 3, 4, 5, 6, 7] (by decide) rfl rfl rfl) rfl rfl hl.1 rfl (lv_room (Nat.le_of_ble_eq_true rfl)) zd_M_read_74 ⟨Nat.le_of_ble_eq_true rfl, Nat.le_of_ble_eq_true rfl⟩) hP hD hS hA [0, 1, 2, 3, 4, 5, 6, 7] [] [0, 1, 2, 3, 4, 5, 6, 7] rfl rfl (by decide) (by decide) (by decide) rfl (fun H locs hP hD hS => ?_)
        have hP : va_P (dC, dI) zz_cl (zv_M cI cZ cL a0 a1 a2 a3 a4 a5 a6 a7 0 w1 w2 w3 w4 w5 w6 w7 w8 w9 w10 w11 w12 w13 ((zf_M_ends (w14 + 1) (-1)).2) w15 w16 w17 (p1 &&& 255) w19 w20 w21) H := hP
        have hD : va_D A (zv_M cI cZ cL a0 a1 a2 a3 a4 a5 a6 a7 0 w1 w2 w3 w4 w5 w6 w7 w8 w9 w10 w11 w12 w13 ((zf_M_ends (w14 + 1) (-1)).2) w15 w16 w17 (p1 &&& 255) w19 w20 w21) := hD
        refine lv_goto (tgt := 81) hx hb zd_M_read_77 (by decide) ?_
        rw [(show zf_M_read w0 w14 w15 w16 w17 w18 w19 w20 w21 p1 = ((zf_M_ends (w14 + 1) (-1)).1, 0, (zf_M_ends (w14 + 1) (-1)).2, w15, w16, w17, p1 &&& 255, w19, w20, w21) from by rw [zf_M_read, if_pos c_16, if_pos c_46, if_pos c_57])]
        exact zz_iret hx hb hr hlocks hK hP hD hS zd_M_read_81 rfl
      · refine lv_iload_n hx hb zd_M_read_60 rfl (lv_at hl 1 rfl) ?_
        refine lv_aload_n hx hb zd_M_read_61 rfl (lv_at hl 2 rfl) ?_
        refine va_get (D := (dC, dI)) (ci := 5) (v := .int w15) (C := zr_M) (T := zF_M) (N := 22) hx hb htB zi_M hown hK hP 0 rfl rfl 15 (by decide) (htB _ zk_c63d8cf7) (fun _ h9 => h9) rfl zd_M_read_62 ?_
        refine zz_ki (va_runS (As := [.int (p1 &&& 255), .int w15]) (rest := []) ⟨hx, hb, hml, hown, htB⟩ (zc_M_needOf l dC dI cI cZ cL  H.size  (p1 &&& 255) w15 ) (va_cwS 2 htB (zz_gS zk_69d8a7dc zk_8aca10f0 zk_91cc3b19 zk_57c855ba) rfl rfl rfl zh_M_needOf ⟨Nat.le_of_ble_eq_true rfl, Nat.le_of_ble_eq_true rfl⟩) (zz_preS hP hD hK hE [] (by decide) rfl) rfl rfl hl.1 rfl (lv_room (Nat.le_of_ble_eq_true rfl)) zd_M_read_65 ⟨Nat.le_of_ble_eq_true rfl, Nat.le_of_ble_eq_true rfl⟩) ?_
        refine lv_iconst (v := 3) hx hb zd_M_read_68 (by decide) ?_
        refine lv_icmp_ne (tgt := 80) hx hb zd_M_read_69 (by decide) (fun c_69 => ?_) (fun c_69 => ?_)
        · refine lv_iconst (v := 0) hx hb zd_M_read_80 (by decide) ?_
          rw [(show zf_M_read w0 w14 w15 w16 w17 w18 w19 w20 w21 p1 = (0, 0, w14 + 1, w15, w16, w17, p1 &&& 255, w19, w20, w21) from by rw [zf_M_read, if_pos c_16, if_pos c_46, if_neg c_57, if_neg c_69])]
          exact zz_iret hx hb hr hlocks hK hP hD hS zd_M_read_81 rfl
        · refine lv_aload_n hx hb zd_M_read_72 rfl (lv_at hl 2 rfl) ?_
          refine lv_iconst (v := (-1)) hx hb zd_M_read_73 (by decide) ?_
          refine zz_ci (va_runV (As := [.int (-1)]) (rest := []) ⟨hx, hb, hml, hown, htB⟩ (zc_M_ends l dC dI cI cZ cL a0 a1 a2 a3 a4 a5 a6 a7 H.size 0 w1 w2 w3 w4 w5 w6 w7 w8 w9 w10 w11 w12 w13 (w14 + 1) w15 w16 w17 (p1 &&& 255) w19 w20 w21 (-1) ) (cwV 1 htB (zz_gV zk_2d30793a zk_fed514dc zk_ec145e2c zk_91cc3b19 zk_feda7793) rfl rfl rfl ⟨rfl, zh_M_ends⟩ ⟨Nat.le_of_ble_eq_true rfl, Nat.le_of_ble_eq_true rfl⟩) (zz_preV (ci := 5) (q := (zr_M, zF_M, 22)) hP hD hK hE [0, 1, 2, 3, 4, 5, 6, 7] (by decide) rfl rfl rfl) rfl rfl hl.1 rfl (lv_room (Nat.le_of_ble_eq_true rfl)) zd_M_read_74 ⟨Nat.le_of_ble_eq_true rfl, Nat.le_of_ble_eq_true rfl⟩) hP hD hS hA [0, 1, 2, 3, 4, 5, 6, 7] [] [0, 1, 2, 3, 4, 5, 6, 7] rfl rfl (by decide) (by decide) (by decide) rfl (fun H locs hP hD hS => ?_)
          have hP : va_P (dC, dI) zz_cl (zv_M cI cZ cL a0 a1 a2 a3 a4 a5 a6 a7 0 w1 w2 w3 w4 w5 w6 w7 w8 w9 w10 w11 w12 w13 ((zf_M_ends (w14 + 1) (-1)).2) w15 w16 w17 (p1 &&& 255) w19 w20 w21) H := hP
          have hD : va_D A (zv_M cI cZ cL a0 a1 a2 a3 a4 a5 a6 a7 0 w1 w2 w3 w4 w5 w6 w7 w8 w9 w10 w11 w12 w13 ((zf_M_ends (w14 + 1) (-1)).2) w15 w16 w17 (p1 &&& 255) w19 w20 w21) := hD
          refine lv_goto (tgt := 81) hx hb zd_M_read_77 (by decide) ?_
          rw [(show zf_M_read w0 w14 w15 w16 w17 w18 w19 w20 w21 p1 = ((zf_M_ends (w14 + 1) (-1)).1, 0, (zf_M_ends (w14 + 1) (-1)).2, w15, w16, w17, p1 &&& 255, w19, w20, w21) from by rw [zf_M_read, if_pos c_16, if_pos c_46, if_neg c_57, if_pos c_69])]
          exact zz_iret hx hb hr hlocks hK hP hD hS zd_M_read_81 rfl
  · refine lv_aload_n hx hb zd_M_read_19 rfl (lv_at hl 1 rfl) ?_
    refine lv_iload_n hx hb zd_M_read_20 rfl (lv_at hl 0 rfl) ?_
    refine zz_ci (va_runV (As := [.int (p1 &&& 255)]) (rest := []) ⟨hx, hb, hml, hown, htB⟩ (zc_M_begins l dC dI cI cZ cL a0 a1 a2 a3 a4 a5 a6 a7 H.size 0 w1 w2 w3 w4 w5 w6 w7 w8 w9 w10 w11 w12 w13 w14 w15 w16 w17 w18 w19 w20 w21 (p1 &&& 255) ) (cwV 1 htB (zz_gV zk_fdd4a7ac zk_1139924d zk_20a5d643 zk_91cc3b19 zk_224f6728) rfl rfl rfl ⟨rfl, zh_M_begins⟩ ⟨Nat.le_of_ble_eq_true rfl, Nat.le_of_ble_eq_true rfl⟩) (zz_preV (ci := 5) (q := (zr_M, zF_M, 22)) hP hD hK hE [0, 1, 2, 3, 4, 5, 6, 7] (by decide) rfl rfl rfl) rfl rfl hl.1 rfl (lv_room (Nat.le_of_ble_eq_true rfl)) zd_M_read_21 ⟨Nat.le_of_ble_eq_true rfl, Nat.le_of_ble_eq_true rfl⟩) hP hD hS hA [0, 1, 2, 3, 4, 5, 6, 7] [] [0, 1, 2, 3, 4, 5, 6, 7] rfl rfl (by decide) (by decide) (by decide) rfl (fun H locs hP hD hS => ?_)
    have hP : va_P (dC, dI) zz_cl (zv_M cI cZ cL a0 a1 a2 a3 a4 a5 a6 a7 0 w1 w2 w3 w4 w5 w6 w7 w8 w9 w10 w11 w12 w13 ((zf_M_begins w14 w15 w16 w17 w20 w21 (p1 &&& 255)).2.1) ((zf_M_begins w14 w15 w16 w17 w20 w21 (p1 &&& 255)).2.2.1) ((zf_M_begins w14 w15 w16 w17 w20 w21 (p1 &&& 255)).2.2.2.1) ((zf_M_begins w14 w15 w16 w17 w20 w21 (p1 &&& 255)).2.2.2.2.1) w18 w19 ((zf_M_begins w14 w15 w16 w17 w20 w21 (p1 &&& 255)).2.2.2.2.2.1) ((zf_M_begins w14 w15 w16 w17 w20 w21 (p1 &&& 255)).2.2.2.2.2.2)) H := hP
    have hD : va_D A (zv_M cI cZ cL a0 a1 a2 a3 a4 a5 a6 a7 0 w1 w2 w3 w4 w5 w6 w7 w8 w9 w10 w11 w12 w13 ((zf_M_begins w14 w15 w16 w17 w20 w21 (p1 &&& 255)).2.1) ((zf_M_begins w14 w15 w16 w17 w20 w21 (p1 &&& 255)).2.2.1) ((zf_M_begins w14 w15 w16 w17 w20 w21 (p1 &&& 255)).2.2.2.1) ((zf_M_begins w14 w15 w16 w17 w20 w21 (p1 &&& 255)).2.2.2.2.1) w18 w19 ((zf_M_begins w14 w15 w16 w17 w20 w21 (p1 &&& 255)).2.2.2.2.2.1) ((zf_M_begins w14 w15 w16 w17 w20 w21 (p1 &&& 255)).2.2.2.2.2.2)) := hD
    rw [(show zf_M_read w0 w14 w15 w16 w17 w18 w19 w20 w21 p1 = ((zf_M_begins w14 w15 w16 w17 w20 w21 (p1 &&& 255)).1, 0, (zf_M_begins w14 w15 w16 w17 w20 w21 (p1 &&& 255)).2.1, (zf_M_begins w14 w15 w16 w17 w20 w21 (p1 &&& 255)).2.2.1, (zf_M_begins w14 w15 w16 w17 w20 w21 (p1 &&& 255)).2.2.2.1, (zf_M_begins w14 w15 w16 w17 w20 w21 (p1 &&& 255)).2.2.2.2.1, w18, w19, (zf_M_begins w14 w15 w16 w17 w20 w21 (p1 &&& 255)).2.2.2.2.2.1, (zf_M_begins w14 w15 w16 w17 w20 w21 (p1 &&& 255)).2.2.2.2.2.2) from by rw [zf_M_read, if_neg c_16])]
    exact zz_iret hx hb hr hlocks hK hP hD hS zd_M_read_24 rfl
set_option maxHeartbeats 4000000 in
set_option maxRecDepth 100000 in
theorem zp_M_count_74 {p : Program} {l : Launch} {e : Env} {s : State} {m : MethodId} {below : List Frame} {meth : Method} {c : Code} {A : Nat → Prop} (dC : Nat → ClassId) (dI : Nat → Nat → Nat) (cI cZ cL : ClassId) (a0 a1 a2 a3 a4 a5 a6 a7 : Nat) (w0 : Int32) (w1 : Int32) (w2 : Nat) (w3 : Nat → Int32) (w4 : Nat → Int64) (w5 : Int32) (w6 : Int32) (w7 : Nat) (w8 : Nat → Int64) (w9 : Nat → Int32) (w10 : Nat) (w11 : Nat → Int32) (w12 : Nat → Int32) (w13 : Nat → Int32) (w14 : Int32) (w15 : Int32) (w16 : Int32) (w17 : Int32) (w18 : Int32) (w19 : Int64) (w20 : Int32) (w21 : Int32) (p1 : Int32) (x2 : Int32) (hm : w2 ≤ 30) (hc : w7 ≤ 20) (hp : w10 ≤ 20) (C0 : zz_C p s m ([.ref a0, .int p1] : List Value).toArray meth c zb_M_count 5 (some .int) zy_M_count.cls) (hA : ∀ q : Nat, s.heap.size ≤ q → A q) (hK : va_K (dC, dI) zz_cl (zz_ty cI cZ cL) s) :
    ∀ (mm k : Nat), k + mm = w7 → ∀ (x3 : Int32), ∀ (H : Heap) (locs : List Loc), va_P (dC, dI) zz_cl (zv_M cI cZ cL a0 a1 a2 a3 a4 a5 a6 a7 w0 w1 w2 w3 w4 w5 w6 w7 w8 w9 w10 w11 w12 w13 w14 w15 w16 w17 w18 w19 w20 w21) H → va_D A (zv_M cI cZ cL a0 a1 a2 a3 a4 a5 a6 a7 w0 w1 w2 w3 w4 w5 w6 w7 w8 w9 w10 w11 w12 w13 w14 w15 w16 w17 w18 w19 w20 w21) → va_S A s.heap H locs → ∀ ls : Array Slot, lv_has ls 5 [(0, .ref a0), (1, .int p1), (2, .int x2), (3, .int x3), (4, .int (nI k))] →
    W p l e ({ frames := 2, cells := 0, slots := 0, locals := 45 } : Room) s m ([.ref a0, .int p1] : List Value).toArray below meth c H locs 0 0 (MQ below (zz_Qi (dC, dI) (zz_ty cI cZ cL) A ((zf_M_count_L74 w0 w1 w2 w3 w4 w5 w6 w7 w9 w10 w11 w12 w20 w21 p1 x2 mm k x3).1) (zv_M cI cZ cL a0 a1 a2 a3 a4 a5 a6 a7 ((zf_M_count_L74 w0 w1 w2 w3 w4 w5 w6 w7 w9 w10 w11 w12 w20 w21 p1 x2 mm k x3).2) w1 w2 w3 w4 w5 w6 w7 w8 w9 w10 w11 w12 w13 w14 w15 w16 w17 w18 w19 w20 w21)) ([.ref a0, .int p1] : List Value).toArray s 0 0 A) (F0 m 74 ls []) := by
  obtain ⟨hx, hb, hr, hml, hown, htB, hlocks, hE⟩ := id C0
  intro mm
  induction mm with
  | zero =>
    intro k hk x3 H locs hP hD hS ls hl
    refine lv_iload hx hb zd_M_count_74 (lv_at hl 4 rfl) ?_
    refine lv_aload_n hx hb zd_M_count_76 rfl (lv_at hl 0 rfl) ?_
    refine va_get (D := (dC, dI)) (ci := 5) (v := .int (nI w7)) (C := zr_M) (T := zF_M) (N := 22) hx hb htB zi_M hown hK hP 0 rfl rfl 7 (by decide) (htB _ zk_62906f57) (fun _ h9 => h9) rfl zd_M_count_77 ?_
    refine lv_icmp_ge (tgt := 111) hx hb zd_M_count_80 (by decide) (fun _ => ?_) (fun c_ => absurd (zz_geT (b := w7) rfl (by omega) (by omega)) c_)
    refine lv_iload_n hx hb zd_M_count_111 rfl (lv_at hl 1 rfl) ?_
    by_cases c_112_0 : p1 = 0
    · refine lv_tableIn (off := 52) (tgt := 164) hx hb zd_M_count_112 (by rw [c_112_0]; decide) (by rw [c_112_0]; decide) (by rw [c_112_0]; rfl) (by decide) ?_
      refine lv_iload_n hx hb zd_M_count_164 rfl (lv_at hl 2 rfl) ?_
      rw [(show zf_M_count_L74 w0 w1 w2 w3 w4 w5 w6 w7 w9 w10 w11 w12 w20 w21 p1 x2 0 k x3 = (x2, w0) from by rw [zf_M_count_L74, if_pos c_112_0])]
      exact zz_iret hx hb hr hlocks hK hP hD hS zd_M_count_165 rfl
    by_cases c_112_1 : p1 = 1
    · refine lv_tableIn (off := 54) (tgt := 166) hx hb zd_M_count_112 (by rw [c_112_1]; decide) (by rw [c_112_1]; decide) (by rw [c_112_1]; rfl) (by decide) ?_
      refine lv_aload_n hx hb zd_M_count_166 rfl (lv_at hl 0 rfl) ?_
      refine zz_ki (va_runV (As := []) (rest := []) ⟨hx, hb, hml, hown, htB⟩ (zc_M_set l dC dI cI cZ cL a0 a1 a2 a3 a4 a5 a6 a7 H.size w0 w1 w2 w3 w4 w5 w6 w7 w8 w9 w10 w11 w12 w13 w14 w15 w16 w17 w18 w19 w20 w21  hm) (cwV 0 htB (zz_gV zk_4db78f98 zk_3de2aec0 zk_d43b7762 zk_91cc3b19 zk_2c5958d7) rfl rfl rfl ⟨rfl, zh_M_set⟩ ⟨Nat.le_of_ble_eq_true rfl, Nat.le_of_ble_eq_true rfl⟩) (zz_preV (ci := 5) (q := (zr_M, zF_M, 22)) hP hD hK hE [0, 1, 2, 3, 4, 5, 6, 7] (by decide) rfl rfl rfl) rfl rfl hl.1 rfl (lv_room (Nat.le_of_ble_eq_true rfl)) zd_M_count_167 ⟨Nat.le_of_ble_eq_true rfl, Nat.le_of_ble_eq_true rfl⟩) ?_
      rw [(show zf_M_count_L74 w0 w1 w2 w3 w4 w5 w6 w7 w9 w10 w11 w12 w20 w21 p1 x2 0 k x3 = ((zf_M_set w2 w4), w0) from by rw [zf_M_count_L74, if_neg c_112_0, if_pos c_112_1])]
      exact zz_iret hx hb hr hlocks hK hP hD hS zd_M_count_170 rfl
    by_cases c_112_2 : p1 = 2
    · refine lv_tableIn (off := 59) (tgt := 171) hx hb zd_M_count_112 (by rw [c_112_2]; decide) (by rw [c_112_2]; decide) (by rw [c_112_2]; rfl) (by decide) ?_
      refine lv_aload_n hx hb zd_M_count_171 rfl (lv_at hl 0 rfl) ?_
      refine va_get (D := (dC, dI)) (ci := 5) (v := .int w5) (C := zr_M) (T := zF_M) (N := 22) hx hb htB zi_M hown hK hP 0 rfl rfl 5 (by decide) (htB _ zk_ceae0b21) (fun _ h9 => h9) rfl zd_M_count_172 ?_
      refine lv_if_eq (tgt := 182) hx hb zd_M_count_175 (by decide) (fun c_175 => ?_) (fun c_175 => ?_)
      · refine lv_iconst (v := 0) hx hb zd_M_count_182 (by decide) ?_
        rw [(show zf_M_count_L74 w0 w1 w2 w3 w4 w5 w6 w7 w9 w10 w11 w12 w20 w21 p1 x2 0 k x3 = (0, w0) from by rw [zf_M_count_L74, if_neg c_112_0, if_neg c_112_1, if_pos c_112_2, if_pos c_175])]
        exact zz_iret hx hb hr hlocks hK hP hD hS zd_M_count_183 rfl
      · refine lv_iconst (v := 1) hx hb zd_M_count_178 (by decide) ?_
        refine lv_goto (tgt := 183) hx hb zd_M_count_179 (by decide) ?_
        rw [(show zf_M_count_L74 w0 w1 w2 w3 w4 w5 w6 w7 w9 w10 w11 w12 w20 w21 p1 x2 0 k x3 = (1, w0) from by rw [zf_M_count_L74, if_neg c_112_0, if_neg c_112_1, if_pos c_112_2, if_neg c_175])]
        exact zz_iret hx hb hr hlocks hK hP hD hS zd_M_count_183 rfl
    by_cases c_112_3 : p1 = 3
    · refine lv_tableIn (off := 72) (tgt := 184) hx hb zd_M_count_112 (by rw [c_112_3]; decide) (by rw [c_112_3]; decide) (by rw [c_112_3]; rfl) (by decide) ?_
      refine lv_iload_n hx hb zd_M_count_184 rfl (lv_at hl 3 rfl) ?_
      rw [(show zf_M_count_L74 w0 w1 w2 w3 w4 w5 w6 w7 w9 w10 w11 w12 w20 w21 p1 x2 0 k x3 = (x3, w0) from by rw [zf_M_count_L74, if_neg c_112_0, if_neg c_112_1, if_neg c_112_2, if_pos c_112_3])]
      exact zz_iret hx hb hr hlocks hK hP hD hS zd_M_count_185 rfl
    by_cases c_112_4 : p1 = 4
    · refine lv_tableIn (off := 74) (tgt := 186) hx hb zd_M_count_112 (by rw [c_112_4]; decide) (by rw [c_112_4]; decide) (by rw [c_112_4]; rfl) (by decide) ?_
      refine lv_aload_n hx hb zd_M_count_186 rfl (lv_at hl 0 rfl) ?_
      refine va_get (D := (dC, dI)) (ci := 5) (v := .int (nI w10)) (C := zr_M) (T := zF_M) (N := 22) hx hb htB zi_M hown hK hP 0 rfl rfl 10 (by decide) (htB _ zk_b8d6ae4f) (fun _ h9 => h9) rfl zd_M_count_187 ?_
      rw [(show zf_M_count_L74 w0 w1 w2 w3 w4 w5 w6 w7 w9 w10 w11 w12 w20 w21 p1 x2 0 k x3 = (nI w10, w0) from by rw [zf_M_count_L74, if_neg c_112_0, if_neg c_112_1, if_neg c_112_2, if_neg c_112_3, if_pos c_112_4])]
      exact zz_iret hx hb hr hlocks hK hP hD hS zd_M_count_190 rfl
    by_cases c_112_5 : p1 = 5
    · refine lv_tableIn (off := 79) (tgt := 191) hx hb zd_M_count_112 (by rw [c_112_5]; decide) (by rw [c_112_5]; decide) (by rw [c_112_5]; rfl) (by decide) ?_
      refine lv_aload_n hx hb zd_M_count_191 rfl (lv_at hl 0 rfl) ?_
      refine va_get (D := (dC, dI)) (ci := 5) (v := .int w6) (C := zr_M) (T := zF_M) (N := 22) hx hb htB zi_M hown hK hP 0 rfl rfl 6 (by decide) (htB _ zk_edcb0cfe) (fun _ h9 => h9) rfl zd_M_count_192 ?_
      rw [(show zf_M_count_L74 w0 w1 w2 w3 w4 w5 w6 w7 w9 w10 w11 w12 w20 w21 p1 x2 0 k x3 = (w6, w0) from by rw [zf_M_count_L74, if_neg c_112_0, if_neg c_112_1, if_neg c_112_2, if_neg c_112_3, if_neg c_112_4, if_pos c_112_5])]
      exact zz_iret hx hb hr hlocks hK hP hD hS zd_M_count_195 rfl
    by_cases c_112_6 : p1 = 6
    · refine lv_tableIn (off := 84) (tgt := 196) hx hb zd_M_count_112 (by rw [c_112_6]; decide) (by rw [c_112_6]; decide) (by rw [c_112_6]; rfl) (by decide) ?_
      refine lv_aload_n hx hb zd_M_count_196 rfl (lv_at hl 0 rfl) ?_
      refine va_get (D := (dC, dI)) (ci := 5) (v := .int w1) (C := zr_M) (T := zF_M) (N := 22) hx hb htB zi_M hown hK hP 0 rfl rfl 1 (by decide) (htB _ zk_cf183326) (fun _ h9 => h9) rfl zd_M_count_197 ?_
      rw [(show zf_M_count_L74 w0 w1 w2 w3 w4 w5 w6 w7 w9 w10 w11 w12 w20 w21 p1 x2 0 k x3 = (w1, w0) from by rw [zf_M_count_L74, if_neg c_112_0, if_neg c_112_1, if_neg c_112_2, if_neg c_112_3, if_neg c_112_4, if_neg c_112_5, if_pos c_112_6])]
      exact zz_iret hx hb hr hlocks hK hP hD hS zd_M_count_200 rfl
    by_cases c_112_7 : p1 = 7
    · refine lv_tableIn (off := 89) (tgt := 201) hx hb zd_M_count_112 (by rw [c_112_7]; decide) (by rw [c_112_7]; decide) (by rw [c_112_7]; rfl) (by decide) ?_
      refine lv_aload_n hx hb zd_M_count_201 rfl (lv_at hl 0 rfl) ?_
      refine va_get (D := (dC, dI)) (ci := 5) (v := .int w20) (C := zr_M) (T := zF_M) (N := 22) hx hb htB zi_M hown hK hP 0 rfl rfl 20 (by decide) (htB _ zk_4b3fcbca) (fun _ h9 => h9) rfl zd_M_count_202 ?_
      rw [(show zf_M_count_L74 w0 w1 w2 w3 w4 w5 w6 w7 w9 w10 w11 w12 w20 w21 p1 x2 0 k x3 = (w20, w0) from by rw [zf_M_count_L74, if_neg c_112_0, if_neg c_112_1, if_neg c_112_2, if_neg c_112_3, if_neg c_112_4, if_neg c_112_5, if_neg c_112_6, if_pos c_112_7])]
      exact zz_iret hx hb hr hlocks hK hP hD hS zd_M_count_205 rfl
    by_cases c_112_8 : p1 = 8
    · refine lv_tableIn (off := 94) (tgt := 206) hx hb zd_M_count_112 (by rw [c_112_8]; decide) (by rw [c_112_8]; decide) (by rw [c_112_8]; rfl) (by decide) ?_
      refine lv_aload_n hx hb zd_M_count_206 rfl (lv_at hl 0 rfl) ?_
      refine va_get (D := (dC, dI)) (ci := 5) (v := .int w21) (C := zr_M) (T := zF_M) (N := 22) hx hb htB zi_M hown hK hP 0 rfl rfl 21 (by decide) (htB _ zk_adfa104d) (fun _ h9 => h9) rfl zd_M_count_207 ?_
      rw [(show zf_M_count_L74 w0 w1 w2 w3 w4 w5 w6 w7 w9 w10 w11 w12 w20 w21 p1 x2 0 k x3 = (w21, w0) from by rw [zf_M_count_L74, if_neg c_112_0, if_neg c_112_1, if_neg c_112_2, if_neg c_112_3, if_neg c_112_4, if_neg c_112_5, if_neg c_112_6, if_neg c_112_7, if_pos c_112_8])]
      exact zz_iret hx hb hr hlocks hK hP hD hS zd_M_count_210 rfl
    refine lv_tableOut (tgt := 211) hx hb zd_M_count_112 (by have n0 := lv_neT c_112_0 (a := 0) (by decide); have n1 := lv_neT c_112_1 (a := 1) (by decide); have n2 := lv_neT c_112_2 (a := 2) (by decide); have n3 := lv_neT c_112_3 (a := 3) (by decide); have n4 := lv_neT c_112_4 (a := 4) (by decide); have n5 := lv_neT c_112_5 (a := 5) (by decide); have n6 := lv_neT c_112_6 (a := 6) (by decide); have n7 := lv_neT c_112_7 (a := 7) (by decide); have n8 := lv_neT c_112_8 (a := 8) (by decide); omega) (by decide) ?_
    refine lv_iconst (v := (-1)) hx hb zd_M_count_211 (by decide) ?_
    rw [(show zf_M_count_L74 w0 w1 w2 w3 w4 w5 w6 w7 w9 w10 w11 w12 w20 w21 p1 x2 0 k x3 = ((-1), w0) from by rw [zf_M_count_L74, if_neg c_112_0, if_neg c_112_1, if_neg c_112_2, if_neg c_112_3, if_neg c_112_4, if_neg c_112_5, if_neg c_112_6, if_neg c_112_7, if_neg c_112_8])]
    exact zz_iret hx hb hr hlocks hK hP hD hS zd_M_count_212 rfl
  | succ mm ih =>
    intro k hk x3 H locs hP hD hS ls hl
    refine lv_iload hx hb zd_M_count_74 (lv_at hl 4 rfl) ?_
    refine lv_aload_n hx hb zd_M_count_76 rfl (lv_at hl 0 rfl) ?_
    refine va_get (D := (dC, dI)) (ci := 5) (v := .int (nI w7)) (C := zr_M) (T := zF_M) (N := 22) hx hb htB zi_M hown hK hP 0 rfl rfl 7 (by decide) (htB _ zk_62906f57) (fun _ h9 => h9) rfl zd_M_count_77 ?_
    refine lv_icmp_ge (tgt := 111) hx hb zd_M_count_80 (by decide) (fun c_ => absurd c_ (zz_geF (b := w7) rfl (by omega) (by omega))) (fun _ => ?_)
    refine lv_iload_n hx hb zd_M_count_83 rfl (lv_at hl 3 rfl) ?_
    refine lv_aload_n hx hb zd_M_count_84 rfl (lv_at hl 0 rfl) ?_
    refine va_get (D := (dC, dI)) (ci := 5) (v := .ref a4) (C := zr_M) (T := zF_M) (N := 22) hx hb htB zi_M hown hK hP 0 rfl rfl 9 (by decide) (htB _ zk_0faba23a) (fun _ h9 => h9) rfl zd_M_count_85 ?_
    refine lv_iload hx hb zd_M_count_88 (lv_at hl 4 rfl) ?_
    refine zz_iald hx hb hK hP 4 0 rfl rfl (by omega) (by decide) zd_M_count_90 ?_
    refine lv_aload_n hx hb zd_M_count_91 rfl (lv_at hl 0 rfl) ?_
    refine va_get (D := (dC, dI)) (ci := 5) (v := .int w6) (C := zr_M) (T := zF_M) (N := 22) hx hb htB zi_M hown hK hP 0 rfl rfl 6 (by decide) (htB _ zk_edcb0cfe) (fun _ h9 => h9) rfl zd_M_count_92 ?_
    refine lv_icmp_lt (tgt := 102) hx hb zd_M_count_95 (by decide) (fun c_95 => ?_) (fun c_95 => ?_)
    · refine lv_iconst (v := 0) hx hb zd_M_count_102 (by decide) ?_
      refine lv_iadd hx hb zd_M_count_103 ?_
      refine lv_istore_n (lv' := [(3, .int (x3 + 0)), (0, .ref a0), (1, .int p1), (2, .int x2), (4, .int (nI k))]) hx hb zd_M_count_104 rfl hl (by decide) rfl (fun ls hl => ?_)
      refine lv_iinc (v := nI (k + 1)) (lv' := [(4, .int (nI (k + 1))), (3, .int (x3 + 0)), (0, .ref a0), (1, .int p1), (2, .int x2)]) hx hb zd_M_count_105 hl (k := 4) rfl (nI_1 k) (by decide) rfl (fun ls hl => ?_)
      refine lv_goto (tgt := 74) hx hb zd_M_count_108 (by decide) ?_
      rw [(show zf_M_count_L74 w0 w1 w2 w3 w4 w5 w6 w7 w9 w10 w11 w12 w20 w21 p1 x2 (mm + 1) k x3 = zf_M_count_L74 w0 w1 w2 w3 w4 w5 w6 w7 w9 w10 w11 w12 w20 w21 p1 x2 mm (k + 1) (x3 + 0) from by rw [zf_M_count_L74, if_pos c_95])]
      exact ih (k + 1) (by omega) (x3 + 0)   _ _ hP hD hS _ (lv_sub hl [2, 3, 4, 1, 0] rfl)
    · refine lv_iconst (v := 1) hx hb zd_M_count_98 (by decide) ?_
      refine lv_goto (tgt := 103) hx hb zd_M_count_99 (by decide) ?_
      refine lv_iadd hx hb zd_M_count_103 ?_
      refine lv_istore_n (lv' := [(3, .int (x3 + 1)), (0, .ref a0), (1, .int p1), (2, .int x2), (4, .int (nI k))]) hx hb zd_M_count_104 rfl hl (by decide) rfl (fun ls hl => ?_)
      refine lv_iinc (v := nI (k + 1)) (lv' := [(4, .int (nI (k + 1))), (3, .int (x3 + 1)), (0, .ref a0), (1, .int p1), (2, .int x2)]) hx hb zd_M_count_105 hl (k := 4) rfl (nI_1 k) (by decide) rfl (fun ls hl => ?_)
      refine lv_goto (tgt := 74) hx hb zd_M_count_108 (by decide) ?_
      rw [(show zf_M_count_L74 w0 w1 w2 w3 w4 w5 w6 w7 w9 w10 w11 w12 w20 w21 p1 x2 (mm + 1) k x3 = zf_M_count_L74 w0 w1 w2 w3 w4 w5 w6 w7 w9 w10 w11 w12 w20 w21 p1 x2 mm (k + 1) (x3 + 1) from by rw [zf_M_count_L74, if_neg c_95])]
      exact ih (k + 1) (by omega) (x3 + 1)   _ _ hP hD hS _ (lv_sub hl [2, 3, 4, 1, 0] rfl)
set_option maxHeartbeats 4000000 in
set_option maxRecDepth 100000 in
theorem zp_M_count_39 {p : Program} {l : Launch} {e : Env} {s : State} {m : MethodId} {below : List Frame} {meth : Method} {c : Code} {A : Nat → Prop} (dC : Nat → ClassId) (dI : Nat → Nat → Nat) (cI cZ cL : ClassId) (a0 a1 a2 a3 a4 a5 a6 a7 : Nat) (w0 : Int32) (w1 : Int32) (w2 : Nat) (w3 : Nat → Int32) (w4 : Nat → Int64) (w5 : Int32) (w6 : Int32) (w7 : Nat) (w8 : Nat → Int64) (w9 : Nat → Int32) (w10 : Nat) (w11 : Nat → Int32) (w12 : Nat → Int32) (w13 : Nat → Int32) (w14 : Int32) (w15 : Int32) (w16 : Int32) (w17 : Int32) (w18 : Int32) (w19 : Int64) (w20 : Int32) (w21 : Int32) (p1 : Int32) (hm : w2 ≤ 30) (hc : w7 ≤ 20) (hp : w10 ≤ 20) (C0 : zz_C p s m ([.ref a0, .int p1] : List Value).toArray meth c zb_M_count 5 (some .int) zy_M_count.cls) (hA : ∀ q : Nat, s.heap.size ≤ q → A q) (hK : va_K (dC, dI) zz_cl (zz_ty cI cZ cL) s) :
    ∀ (mm k : Nat), k + mm = w2 + 1 → ∀ (x2 : Int32), ∀ (H : Heap) (locs : List Loc), va_P (dC, dI) zz_cl (zv_M cI cZ cL a0 a1 a2 a3 a4 a5 a6 a7 w0 w1 w2 w3 w4 w5 w6 w7 w8 w9 w10 w11 w12 w13 w14 w15 w16 w17 w18 w19 w20 w21) H → va_D A (zv_M cI cZ cL a0 a1 a2 a3 a4 a5 a6 a7 w0 w1 w2 w3 w4 w5 w6 w7 w8 w9 w10 w11 w12 w13 w14 w15 w16 w17 w18 w19 w20 w21) → va_S A s.heap H locs → ∀ ls : Array Slot, lv_has ls 5 [(0, .ref a0), (1, .int p1), (2, .int x2), (3, .int (nI k))] →
    W p l e ({ frames := 2, cells := 0, slots := 0, locals := 45 } : Room) s m ([.ref a0, .int p1] : List Value).toArray below meth c H locs 0 0 (MQ below (zz_Qi (dC, dI) (zz_ty cI cZ cL) A ((zf_M_count_L39 w0 w1 w2 w3 w4 w5 w6 w7 w9 w10 w11 w12 w20 w21 p1 mm k x2).1) (zv_M cI cZ cL a0 a1 a2 a3 a4 a5 a6 a7 ((zf_M_count_L39 w0 w1 w2 w3 w4 w5 w6 w7 w9 w10 w11 w12 w20 w21 p1 mm k x2).2) w1 w2 w3 w4 w5 w6 w7 w8 w9 w10 w11 w12 w13 w14 w15 w16 w17 w18 w19 w20 w21)) ([.ref a0, .int p1] : List Value).toArray s 0 0 A) (F0 m 39 ls []) := by
  obtain ⟨hx, hb, hr, hml, hown, htB, hlocks, hE⟩ := id C0
  intro mm
  induction mm with
  | zero =>
    intro k hk x2 H locs hP hD hS ls hl
    refine lv_iload_n hx hb zd_M_count_39 rfl (lv_at hl 3 rfl) ?_
    refine lv_aload_n hx hb zd_M_count_40 rfl (lv_at hl 0 rfl) ?_
    refine va_get (D := (dC, dI)) (ci := 5) (v := .int (nI w2)) (C := zr_M) (T := zF_M) (N := 22) hx hb htB zi_M hown hK hP 0 rfl rfl 2 (by decide) (htB _ zk_d4ba64b0) (fun _ h9 => h9) rfl zd_M_count_41 ?_
    refine lv_icmp_gt (tgt := 69) hx hb zd_M_count_44 (by decide) (fun _ => ?_) (fun c_ => absurd (zz_gtT (b := w2) rfl (by omega) (by omega)) c_)
    refine lv_iconst (v := 0) hx hb zd_M_count_69 (by decide) ?_
    refine lv_istore_n (lv' := [(3, .int 0), (0, .ref a0), (1, .int p1), (2, .int x2)]) hx hb zd_M_count_70 rfl hl (by decide) rfl (fun ls hl => ?_)
    refine lv_iconst (v := 0) hx hb zd_M_count_71 (by decide) ?_
    refine lv_istore (lv' := [(4, .int 0), (3, .int 0), (0, .ref a0), (1, .int p1), (2, .int x2)]) hx hb zd_M_count_72 hl (by decide) rfl (fun ls hl => ?_)
    rw [(show zf_M_count_L39 w0 w1 w2 w3 w4 w5 w6 w7 w9 w10 w11 w12 w20 w21 p1 0 k x2 = zf_M_count_L74 w0 w1 w2 w3 w4 w5 w6 w7 w9 w10 w11 w12 w20 w21 p1 x2 w7 0 0 from by first | rfl | (rw [zf_M_count_L39]))]
    exact zp_M_count_74 dC dI cI cZ cL a0 a1 a2 a3 a4 a5 a6 a7 w0 w1 w2 w3 w4 w5 w6 w7 w8 w9 w10 w11 w12 w13 w14 w15 w16 w17 w18 w19 w20 w21 p1 x2 hm hc hp C0 hA hK w7 0 (by omega) 0   _ _ hP hD hS _ (lv_sub hl [2, 3, 4, 1, 0] rfl)
  | succ mm ih =>
    intro k hk x2 H locs hP hD hS ls hl
    refine lv_iload_n hx hb zd_M_count_39 rfl (lv_at hl 3 rfl) ?_
    refine lv_aload_n hx hb zd_M_count_40 rfl (lv_at hl 0 rfl) ?_
    refine va_get (D := (dC, dI)) (ci := 5) (v := .int (nI w2)) (C := zr_M) (T := zF_M) (N := 22) hx hb htB zi_M hown hK hP 0 rfl rfl 2 (by decide) (htB _ zk_d4ba64b0) (fun _ h9 => h9) rfl zd_M_count_41 ?_
    refine lv_icmp_gt (tgt := 69) hx hb zd_M_count_44 (by decide) (fun c_ => absurd c_ (zz_gtF (b := w2) rfl (by omega) (by omega))) (fun _ => ?_)
    refine lv_iload_n hx hb zd_M_count_47 rfl (lv_at hl 2 rfl) ?_
    refine lv_aload_n hx hb zd_M_count_48 rfl (lv_at hl 0 rfl) ?_
    refine lv_iload_n hx hb zd_M_count_49 rfl (lv_at hl 3 rfl) ?_
    refine zz_ki (va_runV (As := [.int (nI k)]) (rest := [.int x2]) ⟨hx, hb, hml, hown, htB⟩ (zc_M_isLine l dC dI cI cZ cL a0 a1 a2 a3 a4 a5 a6 a7 H.size w0 w1 w2 w3 w4 w5 w6 w7 w8 w9 w10 w11 w12 w13 w14 w15 w16 w17 w18 w19 w20 w21 (nI k) hm) (cwV 1 htB (zz_gV zk_42c4ccab zk_0528e464 zk_1a6dee55 zk_91cc3b19 zk_8cffb020) rfl rfl rfl ⟨rfl, zh_M_isLine⟩ ⟨Nat.le_of_ble_eq_true rfl, Nat.le_of_ble_eq_true rfl⟩) (zz_preV (ci := 5) (q := (zr_M, zF_M, 22)) hP hD hK hE [0, 1, 2, 3, 4, 5, 6, 7] (by decide) rfl rfl rfl) rfl rfl hl.1 rfl (lv_room (Nat.le_of_ble_eq_true rfl)) zd_M_count_50 ⟨Nat.le_of_ble_eq_true rfl, Nat.le_of_ble_eq_true rfl⟩) ?_
    refine lv_if_eq (tgt := 60) hx hb zd_M_count_53 (by decide) (fun c_53 => ?_) (fun c_53 => ?_)
    · refine lv_iconst (v := 0) hx hb zd_M_count_60 (by decide) ?_
      refine lv_iadd hx hb zd_M_count_61 ?_
      refine lv_istore_n (lv' := [(2, .int (x2 + 0)), (0, .ref a0), (1, .int p1), (3, .int (nI k))]) hx hb zd_M_count_62 rfl hl (by decide) rfl (fun ls hl => ?_)
      refine lv_iinc (v := nI (k + 1)) (lv' := [(3, .int (nI (k + 1))), (2, .int (x2 + 0)), (0, .ref a0), (1, .int p1)]) hx hb zd_M_count_63 hl (k := 3) rfl (nI_1 k) (by decide) rfl (fun ls hl => ?_)
      refine lv_goto (tgt := 39) hx hb zd_M_count_66 (by decide) ?_
      rw [(show zf_M_count_L39 w0 w1 w2 w3 w4 w5 w6 w7 w9 w10 w11 w12 w20 w21 p1 (mm + 1) k x2 = zf_M_count_L39 w0 w1 w2 w3 w4 w5 w6 w7 w9 w10 w11 w12 w20 w21 p1 mm (k + 1) (x2 + 0) from by rw [zf_M_count_L39, if_pos c_53])]
      exact ih (k + 1) (by omega) (x2 + 0)   _ _ hP hD hS _ (lv_sub hl [2, 3, 1, 0] rfl)
    · refine lv_iconst (v := 1) hx hb zd_M_count_56 (by decide) ?_
      refine lv_goto (tgt := 61) hx hb zd_M_count_57 (by decide) ?_
      refine lv_iadd hx hb zd_M_count_61 ?_
      refine lv_istore_n (lv' := [(2, .int (x2 + 1)), (0, .ref a0), (1, .int p1), (3, .int (nI k))]) hx hb zd_M_count_62 rfl hl (by decide) rfl (fun ls hl => ?_)
      refine lv_iinc (v := nI (k + 1)) (lv' := [(3, .int (nI (k + 1))), (2, .int (x2 + 1)), (0, .ref a0), (1, .int p1)]) hx hb zd_M_count_63 hl (k := 3) rfl (nI_1 k) (by decide) rfl (fun ls hl => ?_)
      refine lv_goto (tgt := 39) hx hb zd_M_count_66 (by decide) ?_
      rw [(show zf_M_count_L39 w0 w1 w2 w3 w4 w5 w6 w7 w9 w10 w11 w12 w20 w21 p1 (mm + 1) k x2 = zf_M_count_L39 w0 w1 w2 w3 w4 w5 w6 w7 w9 w10 w11 w12 w20 w21 p1 mm (k + 1) (x2 + 1) from by rw [zf_M_count_L39, if_neg c_53])]
      exact ih (k + 1) (by omega) (x2 + 1)   _ _ hP hD hS _ (lv_sub hl [2, 3, 1, 0] rfl)
set_option maxHeartbeats 4000000 in
set_option maxRecDepth 100000 in
theorem zc_M_count (l : Launch) (dC : Nat → ClassId) (dI : Nat → Nat → Nat) (cI cZ cL : ClassId) (a0 a1 a2 a3 a4 a5 a6 a7 : Nat) (sz : Nat) (w0 : Int32) (w1 : Int32) (w2 : Nat) (w3 : Nat → Int32) (w4 : Nat → Int64) (w5 : Int32) (w6 : Int32) (w7 : Nat) (w8 : Nat → Int64) (w9 : Nat → Int32) (w10 : Nat) (w11 : Nat → Int32) (w12 : Nat → Int32) (w13 : Nat → Int32) (w14 : Int32) (w15 : Int32) (w16 : Int32) (w17 : Int32) (w18 : Int32) (w19 : Int64) (w20 : Int32) (w21 : Int32) (p1 : Int32) (hm : w2 ≤ 30) (hc : w7 ≤ 20) (hp : w10 ≤ 20) : Met l zy_M_count (zz_ws zy_M_count zb_M_count 5 (some .int)) ({ frames := 2, cells := 0, slots := 0, locals := 45 } : Room) (va_Pc ([.ref a0, .int p1] : List Value) (zz_P (dC, dI) (zz_ty cI cZ cL) sz (zv_M cI cZ cL a0 a1 a2 a3 a4 a5 a6 a7 w0 w1 w2 w3 w4 w5 w6 w7 w8 w9 w10 w11 w12 w13 w14 w15 w16 w17 w18 w19 w20 w21))) (zz_Qi (dC, dI) (zz_ty cI cZ cL) (va_A (zv_M cI cZ cL a0 a1 a2 a3 a4 a5 a6 a7 w0 w1 w2 w3 w4 w5 w6 w7 w8 w9 w10 w11 w12 w13 w14 w15 w16 w17 w18 w19 w20 w21) sz) ((zf_M_count w0 w1 w2 w3 w4 w5 w6 w7 w9 w10 w11 w12 w20 w21 p1).1) (zv_M cI cZ cL a0 a1 a2 a3 a4 a5 a6 a7 ((zf_M_count w0 w1 w2 w3 w4 w5 w6 w7 w9 w10 w11 w12 w20 w21 p1).2) w1 w2 w3 w4 w5 w6 w7 w8 w9 w10 w11 w12 w13 w14 w15 w16 w17 w18 w19 w20 w21)) 0 0 (va_A (zv_M cI cZ cL a0 a1 a2 a3 a4 a5 a6 a7 w0 w1 w2 w3 w4 w5 w6 w7 w8 w9 w10 w11 w12 w13 w14 w15 w16 w17 w18 w19 w20 w21) sz) := by
  refine zz_ofW (Q := fun A => (zz_Qi (dC, dI) (zz_ty cI cZ cL) A ((zf_M_count w0 w1 w2 w3 w4 w5 w6 w7 w9 w10 w11 w12 w20 w21 p1).1) (zv_M cI cZ cL a0 a1 a2 a3 a4 a5 a6 a7 ((zf_M_count w0 w1 w2 w3 w4 w5 w6 w7 w9 w10 w11 w12 w20 w21 p1).2) w1 w2 w3 w4 w5 w6 w7 w8 w9 w10 w11 w12 w13 w14 w15 w16 w17 w18 w19 w20 w21))) (by decide) (Nat.le_of_ble_eq_true rfl) ?_
  intro p e s m below meth c A C0 _ hA hK hP hD _ ls hl
  obtain ⟨hx, hb, hr, hml, hown, htB, hlocks, hE⟩ := id C0
  have hS : va_S A s.heap s.heap [] := va_S.rf
  have hl : lv_has ls 5 [(0, .ref a0), (1, .int p1)] := hl
  refine lv_aload_n hx hb zd_M_count_0 rfl (lv_at hl 0 rfl) ?_
  refine lv_iconst (v := 0) hx hb zd_M_count_1 (by decide) ?_
  refine va_put (D := (dC, dI)) (ci := 5) (v := .int 0) (C := zr_M) (T := zF_M) (N := 22) hx hb htB zi_M zT_M zT_M_ok zn_M hown hK hP hD hS 0 rfl rfl 0 (by decide) (htB _ zk_d62d4141) (fun _ h9 => h9) rfl (zT_M_ok 0 (by decide)) rfl rfl (Nat.le_of_ble_eq_true rfl) zd_M_count_2 (fun H locs hP hD hS => ?_)
  have hP : va_P (dC, dI) zz_cl (zv_M cI cZ cL a0 a1 a2 a3 a4 a5 a6 a7 0 w1 w2 w3 w4 w5 w6 w7 w8 w9 w10 w11 w12 w13 w14 w15 w16 w17 w18 w19 w20 w21) H := hP
  have hD : va_D A (zv_M cI cZ cL a0 a1 a2 a3 a4 a5 a6 a7 0 w1 w2 w3 w4 w5 w6 w7 w8 w9 w10 w11 w12 w13 w14 w15 w16 w17 w18 w19 w20 w21) := hD
  refine lv_iload_n hx hb zd_M_count_5 rfl (lv_at hl 1 rfl) ?_
  refine lv_bipush (v := 100) hx hb zd_M_count_6 (by decide) ?_
  refine lv_icmp_lt (tgt := 35) hx hb zd_M_count_8 (by decide) (fun c_8 => ?_) (fun c_8 => ?_)
  · refine lv_iconst (v := 0) hx hb zd_M_count_35 (by decide) ?_
    refine lv_istore_n (lv' := [(2, .int 0), (0, .ref a0), (1, .int p1)]) hx hb zd_M_count_36 rfl hl (by decide) rfl (fun ls hl => ?_)
    refine lv_iconst (v := 1) hx hb zd_M_count_37 (by decide) ?_
    refine lv_istore_n (lv' := [(3, .int 1), (2, .int 0), (0, .ref a0), (1, .int p1)]) hx hb zd_M_count_38 rfl hl (by decide) rfl (fun ls hl => ?_)
    rw [(show zf_M_count w0 w1 w2 w3 w4 w5 w6 w7 w9 w10 w11 w12 w20 w21 p1 = zf_M_count_L39 0 w1 w2 w3 w4 w5 w6 w7 w9 w10 w11 w12 w20 w21 p1 w2 1 0 from by rw [zf_M_count, if_pos c_8])]
    exact zp_M_count_39 dC dI cI cZ cL a0 a1 a2 a3 a4 a5 a6 a7 0 w1 w2 w3 w4 w5 w6 w7 w8 w9 w10 w11 w12 w13 w14 w15 w16 w17 w18 w19 w20 w21 p1 hm hc hp C0 hA hK w2 1 (by omega) 0   _ _ hP hD hS _ (lv_sub hl [2, 3, 1, 0] rfl)
  · refine lv_aload_n hx hb zd_M_count_11 rfl (lv_at hl 0 rfl) ?_
    refine lv_iload_n hx hb zd_M_count_12 rfl (lv_at hl 1 rfl) ?_
    refine lv_bipush (v := 100) hx hb zd_M_count_13 (by decide) ?_
    refine lv_isub hx hb zd_M_count_15 ?_
    refine zz_ki (va_runV (As := [.int (p1 - 100)]) (rest := []) ⟨hx, hb, hml, hown, htB⟩ (zc_M_paperOf l dC dI cI cZ cL a0 a1 a2 a3 a4 a5 a6 a7 H.size 0 w1 w2 w3 w4 w5 w6 w7 w8 w9 w10 w11 w12 w13 w14 w15 w16 w17 w18 w19 w20 w21 (p1 - 100) hp) (cwV 1 htB (zz_gV zk_5b5c84fc zk_6fdb838a zk_5e10595c zk_91cc3b19 zk_d550abbc) rfl rfl rfl ⟨rfl, zh_M_paperOf⟩ ⟨Nat.le_of_ble_eq_true rfl, Nat.le_of_ble_eq_true rfl⟩) (zz_preV (ci := 5) (q := (zr_M, zF_M, 22)) hP hD hK hE [0, 1, 2, 3, 4, 5, 6, 7] (by decide) rfl rfl rfl) rfl rfl hl.1 rfl (lv_room (Nat.le_of_ble_eq_true rfl)) zd_M_count_16 ⟨Nat.le_of_ble_eq_true rfl, Nat.le_of_ble_eq_true rfl⟩) ?_
    refine lv_istore_n (lv' := [(2, .int (zf_M_paperOf w10 w11 (p1 - 100))), (0, .ref a0), (1, .int p1)]) hx hb zd_M_count_19 rfl hl (by decide) rfl (fun ls hl => ?_)
    refine lv_iload_n hx hb zd_M_count_20 rfl (lv_at hl 0 rfl) ?_
    refine lv_if_ge (tgt := 28) hx hb zd_M_count_21 (by decide) (fun c_21 => ?_) (fun c_21 => ?_)
    · refine lv_aload_n hx hb zd_M_count_28 rfl (lv_at hl 1 rfl) ?_
      refine va_get (D := (dC, dI)) (ci := 5) (v := .ref a6) (C := zr_M) (T := zF_M) (N := 22) hx hb htB zi_M hown hK hP 0 rfl rfl 12 (by decide) (htB _ zk_efdf3cf0) (fun _ h9 => h9) rfl zd_M_count_29 ?_
      refine lv_iload_n hx hb zd_M_count_32 rfl (lv_at hl 0 rfl) ?_
      refine va_iald hx hb hK hP 6 0 rfl rfl (zy_mpf2 hp c_21) zd_M_count_33 ?_
      rw [(show zf_M_count w0 w1 w2 w3 w4 w5 w6 w7 w9 w10 w11 w12 w20 w21 p1 = (w12 (zf_M_paperOf w10 w11 (p1 - 100)).toNatClampNeg, 0) from by rw [zf_M_count, if_neg c_8, if_pos c_21])]
      exact zz_iret hx hb hr hlocks hK hP hD hS zd_M_count_34 rfl
    · refine lv_iconst (v := (-1)) hx hb zd_M_count_24 (by decide) ?_
      refine lv_goto (tgt := 34) hx hb zd_M_count_25 (by decide) ?_
      rw [(show zf_M_count w0 w1 w2 w3 w4 w5 w6 w7 w9 w10 w11 w12 w20 w21 p1 = ((-1), 0) from by rw [zf_M_count, if_neg c_8, if_neg c_21])]
      exact zz_iret hx hb hr hlocks hK hP hD hS zd_M_count_34 rfl
