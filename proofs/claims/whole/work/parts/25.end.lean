theorem zl_m {w : Cond} (i : Nat) (h : lw_tbl[i]? = some w) : w ∈ lw_tbl := List.mem_of_getElem? h
set_option maxHeartbeats 4000000 in
set_option maxRecDepth 100000 in
theorem zl_en1 {b : Nat} {s : State} (hts : ∀ w ∈ lw_tbl, w.before #[Value.ref b] s = true) : ∀ q ∈ zz_nest, va_Nw (.methodLinkNest q.1 q.2.1 q.2.2.1 q.2.2.2) s := by
  unfold zz_nest
  exact List.forall_mem_cons.mpr ⟨va_Nw.of rfl (hts _ (zl_m 238 rfl)), List.forall_mem_cons.mpr ⟨va_Nw.of rfl (hts _ (zl_m 241 rfl)), List.forall_mem_cons.mpr ⟨va_Nw.of rfl (hts _ (zl_m 235 rfl)), List.forall_mem_cons.mpr ⟨va_Nw.of rfl (hts _ (zl_m 330 rfl)), List.forall_mem_cons.mpr ⟨va_Nw.of rfl (hts _ (zl_m 83 rfl)), List.forall_mem_cons.mpr ⟨va_Nw.of rfl (hts _ (zl_m 99 rfl)), List.forall_mem_cons.mpr ⟨va_Nw.of rfl (hts _ (zl_m 118 rfl)), (fun _ h => absurd h List.not_mem_nil)⟩⟩⟩⟩⟩⟩⟩
set_option maxHeartbeats 4000000 in
set_option maxRecDepth 100000 in
theorem zl_s0 {b : Nat} {s : State} (hts : ∀ w ∈ lw_tbl, w.before #[Value.ref b] s = true) (hgv : (Jvm.Cond.and given_1 narrow_1).before #[Value.ref b] s = true) : ∃ a : Nat, vk_R "DeclareForms" 63 "no further line" a s := by
  obtain ⟨a, c, ce, k, h1, -⟩ := Cond.exactly_spec (flat_of_before _ hgv (.exactly (.string "DeclareForms" 63) "java/lang/String") (by decide +kernel))
  exact ⟨a, vk_R.of (hts _ (zl_m 421 rfl)) h1⟩
set_option maxHeartbeats 4000000 in
set_option maxRecDepth 100000 in
theorem zl_s1 {b : Nat} {s : State} (hts : ∀ w ∈ lw_tbl, w.before #[Value.ref b] s = true) (hgv : (Jvm.Cond.and given_1 narrow_1).before #[Value.ref b] s = true) : ∃ a : Nat, vk_R "DeclareForms" 93 "no such field, line or value" a s := by
  obtain ⟨a, c, ce, k, h1, -⟩ := Cond.exactly_spec (flat_of_before _ hgv (.exactly (.string "DeclareForms" 93) "java/lang/String") (by decide +kernel))
  exact ⟨a, vk_R.of (hts _ (zl_m 470 rfl)) h1⟩
set_option maxHeartbeats 4000000 in
set_option maxRecDepth 100000 in
theorem zl_s2 {b : Nat} {s : State} (hts : ∀ w ∈ lw_tbl, w.before #[Value.ref b] s = true) (hgv : (Jvm.Cond.and given_1 narrow_1).before #[Value.ref b] s = true) : ∃ a : Nat, vk_R "DeclareForms" 106 "no such field or line" a s := by
  obtain ⟨a, c, ce, k, h1, -⟩ := Cond.exactly_spec (flat_of_before _ hgv (.exactly (.string "DeclareForms" 106) "java/lang/String") (by decide +kernel))
  exact ⟨a, vk_R.of (hts _ (zl_m 485 rfl)) h1⟩
set_option maxHeartbeats 4000000 in
set_option maxRecDepth 100000 in
theorem zl_s3 {b : Nat} {s : State} (hts : ∀ w ∈ lw_tbl, w.before #[Value.ref b] s = true) (hgv : (Jvm.Cond.and given_1 narrow_1).before #[Value.ref b] s = true) : ∃ a : Nat, vk_R "DeclareForms" 108 "no such field" a s := by
  obtain ⟨a, c, ce, k, h1, -⟩ := Cond.exactly_spec (flat_of_before _ hgv (.exactly (.string "DeclareForms" 108) "java/lang/String") (by decide +kernel))
  exact ⟨a, vk_R.of (hts _ (zl_m 493 rfl)) h1⟩
set_option maxHeartbeats 4000000 in
set_option maxRecDepth 100000 in
theorem zl_s4 {b : Nat} {s : State} (hts : ∀ w ∈ lw_tbl, w.before #[Value.ref b] s = true) (hgv : (Jvm.Cond.and given_1 narrow_1).before #[Value.ref b] s = true) : ∃ a : Nat, vk_R "DeclareForms" 138 "not lodged" a s := by
  obtain ⟨a, c, ce, k, h1, -⟩ := Cond.exactly_spec (flat_of_before _ hgv (.exactly (.string "DeclareForms" 138) "java/lang/String") (by decide +kernel))
  exact ⟨a, vk_R.of (hts _ (zl_m 501 rfl)) h1⟩
set_option maxHeartbeats 4000000 in
set_option maxRecDepth 100000 in
theorem zl_s5 {b : Nat} {s : State} (hts : ∀ w ∈ lw_tbl, w.before #[Value.ref b] s = true) (hgv : (Jvm.Cond.and given_1 narrow_1).before #[Value.ref b] s = true) : ∃ a : Nat, vk_R "DeclareForms" 146 "no such line, paper or amount" a s := by
  obtain ⟨a, c, ce, k, h1, -⟩ := Cond.exactly_spec (flat_of_before _ hgv (.exactly (.string "DeclareForms" 146) "java/lang/String") (by decide +kernel))
  exact ⟨a, vk_R.of (hts _ (zl_m 510 rfl)) h1⟩
set_option maxHeartbeats 4000000 in
set_option maxRecDepth 100000 in
theorem zl_s6 {b : Nat} {s : State} (hts : ∀ w ∈ lw_tbl, w.before #[Value.ref b] s = true) (hgv : (Jvm.Cond.and given_1 narrow_1).before #[Value.ref b] s = true) : ∃ a : Nat, vk_R "DeclareForms" 152 "no field of lines" a s := by
  obtain ⟨a, c, ce, k, h1, -⟩ := Cond.exactly_spec (flat_of_before _ hgv (.exactly (.string "DeclareForms" 152) "java/lang/String") (by decide +kernel))
  exact ⟨a, vk_R.of (hts _ (zl_m 522 rfl)) h1⟩
set_option maxHeartbeats 4000000 in
set_option maxRecDepth 100000 in
theorem zl_s7 {b : Nat} {s : State} (hts : ∀ w ∈ lw_tbl, w.before #[Value.ref b] s = true) (hgv : (Jvm.Cond.and given_1 narrow_1).before #[Value.ref b] s = true) : ∃ a : Nat, vk_R "DeclareForms" 166 "no such byte" a s := by
  obtain ⟨a, c, ce, k, h1, -⟩ := Cond.exactly_spec (flat_of_before _ hgv (.exactly (.string "DeclareForms" 166) "java/lang/String") (by decide +kernel))
  exact ⟨a, vk_R.of (hts _ (zl_m 542 rfl)) h1⟩
set_option maxHeartbeats 4000000 in
set_option maxRecDepth 100000 in
theorem zl_en2 {b : Nat} {s : State} (hts : ∀ w ∈ lw_tbl, w.before #[Value.ref b] s = true) (hgv : (Jvm.Cond.and given_1 narrow_1).before #[Value.ref b] s = true) : ∀ q ∈ zz_strs, ∃ a : Nat, vk_R q.1 q.2.1 q.2.2 a s := by
  unfold zz_strs
  exact List.forall_mem_cons.mpr ⟨zl_s0 hts hgv, List.forall_mem_cons.mpr ⟨zl_s1 hts hgv, List.forall_mem_cons.mpr ⟨zl_s2 hts hgv, List.forall_mem_cons.mpr ⟨zl_s3 hts hgv, List.forall_mem_cons.mpr ⟨zl_s4 hts hgv, List.forall_mem_cons.mpr ⟨zl_s5 hts hgv, List.forall_mem_cons.mpr ⟨zl_s6 hts hgv, List.forall_mem_cons.mpr ⟨zl_s7 hts hgv, (fun _ h => absurd h List.not_mem_nil)⟩⟩⟩⟩⟩⟩⟩⟩
set_option maxHeartbeats 4000000 in
set_option maxRecDepth 100000 in
theorem zl_en3 {b : Nat} {s : State} (hts : ∀ w ∈ lw_tbl, w.before #[Value.ref b] s = true) : ∀ y ∈ zz_decl, va_Nw (.declares y) s := by
  unfold zz_decl
  exact List.forall_mem_cons.mpr ⟨va_Nw.of rfl (hts _ (zl_m 384 rfl)), List.forall_mem_cons.mpr ⟨va_Nw.of rfl (hts _ (zl_m 386 rfl)), List.forall_mem_cons.mpr ⟨va_Nw.of rfl (hts _ (zl_m 388 rfl)), (fun _ h => absurd h List.not_mem_nil)⟩⟩⟩
set_option maxHeartbeats 4000000 in
set_option maxRecDepth 100000 in
theorem zl_en4 {b : Nat} {s : State} (hts : ∀ w ∈ lw_tbl, w.before #[Value.ref b] s = true) : ∀ X ∈ zz_cast, va_Nw (.castable X X) s := by
  unfold zz_cast
  exact List.forall_mem_cons.mpr ⟨va_Nw.of rfl (hts _ (zl_m 382 rfl)), List.forall_mem_cons.mpr ⟨va_Nw.of rfl (hts _ (zl_m 463 rfl)), List.forall_mem_cons.mpr ⟨va_Nw.of rfl (hts _ (zl_m 535 rfl)), (fun _ h => absurd h List.not_mem_nil)⟩⟩⟩
set_option maxHeartbeats 4000000 in
set_option maxRecDepth 100000 in
theorem zl_en {b : Nat} {s : State} (hts : ∀ w ∈ lw_tbl, w.before #[Value.ref b] s = true) (hgv : (Jvm.Cond.and given_1 narrow_1).before #[Value.ref b] s = true) : zz_en s := ⟨zl_en1 hts, zl_en2 hts hgv, zl_en3 hts, zl_en4 hts, va_Nc.of (flat_of_before _ hgv (.not (.castable "java/lang/IllegalStateException" "java/lang/IllegalArgumentException")) (by decide +kernel))⟩
set_option maxHeartbeats 4000000 in
set_option maxRecDepth 100000 in
theorem zl_z {b : Nat} {s : State} (hts : ∀ w ∈ lw_tbl, w.before #[Value.ref b] s = true) (hgv : (Jvm.Cond.and given_1 narrow_1).before #[Value.ref b] s = true) {A : Nat → Prop} (hA : ∀ a : Nat, a < s.heap.size → ¬ A a) : zt_Z A s := ⟨zt_Zs.of (hts _ (zl_m (w := .laysStatic "java/lang/Throwable" "UNASSIGNED_STACK" "[Ljava/lang/StackTraceElement;") 407 rfl)) (flat_of_before _ hgv (.isRef (.static "java/lang/Throwable" "UNASSIGNED_STACK" "[Ljava/lang/StackTraceElement;")) (by decide +kernel)) hA, zt_Zs.of (hts _ (zl_m (w := .laysStatic "java/lang/Throwable" "SUPPRESSED_SENTINEL" "Ljava/util/List;") 409 rfl)) (flat_of_before _ hgv (.isRef (.static "java/lang/Throwable" "SUPPRESSED_SENTINEL" "Ljava/util/List;")) (by decide +kernel)) hA⟩
set_option maxHeartbeats 4000000 in
set_option maxRecDepth 100000 in
theorem zl_exit {p : Program} {l : Launch} {e : Env} {s : State} {m : MethodId} {below : List Frame} {meth : Method} {c : Code} {A : Nat → Prop} {dC : Nat → ClassId} {dI : Nat → Nat → Nat} {cI cZ cL : ClassId} {a0 a1 a2 a3 a4 a5 a6 a7 a8 a9 a10 a11 a12 a13 a14 a15 a16 a17 a18 a19 a20 b L : Nat} {xs : Nat → Int32} (F : zl_F l p s m meth c b L xs A dC dI cI cZ cL) {i cells slots : Nat} (hc : cells ≤ 1054) (hs : slots ≤ 10379) : zl_K p l e s m below meth c A dC dI cI cZ cL a0 a1 a2 a3 a4 a5 a6 a7 a8 a9 a10 a11 a12 a13 a14 a15 a16 a17 a18 a19 a20 b i cells slots 1008 := by
  obtain ⟨hx, hb, hml, hown, htB, hX, hbl, hbA, hE, hZ, hA, hK, hf0, hL, hAs, hr, hlocks⟩ := id F
  intro st w0 w1 w2 w3 w4 w5 w6 w7 w8 w9 w10 w11 w12 w13 w14 w15 w16 w17 w18 w19 w20 w21 o hR H locs hP hD hS ls hl
  refine lv_iconst (v := 1) hx hb zd_law_1008 (by decide) ?_
  refine va_forget (fun q hq => hAs q.base (hS.2.2 q hq)) ?_
  refine W.widen (k := 1054) (n := 10379) hc hs ?_
  exact lw_ret hx hb hr hlocks zd_law_1009
set_option maxHeartbeats 4000000 in
set_option maxRecDepth 100000 in
theorem zl_turn {p : Program} {l : Launch} {e : Env} {s : State} {m : MethodId} {below : List Frame} {meth : Method} {c : Code} {A : Nat → Prop} {dC : Nat → ClassId} {dI : Nat → Nat → Nat} {cI cZ cL : ClassId} {a0 a1 a2 a3 a4 a5 a6 a7 a8 a9 a10 a11 a12 a13 a14 a15 a16 a17 a18 a19 a20 b L : Nat} {xs : Nat → Int32} (F : zl_F l p s m meth c b L xs A dC dI cI cZ cL) {i t : Nat} (hi : i + 4 < L) (ht : t ≤ 511) (kk : zl_K p l e s m below meth c A dC dI cI cZ cL a0 a1 a2 a3 a4 a5 a6 a7 a8 a9 a10 a11 a12 a13 a14 a15 a16 a17 a18 a19 a20 b i (21 + t + 1) (2133 + 6 * t + 6) 1002) : zl_K p l e s m below meth c A dC dI cI cZ cL a0 a1 a2 a3 a4 a5 a6 a7 a8 a9 a10 a11 a12 a13 a14 a15 a16 a17 a18 a19 a20 b i (21 + t) (2133 + 6 * t) 42 := by
  obtain ⟨hx, hb, hml, hown, htB, hX, hbl, hbA, hE, hZ, hA, hK, hf0, hL, hAs, hr, hlocks⟩ := id F
  intro st w0 w1 w2 w3 w4 w5 w6 w7 w8 w9 w10 w11 w12 w13 w14 w15 w16 w17 w18 w19 w20 w21 o hR H locs hP hD hS ls hl
  refine lv_aload_n hx hb zd_law_42 rfl (lv_at hl 0 rfl) ?_
  refine lv_iload hx hb zd_law_43 (lv_at hl 4 rfl) ?_
  refine zl_sld hx hb hX hbl hbA hS (k := i) (by omega) (by omega) zd_law_45 ?_
  refine lv_bipush (v := 31) hx hb zd_law_46 (by decide) ?_
  refine lv_iand hx hb zd_law_48 ?_
  by_cases h0 : xs i &&& 31 = 0
  · refine lv_tableIn (off := 87) (tgt := 136) hx hb zd_law_49 (by rw [h0]; decide) (by rw [h0]; decide) (by rw [h0]; rfl) (by decide) ?_
    exact zl_arm_0 F hi ht kk st w0 w1 w2 w3 w4 w5 w6 w7 w8 w9 w10 w11 w12 w13 w14 w15 w16 w17 w18 w19 w20 w21 o hR H locs hP hD hS ls hl
  by_cases h1 : xs i &&& 31 = 1
  · refine lv_tableIn (off := 131) (tgt := 180) hx hb zd_law_49 (by rw [h1]; decide) (by rw [h1]; decide) (by rw [h1]; rfl) (by decide) ?_
    exact zl_arm_1 F hi ht kk st w0 w1 w2 w3 w4 w5 w6 w7 w8 w9 w10 w11 w12 w13 w14 w15 w16 w17 w18 w19 w20 w21 o hR H locs hP hD hS ls hl
  by_cases h2 : xs i &&& 31 = 2
  · refine lv_tableIn (off := 156) (tgt := 205) hx hb zd_law_49 (by rw [h2]; decide) (by rw [h2]; decide) (by rw [h2]; rfl) (by decide) ?_
    exact zl_arm_2 F hi ht kk st w0 w1 w2 w3 w4 w5 w6 w7 w8 w9 w10 w11 w12 w13 w14 w15 w16 w17 w18 w19 w20 w21 o hR H locs hP hD hS ls hl
  by_cases h3 : xs i &&& 31 = 3
  · refine lv_tableIn (off := 268) (tgt := 317) hx hb zd_law_49 (by rw [h3]; decide) (by rw [h3]; decide) (by rw [h3]; rfl) (by decide) ?_
    exact zl_arm_3 F hi ht kk st w0 w1 w2 w3 w4 w5 w6 w7 w8 w9 w10 w11 w12 w13 w14 w15 w16 w17 w18 w19 w20 w21 o hR H locs hP hD hS ls hl
  by_cases h4 : xs i &&& 31 = 4
  · refine lv_tableIn (off := 305) (tgt := 354) hx hb zd_law_49 (by rw [h4]; decide) (by rw [h4]; decide) (by rw [h4]; rfl) (by decide) ?_
    exact zl_arm_4 F hi ht kk st w0 w1 w2 w3 w4 w5 w6 w7 w8 w9 w10 w11 w12 w13 w14 w15 w16 w17 w18 w19 w20 w21 o hR H locs hP hD hS ls hl
  by_cases h5 : xs i &&& 31 = 5
  · refine lv_tableIn (off := 372) (tgt := 421) hx hb zd_law_49 (by rw [h5]; decide) (by rw [h5]; decide) (by rw [h5]; rfl) (by decide) ?_
    exact zl_arm_5 F hi ht kk st w0 w1 w2 w3 w4 w5 w6 w7 w8 w9 w10 w11 w12 w13 w14 w15 w16 w17 w18 w19 w20 w21 o hR H locs hP hD hS ls hl
  by_cases h6 : xs i &&& 31 = 6
  · refine lv_tableIn (off := 428) (tgt := 477) hx hb zd_law_49 (by rw [h6]; decide) (by rw [h6]; decide) (by rw [h6]; rfl) (by decide) ?_
    exact zl_arm_6 F hi ht kk st w0 w1 w2 w3 w4 w5 w6 w7 w8 w9 w10 w11 w12 w13 w14 w15 w16 w17 w18 w19 w20 w21 o hR H locs hP hD hS ls hl
  by_cases h7 : xs i &&& 31 = 7
  · refine lv_tableIn (off := 497) (tgt := 546) hx hb zd_law_49 (by rw [h7]; decide) (by rw [h7]; decide) (by rw [h7]; rfl) (by decide) ?_
    exact zl_arm_7 F hi ht kk st w0 w1 w2 w3 w4 w5 w6 w7 w8 w9 w10 w11 w12 w13 w14 w15 w16 w17 w18 w19 w20 w21 o hR H locs hP hD hS ls hl
  by_cases h8 : xs i &&& 31 = 8
  · refine lv_tableIn (off := 522) (tgt := 571) hx hb zd_law_49 (by rw [h8]; decide) (by rw [h8]; decide) (by rw [h8]; rfl) (by decide) ?_
    exact zl_arm_8 F hi ht kk st w0 w1 w2 w3 w4 w5 w6 w7 w8 w9 w10 w11 w12 w13 w14 w15 w16 w17 w18 w19 w20 w21 o hR H locs hP hD hS ls hl
  by_cases h9 : xs i &&& 31 = 9
  · refine lv_tableIn (off := 535) (tgt := 584) hx hb zd_law_49 (by rw [h9]; decide) (by rw [h9]; decide) (by rw [h9]; rfl) (by decide) ?_
    exact zl_arm_9 F hi ht kk st w0 w1 w2 w3 w4 w5 w6 w7 w8 w9 w10 w11 w12 w13 w14 w15 w16 w17 w18 w19 w20 w21 o hR H locs hP hD hS ls hl
  by_cases h10 : xs i &&& 31 = 10
  · refine lv_tableIn (off := 548) (tgt := 597) hx hb zd_law_49 (by rw [h10]; decide) (by rw [h10]; decide) (by rw [h10]; rfl) (by decide) ?_
    exact zl_arm_10 F hi ht kk st w0 w1 w2 w3 w4 w5 w6 w7 w8 w9 w10 w11 w12 w13 w14 w15 w16 w17 w18 w19 w20 w21 o hR H locs hP hD hS ls hl
  by_cases h11 : xs i &&& 31 = 11
  · refine lv_tableIn (off := 660) (tgt := 709) hx hb zd_law_49 (by rw [h11]; decide) (by rw [h11]; decide) (by rw [h11]; rfl) (by decide) ?_
    exact zl_arm_11 F hi ht kk st w0 w1 w2 w3 w4 w5 w6 w7 w8 w9 w10 w11 w12 w13 w14 w15 w16 w17 w18 w19 w20 w21 o hR H locs hP hD hS ls hl
  by_cases h12 : xs i &&& 31 = 12
  · refine lv_tableIn (off := 697) (tgt := 746) hx hb zd_law_49 (by rw [h12]; decide) (by rw [h12]; decide) (by rw [h12]; rfl) (by decide) ?_
    exact zl_arm_12 F hi ht kk st w0 w1 w2 w3 w4 w5 w6 w7 w8 w9 w10 w11 w12 w13 w14 w15 w16 w17 w18 w19 w20 w21 o hR H locs hP hD hS ls hl
  by_cases h13 : xs i &&& 31 = 13
  · refine lv_tableIn (off := 777) (tgt := 826) hx hb zd_law_49 (by rw [h13]; decide) (by rw [h13]; decide) (by rw [h13]; rfl) (by decide) ?_
    exact zl_arm_13 F hi ht kk st w0 w1 w2 w3 w4 w5 w6 w7 w8 w9 w10 w11 w12 w13 w14 w15 w16 w17 w18 w19 w20 w21 o hR H locs hP hD hS ls hl
  by_cases h14 : xs i &&& 31 = 14
  · refine lv_tableIn (off := 832) (tgt := 881) hx hb zd_law_49 (by rw [h14]; decide) (by rw [h14]; decide) (by rw [h14]; rfl) (by decide) ?_
    exact zl_arm_14 F hi ht kk st w0 w1 w2 w3 w4 w5 w6 w7 w8 w9 w10 w11 w12 w13 w14 w15 w16 w17 w18 w19 w20 w21 o hR H locs hP hD hS ls hl
  by_cases h15 : xs i &&& 31 = 15
  · refine lv_tableIn (off := 845) (tgt := 894) hx hb zd_law_49 (by rw [h15]; decide) (by rw [h15]; decide) (by rw [h15]; rfl) (by decide) ?_
    exact zl_arm_15 F hi ht kk st w0 w1 w2 w3 w4 w5 w6 w7 w8 w9 w10 w11 w12 w13 w14 w15 w16 w17 w18 w19 w20 w21 o hR H locs hP hD hS ls hl
  by_cases h16 : xs i &&& 31 = 16
  · refine lv_tableIn (off := 901) (tgt := 950) hx hb zd_law_49 (by rw [h16]; decide) (by rw [h16]; decide) (by rw [h16]; rfl) (by decide) ?_
    exact zl_arm_16 F hi ht kk st w0 w1 w2 w3 w4 w5 w6 w7 w8 w9 w10 w11 w12 w13 w14 w15 w16 w17 w18 w19 w20 w21 o hR H locs hP hD hS ls hl
  by_cases h17 : xs i &&& 31 = 17
  · refine lv_tableIn (off := 928) (tgt := 977) hx hb zd_law_49 (by rw [h17]; decide) (by rw [h17]; decide) (by rw [h17]; rfl) (by decide) ?_
    exact zl_arm_17 F hi ht kk st w0 w1 w2 w3 w4 w5 w6 w7 w8 w9 w10 w11 w12 w13 w14 w15 w16 w17 w18 w19 w20 w21 o hR H locs hP hD hS ls hl
  refine lv_tableOut (tgt := 1002) hx hb zd_law_49 (by have n0 := lv_neT h0 (a := 0) (by decide); have n1 := lv_neT h1 (a := 1) (by decide); have n2 := lv_neT h2 (a := 2) (by decide); have n3 := lv_neT h3 (a := 3) (by decide); have n4 := lv_neT h4 (a := 4) (by decide); have n5 := lv_neT h5 (a := 5) (by decide); have n6 := lv_neT h6 (a := 6) (by decide); have n7 := lv_neT h7 (a := 7) (by decide); have n8 := lv_neT h8 (a := 8) (by decide); have n9 := lv_neT h9 (a := 9) (by decide); have n10 := lv_neT h10 (a := 10) (by decide); have n11 := lv_neT h11 (a := 11) (by decide); have n12 := lv_neT h12 (a := 12) (by decide); have n13 := lv_neT h13 (a := 13) (by decide); have n14 := lv_neT h14 (a := 14) (by decide); have n15 := lv_neT h15 (a := 15) (by decide); have n16 := lv_neT h16 (a := 16) (by decide); have n17 := lv_neT h17 (a := 17) (by decide); omega) (by decide) ?_
  refine W.widen (k := 21 + t + 1) (n := 2133 + 6 * t + 6) (by omega) (by omega) ?_
  exact kk st w0 w1 w2 w3 w4 w5 w6 w7 w8 w9 w10 w11 w12 w13 w14 w15 w16 w17 w18 w19 w20 w21 o hR H locs hP hD hS ls hl
set_option maxHeartbeats 4000000 in
set_option maxRecDepth 100000 in
theorem zl_loop {p : Program} {l : Launch} {e : Env} {s : State} {m : MethodId} {below : List Frame} {meth : Method} {c : Code} {A : Nat → Prop} {dC : Nat → ClassId} {dI : Nat → Nat → Nat} {cI cZ cL : ClassId} {a0 a1 a2 a3 a4 a5 a6 a7 a8 a9 a10 a11 a12 a13 a14 a15 a16 a17 a18 a19 a20 b L : Nat} {xs : Nat → Int32} (F : zl_F l p s m meth c b L xs A dC dI cI cZ cL) : ∀ (n t : Nat), t + n = 512 → zl_K p l e s m below meth c A dC dI cI cZ cL a0 a1 a2 a3 a4 a5 a6 a7 a8 a9 a10 a11 a12 a13 a14 a15 a16 a17 a18 a19 a20 b (1 + 5 * t) (21 + t) (2133 + 6 * t) 33 := by
  obtain ⟨hx, hb, hml, hown, htB, hX, hbl, hbA, hE, hZ, hA, hK, hf0, hL, hAs, hr, hlocks⟩ := id F
  intro n
  induction n with
  | zero =>
    intro t ht st w0 w1 w2 w3 w4 w5 w6 w7 w8 w9 w10 w11 w12 w13 w14 w15 w16 w17 w18 w19 w20 w21 o hR H locs hP hD hS ls hl
    refine lv_iload hx hb zd_law_33 (lv_at hl 4 rfl) ?_
    refine lv_aload_n hx hb zd_law_35 rfl (lv_at hl 0 rfl) ?_
    refine va_slen hx hb hX hbl hbA hS zd_law_36 ?_
    refine lv_iconst (v := 5) hx hb zd_law_37 (by decide) ?_
    refine lv_isub hx hb zd_law_38 ?_
    refine lv_icmp_gt (tgt := 1008) hx hb zd_law_39 (by decide) (fun _ => ?_) (fun c_ => absurd ((zl_gt hL (by omega)).mpr (by omega)) c_)
    exact zl_exit F (by omega) (by omega) st w0 w1 w2 w3 w4 w5 w6 w7 w8 w9 w10 w11 w12 w13 w14 w15 w16 w17 w18 w19 w20 w21 o hR H locs hP hD hS ls hl
  | succ n ih =>
    intro t ht st w0 w1 w2 w3 w4 w5 w6 w7 w8 w9 w10 w11 w12 w13 w14 w15 w16 w17 w18 w19 w20 w21 o hR H locs hP hD hS ls hl
    refine lv_iload hx hb zd_law_33 (lv_at hl 4 rfl) ?_
    refine lv_aload_n hx hb zd_law_35 rfl (lv_at hl 0 rfl) ?_
    refine va_slen hx hb hX hbl hbA hS zd_law_36 ?_
    refine lv_iconst (v := 5) hx hb zd_law_37 (by decide) ?_
    refine lv_isub hx hb zd_law_38 ?_
    refine lv_icmp_gt (tgt := 1008) hx hb zd_law_39 (by decide) (fun _ => ?_) (fun c_ => ?_)
    · exact zl_exit F (by omega) (by omega) st w0 w1 w2 w3 w4 w5 w6 w7 w8 w9 w10 w11 w12 w13 w14 w15 w16 w17 w18 w19 w20 w21 o hR H locs hP hD hS ls hl
    · have hlt : 1 + 5 * t + 4 < L := by
        have c_ : ¬ nI L - 5 < nI (1 + 5 * t) := c_
        rw [zl_gt hL (by omega)] at c_
        omega
      refine zl_turn F hlt (by omega) ?_ st w0 w1 w2 w3 w4 w5 w6 w7 w8 w9 w10 w11 w12 w13 w14 w15 w16 w17 w18 w19 w20 w21 o hR H locs hP hD hS ls hl
      intro st w0 w1 w2 w3 w4 w5 w6 w7 w8 w9 w10 w11 w12 w13 w14 w15 w16 w17 w18 w19 w20 w21 o hR H locs hP hD hS ls hl
      refine lv_iinc (v := nI (1 + 5 * (t + 1))) (lv' := [(4, .int (nI (1 + 5 * (t + 1)))), (0, .ref b), (1, .ref a0), (2, .ref a12), (3, .ref a20)]) hx hb zd_law_1002 hl (k := 4) rfl (show nI (1 + 5 * t) + 5 = _ by rw [show (5 : Int32) = nI 5 from rfl, nI_add]; congr 1) (by decide) rfl (fun ls hl => ?_)
      refine lv_goto (tgt := 33) hx hb zd_law_1005 (by decide) ?_
      exact ih (t + 1) (by omega) st w0 w1 w2 w3 w4 w5 w6 w7 w8 w9 w10 w11 w12 w13 w14 w15 w16 w17 w18 w19 w20 w21 o hR H locs hP hD hS _ (lv_sub hl [1, 2, 3, 4, 0] rfl)
set_option maxHeartbeats 4000000 in
set_option maxRecDepth 100000 in
/-- THE LAW, from its entry -/
theorem whole_start {p : Program} {e : Env} {s : State} {m : MethodId} {below : List Frame} {meth : Method} {c : Code} (l : Launch) (hf0 : l.flags = pinnedFlags ++ [noTraceFlag]) {b L : Nat} {xs : Nat → Int32} (hL : L ≤ 2561) (C0 : lw_At p s m meth c b L xs) : W p l e room_1 s m #[Value.ref b] below meth c s.heap [] 0 0 (lw_Z below #[Value.ref b] s) (entryFrame m ([Value.ref b] : List Value).toArray 8) := by
  obtain ⟨hx, hb, hr, hml, hown, hts, hX, hbl, hlocks, hgv⟩ := id C0
  have hown : s.vm.findClass "DeclareFormsLaw" = some m.cls := hown
  have htB : ∀ w ∈ zz_big, w.before #[Value.ref b] s = true := fun w hw => hts w (List.mem_filter.mp hw).1
  obtain ⟨A, hAd⟩ : ∃ A : Nat → Prop, A = fun q : Nat => s.heap.size ≤ q := ⟨_, rfl⟩
  have hA : ∀ q : Nat, s.heap.size ≤ q → A q := fun q h => by rw [hAd]; exact h
  have hAs : ∀ q : Nat, A q → s.heap.size ≤ q := fun q h => by rw [hAd] at h; exact h
  have hbA : ¬ A b := fun h => absurd (hAs b h) (Nat.not_le.mpr hbl)
  obtain ⟨k0, i0, hK0⟩ := u_known (C := zr_X) (T := zF_X) (N := 7) (n := 7) htB zi_X (htB _ zk_bb1c1728)
  obtain ⟨k1, i1, hK1⟩ := u_known (C := zr_S) (T := zF_S) (N := 5) (n := 5) htB zi_S (htB _ zk_930ee45b)
  obtain ⟨k2, i2, hK2⟩ := u_known (C := zr_C) (T := zF_C) (N := 3) (n := 3) htB zi_C (htB _ zk_56915c68)
  obtain ⟨k3, i3, hK3⟩ := u_known (C := zr_P) (T := zF_P) (N := 4) (n := 4) htB zi_P (htB _ zk_6090c1cf)
  obtain ⟨k4, i4, hK4⟩ := u_known (C := zr_R) (T := zF_R) (N := 9) (n := 9) htB zi_R (htB _ zk_596c5848)
  obtain ⟨k5, i5, hK5⟩ := u_known (C := zr_M) (T := zF_M) (N := 22) (n := 22) htB zi_M (htB _ zk_fdd65885)
  obtain ⟨cI, hrcI, hncI⟩ := zl_arr (htB _ zk_13eacad5)
  obtain ⟨cZ, hrcZ, hncZ⟩ := zl_arr (htB _ zk_3be23d36)
  obtain ⟨cL, hrcL, hncL⟩ := zl_arr (htB _ zk_c86e6365)
  obtain ⟨dC, dI, hKc⟩ : ∃ (dC : Nat → ClassId) (dI : Nat → Nat → Nat), ∀ (k : Nat) (q : vw_C), zz_cl[k]? = some q → u_Kn s q.1 q.2.1 q.2.2 (dC k) (dI k) := by
    refine ⟨fun k => if k = 0 then k0 else if k = 1 then k1 else if k = 2 then k2 else if k = 3 then k3 else if k = 4 then k4 else k5, fun k => if k = 0 then i0 else if k = 1 then i1 else if k = 2 then i2 else if k = 3 then i3 else if k = 4 then i4 else i5, ?_⟩
    intro k q hq
    match k, hq with
    | 0, hq => cases hq; exact hK0
    | 1, hq => cases hq; exact hK1
    | 2, hq => cases hq; exact hK2
    | 3, hq => cases hq; exact hK3
    | 4, hq => cases hq; exact hK4
    | 5, hq => cases hq; exact hK5
    | k + 6, hq => simp [zz_cl] at hq
  have hS : va_S A s.heap s.heap [] := va_S.rf
  have hK : va_K (dC, dI) zz_cl (zz_ty cI cZ cL) s := ⟨hKc, fun k q hq => by
    match k, hq with
    | 0, hq => cases hq; exact ⟨hrcI, hncI⟩
    | 1, hq => cases hq; exact ⟨hrcZ, hncZ⟩
    | 2, hq => cases hq; exact ⟨hrcL, hncL⟩
    | k + 3, hq => simp [zz_ty] at hq⟩
  have hP : va_P (dC, dI) zz_cl [] s.heap := fun k q h => by simp at h
  have hD : va_D A [] := ⟨fun i j p q h => by simp at h, fun k q h => by simp at h⟩
  have hE : zz_en s := zl_en hts hgv
  have hZ : zt_Z A s := zl_z hts hgv (fun a ha h => absurd (hAs a h) (Nat.not_le.mpr ha))
  have F : zl_F l p s m meth c b L xs A dC dI cI cZ cL := ⟨hx, hb, hml, hown, htB, hX, hbl, hbA, hE, hZ, hA, hK, hf0, hL, hAs, hr, hlocks⟩
  have hl := lv_entry ([.ref b]) (n := 8) (Nat.le_of_ble_eq_true rfl)
  rw [lg_entry_eq]
  generalize (lg_sl ([.ref b]) ++ List.replicate (8 - (lg_sl ([.ref b])).length) Slot.unset).toArray = ls at hl ⊢
  have hl : lv_has ls 8 [(0, .ref b)] := hl
  refine va_new (ci := 0) (fs := [.int 0, .null, .null, .null, .null, .int 0, .int 0]) (C := zr_X) (T := zF_X) (N := 7) hx hb htB zi_X zT_X zT_X_ok hown (htB _ zk_49001bd0) (htB _ zk_bb1c1728) (htB _ zk_cfe38e2e) hK hP hD hS hA rfl (fun j hj => by rcases (show j = 0 ∨ j = 1 ∨ j = 2 ∨ j = 3 ∨ j = 4 ∨ j = 5 ∨ j = 6 by omega) with rfl | rfl | rfl | rfl | rfl | rfl | rfl <;> rfl) (Nat.le_of_ble_eq_true rfl) (Nat.le_of_ble_eq_true rfl) zd_law_0 (fun q0 H hP hD hS => ?_)
  have hP : va_P (dC, dI) zz_cl [(q0, .inr (0, [.int 0, .null, .null, .null, .null, .int 0, .int 0]))] H := hP
  have hD : va_D A [(q0, .inr (0, [.int 0, .null, .null, .null, .null, .int 0, .int 0]))] := hD
  refine lv_dup hx hb zd_law_3 rfl ?_
  refine lv_aload_n hx hb zd_law_4 rfl (lv_at hl 0 rfl) ?_
  refine lv_iconst (v := 0) hx hb zd_law_5 (by decide) ?_
  refine zz_ki (va_runS (As := [.ref b, .int 0]) (rest := [.ref q0, .ref q0]) ⟨hx, hb, hml, hown, htB⟩ (zc_cell l b L xs hL) (va_cwS 2 htB (zz_gS zk_b5215fa7 zk_ef0bd464 zk_47055d91 zk_fa1d25a7) rfl rfl rfl zh_cell ⟨(Nat.le_of_ble_eq_true rfl), (Nat.le_of_ble_eq_true rfl)⟩) ⟨fun a U g mk q => ⟨q.1, va_X.moved (u := U) (U := U.calling g mk a) (Vm.Alike.refl U.vm) q.2.1, q.2.2⟩, fun U hU hW => ⟨rfl, by rw [hU]; exact (hX.kept (hS.2.1 b hbl hbA)).moved hW.alike, by rw [hU]; exact Nat.lt_of_lt_of_le hbl hS.1⟩⟩ rfl rfl hl.1 rfl (lv_room (Nat.le_of_ble_eq_true rfl)) zd_law_6 ⟨(Nat.le_of_ble_eq_true rfl), (Nat.le_of_ble_eq_true rfl)⟩) ?_
  refine zz_cu (va_runI (As := [.int (if nI L ≤ 0 then 0 else xs 0)]) (rest := [.ref q0]) ⟨hx, hb, hml, hown, htB⟩ (zc_X_init l dC dI cI cZ cL q0 H.size (if nI L ≤ 0 then 0 else xs 0)) (cwI 1 htB (zz_gB zk_050f253c) rfl rfl rfl (htB _ zk_cfe38e2e) (htB _ zk_b3919ff1) (htB _ zk_a05015ba) rfl zh_X_init ⟨(Nat.le_of_ble_eq_true rfl), (Nat.le_of_ble_eq_true rfl)⟩) (zz_preS hP hD hK hE [0] (by decide) rfl) rfl rfl hl.1 rfl (lv_room (Nat.le_of_ble_eq_true rfl)) zd_law_9 ⟨(Nat.le_of_ble_eq_true rfl), (Nat.le_of_ble_eq_true rfl)⟩) hP hD hS hA [0] [] rfl rfl (by decide) (by decide) (fun u0 H locs hP hD hS => ?_)
  have hP : va_P (dC, dI) zz_cl [(q0, .inr (0, [.int ((zs_X (if nI L ≤ 0 then 0 else xs 0)).1), .ref u0.1, .ref u0.2.2.2.1, .ref u0.2.2.2.2.2.2.1, .ref u0.2.2.2.2.2.2.2.2.2.2, .int ((zs_X (if nI L ≤ 0 then 0 else xs 0)).2.2.2.2.2.1), .int ((zs_X (if nI L ≤ 0 then 0 else xs 0)).2.2.2.2.2.2)])), (u0.1, .inr (1, [.ref u0.2.1, .ref u0.2.2.1, .int (nI ((zs_X (if nI L ≤ 0 then 0 else xs 0)).2.1.2.2.1)), .int ((zs_X (if nI L ≤ 0 then 0 else xs 0)).2.1.2.2.2.1), .int ((zs_X (if nI L ≤ 0 then 0 else xs 0)).2.1.2.2.2.2)])), (u0.2.1, .inl (cI, 310, .inl ((zs_X (if nI L ≤ 0 then 0 else xs 0)).2.1.1))), (u0.2.2.1, .inl (cZ, 31, .inl ((zs_X (if nI L ≤ 0 then 0 else xs 0)).2.1.2.1))), (u0.2.2.2.1, .inr (2, [.ref u0.2.2.2.2.1, .ref u0.2.2.2.2.2.1, .int (nI ((zs_X (if nI L ≤ 0 then 0 else xs 0)).2.2.1.2.2))])), (u0.2.2.2.2.1, .inl (cI, 20, .inl ((zs_X (if nI L ≤ 0 then 0 else xs 0)).2.2.1.1))), (u0.2.2.2.2.2.1, .inl (cI, 20, .inl ((zs_X (if nI L ≤ 0 then 0 else xs 0)).2.2.1.2.1))), (u0.2.2.2.2.2.2.1, .inr (3, [.ref u0.2.2.2.2.2.2.2.1, .ref u0.2.2.2.2.2.2.2.2.1, .ref u0.2.2.2.2.2.2.2.2.2.1, .int (nI ((zs_X (if nI L ≤ 0 then 0 else xs 0)).2.2.2.1.2.2.2))])), (u0.2.2.2.2.2.2.2.1, .inl (cI, 20, .inl ((zs_X (if nI L ≤ 0 then 0 else xs 0)).2.2.2.1.1))), (u0.2.2.2.2.2.2.2.2.1, .inl (cI, 20, .inl ((zs_X (if nI L ≤ 0 then 0 else xs 0)).2.2.2.1.2.1))), (u0.2.2.2.2.2.2.2.2.2.1, .inl (cI, 620, .inl ((zs_X (if nI L ≤ 0 then 0 else xs 0)).2.2.2.1.2.2.1))), (u0.2.2.2.2.2.2.2.2.2.2, .inr (4, [.int ((zs_X (if nI L ≤ 0 then 0 else xs 0)).2.2.2.2.1.1), .int ((zs_X (if nI L ≤ 0 then 0 else xs 0)).2.2.2.2.1.2.1), .int ((zs_X (if nI L ≤ 0 then 0 else xs 0)).2.2.2.2.1.2.2.1), .int ((zs_X (if nI L ≤ 0 then 0 else xs 0)).2.2.2.2.1.2.2.2.1), .int ((zs_X (if nI L ≤ 0 then 0 else xs 0)).2.2.2.2.1.2.2.2.2.1), .int ((zs_X (if nI L ≤ 0 then 0 else xs 0)).2.2.2.2.1.2.2.2.2.2.1), .long ((zs_X (if nI L ≤ 0 then 0 else xs 0)).2.2.2.2.1.2.2.2.2.2.2.1), .int ((zs_X (if nI L ≤ 0 then 0 else xs 0)).2.2.2.2.1.2.2.2.2.2.2.2.1), .int ((zs_X (if nI L ≤ 0 then 0 else xs 0)).2.2.2.2.1.2.2.2.2.2.2.2.2)]))] H := hP
  have hD : va_D A [(q0, .inr (0, [.int ((zs_X (if nI L ≤ 0 then 0 else xs 0)).1), .ref u0.1, .ref u0.2.2.2.1, .ref u0.2.2.2.2.2.2.1, .ref u0.2.2.2.2.2.2.2.2.2.2, .int ((zs_X (if nI L ≤ 0 then 0 else xs 0)).2.2.2.2.2.1), .int ((zs_X (if nI L ≤ 0 then 0 else xs 0)).2.2.2.2.2.2)])), (u0.1, .inr (1, [.ref u0.2.1, .ref u0.2.2.1, .int (nI ((zs_X (if nI L ≤ 0 then 0 else xs 0)).2.1.2.2.1)), .int ((zs_X (if nI L ≤ 0 then 0 else xs 0)).2.1.2.2.2.1), .int ((zs_X (if nI L ≤ 0 then 0 else xs 0)).2.1.2.2.2.2)])), (u0.2.1, .inl (cI, 310, .inl ((zs_X (if nI L ≤ 0 then 0 else xs 0)).2.1.1))), (u0.2.2.1, .inl (cZ, 31, .inl ((zs_X (if nI L ≤ 0 then 0 else xs 0)).2.1.2.1))), (u0.2.2.2.1, .inr (2, [.ref u0.2.2.2.2.1, .ref u0.2.2.2.2.2.1, .int (nI ((zs_X (if nI L ≤ 0 then 0 else xs 0)).2.2.1.2.2))])), (u0.2.2.2.2.1, .inl (cI, 20, .inl ((zs_X (if nI L ≤ 0 then 0 else xs 0)).2.2.1.1))), (u0.2.2.2.2.2.1, .inl (cI, 20, .inl ((zs_X (if nI L ≤ 0 then 0 else xs 0)).2.2.1.2.1))), (u0.2.2.2.2.2.2.1, .inr (3, [.ref u0.2.2.2.2.2.2.2.1, .ref u0.2.2.2.2.2.2.2.2.1, .ref u0.2.2.2.2.2.2.2.2.2.1, .int (nI ((zs_X (if nI L ≤ 0 then 0 else xs 0)).2.2.2.1.2.2.2))])), (u0.2.2.2.2.2.2.2.1, .inl (cI, 20, .inl ((zs_X (if nI L ≤ 0 then 0 else xs 0)).2.2.2.1.1))), (u0.2.2.2.2.2.2.2.2.1, .inl (cI, 20, .inl ((zs_X (if nI L ≤ 0 then 0 else xs 0)).2.2.2.1.2.1))), (u0.2.2.2.2.2.2.2.2.2.1, .inl (cI, 620, .inl ((zs_X (if nI L ≤ 0 then 0 else xs 0)).2.2.2.1.2.2.1))), (u0.2.2.2.2.2.2.2.2.2.2, .inr (4, [.int ((zs_X (if nI L ≤ 0 then 0 else xs 0)).2.2.2.2.1.1), .int ((zs_X (if nI L ≤ 0 then 0 else xs 0)).2.2.2.2.1.2.1), .int ((zs_X (if nI L ≤ 0 then 0 else xs 0)).2.2.2.2.1.2.2.1), .int ((zs_X (if nI L ≤ 0 then 0 else xs 0)).2.2.2.2.1.2.2.2.1), .int ((zs_X (if nI L ≤ 0 then 0 else xs 0)).2.2.2.2.1.2.2.2.2.1), .int ((zs_X (if nI L ≤ 0 then 0 else xs 0)).2.2.2.2.1.2.2.2.2.2.1), .long ((zs_X (if nI L ≤ 0 then 0 else xs 0)).2.2.2.2.1.2.2.2.2.2.2.1), .int ((zs_X (if nI L ≤ 0 then 0 else xs 0)).2.2.2.2.1.2.2.2.2.2.2.2.1), .int ((zs_X (if nI L ≤ 0 then 0 else xs 0)).2.2.2.2.1.2.2.2.2.2.2.2.2)]))] := hD
  refine lv_astore_n (lv' := [(1, .ref q0), (0, .ref b)]) hx hb zd_law_12 rfl hl (by decide) rfl (fun ls hl => ?_)
  refine va_new (ci := 5) (fs := [.int 0, .int 0, .int 0, .null, .null, .int 0, .int 0, .int 0, .null, .null, .int 0, .null, .null, .null, .int 0, .int 0, .int 0, .int 0, .int 0, .long 0, .int 0, .int 0]) (C := zr_M) (T := zF_M) (N := 22) hx hb htB zi_M zT_M zT_M_ok hown (htB _ zk_306e8dab) (htB _ zk_fdd65885) (htB _ zk_91cc3b19) hK hP hD hS hA rfl (fun j hj => by rcases (show j = 0 ∨ j = 1 ∨ j = 2 ∨ j = 3 ∨ j = 4 ∨ j = 5 ∨ j = 6 ∨ j = 7 ∨ j = 8 ∨ j = 9 ∨ j = 10 ∨ j = 11 ∨ j = 12 ∨ j = 13 ∨ j = 14 ∨ j = 15 ∨ j = 16 ∨ j = 17 ∨ j = 18 ∨ j = 19 ∨ j = 20 ∨ j = 21 by omega) with rfl | rfl | rfl | rfl | rfl | rfl | rfl | rfl | rfl | rfl | rfl | rfl | rfl | rfl | rfl | rfl | rfl | rfl | rfl | rfl | rfl | rfl <;> rfl) (Nat.le_of_ble_eq_true rfl) (Nat.le_of_ble_eq_true rfl) zd_law_13 (fun q1 H hP hD hS => ?_)
  have hP : va_P (dC, dI) zz_cl [(q0, .inr (0, [.int ((zs_X (if nI L ≤ 0 then 0 else xs 0)).1), .ref u0.1, .ref u0.2.2.2.1, .ref u0.2.2.2.2.2.2.1, .ref u0.2.2.2.2.2.2.2.2.2.2, .int ((zs_X (if nI L ≤ 0 then 0 else xs 0)).2.2.2.2.2.1), .int ((zs_X (if nI L ≤ 0 then 0 else xs 0)).2.2.2.2.2.2)])), (u0.1, .inr (1, [.ref u0.2.1, .ref u0.2.2.1, .int (nI ((zs_X (if nI L ≤ 0 then 0 else xs 0)).2.1.2.2.1)), .int ((zs_X (if nI L ≤ 0 then 0 else xs 0)).2.1.2.2.2.1), .int ((zs_X (if nI L ≤ 0 then 0 else xs 0)).2.1.2.2.2.2)])), (u0.2.1, .inl (cI, 310, .inl ((zs_X (if nI L ≤ 0 then 0 else xs 0)).2.1.1))), (u0.2.2.1, .inl (cZ, 31, .inl ((zs_X (if nI L ≤ 0 then 0 else xs 0)).2.1.2.1))), (u0.2.2.2.1, .inr (2, [.ref u0.2.2.2.2.1, .ref u0.2.2.2.2.2.1, .int (nI ((zs_X (if nI L ≤ 0 then 0 else xs 0)).2.2.1.2.2))])), (u0.2.2.2.2.1, .inl (cI, 20, .inl ((zs_X (if nI L ≤ 0 then 0 else xs 0)).2.2.1.1))), (u0.2.2.2.2.2.1, .inl (cI, 20, .inl ((zs_X (if nI L ≤ 0 then 0 else xs 0)).2.2.1.2.1))), (u0.2.2.2.2.2.2.1, .inr (3, [.ref u0.2.2.2.2.2.2.2.1, .ref u0.2.2.2.2.2.2.2.2.1, .ref u0.2.2.2.2.2.2.2.2.2.1, .int (nI ((zs_X (if nI L ≤ 0 then 0 else xs 0)).2.2.2.1.2.2.2))])), (u0.2.2.2.2.2.2.2.1, .inl (cI, 20, .inl ((zs_X (if nI L ≤ 0 then 0 else xs 0)).2.2.2.1.1))), (u0.2.2.2.2.2.2.2.2.1, .inl (cI, 20, .inl ((zs_X (if nI L ≤ 0 then 0 else xs 0)).2.2.2.1.2.1))), (u0.2.2.2.2.2.2.2.2.2.1, .inl (cI, 620, .inl ((zs_X (if nI L ≤ 0 then 0 else xs 0)).2.2.2.1.2.2.1))), (u0.2.2.2.2.2.2.2.2.2.2, .inr (4, [.int ((zs_X (if nI L ≤ 0 then 0 else xs 0)).2.2.2.2.1.1), .int ((zs_X (if nI L ≤ 0 then 0 else xs 0)).2.2.2.2.1.2.1), .int ((zs_X (if nI L ≤ 0 then 0 else xs 0)).2.2.2.2.1.2.2.1), .int ((zs_X (if nI L ≤ 0 then 0 else xs 0)).2.2.2.2.1.2.2.2.1), .int ((zs_X (if nI L ≤ 0 then 0 else xs 0)).2.2.2.2.1.2.2.2.2.1), .int ((zs_X (if nI L ≤ 0 then 0 else xs 0)).2.2.2.2.1.2.2.2.2.2.1), .long ((zs_X (if nI L ≤ 0 then 0 else xs 0)).2.2.2.2.1.2.2.2.2.2.2.1), .int ((zs_X (if nI L ≤ 0 then 0 else xs 0)).2.2.2.2.1.2.2.2.2.2.2.2.1), .int ((zs_X (if nI L ≤ 0 then 0 else xs 0)).2.2.2.2.1.2.2.2.2.2.2.2.2)])), (q1, .inr (5, [.int 0, .int 0, .int 0, .null, .null, .int 0, .int 0, .int 0, .null, .null, .int 0, .null, .null, .null, .int 0, .int 0, .int 0, .int 0, .int 0, .long 0, .int 0, .int 0]))] H := hP
  have hD : va_D A [(q0, .inr (0, [.int ((zs_X (if nI L ≤ 0 then 0 else xs 0)).1), .ref u0.1, .ref u0.2.2.2.1, .ref u0.2.2.2.2.2.2.1, .ref u0.2.2.2.2.2.2.2.2.2.2, .int ((zs_X (if nI L ≤ 0 then 0 else xs 0)).2.2.2.2.2.1), .int ((zs_X (if nI L ≤ 0 then 0 else xs 0)).2.2.2.2.2.2)])), (u0.1, .inr (1, [.ref u0.2.1, .ref u0.2.2.1, .int (nI ((zs_X (if nI L ≤ 0 then 0 else xs 0)).2.1.2.2.1)), .int ((zs_X (if nI L ≤ 0 then 0 else xs 0)).2.1.2.2.2.1), .int ((zs_X (if nI L ≤ 0 then 0 else xs 0)).2.1.2.2.2.2)])), (u0.2.1, .inl (cI, 310, .inl ((zs_X (if nI L ≤ 0 then 0 else xs 0)).2.1.1))), (u0.2.2.1, .inl (cZ, 31, .inl ((zs_X (if nI L ≤ 0 then 0 else xs 0)).2.1.2.1))), (u0.2.2.2.1, .inr (2, [.ref u0.2.2.2.2.1, .ref u0.2.2.2.2.2.1, .int (nI ((zs_X (if nI L ≤ 0 then 0 else xs 0)).2.2.1.2.2))])), (u0.2.2.2.2.1, .inl (cI, 20, .inl ((zs_X (if nI L ≤ 0 then 0 else xs 0)).2.2.1.1))), (u0.2.2.2.2.2.1, .inl (cI, 20, .inl ((zs_X (if nI L ≤ 0 then 0 else xs 0)).2.2.1.2.1))), (u0.2.2.2.2.2.2.1, .inr (3, [.ref u0.2.2.2.2.2.2.2.1, .ref u0.2.2.2.2.2.2.2.2.1, .ref u0.2.2.2.2.2.2.2.2.2.1, .int (nI ((zs_X (if nI L ≤ 0 then 0 else xs 0)).2.2.2.1.2.2.2))])), (u0.2.2.2.2.2.2.2.1, .inl (cI, 20, .inl ((zs_X (if nI L ≤ 0 then 0 else xs 0)).2.2.2.1.1))), (u0.2.2.2.2.2.2.2.2.1, .inl (cI, 20, .inl ((zs_X (if nI L ≤ 0 then 0 else xs 0)).2.2.2.1.2.1))), (u0.2.2.2.2.2.2.2.2.2.1, .inl (cI, 620, .inl ((zs_X (if nI L ≤ 0 then 0 else xs 0)).2.2.2.1.2.2.1))), (u0.2.2.2.2.2.2.2.2.2.2, .inr (4, [.int ((zs_X (if nI L ≤ 0 then 0 else xs 0)).2.2.2.2.1.1), .int ((zs_X (if nI L ≤ 0 then 0 else xs 0)).2.2.2.2.1.2.1), .int ((zs_X (if nI L ≤ 0 then 0 else xs 0)).2.2.2.2.1.2.2.1), .int ((zs_X (if nI L ≤ 0 then 0 else xs 0)).2.2.2.2.1.2.2.2.1), .int ((zs_X (if nI L ≤ 0 then 0 else xs 0)).2.2.2.2.1.2.2.2.2.1), .int ((zs_X (if nI L ≤ 0 then 0 else xs 0)).2.2.2.2.1.2.2.2.2.2.1), .long ((zs_X (if nI L ≤ 0 then 0 else xs 0)).2.2.2.2.1.2.2.2.2.2.2.1), .int ((zs_X (if nI L ≤ 0 then 0 else xs 0)).2.2.2.2.1.2.2.2.2.2.2.2.1), .int ((zs_X (if nI L ≤ 0 then 0 else xs 0)).2.2.2.2.1.2.2.2.2.2.2.2.2)])), (q1, .inr (5, [.int 0, .int 0, .int 0, .null, .null, .int 0, .int 0, .int 0, .null, .null, .int 0, .null, .null, .null, .int 0, .int 0, .int 0, .int 0, .int 0, .long 0, .int 0, .int 0]))] := hD
  refine lv_dup hx hb zd_law_16 rfl ?_
  refine lv_aload_n hx hb zd_law_17 rfl (lv_at hl 1 rfl) ?_
  refine lv_iconst (v := 0) hx hb zd_law_18 (by decide) ?_
  refine zz_ki (va_runS (As := [.ref b, .int 0]) (rest := [.ref q1, .ref q1]) ⟨hx, hb, hml, hown, htB⟩ (zc_cell l b L xs hL) (va_cwS 2 htB (zz_gS zk_b5215fa7 zk_ef0bd464 zk_47055d91 zk_fa1d25a7) rfl rfl rfl zh_cell ⟨(Nat.le_of_ble_eq_true rfl), (Nat.le_of_ble_eq_true rfl)⟩) ⟨fun a U g mk q => ⟨q.1, va_X.moved (u := U) (U := U.calling g mk a) (Vm.Alike.refl U.vm) q.2.1, q.2.2⟩, fun U hU hW => ⟨rfl, by rw [hU]; exact (hX.kept (hS.2.1 b hbl hbA)).moved hW.alike, by rw [hU]; exact Nat.lt_of_lt_of_le hbl hS.1⟩⟩ rfl rfl hl.1 rfl (lv_room (Nat.le_of_ble_eq_true rfl)) zd_law_19 ⟨(Nat.le_of_ble_eq_true rfl), (Nat.le_of_ble_eq_true rfl)⟩) ?_
  refine zz_cu (va_runI (As := [.int (if nI L ≤ 0 then 0 else xs 0)]) (rest := [.ref q1]) ⟨hx, hb, hml, hown, htB⟩ (zc_M_init l dC dI cI cZ cL q1 H.size (if nI L ≤ 0 then 0 else xs 0)) (cwI 1 htB (zz_gB zk_76c071c5) rfl rfl rfl (htB _ zk_91cc3b19) (htB _ zk_246e08e5) (htB _ zk_5be0998f) rfl zh_M_init ⟨(Nat.le_of_ble_eq_true rfl), (Nat.le_of_ble_eq_true rfl)⟩) (zz_preS hP hD hK hE [12] (by decide) rfl) rfl rfl hl.1 rfl (lv_room (Nat.le_of_ble_eq_true rfl)) zd_law_22 ⟨(Nat.le_of_ble_eq_true rfl), (Nat.le_of_ble_eq_true rfl)⟩) hP hD hS hA [12] [0, 1, 2, 3, 4, 5, 6, 7, 8, 9, 10, 11] rfl rfl (by decide) (by decide) (fun u1 H locs hP hD hS => ?_)
  have hP : va_P (dC, dI) zz_cl [(q0, .inr (0, [.int ((zs_X (if nI L ≤ 0 then 0 else xs 0)).1), .ref u0.1, .ref u0.2.2.2.1, .ref u0.2.2.2.2.2.2.1, .ref u0.2.2.2.2.2.2.2.2.2.2, .int ((zs_X (if nI L ≤ 0 then 0 else xs 0)).2.2.2.2.2.1), .int ((zs_X (if nI L ≤ 0 then 0 else xs 0)).2.2.2.2.2.2)])), (u0.1, .inr (1, [.ref u0.2.1, .ref u0.2.2.1, .int (nI ((zs_X (if nI L ≤ 0 then 0 else xs 0)).2.1.2.2.1)), .int ((zs_X (if nI L ≤ 0 then 0 else xs 0)).2.1.2.2.2.1), .int ((zs_X (if nI L ≤ 0 then 0 else xs 0)).2.1.2.2.2.2)])), (u0.2.1, .inl (cI, 310, .inl ((zs_X (if nI L ≤ 0 then 0 else xs 0)).2.1.1))), (u0.2.2.1, .inl (cZ, 31, .inl ((zs_X (if nI L ≤ 0 then 0 else xs 0)).2.1.2.1))), (u0.2.2.2.1, .inr (2, [.ref u0.2.2.2.2.1, .ref u0.2.2.2.2.2.1, .int (nI ((zs_X (if nI L ≤ 0 then 0 else xs 0)).2.2.1.2.2))])), (u0.2.2.2.2.1, .inl (cI, 20, .inl ((zs_X (if nI L ≤ 0 then 0 else xs 0)).2.2.1.1))), (u0.2.2.2.2.2.1, .inl (cI, 20, .inl ((zs_X (if nI L ≤ 0 then 0 else xs 0)).2.2.1.2.1))), (u0.2.2.2.2.2.2.1, .inr (3, [.ref u0.2.2.2.2.2.2.2.1, .ref u0.2.2.2.2.2.2.2.2.1, .ref u0.2.2.2.2.2.2.2.2.2.1, .int (nI ((zs_X (if nI L ≤ 0 then 0 else xs 0)).2.2.2.1.2.2.2))])), (u0.2.2.2.2.2.2.2.1, .inl (cI, 20, .inl ((zs_X (if nI L ≤ 0 then 0 else xs 0)).2.2.2.1.1))), (u0.2.2.2.2.2.2.2.2.1, .inl (cI, 20, .inl ((zs_X (if nI L ≤ 0 then 0 else xs 0)).2.2.2.1.2.1))), (u0.2.2.2.2.2.2.2.2.2.1, .inl (cI, 620, .inl ((zs_X (if nI L ≤ 0 then 0 else xs 0)).2.2.2.1.2.2.1))), (u0.2.2.2.2.2.2.2.2.2.2, .inr (4, [.int ((zs_X (if nI L ≤ 0 then 0 else xs 0)).2.2.2.2.1.1), .int ((zs_X (if nI L ≤ 0 then 0 else xs 0)).2.2.2.2.1.2.1), .int ((zs_X (if nI L ≤ 0 then 0 else xs 0)).2.2.2.2.1.2.2.1), .int ((zs_X (if nI L ≤ 0 then 0 else xs 0)).2.2.2.2.1.2.2.2.1), .int ((zs_X (if nI L ≤ 0 then 0 else xs 0)).2.2.2.2.1.2.2.2.2.1), .int ((zs_X (if nI L ≤ 0 then 0 else xs 0)).2.2.2.2.1.2.2.2.2.2.1), .long ((zs_X (if nI L ≤ 0 then 0 else xs 0)).2.2.2.2.1.2.2.2.2.2.2.1), .int ((zs_X (if nI L ≤ 0 then 0 else xs 0)).2.2.2.2.1.2.2.2.2.2.2.2.1), .int ((zs_X (if nI L ≤ 0 then 0 else xs 0)).2.2.2.2.1.2.2.2.2.2.2.2.2)])), (q1, .inr (5, [.int 0, .int ((zf_M_init 0 (fun _ => 0) (if nI L ≤ 0 then 0 else xs 0)).1), .int (nI 0), .ref u1.1, .ref u1.2.1, .int 0, .int 0, .int (nI 0), .ref u1.2.2.1, .ref u1.2.2.2.1, .int (nI 0), .ref u1.2.2.2.2.1, .ref u1.2.2.2.2.2.1, .ref u1.2.2.2.2.2.2, .int 0, .int 0, .int 0, .int 0, .int 0, .long 0, .int 0, .int 0])), (u1.1, .inl (cZ, 31, .inl (fun _ => 0))), (u1.2.1, .inl (cL, 310, .inr (.inl ((zf_M_init 0 (fun _ => 0) (if nI L ≤ 0 then 0 else xs 0)).2)))), (u1.2.2.1, .inl (cL, 20, .inr (.inl (fun _ => 0)))), (u1.2.2.2.1, .inl (cI, 20, .inl (fun _ => 0))), (u1.2.2.2.2.1, .inl (cI, 20, .inl (fun _ => 0))), (u1.2.2.2.2.2.1, .inl (cI, 20, .inl (fun _ => 0))), (u1.2.2.2.2.2.2, .inl (cI, 620, .inl (fun _ => 0)))] H := hP
  have hD : va_D A [(q0, .inr (0, [.int ((zs_X (if nI L ≤ 0 then 0 else xs 0)).1), .ref u0.1, .ref u0.2.2.2.1, .ref u0.2.2.2.2.2.2.1, .ref u0.2.2.2.2.2.2.2.2.2.2, .int ((zs_X (if nI L ≤ 0 then 0 else xs 0)).2.2.2.2.2.1), .int ((zs_X (if nI L ≤ 0 then 0 else xs 0)).2.2.2.2.2.2)])), (u0.1, .inr (1, [.ref u0.2.1, .ref u0.2.2.1, .int (nI ((zs_X (if nI L ≤ 0 then 0 else xs 0)).2.1.2.2.1)), .int ((zs_X (if nI L ≤ 0 then 0 else xs 0)).2.1.2.2.2.1), .int ((zs_X (if nI L ≤ 0 then 0 else xs 0)).2.1.2.2.2.2)])), (u0.2.1, .inl (cI, 310, .inl ((zs_X (if nI L ≤ 0 then 0 else xs 0)).2.1.1))), (u0.2.2.1, .inl (cZ, 31, .inl ((zs_X (if nI L ≤ 0 then 0 else xs 0)).2.1.2.1))), (u0.2.2.2.1, .inr (2, [.ref u0.2.2.2.2.1, .ref u0.2.2.2.2.2.1, .int (nI ((zs_X (if nI L ≤ 0 then 0 else xs 0)).2.2.1.2.2))])), (u0.2.2.2.2.1, .inl (cI, 20, .inl ((zs_X (if nI L ≤ 0 then 0 else xs 0)).2.2.1.1))), (u0.2.2.2.2.2.1, .inl (cI, 20, .inl ((zs_X (if nI L ≤ 0 then 0 else xs 0)).2.2.1.2.1))), (u0.2.2.2.2.2.2.1, .inr (3, [.ref u0.2.2.2.2.2.2.2.1, .ref u0.2.2.2.2.2.2.2.2.1, .ref u0.2.2.2.2.2.2.2.2.2.1, .int (nI ((zs_X (if nI L ≤ 0 then 0 else xs 0)).2.2.2.1.2.2.2))])), (u0.2.2.2.2.2.2.2.1, .inl (cI, 20, .inl ((zs_X (if nI L ≤ 0 then 0 else xs 0)).2.2.2.1.1))), (u0.2.2.2.2.2.2.2.2.1, .inl (cI, 20, .inl ((zs_X (if nI L ≤ 0 then 0 else xs 0)).2.2.2.1.2.1))), (u0.2.2.2.2.2.2.2.2.2.1, .inl (cI, 620, .inl ((zs_X (if nI L ≤ 0 then 0 else xs 0)).2.2.2.1.2.2.1))), (u0.2.2.2.2.2.2.2.2.2.2, .inr (4, [.int ((zs_X (if nI L ≤ 0 then 0 else xs 0)).2.2.2.2.1.1), .int ((zs_X (if nI L ≤ 0 then 0 else xs 0)).2.2.2.2.1.2.1), .int ((zs_X (if nI L ≤ 0 then 0 else xs 0)).2.2.2.2.1.2.2.1), .int ((zs_X (if nI L ≤ 0 then 0 else xs 0)).2.2.2.2.1.2.2.2.1), .int ((zs_X (if nI L ≤ 0 then 0 else xs 0)).2.2.2.2.1.2.2.2.2.1), .int ((zs_X (if nI L ≤ 0 then 0 else xs 0)).2.2.2.2.1.2.2.2.2.2.1), .long ((zs_X (if nI L ≤ 0 then 0 else xs 0)).2.2.2.2.1.2.2.2.2.2.2.1), .int ((zs_X (if nI L ≤ 0 then 0 else xs 0)).2.2.2.2.1.2.2.2.2.2.2.2.1), .int ((zs_X (if nI L ≤ 0 then 0 else xs 0)).2.2.2.2.1.2.2.2.2.2.2.2.2)])), (q1, .inr (5, [.int 0, .int ((zf_M_init 0 (fun _ => 0) (if nI L ≤ 0 then 0 else xs 0)).1), .int (nI 0), .ref u1.1, .ref u1.2.1, .int 0, .int 0, .int (nI 0), .ref u1.2.2.1, .ref u1.2.2.2.1, .int (nI 0), .ref u1.2.2.2.2.1, .ref u1.2.2.2.2.2.1, .ref u1.2.2.2.2.2.2, .int 0, .int 0, .int 0, .int 0, .int 0, .long 0, .int 0, .int 0])), (u1.1, .inl (cZ, 31, .inl (fun _ => 0))), (u1.2.1, .inl (cL, 310, .inr (.inl ((zf_M_init 0 (fun _ => 0) (if nI L ≤ 0 then 0 else xs 0)).2)))), (u1.2.2.1, .inl (cL, 20, .inr (.inl (fun _ => 0)))), (u1.2.2.2.1, .inl (cI, 20, .inl (fun _ => 0))), (u1.2.2.2.2.1, .inl (cI, 20, .inl (fun _ => 0))), (u1.2.2.2.2.2.1, .inl (cI, 20, .inl (fun _ => 0))), (u1.2.2.2.2.2.2, .inl (cI, 620, .inl (fun _ => 0)))] := hD
  refine lv_astore_n (lv' := [(2, .ref q1), (1, .ref q0), (0, .ref b)]) hx hb zd_law_25 rfl hl (by decide) rfl (fun ls hl => ?_)
  refine lv_iconst (v := 1) hx hb zd_law_26 (by decide) ?_
  refine zz_newa (atype := .long) (a0 := (1, .inr (.inl (fun _ => 0)))) hx hb (htB _ zk_c86e6365) rfl 2 rfl (fun _ _ h1 h2 => Option.some.inj (h1.symm.trans h2)) hK hP hD hS hA (fun _ => rfl) (by decide) rfl (by decide) (Nat.le_of_ble_eq_true rfl) (Nat.le_of_ble_eq_true rfl) zd_law_27 (fun q2 H hP hD hS => ?_)
  refine lv_astore_n (lv' := [(3, .ref q2), (2, .ref q1), (1, .ref q0), (0, .ref b)]) hx hb zd_law_29 rfl hl (by decide) rfl (fun ls hl => ?_)
  refine lv_iconst (v := 1) hx hb zd_law_30 (by decide) ?_
  refine lv_istore (lv' := [(4, .int 1), (3, .ref q2), (2, .ref q1), (1, .ref q0), (0, .ref b)]) hx hb zd_law_31 hl (by decide) rfl (fun ls hl => ?_)
  have hP : va_P (dC, dI) zz_cl (zv_L cI cZ cL q0 u0.1 u0.2.1 u0.2.2.1 u0.2.2.2.1 u0.2.2.2.2.1 u0.2.2.2.2.2.1 u0.2.2.2.2.2.2.1 u0.2.2.2.2.2.2.2.1 u0.2.2.2.2.2.2.2.2.1 u0.2.2.2.2.2.2.2.2.2.1 u0.2.2.2.2.2.2.2.2.2.2 q1 u1.1 u1.2.1 u1.2.2.1 u1.2.2.2.1 u1.2.2.2.2.1 u1.2.2.2.2.2.1 u1.2.2.2.2.2.2 q2 (zs_X (if nI L ≤ 0 then 0 else xs 0)) 0 ((zf_M_init 0 (fun _ => 0) (if nI L ≤ 0 then 0 else xs 0)).1) 0 (fun _ => 0) ((zf_M_init 0 (fun _ => 0) (if nI L ≤ 0 then 0 else xs 0)).2) 0 0 0 (fun _ => 0) (fun _ => 0) 0 (fun _ => 0) (fun _ => 0) (fun _ => 0) 0 0 0 0 0 0 0 0 (fun _ => 0)) H := hP
  have hD : va_D A (zv_L cI cZ cL q0 u0.1 u0.2.1 u0.2.2.1 u0.2.2.2.1 u0.2.2.2.2.1 u0.2.2.2.2.2.1 u0.2.2.2.2.2.2.1 u0.2.2.2.2.2.2.2.1 u0.2.2.2.2.2.2.2.2.1 u0.2.2.2.2.2.2.2.2.2.1 u0.2.2.2.2.2.2.2.2.2.2 q1 u1.1 u1.2.1 u1.2.2.1 u1.2.2.2.1 u1.2.2.2.2.1 u1.2.2.2.2.2.1 u1.2.2.2.2.2.2 q2 (zs_X (if nI L ≤ 0 then 0 else xs 0)) 0 ((zf_M_init 0 (fun _ => 0) (if nI L ≤ 0 then 0 else xs 0)).1) 0 (fun _ => 0) ((zf_M_init 0 (fun _ => 0) (if nI L ≤ 0 then 0 else xs 0)).2) 0 0 0 (fun _ => 0) (fun _ => 0) 0 (fun _ => 0) (fun _ => 0) (fun _ => 0) 0 0 0 0 0 0 0 0 (fun _ => 0)) := hD
  refine W.widen (k := 21 + 0) (n := 2133 + 6 * 0) (by decide) (by decide) ?_
  exact zl_loop F 512 0 rfl (zs_X (if nI L ≤ 0 then 0 else xs 0)) 0 ((zf_M_init 0 (fun _ => 0) (if nI L ≤ 0 then 0 else xs 0)).1) 0 (fun _ => 0) ((zf_M_init 0 (fun _ => 0) (if nI L ≤ 0 then 0 else xs 0)).2) 0 0 0 (fun _ => 0) (fun _ => 0) 0 (fun _ => 0) (fun _ => 0) (fun _ => 0) 0 0 0 0 0 0 0 0 (fun _ => 0) (zq_init (if nI L ≤ 0 then 0 else xs 0)) H _ hP hD hS ls (lv_sub hl [4, 3, 2, 1, 0] rfl)
set_option maxHeartbeats 4000000 in
theorem lw_walk (l : Launch) (hf0 : l.flags = pinnedFlags ++ [noTraceFlag]) (b : Addr) (xs : List Int32) : MetFree l x (headSpec (Jvm.Cond.code x code maxLocals ret :: tables_1) room_1) (lw_P b xs) (fun _ _ _ _ _ => True) lw_Q := by
  refine MetFree.of_bodyS (code := code) (maxLocals := maxLocals) (ret := ret) (by decide) ?_ ?_
  · intro args s m h hn
    obtain ⟨meth, c, h1, h2, h3, h4, h5, h6, -, -⟩ := Cond.code_spec hn (atoms_spec (ws := Jvm.Cond.code x code maxLocals ret :: tables_1) h _ List.mem_cons_self)
    exact ⟨meth, c, h1, h2, h3, h4, h5, h6⟩
  · intro p e s m args below meth c s₁ B hml0 hP _
    obtain ⟨rfl, hx, hbd, hgv⟩ := hP
    obtain ⟨scr, harrAt, hlist, hof, hsmall⟩ := hx
    obtain ⟨hcb, hkn, -, -⟩ := State.arrayAt?_spec harrAt
    have hown : s.vm.findClass R_law = some m.cls := findClass_of_methodNamed B.named
    have hts0 : ∀ c ∈ (Jvm.Cond.code x code maxLocals ret :: tables_1), c.before #[Value.ref b] s = true := atoms_spec (ws := Jvm.Cond.code x code maxLocals ret :: tables_1) B.pre
    have hts : ∀ w ∈ lw_tbl, w.before #[Value.ref b] s = true := k2_hts_sels lw_privs (fun w hw => hts0 w (List.mem_cons_of_mem _ hw)) lw_privs_ok
    have hml : c.maxLocals = 8 := B.maxLocals_eq (hts0 _ List.mem_cons_self)
    have X₀ : Stand p l e room_1 s m #[Value.ref b] below meth c s₁ [] 0 0 := Stand.of_body B
    have hh0 : s₁.heap = s.heap := by rw [B.state]; rfl
    have hsz : scr.slots.size = xs.length := by rw [← Array.length_toList, hlist, List.length_map]
    have hval : ∀ j : Nat, j < xs.length → scr.slots[j]? = some (.int (xs.getD j 0)) := fun j hj => by
      rw [← Array.getElem?_toList, hlist]
      simp [hj]
    have hbl : b < s.heap.size := (Array.getElem?_eq_some_iff.mp hcb).1
    have hX : va_X b xs.length (fun j => xs.getD j 0) s s.heap := ⟨scr, hcb, hof, hkn, hsz, hval⟩
    have K : W p l e room_1 s m #[Value.ref b] below meth c s₁.heap [] 0 0 (lw_Z below #[Value.ref b] s) (entryFrame m ([Value.ref b] : List Value).toArray 8) := by
      rw [hh0]
      exact whole_start l hf0 hbd ⟨B.exec, B.bytes, B.returns, hml, hown, hts, hX, hbl, B.notSynchronized, hgv⟩
    obtain ⟨t, a1, o, b1, b2, b3⟩ := K s₁ rfl X₀
    exact ⟨t, o, a1, b1, b2, b3⟩
theorem lw_pre_spec {args : Array Value} {s : State} (h : (Jvm.Cond.and given_1 narrow_1).before args s = true) (hr : rest_1_c.before args s = true) : ∃ (b : Addr) (xs : List Int32), lw_P b xs args s := by
  have hs := flat_of_before _ h
  have hq := flat_of_before _ hr
  have hc : (Cond.count 1).before args s = true := hs _ (by decide +kernel)
  have harr : (Cond.arrayOf (.arg 0) .int).before args s = true := hs _ (by decide +kernel)
  have hle : (Cond.le (.length (.arg 0)) (.int 2561)).before args s = true := hs _ (by decide +kernel)
  have hlen : (Cond.isInt (.length (.arg 0))).before args s = true := hq _ (by decide +kernel)
  have hall : (Cond.all (.arg 0) (.isInt (.elem (.arg 0) (.index 0)))).before args s = true := hq _ (by decide +kernel)
  obtain ⟨b, xs, hb, hx⟩ := State.ints_of_pre rfl harr hlen hall
  have hsm : xs.length < 2 ^ 31 := hx.choose_spec.2.2.2
  have hev : (Term.length (.arg 0)).eval args s none [] s = some (.int xs.length.toInt32) := hx.length_eval hb
  have hv := Cond.le_ints hev (show (Term.int 2561).eval args s none [] s = some (.int 2561) from rfl)
  have hd : xs.length.toInt32 ≤ 2561 := by
    simpa [Cond.before, Cond.holds, hv] using hle
  have hN : xs.length ≤ 2561 := (Int32.ofNat_le_ofNat hsm (by decide)).mp (show Int32.ofNat xs.length ≤ Int32.ofNat 2561 from hd)
  exact ⟨b, xs, Cond.one_arg hc (show args[0]? = some (.ref b) from hb), hx, hN, h⟩
theorem lw_comes (l : Launch) (hf0 : l.flags = pinnedFlags ++ [noTraceFlag]) : Comes l x (Jvm.Cond.code x code maxLocals ret :: tables_1) room_1 (fun tb e args s => Calls_1 tb e args s ∧ rest_1 tb e args s ∧ Pre_1 tb e args s)
    (fun _ _ args s o t => lw_Q args s o t) := by
  intro p e ha hc hk s m args below hf hfit hheap happ hpre
  obtain ⟨b, xs, hP⟩ := lw_pre_spec hpre.2.2 hpre.2.1
  obtain ⟨k, o, h1, h2, h3, hQ⟩ := lw_walk l hf0 b xs p e ha hc hk s m args below hf ((Spec.applies_iff_loose hf).mp happ).1 hP trivial
  exact ⟨k, o, h1, h2, h3, hQ⟩
theorem lw_frame {s t : State} {o : Outcome} {args : Array Value} (h : Framed s o t [] 1054 10379) :
    Framed s o t (fieldLocs frame_1_writes args s ++ arrayLocs frame_1_arrays args s ++ staticLocs frame_1_statics s) 1054 10379 := h
theorem lw_limb (L : Cond) (hL : ∀ (args : Array Value) (s t : State), L.after args s (.returned (some (.int 1))) t = true) :
    ArmFor flags0 classFile x code maxLocals ret World_1 tables_1 room_1 Calls_1 rest_1 Pre_1
      (fun tb e a s o t => postC L tb e a s o t ∧ Framed s o t (fieldLocs frame_1_writes a s ++ arrayLocs frame_1_arrays a s ++ staticLocs frame_1_statics s) 1054 10379) := by
  intro l hf0 _ _ p e ha hc hk s m args below hf hfit hheap happ hpre
  obtain ⟨k, o, h1, h2, h3, rfl, hF⟩ := lw_comes l hf0 p e ha hc hk s m args below hf hfit hheap happ hpre
  exact ⟨k, _, h1, h2, h3, hL args s _, lw_frame hF⟩
theorem i_vc : Claimed_1_1 ∧ Claimed_1_2 := ⟨lw_limb limb_1_1 (fun args s t => by simp [limb_1_1, Cond.after, Cond.holds, Cond.value]), lw_limb limb_1_2 (fun args s t => Cond.after_iff.mpr (by
  first | (rw [show limb_1_2 = Cond.eq .result (.int 1) from rfl, Cond.eq_ints (x := 1) (y := 1) rfl rfl]; simp; done) | (simp [limb_1_2, Cond.value, Term.eval]; done)))⟩

