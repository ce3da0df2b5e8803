/-! BASE: the words in one list, one form of start and end for every contract, calls and returns in one row each -/
def zz_big : List Cond := lw_tbl.filter goodWord
theorem zz_good : ∀ w ∈ zz_big, (w.onTables && w.keeps) = true ∨ ∃ ty, w = .arrayClass ty := fun _ h => good_of_word (List.mem_filter.mp h).2
theorem zz_in {w : Cond} (i : Nat) (h : lw_tbl[i]? = some w) (g : goodWord w = true) : w ∈ zz_big := List.mem_filter.mpr ⟨List.mem_of_getElem? h, g⟩
theorem zz_gd {ws : List Cond} (h : ∀ w ∈ ws, w ∈ zz_big) : GoodIn zz_big ws := fun w hw => ⟨h w hw, zz_good w (h w hw)⟩
abbrev zz_ws (y : MethodName) (b : ByteArray) (n : Nat) (r : Option FieldType) : List Cond := .code y b n r :: zz_big
theorem zz_gB {y : MethodName} {b : ByteArray} {n : Nat} {r : Option FieldType} (h : Cond.code y b n r ∈ zz_big) : GoodIn zz_big (zz_ws y b n r) := zz_gd (fun w hw => by
  rcases List.mem_cons.mp hw with h1 | h1
  · rw [h1]; exact h
  · exact h1)
theorem zz_gV {own C : String} {idx : Nat} {y : MethodName} {b : ByteArray} {n : Nat} {r : Option FieldType} (h1 : Cond.methodLink own idx y ∈ zz_big) (h2 : Cond.instanceMethod y ∈ zz_big) (h3 : Cond.selects C y y ∈ zz_big) (h4 : Cond.initialized C ∈ zz_big) (h5 : Cond.code y b n r ∈ zz_big) : GoodIn zz_big (wsV own idx C y (zz_ws y b n r)) := zz_gd (fun w hw => by
  rcases List.mem_append.mp hw with h | h
  · simp only [List.mem_cons, List.not_mem_nil, or_false] at h
    rcases h with h | h | h | h <;> (rw [h]; assumption)
  · rcases List.mem_cons.mp h with h | h
    · rw [h]; exact h5
    · exact h)
theorem zz_gS {own : String} {idx : Nat} {y : MethodName} {b : ByteArray} {n : Nat} {r : Option FieldType} (h1 : Cond.methodLink own idx y ∈ zz_big) (h2 : Cond.static y ∈ zz_big) (h4 : Cond.initialized y.cls ∈ zz_big) (h5 : Cond.code y b n r ∈ zz_big) : GoodIn zz_big (va_wsS own idx y (zz_ws y b n r)) := zz_gd (fun w hw => by
  rcases List.mem_append.mp hw with h | h
  · simp only [List.mem_cons, List.not_mem_nil, or_false] at h
    rcases h with h | h | h <;> (rw [h]; assumption)
  · rcases List.mem_cons.mp h with h | h
    · rw [h]; exact h5
    · exact h)
/-- what every contract takes of the tables beside the words: links of nest mates, string constants, what the makers of exceptions ask -/
def zz_en (U : State) : Prop := (∀ q ∈ zz_nest, va_Nw (.methodLinkNest q.1 q.2.1 q.2.2.1 q.2.2.2) U) ∧ (∀ q ∈ zz_strs, ∃ a : Nat, vk_R q.1 q.2.1 q.2.2 a U) ∧ (∀ y ∈ zz_decl, va_Nw (.declares y) U) ∧ (∀ X ∈ zz_cast, va_Nw (.castable X X) U) ∧ va_Nc "java/lang/IllegalStateException" "java/lang/IllegalArgumentException" U
theorem zz_en.warm {s U : State} (hW : s.WarmedH U.vm) (h : zz_en s) : zz_en U := ⟨fun q hq => va_Nw.warmM hW (h.1 q hq), fun q hq => by obtain ⟨a, ha⟩ := h.2.1 q hq; exact ⟨a, ha.warm hW⟩, fun y hy => va_Nw.warmD hW (h.2.2.1 y hy), fun X hX => va_Nw.warmC hW (h.2.2.2.1 X hX), va_Nc.moved hW.alike h.2.2.2.2⟩
theorem zz_en.same {s U : State} (hv : s.vm = U.vm) (h : zz_en s) : zz_en U := ⟨fun q hq => va_Nw.same rfl hv (h.1 q hq), fun q hq => by obtain ⟨a, ha⟩ := h.2.1 q hq; exact ⟨a, ha.same hv.symm⟩, fun y hy => va_Nw.same rfl hv (h.2.2.1 y hy), fun X hX => va_Nw.same rfl hv (h.2.2.2.1 X hX), va_Nc.moved (by rw [hv]; exact Vm.Alike.refl U.vm) h.2.2.2.2⟩
def zz_P (D : va_G) (tys : List (ClassId × FieldType)) (sz : Nat) (ws : va_W) : State → Prop := fun U => U.heap.size = sz ∧ va_P D zz_cl ws U.heap ∧ va_K D zz_cl tys U ∧ va_D (fun _ => True) ws ∧ zz_en U
def zz_B (D : va_G) (tys : List (ClassId × FieldType)) (A : Nat → Prop) (ws : va_W) : State → Prop := fun t => va_P D zz_cl ws t.heap ∧ va_K D zz_cl tys t ∧ va_D A ws
theorem zz_blind {D : va_G} {tys : List (ClassId × FieldType)} {sz : Nat} {ws : va_W} {av : List Value} : FrameBlind (va_Pc av (zz_P D tys sz ws)) := fun a U g mk q => by
  obtain ⟨q0, q1, qP, qK, qD, qE⟩ := q
  exact ⟨q0, q1, qP, va_K.moved (u := U) (U := U.calling g mk a) (Vm.Alike.refl U.vm) qK, qD, zz_en.same (s := U) rfl qE⟩
theorem zz_at {D : va_G} {tys : List (ClassId × FieldType)} {ws : va_W} {av : List Value} {s : State} {H : Heap} {A : Nat → Prop} (hP : va_P D zz_cl ws H) (hK : va_K D zz_cl tys s) (hD : va_D A ws) (hE : zz_en s) : ∀ U : State, U.heap = H → s.WarmedH U.vm → va_Pc av (zz_P D tys H.size ws) av.toArray U := fun U hU hW => ⟨rfl, by rw [hU], by rw [hU]; exact hP, va_K.moved hW.alike hK, hD.weaken (fun _ _ _ _ => trivial), hE.warm hW⟩
theorem zz_preV {D : va_G} {tys : List (ClassId × FieldType)} {ws wc : va_W} {As : List Value} {s : State} {H : Heap} {A : Nat → Prop} {b ci : Nat} {fs : List Value} {q : vw_C} (hP : va_P D zz_cl ws H) (hD : va_D A ws) (hK : va_K D zz_cl tys s) (hE : zz_en s) (isC : List Nat) (hnC : va_nd isC = true) (hC : isC.map (fun i => ws[i]?) = wc.map some) (hr : wc[0]? = some (b, .inr (ci, fs))) (hc : zz_cl[ci]? = some q) : PreV s H q.1 b (va_Pc (.ref b :: As) (zz_P D tys H.size wc)) As := by
  have hDc : va_D A wc := hD.sub isC hnC hC
  have hPc : va_P D zz_cl wc H := hP.sub isC (by
    have e := congrArg (fun l : List (Option (Nat × va_E)) => l.filterMap id) hC
    simpa [List.filterMap_map, Function.comp_def] using e)
  exact ⟨zz_blind, va_recv hK hPc hc hr, zz_at hPc hK hDc hE⟩
theorem zz_preS {D : va_G} {tys : List (ClassId × FieldType)} {ws wc : va_W} {As : List Value} {s : State} {H : Heap} {A : Nat → Prop} (hP : va_P D zz_cl ws H) (hD : va_D A ws) (hK : va_K D zz_cl tys s) (hE : zz_en s) (isC : List Nat) (hnC : va_nd isC = true) (hC : isC.map (fun i => ws[i]?) = wc.map some) : PreS s H (va_Pc As (zz_P D tys H.size wc)) As := by
  have hDc : va_D A wc := hD.sub isC hnC hC
  have hPc : va_P D zz_cl wc H := hP.sub isC (by
    have e := congrArg (fun l : List (Option (Nat × va_E)) => l.filterMap id) hC
    simpa [List.filterMap_map, Function.comp_def] using e)
  exact ⟨zz_blind, zz_at hPc hK hDc hE⟩
/-- the method's own standing facts -/
def zz_C (p : Program) (s : State) (m : MethodId) (args : Array Value) (meth : Method) (c : Code) (cc : ByteArray) (nL : Nat) (ret : Option FieldType) (own : String) : Prop :=
  p.tables.exec = Jvm.exec ∧ c.code = cc ∧ meth.sig.returnType = ret ∧ c.maxLocals = nL ∧ s.vm.findClass own = some m.cls ∧ (∀ w ∈ zz_big, w.before args s = true) ∧ meth.locks = false ∧ zz_en s
abbrev zz_Qi (D : va_G) (tys : List (ClassId × FieldType)) (A : Nat → Prop) (F : Int32) (ws : va_W) : Array Value → State → Outcome → State → Prop := va_Qi (fun r (_ : Unit) => r = F) (fun _ => zz_B D tys A ws) A
abbrev zz_Ql (D : va_G) (tys : List (ClassId × FieldType)) (A : Nat → Prop) (F : Int64) (ws : va_W) : Array Value → State → Outcome → State → Prop := va_Ql (fun r (_ : Unit) => r = F) (fun _ => zz_B D tys A ws) A
abbrev zz_Qv (D : va_G) (tys : List (ClassId × FieldType)) (A : Nat → Prop) (ws : va_W) : Array Value → State → Outcome → State → Prop := va_Qv (fun (_ : Unit) => True) (fun _ => zz_B D tys A ws) A
/-- a contract out of its walk -/
theorem zz_ofW {l : Launch} {y : MethodName} {b : ByteArray} {n : Nat} {r : Option FieldType} {rm : Room} {av : List Value} {D : va_G} {tys : List (ClassId × FieldType)} {sz : Nat} {ws : va_W} {mc ms : Nat} {Q : (Nat → Prop) → Array Value → State → Outcome → State → Prop}
    (hy : plainName y.cls = true) (hn : (lg_sl av).length ≤ n)
    (body : ∀ (p : Program) (e : Env) (s : State) (m : MethodId) (below : List Frame) (meth : Method) (c : Code) (A : Nat → Prop), zz_C p s m av.toArray meth c b n r y.cls → (y.name = "<init>" → meth.name = "<init>") → (∀ q : Nat, s.heap.size ≤ q → A q) → va_K D zz_cl tys s → va_P D zz_cl ws s.heap → va_D A ws → (∀ q : Nat, q < s.heap.size → A q → ∃ (k : Nat) (x : va_E), ws[k]? = some (q, x)) → ∀ ls : Array Slot, lv_has ls n (lv_args 0 av) →
      W p l e rm s m av.toArray below meth c s.heap [] 0 0 (MQ below (Q A) av.toArray s mc ms A) (F0 m 0 ls [])) :
    Met l y (zz_ws y b n r) rm (va_Pc av (zz_P D tys sz ws)) (Q (va_A ws sz)) mc ms (va_A ws sz) := by
  refine Met.ofW (cc := b) (maxL := n) (ret := r) hy rfl ?_
  intro p e s m args below meth c s₁ B hml hv
  obtain ⟨rfl, hsz, hP, hK, hD0, hE⟩ := hv
  have hts := atoms_spec (ws := zz_ws y b n r) B.pre
  have hown : s.vm.findClass y.cls = some m.cls := findClass_of_methodNamed B.named
  subst hsz
  have hD := hD0.self (sz := s.heap.size)
  have hl := lv_entry av (n := n) hn
  rw [lg_entry_eq]
  exact body p e s m below meth c (va_A ws s.heap.size) ⟨B.exec, B.bytes, B.returns, hml, hown, fun w h => hts w (List.mem_cons_of_mem _ h), B.notSynchronized, hE⟩ (fun hi => by rw [← hi]; exact (name_of_methodNamed B.named B.method).1) (fun q h => Or.inr h) hK hP hD (fun q h1 h2 => by
    rcases h2 with ⟨k, x, h⟩ | h
    · exact ⟨k, x, h⟩
    · omega) _ hl
def zz_pick (ws : va_W) (is : List Nat) : va_W := is.filterMap (fun i => ws[i]?)
section ZR
variable {p : Program} {l : Launch} {e : Env} {R : Room} {s : State} {m : MethodId} {args : Array Value} {below : List Frame} {meth : Method} {c : Code} {H : Heap} {locs : List Loc} {cells slots : Nat} {Q : State → Prop}
variable {cc : ByteArray} {pc : Nat} {ls : Array Slot} {rest st0 : List Value} {A : Nat → Prop} {D : va_G} {tys : List (ClassId × FieldType)} {ws wc wc' : va_W}
/-! returns -/
theorem zz_iret {v F : Int32} (hx : p.tables.exec = Jvm.exec) (hb : c.code = cc) (hr : meth.sig.returnType = some .int) (hlocks : meth.locks = false) (hK : va_K D zz_cl tys s) (hP : va_P D zz_cl ws H) (hD : va_D A ws) (hS : va_S A s.heap H locs) (hdg : decode cc pc = .ok (.ireturn, 1)) (hF : v = F) : W p l e R s m args below meth c H locs cells slots (MQ below (zz_Qi D tys A F ws) args s cells slots A) (F0 m pc ls [.int v]) :=
  W.iret (v := v) hx hb hr (fun t ht hW => ⟨⟨v, (), rfl, hF, by rw [ht]; exact hP, va_K.moved hW.alike hK, hD⟩, hS.F ht⟩) hS.2.2 hdg hlocks
theorem zz_zret {v F : Int32} {ty : FieldType} (hx : p.tables.exec = Jvm.exec) (hb : c.code = cc) (hr : meth.sig.returnType = some ty) (hlocks : meth.locks = false) (hn : narrow ty (.int v) = .int v) (hK : va_K D zz_cl tys s) (hP : va_P D zz_cl ws H) (hD : va_D A ws) (hS : va_S A s.heap H locs) (hdg : decode cc pc = .ok (.ireturn, 1)) (hF : v = F) : W p l e R s m args below meth c H locs cells slots (MQ below (zz_Qi D tys A F ws) args s cells slots A) (F0 m pc ls [.int v]) :=
  W.zret (v := v) hx hb hr hn (fun t ht hW => ⟨⟨v, (), rfl, hF, by rw [ht]; exact hP, va_K.moved hW.alike hK, hD⟩, hS.F ht⟩) hS.2.2 hdg hlocks
theorem zz_lret {v F : Int64} (hx : p.tables.exec = Jvm.exec) (hb : c.code = cc) (hr : meth.sig.returnType = some .long) (hlocks : meth.locks = false) (hK : va_K D zz_cl tys s) (hP : va_P D zz_cl ws H) (hD : va_D A ws) (hS : va_S A s.heap H locs) (hdg : decode cc pc = .ok (.lreturn, 1)) (hF : v = F) : W p l e R s m args below meth c H locs cells slots (MQ below (zz_Ql D tys A F ws) args s cells slots A) (F0 m pc ls [.long v]) :=
  W.lret (v := v) hx hb hr (fun t ht hW => ⟨⟨v, (), rfl, hF, by rw [ht]; exact hP, va_K.moved hW.alike hK, hD⟩, hS.F ht⟩) hS.2.2 hdg hlocks
theorem zz_vret (hx : p.tables.exec = Jvm.exec) (hb : c.code = cc) (hr : meth.sig.returnType = none) (hlocks : meth.locks = false) (hK : va_K D zz_cl tys s) (hP : va_P D zz_cl ws H) (hD : va_D A ws) (hS : va_S A s.heap H locs) (hdg : decode cc pc = .ok (.return_, 1)) : W p l e R s m args below meth c H locs cells slots (MQ below (zz_Qv D tys A ws) args s cells slots A) (F0 m pc ls []) :=
  W.vret hx hb hr (fun t ht hW => ⟨⟨(), rfl, trivial, by rw [ht]; exact hP, va_K.moved hW.alike hK, hD⟩, hS.F ht⟩) hS.2.2 hdg hlocks
/-! behind a call: the callee's cells as it left them, the others as they were, all in the caller's order -/
theorem zz_back {wr wn : va_W} {H1 : Heap} (hP : va_P D zz_cl ws H) (hD : va_D A ws) (hF : ∀ q, va_A wc H.size q → A q) (isC isR isP : List Nat) (hC : isC.map (fun i => ws[i]?) = wc.map some) (hR : isR.map (fun i => ws[i]?) = wr.map some) (hn : va_nd isR = true) (hdis : ∀ i ∈ isR, i ∉ isC) (hnP : va_nd isP = true) (hN : isP.map (fun i => (wr ++ wc')[i]?) = wn.map some)
    (hk : ∀ q : Nat, q < H.size → ¬ va_A wc H.size q → H1[q]? = H[q]?) (hP1 : va_P D zz_cl wc' H1) (hD1 : va_D (va_A wc H.size) wc') : va_P D zz_cl wn H1 ∧ va_D A wn := by
  obtain ⟨hP2, hD2⟩ := va_join (wr := wr) (w1 := wc') hP hD isC isR hC hR hn hdis hk hF hP1 hD1
  exact ⟨hP2.sub isP (by
    have e := congrArg (fun l : List (Option (Nat × va_E)) => l.filterMap id) hN
    simpa [List.filterMap_map, Function.comp_def] using e), hD2.sub isP hnP hN⟩
theorem zz_ci {mc ms : Nat} {F : Int32} {a : Array Value} (hr : va_Run p l e R s m args below meth c H locs cells slots mc ms (F0 m pc ls st0) rest (zz_Qi D tys (va_A wc H.size) F wc' a) (va_A wc H.size)) (hP : va_P D zz_cl ws H) (hD : va_D A ws) (hS : va_S A s.heap H locs) (hA : ∀ q, s.heap.size ≤ q → A q) (isC isR isP : List Nat) (hC : isC.map (fun i => ws[i]?) = wc.map some) (hR : isR.map (fun i => ws[i]?) = (zz_pick ws isR).map some) (hn : va_nd isR = true) (hdis : ∀ i ∈ isR, i ∉ isC) (hnP : va_nd isP = true) (hN : isP.map (fun i => (zz_pick ws isR ++ wc')[i]?) = (zz_pick (zz_pick ws isR ++ wc') isP).map some)
    (kk : ∀ (H1 : Heap) (locs1 : List Loc), va_P D zz_cl (zz_pick (zz_pick ws isR ++ wc') isP) H1 → va_D A (zz_pick (zz_pick ws isR ++ wc') isP) → va_S A s.heap H1 locs1 → W p l e R s m args below meth c H1 locs1 (cells + mc) (slots + ms) Q (F0 m (pc + 3) ls (.int F :: rest))) : W p l e R s m args below meth c H locs cells slots Q (F0 m pc ls st0) := by
  have hF := va_free (wc := wc) hD hS hA isC hC
  refine va_calli hr hS (fun q _ h => hF q h) hF (fun r u t H1 locs1 ht hvm hw hB hz1 hk1 hS1 => ?_)
  obtain ⟨hP1, hK1, hD1⟩ := hB
  rw [ht] at hP1
  obtain ⟨hP2, hD2⟩ := zz_back hP hD hF isC isR isP hC hR hn hdis hnP hN hk1 hP1 hD1
  subst hw
  exact kk H1 locs1 hP2 hD2 hS1
theorem zz_cl_ {mc ms : Nat} {F : Int64} {a : Array Value} (hr : va_Run p l e R s m args below meth c H locs cells slots mc ms (F0 m pc ls st0) rest (zz_Ql D tys (va_A wc H.size) F wc' a) (va_A wc H.size)) (hP : va_P D zz_cl ws H) (hD : va_D A ws) (hS : va_S A s.heap H locs) (hA : ∀ q, s.heap.size ≤ q → A q) (isC isR isP : List Nat) (hC : isC.map (fun i => ws[i]?) = wc.map some) (hR : isR.map (fun i => ws[i]?) = (zz_pick ws isR).map some) (hn : va_nd isR = true) (hdis : ∀ i ∈ isR, i ∉ isC) (hnP : va_nd isP = true) (hN : isP.map (fun i => (zz_pick ws isR ++ wc')[i]?) = (zz_pick (zz_pick ws isR ++ wc') isP).map some)
    (kk : ∀ (H1 : Heap) (locs1 : List Loc), va_P D zz_cl (zz_pick (zz_pick ws isR ++ wc') isP) H1 → va_D A (zz_pick (zz_pick ws isR ++ wc') isP) → va_S A s.heap H1 locs1 → W p l e R s m args below meth c H1 locs1 (cells + mc) (slots + ms) Q (F0 m (pc + 3) ls (.long F :: rest))) : W p l e R s m args below meth c H locs cells slots Q (F0 m pc ls st0) := by
  have hF := va_free (wc := wc) hD hS hA isC hC
  refine va_calll hr hS (fun q _ h => hF q h) hF (fun r u t H1 locs1 ht hvm hw hB hz1 hk1 hS1 => ?_)
  obtain ⟨hP1, hK1, hD1⟩ := hB
  rw [ht] at hP1
  obtain ⟨hP2, hD2⟩ := zz_back hP hD hF isC isR isP hC hR hn hdis hnP hN hk1 hP1 hD1
  subst hw
  exact kk H1 locs1 hP2 hD2 hS1
theorem zz_cv {mc ms : Nat} {a : Array Value} (hr : va_Run p l e R s m args below meth c H locs cells slots mc ms (F0 m pc ls st0) rest (zz_Qv D tys (va_A wc H.size) wc' a) (va_A wc H.size)) (hP : va_P D zz_cl ws H) (hD : va_D A ws) (hS : va_S A s.heap H locs) (hA : ∀ q, s.heap.size ≤ q → A q) (isC isR isP : List Nat) (hC : isC.map (fun i => ws[i]?) = wc.map some) (hR : isR.map (fun i => ws[i]?) = (zz_pick ws isR).map some) (hn : va_nd isR = true) (hdis : ∀ i ∈ isR, i ∉ isC) (hnP : va_nd isP = true) (hN : isP.map (fun i => (zz_pick ws isR ++ wc')[i]?) = (zz_pick (zz_pick ws isR ++ wc') isP).map some)
    (kk : ∀ (H1 : Heap) (locs1 : List Loc), va_P D zz_cl (zz_pick (zz_pick ws isR ++ wc') isP) H1 → va_D A (zz_pick (zz_pick ws isR ++ wc') isP) → va_S A s.heap H1 locs1 → W p l e R s m args below meth c H1 locs1 (cells + mc) (slots + ms) Q (F0 m (pc + 3) ls rest)) : W p l e R s m args below meth c H locs cells slots Q (F0 m pc ls st0) := by
  have hF := va_free (wc := wc) hD hS hA isC hC
  refine va_callv hr hS (fun q _ h => hF q h) hF (fun u t H1 locs1 ht hvm hw hB hz1 hk1 hS1 => ?_)
  obtain ⟨hP1, hK1, hD1⟩ := hB
  rw [ht] at hP1
  obtain ⟨hP2, hD2⟩ := zz_back hP hD hF isC isR isP hC hR hn hdis hnP hN hk1 hP1 hD1
  exact kk H1 locs1 hP2 hD2 hS1
/-! arrays by a number's place -/
theorem zz_iald (hx : p.tables.exec = Jvm.exec) (hb : c.code = cc) (hK : va_K D zz_cl tys s) (hP : va_P D zz_cl ws H) (q0 t0 : Nat) {a : Nat} {cA : ClassId} {n : Nat} {f : Nat → Int32} (ha : ws[q0]? = some (a, .inl (cA, n, .inl f))) (ht : tys[t0]? = some (cA, .int)) {k : Nat} (hk : k < n) (hn : n < 2 ^ 31) (hdg : decode cc pc = .ok (.iaload, 1))
    (kk : W p l e R s m args below meth c H locs cells slots Q (F0 m (pc + 1) ls (.int (f k) :: rest))) : W p l e R s m args below meth c H locs cells slots Q (F0 m pc ls (.int (nI k) :: .ref a :: rest)) := by
  refine va_iald hx hb hK hP q0 t0 ha ht (vp_in_nI hk hn) hdg ?_
  rw [nI_clamp (Nat.lt_trans hk hn)]
  exact kk
theorem zz_iast (hx : p.tables.exec = Jvm.exec) (hb : c.code = cc) (hK : va_K D zz_cl tys s) (hP : va_P D zz_cl ws H) (hD : va_D A ws) (hS : va_S A s.heap H locs) (q0 t0 : Nat) {a : Nat} {cA : ClassId} {n : Nat} {f : Nat → Int32} (ha : ws[q0]? = some (a, .inl (cA, n, .inl f))) (ht : tys[t0]? = some (cA, .int)) {k : Nat} {x : Int32} (hk : k < n) (hn : n < 2 ^ 31) (hdg : decode cc pc = .ok (.iastore, 1))
    (kk : ∀ (H1 : Heap) (locs1 : List Loc), va_P D zz_cl (ws.set q0 (a, .inl (cA, n, .inl (upd f k x)))) H1 → va_D A (ws.set q0 (a, .inl (cA, n, .inl (upd f k x)))) → va_S A s.heap H1 locs1 → W p l e R s m args below meth c H1 locs1 cells slots Q (F0 m (pc + 1) ls rest)) : W p l e R s m args below meth c H locs cells slots Q (F0 m pc ls (.int x :: .int (nI k) :: .ref a :: rest)) := by
  refine va_iast hx hb hK hP hD hS q0 t0 ha ht (vp_in_nI hk hn) hdg ?_
  rw [nI_clamp (Nat.lt_trans hk hn)]
  exact kk
end ZR
/-! a loop's head: its counter against its end -/
theorem zz_geT {Y : Int32} {k b : Nat} (hY : Y = nI b) (h : b ≤ k) (hk : k < 2 ^ 31) : Y ≤ nI k := by rw [hY]; exact nI_le h hk
theorem zz_geF {Y : Int32} {k b : Nat} (hY : Y = nI b) (h : k < b) (hb : b < 2 ^ 31) : ¬ Y ≤ nI k := by rw [hY]; exact nI_ge h hb
theorem zz_gtT {Y : Int32} {k b : Nat} (hY : Y = nI b) (h : b < k) (hk : k < 2 ^ 31) : Y < nI k := by rw [hY]; exact nI_lt h hk
theorem zz_gtF {Y : Int32} {k b : Nat} (hY : Y = nI b) (h : k ≤ b) (hb : b < 2 ^ 31) : ¬ Y < nI k := by rw [hY]; exact nI_nlt h hb
/-! METHODS THAT CHANGE NOTHING: their end says that the heap is the same; a call of one leaves all as it was -/
def zz_Ki (F : Int32) : Array Value → State → Outcome → State → Prop := fun _ st oc t => oc = .returned (some (.int F)) ∧ t.heap = st.heap
def zz_Kl (F : Int64) : Array Value → State → Outcome → State → Prop := fun _ st oc t => oc = .returned (some (.long F)) ∧ t.heap = st.heap
theorem zz_ofK {l : Launch} {y : MethodName} {b : ByteArray} {n : Nat} {r : Option FieldType} {rm : Room} {av : List Value} {D : va_G} {tys : List (ClassId × FieldType)} {sz : Nat} {ws : va_W} {Q : Array Value → State → Outcome → State → Prop}
    (hy : plainName y.cls = true) (hn : (lg_sl av).length ≤ n)
    (body : ∀ (p : Program) (e : Env) (s : State) (m : MethodId) (below : List Frame) (meth : Method) (c : Code), zz_C p s m av.toArray meth c b n r y.cls → va_K D zz_cl tys s → va_P D zz_cl ws s.heap → va_D (fun _ => True) ws → ∀ ls : Array Slot, lv_has ls n (lv_args 0 av) →
      W p l e rm s m av.toArray below meth c s.heap [] 0 0 (MQ below Q av.toArray s 0 0 (fun _ => False)) (F0 m 0 ls [])) :
    Met l y (zz_ws y b n r) rm (va_Pc av (zz_P D tys sz ws)) Q 0 0 (fun _ => False) := by
  refine Met.ofW (cc := b) (maxL := n) (ret := r) hy rfl ?_
  intro p e s m args below meth c s₁ B hml hv
  obtain ⟨rfl, hsz, hP, hK, hD0, hE⟩ := hv
  have hts := atoms_spec (ws := zz_ws y b n r) B.pre
  have hown : s.vm.findClass y.cls = some m.cls := findClass_of_methodNamed B.named
  have hl := lv_entry av (n := n) hn
  rw [lg_entry_eq]
  exact body p e s m below meth c ⟨B.exec, B.bytes, B.returns, hml, hown, fun w h => hts w (List.mem_cons_of_mem _ h), B.notSynchronized, hE⟩ hK hP hD0 _ hl
section ZK
variable {p : Program} {l : Launch} {e : Env} {R : Room} {s : State} {m : MethodId} {args : Array Value} {below : List Frame} {meth : Method} {c : Code} {H : Heap} {locs : List Loc} {cells slots : Nat} {Q : State → Prop}
variable {cc : ByteArray} {pc : Nat} {ls : Array Slot} {rest st0 : List Value} {A : Nat → Prop} {D : va_G} {tys : List (ClassId × FieldType)} {ws : va_W}
theorem zz_nof {L : List Loc} (h : ∀ q ∈ L, (fun _ : Addr => False) q.base) : L = [] := by
  cases L with
  | nil => rfl
  | cons a b => exact absurd (h a List.mem_cons_self) id
theorem zz_ki {F : Int32} {a : Array Value} (hr : va_Run p l e R s m args below meth c H locs cells slots 0 0 (F0 m pc ls st0) rest (zz_Ki F a) (fun _ => False)) (kk : W p l e R s m args below meth c H locs cells slots Q (F0 m (pc + 3) ls (.int F :: rest))) : W p l e R s m args below meth c H locs cells slots Q (F0 m pc ls st0) := by
  intro T hT X
  obtain ⟨v, st₀, t, T', L, h1, X', hL, h2, h3, ⟨hq, hh⟩, go⟩ := hr T hT X
  cases zz_nof hL
  rw [List.append_nil] at X'
  cases hq
  obtain ⟨t', a1, b1⟩ := kk T' (by rw [h2, hh, h1]) X'
  exact ⟨t', go _ a1, b1⟩
theorem zz_kl {F : Int64} {a : Array Value} (hr : va_Run p l e R s m args below meth c H locs cells slots 0 0 (F0 m pc ls st0) rest (zz_Kl F a) (fun _ => False)) (kk : W p l e R s m args below meth c H locs cells slots Q (F0 m (pc + 3) ls (.long F :: rest))) : W p l e R s m args below meth c H locs cells slots Q (F0 m pc ls st0) := by
  intro T hT X
  obtain ⟨v, st₀, t, T', L, h1, X', hL, h2, h3, ⟨hq, hh⟩, go⟩ := hr T hT X
  cases zz_nof hL
  rw [List.append_nil] at X'
  cases hq
  obtain ⟨t', a1, b1⟩ := kk T' (by rw [h2, hh, h1]) X'
  exact ⟨t', go _ a1, b1⟩
theorem zz_kiret {v F : Int32} (hx : p.tables.exec = Jvm.exec) (hb : c.code = cc) (hr : meth.sig.returnType = some .int) (hlocks : meth.locks = false) (hdg : decode cc pc = .ok (.ireturn, 1)) (hF : v = F) : W p l e R s m args below meth c s.heap [] 0 0 (MQ below (zz_Ki F) args s 0 0 (fun _ => False)) (F0 m pc ls [.int v]) :=
  W.iret (v := v) hx hb hr (fun t ht _ => ⟨by rw [hF], ht⟩) (fun _ h => by cases h) hdg hlocks
theorem zz_kzret {v F : Int32} {ty : FieldType} (hx : p.tables.exec = Jvm.exec) (hb : c.code = cc) (hr : meth.sig.returnType = some ty) (hlocks : meth.locks = false) (hn : narrow ty (.int v) = .int v) (hdg : decode cc pc = .ok (.ireturn, 1)) (hF : v = F) : W p l e R s m args below meth c s.heap [] 0 0 (MQ below (zz_Ki F) args s 0 0 (fun _ => False)) (F0 m pc ls [.int v]) :=
  W.zret (v := v) hx hb hr hn (fun t ht _ => ⟨by rw [hF], ht⟩) (fun _ h => by cases h) hdg hlocks
theorem zz_klret {v F : Int64} (hx : p.tables.exec = Jvm.exec) (hb : c.code = cc) (hr : meth.sig.returnType = some .long) (hlocks : meth.locks = false) (hdg : decode cc pc = .ok (.lreturn, 1)) (hF : v = F) : W p l e R s m args below meth c s.heap [] 0 0 (MQ below (zz_Kl F) args s 0 0 (fun _ => False)) (F0 m pc ls [.long v]) :=
  W.lret (v := v) hx hb hr (fun t ht _ => ⟨by rw [hF], ht⟩) (fun _ h => by cases h) hdg hlocks
end ZK
/-! MAKING: arrays of a known class, constructors with new cells -/
section ZN
variable {p : Program} {l : Launch} {e : Env} {R : Room} {s : State} {m : MethodId} {args : Array Value} {below : List Frame} {meth : Method} {c : Code} {H : Heap} {locs : List Loc} {cells slots : Nat} {Q : State → Prop}
variable {cc : ByteArray} {pc : Nat} {ls : Array Slot} {rest st0 : List Value} {A : Nat → Prop} {D : va_G} {tys : List (ClassId × FieldType)} {ws wc : va_W}
theorem zz_newa (hx : p.tables.exec = Jvm.exec) (hb : c.code = cc) {atype : ArrayType} (harr : (Cond.arrayClass (newarray.typeOf atype)).before args s = true) {ty : FieldType} (hty : newarray.typeOf atype = ty) (t0 : Nat) {cA : ClassId} (ht : tys[t0]? = some (cA, ty)) (hu : ∀ c1 c2 : ClassId, va_RA s c1 ty → va_RA s c2 ty → c1 = c2)
    (hK : va_K D zz_cl tys s) (hP : va_P D zz_cl ws H) (hD : va_D A ws) (hS : va_S A s.heap H locs) (hA : ∀ q, s.heap.size ≤ q → A q)
    {n : Int32} {N' : Nat} {a0 : vp_A} (ha : ∀ cA : ClassId, vp_cell cA a0 = arrV cA N' (fun _ => defaultValue ty)) (hn : ¬ n < 0) (hN : n.toNatClampNeg = N') (hbytes : N' * componentBytes ty ≤ 536870912) (hcells : cells + 1 ≤ R.cells) (hslots : slots + N' ≤ R.slots) (hdg : decode cc pc = .ok (.newarray atype, 2))
    (kk : ∀ (q : Nat) (H1 : Heap), va_P D zz_cl (ws ++ [(q, .inl (cA, a0))]) H1 → va_D A (ws ++ [(q, .inl (cA, a0))]) → va_S A s.heap H1 locs →
      W p l e R s m args below meth c H1 locs (cells + 1) (slots + N') Q (F0 m (pc + 2) ls (.ref q :: rest))) : W p l e R s m args below meth c H locs cells slots Q (F0 m pc ls (.int n :: rest)) := by
  refine va_newa hx hb harr hty hK hP hD hS hA ha hn hN hbytes hcells hslots hdg (fun q cA' H1 hK' hP' hD' hS' => ?_)
  have h1 := (hK'.2 tys.length (cA', ty) (by simp)).2
  have h2 := (hK.2 t0 (cA, ty) ht).2
  cases hu _ _ h1 h2
  exact kk q H1 hP' hD' hS'
theorem zz_cu {U : Type} {B : U → va_W} {mc ms : Nat} {a : Array Value} (hr : va_Run p l e R s m args below meth c H locs cells slots mc ms (F0 m pc ls st0) rest (va_Qv (fun (_ : U) => True) (fun u => zz_B D tys (va_A wc H.size) (B u)) (va_A wc H.size) a) (va_A wc H.size)) (hP : va_P D zz_cl ws H) (hD : va_D A ws) (hS : va_S A s.heap H locs) (hA : ∀ q, s.heap.size ≤ q → A q) (isC isR : List Nat) (hC : isC.map (fun i => ws[i]?) = wc.map some) (hR : isR.map (fun i => ws[i]?) = (zz_pick ws isR).map some) (hn : va_nd isR = true) (hdis : ∀ i ∈ isR, i ∉ isC)
    (kk : ∀ (u : U) (H1 : Heap) (locs1 : List Loc), va_P D zz_cl (zz_pick ws isR ++ B u) H1 → va_D A (zz_pick ws isR ++ B u) → va_S A s.heap H1 locs1 → W p l e R s m args below meth c H1 locs1 (cells + mc) (slots + ms) Q (F0 m (pc + 3) ls rest)) : W p l e R s m args below meth c H locs cells slots Q (F0 m pc ls st0) := by
  have hF := va_free (wc := wc) hD hS hA isC hC
  refine va_callv hr hS (fun q _ h => hF q h) hF (fun u t H1 locs1 ht hvm hw hB hz1 hk1 hS1 => ?_)
  obtain ⟨hP1, hK1, hD1⟩ := hB
  rw [ht] at hP1
  obtain ⟨hP2, hD2⟩ := va_join (wr := zz_pick ws isR) (w1 := B u) hP hD isC isR hC hR hn hdis hk1 hF hP1 hD1
  exact kk u H1 locs1 hP2 hD2 hS1
theorem zz_uret {U : Type} {B : U → va_W} (u : U) (hx : p.tables.exec = Jvm.exec) (hb : c.code = cc) (hr : meth.sig.returnType = none) (hlocks : meth.locks = false) (hK : va_K D zz_cl tys s) (hP : va_P D zz_cl (B u) H) (hD : va_D A (B u)) (hS : va_S A s.heap H locs) (hdg : decode cc pc = .ok (.return_, 1)) : W p l e R s m args below meth c H locs cells slots (MQ below (va_Qv (fun (_ : U) => True) (fun u => zz_B D tys A (B u)) A) args s cells slots A) (F0 m pc ls []) :=
  W.vret hx hb hr (fun t ht hW => ⟨⟨u, rfl, trivial, by rw [ht]; exact hP, va_K.moved hW.alike hK, hD⟩, hS.F ht⟩) hS.2.2 hdg hlocks
end ZN

