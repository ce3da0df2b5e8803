/-! THE LAW'S HELPERS: static methods with a table of handlers -/
abbrev zh_ws (y : MethodName) (b : ByteArray) (n : Nat) (r : Option FieldType) (hh : List (Nat × Nat × Nat × Nat)) : List Cond := .codeWith y b n r hh :: zz_big
theorem zh_g {own : String} {idx : Nat} {y : MethodName} {b : ByteArray} {n : Nat} {r : Option FieldType} {hh : List (Nat × Nat × Nat × Nat)} (h1 : Cond.methodLink own idx y ∈ zz_big) (h2 : Cond.static y ∈ zz_big) (h4 : Cond.initialized y.cls ∈ zz_big) (h5 : Cond.codeWith y b n r hh ∈ zz_big) : GoodIn zz_big (va_wsS own idx y (zh_ws y b n r hh)) := zz_gd (fun w hw => by
  rcases List.mem_append.mp hw with h | h
  · simp only [List.mem_cons, List.not_mem_nil, or_false] at h
    rcases h with h | h | h <;> (rw [h]; assumption)
  · rcases List.mem_cons.mp h with h | h
    · rw [h]; exact h5
    · exact h)
theorem zh_ofW {l : Launch} {y : MethodName} {b : ByteArray} {n : Nat} {r : Option FieldType} {hh : List (Nat × Nat × Nat × Nat)} {rm : Room} {av : List Value} {D : va_G} {tys : List (ClassId × FieldType)} {sz : Nat} {ws : va_W} {mc ms : Nat} {Q : (Nat → Prop) → Array Value → State → Outcome → State → Prop}
    (hy : plainName y.cls = true) (hn : (lg_sl av).length ≤ n)
    (body : ∀ (p : Program) (e : Env) (s : State) (m : MethodId) (below : List Frame) (meth : Method) (c : Code) (A : Nat → Prop), zz_C p s m av.toArray meth c b n r y.cls → c.exceptionTable.toList.map (fun h => (h.startPc, h.endPc, h.handlerPc, h.catchType)) = hh → (∀ q : Nat, s.heap.size ≤ q → A q) → va_K D zz_cl tys s → va_P D zz_cl ws s.heap → va_D A ws → zt_Z A s → ∀ ls : Array Slot, lv_has ls n (lv_args 0 av) →
      W p l e rm s m av.toArray below meth c s.heap [] 0 0 (MQ below (Q A) av.toArray s mc ms A) (F0 m 0 ls [])) :
    Met l y (zh_ws y b n r hh) rm (va_Pc av (zt_P D tys sz ws)) (Q (va_A ws sz)) mc ms (va_A ws sz) := by
  refine va_MetW (cc := b) (maxL := n) (ret := r) (hh := hh) hy rfl ?_
  intro p e s m args below meth c s₁ B hml hv
  obtain ⟨rfl, ⟨hsz, hP, hK, hD0, hE⟩, hZ⟩ := hv
  have hts := atoms_spec (ws := zh_ws y b n r hh) B.pre
  have hown : s.vm.findClass y.cls = some m.cls := findClass_of_methodNamed B.named
  obtain ⟨m9, meth9, c9, hn9, h1, h2, -, -, htab, -, -, -⟩ := Cond.codeWith_spec (hts _ List.mem_cons_self)
  cases B.named.symm.trans hn9
  cases B.method.symm.trans h1
  cases (Stand.of_body B).code.symm.trans h2
  subst hsz
  have hD := hD0.self (sz := s.heap.size)
  have hl := lv_entry av (n := n) hn
  rw [lg_entry_eq]
  exact body p e s m below meth c (va_A ws s.heap.size) ⟨B.exec, B.bytes, B.returns, hml, hown, fun w h => hts w (List.mem_cons_of_mem _ h), B.notSynchronized, hE⟩ htab (fun q h => Or.inr h) hK hP hD hZ _ hl
theorem zh_tab1 {L : List ExceptionTableEntry} {a b h c : Nat} (e : L.map (fun h => (h.startPc, h.endPc, h.handlerPc, h.catchType)) = [(a, b, h, c)]) : L = [⟨a, b, h, c⟩] := by
  match L, e with
  | [x], e =>
    simp only [List.map_cons, List.map_nil, List.cons.injEq, Prod.mk.injEq, and_true] at e
    obtain ⟨rfl, rfl, rfl, rfl⟩ := e
    rfl
theorem zh_tab2 {L : List ExceptionTableEntry} {a b h c a' b' h' c' : Nat} (e : L.map (fun h => (h.startPc, h.endPc, h.handlerPc, h.catchType)) = [(a, b, h, c), (a', b', h', c')]) : L = [⟨a, b, h, c⟩, ⟨a', b', h', c'⟩] := by
  match L, e with
  | [x, y], e =>
    simp only [List.map_cons, List.map_nil, List.cons.injEq, Prod.mk.injEq, and_true] at e
    obtain ⟨⟨rfl, rfl, rfl, rfl⟩, rfl, rfl, rfl, rfl⟩ := e
    rfl
section ZH
variable {p : Program} {l : Launch} {e : Env} {R : Room} {s : State} {m : MethodId} {args : Array Value} {below : List Frame} {meth : Method} {c : Code} {H : Heap} {locs : List Loc} {cells slots : Nat} {Q : State → Prop}
variable {cc : ByteArray} {pc : Nat} {ls : Array Slot} {rest st0 : List Value} {A : Nat → Prop} {D : va_G} {tys : List (ClassId × FieldType)} {ws wc wc' : va_W} {xn : Nat → String} {k : Nat}
theorem zh_callS {T : State} (X : Stand p l e R s m args below meth c T locs cells slots) (hexec : p.tables.exec = Jvm.exec) {own : String} {index : Nat} {y : MethodName} {bytes : ByteArray} {maxL : Nat} {ret : Option FieldType} {hh : List (Nat × Nat × Nat × Nat)}
    (hown : s.vm.findClass own = some m.cls) (hlink : (Cond.methodLink own index y).before args s = true) (hstat : (Cond.static y).before args s = true) (hinit : (Cond.initialized y.cls).before args s = true)
    (hcode : (Cond.codeWith y bytes maxL ret hh).before args s = true) (hy : y.cls ≠ "java/lang/invoke/MethodHandle" ∧ y.cls ≠ "java/lang/invoke/VarHandle")
    {W : Nat} {Pre : Pt → Array Value → Prop} {Post : Pt → Array Value → Option Value → Pt → Prop} (hK : Back l R p e below s args y 3 W Pre Post)
    {g : JFrame} (hg : g.method = m) (hsize : g.locals.size = c.maxLocals) {argsL rest : List Value} (hlen : ∀ sig, parseMethodDescriptor y.desc = some sig → argsL.length = sig.parameters.length)
    (hstack : g.stack = argsL.reverse ++ rest) (hW : 2 * g.monitorRoom + (rest.map fun v => v.category).sum ≤ W) (hdg : decode c.code g.pc = .ok (.invokestatic index, 3))
    (hpre : ∀ vm₁, s.WarmedH vm₁ → Pre ⟨T.setVm vm₁, locs, cells, slots⟩ argsL.toArray) :
    ∃ (v : Option Value) (vm₁ : Vm) (B : Pt), s.WarmedH vm₁ ∧ Stand p l e R s m args below meth c B.U B.locs B.cells B.slots ∧ Post ⟨T.setVm vm₁, locs, cells, slots⟩ argsL.toArray v B ∧
      ∀ target, Steps p.tables e below (B.U.setTop { g with pc := g.pc + 3, stack := v.toList ++ rest }) target → Steps p.tables e below (T.setTop g) target := by
  obtain ⟨mk, methM, cM, hnamed, hmethM, -, -, -, -, -, -, hsigM⟩ := Cond.codeWith_spec hcode
  have hstatic : methM.isStatic = true := Cond.static_spec hnamed hmethM hstat
  obtain ⟨kP, hkP, -⟩ := className_of_methodNamed hnamed
  have hinitP : kP.init = .initialized := Cond.initialized_spec (findClass_of_methodNamed hnamed) hkP hinit
  obtain ⟨vm₁, X₁, hstep₁⟩ := X.invokestatic hexec hown hlink hnamed hmethM hstatic hkP hinitP hy (g := g) hg (argsL := argsL) (rest := rest) (hlen _ hsigM) hstack hdg
  obtain ⟨v, B, X', hpost, hsteps⟩ := hK m meth c ⟨T.setVm vm₁, locs, cells, slots⟩ { g with stack := rest } (.invokestatic index) mk argsL.toArray X₁ hg hsize hdg hW (X₁.named hnamed) (hpre vm₁ X₁.warmed)
  exact ⟨v, vm₁, B, X₁.warmed, X', hpost, fun target h => hstep₁ _ fun acts => by rw [doInvoke_state]; exact hsteps.trans h⟩
theorem zh_runS {y : MethodName} {bytes : ByteArray} {maxL nL mc ms n index : Nat} {ret : Option FieldType} {hh : List (Nat × Nat × Nat × Nat)} {wl : List Cond} {rm : Room} {Pc : Array Value → State → Prop} {Qc : Array Value → State → Outcome → State → Prop} {free : Addr → Prop} {Ts : List Cond} {own : String} {As : List Value} {g : JFrame}
    (S : CallFix p m c cc nL s args Ts own) (hM : Met l y wl rm Pc Qc mc ms free) (hT : GoodIn Ts (va_wsS own index y wl)) (hw : wl = Cond.codeWith y bytes maxL ret hh :: zz_big) (hrc : rm.cells = mc) (hrs : rm.slots = ms)
    (hd : y.cls ≠ "java/lang/invoke/MethodHandle" ∧ y.cls ≠ "java/lang/invoke/VarHandle" ∧ (parseMethodDescriptor y.desc).map (fun d => d.parameters.length) = some n) (hR : rm.frames + 1 ≤ R.frames ∧ 8 + (maxL + 11) + rm.locals ≤ R.locals) (hp : PreS s H Pc As)
    (hg : g.method = m) (hn : As.length = n) (hsize : g.locals.size = nL) (hstack : g.stack = As.reverse ++ rest) (hW : 2 * g.monitorRoom + (rest.map fun v => v.category).sum ≤ 8) (hdg : decode cc g.pc = .ok (.invokestatic index, 3)) (hf : cells + mc ≤ R.cells ∧ slots + ms ≤ R.slots) :
    va_Run p l e R s m args below meth c H locs cells slots mc ms g rest (Qc As.toArray) free := by
  obtain ⟨hx, hb, hml, ho, ht⟩ := S
  have ok : ∀ w ∈ va_wsS own index y wl, w.before args s = true := fun w h => ht w (hT w h).1
  have hG : GoodIn Ts wl := fun w h => hT w (by unfold va_wsS; exact List.mem_append_right _ h)
  have hc : Cond.codeWith y bytes maxL ret hh ∈ wl := by rw [hw]; exact List.mem_cons_self
  have hini : (Cond.initialized y.cls).before args s = true := ok _ (by simp [va_wsS])
  have hK : Back l R p e below s args y 3 8 (PreOf R mc ms Pc) (PostOf Qc mc ms free) := va_backW (hh := hh) (bytes := bytes) (maxL := maxL) (ret := ret) hM hp.1 hrc hrs hR.1 hR.2 (pay_in ht hG) hc (fun a' U hW => word_at hW (Or.inl (by first | rfl | simp [Cond.onTables, Cond.keeps, Cond.steady])) hini)
  intro T hT' X
  obtain ⟨v, vm₁, ⟨U', l2, c2, s2⟩, hW₁, X', ⟨g', mk, t, L, e1, e2, hq, h1, hL, h2, h3⟩, st⟩ := zh_callS X hx (own := own) (index := index) (y := y) (hh := hh) (bytes := bytes) (maxL := maxL) (ret := ret) ho (ok _ (by simp [va_wsS])) (ok _ (by simp [va_wsS])) hini (ht _ (hG _ hc).1) ⟨hd.1, hd.2.1⟩ hK hg (hsize.trans hml.symm) (argsL := As) (rest := rest) (fun sig h => hn.trans (by
      have h2 := hd.2.2
      rw [h] at h2
      exact (Option.some.inj h2).symm)) hstack hW (by rw [hb]; exact hdg)
    (fun vm₁ hW₁ => ⟨hf.1, hf.2, hp.2 (T.setVm vm₁) hT' hW₁⟩)
  dsimp only [Pt.U, Pt.locs, Pt.cells, Pt.slots] at X' e1 e2 h1 h2 h3 st
  subst h1; subst h2; subst h3
  exact ⟨v, (T.setVm vm₁).calling g' mk As.toArray, t, U', L, hT', X', hL, e1, e2, hq, st⟩
/-- what a caller of a method that may throw must show -/
theorem zh_at {As : List Value} (hP : va_P D zz_cl ws H) (hK : va_K D zz_cl tys s) (hD : va_D A ws) (hE : zz_en s) {A' : Nat → Prop} (hZ : zt_Z A' s) (hS : va_S A' s.heap H locs) (hAA : ∀ q, va_A ws H.size q → A' q) : ∀ U : State, U.heap = H → s.WarmedH U.vm → va_Pc As (zt_P D tys H.size ws) As.toArray U := fun U hU hW =>
  ⟨rfl, (zz_at (av := As) hP hK hD hE U hU hW).2, by
    have h1 := (hZ.1.kept hS.2.1).narrow hAA
    rw [← hU] at h1
    exact zt_Zs.moved (U := U) hW.alike (by rw [← hU]; exact h1), by
    have h1 := (hZ.2.kept hS.2.1).narrow hAA
    rw [← hU] at h1
    exact zt_Zs.moved (U := U) hW.alike (by rw [← hU]; exact h1)⟩
theorem zh_preV {As : List Value} {b ci : Nat} {fs : List Value} {q : vw_C} (hP : va_P D zz_cl ws H) (hD : va_D A ws) (hK : va_K D zz_cl tys s) (hE : zz_en s) (hZ : zt_Z A s) (hS : va_S A s.heap H locs) (hA : ∀ q, s.heap.size ≤ q → A q) (isC : List Nat) (hnC : va_nd isC = true) (hC : isC.map (fun i => ws[i]?) = wc.map some) (hr : wc[0]? = some (b, .inr (ci, fs))) (hc : zz_cl[ci]? = some q) : PreV s H q.1 b (va_Pc (.ref b :: As) (zt_P D tys H.size wc)) As := by
  have hDc : va_D A wc := hD.sub isC hnC hC
  have hPc : va_P D zz_cl wc H := hP.sub isC (by
    have e := congrArg (fun l : List (Option (Nat × va_E)) => l.filterMap id) hC
    simpa [List.filterMap_map, Function.comp_def] using e)
  exact ⟨zt_blind, va_recv hK hPc hc hr, zh_at hPc hK hDc hE hZ hS (va_free hD hS hA isC hC)⟩
theorem zh_preS {As : List Value} (hP : va_P D zz_cl ws H) (hD : va_D A ws) (hK : va_K D zz_cl tys s) (hE : zz_en s) (hZ : zt_Z A s) (hS : va_S A s.heap H locs) (hA : ∀ q, s.heap.size ≤ q → A q) (isC : List Nat) (hnC : va_nd isC = true) (hC : isC.map (fun i => ws[i]?) = wc.map some) : PreS s H (va_Pc As (zt_P D tys H.size wc)) As := by
  have hDc : va_D A wc := hD.sub isC hnC hC
  have hPc : va_P D zz_cl wc H := hP.sub isC (by
    have e := congrArg (fun l : List (Option (Nat × va_E)) => l.filterMap id) hC
    simpa [List.filterMap_map, Function.comp_def] using e)
  exact ⟨zt_blind, zh_at hPc hK hDc hE hZ hS (va_free hD hS hA isC hC)⟩
abbrev zh_X (p : Program) (l : Launch) (e : Env) (R : Room) (s : State) (m : MethodId) (args : Array Value) (below : List Frame) (meth : Method) (c : Code) (H : Heap) (locs : List Loc) (cells slots mc ms : Nat) (g : JFrame) (rest : List Value) (Qa : State → Outcome → State → Prop) (free : Addr → Prop) : Prop :=
    ∀ T : State, T.heap = H → Stand p l e R s m args below meth c T locs cells slots → ∃ (x : Addr) (st₀ t T' : State) (L : List Loc), st₀.heap = H ∧ s.vm.Alike st₀.vm ∧ Stand p l e R s m args below meth c T' (locs ++ L) (cells + mc) (slots + ms) ∧ (∀ q ∈ L, free q.base) ∧ T'.heap = t.heap ∧ T'.vm = t.vm ∧ Qa st₀ (.threw x) t ∧
      ∀ target, Steps p.tables e below ((T'.setTop { g with stack := rest }).pushFrame (.throwing x)) target → Steps p.tables e below (T.setTop g) target
/-- behind a throw that a row of the table takes: the world as after a call, at the handler -/
theorem zh_caught {mc ms : Nat} {Qa : State → Outcome → State → Prop} {v : Value} {hpc : Nat} (hr : zh_X p l e R s m args below meth c H locs cells slots mc ms (F0 m pc ls st0) rest Qa (va_A wc H.size)) (hq : ∀ st o t, Qa st o t → zt_End xn k v st o t ∧ zz_B D tys (va_A wc H.size) wc' t ∧ va_F (va_A wc H.size) st t)
    (hP : va_P D zz_cl ws H) (hD : va_D A ws) (hS : va_S A s.heap H locs) (hA : ∀ q, s.heap.size ≤ q → A q) (isC isR isP : List Nat) (hC : isC.map (fun i => ws[i]?) = wc.map some) (hR : isR.map (fun i => ws[i]?) = (zz_pick ws isR).map some) (hn : va_nd isR = true) (hdis : ∀ i ∈ isR, i ∉ isC) (hnP : va_nd isP = true) (hN : isP.map (fun i => (zz_pick ws isR ++ wc')[i]?) = (zz_pick (zz_pick ws isR ++ wc') isP).map some)
    (row : ∀ {T : State} {locs1 : List Loc} {x : Addr} {ce : Cell}, Stand p l e R s m args below meth c T locs1 (cells + mc) (slots + ms) → T.heap[x]? = some ce → ce.vm = .none → s.vm.findClass (xn k) = some ce.cls → ∃ vm', Stand p l e R s m args below meth c (T.setVm vm') locs1 (cells + mc) (slots + ms) ∧ ∀ target, Steps p.tables e below ((T.setVm vm').setTop (F0 m hpc ls [.ref x])) target → Steps p.tables e below ((T.setTop (F0 m pc ls rest)).pushFrame (.throwing x)) target)
    (kk : ∀ (x : Nat) (H1 : Heap) (locs1 : List Loc), va_P D zz_cl (zz_pick (zz_pick ws isR ++ wc') isP) H1 → va_D A (zz_pick (zz_pick ws isR ++ wc') isP) → va_S A s.heap H1 locs1 → W p l e R s m args below meth c H1 locs1 (cells + mc) (slots + ms) Q (F0 m hpc ls [.ref x])) : W p l e R s m args below meth c H locs cells slots Q (F0 m pc ls st0) := by
  have hF := va_free (wc := wc) hD hS hA isC hC
  intro T hT X
  obtain ⟨x, st₀, t, T', L, h0, hal, X', hL, e1, e2, hqa, go⟩ := hr T hT X
  obtain ⟨hend, ⟨hP1, hK1, hD1⟩, hz, hk⟩ := hq _ _ _ hqa
  rw [h0] at hz hk
  rcases hend with ⟨-, he⟩ | ⟨-, x', ce, hx', hge, hce, hnone, hcl⟩
  · cases he
  · cases hx'
    rw [hal.findClass] at hcl
    obtain ⟨vm', X2, go2⟩ := row X' (by rw [e1]; exact hce) hnone hcl
    obtain ⟨hP2, hD2⟩ := zz_back (wc' := wc') (wr := zz_pick ws isR) (wn := zz_pick (zz_pick ws isR ++ wc') isP) (H1 := T'.heap) hP hD hF isC isR isP hC hR hn hdis hnP hN (fun q h1 h2 => by rw [e1]; exact hk q h1 h2) (by rw [e1]; exact hP1) hD1
    obtain ⟨t2, a1, b1⟩ := kk x T'.heap (locs ++ L) hP2 hD2 ⟨Nat.le_trans hS.1 (by rw [e1]; exact hz), fun q h1 h2 => by rw [e1, hk q (Nat.lt_of_lt_of_le h1 hS.1) (fun z => h2 (hF q z))]; exact hS.2.1 q h1 h2, fun q hq => by
      rcases List.mem_append.mp hq with h | h
      · exact hS.2.2 q h
      · exact hF _ (hL q h)⟩ (T'.setVm vm') rfl X2
    exact ⟨t2, go t2 (go2 t2 a1), b1⟩
end ZH
theorem zh_in0 : vp_in 0 1 := vp_in_nI (n := 0) (by decide) (by decide)
theorem zh_thr {D : va_G} {tys : List (ClassId × FieldType)} {A : Nat → Prop} {xn : Nat → String} {k : Nat} {F : Int32} {ws : va_W} (hk : ¬ k = 0) : ∀ (a : Array Value) (st : State) (o : Outcome) (t : State), zt_Qi D tys A xn k F ws a st o t → ∃ x, o = .threw x := fun a st o t h => by
  rcases h.1 with ⟨h0, _⟩ | ⟨_, x, ce, hx, _⟩
  · exact absurd h0 hk
  · exact ⟨x, hx⟩
theorem zh_thrl {D : va_G} {tys : List (ClassId × FieldType)} {A : Nat → Prop} {xn : Nat → String} {k : Nat} {F : Int64} {ws : va_W} (hk : ¬ k = 0) : ∀ (a : Array Value) (st : State) (o : Outcome) (t : State), zt_Ql D tys A xn k F ws a st o t → ∃ x, o = .threw x := fun a st o t h => by
  rcases h.1 with ⟨h0, _⟩ | ⟨_, x, ce, hx, _⟩
  · exact absurd h0 hk
  · exact ⟨x, hx⟩
/-! THE LAW'S OWN ROWS: its script, its array classes -/
section ZLL
variable {p : Program} {l : Launch} {e : Env} {R : Room} {s : State} {m : MethodId} {args : Array Value} {below : List Frame} {meth : Method} {c : Code} {H : Heap} {locs : List Loc} {cells slots : Nat} {Q : State → Prop}
variable {cc : ByteArray} {pc : Nat} {ls : Array Slot} {rest : List Value} {A : Nat → Prop}
theorem zl_sld (hx : p.tables.exec = Jvm.exec) (hb : c.code = cc) {b L : Nat} {xs : Nat → Int32} (hX : va_X b L xs s s.heap) (hbl : b < s.heap.size) (hbA : ¬ A b) (hS : va_S A s.heap H locs) {k : Nat} (hk : k < L) (hL : L < 2 ^ 31) (hdg : decode cc pc = .ok (.iaload, 1))
    (kk : W p l e R s m args below meth c H locs cells slots Q (F0 m (pc + 1) ls (.int (xs k) :: rest))) : W p l e R s m args below meth c H locs cells slots Q (F0 m pc ls (.int (nI k) :: .ref b :: rest)) := by
  refine va_sld hx hb hX hbl hbA hS (vp_in_nI hk hL) hdg ?_
  rw [nI_clamp (Nat.lt_trans hk hL)]
  exact kk
end ZLL
theorem zl_arr {args : Array Value} {s : State} {ty : FieldType} (h : (Cond.arrayClass ty).before args s = true) : ∃ cA : ClassId, ArrOfT s cA ty ∧ s.vm.findClass ("[" ++ ty.toString) = some cA := by
  obtain ⟨cA, kA, comp, h1, h2, h3⟩ := Cond.arrayClass_spec h
  exact ⟨cA, fun n z => ⟨fun k h => (by cases h), kA, h2, comp, h3⟩, h1⟩
theorem zl_gt {i L : Nat} (hL : L ≤ 2561) (hi : i ≤ 2561) : (nI L - 5 < nI i) ↔ L < i + 5 := by
  rw [Int32.lt_iff_toInt_lt, show (nI L - 5 : Int32).toInt = (L : Int) - 5 from pk_sub_toInt (b := 5) (by omega) (by decide), nI_toInt (by omega)]
  omega

