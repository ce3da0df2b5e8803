/-! METHODS THAT MAY THROW -/
def zt_FE (first t : State) (L : List Loc) (k n : Nat) : Prop := first.WarmedH t.vm ∧ first.sameButNew ({ t with vm := first.vm } : State) L k n
def zt_Met (l : Launch) (y : MethodName) (ws : List Cond) (rm : Room) (Pc : Array Value → State → Prop) (Qc : Array Value → State → Outcome → State → Prop) (mc ms : Nat) (free : Addr → Prop) : Prop :=
  MetFree l y (headSpec ws rm) Pc (fun _ _ _ _ _ => True) (fun a st o t => Qc a st o t ∧ ∃ L, zt_FE st t L mc ms ∧ ∀ q ∈ L, free q.base)
def zt_MQ (below : List Frame) (Qc : Array Value → State → Outcome → State → Prop) (a : Array Value) (s : State) (mc ms : Nat) (free : Addr → Prop) : State → Prop := fun t =>
  ∃ o, t.status = .running ∧ Ended t below o ∧ Qc a s o t ∧ ∃ L, zt_FE s t L mc ms ∧ ∀ q ∈ L, free q.base
theorem zt_ofMQ {below : List Frame} {Qc Qd : Array Value → State → Outcome → State → Prop} {a : Array Value} {s t : State} {mc ms : Nat} {free : Addr → Prop} (hq : ∀ o, Qc a s o t → Qd a s o t) (h : MQ below Qc a s mc ms free t) : zt_MQ below Qd a s mc ms free t := by
  obtain ⟨o, h1, h2, h3, L, hF, hL⟩ := h
  exact ⟨o, h1, h2, hq o h3, L, ⟨hF.2.1, hF.2.2⟩, hL⟩
/-- a static that holds a reference or null, in a cell that is not the method's own -/
def zt_Zs (O n d : String) (A : Nat → Prop) (U : State) (H : Heap) : Prop := ∃ (c : ClassId) (k : Class) (i : Nat) (f : Field) (a : Nat) (cell : Cell) (v : Value), U.vm.findClass O = some c ∧ U.fieldFound? O n d = some (c, k, i, f) ∧ f.isStatic = true ∧ k.statics = some a ∧ H[a]? = some cell ∧ cell.vm.isStatics = true ∧ cell.cls = c ∧ f.slot < cell.slots.size ∧ k.staticTypes[f.slot]? = some f.type ∧ cell.slots[f.slot]? = some v ∧ (v = .null ∨ ∃ t, v = .ref t) ∧ ¬ A a
theorem zt_Zs.moved {O n d : String} {A : Nat → Prop} {u U : State} {H : Heap} (hvm : u.vm.Alike U.vm) (h : zt_Zs O n d A u H) : zt_Zs O n d A U H := by
  obtain ⟨c, k, i, f, a, cell, v, h1, h2, h3, h4, h5, h6, h7, h8, h9, h10⟩ := h
  obtain ⟨k', hi', he⟩ := State.fieldFound?_setVm hvm h2
  exact ⟨c, k', i, f, a, cell, v, by rw [hvm.findClass]; exact h1, hi', h3, by rw [he]; exact h4, h5, h6, h7, h8, by rw [he]; exact h9, h10⟩
theorem zt_Zs.kept {O n d : String} {A : Nat → Prop} {U : State} {H H1 : Heap} (h : zt_Zs O n d A U H) (hq : ∀ a : Nat, a < H.size → ¬ A a → H1[a]? = H[a]?) : zt_Zs O n d A U H1 := by
  obtain ⟨c, k, i, f, a, cell, v, h1, h2, h3, h4, h5, h6, h7, h8, h9, h10, h11, h12⟩ := h
  exact ⟨c, k, i, f, a, cell, v, h1, h2, h3, h4, by rw [hq a (Array.getElem?_eq_some_iff.mp h5).1 h12]; exact h5, h6, h7, h8, h9, h10, h11, h12⟩
theorem zt_Zs.narrow {O n d : String} {A B : Nat → Prop} {U : State} {H : Heap} (h : zt_Zs O n d A U H) (hAB : ∀ q, B q → A q) : zt_Zs O n d B U H := by
  obtain ⟨c, k, i, f, a, cell, v, h1, h2, h3, h4, h5, h6, h7, h8, h9, h10, h11, h12⟩ := h
  exact ⟨c, k, i, f, a, cell, v, h1, h2, h3, h4, h5, h6, h7, h8, h9, h10, h11, fun z => h12 (hAB a z)⟩
theorem zt_Zs.lays {O n d : String} {A : Nat → Prop} {s : State} {args : Array Value} (h : zt_Zs O n d A s s.heap) : (Cond.laysStatic O n d).before args s = true := by
  obtain ⟨c, k, i, f, a, cell, v, h1, h2, h3, h4, h5, h6, h7, h8, h9, h10, h11, h12⟩ := h
  exact Cond.laysStatic_of h1 h2 h3 h4 h5 h6 h7 h8 h9
theorem zt_Zs.isRef {O n d : String} {A : Nat → Prop} {s : State} {args : Array Value} (h : zt_Zs O n d A s s.heap) : (Cond.isRef (.static O n d)).before args s = true := by
  obtain ⟨c, k, i, f, a, cell, v, h1, h2, h3, h4, h5, h6, h7, h8, h9, h10, h11, h12⟩ := h
  have he : (Term.static O n d).eval args s none [] s = cell.slots[f.slot]? := by
    simp [Term.eval, State.fieldNamed?, h2, h3, h4, h5, h6]
  simp only [Cond.before, Cond.holds, Cond.value]
  rw [he, h10]
  rcases h11 with rfl | ⟨t, rfl⟩ <;> rfl
theorem zt_Zs.of {O n d : String} {A : Nat → Prop} {s : State} {args : Array Value} (hl : (Cond.laysStatic O n d).before args s = true) (hr : (Cond.isRef (.static O n d)).before args s = true) (hA : ∀ a : Nat, a < s.heap.size → ¬ A a) : zt_Zs O n d A s s.heap := by
  obtain ⟨c, k, i, f, a, cell, h1, h2, h3, h4, h5, h6, h7, h8, h9⟩ := Cond.laysStatic_spec hl
  obtain ⟨u, hu⟩ := Cond.staticRefV h2 h3 h4 h5 h6 hr
  obtain ⟨v, hv⟩ := u
  refine ⟨c, k, i, f, a, cell, v, h1, h2, h3, h4, h5, h6, h7, h8, h9, hu, ?_, hA a (Array.getElem?_eq_some_iff.mp h5).1⟩
  cases v <;> first | exact Or.inl rfl | exact Or.inr ⟨_, rfl⟩ | (simp [Value.isRef] at hv)
/-- the two statics that an exception's maker reads -/
def zt_Z (A : Nat → Prop) (U : State) : Prop := zt_Zs Bundle.tN "UNASSIGNED_STACK" Bundle.steD A U U.heap ∧ zt_Zs Bundle.tN "SUPPRESSED_SENTINEL" Bundle.listD A U U.heap
def zt_P (D : va_G) (tys : List (ClassId × FieldType)) (sz : Nat) (ws : va_W) : State → Prop := fun U => zz_P D tys sz ws U ∧ zt_Z (va_A ws sz) U
/-- k = 0: it returned F; else it threw an exception of the class xn k, a new cell -/
def zt_End (xn : Nat → String) (k : Nat) (v : Value) (st : State) (oc : Outcome) (t : State) : Prop := (k = 0 ∧ oc = .returned (some v)) ∨ (k ≠ 0 ∧ ∃ (x : Nat) (ce : Cell), oc = .threw x ∧ st.heap.size ≤ x ∧ t.heap[x]? = some ce ∧ ce.vm = .none ∧ st.vm.findClass (xn k) = some ce.cls)
def zt_Qi (D : va_G) (tys : List (ClassId × FieldType)) (A : Nat → Prop) (xn : Nat → String) (k : Nat) (F : Int32) (ws : va_W) : Array Value → State → Outcome → State → Prop := fun _ st oc t => zt_End xn k (.int F) st oc t ∧ zz_B D tys A ws t ∧ va_F A st t
def zt_Ql (D : va_G) (tys : List (ClassId × FieldType)) (A : Nat → Prop) (xn : Nat → String) (k : Nat) (F : Int64) (ws : va_W) : Array Value → State → Outcome → State → Prop := fun _ st oc t => zt_End xn k (.long F) st oc t ∧ zz_B D tys A ws t ∧ va_F A st t
theorem zt_blind {D : va_G} {tys : List (ClassId × FieldType)} {sz : Nat} {ws : va_W} {av : List Value} : FrameBlind (va_Pc av (zt_P D tys sz ws)) := fun a U g mk q => by
  obtain ⟨q0, q1, q2, q3⟩ := q
  exact ⟨q0, (zz_blind a U g mk ⟨q0, q1⟩).2, zt_Zs.moved (u := U) (U := U.calling g mk a) (Vm.Alike.refl U.vm) q2, zt_Zs.moved (u := U) (U := U.calling g mk a) (Vm.Alike.refl U.vm) q3⟩
theorem zt_ofW {l : Launch} {y : MethodName} {b : ByteArray} {n : Nat} {r : Option FieldType} {rm : Room} {av : List Value} {D : va_G} {tys : List (ClassId × FieldType)} {sz : Nat} {ws : va_W} {mc ms : Nat} {Q : (Nat → Prop) → Array Value → State → Outcome → State → Prop}
    (hy : plainName y.cls = true) (hn : (lg_sl av).length ≤ n)
    (body : ∀ (p : Program) (e : Env) (s : State) (m : MethodId) (below : List Frame) (meth : Method) (c : Code) (A : Nat → Prop), zz_C p s m av.toArray meth c b n r y.cls → c.exceptionTable.isEmpty = true → l.admits e → (∀ q : Nat, s.heap.size ≤ q → A q) → va_K D zz_cl tys s → va_P D zz_cl ws s.heap → va_D A ws → zt_Z A s → ∀ ls : Array Slot, lv_has ls n (lv_args 0 av) →
      W p l e rm s m av.toArray below meth c s.heap [] 0 0 (zt_MQ below (Q A) av.toArray s mc ms A) (F0 m 0 ls [])) :
    zt_Met l y (zz_ws y b n r) rm (va_Pc av (zt_P D tys sz ws)) (Q (va_A ws sz)) mc ms (va_A ws sz) := by
  refine MetFree.of_bodyS (code := b) (maxLocals := n) (ret := r) hy ?_ ?_
  · intro args s m h hn0
    obtain ⟨meth, c, h1, h2, h3, h4, h5, h6, -, -⟩ := Cond.code_spec hn0 (atoms_spec (ws := zz_ws y b n r) h _ List.mem_cons_self)
    exact ⟨meth, c, h1, h2, h3, h4, h5, h6⟩
  · intro p e s m args below meth c s₁ B hml hv _
    obtain ⟨rfl, ⟨hsz, hP, hK, hD0, hE⟩, hZ⟩ := hv
    have hts := atoms_spec (ws := zz_ws y b n r) B.pre
    have hown : s.vm.findClass y.cls = some m.cls := findClass_of_methodNamed B.named
    have hexc := BodyLoose.noHandlers B (hts _ List.mem_cons_self)
    subst hsz
    have hD := hD0.self (sz := s.heap.size)
    have hl := lv_entry av (n := n) hn
    have hh0 : s₁.heap = s.heap := by rw [B.state]; rfl
    have K := body p e s m below meth c (va_A ws s.heap.size) ⟨B.exec, B.bytes, B.returns, hml, hown, fun w h => hts w (List.mem_cons_of_mem _ h), B.notSynchronized, hE⟩ hexc B.admits (fun q h => Or.inr h) hK hP hD hZ _ hl
    obtain ⟨t, a1, o, b1, b2, b3⟩ := K s₁ hh0 (Stand.of_body B)
    rw [lg_entry_eq]
    exact ⟨t, o, a1, b1, b2, b3⟩
section ZT
variable {p : Program} {l : Launch} {e : Env} {R : Room} {s : State} {m : MethodId} {args : Array Value} {below : List Frame} {meth : Method} {c : Code} {H : Heap} {locs : List Loc} {cells slots : Nat} {Q : State → Prop}
variable {cc : ByteArray} {pc : Nat} {ls : Array Slot} {rest st0 : List Value} {A : Nat → Prop} {D : va_G} {tys : List (ClassId × FieldType)} {ws : va_W} {xn : Nat → String} {k : Nat}
theorem zt_mono {Q' : State → Prop} {g : JFrame} (h : ∀ t, Q t → Q' t) (w : W p l e R s m args below meth c H locs cells slots Q g) : W p l e R s m args below meth c H locs cells slots Q' g := fun T hT X => by
  obtain ⟨t, a, b⟩ := w T hT X
  exact ⟨t, a, h t b⟩
theorem zt_iret {v F : Int32} (hx : p.tables.exec = Jvm.exec) (hb : c.code = cc) (hr : meth.sig.returnType = some .int) (hlocks : meth.locks = false) (hK : va_K D zz_cl tys s) (hP : va_P D zz_cl ws H) (hD : va_D A ws) (hS : va_S A s.heap H locs) (hdg : decode cc pc = .ok (.ireturn, 1)) (hk : k = 0) (hF : v = F) : W p l e R s m args below meth c H locs cells slots (zt_MQ below (zt_Qi D tys A xn k F ws) args s cells slots A) (F0 m pc ls [.int v]) :=
  zt_mono (fun t h => zt_ofMQ (fun o ⟨⟨r, _, e1, e2, e3⟩, e4⟩ => ⟨Or.inl ⟨hk, by rw [e1, e2]⟩, e3, e4⟩) h) (zz_iret hx hb hr hlocks hK hP hD hS hdg hF)
theorem zt_zret {v F : Int32} {ty : FieldType} (hx : p.tables.exec = Jvm.exec) (hb : c.code = cc) (hr : meth.sig.returnType = some ty) (hlocks : meth.locks = false) (hn : narrow ty (.int v) = .int v) (hK : va_K D zz_cl tys s) (hP : va_P D zz_cl ws H) (hD : va_D A ws) (hS : va_S A s.heap H locs) (hdg : decode cc pc = .ok (.ireturn, 1)) (hk : k = 0) (hF : v = F) : W p l e R s m args below meth c H locs cells slots (zt_MQ below (zt_Qi D tys A xn k F ws) args s cells slots A) (F0 m pc ls [.int v]) :=
  zt_mono (fun t h => zt_ofMQ (fun o ⟨⟨r, _, e1, e2, e3⟩, e4⟩ => ⟨Or.inl ⟨hk, by rw [e1, e2]⟩, e3, e4⟩) h) (zz_zret hx hb hr hlocks hn hK hP hD hS hdg hF)
theorem zt_lret {v F : Int64} (hx : p.tables.exec = Jvm.exec) (hb : c.code = cc) (hr : meth.sig.returnType = some .long) (hlocks : meth.locks = false) (hK : va_K D zz_cl tys s) (hP : va_P D zz_cl ws H) (hD : va_D A ws) (hS : va_S A s.heap H locs) (hdg : decode cc pc = .ok (.lreturn, 1)) (hk : k = 0) (hF : v = F) : W p l e R s m args below meth c H locs cells slots (zt_MQ below (zt_Ql D tys A xn k F ws) args s cells slots A) (F0 m pc ls [.long v]) :=
  zt_mono (fun t h => zt_ofMQ (fun o ⟨⟨r, _, e1, e2, e3⟩, e4⟩ => ⟨Or.inl ⟨hk, by rw [e1, e2]⟩, e3, e4⟩) h) (zz_lret hx hb hr hlocks hK hP hD hS hdg hF)
/-- nothing written: every old cell is as it was -/
theorem zt_old {s t : State} {n k : Nat} (h : s.sameButNew t [] k n) : ∀ q : Nat, q < s.heap.size → t.heap[q]? = s.heap[q]? := by
  intro q hq
  obtain ⟨c0, hc0⟩ : ∃ c0, s.heap[q]? = some c0 := ⟨_, Array.getElem?_eq_getElem hq⟩
  obtain ⟨c', h1, h2, h3, h4⟩ := h.2.2.2.2.2 q c0 hc0
  have h5 : c'.slots = c0.slots := by
    apply Array.ext
    · exact h3
    · intro i hi1 hi2
      have := h4 i (by simp)
      rw [Array.getElem?_eq_getElem hi1, Array.getElem?_eq_getElem hi2] at this
      exact Option.some.inj this
  rw [h1, hc0, h2, h5]
/-- 'throw new X("..")', with nothing written before -/
theorem zt_throw {own X tx : String} {names : List String} {ia ib ic : Nat} (hf : l.flags = pinnedFlags ++ [noTraceFlag]) (hadm : l.admits e) (hx : p.tables.exec = Jvm.exec) (hb : c.code = cc) (hml : c.maxLocals = ls.size) (hlocks : meth.locks = false) (hexc : c.exceptionTable.isEmpty = true) (hown : s.vm.findClass own = some m.cls)
    (hcl : (Cond.classLink own ia X).before args s = true) (hinst : (Cond.instantiable X 6).before args s = true) (hini : (Cond.initialized X).before args s = true) (hstr : ∃ q : Nat, vk_R own ib tx q s)
    (hcls : Bundle.fit X = true) (hnames : ∀ n ∈ names, Bundle.fit n = true) (hat : ∀ a ∈ Bundle.ownAtoms own ic X names, a.before args s = true)
    (hK : va_K D zz_cl tys s) (hP : va_P D zz_cl ws s.heap) (hD : va_D A ws) (hA : ∀ q, s.heap.size ≤ q → A q)
    (hRf : names.length + 3 < R.frames) (hRl : 2 + (13 * (names.length + 1) + 42) ≤ R.locals) (hRc : 1 ≤ R.cells) (hRs : 6 ≤ R.slots)
    (d0 : decode cc pc = .ok (.new ia, 3)) (d3 : decode cc (pc + 3) = .ok (.dup, 1)) (d4 : decode cc (pc + 3 + 1) = .ok (.ldc ib, 2)) (d6 : decode cc (pc + 3 + 1 + 2) = .ok (.invokespecial ic, 3)) (d9 : decode cc (pc + 3 + 1 + 2 + 3) = .ok (.athrow, 1))
    {Qc : Array Value → State → Outcome → State → Prop} (hQ : ∀ (oc : Outcome) (t : State) (x : Nat) (ce : Cell), oc = .threw x → s.heap.size ≤ x → t.heap[x]? = some ce → ce.vm = .none → s.vm.findClass X = some ce.cls → zz_B D tys A ws t → va_F A s t → Qc args s oc t) :
    W p l e R s m args below meth c s.heap [] 0 0 (zt_MQ below Qc args s 1 6 A) (F0 m pc ls []) := by
  refine W.newc hx hb hown hcl hinst hini rfl d0 (by omega) (by omega) (fun cC kC h1 h2 h3 h4 => ?_)
  refine W.eq (g2 := F0 m (pc + 3) ls [.ref s.heap.size]) rfl ?_
  refine lv_dup hx hb d3 rfl ?_
  obtain ⟨q, hq⟩ := hstr
  refine va_ldcS hx hb hown hq d4 ?_
  intro T hT X0
  have htr := Launch.traces_off hf hadm
  obtain ⟨U, st, hrun, hend, hwarm, hsame, ce, hce, hO⟩ := X0.ctorThrowS hx htr hown hcls hnames hat (fun x h => by cases h) h1 h2 (a := s.heap.size)
    (by rw [hT]; show (s.heap.push _)[s.heap.size]? = _; rw [Array.getElem?_push_size]) (Nat.le_refl _) (msg := .ref q) rfl (g := F0 m (pc + 3 + 1 + 2) ls [.ref q, .ref s.heap.size, .ref s.heap.size]) rfl hml.symm rfl rfl (rest := []) rfl (by rw [hb]; exact d6) (by rw [hb]; exact d9)
    (fun x hx' => by rw [Array.isEmpty_iff] at hexc; rw [hexc] at hx'; simp at hx') hRf (by show 2 * 0 + (1 + 0) + _ ≤ _; omega) hlocks
  have hold : ∀ q : Nat, q < s.heap.size → U.heap[q]? = s.heap[q]? := zt_old (t := { U with vm := s.vm }) hsame
  have hge : s.heap.size ≤ U.heap.size := hsame.2.1
  have hP1 : va_P D zz_cl ws U.heap := hP.kept (fun k x hk => hold x.1 ((hP k x hk).lt))
  refine ⟨U, st, .threw s.heap.size, hrun, hend, hQ _ _ s.heap.size ce rfl (Nat.le_refl _) hce hO.vm hO.cls ⟨hP1, va_K.moved hwarm.alike hK, hD⟩ ⟨hge, fun q h1 _ => hold q h1⟩, [], ⟨hwarm, ?_⟩, fun q h => by cases h⟩
  exact hsame
end ZT
/-- of a method that may throw, where it does not: a plain contract -/
theorem zt_plain {l : Launch} {y : MethodName} {ws : List Cond} {rm : Room} {Pc : Array Value → State → Prop} {Qc Qd : Array Value → State → Outcome → State → Prop} {mc ms : Nat} {free : Addr → Prop} (h : zt_Met l y ws rm Pc Qc mc ms free) (hr : ∀ a st o t, Qc a st o t → (∃ v, o = .returned v) ∧ Qd a st o t) : Met l y ws rm Pc Qd mc ms free := by
  intro p e ha hc hk s m args below hf happ hP hK
  obtain ⟨n, o, h1, h2, h3, hq, L, hF, hL⟩ := h p e ha hc hk s m args below hf happ hP hK
  exact ⟨n, o, h1, h2, h3, (hr _ _ _ _ hq).2, L, ⟨(hr _ _ _ _ hq).1, hF.1, hF.2⟩, hL⟩
theorem zt_asi {l : Launch} {y : MethodName} {wl : List Cond} {rm : Room} {Pc : Array Value → State → Prop} {D : va_G} {tys : List (ClassId × FieldType)} {A : Nat → Prop} {xn : Nat → String} {k : Nat} {F : Int32} {ws : va_W} {mc ms : Nat} {free : Addr → Prop} (h : zt_Met l y wl rm Pc (zt_Qi D tys A xn k F ws) mc ms free) (hk : k = 0) : Met l y wl rm Pc (zz_Qi D tys A F ws) mc ms free :=
  zt_plain h (fun a st o t ⟨h1, h2, h3⟩ => by
    rcases h1 with ⟨_, h1⟩ | ⟨h1, _⟩
    · exact ⟨⟨_, h1⟩, ⟨F, (), h1, rfl, h2⟩, h3⟩
    · exact absurd hk h1)
theorem zt_asl {l : Launch} {y : MethodName} {wl : List Cond} {rm : Room} {Pc : Array Value → State → Prop} {D : va_G} {tys : List (ClassId × FieldType)} {A : Nat → Prop} {xn : Nat → String} {k : Nat} {F : Int64} {ws : va_W} {mc ms : Nat} {free : Addr → Prop} (h : zt_Met l y wl rm Pc (zt_Ql D tys A xn k F ws) mc ms free) (hk : k = 0) : Met l y wl rm Pc (zz_Ql D tys A F ws) mc ms free :=
  zt_plain h (fun a st o t ⟨h1, h2, h3⟩ => by
    rcases h1 with ⟨_, h1⟩ | ⟨h1, _⟩
    · exact ⟨⟨_, h1⟩, ⟨F, (), h1, rfl, h2⟩, h3⟩
    · exact absurd hk h1)

theorem za_T {args : Array Value} {s : State} (htB : ∀ w ∈ zz_big, w.before args s = true) {A : Nat → Prop} (hZ : zt_Z A s) : ∀ a ∈ Bundle.throwableAtoms, a.before args s = true := by
  unfold Bundle.throwableAtoms
  exact List.forall_mem_cons.mpr ⟨htB _ zk_fa4d36ba, List.forall_mem_cons.mpr ⟨htB _ zk_67869b7e, List.forall_mem_cons.mpr ⟨htB _ zk_5f08ecec, List.forall_mem_cons.mpr ⟨htB _ zk_98a875a3, List.forall_mem_cons.mpr ⟨htB _ zk_55bd7dd7, List.forall_mem_cons.mpr ⟨htB _ zk_fec20eaa, List.forall_mem_cons.mpr ⟨htB _ zk_db32a18a, List.forall_mem_cons.mpr ⟨htB _ zk_cec878a6, List.forall_mem_cons.mpr ⟨htB _ zk_e5db7b8b, List.forall_mem_cons.mpr ⟨htB _ zk_2e240a33, List.forall_mem_cons.mpr ⟨htB _ zk_1ac054b0, List.forall_mem_cons.mpr ⟨htB _ zk_7122e558, List.forall_mem_cons.mpr ⟨htB _ zk_20e9bda3, List.forall_mem_cons.mpr ⟨htB _ zk_4e284375, List.forall_mem_cons.mpr ⟨htB _ zk_59f03ea9, List.forall_mem_cons.mpr ⟨htB _ zk_489246be, List.forall_mem_cons.mpr ⟨htB _ zk_b414dc93, List.forall_mem_cons.mpr ⟨htB _ zk_be5591f1, List.forall_mem_cons.mpr ⟨htB _ zk_36886d9b, List.forall_mem_cons.mpr ⟨htB _ zk_01226b2e, List.forall_mem_cons.mpr ⟨hZ.1.lays, List.forall_mem_cons.mpr ⟨htB _ zk_0dd78bc2, List.forall_mem_cons.mpr ⟨hZ.2.lays, List.forall_mem_cons.mpr ⟨htB _ zk_fdd6928d, (fun _ h => absurd h List.not_mem_nil)⟩⟩⟩⟩⟩⟩⟩⟩⟩⟩⟩⟩⟩⟩⟩⟩⟩⟩⟩⟩⟩⟩⟩⟩
theorem za_S {args : Array Value} {s : State} (htB : ∀ w ∈ zz_big, w.before args s = true) : ∀ a ∈ Bundle.throwableSAtoms, a.before args s = true := by
  unfold Bundle.throwableSAtoms
  exact List.forall_mem_cons.mpr ⟨htB _ zk_6af9b992, List.forall_mem_cons.mpr ⟨htB _ zk_409dbf62, List.forall_mem_cons.mpr ⟨htB _ zk_5cc98183, List.forall_mem_cons.mpr ⟨htB _ zk_fdd6928d, (fun _ h => absurd h List.not_mem_nil)⟩⟩⟩⟩
theorem za_0 {args : Array Value} {s : State} (htB : ∀ w ∈ zz_big, w.before args s = true) (hE : zz_en s) {A : Nat → Prop} (hZ : zt_Z A s) : ∀ a ∈ Bundle.ownAtoms "DeclareForms" 65 "java/lang/IllegalStateException" ["java/lang/RuntimeException", "java/lang/Exception"], a.before args s = true := by
  unfold Bundle.ownAtoms
  refine List.forall_mem_append.mpr ⟨List.forall_mem_append.mpr ⟨List.forall_mem_append.mpr ⟨za_T htB hZ, za_S htB⟩, ?_⟩, ?_⟩
  · exact List.forall_mem_append.mpr ⟨List.forall_mem_cons.mpr ⟨htB _ zk_7a0dbe2d, List.forall_mem_cons.mpr ⟨htB _ zk_6c43f3ab, List.forall_mem_cons.mpr ⟨htB _ zk_3176fd44, List.forall_mem_cons.mpr ⟨htB _ zk_7779c007, List.forall_mem_cons.mpr ⟨va_Nw.use rfl (hE.2.2.1 _ (List.mem_of_getElem? (i := 0) rfl)), (fun _ h => absurd h List.not_mem_nil)⟩⟩⟩⟩⟩, List.forall_mem_append.mpr ⟨List.forall_mem_cons.mpr ⟨htB _ zk_7779c007, List.forall_mem_cons.mpr ⟨htB _ zk_f7de83b8, List.forall_mem_cons.mpr ⟨htB _ zk_f74e98ca, List.forall_mem_cons.mpr ⟨htB _ zk_cf70a5fd, List.forall_mem_cons.mpr ⟨va_Nw.use rfl (hE.2.2.1 _ (List.mem_of_getElem? (i := 1) rfl)), (fun _ h => absurd h List.not_mem_nil)⟩⟩⟩⟩⟩, List.forall_mem_cons.mpr ⟨htB _ zk_cf70a5fd, List.forall_mem_cons.mpr ⟨htB _ zk_77cfe5a2, List.forall_mem_cons.mpr ⟨htB _ zk_761f0bc2, List.forall_mem_cons.mpr ⟨htB _ zk_6af9b992, List.forall_mem_cons.mpr ⟨va_Nw.use rfl (hE.2.2.1 _ (List.mem_of_getElem? (i := 2) rfl)), (fun _ h => absurd h List.not_mem_nil)⟩⟩⟩⟩⟩⟩⟩
  · exact List.forall_mem_cons.mpr ⟨htB _ zk_fafbd06d, List.forall_mem_cons.mpr ⟨htB _ zk_0493ccc5, List.forall_mem_cons.mpr ⟨va_Nw.use rfl (hE.2.2.2.1 _ (List.mem_of_getElem? (i := 0) rfl)), List.forall_mem_cons.mpr ⟨htB _ zk_bf666684, List.forall_mem_cons.mpr ⟨htB _ zk_ed1b9d47, List.forall_mem_cons.mpr ⟨htB _ zk_91251f19, List.forall_mem_cons.mpr ⟨htB _ zk_1171eac0, List.forall_mem_cons.mpr ⟨htB _ zk_a8bd36be, List.forall_mem_cons.mpr ⟨htB _ zk_8f7a7a90, List.forall_mem_cons.mpr ⟨hZ.1.isRef, List.forall_mem_cons.mpr ⟨hZ.2.isRef, List.forall_mem_cons.mpr ⟨htB _ zk_78eb55a6, List.forall_mem_cons.mpr ⟨htB _ zk_fd8db062, List.forall_mem_cons.mpr ⟨htB _ zk_64fd3870, (fun _ h => absurd h List.not_mem_nil)⟩⟩⟩⟩⟩⟩⟩⟩⟩⟩⟩⟩⟩⟩
theorem za_1 {args : Array Value} {s : State} (htB : ∀ w ∈ zz_big, w.before args s = true) (hE : zz_en s) {A : Nat → Prop} (hZ : zt_Z A s) : ∀ a ∈ Bundle.ownAtoms "DeclareForms" 95 "java/lang/IllegalArgumentException" ["java/lang/RuntimeException", "java/lang/Exception"], a.before args s = true := by
  unfold Bundle.ownAtoms
  refine List.forall_mem_append.mpr ⟨List.forall_mem_append.mpr ⟨List.forall_mem_append.mpr ⟨za_T htB hZ, za_S htB⟩, ?_⟩, ?_⟩
  · exact List.forall_mem_append.mpr ⟨List.forall_mem_cons.mpr ⟨htB _ zk_3c33913c, List.forall_mem_cons.mpr ⟨htB _ zk_cf3ecd54, List.forall_mem_cons.mpr ⟨htB _ zk_d84c2dea, List.forall_mem_cons.mpr ⟨htB _ zk_7779c007, List.forall_mem_cons.mpr ⟨va_Nw.use rfl (hE.2.2.1 _ (List.mem_of_getElem? (i := 0) rfl)), (fun _ h => absurd h List.not_mem_nil)⟩⟩⟩⟩⟩, List.forall_mem_append.mpr ⟨List.forall_mem_cons.mpr ⟨htB _ zk_7779c007, List.forall_mem_cons.mpr ⟨htB _ zk_f7de83b8, List.forall_mem_cons.mpr ⟨htB _ zk_f74e98ca, List.forall_mem_cons.mpr ⟨htB _ zk_cf70a5fd, List.forall_mem_cons.mpr ⟨va_Nw.use rfl (hE.2.2.1 _ (List.mem_of_getElem? (i := 1) rfl)), (fun _ h => absurd h List.not_mem_nil)⟩⟩⟩⟩⟩, List.forall_mem_cons.mpr ⟨htB _ zk_cf70a5fd, List.forall_mem_cons.mpr ⟨htB _ zk_77cfe5a2, List.forall_mem_cons.mpr ⟨htB _ zk_761f0bc2, List.forall_mem_cons.mpr ⟨htB _ zk_6af9b992, List.forall_mem_cons.mpr ⟨va_Nw.use rfl (hE.2.2.1 _ (List.mem_of_getElem? (i := 2) rfl)), (fun _ h => absurd h List.not_mem_nil)⟩⟩⟩⟩⟩⟩⟩
  · exact List.forall_mem_cons.mpr ⟨htB _ zk_2d5e6c73, List.forall_mem_cons.mpr ⟨htB _ zk_04fc2812, List.forall_mem_cons.mpr ⟨va_Nw.use rfl (hE.2.2.2.1 _ (List.mem_of_getElem? (i := 1) rfl)), List.forall_mem_cons.mpr ⟨htB _ zk_51313916, List.forall_mem_cons.mpr ⟨htB _ zk_979e11e0, List.forall_mem_cons.mpr ⟨htB _ zk_60e1f411, List.forall_mem_cons.mpr ⟨htB _ zk_55945a8f, List.forall_mem_cons.mpr ⟨htB _ zk_2f4c39a4, List.forall_mem_cons.mpr ⟨htB _ zk_1c388891, List.forall_mem_cons.mpr ⟨hZ.1.isRef, List.forall_mem_cons.mpr ⟨hZ.2.isRef, List.forall_mem_cons.mpr ⟨htB _ zk_78eb55a6, List.forall_mem_cons.mpr ⟨htB _ zk_fd8db062, List.forall_mem_cons.mpr ⟨htB _ zk_67a92c4c, (fun _ h => absurd h List.not_mem_nil)⟩⟩⟩⟩⟩⟩⟩⟩⟩⟩⟩⟩⟩⟩
theorem za_2 {args : Array Value} {s : State} (htB : ∀ w ∈ zz_big, w.before args s = true) (hE : zz_en s) {A : Nat → Prop} (hZ : zt_Z A s) : ∀ a ∈ Bundle.ownAtoms "DeclareForms" 168 "java/lang/IndexOutOfBoundsException" ["java/lang/RuntimeException", "java/lang/Exception"], a.before args s = true := by
  unfold Bundle.ownAtoms
  refine List.forall_mem_append.mpr ⟨List.forall_mem_append.mpr ⟨List.forall_mem_append.mpr ⟨za_T htB hZ, za_S htB⟩, ?_⟩, ?_⟩
  · exact List.forall_mem_append.mpr ⟨List.forall_mem_cons.mpr ⟨htB _ zk_586448f6, List.forall_mem_cons.mpr ⟨htB _ zk_d26cbdf1, List.forall_mem_cons.mpr ⟨htB _ zk_889b29b4, List.forall_mem_cons.mpr ⟨htB _ zk_7779c007, List.forall_mem_cons.mpr ⟨va_Nw.use rfl (hE.2.2.1 _ (List.mem_of_getElem? (i := 0) rfl)), (fun _ h => absurd h List.not_mem_nil)⟩⟩⟩⟩⟩, List.forall_mem_append.mpr ⟨List.forall_mem_cons.mpr ⟨htB _ zk_7779c007, List.forall_mem_cons.mpr ⟨htB _ zk_f7de83b8, List.forall_mem_cons.mpr ⟨htB _ zk_f74e98ca, List.forall_mem_cons.mpr ⟨htB _ zk_cf70a5fd, List.forall_mem_cons.mpr ⟨va_Nw.use rfl (hE.2.2.1 _ (List.mem_of_getElem? (i := 1) rfl)), (fun _ h => absurd h List.not_mem_nil)⟩⟩⟩⟩⟩, List.forall_mem_cons.mpr ⟨htB _ zk_cf70a5fd, List.forall_mem_cons.mpr ⟨htB _ zk_77cfe5a2, List.forall_mem_cons.mpr ⟨htB _ zk_761f0bc2, List.forall_mem_cons.mpr ⟨htB _ zk_6af9b992, List.forall_mem_cons.mpr ⟨va_Nw.use rfl (hE.2.2.1 _ (List.mem_of_getElem? (i := 2) rfl)), (fun _ h => absurd h List.not_mem_nil)⟩⟩⟩⟩⟩⟩⟩
  · exact List.forall_mem_cons.mpr ⟨htB _ zk_290fe378, List.forall_mem_cons.mpr ⟨htB _ zk_fcc34f65, List.forall_mem_cons.mpr ⟨va_Nw.use rfl (hE.2.2.2.1 _ (List.mem_of_getElem? (i := 2) rfl)), List.forall_mem_cons.mpr ⟨htB _ zk_185c5a3b, List.forall_mem_cons.mpr ⟨htB _ zk_02fcbcfa, List.forall_mem_cons.mpr ⟨htB _ zk_06218b88, List.forall_mem_cons.mpr ⟨htB _ zk_f2b89a5e, List.forall_mem_cons.mpr ⟨htB _ zk_3cd493df, List.forall_mem_cons.mpr ⟨htB _ zk_b94e71c8, List.forall_mem_cons.mpr ⟨hZ.1.isRef, List.forall_mem_cons.mpr ⟨hZ.2.isRef, List.forall_mem_cons.mpr ⟨htB _ zk_78eb55a6, List.forall_mem_cons.mpr ⟨htB _ zk_fd8db062, List.forall_mem_cons.mpr ⟨htB _ zk_4101127f, (fun _ h => absurd h List.not_mem_nil)⟩⟩⟩⟩⟩⟩⟩⟩⟩⟩⟩⟩⟩⟩
/-! CATCHING: an exception that a callee threw comes to a row of the caller's own table -/
theorem zt_goClass {E : CtlPost} {e : Env} {d : Bool} {acts : List Action} {s : State} {f : JFrame} {a : Addr} {Q : Handler → Pre} {x : ExceptionTableEntry} {t : List ExceptionTableEntry} {c : ClassId} {cell : Cell} {vm' : Vm} (hx : covers x f.pc = true) (h0 : x.catchType ≠ 0)
    (hg : (Jvm.resolveClass f.method.cls x.catchType).Gives e.toSetting s.vm (.ok c) vm') (hsz : vm'.classes.size ≤ s.vm.classes.size)
    (hcell : s.heap[a]? = some cell) (hobj : ∀ k, cell.vm ≠ .statics k) (hk : ∃ k, vm'.classes[cell.cls]? = some k) (hc : ∃ k, vm'.classes[c]? = some k) :
    wp (findHandler.go f a (x :: t)) Q E e d acts s ↔ if vm'.assignable cell.cls c = true then Q (.found x.handlerPc) d acts (s.setVm vm') else wp (findHandler.go f a t) Q E e d acts (s.setVm vm') := by
  simp only [covers] at hx
  obtain ⟨ha, ht⟩ := hg.op (op := VmOp.resolveClass f.method.cls x.catchType) rfl
  cases hfit : vm'.assignable cell.cls c <;>
    simp [findHandler.go, hx, h0, ha, ht, hsz, hcell, hobj, hk, hc, hfit, VmOp.dirties, VmOp.acts]
def zt_Find (e : Env) (s : State) (f : JFrame) (a : Addr) (pc : Nat) (vm' : Vm) : Prop := ∀ (Q : Handler → Pre) (E : CtlPost) (d : Bool) (acts : List Action), wp (findHandler f a) Q E e d acts s ↔ Q (.found pc) d acts (s.setVm vm')
theorem zt_stepCatch {e : Env} {s : State} {a : Addr} {f : JFrame} {r : List Frame} {pc : Nat} {vm' : Vm} (hfind : zt_Find e s f a pc vm') :
    (stepThrowing e s a (.java f :: r)).Is ((s.setVm vm').setFrames (.java { f with pc := pc, stack := [.ref a] } :: r)) [] := by
  simp only [stepThrowing, searchFrame, vmDo]
  generalize hr : Sem.go _ e false [] s = res
  obtain ⟨as, rfl, ha⟩ := Sem.eq_ok_of hr (a := Handler.found pc) (s' := s.setVm vm') (acts' := []) (by simp [hfind _ _ _ _])
  exact ⟨rfl, ha⟩
theorem zt_stepsCatch {tb : Tables} {e : Env} {s target : State} {g : JFrame} {c : Code} {below : List Frame} {a : Addr} {pc : Nat} {vm' : Vm} (h : At s g.method c below) (hfind : zt_Find e ((s.setTop g).pushFrame (.throwing a)) g a pc vm')
    (hrest : Steps tb e below ((s.setVm vm').setTop { g with pc := pc, stack := [.ref a] }) target) : Steps tb e below ((s.setTop g).pushFrame (.throwing a)) target := by
  obtain ⟨hgo, hw⟩ := h.throwing a
  refine Steps.head hgo hw ?_
  rw [stepThread_throwing (frames_entered h.top _), (zt_stepCatch (s := (s.setTop g).pushFrame (.throwing a)) hfind).1]
  obtain ⟨g₀, hg⟩ := Option.isSome_iff_exists.mp h.top
  obtain ⟨r, hr⟩ := State.topJava?_eq_some.mp hg
  have hr' : (s.setVm vm').frames = .java g₀ :: r := hr
  rw [State.setTop_of_frames _ hr'] at hrest
  have e1 : (((s.setTop g).pushFrame (.throwing a)).setVm vm') = (((s.setVm vm').setTop g).pushFrame (.throwing a)) := rfl
  rw [e1, State.pushFrame, State.setFrames_setFrames, State.setTop_of_frames _ hr', State.setFrames_setFrames]
  rw [hr]
  exact hrest
section ZC
variable {p : Program} {l : Launch} {e : Env} {R : Room} {s : State} {m : MethodId} {args : Array Value} {below : List Frame} {meth : Method} {c : Code} {H : Heap} {locs : List Loc} {cells slots : Nat} {Q : State → Prop}
/-- the first row takes it -/
theorem zt_first {T : State} (X : Stand p l e R s m args below meth c T locs cells slots) {g : JFrame} (hg : g.method = m) {a : Addr} {cell : Cell} (hcell : T.heap[a]? = some cell) (hobj : cell.vm = .none) {own Xc C : String} (hown : s.vm.findClass own = some m.cls) {x : ExceptionTableEntry} {t : List ExceptionTableEntry} (htab : c.exceptionTable.toList = x :: t) (hx : covers x g.pc = true) (h0 : x.catchType ≠ 0) (hlink : (Cond.classLink own x.catchType C).before args s = true) (hXc : s.vm.findClass Xc = some cell.cls) (hcast : va_Nw (.castable Xc C) s) :
    ∃ vm', Stand p l e R s m args below meth c (T.setVm vm') locs cells slots ∧ ∀ target, Steps p.tables e below ((T.setVm vm').setTop { g with pc := x.handlerPc, stack := [.ref a] }) target → Steps p.tables e below ((T.setTop g).pushFrame (.throwing a)) target := by
  subst hg
  have hpl : e.platform.magicAccessors = ({} : Platform).magicAccessors := by rw [X.admits.platform]
  obtain ⟨c0, t0, f1, f2, f3⟩ := Cond.castable_spec (va_Nw.use (A := args) rfl hcast)
  cases hXc.symm.trans f1
  obtain ⟨cc, hfcc, hcl⟩ := Cond.classLink_spec hown hlink e.platform hpl
  cases f2.symm.trans hfcc
  obtain ⟨hg₁, hwarm₁, hready₁⟩ := State.classEntry (e := e) X.warmed hcl
  have hsz : (T.vm.noted g.method.cls x.catchType (.cls t0)).classes.size ≤ T.vm.classes.size := by
    have h1 := hwarm₁.alike.2.1
    have h2 := X.warmed.alike.2.1
    omega
  generalize T.vm.noted g.method.cls x.catchType (.cls t0) = vm₁ at hg₁ hwarm₁ hready₁ hsz
  obtain ⟨kt, hkt⟩ := Vm.classAt_of_findClass f2
  obtain ⟨kc, hkc⟩ := Vm.classAt_of_findClass f1
  obtain ⟨kt1, hkt1, -⟩ := hwarm₁.alike.2.2 _ _ hkt
  obtain ⟨kc1, hkc1, -⟩ := hwarm₁.alike.2.2 _ _ hkc
  refine ⟨vm₁, X.noted hwarm₁, fun target h => zt_stepsCatch X.here ?_ h⟩
  intro Q E d acts
  rw [W.findHandler_eq (s := (T.setTop g).pushFrame (.throwing a)) (by rw [Stand.throwing_vm]; exact X.method') X.code, htab,
    zt_goClass hx h0 (by rw [Stand.throwing_vm]; exact hg₁) (by rw [Stand.throwing_vm]; exact hsz) (by rw [Stand.throwing_heap]; exact hcell) (fun k h => by rw [hobj] at h; cases h) ⟨kc1, hkc1⟩ ⟨kt1, hkt1⟩, if_pos (by rw [hwarm₁.alike.assignable]; exact f3)]
/-- a row that does not take it, then one that does -/
theorem zt_second {T : State} (X : Stand p l e R s m args below meth c T locs cells slots) {g : JFrame} (hg : g.method = m) {a : Addr} {cell : Cell} (hcell : T.heap[a]? = some cell) (hobj : cell.vm = .none) {own Xc C C' : String} (hown : s.vm.findClass own = some m.cls) {x x' : ExceptionTableEntry} {t : List ExceptionTableEntry} (htab : c.exceptionTable.toList = x' :: x :: t) (hx' : covers x' g.pc = true) (h0' : x'.catchType ≠ 0) (hx : covers x g.pc = true) (h0 : x.catchType ≠ 0) (hlink' : (Cond.classLink own x'.catchType C').before args s = true) (hlink : (Cond.classLink own x.catchType C).before args s = true) (hXc : s.vm.findClass Xc = some cell.cls) (hno : va_Nc Xc C' s) (hcast : va_Nw (.castable Xc C) s) :
    ∃ vm', Stand p l e R s m args below meth c (T.setVm vm') locs cells slots ∧ ∀ target, Steps p.tables e below ((T.setVm vm').setTop { g with pc := x.handlerPc, stack := [.ref a] }) target → Steps p.tables e below ((T.setTop g).pushFrame (.throwing a)) target := by
  subst hg
  have hpl : e.platform.magicAccessors = ({} : Platform).magicAccessors := by rw [X.admits.platform]
  obtain ⟨c0, t0, f1, f2, f3⟩ := Cond.castable_spec (va_Nw.use (A := args) rfl hcast)
  obtain ⟨c9, t9, e1, e2, e3⟩ := hno
  cases hXc.symm.trans f1
  cases hXc.symm.trans e1
  obtain ⟨cc, hfcc, hcl⟩ := Cond.classLink_spec hown hlink e.platform hpl
  cases f2.symm.trans hfcc
  obtain ⟨cc', hfcc', hcl'⟩ := Cond.classLink_spec hown hlink' e.platform hpl
  cases e2.symm.trans hfcc'
  obtain ⟨hg₁, hwarm₁, hready₁⟩ := State.classEntry (e := e) X.warmed hcl'
  have hsz : (T.vm.noted g.method.cls x'.catchType (.cls t9)).classes.size ≤ T.vm.classes.size := by
    have h1 := hwarm₁.alike.2.1
    have h2 := X.warmed.alike.2.1
    omega
  generalize T.vm.noted g.method.cls x'.catchType (.cls t9) = vm₁ at hg₁ hwarm₁ hready₁ hsz
  obtain ⟨hg₂, hwarm₂, hready₂⟩ := State.classEntry (e := e) hwarm₁ hcl
  have hsz2 : (vm₁.noted g.method.cls x.catchType (.cls t0)).classes.size ≤ vm₁.classes.size := by
    have h1 := hwarm₁.alike.2.1
    have h2 := hwarm₂.alike.2.1
    omega
  generalize vm₁.noted g.method.cls x.catchType (.cls t0) = vm₂ at hg₂ hwarm₂ hready₂ hsz2
  obtain ⟨kt, hkt⟩ := Vm.classAt_of_findClass f2
  obtain ⟨kc, hkc⟩ := Vm.classAt_of_findClass f1
  obtain ⟨k9, hk9⟩ := Vm.classAt_of_findClass e2
  obtain ⟨k91, hk91, -⟩ := hwarm₁.alike.2.2 _ _ hk9
  obtain ⟨kc1, hkc1, -⟩ := hwarm₁.alike.2.2 _ _ hkc
  obtain ⟨kt2, hkt2, -⟩ := hwarm₂.alike.2.2 _ _ hkt
  obtain ⟨kc2, hkc2, -⟩ := hwarm₂.alike.2.2 _ _ hkc
  refine ⟨vm₂, X.noted hwarm₂, fun target h => zt_stepsCatch X.here ?_ h⟩
  intro Q E d acts
  rw [W.findHandler_eq (s := (T.setTop g).pushFrame (.throwing a)) (by rw [Stand.throwing_vm]; exact X.method') X.code, htab,
    zt_goClass hx' h0' (by rw [Stand.throwing_vm]; exact hg₁) (by rw [Stand.throwing_vm]; exact hsz) (by rw [Stand.throwing_heap]; exact hcell) (fun k h => by rw [hobj] at h; cases h) ⟨kc1, hkc1⟩ ⟨k91, hk91⟩, if_neg (by rw [hwarm₁.alike.assignable, e3]; decide),
    zt_goClass (s := ((T.setTop g).pushFrame (.throwing a)).setVm vm₁) hx h0 hg₂ hsz2 (by show ((T.setTop g).pushFrame (.throwing a)).heap[a]? = _; rw [Stand.throwing_heap]; exact hcell) (fun k h => by rw [hobj] at h; cases h) ⟨kc2, hkc2⟩ ⟨kt2, hkt2⟩, if_pos (by rw [hwarm₂.alike.assignable]; exact f3)]
  rfl
/-- an invokevirtual of a method that throws here -/
theorem zt_runX {y : MethodName} {bytes cc : ByteArray} {maxL nL mc ms n index : Nat} {ret : Option FieldType} {ws : List Cond} {rm : Room} {Pc : Array Value → State → Prop} {Qc : Array Value → State → Outcome → State → Prop} {free : Addr → Prop} {Ts : List Cond} {own C : String} {b : Addr} {As rest : List Value} {g : JFrame}
    (S : CallFix p m c cc nL s args Ts own) (hM : zt_Met l y ws rm Pc Qc mc ms free) (hthrow : ∀ a st o t, Qc a st o t → ∃ x, o = .threw x) (cw : CallW R s args own C index y bytes maxL ret ws rm mc ms n) (hp : PreV s H C b Pc As)
    (hg : g.method = m) (hn : As.length = n) (hsize : g.locals.size = nL) (hstack : g.stack = As.reverse ++ .ref b :: rest) (hW : 2 * g.monitorRoom + (rest.map fun v => v.category).sum ≤ 8) (hdg : decode cc g.pc = .ok (.invokevirtual index, 3)) (hf : cells + mc ≤ R.cells ∧ slots + ms ≤ R.slots) :
    ∀ T : State, T.heap = H → Stand p l e R s m args below meth c T locs cells slots → ∃ (x : Addr) (st₀ t T' : State) (L : List Loc), st₀.heap = H ∧ s.vm.Alike st₀.vm ∧ Stand p l e R s m args below meth c T' (locs ++ L) (cells + mc) (slots + ms) ∧ (∀ q ∈ L, free q.base) ∧ T'.heap = t.heap ∧ T'.vm = t.vm ∧ Qc (Value.ref b :: As).toArray st₀ (.threw x) t ∧
      ∀ target, Steps p.tables e below ((T'.setTop { g with stack := rest }).pushFrame (.throwing x)) target → Steps p.tables e below (T.setTop g) target := by
  intro T hT X
  obtain ⟨⟨hrc, hrs, hfr, hlo, hws, hcw, hcode, hini, hy, hlen, hl⟩, hin, hsel⟩ := cw
  obtain ⟨hx, hb, hml, ho, -⟩ := S
  obtain ⟨hblind, ⟨cellB, hcB, hoB, hclB⟩, hPc⟩ := hp
  obtain ⟨mk, methM, hnamed, hmethM, hstM, habM⟩ := Cond.instanceMethod_spec hin
  obtain ⟨methM', cM, hmethM', hcM, -, hlM, -, -, -, hsigM⟩ := Cond.code_spec hnamed hcode
  cases hmethM.symm.trans hmethM'
  obtain ⟨c2, r2, m2, q1, q2, q3, q4, kP, hkP, hkPi⟩ := Cond.selects_spec hsel
  cases hclB.symm.trans q1
  cases (State.methodFound?_of_named hnamed hy).symm.trans q2
  cases hnamed.symm.trans q3
  have hselP : selectMethod e.platform s.vm cellB.cls mk = .method mk := by rw [Launch.admits_selectMethod X.admits]; exact q4
  obtain ⟨vm₁, X₁, hstep₁⟩ := X.invokevirtual hx ho hl hnamed hmethM hstM hkP hkPi hy (a := b) (cell := cellB) (by rw [hT]; exact hcB)
    (fun z h => by rw [h] at hoB; cases hoB) hselP hmethM habM hkP hkPi (g := g) hg (argsL := As) (rest := rest) (by rw [hn]; exact hlen _ hsigM) hstack (by rw [hb]; exact hdg)
  have hn1 : (T.setVm vm₁).methodNamed? y = some mk := X₁.named hnamed
  have hW1 := X₁.warmed
  obtain ⟨methY, cY, hmY, hcY, -, hlY, -, -, -, -⟩ := Cond.code_spec hn1 (hws _ hcw (Value.ref b :: As).toArray (T.setVm vm₁) hW1)
  obtain ⟨kY, hkY, -⟩ := className_of_methodNamed hn1
  have hiniY : (Cond.initialized y.cls).before (Value.ref b :: As).toArray (T.setVm vm₁) = true := word_at hW1 (Or.inl (by first | rfl | simp [Cond.onTables, Cond.keeps, Cond.steady])) hini
  have hinitY : kY.init = .initialized := Cond.initialized_spec (findClass_of_methodNamed hn1) hkY hiniY
  have hg2 : ({ g with stack := rest } : JFrame).method = m := hg
  have h : At (T.setVm vm₁) ({ g with stack := rest } : JFrame).method c below := by rw [hg2]; exact X₁.here
  have happ : (headSpec ws rm).appliesLoose y e.platform ((T.setVm vm₁).calling { g with stack := rest } mk (Value.ref b :: As).toArray) = true :=
    Spec.appliesLoose_calling (g := { g with stack := rest }) h (by rw [hb]; exact hdg) hn1 hkY hinitY
      (X₁.room_calling (g := { g with stack := rest }) (R' := (headSpec ws rm).room) (by rw [hml]; exact hsize) hmY hcY hfr (by
        show 2 * g.monitorRoom + (rest.map fun v => v.category).sum + (cY.maxLocals + 11) + rm.locals ≤ R.locals
        rw [hlY]; omega) (by show cells + rm.cells ≤ R.cells; rw [hrc]; exact hf.1) (by show slots + rm.slots ≤ R.slots; rw [hrs]; exact hf.2))
      (atoms_intro fun w hw => hws w hw _ _ hW1)
  obtain ⟨mid, hmid⟩ := h.above
  have hfr1 : ((T.setVm vm₁).setTop { g with stack := rest }).frames = (.java { g with stack := rest } :: mid) ++ below := by rw [State.frames_setTop' _ h.top, hmid]; rfl
  obtain ⟨o, s₂, hsteps, -, hend, hq, L, hFE, hL⟩ := Steps.callFree hM p X.admits X.cas X.clock (acts := []) hfr1 happ (hblind _ _ _ _ (hPc (T.setVm vm₁) hT hW1)) trivial
  obtain ⟨x, rfl⟩ := hthrow _ _ _ _ hq
  rw [State.frames_setTop' _ h.top, X₁.tail] at hend
  obtain ⟨T', X', hWT, hsame, ht⟩ := X₁.outOfThrown (g := { g with stack := rest }) hg2 hend hFE.1 hFE.2
  refine ⟨x, (T.setVm vm₁).calling { g with stack := rest } mk (Value.ref b :: As).toArray, s₂, T', L, hT, hW1.alike, X', hL, ?_, ?_, hq, fun target h2 => hstep₁ _ fun acts => ?_⟩
  · rw [ht]; exact (Stand.throwing_heap T' { g with stack := rest } x).symm
  · rw [ht]; exact (Stand.throwing_vm T' { g with stack := rest } x).symm
  · rw [doInvoke_state]
    rw [← ht] at h2
    exact hsteps.trans h2
end ZC

