section TH
variable {p : Program} {l : Launch} {e : Env} {R : Room} {s : State} {m : MethodId} {args : Array Value} {below : List Frame} {meth : Method} {c : Code} {T : State} {locs : List Loc} {cells slots : Nat}
/-- a catch row whose class has not been looked up yet -/
theorem tc_go {E : CtlPost} {d : Bool} {acts : List Action} {f : JFrame} {a : Addr} {Q : Handler → Pre} {x : ExceptionTableEntry} {t : List ExceptionTableEntry} {cT : ClassId} {vm' : Vm} {cell : Cell}
    (hx : covers x f.pc = true) (h0 : x.catchType ≠ 0) (hg : (resolveClass f.method.cls x.catchType).Gives e.toSetting s.vm (.ok cT) vm') (hsz : vm'.classes.size ≤ s.vm.classes.size) (hcell : s.heap[a]? = some cell) (hobj : ∀ k, cell.vm ≠ .statics k)
    (hk : ∃ k, vm'.classes[cell.cls]? = some k) (hc : ∃ k, vm'.classes[cT]? = some k) (hfit : vm'.assignable cell.cls cT = true) :
    wp (findHandler.go f a (x :: t)) Q E e d acts s ↔ Q (.found x.handlerPc) d acts (s.setVm vm') := by
  simp only [covers] at hx
  obtain ⟨ha, ht⟩ := hg.op (op := VmOp.resolveClass f.method.cls x.catchType) rfl
  have hlt : ((VmOp.resolveClass f.method.cls x.catchType).tables e s.vm).classes.size ≤ s.vm.classes.size := by rw [ht]; exact hsz
  simp [findHandler.go, hx, h0, VmOp.lands_same hlt, ha, ht, hcell, hobj, hk, hc, hfit, VmOp.dirties, VmOp.acts]
theorem tc_step {a : Addr} {f : JFrame} {r : List Frame} {methF : Method} {code : Code} {x : ExceptionTableEntry} {t : List ExceptionTableEntry} {cT : ClassId} {vm' : Vm} {cell : Cell} (hm : s.vm.method? f.method = some methF) (hco : methF.code = some code) (htab : code.exceptionTable.toList = x :: t)
    (hx : covers x f.pc = true) (h0 : x.catchType ≠ 0) (hg : (resolveClass f.method.cls x.catchType).Gives e.toSetting s.vm (.ok cT) vm') (hsz : vm'.classes.size ≤ s.vm.classes.size) (hcell : s.heap[a]? = some cell) (hobj : ∀ k, cell.vm ≠ .statics k)
    (hk : ∃ k, vm'.classes[cell.cls]? = some k) (hc : ∃ k, vm'.classes[cT]? = some k) (hfit : vm'.assignable cell.cls cT = true) :
    (stepThrowing e s a (.java f :: r)).Is ((s.setVm vm').setFrames (.java { f with pc := x.handlerPc, stack := [.ref a] } :: r)) [] := by
  simp only [stepThrowing, searchFrame, vmDo]
  generalize hr : Sem.go _ e false [] s = res
  obtain ⟨as, rfl, ha⟩ := Sem.eq_ok_of hr (a := Handler.found x.handlerPc) (s' := s.setVm vm') (acts' := []) (by simp [W.findHandler_eq hm hco, htab, tc_go hx h0 hg hsz hcell hobj hk hc hfit])
  exact ⟨rfl, ha⟩
theorem st_catch (X : Stand p l e R s m args below meth c T locs cells slots) {a : Addr} {g : JFrame} (hg : g.method = m) {x : ExceptionTableEntry} {t : List ExceptionTableEntry} (htab : c.exceptionTable.toList = x :: t) (hcov : covers x g.pc = true) (h0 : x.catchType ≠ 0)
    {own nm : String} (hown : s.vm.findClass own = some m.cls) (hlink : (Cond.classLink own x.catchType nm).before args s = true) {cell : Cell} (hcell : T.heap[a]? = some cell) (hobj : cell.vm.isStatics = false) (hcls : s.vm.findClass nm = some cell.cls) (hself : s.vm.assignable cell.cls cell.cls = true) :
    ∃ vm', Stand p l e R s m args below meth c (T.setVm vm') locs cells slots ∧ ∀ target, Steps p.tables e below ((T.setVm vm').setTop { g with pc := x.handlerPc, stack := [.ref a] }) target → Steps p.tables e below ((T.setTop g).pushFrame (.throwing a)) target := by
  have hpl : e.platform.magicAccessors = ({} : Platform).magicAccessors := by rw [X.admits.platform]
  obtain ⟨c', hc', hcl⟩ := Cond.classLink_spec hown hlink e.platform hpl
  cases hcls.symm.trans hc'
  obtain ⟨dk, _, _, kt, hd, _, _, _, _, hkt, _, hopen⟩ := hcl.here
  have hcl₀ := X.warmed.classLinks hcl
  have hW' : s.WarmedH (T.vm.noted m.cls x.catchType (.cls cell.cls)) := X.warmed.noted hd hopen (State.rightAt_cls hcl)
  obtain ⟨kt', hkt', -⟩ := hW'.alike.2.2 _ _ hkt
  refine ⟨_, X.noted hW', fun target hrest => ?_⟩
  have h : At T g.method c below := by rw [hg]; exact X.here
  obtain ⟨hgo, hw⟩ := h.throwing a
  refine Steps.head hgo hw ?_
  have hsz : (T.vm.noted m.cls x.catchType (.cls cell.cls)).classes.size ≤ T.vm.classes.size := by rw [hW'.2.1, X.warmed.2.1]; exact Nat.le_refl _
  rw [stepThread_throwing (frames_entered h.top _), (tc_step (s := (T.setTop g).pushFrame (.throwing a)) (vm' := T.vm.noted m.cls x.catchType (.cls cell.cls)) (cT := cell.cls) (cell := cell) (methF := meth) (code := c) (by rw [Stand.throwing_vm, hg]; exact X.method') X.code htab hcov h0 (by rw [Stand.throwing_vm, hg]; exact resolveClass_links e.toSetting hcl₀) (by rw [Stand.throwing_vm]; exact hsz) (by rw [Stand.throwing_heap]; exact hcell) (VmData.ne_statics_of hobj) ⟨kt', hkt'⟩ ⟨kt', hkt'⟩ (by rw [hW'.alike.assignable]; exact hself)).1]
  obtain ⟨g₀, hg0⟩ := Option.isSome_iff_exists.mp h.top
  obtain ⟨r, hr⟩ := State.topJava?_eq_some.mp hg0
  have hr' : (T.setVm (T.vm.noted m.cls x.catchType (.cls cell.cls))).frames = .java g₀ :: r := hr
  rw [State.setTop_of_frames _ hr'] at hrest
  have e9 : ∀ (Y : List Frame) (v : Vm), (T.setFrames Y).setVm v = (T.setVm v).setFrames Y := fun _ _ => rfl
  rw [State.pushFrame, State.setTop_of_frames _ hr, State.setFrames_setFrames, e9, State.setFrames_setFrames, hr]
  exact hrest
/-- the invocation looked at from here on: its start with the heap as it is now -/
theorem st_rebase (X : Stand p l e R s m args below meth c T locs cells slots) (h1 : cells ≤ R.cells) (h2 : slots ≤ R.slots) :
    Stand p l e { R with cells := R.cells - cells, slots := R.slots - slots } ({ s with heap := T.heap, slotsUsed := T.slotsUsed } : State) m args below meth c T [] 0 0 := by
  have hz := X.heapSize
  have hu := X.used
  have hb := X.book
  refine ⟨X.admits, X.cas, X.clock, X.frames, ?_, X.hears, X.method, X.code, X.here, X.tail, X.warmed, X.limits, X.bytes, ?_⟩
  · have h := X.room
    simp only [State.hasRoom, Bool.and_eq_true, decide_eq_true_eq] at h ⊢
    obtain ⟨⟨⟨⟨a1, a2⟩, a3⟩, a4⟩, a5⟩ := h
    refine ⟨⟨⟨⟨a1, a2⟩, ?_⟩, ?_⟩, hb⟩
    · show T.heap.size + (R.cells - cells) ≤ _
      omega
    · show T.slotsUsed + (R.slots - slots) ≤ _
      omega
  · obtain ⟨q1, -⟩ := X.same
    refine ⟨?_, Nat.le_refl _, Nat.le_refl _, ?_, ?_, ?_⟩
    · exact q1
    · show T.slotsUsed = T.slotsUsed + ((T.heap.toList.drop T.heap.size).map (·.slots.size)).sum
      rw [List.drop_of_length_le (by simp)]; rfl
    · show ((T.heap.toList.drop T.heap.size).map (·.slots.size)).sum ≤ 0
      rw [List.drop_of_length_le (by simp)]; exact Nat.le_refl _
    · intro a cc hcc
      exact ⟨cc, hcc, rfl, rfl, fun i _ => rfl⟩
end TH
def MQT (below : List Frame) (Qc : Array Value → State → Outcome → State → Prop) (a : Array Value) (s : State) (mc ms : Nat) (free : Addr → Prop) : State → Prop := fun t =>
  ∃ o, t.status = .running ∧ Ended t below o ∧ Qc a s o t ∧ ∃ (L : List Loc) (x : Addr), o = .threw x ∧ s.WarmedH t.vm ∧ s.sameButNew ({ t with vm := s.vm } : State) L mc ms ∧ ∀ q ∈ L, free q.base
def MetT (l : Launch) (y : MethodName) (ws : List Cond) (rm : Room) (Pc : Array Value → State → Prop) (Qc : Array Value → State → Outcome → State → Prop) (mc ms : Nat) (free : Addr → Prop) : Prop :=
  MetFree l y (headSpec ws rm) Pc (fun _ e _ _ _ => e.platform.stackTraces = false) (fun a st o t => Qc a st o t ∧ ∃ (L : List Loc) (x : Addr), o = .threw x ∧ st.WarmedH t.vm ∧ st.sameButNew ({ t with vm := st.vm } : State) L mc ms ∧ ∀ q ∈ L, free q.base)
theorem MetT.ofW {l : Launch} {y : MethodName} {ws ws' : List Cond} {rm : Room} {Pc : Array Value → State → Prop} {Qc : Array Value → State → Outcome → State → Prop} {mc ms : Nat} {free : Addr → Prop} {cc : ByteArray} {maxL : Nat} {ret : Option FieldType}
    (hy : plainName y.cls = true) (hw : ws = Cond.code y cc maxL ret :: ws')
    (body : ∀ p e s m args below meth c s₁, e.platform.stackTraces = false → BodyLoose p l y (headSpec ws rm) cc maxL ret e s m args below meth c s₁ → c.maxLocals = maxL → Pc args s →
      W p l e (headSpec ws rm).room s m args below meth c s.heap [] 0 0 (MQT below Qc args s mc ms free) (entryFrame m args maxL)) : MetT l y ws rm Pc Qc mc ms free := by
  refine MetFree.of_bodyS (code := cc) (maxLocals := maxL) (ret := ret) hy ?_ ?_
  · intro args s m h hn
    obtain ⟨meth, c, h1, h2, h3, h4, h5, h6, -, -⟩ := Cond.code_spec hn (atoms_spec (ws := ws) h _ (by rw [hw]; exact List.mem_cons_self))
    exact ⟨meth, c, h1, h2, h3, h4, h5, h6⟩
  · intro p e s m args below meth c s₁ B hml hP htr
    have hh0 : s₁.heap = s.heap := by rw [B.state]; rfl
    obtain ⟨t, a1, o, b1, b2, b3⟩ := body p e s m args below meth c s₁ htr B hml hP s₁ hh0 (Stand.of_body B)
    exact ⟨t, o, a1, b1, b2, b3⟩
section TW
variable {p : Program} {l : Launch} {e : Env} {R : Room} {s : State} {m : MethodId} {args : Array Value} {below : List Frame} {meth : Method} {c : Code} {T : State} {locs : List Loc} {cells slots : Nat} {H : Heap}
theorem same_nil {s t : State} {k n : Nat} (h : s.sameButNew t [] k n) {q : Nat} (hq : q < s.heap.size) : t.heap[q]? = s.heap[q]? := by
  obtain ⟨-, -, -, -, -, h6⟩ := h
  obtain ⟨cc, hcc⟩ : ∃ cc, s.heap[q]? = some cc := ⟨_, Array.getElem?_eq_getElem hq⟩
  obtain ⟨c', h1, h2, h3, h4⟩ := h6 q cc hcc
  rw [h1, hcc, h2]
  have e : c'.slots = cc.slots := by
    apply Array.ext_getElem?
    intro i
    exact h4 i (fun x => by cases x)
  rw [e]
theorem same_fr {s T0 t0 : State} (h1 : T0 = { s.setFrames T0.frames with heap := T0.heap, slotsUsed := T0.slotsUsed }) (h2 : t0 = { ({ s with heap := T0.heap, slotsUsed := T0.slotsUsed } : State).setFrames t0.frames with heap := t0.heap, slotsUsed := t0.slotsUsed }) : t0 = { T0.setFrames t0.frames with heap := t0.heap, slotsUsed := t0.slotsUsed } := by
  have e1 : T0 = ({ s with heap := T0.heap, slotsUsed := T0.slotsUsed } : State).setFrames T0.frames := h1
  have e2 : T0.setFrames t0.frames = ({ s with heap := T0.heap, slotsUsed := T0.slotsUsed } : State).setFrames t0.frames :=
    (congrArg (fun z : State => z.setFrames t0.frames) e1).trans (State.setFrames_setFrames ..)
  rw [e2]
  exact h2
theorem same_re (X : Stand p l e R s m args below meth c T locs cells slots) {t : State} {k n : Nat} (h : ({ s with heap := T.heap, slotsUsed := T.slotsUsed } : State).sameButNew ({ t with vm := s.vm } : State) [] k n) :
    s.sameButNew ({ t with vm := s.vm } : State) locs (cells + k) (slots + n) := by
  obtain ⟨q1, q2, q3, q4, q5, q6⟩ := h
  have h2 : (T.setVm s.vm).sameButNew ({ t with vm := s.vm } : State) [] k n := by
    refine ⟨?_, q2, q3, q4, q5, q6⟩
    exact same_fr (T0 := T.setVm s.vm) X.same.1 q1
  have h3 := X.same.trans h2
  rw [List.append_nil] at h3
  exact h3
theorem thr_W {cc : ByteArray} {pc iN iL iC q nL : Nat} {ls : Array Slot} {own tx X : String} {names : List String} {A : Nat → Prop} {free : Addr → Prop} {Qc : Array Value → State → Outcome → State → Prop}
    (hexec : p.tables.exec = Jvm.exec) (hb : c.code = cc) (hml : c.maxLocals = nL) (hsz : ls.size = nL) (hlocks : meth.locks = false) (htr : e.platform.stackTraces = false) (hown : s.vm.findClass own = some m.cls)
    (hcl : (Cond.classLink own iN X).before args s = true) (hinst : (Cond.instantiable X 6).before args s = true) (hini : (Cond.initialized X).before args s = true) (hmsg : vk_R own iL tx q s)
    (hX : Bundle.fit X = true) (hnames : ∀ n ∈ names, Bundle.fit n = true)
    (hat : ∀ U : State, U.vm = s.vm → U.heap = H → ∀ a ∈ Bundle.ownAtoms own iC X names, a.before args U = true)
    (hS : va_S A s.heap H locs) (hfree : ∀ l ∈ locs, free l.base) (hout : ∀ x ∈ c.exceptionTable.toList, covers x (pc + 9) = false)
    (hcells : cells + 1 ≤ R.cells) (hslots : slots + 6 ≤ R.slots) (hfr : names.length + 3 < R.frames) (hlo : 1 + (13 * (names.length + 1) + 42) ≤ R.locals)
    (hd1 : decode cc pc = .ok (.new iN, 3)) (hd2 : decode cc (pc + 3) = .ok (.dup, 1)) (hd3 : decode cc (pc + 4) = .ok (.ldc iL, 2)) (hd4 : decode cc (pc + 6) = .ok (.invokespecial iC, 3)) (hd5 : decode cc (pc + 9) = .ok (.athrow, 1))
    (kk : ∀ (x : Nat) (t : State), H.size ≤ t.heap.size → (∀ q, q < H.size → t.heap[q]? = H[q]?) → s.WarmedH t.vm → (∃ ce : Cell, t.heap[x]? = some ce ∧ ce.vm.isStatics = false ∧ s.vm.findClass X = some ce.cls ∧ s.vm.assignable ce.cls ce.cls = true) → Qc args s (.threw x) t) :
    W p l e R s m args below meth c H locs cells slots (MQT below Qc args s (cells + 1) (slots + 6) free) (F0 m pc ls []) := by
  intro T hT XS
  have X' := st_rebase XS (by omega) (by omega)
  have hw : ∀ a : Cond, ((a.onTables && a.keeps) = true ∨ ∃ ty, a = .arrayClass ty) → a.before args s = true → a.before args ({ s with heap := T.heap, slotsUsed := T.slotsUsed } : State) = true := fun a ha h => word_at (U := ({ s with heap := T.heap, slotsUsed := T.slotsUsed } : State)) (State.WarmedH.refl s) ha h
  have hcl' := hw _ (Or.inl (by simp [Cond.onTables, Cond.keeps, Cond.steady])) hcl
  have hinst' := hw _ (Or.inl (by simp [Cond.onTables, Cond.keeps, Cond.steady])) hinst
  have hini' := hw _ (Or.inl (by simp [Cond.onTables, Cond.keeps, Cond.steady])) hini
  have hmsg' : vk_R own iL tx q ({ s with heap := T.heap, slotsUsed := T.slotsUsed } : State) := vk_R.same (u := s) rfl hmsg
  have hat' := hat ({ s with heap := T.heap, slotsUsed := T.slotsUsed } : State) rfl hT
  obtain ⟨cX, kX, hfc, -⟩ := Cond.instantiable_spec hinst
  have K : W p l e { R with cells := R.cells - cells, slots := R.slots - slots } ({ s with heap := T.heap, slotsUsed := T.slotsUsed } : State) m args below meth c T.heap [] 0 0
      (fun t => ∃ x : Nat, t.status = .running ∧ Ended t below (.threw x) ∧ s.WarmedH t.vm ∧ ({ s with heap := T.heap, slotsUsed := T.slotsUsed } : State).sameButNew ({ t with vm := s.vm } : State) [] 1 6 ∧ ∃ ce : Cell, t.heap[x]? = some ce ∧ ce.vm.isStatics = false ∧ s.vm.findClass X = some ce.cls ∧ s.vm.assignable ce.cls ce.cls = true) (F0 m pc ls []) := by
    have hc1 : 0 + 1 ≤ ({ R with cells := R.cells - cells, slots := R.slots - slots } : Room).cells := by show 0 + 1 ≤ R.cells - cells; omega
    have hc6 : 0 + 6 ≤ ({ R with cells := R.cells - cells, slots := R.slots - slots } : Room).slots := by show 0 + 6 ≤ R.slots - slots; omega
    refine W.newcK (s := ({ s with heap := T.heap, slotsUsed := T.slotsUsed } : State)) (g := F0 m pc ls []) hexec hb hown hcl' hinst' hini' rfl hd1 hc1 hc6 hfc rfl (fun H' kC hkC e1 z1 o1 => ?_)
    refine lv_dup hexec hb hd2 rfl ?_
    refine va_ldcS (s := ({ s with heap := T.heap, slotsUsed := T.slotsUsed } : State)) hexec hb hown hmsg' hd3 ?_
    intro T2 hT2 X2
    obtain ⟨U, h1, h2, h3, h4, h5, ce, h6, h7⟩ := X2.ctorThrowS hexec htr (own := own) (cls := X) (names := names) (ic := iC) hown hX hnames hat' (fun x hx => by cases hx) hfc hkC (by rw [hT2]; exact e1) (Nat.le_refl _) (msg := .ref q) rfl (g := F0 m (pc + 6) ls [.ref q, .ref T.heap.size, .ref T.heap.size]) rfl (hsz.trans hml.symm) rfl rfl rfl (by rw [hb]; exact hd4) (by rw [hb]; exact hd5) hout hfr hlo hlocks
    exact ⟨U, h1, _, h2, h3, h4, h5, ce, h6, by rw [h7.vm]; rfl, h7.cls, h7.self⟩
  obtain ⟨t, a1, x, b1, b2, b3, b4, b5⟩ := K T rfl X'
  refine ⟨t, a1, .threw x, b1, b2, kk x t ?_ ?_ b3 b5, locs, x, rfl, b3, same_re XS b4, hfree⟩
  · rw [← hT]; exact b4.2.1
  · intro q hq
    rw [← hT] at hq ⊢
    exact same_nil b4 hq
end TW
section TC
variable {p : Program} {l : Launch} {e : Env} {R : Room} {s : State} {m : MethodId} {args : Array Value} {below : List Frame} {meth : Method} {c : Code} {H : Heap} {locs : List Loc} {cells slots : Nat}
variable {y : MethodName} {bytes cc : ByteArray} {maxL nL mc ms n index : Nat} {ret : Option FieldType} {ws : List Cond} {rm : Room} {Pc : Array Value → State → Prop} {Qc : Array Value → State → Outcome → State → Prop} {free : Addr → Prop} {Ts : List Cond} {own C : String} {b : Addr} {As rest : List Value} {g : JFrame}
theorem tw_run (S : CallFix p m c cc nL s args Ts own) (hM : MetT l y ws rm Pc Qc mc ms free) (cw : CallW R s args own C index y bytes maxL ret ws rm mc ms n) (hp : PreV s H C b Pc As) (htr : e.platform.stackTraces = false)
    (hg : g.method = m) (hn : As.length = n) (hsize : g.locals.size = nL) (hstack : g.stack = As.reverse ++ .ref b :: rest) (hW : 2 * g.monitorRoom + (rest.map fun v => v.category).sum ≤ 8) (hdg : decode cc g.pc = .ok (.invokevirtual index, 3)) (hf : cells + mc ≤ R.cells ∧ slots + ms ≤ R.slots)
    {T : State} (hT : T.heap = H) (X : Stand p l e R s m args below meth c T locs cells slots) :
    ∃ (x : Addr) (st₀ t T' : State) (L : List Loc), st₀.heap = H ∧ s.WarmedH st₀.vm ∧ Stand p l e R s m args below meth c T' (locs ++ L) (cells + mc) (slots + ms) ∧ (∀ q ∈ L, free q.base) ∧ T'.heap = t.heap ∧ T'.vm = t.vm ∧ Qc (Value.ref b :: As).toArray st₀ (.threw x) t ∧
      Steps p.tables e below (T.setTop g) ((T'.setTop { g with stack := rest }).pushFrame (.throwing x)) := by
  obtain ⟨⟨hrc, hrs, hfr, hlo, hws, hcw, hcode, hini, hy, hlen, hl⟩, hin, hse⟩ := cw
  obtain ⟨hx, hb, hml, ho, -⟩ := S
  obtain ⟨hblind, ⟨cellB, hcB, hoB, hclB⟩, hPc⟩ := hp
  obtain ⟨mk, methM, hnamed, hmethM, hstM, habM⟩ := Cond.instanceMethod_spec hin
  obtain ⟨methM', cM, hmethM', hcM, -, hlM, -, -, -, hsigM⟩ := Cond.code_spec hnamed hcode
  cases hmethM.symm.trans hmethM'
  obtain ⟨c2, r2, m2, q1, q2, q3, q4, kP, hkP, hkPi⟩ := Cond.selects_spec hse
  cases hclB.symm.trans q1
  cases (State.methodFound?_of_named hnamed hy).symm.trans q2
  cases hnamed.symm.trans q3
  have hselP : selectMethod e.platform s.vm cellB.cls mk = .method mk := by rw [Launch.admits_selectMethod X.admits]; exact q4
  obtain ⟨vm₁, X₁, hstep₁⟩ := X.invokevirtual hx ho hl hnamed hmethM hstM hkP hkPi hy (a := b) (cell := cellB) (by rw [hT]; exact hcB)
    (fun z h => by rw [h] at hoB; cases hoB) hselP hmethM habM hkP hkPi (g := g) hg (argsL := As) (rest := rest) (hn.trans (hlen _ hsigM)) hstack (by rw [hb]; exact hdg)
  have hn₁ := X₁.named hnamed
  have hpc₁ : Pc (Value.ref b :: As).toArray (T.setVm vm₁) := hPc (T.setVm vm₁) hT X₁.warmed
  have hini₁ : (Cond.initialized y.cls).before (Value.ref b :: As).toArray (T.setVm vm₁) = true := word_at X₁.warmed (Or.inl (by simp [Cond.onTables, Cond.keeps, Cond.steady])) hini
  obtain ⟨methY, cY, hmY, hcY, -, hlY, -, -, -, -⟩ := Cond.code_spec hn₁ (hws _ hcw (Value.ref b :: As).toArray _ X₁.warmed)
  obtain ⟨kY, hkY, -⟩ := className_of_methodNamed hn₁
  have hinitY : kY.init = .initialized := Cond.initialized_spec (findClass_of_methodNamed hn₁) hkY hini₁
  obtain ⟨g₁, hg₁⟩ : ∃ g₁ : JFrame, g₁ = { g with stack := rest } := ⟨_, rfl⟩
  have hgm : g₁.method = m := by rw [hg₁]; exact hg
  have h : At (T.setVm vm₁) g₁.method c below := by rw [hgm]; exact X₁.here
  have happ : (headSpec ws rm).appliesLoose y e.platform ((T.setVm vm₁).calling g₁ mk (Value.ref b :: As).toArray) = true :=
    Spec.appliesLoose_calling (g := g₁) h (by rw [hg₁, hb]; exact hdg) hn₁ hkY hinitY
      (X₁.room_calling (g := g₁) (R' := (headSpec ws rm).room) (by rw [hg₁]; exact hsize.trans hml.symm) hmY hcY hfr (by rw [hlY, hg₁]; show 2 * g.monitorRoom + (rest.map fun v => v.category).sum + (maxL + 11) + rm.locals ≤ R.locals; omega) (by show cells + rm.cells ≤ R.cells; rw [hrc]; exact hf.1) (by show slots + rm.slots ≤ R.slots; rw [hrs]; exact hf.2)) (atoms_intro fun w hw => hws w hw _ _ X₁.warmed)
  obtain ⟨mid, hmid⟩ := h.above
  have hfrm : ((T.setVm vm₁).setTop g₁).frames = (.java g₁ :: mid) ++ below := by rw [State.frames_setTop' g₁ h.top, hmid]; rfl
  obtain ⟨o, s₂, hsteps, -, hend, hQ, L, x, rfl, hW₂, hsame, hL⟩ := Steps.callFree hM p X.admits X.cas X.clock (acts := []) hfrm happ (hblind _ _ g₁ mk hpc₁) htr
  rw [State.frames_setTop' g₁ h.top] at hend
  have htail : (T.setVm vm₁).frames.tail = below := X₁.tail
  rw [htail] at hend
  obtain ⟨T', X', hWT, hTT, ht⟩ := X₁.outOfThrown (g := g₁) hgm hend hW₂ hsame
  refine ⟨x, (T.setVm vm₁).calling g₁ mk (Value.ref b :: As).toArray, s₂, T', L, hT, X₁.warmed, X', hL, ?_, ?_, hQ, ?_⟩
  · rw [ht, Stand.throwing_heap]
  · rw [ht, Stand.throwing_vm]
  · refine hstep₁ _ fun acts => ?_
    rw [doInvoke_state, ← hg₁, ← ht]
    exact hsteps
/-- a call that throws what the caller's first catch row takes -/
theorem tw_call {pc hpc : Nat} {ls : Array Slot} {A0 A1 : Nat → Prop} {H0 : Heap} {X : String} {t : List ExceptionTableEntry} {x0 : ExceptionTableEntry} {Q : State → Prop} (S : CallFix p m c cc nL s args Ts own) (hM : MetT l y ws rm Pc Qc mc ms free) (cw : CallW R s args own C index y bytes maxL ret ws rm mc ms n) (hp : PreV s H C b Pc As) (htr : e.platform.stackTraces = false)
    (hn : As.length = n) (hsize : ls.size = nL) (hW : (rest.map fun v => v.category).sum ≤ 8) (hdg : decode cc pc = .ok (.invokevirtual index, 3)) (hf : cells + mc ≤ R.cells ∧ slots + ms ≤ R.slots)
    (htab : c.exceptionTable.toList = x0 :: t) (hcov : covers x0 pc = true) (h0 : x0.catchType ≠ 0) (hh : x0.handlerPc = hpc) (hlink : (Cond.classLink own x0.catchType X).before args s = true) (hS : va_S A0 H0 H locs) (hA : ∀ q, q < H.size → A1 q → A0 q) (hfr : ∀ q, free q → A0 q)
    (hQ : ∀ (st t' : State) (x : Addr), Qc (Value.ref b :: As).toArray st (.threw x) t' → (∃ ce : Cell, t'.heap[x]? = some ce ∧ ce.vm.isStatics = false ∧ st.vm.findClass X = some ce.cls ∧ st.vm.assignable ce.cls ce.cls = true) ∧ va_F A1 st t')
    (kk : ∀ (x : Addr) (st t' : State) (H1 : Heap) (locs1 : List Loc), t'.heap = H1 → s.vm.Alike t'.vm → Qc (Value.ref b :: As).toArray st (.threw x) t' → H.size ≤ H1.size → (∀ q : Nat, q < H.size → ¬ A1 q → H1[q]? = H[q]?) → va_S A0 H0 H1 locs1 → W p l e R s m args below meth c H1 locs1 (cells + mc) (slots + ms) Q (F0 m hpc ls [.ref x])) :
    W p l e R s m args below meth c H locs cells slots Q (F0 m pc ls (As.reverse ++ .ref b :: rest)) := by
  intro T hT X0
  obtain ⟨x, st₀, t', T', L, hst, hWst, X', hL, e1, e2, hq, hsteps⟩ := tw_run (g := F0 m pc ls (As.reverse ++ .ref b :: rest)) (rest := rest) S hM cw hp htr rfl hn hsize rfl (by show 2 * 0 + _ ≤ 8; omega) hdg hf hT X0
  obtain ⟨⟨ce, g1, g2, g3, g4⟩, hz, hk⟩ := hQ st₀ t' x hq
  rw [hst] at hz hk
  have hcls : s.vm.findClass X = some ce.cls := by rw [← hWst.alike.findClass]; exact g3
  have hself : s.vm.assignable ce.cls ce.cls = true := by rw [← hWst.alike.assignable]; exact g4
  obtain ⟨hx, hb, hml, ho, -⟩ := S
  obtain ⟨vm', X2, st2⟩ := st_catch X' (a := x) (g := F0 m pc ls rest) rfl htab hcov h0 ho hlink (by rw [e1]; exact g1) g2 hcls hself
  obtain ⟨t2, a1, b1⟩ := kk x st₀ t' T'.heap (locs ++ L) e1.symm (by rw [← e2]; exact X'.warmed.alike) hq (by rw [e1]; exact hz) (fun q h1 h2 => by rw [e1]; exact hk q h1 h2)
    ⟨Nat.le_trans hS.1 (by rw [e1]; exact hz), fun q h1 h2 => by rw [e1, hk q (Nat.lt_of_lt_of_le h1 hS.1) (fun z => h2 (hA q (Nat.lt_of_lt_of_le h1 hS.1) z))]; exact hS.2.1 q h1 h2, fun q hq2 => by
      rcases List.mem_append.mp hq2 with h | h
      · exact hS.2.2 q h
      · exact hfr _ (hL q h)⟩ (T'.setVm vm') rfl X2
  rw [← hh] at a1
  exact ⟨t2, hsteps.trans (st2 t2 a1), b1⟩
end TC
def va_QT (X : String) (B : State → Prop) (A : Nat → Prop) : Array Value → State → Outcome → State → Prop := fun _ st oc t => (∃ x, oc = .threw x ∧ ∃ ce : Cell, t.heap[x]? = some ce ∧ ce.vm.isStatics = false ∧ st.vm.findClass X = some ce.cls ∧ st.vm.assignable ce.cls ce.cls = true) ∧ B t ∧ va_F A st t
theorem vP_grew {D : va_G} {cl : List vw_C} {ws : va_W} {H H1 : Heap} (hP : va_P D cl ws H) (hk : ∀ q, q < H.size → H1[q]? = H[q]?) : va_P D cl ws H1 := va_P.kept hP (fun k q h => hk q.1 ((hP k q h).lt))
theorem vF_grew {A : Nat → Prop} {s t : State} {H : Heap} {locs : List Loc} (hS : va_S A s.heap H locs) (hz : H.size ≤ t.heap.size) (hk : ∀ q, q < H.size → t.heap[q]? = H[q]?) : va_F A s t :=
  ⟨Nat.le_trans hS.1 hz, fun q h1 h2 => (hk q (Nat.lt_of_lt_of_le h1 hS.1)).trans (hS.2.1 q h1 h2)⟩
theorem out_none {p : Program} {l : Launch} {e : Env} {s s₁ : State} {m : MethodId} {args : Array Value} {below : List Frame} {meth : Method} {c : Code} {y : MethodName} {S : Spec} {cc : ByteArray} {maxL : Nat} {ret : Option FieldType} (B : BodyLoose p l y S cc maxL ret e s m args below meth c s₁) (h : (Cond.code y cc maxL ret).before args s = true) (pc : Nat) : ∀ x ∈ c.exceptionTable.toList, covers x pc = false := by
  have X := Stand.of_body B
  obtain ⟨meth', c', hm', hc', -, -, -, -, hempty, -⟩ := Cond.code_spec B.named h
  cases X.method.symm.trans hm'
  cases X.code.symm.trans hc'
  have h0 : c.exceptionTable.size = 0 := by simpa [Array.isEmpty] using hempty
  have h1 : c.exceptionTable.toList = [] := List.eq_nil_of_length_eq_zero (by simpa using h0)
  intro x hx
  rw [h1] at hx
  cases hx
theorem qt_ok {X : String} {B : State → Prop} {A : Nat → Prop} {a : Array Value} {st t : State} {x : Addr} (h : va_QT X B A a st (.threw x) t) : (∃ ce : Cell, t.heap[x]? = some ce ∧ ce.vm.isStatics = false ∧ st.vm.findClass X = some ce.cls ∧ st.vm.assignable ce.cls ce.cls = true) ∧ va_F A st t := by
  obtain ⟨⟨x', he, hce⟩, -, hF⟩ := h
  cases he
  exact ⟨hce, hF⟩
theorem qt_B {X : String} {B : State → Prop} {A : Nat → Prop} {a : Array Value} {st t : State} {x : Addr} (h : va_QT X B A a st (.threw x) t) : B t := h.2.1
theorem tab_one {p : Program} {l : Launch} {e : Env} {s s₁ : State} {m : MethodId} {args : Array Value} {below : List Frame} {meth : Method} {c : Code} {y : MethodName} {S : Spec} {cc : ByteArray} {maxL k1 k2 k3 k4 : Nat} {ret : Option FieldType} (B : BodyLoose p l y S cc maxL ret e s m args below meth c s₁) (h : (Cond.codeWith y cc maxL ret [(k1, k2, k3, k4)]).before args s = true) : c.exceptionTable.toList = [⟨k1, k2, k3, k4⟩] := by
  have X := Stand.of_body B
  obtain ⟨m9, meth', c', hn9, hm', hc', -, -, htab, -⟩ := Cond.codeWith_spec h
  cases B.named.symm.trans hn9
  cases X.method.symm.trans hm'
  cases X.code.symm.trans hc'
  match hl : c.exceptionTable.toList, htab with
  | [x], htab =>
    obtain ⟨a1, a2, a3, a4⟩ := x
    simp only [List.map_cons, List.map_nil, List.cons.injEq, Prod.mk.injEq, and_true] at htab
    obtain ⟨rfl, rfl, rfl, rfl⟩ := htab
    rfl
  | [], htab => simp at htab
  | _ :: _ :: _, htab => simp at htab
theorem own_in : ∀ a ∈ Bundle.ownAtoms "LoanRules" 138 "java/lang/IllegalStateException" ["java/lang/RuntimeException", "java/lang/Exception"], a ∈ TT ∨ a = .isRef (.static "java/lang/Throwable" "UNASSIGNED_STACK" "[Ljava/lang/StackTraceElement;") ∨ a = .isRef (.static "java/lang/Throwable" "SUPPRESSED_SENTINEL" "Ljava/util/List;") ∨ a = .laysStatic "java/lang/Throwable" "UNASSIGNED_STACK" "[Ljava/lang/StackTraceElement;" ∨ a = .laysStatic "java/lang/Throwable" "SUPPRESSED_SENTINEL" "Ljava/util/List;" ∨ a = .declares ⟨"java/lang/RuntimeException", "<init>", "(Ljava/lang/String;)V"⟩ ∨ a = .declares ⟨"java/lang/Exception", "<init>", "(Ljava/lang/String;)V"⟩ ∨ a = .declares ⟨"java/lang/Throwable", "<init>", "(Ljava/lang/String;)V"⟩ ∨ a = .castable "java/lang/IllegalStateException" "java/lang/IllegalStateException" := by decide +kernel
theorem own_at {args : Array Value} {adK adV : Nat → Nat} {A : Nat → Prop} {s : State} {H : Heap} {locs : List Loc} (hts : ∀ w ∈ TT, w.before args s = true) (hZ : zz adK adV A s) (hS : va_S A s.heap H locs) : ∀ U : State, U.vm = s.vm → U.heap = H → ∀ a ∈ Bundle.ownAtoms "LoanRules" 138 "java/lang/IllegalStateException" ["java/lang/RuntimeException", "java/lang/Exception"], a.before args U = true := by
  intro U hv hh a ha
  rcases own_in a ha with h | rfl | rfl | rfl | rfl | rfl | rfl | rfl | rfl
  · exact word_at (s := s) (U := U) (by rw [hv]; exact State.WarmedH.refl s) (tt_good h).2 (hts a h)
  · exact ((zz_us hZ).kept hS.2.1).isRef hv hh
  · exact ((zz_ss hZ).kept hS.2.1).isRef hv hh
  · exact ((zz_us hZ).kept hS.2.1).lays hv hh
  · exact ((zz_ss hZ).kept hS.2.1).lays hv hh
  · exact va_Nw.use rfl (va_Nw.same rfl hv.symm (zd_0 hZ))
  · exact va_Nw.use rfl (va_Nw.same rfl hv.symm (zd_1 hZ))
  · exact va_Nw.use rfl (va_Nw.same rfl hv.symm (zd_2 hZ))
  · exact va_Nw.use rfl (va_Nw.same rfl hv.symm (zz_ca hZ))

