theorem wl_runS {p : Program} {l : Launch} {e : Env} {R : Room} {s : State} {m : MethodId} {args : Array Value} {below : List Frame} {meth : Method} {c : Code} {H : Heap} {locs : List Loc} {cells slots : Nat} {y : MethodName} {bytes cc : ByteArray} {maxL nL mc ms n index : Nat} {ret : Option FieldType} {hh : List (Nat × Nat × Nat × Nat)} {ws : List Cond} {rm : Room} {Pc : Array Value → State → Prop} {Qc : Array Value → State → Outcome → State → Prop} {free : Addr → Prop} {Ts : List Cond} {own : String} {As rest : List Value} {g : JFrame}
    (S : CallFix p m c cc nL s args Ts own) (hM : Met l y ws rm Pc Qc mc ms free) (hrc : rm.cells = mc) (hrs : rm.slots = ms) (hfr : rm.frames + 1 ≤ R.frames) (hlo : 8 + (maxL + 11) + rm.locals ≤ R.locals)
    (hws : ∀ w ∈ ws, ∀ (a' : Array Value) (U : State), s.WarmedH U.vm → w.before a' U = true) (hcw : Cond.codeWith y bytes maxL ret hh ∈ ws) (hcode : (Cond.codeWith y bytes maxL ret hh).before args s = true) (hini : (Cond.initialized y.cls).before args s = true)
    (hy : y.cls ≠ "java/lang/invoke/MethodHandle" ∧ y.cls ≠ "java/lang/invoke/VarHandle") (hlen : (parseMethodDescriptor y.desc).map (fun d => d.parameters.length) = some n) (hl : (Cond.methodLink own index y).before args s = true) (hst : (Cond.static y).before args s = true)
    (hp : PreS s H Pc As) (hg : g.method = m) (hn : As.length = n) (hsize : g.locals.size = nL) (hstack : g.stack = As.reverse ++ rest) (hW : 2 * g.monitorRoom + (rest.map fun v => v.category).sum ≤ 8) (hdg : decode cc g.pc = .ok (.invokestatic index, 3)) (hf : cells + mc ≤ R.cells ∧ slots + ms ≤ R.slots) :
    va_Run p l e R s m args below meth c H locs cells slots mc ms g rest (Qc As.toArray) free := by
  have hK : Back l R p e below s args y 3 8 (PreOf R mc ms Pc) (PostOf Qc mc ms free) := va_backW (bytes := bytes) (maxL := maxL) (ret := ret) (hh := hh) hM hp.1 hrc hrs hfr hlo hws hcw (fun a' U hW => word_at hW (Or.inl (by first | rfl | simp [Cond.onTables, Cond.keeps, Cond.steady])) hini)
  obtain ⟨hx, hb, hml, ho, -⟩ := S
  intro T hT X
  obtain ⟨mk, methM, cM, hnamed, hmethM, -, -, -, -, -, -, hsigM⟩ := Cond.codeWith_spec hcode
  have hstatic : methM.isStatic = true := Cond.static_spec hnamed hmethM hst
  obtain ⟨kP, hkP, -⟩ := className_of_methodNamed hnamed
  have hinitP : kP.init = .initialized := Cond.initialized_spec (findClass_of_methodNamed hnamed) hkP hini
  have hlen2 : As.length = methM.sig.parameters.length := by
    rw [hsigM] at hlen
    exact hn.trans (Option.some.inj hlen).symm
  obtain ⟨vm₁, X₁, hstep₁⟩ := X.invokestatic hx ho hl hnamed hmethM hstatic hkP hinitP hy (g := g) hg (argsL := As) (rest := rest) hlen2 hstack (by rw [hb]; exact hdg)
  obtain ⟨v, ⟨U', l2, c2, s2⟩, X', ⟨g', mk', t, L, e1, e2, hq, h1, hL, h2, h3⟩, hsteps⟩ := hK m meth c ⟨T.setVm vm₁, locs, cells, slots⟩ { g with stack := rest } (.invokestatic index) mk As.toArray X₁ hg (hsize.trans hml.symm) (by rw [hb]; exact hdg) hW (X₁.named hnamed) ⟨hf.1, hf.2, hp.2 (T.setVm vm₁) hT X₁.warmed⟩
  dsimp only [Pt.U, Pt.locs, Pt.cells, Pt.slots] at X' e1 e2 h1 h2 h3 hsteps
  subst h1; subst h2; subst h3
  exact ⟨v, (T.setVm vm₁).calling g' mk' As.toArray, t, U', L, hT, X', hL, e1, e2, hq, fun target h => hstep₁ _ fun acts => by rw [doInvoke_state]; exact hsteps.trans h⟩
set_option maxHeartbeats 4000000 in
set_option maxRecDepth 100000 in
theorem c_Law_lend (l : Launch) (dC : Nat → ClassId) (dI : Nat → Nat → Nat) (adK adV : Nat → Nat) (a_h : Nat) (a_io : Nat) (a_ca : Nat) (a_ou : Nat) (k_io : ClassId) (k_ca : ClassId) (k_ou : ClassId) (p0 : Int32) (p1 : Int32) (p2 : Int32) (a_tx : Nat) (a_ru : Nat) (a_cd : Nat) (a_te : Nat) (a_ki : Nat) (a_ty : Nat) (a_ex : Nat) (a_lo : Nat) (a_fi : Nat) (a_cl : Nat) (sz : Nat) : Met l y_L_lend ws_L_lend ({ frames := 3, cells := 0, slots := 0, locals := 71 }) (va_Pc [.ref a_h, .int p0, .int p1, .int p2, .ref a_ou] (fun U => U.heap.size = sz ∧ zz adK adV (va_A [(a_h, .inr (0, [.ref a_tx, .ref a_ru, .int 0, .ref a_cd, .ref a_te, .ref a_ki, .ref a_ca, .ref a_ty, .ref a_io, .ref a_ex, .ref a_lo, .int 0, .ref a_fi, .int 0, .ref a_cl, .int 0])), (a_io, .inl (k_io, 50, .inl (fun _ => 0))), (a_ca, .inl (k_ca, 50, .inl (fun _ => 0))), (a_ou, .inl (k_ou, 1, .inr (.inl (fun _ => 0))))] sz) U ∧ va_P (dC, dI) vwCl [(a_h, .inr (0, [.ref a_tx, .ref a_ru, .int 0, .ref a_cd, .ref a_te, .ref a_ki, .ref a_ca, .ref a_ty, .ref a_io, .ref a_ex, .ref a_lo, .int 0, .ref a_fi, .int 0, .ref a_cl, .int 0])), (a_io, .inl (k_io, 50, .inl (fun _ => 0))), (a_ca, .inl (k_ca, 50, .inl (fun _ => 0))), (a_ou, .inl (k_ou, 1, .inr (.inl (fun _ => 0))))] U.heap ∧ va_K (dC, dI) vwCl [(k_io, .boolean), (k_ca, .int), (k_ou, .long)] U ∧ va_D (fun _ => True) [(a_h, .inr (0, [.ref a_tx, .ref a_ru, .int 0, .ref a_cd, .ref a_te, .ref a_ki, .ref a_ca, .ref a_ty, .ref a_io, .ref a_ex, .ref a_lo, .int 0, .ref a_fi, .int 0, .ref a_cl, .int 0])), (a_io, .inl (k_io, 50, .inl (fun _ => 0))), (a_ca, .inl (k_ca, 50, .inl (fun _ => 0))), (a_ou, .inl (k_ou, 1, .inr (.inl (fun _ => 0))))])) (va_Qi (fun (r : Int32) (_ : Unit) => r = 0) (fun (_ : Unit) (t : State) => va_P (dC, dI) vwCl [(a_ou, .inl (k_ou, 1, .inr (.inl (vp_updL (fun _ => 0) (0 : Int32).toNatClampNeg ((g_lend p0 p1 p2).toInt64)))))] t.heap ∧ va_K (dC, dI) vwCl [(k_ou, .long)] t ∧ va_D (va_A [(a_h, .inr (0, [.ref a_tx, .ref a_ru, .int 0, .ref a_cd, .ref a_te, .ref a_ki, .ref a_ca, .ref a_ty, .ref a_io, .ref a_ex, .ref a_lo, .int 0, .ref a_fi, .int 0, .ref a_cl, .int 0])), (a_io, .inl (k_io, 50, .inl (fun _ => 0))), (a_ca, .inl (k_ca, 50, .inl (fun _ => 0))), (a_ou, .inl (k_ou, 1, .inr (.inl (fun _ => 0))))] sz) [(a_ou, .inl (k_ou, 1, .inr (.inl (vp_updL (fun _ => 0) (0 : Int32).toNatClampNeg ((g_lend p0 p1 p2).toInt64)))))]) (va_A [(a_h, .inr (0, [.ref a_tx, .ref a_ru, .int 0, .ref a_cd, .ref a_te, .ref a_ki, .ref a_ca, .ref a_ty, .ref a_io, .ref a_ex, .ref a_lo, .int 0, .ref a_fi, .int 0, .ref a_cl, .int 0])), (a_io, .inl (k_io, 50, .inl (fun _ => 0))), (a_ca, .inl (k_ca, 50, .inl (fun _ => 0))), (a_ou, .inl (k_ou, 1, .inr (.inl (fun _ => 0))))] sz)) 0 0 (va_A [(a_h, .inr (0, [.ref a_tx, .ref a_ru, .int 0, .ref a_cd, .ref a_te, .ref a_ki, .ref a_ca, .ref a_ty, .ref a_io, .ref a_ex, .ref a_lo, .int 0, .ref a_fi, .int 0, .ref a_cl, .int 0])), (a_io, .inl (k_io, 50, .inl (fun _ => 0))), (a_ca, .inl (k_ca, 50, .inl (fun _ => 0))), (a_ou, .inl (k_ou, 1, .inr (.inl (fun _ => 0))))] sz) := by
  refine va_MetW (cc := c_L_lend) (maxL := 6) (ret := (some .int)) (hh := [(0, 12, 15, 13)]) (by decide) rfl ?_
  intro p e s m args below meth c s₁ B hml hv
  obtain ⟨rfl, hsz, hZ, hP, hK, hD0⟩ := hv
  have hx := B.exec
  have hb := B.bytes
  have hr := B.returns
  have hts0 := atoms_spec (ws := ws_L_lend) B.pre
  have hts : ∀ w ∈ TT, w.before _ s = true := fun w h => hts0 w (List.mem_cons_of_mem _ h)
  have hown : s.vm.findClass "LoanRulesLaw" = some m.cls := findClass_of_methodNamed B.named
  have hlocks := B.notSynchronized
  subst hsz
  have hD := hD0.self (sz := s.heap.size)
  generalize hAe : va_A [(a_h, .inr (0, [.ref a_tx, .ref a_ru, .int 0, .ref a_cd, .ref a_te, .ref a_ki, .ref a_ca, .ref a_ty, .ref a_io, .ref a_ex, .ref a_lo, .int 0, .ref a_fi, .int 0, .ref a_cl, .int 0])), (a_io, .inl (k_io, 50, .inl (fun _ => 0))), (a_ca, .inl (k_ca, 50, .inl (fun _ => 0))), (a_ou, .inl (k_ou, 1, .inr (.inl (fun _ => 0))))] s.heap.size = A at hD hZ ⊢
  have hA : ∀ q : Nat, s.heap.size ≤ q → A q := fun q h => by rw [← hAe]; exact Or.inr h
  clear hAe hD0
  have hS : va_S A s.heap s.heap [] := va_S.rf
  replace hP : va_P (dC, dI) vwCl [(a_h, .inr (0, [.ref a_tx, .ref a_ru, .int 0, .ref a_cd, .ref a_te, .ref a_ki, .ref a_ca, .ref a_ty, .ref a_io, .ref a_ex, .ref a_lo, .int 0, .ref a_fi, .int 0, .ref a_cl, .int 0])), (a_io, .inl (k_io, 50, .inl (fun _ => 0))), (a_ca, .inl (k_ca, 50, .inl (fun _ => 0))), (a_ou, .inl (k_ou, 1, .inr (.inl (fun _ => 0))))] s.heap := hP
  have hl := lv_entry ([.ref a_h, .int p0, .int p1, .int p2, .ref a_ou]) (n := 6) (Nat.le_of_ble_eq_true rfl)
  rw [lg_entry_eq]
  generalize (lg_sl ([.ref a_h, .int p0, .int p1, .int p2, .ref a_ou]) ++ List.replicate (6 - (lg_sl ([.ref a_h, .int p0, .int p1, .int p2, .ref a_ou])).length) Slot.unset).toArray = ls at hl ⊢
  replace hl : lv_has ls 6 [(0, .ref a_h), (1, .int p0), (2, .int p1), (3, .int p2), (4, .ref a_ou)] := hl
  refine lv_aload hx hb d_L_lend_0 (lv_at hl 4 rfl) ?_
  refine lv_iconst (v := 0) hx hb d_L_lend_2 (by decide) ?_
  refine lv_aload_n hx hb d_L_lend_3 rfl (lv_at hl 0 rfl) ?_
  refine lv_iload_n hx hb d_L_lend_4 rfl (lv_at hl 1 rfl) ?_
  refine lv_iload_n hx hb d_L_lend_5 rfl (lv_at hl 2 rfl) ?_
  refine lv_iload_n hx hb d_L_lend_6 rfl (lv_at hl 3 rfl) ?_
  have hPc := hP.sub (ws' := [(a_h, .inr (0, [.ref a_tx, .ref a_ru, .int 0, .ref a_cd, .ref a_te, .ref a_ki, .ref a_ca, .ref a_ty, .ref a_io, .ref a_ex, .ref a_lo, .int 0, .ref a_fi, .int 0, .ref a_cl, .int 0])), (a_io, .inl (k_io, 50, .inl (fun _ => 0))), (a_ca, .inl (k_ca, 50, .inl (fun _ => 0)))]) [0, 1, 2] rfl
  have hKc := hK.sub (tys' := [(k_io, .boolean), (k_ca, .int)]) [0, 1] rfl
  have hDc := hD.sub (ws' := [(a_h, .inr (0, [.ref a_tx, .ref a_ru, .int 0, .ref a_cd, .ref a_te, .ref a_ki, .ref a_ca, .ref a_ty, .ref a_io, .ref a_ex, .ref a_lo, .int 0, .ref a_fi, .int 0, .ref a_cl, .int 0])), (a_io, .inl (k_io, 50, .inl (fun _ => 0))), (a_ca, .inl (k_ca, 50, .inl (fun _ => 0)))]) [0, 1, 2] (by decide) rfl
  have hFc := va_free (wc := [(a_h, .inr (0, [.ref a_tx, .ref a_ru, .int 0, .ref a_cd, .ref a_te, .ref a_ki, .ref a_ca, .ref a_ty, .ref a_io, .ref a_ex, .ref a_lo, .int 0, .ref a_fi, .int 0, .ref a_cl, .int 0])), (a_io, .inl (k_io, 50, .inl (fun _ => 0))), (a_ca, .inl (k_ca, 50, .inl (fun _ => 0)))]) hD hS hA [0, 1, 2] rfl
  refine va_calli (va_runV (As := [.int p0, .int p1, .int p2]) (rest := [.int 0, .ref a_ou]) ⟨hx, hb, hml, hown, hts⟩ (c_lend l dC dI adK adV (a_h := a_h) (p0 := p0) (p1 := p1) (p2 := p2) (a_tx := a_tx) (a_ru := a_ru) (a_cd := a_cd) (a_te := a_te) (a_ki := a_ki) (a_ca := a_ca) (a_ty := a_ty) (a_io := a_io) (a_ex := a_ex) (a_lo := a_lo) (a_fi := a_fi) (a_cl := a_cl) (k_io := k_io) (k_ca := k_ca) (sz := s.heap.size)) (cwV 3 hts (gV tw_459 tw_460 tw_461 tw_42 tw_462) rfl rfl rfl (by decide +kernel) ⟨(Nat.le_of_ble_eq_true rfl), (Nat.le_of_ble_eq_true rfl)⟩) ⟨fun a U g mk q => by obtain ⟨q0, q1, qZ, qP, qK, qD⟩ := q; exact ⟨q0, q1, zz_call qZ, qP, va_K.moved (u := U) (U := U.calling g mk a) (Vm.Alike.refl U.vm) qK, qD⟩, va_recv hKc hPc (ci := 0) (q0 := 0) rfl rfl, fun U hU hW => ⟨rfl, by rw [hU], zz_rw hS hFc hU hW hZ, by rw [hU]; exact hPc, va_K.moved hW.alike hKc, hDc.weaken (fun _ _ _ _ => trivial)⟩⟩ rfl rfl hl.1 rfl (lv_room (Nat.le_of_ble_eq_true rfl)) d_L_lend_7 ⟨(Nat.le_of_ble_eq_true rfl), (Nat.le_of_ble_eq_true rfl)⟩) hS (fun q _ h => hFc q h) hFc (fun r_1 u t H1 locs ht hvm hw_2 hB hz1 hk1 hS => ?_)
  subst hw_2
  obtain ⟨hP, hD⟩ := va_join (wr := [(a_ou, .inl (k_ou, 1, .inr (.inl (fun _ => 0))))]) (w1 := []) hP hD [0, 1, 2] [3] rfl rfl (by decide) (by decide) hk1 hFc wn_P wn_D
  have hK := hK.sub (tys' := [(k_ou, .long)]) [2] rfl
  generalize H1 = H at hP hS ⊢
  replace hP : va_P (dC, dI) vwCl [(a_ou, .inl (k_ou, 1, .inr (.inl (fun _ => 0))))] H := hP
  replace hD : va_D A [(a_ou, .inl (k_ou, 1, .inr (.inl (fun _ => 0))))] := hD
  refine lv_i2l hx hb d_L_lend_10 rfl ?_
  have i_3 : vp_in 0 1 := by show ¬ (_ ∨ _); decide
  refine va_last (D := (dC, dI)) hx hb hK hP hD hS 0 0 rfl rfl i_3 d_L_lend_11 (fun H locs hP hD hS => ?_)
  replace hP : va_P (dC, dI) vwCl [(a_ou, .inl (k_ou, 1, .inr (.inl (vp_updL (fun _ => 0) (0 : Int32).toNatClampNeg ((g_lend p0 p1 p2).toInt64)))))] H := hP
  replace hD : va_D A [(a_ou, .inl (k_ou, 1, .inr (.inl (vp_updL (fun _ => 0) (0 : Int32).toNatClampNeg ((g_lend p0 p1 p2).toInt64)))))] := hD
  refine lv_goto (tgt := 19) hx hb d_L_lend_12 (by decide) ?_
  refine lv_iconst (v := 0) hx hb d_L_lend_19 (by decide) ?_
  have hP9 := hP.sub (ws' := [(a_ou, .inl (k_ou, 1, .inr (.inl (vp_updL (fun _ => 0) (0 : Int32).toNatClampNeg ((g_lend p0 p1 p2).toInt64)))))]) [0] rfl
  have hD9 := hD.sub (ws' := [(a_ou, .inl (k_ou, 1, .inr (.inl (vp_updL (fun _ => 0) (0 : Int32).toNatClampNeg ((g_lend p0 p1 p2).toInt64)))))]) [0] (by decide) rfl
  have hK9 := hK.sub (tys' := [(k_ou, .long)]) [0] rfl
  exact W.iret (v := 0) hx hb hr (fun t ht hW => ⟨⟨0, (), rfl, rfl, by rw [ht]; exact hP9, va_K.moved hW.alike hK9, hD9⟩, hS.F ht⟩) hS.2.2 d_L_lend_20
