theorem gl_ins_ok {f_ru : Nat → Int32} {r nf : Int32} (hn : nf.toInt < 40) : ∀ (n : Nat) (k : Int32) (fj : Nat → Int32), 0 ≤ k.toInt ∧ k.toInt ≤ nf.toInt → (∀ j : Nat, (j : Int) ≤ nf.toInt → (j : Int) ≠ k.toInt → v40 (fj j)) → (0 ≤ (gl_ins n f_ru r k fj).1.toInt ∧ (gl_ins n f_ru r k fj).1.toInt ≤ nf.toInt) ∧ ∀ j : Nat, (j : Int) ≤ nf.toInt → (j : Int) ≠ (gl_ins n f_ru r k fj).1.toInt → v40 ((gl_ins n f_ru r k fj).2 j) := by
  intro n
  induction n with
  | zero => intro k fj hk hfj; exact ⟨hk, hfj⟩
  | succ n ih =>
    intro k fj hk hfj
    rw [gl_ins]
    by_cases c : k ≤ 0
    · rw [if_pos c]; exact ⟨hk, hfj⟩
    · rw [if_neg c]
      by_cases c2 : (f_ru ((10 * r) + 8).toNatClampNeg) ≤ (f_ru ((10 * (fj (k - 1).toNatClampNeg)) + 8).toNatClampNeg)
      · rw [if_pos c2]; exact ⟨hk, hfj⟩
      · rw [if_neg c2]; exact ih _ _ (fj_k hk hn c) (fj_s hk hn hfj c)
theorem gl_find_ok {p0 p1 p2 v_n : Int32} {f_ru f_ki f_ty f_ex : Nat → Int32} (hn : v_n.toInt ≤ 40) : ∀ (n : Nat) (r nf : Int32) (fi : Nat → Int32), 0 ≤ r.toInt ∧ r.toInt ≤ 40 → 0 ≤ nf.toInt ∧ nf.toInt ≤ r.toInt → (∀ j : Nat, (j : Int) < nf.toInt → v40 (fi j)) → (0 ≤ (gl_find n p0 p1 p2 v_n f_ru f_ki f_ty f_ex r nf fi).2.1.toInt ∧ (gl_find n p0 p1 p2 v_n f_ru f_ki f_ty f_ex r nf fi).2.1.toInt ≤ 40) ∧ ∀ j : Nat, (j : Int) < (gl_find n p0 p1 p2 v_n f_ru f_ki f_ty f_ex r nf fi).2.1.toInt → v40 ((gl_find n p0 p1 p2 v_n f_ru f_ki f_ty f_ex r nf fi).2.2 j) := by
  intro n
  induction n with
  | zero => intro r nf fi hr hnf hfi; exact ⟨by show 0 ≤ nf.toInt ∧ nf.toInt ≤ 40; omega, hfi⟩
  | succ n ih =>
    intro r nf fi hr hnf hfi
    rw [gl_find]
    by_cases c : v_n ≤ r
    · rw [if_pos c]; exact ⟨by show 0 ≤ nf.toInt ∧ nf.toInt ≤ 40; omega, hfi⟩
    · rw [if_neg c]
      have hr4 := li_ltn0 hr c hn
      by_cases c2 : (g_Mg_fitsFor r p0 p1 p2 f_ru f_ki f_ty f_ex) = 0
      · rw [if_pos c2]; exact ih _ _ _ (li_s40 hr hr4) (nf_a hnf hr4) hfi
      · rw [if_neg c2]
        rw [bv_eq]
        have h := gl_ins_ok (f_ru := f_ru) (r := r) (nf_lt hnf hr4) 41 nf fi ⟨hnf.1, Int.le_refl _⟩ (fun j h1 h2 => hfi j (by omega))
        exact ih _ _ _ (li_s40 hr hr4) (nf_b hnf hr4) (fi_b h.1 (nf_lt hnf hr4) hr4 h.2)
theorem find_ok {p0 p1 p2 v_n : Int32} {f_ru f_ki f_ty f_ex f_fi : Nat → Int32} (hn : v_n.toInt ≤ 40) : (0 ≤ (g_Mg_find p0 p1 p2 v_n f_ru f_ki f_ty f_ex f_fi).1.toInt ∧ (g_Mg_find p0 p1 p2 v_n f_ru f_ki f_ty f_ex f_fi).1.toInt ≤ 40) ∧ ∀ j : Nat, (j : Int) < (g_Mg_find p0 p1 p2 v_n f_ru f_ki f_ty f_ex f_fi).1.toInt → v40 ((g_Mg_find p0 p1 p2 v_n f_ru f_ki f_ty f_ex f_fi).2 j) := by
  unfold g_Mg_find
  rw [bv_eq]
  exact gl_find_ok hn 41 0 0 f_fi (by decide) (by decide) (fun j h => absurd h (by rw [li_0]; omega))
theorem find_okx {p0 p1 p2 v_n : Int32} {f_ru f_ki f_ty f_ex f_fi : Nat → Int32} {x : Int32 × (Nat → Int32)} (e : g_Mg_find p0 p1 p2 v_n f_ru f_ki f_ty f_ex f_fi = x) (hn : v_n.toInt ≤ 40) : (0 ≤ x.1.toInt ∧ x.1.toInt ≤ 40) ∧ ∀ j : Nat, (j : Int) < x.1.toInt → v40 (x.2 j) := e ▸ find_ok hn
theorem f0w {x : Int32 × (Nat → Int32)} (h : (0 ≤ x.1.toInt ∧ x.1.toInt ≤ 40) ∧ ∀ j : Nat, (j : Int) < x.1.toInt → v40 (x.2 j)) (c : ¬ x.1 = 0) : v40 (x.2 (0 : Int32).toNatClampNeg) := by
  have n0 : x.1.toInt ≠ 0 := fun q => c (Int32.toInt_inj.mp (by rw [q, li_0]))
  exact h.2 0 (by omega)
theorem li_nl1 {nl : Int32} (h : 0 ≤ nl.toInt ∧ nl.toInt ≤ 200) (c : ¬ nl = 200) : 0 < (nl + 1).toInt ∧ (nl + 1).toInt ≤ 200 := by
  have e : (200 : Int32).toInt = 200 := by decide
  have n0 : nl.toInt ≠ 200 := fun q => c (Int32.toInt_inj.mp (by rw [q, e]))
  rw [li_inc (by omega) (by omega)]; omega
def gl_clashes : Nat → (Int32) → (Nat → Int32) → (Nat → Int32) → (Int32) → Nat × Int32
  | 0, v_nc, f_fi, f_cz, k => (0, k)
  | n + 1, v_nc, f_fi, f_cz, k =>
    if v_nc ≤ k then
      (0, k)
    else
      if (f_cz (2 * k).toNatClampNeg) = (f_fi (0 : Int32).toNatClampNeg) then
        if (f_cz ((2 * k) + 1).toNatClampNeg) = (f_fi (1 : Int32).toNatClampNeg) then
          (1, k)
        else
          gl_clashes n v_nc f_fi f_cz (k + 1)
      else
        gl_clashes n v_nc f_fi f_cz (k + 1)
def g_Mg_clashes (v_nf : Int32) (v_nc : Int32) (f_ru : Nat → Int32) (f_fi : Nat → Int32) (f_cz : Nat → Int32) : Int32 × (Nat → Int32) :=
  if v_nf < 2 then
    (v_nc, f_cz)
  else
    if (f_ru ((10 * (f_fi (0 : Int32).toNatClampNeg)) + 8).toNatClampNeg) = (f_ru ((10 * (f_fi (1 : Int32).toNatClampNeg)) + 8).toNatClampNeg) then
      bv (gl_clashes 801 v_nc f_fi f_cz 0) (fun x_7 =>
        if x_7.1 = 0 then
          (v_nc + 1, upd (upd f_cz (2 * v_nc).toNatClampNeg (f_fi (0 : Int32).toNatClampNeg)) ((2 * v_nc) + 1).toNatClampNeg (f_fi (1 : Int32).toNatClampNeg))
        else
          (v_nc, f_cz))
    else
      (v_nc, f_cz)
set_option maxHeartbeats 4000000 in
set_option maxRecDepth 100000 in
theorem c_Mg_clashes (l : Launch) (dC : Nat → ClassId) (dI : Nat → Nat → Nat) (adK adV : Nat → Nat) (a_m : Nat) (a_ru : Nat) (a_fi : Nat) (a_cz : Nat) (k_ru : ClassId) (k_fi : ClassId) (k_cz : ClassId) (v_th : Int32) (a_sa : Nat) (v_sz : Int32) (v_at : Int32) (v_wr : Int32) (a_me : Nat) (a_le : Nat) (v_n : Int32) (a_cl : Nat) (a_te : Nat) (a_ki : Nat) (a_ty : Nat) (a_bl : Nat) (a_ex : Nat) (a_lo : Nat) (v_nl : Int32) (a_ho : Nat) (v_nf : Int32) (v_nc : Int32) (f_ru : Nat → Int32) (f_fi : Nat → Int32) (f_cz : Nat → Int32) (sz : Nat) (hfi : ∀ j : Nat, (j : Int) < v_nf.toInt → v40 (f_fi j)) (hnc : 0 ≤ v_nc.toInt ∧ v_nc.toInt ≤ 799) : Met l y_M_clashes ws_M_clashes ({ frames := 0, cells := 0, slots := 0, locals := 0 }) (va_Pc [.ref a_m] (fun U => U.heap.size = sz ∧ zz adK adV (va_A [(a_m, .inr (5, [.int v_th, .ref a_sa, .int v_sz, .int v_at, .int v_wr, .ref a_ru, .ref a_me, .ref a_le, .int v_n, .ref a_cl, .ref a_te, .ref a_ki, .ref a_ty, .ref a_bl, .ref a_ex, .ref a_lo, .int v_nl, .ref a_ho, .ref a_fi, .int v_nf, .ref a_cz, .int v_nc])), (a_ru, .inl (k_ru, 410, .inl f_ru)), (a_fi, .inl (k_fi, 40, .inl f_fi)), (a_cz, .inl (k_cz, 1600, .inl f_cz))] sz) U ∧ va_P (dC, dI) vwCl [(a_m, .inr (5, [.int v_th, .ref a_sa, .int v_sz, .int v_at, .int v_wr, .ref a_ru, .ref a_me, .ref a_le, .int v_n, .ref a_cl, .ref a_te, .ref a_ki, .ref a_ty, .ref a_bl, .ref a_ex, .ref a_lo, .int v_nl, .ref a_ho, .ref a_fi, .int v_nf, .ref a_cz, .int v_nc])), (a_ru, .inl (k_ru, 410, .inl f_ru)), (a_fi, .inl (k_fi, 40, .inl f_fi)), (a_cz, .inl (k_cz, 1600, .inl f_cz))] U.heap ∧ va_K (dC, dI) vwCl [(k_ru, .int), (k_fi, .int), (k_cz, .int)] U ∧ va_D (fun _ => True) [(a_m, .inr (5, [.int v_th, .ref a_sa, .int v_sz, .int v_at, .int v_wr, .ref a_ru, .ref a_me, .ref a_le, .int v_n, .ref a_cl, .ref a_te, .ref a_ki, .ref a_ty, .ref a_bl, .ref a_ex, .ref a_lo, .int v_nl, .ref a_ho, .ref a_fi, .int v_nf, .ref a_cz, .int v_nc])), (a_ru, .inl (k_ru, 410, .inl f_ru)), (a_fi, .inl (k_fi, 40, .inl f_fi)), (a_cz, .inl (k_cz, 1600, .inl f_cz))])) (va_Qv (fun _ : Unit => True) (fun (_ : Unit) (t : State) => va_P (dC, dI) vwCl [(a_m, .inr (5, [.int v_th, .ref a_sa, .int v_sz, .int v_at, .int v_wr, .ref a_ru, .ref a_me, .ref a_le, .int v_n, .ref a_cl, .ref a_te, .ref a_ki, .ref a_ty, .ref a_bl, .ref a_ex, .ref a_lo, .int v_nl, .ref a_ho, .ref a_fi, .int v_nf, .ref a_cz, .int ((g_Mg_clashes v_nf v_nc f_ru f_fi f_cz).1)])), (a_ru, .inl (k_ru, 410, .inl f_ru)), (a_fi, .inl (k_fi, 40, .inl f_fi)), (a_cz, .inl (k_cz, 1600, .inl ((g_Mg_clashes v_nf v_nc f_ru f_fi f_cz).2)))] t.heap ∧ va_K (dC, dI) vwCl [(k_ru, .int), (k_fi, .int), (k_cz, .int)] t ∧ va_D (va_A [(a_m, .inr (5, [.int v_th, .ref a_sa, .int v_sz, .int v_at, .int v_wr, .ref a_ru, .ref a_me, .ref a_le, .int v_n, .ref a_cl, .ref a_te, .ref a_ki, .ref a_ty, .ref a_bl, .ref a_ex, .ref a_lo, .int v_nl, .ref a_ho, .ref a_fi, .int v_nf, .ref a_cz, .int v_nc])), (a_ru, .inl (k_ru, 410, .inl f_ru)), (a_fi, .inl (k_fi, 40, .inl f_fi)), (a_cz, .inl (k_cz, 1600, .inl f_cz))] sz) [(a_m, .inr (5, [.int v_th, .ref a_sa, .int v_sz, .int v_at, .int v_wr, .ref a_ru, .ref a_me, .ref a_le, .int v_n, .ref a_cl, .ref a_te, .ref a_ki, .ref a_ty, .ref a_bl, .ref a_ex, .ref a_lo, .int v_nl, .ref a_ho, .ref a_fi, .int v_nf, .ref a_cz, .int ((g_Mg_clashes v_nf v_nc f_ru f_fi f_cz).1)])), (a_ru, .inl (k_ru, 410, .inl f_ru)), (a_fi, .inl (k_fi, 40, .inl f_fi)), (a_cz, .inl (k_cz, 1600, .inl ((g_Mg_clashes v_nf v_nc f_ru f_fi f_cz).2)))]) (va_A [(a_m, .inr (5, [.int v_th, .ref a_sa, .int v_sz, .int v_at, .int v_wr, .ref a_ru, .ref a_me, .ref a_le, .int v_n, .ref a_cl, .ref a_te, .ref a_ki, .ref a_ty, .ref a_bl, .ref a_ex, .ref a_lo, .int v_nl, .ref a_ho, .ref a_fi, .int v_nf, .ref a_cz, .int v_nc])), (a_ru, .inl (k_ru, 410, .inl f_ru)), (a_fi, .inl (k_fi, 40, .inl f_fi)), (a_cz, .inl (k_cz, 1600, .inl f_cz))] sz)) 0 0 (va_A [(a_m, .inr (5, [.int v_th, .ref a_sa, .int v_sz, .int v_at, .int v_wr, .ref a_ru, .ref a_me, .ref a_le, .int v_n, .ref a_cl, .ref a_te, .ref a_ki, .ref a_ty, .ref a_bl, .ref a_ex, .ref a_lo, .int v_nl, .ref a_ho, .ref a_fi, .int v_nf, .ref a_cz, .int v_nc])), (a_ru, .inl (k_ru, 410, .inl f_ru)), (a_fi, .inl (k_fi, 40, .inl f_fi)), (a_cz, .inl (k_cz, 1600, .inl f_cz))] sz) := by
  refine Met.ofW (cc := c_M_clashes) (maxL := 2) (ret := none) (by decide) rfl ?_
  intro p e s m args below meth c s₁ B hml hv
  obtain ⟨rfl, hsz, hZ, hP, hK, hD0⟩ := hv
  have hx := B.exec
  have hb := B.bytes
  have hr := B.returns
  have hts0 := atoms_spec (ws := ws_M_clashes) B.pre
  have hts : ∀ w ∈ TT, w.before _ s = true := fun w h => hts0 w (List.mem_cons_of_mem _ h)
  have hown : s.vm.findClass "LoanRulesModel" = some m.cls := findClass_of_methodNamed B.named
  have hlocks := B.notSynchronized
  subst hsz
  have hD := hD0.self (sz := s.heap.size)
  generalize hAe : va_A [(a_m, .inr (5, [.int v_th, .ref a_sa, .int v_sz, .int v_at, .int v_wr, .ref a_ru, .ref a_me, .ref a_le, .int v_n, .ref a_cl, .ref a_te, .ref a_ki, .ref a_ty, .ref a_bl, .ref a_ex, .ref a_lo, .int v_nl, .ref a_ho, .ref a_fi, .int v_nf, .ref a_cz, .int v_nc])), (a_ru, .inl (k_ru, 410, .inl f_ru)), (a_fi, .inl (k_fi, 40, .inl f_fi)), (a_cz, .inl (k_cz, 1600, .inl f_cz))] s.heap.size = A at hD hZ ⊢
  have hA : ∀ q : Nat, s.heap.size ≤ q → A q := fun q h => by rw [← hAe]; exact Or.inr h
  clear hAe hD0
  have hS : va_S A s.heap s.heap [] := va_S.rf
  replace hP : va_P (dC, dI) vwCl [(a_m, .inr (5, [.int v_th, .ref a_sa, .int v_sz, .int v_at, .int v_wr, .ref a_ru, .ref a_me, .ref a_le, .int v_n, .ref a_cl, .ref a_te, .ref a_ki, .ref a_ty, .ref a_bl, .ref a_ex, .ref a_lo, .int v_nl, .ref a_ho, .ref a_fi, .int v_nf, .ref a_cz, .int v_nc])), (a_ru, .inl (k_ru, 410, .inl f_ru)), (a_fi, .inl (k_fi, 40, .inl f_fi)), (a_cz, .inl (k_cz, 1600, .inl f_cz))] s.heap := hP
  have hl := lv_entry ([.ref a_m]) (n := 2) (Nat.le_of_ble_eq_true rfl)
  rw [lg_entry_eq]
  generalize (lg_sl ([.ref a_m]) ++ List.replicate (2 - (lg_sl ([.ref a_m])).length) Slot.unset).toArray = ls at hl ⊢
  replace hl : lv_has ls 2 [(0, .ref a_m)] := hl
  obtain ⟨z, hz⟩ : ∃ z, z = g_Mg_clashes v_nf v_nc f_ru f_fi f_cz := ⟨_, rfl⟩
  have hE := hz
  rw [g_Mg_clashes] at hE
  refine lv_aload_n hx hb d_M_clashes_0 rfl (lv_at hl 0 rfl) ?_
  refine va_get (D := (dC, dI)) (ci := 5) (v := .int v_nf) (C := "LoanRulesModel") (T := Fz_M) (N := 22) hx hb hts it_M hown hK hP 0 rfl rfl 19 (by decide) (hts _ tw_620) (fun _ h9 => h9) rfl d_M_clashes_1 ?_
  refine lv_iconst (v := 2) hx hb d_M_clashes_4 (by decide) ?_
  refine lv_icmp_lt (tgt := 45) hx hb d_M_clashes_5 (by decide) (fun c_1 => ?_) (fun c_1 => ?_)
  · rw [if_pos c_1] at hE
    have hP9 := hP.sub (ws' := [(a_m, .inr (5, [.int v_th, .ref a_sa, .int v_sz, .int v_at, .int v_wr, .ref a_ru, .ref a_me, .ref a_le, .int v_n, .ref a_cl, .ref a_te, .ref a_ki, .ref a_ty, .ref a_bl, .ref a_ex, .ref a_lo, .int v_nl, .ref a_ho, .ref a_fi, .int v_nf, .ref a_cz, .int v_nc])), (a_ru, .inl (k_ru, 410, .inl f_ru)), (a_fi, .inl (k_fi, 40, .inl f_fi)), (a_cz, .inl (k_cz, 1600, .inl f_cz))]) [0, 1, 2, 3] rfl
    have hD9 := hD.sub (ws' := [(a_m, .inr (5, [.int v_th, .ref a_sa, .int v_sz, .int v_at, .int v_wr, .ref a_ru, .ref a_me, .ref a_le, .int v_n, .ref a_cl, .ref a_te, .ref a_ki, .ref a_ty, .ref a_bl, .ref a_ex, .ref a_lo, .int v_nl, .ref a_ho, .ref a_fi, .int v_nf, .ref a_cz, .int v_nc])), (a_ru, .inl (k_ru, 410, .inl f_ru)), (a_fi, .inl (k_fi, 40, .inl f_fi)), (a_cz, .inl (k_cz, 1600, .inl f_cz))]) [0, 1, 2, 3] (by decide) rfl
    have hK9 := hK.sub (tys' := [(k_ru, .int), (k_fi, .int), (k_cz, .int)]) [0, 1, 2] rfl
    exact W.vret hx hb hr (fun t ht hW => ⟨⟨(), rfl, trivial, by rw [ht, ← hz, hE]; exact hP9, va_K.moved hW.alike hK9, by rw [← hz, hE]; exact hD9⟩, hS.F ht⟩) hS.2.2 d_M_clashes_45
  · rw [if_neg c_1] at hE
    refine lv_aload_n hx hb d_M_clashes_8 rfl (lv_at hl 0 rfl) ?_
    refine va_get (D := (dC, dI)) (ci := 5) (v := .ref a_ru) (C := "LoanRulesModel") (T := Fz_M) (N := 22) hx hb hts it_M hown hK hP 0 rfl rfl 5 (by decide) (hts _ tw_606) (fun _ h9 => h9) rfl d_M_clashes_9 ?_
    refine lv_bipush (v := 10) hx hb d_M_clashes_12 (by decide) ?_
    refine lv_aload_n hx hb d_M_clashes_14 rfl (lv_at hl 0 rfl) ?_
    refine va_get (D := (dC, dI)) (ci := 5) (v := .ref a_fi) (C := "LoanRulesModel") (T := Fz_M) (N := 22) hx hb hts it_M hown hK hP 0 rfl rfl 18 (by decide) (hts _ tw_619) (fun _ h9 => h9) rfl d_M_clashes_15 ?_
    refine lv_iconst (v := 0) hx hb d_M_clashes_18 (by decide) ?_
    have i_2 : vp_in 0 40 := by show ¬ (_ ∨ _); decide
    refine va_iald (D := (dC, dI)) hx hb hK hP 2 1 rfl rfl i_2 d_M_clashes_19 ?_
    refine lv_imul hx hb d_M_clashes_20 ?_
    refine lv_bipush (v := 8) hx hb d_M_clashes_21 (by decide) ?_
    refine lv_iadd hx hb d_M_clashes_23 ?_
    have i_3 : vp_in ((10 * (f_fi (0 : Int32).toNatClampNeg)) + 8) 410 := ix10 (r40 (f0v hfi c_1)) (by decide)
    refine va_iald (D := (dC, dI)) hx hb hK hP 1 0 rfl rfl i_3 d_M_clashes_24 ?_
    refine lv_aload_n hx hb d_M_clashes_25 rfl (lv_at hl 0 rfl) ?_
    refine va_get (D := (dC, dI)) (ci := 5) (v := .ref a_ru) (C := "LoanRulesModel") (T := Fz_M) (N := 22) hx hb hts it_M hown hK hP 0 rfl rfl 5 (by decide) (hts _ tw_606) (fun _ h9 => h9) rfl d_M_clashes_26 ?_
    refine lv_bipush (v := 10) hx hb d_M_clashes_29 (by decide) ?_
    refine lv_aload_n hx hb d_M_clashes_31 rfl (lv_at hl 0 rfl) ?_
    refine va_get (D := (dC, dI)) (ci := 5) (v := .ref a_fi) (C := "LoanRulesModel") (T := Fz_M) (N := 22) hx hb hts it_M hown hK hP 0 rfl rfl 18 (by decide) (hts _ tw_619) (fun _ h9 => h9) rfl d_M_clashes_32 ?_
    refine lv_iconst (v := 1) hx hb d_M_clashes_35 (by decide) ?_
    have i_4 : vp_in 1 40 := by show ¬ (_ ∨ _); decide
    refine va_iald (D := (dC, dI)) hx hb hK hP 2 1 rfl rfl i_4 d_M_clashes_36 ?_
    refine lv_imul hx hb d_M_clashes_37 ?_
    refine lv_bipush (v := 8) hx hb d_M_clashes_38 (by decide) ?_
    refine lv_iadd hx hb d_M_clashes_40 ?_
    have i_5 : vp_in ((10 * (f_fi (1 : Int32).toNatClampNeg)) + 8) 410 := ix10 (r40 (f1v hfi c_1)) (by decide)
    refine va_iald (D := (dC, dI)) hx hb hK hP 1 0 rfl rfl i_5 d_M_clashes_41 ?_
    refine lv_icmp_eq (tgt := 46) hx hb d_M_clashes_42 (by decide) (fun c_6 => ?_) (fun c_6 => ?_)
    · rw [if_pos c_6] at hE
      refine lv_iconst (v := 0) hx hb d_M_clashes_46 (by decide) ?_
      refine lv_istore_n (lv' := [(1, .int 0), (0, .ref a_m)]) hx hb d_M_clashes_47 rfl hl (by decide) rfl (fun ls hl => ?_)
      obtain ⟨H, hHe⟩ : ∃ H, H = s.heap := ⟨_, rfl⟩
      obtain ⟨locs, hLe⟩ : ∃ locs : List Loc, locs = [] := ⟨_, rfl⟩
      replace hP : va_P (dC, dI) vwCl [(a_m, .inr (5, [.int v_th, .ref a_sa, .int v_sz, .int v_at, .int v_wr, .ref a_ru, .ref a_me, .ref a_le, .int v_n, .ref a_cl, .ref a_te, .ref a_ki, .ref a_ty, .ref a_bl, .ref a_ex, .ref a_lo, .int v_nl, .ref a_ho, .ref a_fi, .int v_nf, .ref a_cz, .int v_nc])), (a_ru, .inl (k_ru, 410, .inl f_ru)), (a_fi, .inl (k_fi, 40, .inl f_fi)), (a_cz, .inl (k_cz, 1600, .inl f_cz))] H := by rw [hHe]; exact hP
      replace hS : va_S A s.heap H locs := by rw [hHe, hLe]; exact hS
      refine fl_gen hHe hLe ?_
      clear hHe hLe
      generalize hg_x_7 : gl_clashes 801 v_nc f_fi f_cz 0 = x_7 at hE
      rw [bv_eq] at hE
      obtain ⟨k, e_k⟩ : ∃ q9 : Int32, q9 = 0 := ⟨_, rfl⟩
      obtain ⟨n, e_n⟩ : ∃ q9 : Nat, q9 = 801 := ⟨_, rfl⟩
      have hAll : va_P (dC, dI) vwCl [(a_m, .inr (5, [.int v_th, .ref a_sa, .int v_sz, .int v_at, .int v_wr, .ref a_ru, .ref a_me, .ref a_le, .int v_n, .ref a_cl, .ref a_te, .ref a_ki, .ref a_ty, .ref a_bl, .ref a_ex, .ref a_lo, .int v_nl, .ref a_ho, .ref a_fi, .int v_nf, .ref a_cz, .int v_nc])), (a_ru, .inl (k_ru, 410, .inl f_ru)), (a_fi, .inl (k_fi, 40, .inl f_fi)), (a_cz, .inl (k_cz, 1600, .inl f_cz))] H ∧ va_D A [(a_m, .inr (5, [.int v_th, .ref a_sa, .int v_sz, .int v_at, .int v_wr, .ref a_ru, .ref a_me, .ref a_le, .int v_n, .ref a_cl, .ref a_te, .ref a_ki, .ref a_ty, .ref a_bl, .ref a_ex, .ref a_lo, .int v_nl, .ref a_ho, .ref a_fi, .int v_nf, .ref a_cz, .int v_nc])), (a_ru, .inl (k_ru, 410, .inl f_ru)), (a_fi, .inl (k_fi, 40, .inl f_fi)), (a_cz, .inl (k_cz, 1600, .inl f_cz))] ∧ va_S A s.heap H locs ∧ lv_has ls 2 [(1, .int k), (0, .ref a_m)] ∧ (0 ≤ k.toInt ∧ k.toInt ≤ 799) ∧ 800 - k.toInt.toNat ≤ n ∧ gl_clashes n v_nc f_fi f_cz k = x_7 := by
        subst e_k e_n
        exact ⟨hP, hD, hS, hl, by decide, by decide, hg_x_7⟩
      clear hP hl hD hS e_k e_n hg_x_7
      induction n generalizing k H locs ls with
      | zero =>
        obtain ⟨hP, hD, hS, hl, hk, hm_clashes, hg_clashes⟩ := hAll
        exfalso; omega
      | succ n ih_clashes =>
        obtain ⟨hP, hD, hS, hl, hk, hm_clashes, hg_clashes⟩ := hAll
        rw [gl_clashes] at hg_clashes
        refine lv_iload_n hx hb d_M_clashes_48 rfl (lv_at hl 0 rfl) ?_
        refine lv_aload_n hx hb d_M_clashes_49 rfl (lv_at hl 1 rfl) ?_
        refine va_get (D := (dC, dI)) (ci := 5) (v := .int v_nc) (C := "LoanRulesModel") (T := Fz_M) (N := 22) hx hb hts it_M hown hK hP 0 rfl rfl 21 (by decide) (hts _ tw_622) (fun _ h9 => h9) rfl d_M_clashes_50 ?_
        refine lv_icmp_ge (tgt := 99) hx hb d_M_clashes_53 (by decide) (fun c_8 => ?_) (fun c_8 => ?_)
        · rw [if_pos c_8] at hg_clashes
          subst hg_clashes
          dsimp only at hE
          rw [if_pos rfl] at hE
          refine lv_aload_n hx hb d_M_clashes_99 rfl (lv_at hl 1 rfl) ?_
          refine va_get (D := (dC, dI)) (ci := 5) (v := .ref a_cz) (C := "LoanRulesModel") (T := Fz_M) (N := 22) hx hb hts it_M hown hK hP 0 rfl rfl 20 (by decide) (hts _ tw_621) (fun _ h9 => h9) rfl d_M_clashes_100 ?_
          refine lv_iconst (v := 2) hx hb d_M_clashes_103 (by decide) ?_
          refine lv_aload_n hx hb d_M_clashes_104 rfl (lv_at hl 1 rfl) ?_
          refine va_get (D := (dC, dI)) (ci := 5) (v := .int v_nc) (C := "LoanRulesModel") (T := Fz_M) (N := 22) hx hb hts it_M hown hK hP 0 rfl rfl 21 (by decide) (hts _ tw_622) (fun _ h9 => h9) rfl d_M_clashes_105 ?_
          refine lv_imul hx hb d_M_clashes_108 ?_
          refine lv_aload_n hx hb d_M_clashes_109 rfl (lv_at hl 1 rfl) ?_
          refine va_get (D := (dC, dI)) (ci := 5) (v := .ref a_fi) (C := "LoanRulesModel") (T := Fz_M) (N := 22) hx hb hts it_M hown hK hP 0 rfl rfl 18 (by decide) (hts _ tw_619) (fun _ h9 => h9) rfl d_M_clashes_110 ?_
          refine lv_iconst (v := 0) hx hb d_M_clashes_113 (by decide) ?_
          have i_9 : vp_in 0 40 := by show ¬ (_ ∨ _); decide
          refine va_iald (D := (dC, dI)) hx hb hK hP 2 1 rfl rfl i_9 d_M_clashes_114 ?_
          have i_10 : vp_in (2 * v_nc) 1600 := ix2z hnc
          refine va_iast (D := (dC, dI)) hx hb hK hP hD hS 3 2 rfl rfl i_10 d_M_clashes_115 (fun H locs hP hD hS => ?_)
          replace hP : va_P (dC, dI) vwCl [(a_m, .inr (5, [.int v_th, .ref a_sa, .int v_sz, .int v_at, .int v_wr, .ref a_ru, .ref a_me, .ref a_le, .int v_n, .ref a_cl, .ref a_te, .ref a_ki, .ref a_ty, .ref a_bl, .ref a_ex, .ref a_lo, .int v_nl, .ref a_ho, .ref a_fi, .int v_nf, .ref a_cz, .int v_nc])), (a_ru, .inl (k_ru, 410, .inl f_ru)), (a_fi, .inl (k_fi, 40, .inl f_fi)), (a_cz, .inl (k_cz, 1600, .inl (upd f_cz (2 * v_nc).toNatClampNeg (f_fi (0 : Int32).toNatClampNeg))))] H := hP
          replace hD : va_D A [(a_m, .inr (5, [.int v_th, .ref a_sa, .int v_sz, .int v_at, .int v_wr, .ref a_ru, .ref a_me, .ref a_le, .int v_n, .ref a_cl, .ref a_te, .ref a_ki, .ref a_ty, .ref a_bl, .ref a_ex, .ref a_lo, .int v_nl, .ref a_ho, .ref a_fi, .int v_nf, .ref a_cz, .int v_nc])), (a_ru, .inl (k_ru, 410, .inl f_ru)), (a_fi, .inl (k_fi, 40, .inl f_fi)), (a_cz, .inl (k_cz, 1600, .inl (upd f_cz (2 * v_nc).toNatClampNeg (f_fi (0 : Int32).toNatClampNeg))))] := hD
          refine lv_aload_n hx hb d_M_clashes_116 rfl (lv_at hl 1 rfl) ?_
          refine va_get (D := (dC, dI)) (ci := 5) (v := .ref a_cz) (C := "LoanRulesModel") (T := Fz_M) (N := 22) hx hb hts it_M hown hK hP 0 rfl rfl 20 (by decide) (hts _ tw_621) (fun _ h9 => h9) rfl d_M_clashes_117 ?_
          refine lv_iconst (v := 2) hx hb d_M_clashes_120 (by decide) ?_
          refine lv_aload_n hx hb d_M_clashes_121 rfl (lv_at hl 1 rfl) ?_
          refine va_get (D := (dC, dI)) (ci := 5) (v := .int v_nc) (C := "LoanRulesModel") (T := Fz_M) (N := 22) hx hb hts it_M hown hK hP 0 rfl rfl 21 (by decide) (hts _ tw_622) (fun _ h9 => h9) rfl d_M_clashes_122 ?_
          refine lv_imul hx hb d_M_clashes_125 ?_
          refine lv_iconst (v := 1) hx hb d_M_clashes_126 (by decide) ?_
          refine lv_iadd hx hb d_M_clashes_127 ?_
          refine lv_aload_n hx hb d_M_clashes_128 rfl (lv_at hl 1 rfl) ?_
          refine va_get (D := (dC, dI)) (ci := 5) (v := .ref a_fi) (C := "LoanRulesModel") (T := Fz_M) (N := 22) hx hb hts it_M hown hK hP 0 rfl rfl 18 (by decide) (hts _ tw_619) (fun _ h9 => h9) rfl d_M_clashes_129 ?_
          refine lv_iconst (v := 1) hx hb d_M_clashes_132 (by decide) ?_
          have i_11 : vp_in 1 40 := by show ¬ (_ ∨ _); decide
          refine va_iald (D := (dC, dI)) hx hb hK hP 2 1 rfl rfl i_11 d_M_clashes_133 ?_
          have i_12 : vp_in ((2 * v_nc) + 1) 1600 := ix2 hnc (by decide)
          refine va_iast (D := (dC, dI)) hx hb hK hP hD hS 3 2 rfl rfl i_12 d_M_clashes_134 (fun H locs hP hD hS => ?_)
          replace hP : va_P (dC, dI) vwCl [(a_m, .inr (5, [.int v_th, .ref a_sa, .int v_sz, .int v_at, .int v_wr, .ref a_ru, .ref a_me, .ref a_le, .int v_n, .ref a_cl, .ref a_te, .ref a_ki, .ref a_ty, .ref a_bl, .ref a_ex, .ref a_lo, .int v_nl, .ref a_ho, .ref a_fi, .int v_nf, .ref a_cz, .int v_nc])), (a_ru, .inl (k_ru, 410, .inl f_ru)), (a_fi, .inl (k_fi, 40, .inl f_fi)), (a_cz, .inl (k_cz, 1600, .inl (upd (upd f_cz (2 * v_nc).toNatClampNeg (f_fi (0 : Int32).toNatClampNeg)) ((2 * v_nc) + 1).toNatClampNeg (f_fi (1 : Int32).toNatClampNeg))))] H := hP
          replace hD : va_D A [(a_m, .inr (5, [.int v_th, .ref a_sa, .int v_sz, .int v_at, .int v_wr, .ref a_ru, .ref a_me, .ref a_le, .int v_n, .ref a_cl, .ref a_te, .ref a_ki, .ref a_ty, .ref a_bl, .ref a_ex, .ref a_lo, .int v_nl, .ref a_ho, .ref a_fi, .int v_nf, .ref a_cz, .int v_nc])), (a_ru, .inl (k_ru, 410, .inl f_ru)), (a_fi, .inl (k_fi, 40, .inl f_fi)), (a_cz, .inl (k_cz, 1600, .inl (upd (upd f_cz (2 * v_nc).toNatClampNeg (f_fi (0 : Int32).toNatClampNeg)) ((2 * v_nc) + 1).toNatClampNeg (f_fi (1 : Int32).toNatClampNeg))))] := hD
          refine lv_aload_n hx hb d_M_clashes_135 rfl (lv_at hl 1 rfl) ?_
          refine lv_dup hx hb d_M_clashes_136 rfl ?_
          refine va_get (D := (dC, dI)) (ci := 5) (v := .int v_nc) (C := "LoanRulesModel") (T := Fz_M) (N := 22) hx hb hts it_M hown hK hP 0 rfl rfl 21 (by decide) (hts _ tw_622) (fun _ h9 => h9) rfl d_M_clashes_137 ?_
          refine lv_iconst (v := 1) hx hb d_M_clashes_140 (by decide) ?_
          refine lv_iadd hx hb d_M_clashes_141 ?_
          refine va_put (D := (dC, dI)) (ci := 5) (v := .int (v_nc + 1)) (ty := .int) (C := "LoanRulesModel") (T := Fz_M) (N := 22) hx hb hts it_M tz_M tz_M_ok nz_M hown hK hP hD hS 0 rfl rfl 21 (by decide) (hts _ tw_622) (fun _ h9 => h9) rfl (by decide +kernel) rfl rfl (Nat.le_of_ble_eq_true rfl) d_M_clashes_142 (fun H locs hP hD hS => ?_)
          replace hP : va_P (dC, dI) vwCl [(a_m, .inr (5, [.int v_th, .ref a_sa, .int v_sz, .int v_at, .int v_wr, .ref a_ru, .ref a_me, .ref a_le, .int v_n, .ref a_cl, .ref a_te, .ref a_ki, .ref a_ty, .ref a_bl, .ref a_ex, .ref a_lo, .int v_nl, .ref a_ho, .ref a_fi, .int v_nf, .ref a_cz, .int (v_nc + 1)])), (a_ru, .inl (k_ru, 410, .inl f_ru)), (a_fi, .inl (k_fi, 40, .inl f_fi)), (a_cz, .inl (k_cz, 1600, .inl (upd (upd f_cz (2 * v_nc).toNatClampNeg (f_fi (0 : Int32).toNatClampNeg)) ((2 * v_nc) + 1).toNatClampNeg (f_fi (1 : Int32).toNatClampNeg))))] H := hP
          replace hD : va_D A [(a_m, .inr (5, [.int v_th, .ref a_sa, .int v_sz, .int v_at, .int v_wr, .ref a_ru, .ref a_me, .ref a_le, .int v_n, .ref a_cl, .ref a_te, .ref a_ki, .ref a_ty, .ref a_bl, .ref a_ex, .ref a_lo, .int v_nl, .ref a_ho, .ref a_fi, .int v_nf, .ref a_cz, .int (v_nc + 1)])), (a_ru, .inl (k_ru, 410, .inl f_ru)), (a_fi, .inl (k_fi, 40, .inl f_fi)), (a_cz, .inl (k_cz, 1600, .inl (upd (upd f_cz (2 * v_nc).toNatClampNeg (f_fi (0 : Int32).toNatClampNeg)) ((2 * v_nc) + 1).toNatClampNeg (f_fi (1 : Int32).toNatClampNeg))))] := hD
          have hP9 := hP.sub (ws' := [(a_m, .inr (5, [.int v_th, .ref a_sa, .int v_sz, .int v_at, .int v_wr, .ref a_ru, .ref a_me, .ref a_le, .int v_n, .ref a_cl, .ref a_te, .ref a_ki, .ref a_ty, .ref a_bl, .ref a_ex, .ref a_lo, .int v_nl, .ref a_ho, .ref a_fi, .int v_nf, .ref a_cz, .int (v_nc + 1)])), (a_ru, .inl (k_ru, 410, .inl f_ru)), (a_fi, .inl (k_fi, 40, .inl f_fi)), (a_cz, .inl (k_cz, 1600, .inl (upd (upd f_cz (2 * v_nc).toNatClampNeg (f_fi (0 : Int32).toNatClampNeg)) ((2 * v_nc) + 1).toNatClampNeg (f_fi (1 : Int32).toNatClampNeg))))]) [0, 1, 2, 3] rfl
          have hD9 := hD.sub (ws' := [(a_m, .inr (5, [.int v_th, .ref a_sa, .int v_sz, .int v_at, .int v_wr, .ref a_ru, .ref a_me, .ref a_le, .int v_n, .ref a_cl, .ref a_te, .ref a_ki, .ref a_ty, .ref a_bl, .ref a_ex, .ref a_lo, .int v_nl, .ref a_ho, .ref a_fi, .int v_nf, .ref a_cz, .int (v_nc + 1)])), (a_ru, .inl (k_ru, 410, .inl f_ru)), (a_fi, .inl (k_fi, 40, .inl f_fi)), (a_cz, .inl (k_cz, 1600, .inl (upd (upd f_cz (2 * v_nc).toNatClampNeg (f_fi (0 : Int32).toNatClampNeg)) ((2 * v_nc) + 1).toNatClampNeg (f_fi (1 : Int32).toNatClampNeg))))]) [0, 1, 2, 3] (by decide) rfl
          have hK9 := hK.sub (tys' := [(k_ru, .int), (k_fi, .int), (k_cz, .int)]) [0, 1, 2] rfl
          exact W.vret hx hb hr (fun t ht hW => ⟨⟨(), rfl, trivial, by rw [ht, ← hz, hE]; exact hP9, va_K.moved hW.alike hK9, by rw [← hz, hE]; exact hD9⟩, hS.F ht⟩) hS.2.2 d_M_clashes_145
        · rw [if_neg c_8] at hg_clashes
          refine lv_aload_n hx hb d_M_clashes_56 rfl (lv_at hl 1 rfl) ?_
          refine va_get (D := (dC, dI)) (ci := 5) (v := .ref a_cz) (C := "LoanRulesModel") (T := Fz_M) (N := 22) hx hb hts it_M hown hK hP 0 rfl rfl 20 (by decide) (hts _ tw_621) (fun _ h9 => h9) rfl d_M_clashes_57 ?_
          refine lv_iconst (v := 2) hx hb d_M_clashes_60 (by decide) ?_
          refine lv_iload_n hx hb d_M_clashes_61 rfl (lv_at hl 0 rfl) ?_
          refine lv_imul hx hb d_M_clashes_62 ?_
          have i_13 : vp_in (2 * k) 1600 := ix2z (li_c3 hk c_8 hnc)
          refine va_iald (D := (dC, dI)) hx hb hK hP 3 2 rfl rfl i_13 d_M_clashes_63 ?_
          refine lv_aload_n hx hb d_M_clashes_64 rfl (lv_at hl 1 rfl) ?_
          refine va_get (D := (dC, dI)) (ci := 5) (v := .ref a_fi) (C := "LoanRulesModel") (T := Fz_M) (N := 22) hx hb hts it_M hown hK hP 0 rfl rfl 18 (by decide) (hts _ tw_619) (fun _ h9 => h9) rfl d_M_clashes_65 ?_
          refine lv_iconst (v := 0) hx hb d_M_clashes_68 (by decide) ?_
          have i_14 : vp_in 0 40 := by show ¬ (_ ∨ _); decide
          refine va_iald (D := (dC, dI)) hx hb hK hP 2 1 rfl rfl i_14 d_M_clashes_69 ?_
          refine lv_icmp_ne (tgt := 93) hx hb d_M_clashes_70 (by decide) (fun c_15 => ?_) (fun c_15 => ?_)
          · rw [if_neg c_15] at hg_clashes
            refine lv_iinc (v := k + 1) (lv' := [(1, .int (k + 1)), (0, .ref a_m)]) hx hb d_M_clashes_93 hl (k := 0) rfl rfl (by decide) rfl (fun ls hl => ?_)
            refine lv_goto (tgt := 48) hx hb d_M_clashes_96 (by decide) ?_
            exact ih_clashes _ _ _ _ ⟨hP, hD, hS, lv_sub hl [0, 1] rfl, (li_s3 hk c_8 hnc), (li_m3 hk c_8 hnc hm_clashes), hg_clashes⟩
          · rw [if_pos c_15] at hg_clashes
            refine lv_aload_n hx hb d_M_clashes_73 rfl (lv_at hl 1 rfl) ?_
            refine va_get (D := (dC, dI)) (ci := 5) (v := .ref a_cz) (C := "LoanRulesModel") (T := Fz_M) (N := 22) hx hb hts it_M hown hK hP 0 rfl rfl 20 (by decide) (hts _ tw_621) (fun _ h9 => h9) rfl d_M_clashes_74 ?_
            refine lv_iconst (v := 2) hx hb d_M_clashes_77 (by decide) ?_
            refine lv_iload_n hx hb d_M_clashes_78 rfl (lv_at hl 0 rfl) ?_
            refine lv_imul hx hb d_M_clashes_79 ?_
            refine lv_iconst (v := 1) hx hb d_M_clashes_80 (by decide) ?_
            refine lv_iadd hx hb d_M_clashes_81 ?_
            have i_16 : vp_in ((2 * k) + 1) 1600 := ix2 (li_c3 hk c_8 hnc) (by decide)
            refine va_iald (D := (dC, dI)) hx hb hK hP 3 2 rfl rfl i_16 d_M_clashes_82 ?_
            refine lv_aload_n hx hb d_M_clashes_83 rfl (lv_at hl 1 rfl) ?_
            refine va_get (D := (dC, dI)) (ci := 5) (v := .ref a_fi) (C := "LoanRulesModel") (T := Fz_M) (N := 22) hx hb hts it_M hown hK hP 0 rfl rfl 18 (by decide) (hts _ tw_619) (fun _ h9 => h9) rfl d_M_clashes_84 ?_
            refine lv_iconst (v := 1) hx hb d_M_clashes_87 (by decide) ?_
            have i_17 : vp_in 1 40 := by show ¬ (_ ∨ _); decide
            refine va_iald (D := (dC, dI)) hx hb hK hP 2 1 rfl rfl i_17 d_M_clashes_88 ?_
            refine lv_icmp_ne (tgt := 93) hx hb d_M_clashes_89 (by decide) (fun c_18 => ?_) (fun c_18 => ?_)
            · rw [if_neg c_18] at hg_clashes
              refine lv_iinc (v := k + 1) (lv' := [(1, .int (k + 1)), (0, .ref a_m)]) hx hb d_M_clashes_93 hl (k := 0) rfl rfl (by decide) rfl (fun ls hl => ?_)
              refine lv_goto (tgt := 48) hx hb d_M_clashes_96 (by decide) ?_
              exact ih_clashes _ _ _ _ ⟨hP, hD, hS, lv_sub hl [0, 1] rfl, (li_s3 hk c_8 hnc), (li_m3 hk c_8 hnc hm_clashes), hg_clashes⟩
            · rw [if_pos c_18] at hg_clashes
              subst hg_clashes
              dsimp only at hE
              rw [if_neg (by decide)] at hE
              have hP9 := hP.sub (ws' := [(a_m, .inr (5, [.int v_th, .ref a_sa, .int v_sz, .int v_at, .int v_wr, .ref a_ru, .ref a_me, .ref a_le, .int v_n, .ref a_cl, .ref a_te, .ref a_ki, .ref a_ty, .ref a_bl, .ref a_ex, .ref a_lo, .int v_nl, .ref a_ho, .ref a_fi, .int v_nf, .ref a_cz, .int v_nc])), (a_ru, .inl (k_ru, 410, .inl f_ru)), (a_fi, .inl (k_fi, 40, .inl f_fi)), (a_cz, .inl (k_cz, 1600, .inl f_cz))]) [0, 1, 2, 3] rfl
              have hD9 := hD.sub (ws' := [(a_m, .inr (5, [.int v_th, .ref a_sa, .int v_sz, .int v_at, .int v_wr, .ref a_ru, .ref a_me, .ref a_le, .int v_n, .ref a_cl, .ref a_te, .ref a_ki, .ref a_ty, .ref a_bl, .ref a_ex, .ref a_lo, .int v_nl, .ref a_ho, .ref a_fi, .int v_nf, .ref a_cz, .int v_nc])), (a_ru, .inl (k_ru, 410, .inl f_ru)), (a_fi, .inl (k_fi, 40, .inl f_fi)), (a_cz, .inl (k_cz, 1600, .inl f_cz))]) [0, 1, 2, 3] (by decide) rfl
              have hK9 := hK.sub (tys' := [(k_ru, .int), (k_fi, .int), (k_cz, .int)]) [0, 1, 2] rfl
              exact W.vret hx hb hr (fun t ht hW => ⟨⟨(), rfl, trivial, by rw [ht, ← hz, hE]; exact hP9, va_K.moved hW.alike hK9, by rw [← hz, hE]; exact hD9⟩, hS.F ht⟩) hS.2.2 d_M_clashes_92
    · rw [if_neg c_6] at hE
      have hP9 := hP.sub (ws' := [(a_m, .inr (5, [.int v_th, .ref a_sa, .int v_sz, .int v_at, .int v_wr, .ref a_ru, .ref a_me, .ref a_le, .int v_n, .ref a_cl, .ref a_te, .ref a_ki, .ref a_ty, .ref a_bl, .ref a_ex, .ref a_lo, .int v_nl, .ref a_ho, .ref a_fi, .int v_nf, .ref a_cz, .int v_nc])), (a_ru, .inl (k_ru, 410, .inl f_ru)), (a_fi, .inl (k_fi, 40, .inl f_fi)), (a_cz, .inl (k_cz, 1600, .inl f_cz))]) [0, 1, 2, 3] rfl
      have hD9 := hD.sub (ws' := [(a_m, .inr (5, [.int v_th, .ref a_sa, .int v_sz, .int v_at, .int v_wr, .ref a_ru, .ref a_me, .ref a_le, .int v_n, .ref a_cl, .ref a_te, .ref a_ki, .ref a_ty, .ref a_bl, .ref a_ex, .ref a_lo, .int v_nl, .ref a_ho, .ref a_fi, .int v_nf, .ref a_cz, .int v_nc])), (a_ru, .inl (k_ru, 410, .inl f_ru)), (a_fi, .inl (k_fi, 40, .inl f_fi)), (a_cz, .inl (k_cz, 1600, .inl f_cz))]) [0, 1, 2, 3] (by decide) rfl
      have hK9 := hK.sub (tys' := [(k_ru, .int), (k_fi, .int), (k_cz, .int)]) [0, 1, 2] rfl
      exact W.vret hx hb hr (fun t ht hW => ⟨⟨(), rfl, trivial, by rw [ht, ← hz, hE]; exact hP9, va_K.moved hW.alike hK9, by rw [← hz, hE]; exact hD9⟩, hS.F ht⟩) hS.2.2 d_M_clashes_45
def g_Mg_renew (p0 : Int32) (p1 : Int32) (v_nl : Int32) (f_ru : Nat → Int32) (f_bl : Nat → Int32) (f_lo : Nat → Int32) (f_cl : Nat → Int32) (f_te : Nat → Int32) : Int32 × Int32 × (Nat → Int32) :=
  if (g_Mg_isOut p0 v_nl f_lo) = 0 then
    (0, 0, f_lo)
  else
    if (g_Mg_isDay p1) = 0 then
      (0, 0, f_lo)
    else
      if (f_bl ((-1) - (f_lo ((7 * p0) + 6).toNatClampNeg)).toNatClampNeg) ≤ 0 then
        if (f_lo ((7 * p0) + 3).toNatClampNeg) < (f_ru ((10 * (f_lo ((7 * p0) + 1).toNatClampNeg)) + 5).toNatClampNeg) then
          if ((f_lo ((7 * p0) + 4).toNatClampNeg) + (f_ru ((10 * (f_lo ((7 * p0) + 1).toNatClampNeg)) + 6).toNatClampNeg)) ≤ p1 then
            if (f_lo ((7 * p0) + 5).toNatClampNeg) = 1 then
              ((-3), 0, f_lo)
            else
              if (g_Mg_dueOf (f_lo ((7 * p0) + 1).toNatClampNeg) p1 f_ru f_cl f_te) = (-1) then
                ((-4), 0, f_lo)
              else
                if (g_Mg_dueOf (f_lo ((7 * p0) + 1).toNatClampNeg) p1 f_ru f_cl f_te) ≤ (f_lo ((7 * p0) + 2).toNatClampNeg) then
                  (1, 0, upd (upd (upd f_lo ((7 * p0) + 2).toNatClampNeg (f_lo ((7 * p0) + 2).toNatClampNeg)) ((7 * p0) + 3).toNatClampNeg (((upd f_lo ((7 * p0) + 2).toNatClampNeg (f_lo ((7 * p0) + 2).toNatClampNeg)) ((7 * p0) + 3).toNatClampNeg) + 1)) ((7 * p0) + 4).toNatClampNeg p1)
                else
                  (1, 0, upd (upd (upd f_lo ((7 * p0) + 2).toNatClampNeg (g_Mg_dueOf (f_lo ((7 * p0) + 1).toNatClampNeg) p1 f_ru f_cl f_te)) ((7 * p0) + 3).toNatClampNeg (((upd f_lo ((7 * p0) + 2).toNatClampNeg (g_Mg_dueOf (f_lo ((7 * p0) + 1).toNatClampNeg) p1 f_ru f_cl f_te)) ((7 * p0) + 3).toNatClampNeg) + 1)) ((7 * p0) + 4).toNatClampNeg p1)
          else
            ((-2), 0, f_lo)
        else
          ((-1), 0, f_lo)
      else
        ((-102) - (f_bl ((-1) - (f_lo ((7 * p0) + 6).toNatClampNeg)).toNatClampNeg), 0, f_lo)
set_option maxHeartbeats 4000000 in
set_option maxRecDepth 100000 in
theorem c_Mg_renew (l : Launch) (dC : Nat → ClassId) (dI : Nat → Nat → Nat) (adK adV : Nat → Nat) (a_m : Nat) (a_ru : Nat) (a_bl : Nat) (a_lo : Nat) (a_cl : Nat) (a_te : Nat) (k_ru : ClassId) (k_bl : ClassId) (k_lo : ClassId) (k_cl : ClassId) (k_te : ClassId) (p0 : Int32) (p1 : Int32) (v_th : Int32) (a_sa : Nat) (v_sz : Int32) (v_at : Int32) (v_wr : Int32) (a_me : Nat) (a_le : Nat) (v_n : Int32) (a_ki : Nat) (a_ty : Nat) (a_ex : Nat) (v_nl : Int32) (a_ho : Nat) (a_fi : Nat) (v_nf : Int32) (a_cz : Nat) (v_nc : Int32) (f_ru : Nat → Int32) (f_bl : Nat → Int32) (f_lo : Nat → Int32) (f_cl : Nat → Int32) (f_te : Nat → Int32) (sz : Nat) (hnl : 0 ≤ v_nl.toInt ∧ v_nl.toInt ≤ 200) (hl1 : ∀ x : Int32, 0 < x.toInt → x.toInt ≤ v_nl.toInt → 0 ≤ (f_lo ((7 * x) + 1).toNatClampNeg).toInt ∧ (f_lo ((7 * x) + 1).toNatClampNeg).toInt < 40) (hl6 : ∀ x : Int32, 0 < x.toInt → x.toInt ≤ v_nl.toInt → (f_lo ((7 * x) + 6).toNatClampNeg).toInt < 0 → -50 ≤ (f_lo ((7 * x) + 6).toNatClampNeg).toInt) (hr4 : ∀ r : Int32, 0 ≤ r.toInt → r.toInt < 40 → 0 ≤ (f_ru ((10 * r) + 4).toNatClampNeg).toInt ∧ (f_ru ((10 * r) + 4).toNatClampNeg).toInt ≤ 999) : Met l y_M_renew ws_M_renew ({ frames := 2, cells := 0, slots := 0, locals := 45 }) (va_Pc [.ref a_m, .int p0, .int p1] (fun U => U.heap.size = sz ∧ zz adK adV (va_A [(a_m, .inr (5, [.int v_th, .ref a_sa, .int v_sz, .int v_at, .int v_wr, .ref a_ru, .ref a_me, .ref a_le, .int v_n, .ref a_cl, .ref a_te, .ref a_ki, .ref a_ty, .ref a_bl, .ref a_ex, .ref a_lo, .int v_nl, .ref a_ho, .ref a_fi, .int v_nf, .ref a_cz, .int v_nc])), (a_ru, .inl (k_ru, 410, .inl f_ru)), (a_bl, .inl (k_bl, 50, .inl f_bl)), (a_lo, .inl (k_lo, 1407, .inl f_lo)), (a_cl, .inl (k_cl, 10000, .inl f_cl)), (a_te, .inl (k_te, 10000, .inl f_te))] sz) U ∧ va_P (dC, dI) vwCl [(a_m, .inr (5, [.int v_th, .ref a_sa, .int v_sz, .int v_at, .int v_wr, .ref a_ru, .ref a_me, .ref a_le, .int v_n, .ref a_cl, .ref a_te, .ref a_ki, .ref a_ty, .ref a_bl, .ref a_ex, .ref a_lo, .int v_nl, .ref a_ho, .ref a_fi, .int v_nf, .ref a_cz, .int v_nc])), (a_ru, .inl (k_ru, 410, .inl f_ru)), (a_bl, .inl (k_bl, 50, .inl f_bl)), (a_lo, .inl (k_lo, 1407, .inl f_lo)), (a_cl, .inl (k_cl, 10000, .inl f_cl)), (a_te, .inl (k_te, 10000, .inl f_te))] U.heap ∧ va_K (dC, dI) vwCl [(k_ru, .int), (k_bl, .int), (k_lo, .int), (k_cl, .boolean), (k_te, .boolean)] U ∧ va_D (fun _ => True) [(a_m, .inr (5, [.int v_th, .ref a_sa, .int v_sz, .int v_at, .int v_wr, .ref a_ru, .ref a_me, .ref a_le, .int v_n, .ref a_cl, .ref a_te, .ref a_ki, .ref a_ty, .ref a_bl, .ref a_ex, .ref a_lo, .int v_nl, .ref a_ho, .ref a_fi, .int v_nf, .ref a_cz, .int v_nc])), (a_ru, .inl (k_ru, 410, .inl f_ru)), (a_bl, .inl (k_bl, 50, .inl f_bl)), (a_lo, .inl (k_lo, 1407, .inl f_lo)), (a_cl, .inl (k_cl, 10000, .inl f_cl)), (a_te, .inl (k_te, 10000, .inl f_te))])) (va_Qi (fun (r : Int32) (_ : Unit) => r = (g_Mg_renew p0 p1 v_nl f_ru f_bl f_lo f_cl f_te).1) (fun (_ : Unit) (t : State) => va_P (dC, dI) vwCl [(a_m, .inr (5, [.int ((g_Mg_renew p0 p1 v_nl f_ru f_bl f_lo f_cl f_te).2.1), .ref a_sa, .int v_sz, .int v_at, .int v_wr, .ref a_ru, .ref a_me, .ref a_le, .int v_n, .ref a_cl, .ref a_te, .ref a_ki, .ref a_ty, .ref a_bl, .ref a_ex, .ref a_lo, .int v_nl, .ref a_ho, .ref a_fi, .int v_nf, .ref a_cz, .int v_nc])), (a_ru, .inl (k_ru, 410, .inl f_ru)), (a_bl, .inl (k_bl, 50, .inl f_bl)), (a_lo, .inl (k_lo, 1407, .inl ((g_Mg_renew p0 p1 v_nl f_ru f_bl f_lo f_cl f_te).2.2))), (a_cl, .inl (k_cl, 10000, .inl f_cl)), (a_te, .inl (k_te, 10000, .inl f_te))] t.heap ∧ va_K (dC, dI) vwCl [(k_ru, .int), (k_bl, .int), (k_lo, .int), (k_cl, .boolean), (k_te, .boolean)] t ∧ va_D (va_A [(a_m, .inr (5, [.int v_th, .ref a_sa, .int v_sz, .int v_at, .int v_wr, .ref a_ru, .ref a_me, .ref a_le, .int v_n, .ref a_cl, .ref a_te, .ref a_ki, .ref a_ty, .ref a_bl, .ref a_ex, .ref a_lo, .int v_nl, .ref a_ho, .ref a_fi, .int v_nf, .ref a_cz, .int v_nc])), (a_ru, .inl (k_ru, 410, .inl f_ru)), (a_bl, .inl (k_bl, 50, .inl f_bl)), (a_lo, .inl (k_lo, 1407, .inl f_lo)), (a_cl, .inl (k_cl, 10000, .inl f_cl)), (a_te, .inl (k_te, 10000, .inl f_te))] sz) [(a_m, .inr (5, [.int ((g_Mg_renew p0 p1 v_nl f_ru f_bl f_lo f_cl f_te).2.1), .ref a_sa, .int v_sz, .int v_at, .int v_wr, .ref a_ru, .ref a_me, .ref a_le, .int v_n, .ref a_cl, .ref a_te, .ref a_ki, .ref a_ty, .ref a_bl, .ref a_ex, .ref a_lo, .int v_nl, .ref a_ho, .ref a_fi, .int v_nf, .ref a_cz, .int v_nc])), (a_ru, .inl (k_ru, 410, .inl f_ru)), (a_bl, .inl (k_bl, 50, .inl f_bl)), (a_lo, .inl (k_lo, 1407, .inl ((g_Mg_renew p0 p1 v_nl f_ru f_bl f_lo f_cl f_te).2.2))), (a_cl, .inl (k_cl, 10000, .inl f_cl)), (a_te, .inl (k_te, 10000, .inl f_te))]) (va_A [(a_m, .inr (5, [.int v_th, .ref a_sa, .int v_sz, .int v_at, .int v_wr, .ref a_ru, .ref a_me, .ref a_le, .int v_n, .ref a_cl, .ref a_te, .ref a_ki, .ref a_ty, .ref a_bl, .ref a_ex, .ref a_lo, .int v_nl, .ref a_ho, .ref a_fi, .int v_nf, .ref a_cz, .int v_nc])), (a_ru, .inl (k_ru, 410, .inl f_ru)), (a_bl, .inl (k_bl, 50, .inl f_bl)), (a_lo, .inl (k_lo, 1407, .inl f_lo)), (a_cl, .inl (k_cl, 10000, .inl f_cl)), (a_te, .inl (k_te, 10000, .inl f_te))] sz)) 0 0 (va_A [(a_m, .inr (5, [.int v_th, .ref a_sa, .int v_sz, .int v_at, .int v_wr, .ref a_ru, .ref a_me, .ref a_le, .int v_n, .ref a_cl, .ref a_te, .ref a_ki, .ref a_ty, .ref a_bl, .ref a_ex, .ref a_lo, .int v_nl, .ref a_ho, .ref a_fi, .int v_nf, .ref a_cz, .int v_nc])), (a_ru, .inl (k_ru, 410, .inl f_ru)), (a_bl, .inl (k_bl, 50, .inl f_bl)), (a_lo, .inl (k_lo, 1407, .inl f_lo)), (a_cl, .inl (k_cl, 10000, .inl f_cl)), (a_te, .inl (k_te, 10000, .inl f_te))] sz) := by
  refine Met.ofW (cc := c_M_renew) (maxL := 7) (ret := (some .int)) (by decide) rfl ?_
  intro p e s m args below meth c s₁ B hml hv
  obtain ⟨rfl, hsz, hZ, hP, hK, hD0⟩ := hv
  have hx := B.exec
  have hb := B.bytes
  have hr := B.returns
  have hts0 := atoms_spec (ws := ws_M_renew) B.pre
  have hts : ∀ w ∈ TT, w.before _ s = true := fun w h => hts0 w (List.mem_cons_of_mem _ h)
  have hown : s.vm.findClass "LoanRulesModel" = some m.cls := findClass_of_methodNamed B.named
  have hlocks := B.notSynchronized
  subst hsz
  have hD := hD0.self (sz := s.heap.size)
  generalize hAe : va_A [(a_m, .inr (5, [.int v_th, .ref a_sa, .int v_sz, .int v_at, .int v_wr, .ref a_ru, .ref a_me, .ref a_le, .int v_n, .ref a_cl, .ref a_te, .ref a_ki, .ref a_ty, .ref a_bl, .ref a_ex, .ref a_lo, .int v_nl, .ref a_ho, .ref a_fi, .int v_nf, .ref a_cz, .int v_nc])), (a_ru, .inl (k_ru, 410, .inl f_ru)), (a_bl, .inl (k_bl, 50, .inl f_bl)), (a_lo, .inl (k_lo, 1407, .inl f_lo)), (a_cl, .inl (k_cl, 10000, .inl f_cl)), (a_te, .inl (k_te, 10000, .inl f_te))] s.heap.size = A at hD hZ ⊢
  have hA : ∀ q : Nat, s.heap.size ≤ q → A q := fun q h => by rw [← hAe]; exact Or.inr h
  clear hAe hD0
  have hS : va_S A s.heap s.heap [] := va_S.rf
  replace hP : va_P (dC, dI) vwCl [(a_m, .inr (5, [.int v_th, .ref a_sa, .int v_sz, .int v_at, .int v_wr, .ref a_ru, .ref a_me, .ref a_le, .int v_n, .ref a_cl, .ref a_te, .ref a_ki, .ref a_ty, .ref a_bl, .ref a_ex, .ref a_lo, .int v_nl, .ref a_ho, .ref a_fi, .int v_nf, .ref a_cz, .int v_nc])), (a_ru, .inl (k_ru, 410, .inl f_ru)), (a_bl, .inl (k_bl, 50, .inl f_bl)), (a_lo, .inl (k_lo, 1407, .inl f_lo)), (a_cl, .inl (k_cl, 10000, .inl f_cl)), (a_te, .inl (k_te, 10000, .inl f_te))] s.heap := hP
  have hl := lv_entry ([.ref a_m, .int p0, .int p1]) (n := 7) (Nat.le_of_ble_eq_true rfl)
  rw [lg_entry_eq]
  generalize (lg_sl ([.ref a_m, .int p0, .int p1]) ++ List.replicate (7 - (lg_sl ([.ref a_m, .int p0, .int p1])).length) Slot.unset).toArray = ls at hl ⊢
  replace hl : lv_has ls 7 [(0, .ref a_m), (1, .int p0), (2, .int p1)] := hl
  obtain ⟨z, hz⟩ : ∃ z, z = g_Mg_renew p0 p1 v_nl f_ru f_bl f_lo f_cl f_te := ⟨_, rfl⟩
  have hE := hz
  rw [g_Mg_renew] at hE
  refine lv_aload_n hx hb d_M_renew_0 rfl (lv_at hl 0 rfl) ?_
  refine lv_iconst (v := 0) hx hb d_M_renew_1 (by decide) ?_
  refine va_put (D := (dC, dI)) (ci := 5) (v := .int 0) (ty := .int) (C := "LoanRulesModel") (T := Fz_M) (N := 22) hx hb hts it_M tz_M tz_M_ok nz_M hown hK hP hD hS 0 rfl rfl 0 (by decide) (hts _ tw_601) (fun _ h9 => h9) rfl (by decide +kernel) rfl rfl (Nat.le_of_ble_eq_true rfl) d_M_renew_2 (fun H locs hP hD hS => ?_)
  replace hP : va_P (dC, dI) vwCl [(a_m, .inr (5, [.int 0, .ref a_sa, .int v_sz, .int v_at, .int v_wr, .ref a_ru, .ref a_me, .ref a_le, .int v_n, .ref a_cl, .ref a_te, .ref a_ki, .ref a_ty, .ref a_bl, .ref a_ex, .ref a_lo, .int v_nl, .ref a_ho, .ref a_fi, .int v_nf, .ref a_cz, .int v_nc])), (a_ru, .inl (k_ru, 410, .inl f_ru)), (a_bl, .inl (k_bl, 50, .inl f_bl)), (a_lo, .inl (k_lo, 1407, .inl f_lo)), (a_cl, .inl (k_cl, 10000, .inl f_cl)), (a_te, .inl (k_te, 10000, .inl f_te))] H := hP
  replace hD : va_D A [(a_m, .inr (5, [.int 0, .ref a_sa, .int v_sz, .int v_at, .int v_wr, .ref a_ru, .ref a_me, .ref a_le, .int v_n, .ref a_cl, .ref a_te, .ref a_ki, .ref a_ty, .ref a_bl, .ref a_ex, .ref a_lo, .int v_nl, .ref a_ho, .ref a_fi, .int v_nf, .ref a_cz, .int v_nc])), (a_ru, .inl (k_ru, 410, .inl f_ru)), (a_bl, .inl (k_bl, 50, .inl f_bl)), (a_lo, .inl (k_lo, 1407, .inl f_lo)), (a_cl, .inl (k_cl, 10000, .inl f_cl)), (a_te, .inl (k_te, 10000, .inl f_te))] := hD
  refine lv_aload_n hx hb d_M_renew_5 rfl (lv_at hl 0 rfl) ?_
  refine lv_iload_n hx hb d_M_renew_6 rfl (lv_at hl 1 rfl) ?_
  have hPc := hP.sub (ws' := [(a_m, .inr (5, [.int 0, .ref a_sa, .int v_sz, .int v_at, .int v_wr, .ref a_ru, .ref a_me, .ref a_le, .int v_n, .ref a_cl, .ref a_te, .ref a_ki, .ref a_ty, .ref a_bl, .ref a_ex, .ref a_lo, .int v_nl, .ref a_ho, .ref a_fi, .int v_nf, .ref a_cz, .int v_nc])), (a_lo, .inl (k_lo, 1407, .inl f_lo))]) [0, 3] rfl
  have hKc := hK.sub (tys' := [(k_lo, .int)]) [2] rfl
  refine vp_callSi (va_Run.run (va_runV (As := [.int p0]) (rest := []) ⟨hx, hb, hml, hown, hts⟩ (c_Mg_isOut l dC dI adK adV (a_m := a_m) (p0 := p0) (v_th := 0) (a_sa := a_sa) (v_sz := v_sz) (v_at := v_at) (v_wr := v_wr) (a_ru := a_ru) (a_me := a_me) (a_le := a_le) (v_n := v_n) (a_cl := a_cl) (a_te := a_te) (a_ki := a_ki) (a_ty := a_ty) (a_bl := a_bl) (a_ex := a_ex) (a_lo := a_lo) (v_nl := v_nl) (a_ho := a_ho) (a_fi := a_fi) (v_nf := v_nf) (a_cz := a_cz) (v_nc := v_nc) (k_lo := k_lo) (f_lo := f_lo) hnl) (cwV 1 hts (gV tw_794 tw_796 tw_40 tw_46 tw_797) rfl rfl rfl (by decide +kernel) ⟨(Nat.le_of_ble_eq_true rfl), (Nat.le_of_ble_eq_true rfl)⟩) ⟨fun a U g mk q => by obtain ⟨q0, qZ, qP, qK⟩ := q; exact ⟨q0, zz_call qZ, qP, va_K.moved (u := U) (U := U.calling g mk a) (Vm.Alike.refl U.vm) qK⟩, va_recv hKc hPc (ci := 5) (q0 := 0) rfl rfl, fun U hU hW => ⟨rfl, zz_ro hS hU hW hZ, by rw [hU]; exact hPc, va_K.moved hW.alike hKc⟩⟩ rfl rfl hl.1 rfl (lv_room (Nat.le_of_ble_eq_true rfl)) d_M_renew_7 ⟨(Nat.le_of_ble_eq_true rfl), (Nat.le_of_ble_eq_true rfl)⟩)) (fun r_1 hw_2 => ?_)
  clear hPc hKc
  subst hw_2
  refine lv_if_eq (tgt := 20) hx hb d_M_renew_10 (by decide) (fun c_3 => ?_) (fun c_3 => ?_)
  · rw [if_pos c_3] at hE
    refine lv_iconst (v := 0) hx hb d_M_renew_20 (by decide) ?_
    have hP9 := hP.sub (ws' := [(a_m, .inr (5, [.int 0, .ref a_sa, .int v_sz, .int v_at, .int v_wr, .ref a_ru, .ref a_me, .ref a_le, .int v_n, .ref a_cl, .ref a_te, .ref a_ki, .ref a_ty, .ref a_bl, .ref a_ex, .ref a_lo, .int v_nl, .ref a_ho, .ref a_fi, .int v_nf, .ref a_cz, .int v_nc])), (a_ru, .inl (k_ru, 410, .inl f_ru)), (a_bl, .inl (k_bl, 50, .inl f_bl)), (a_lo, .inl (k_lo, 1407, .inl f_lo)), (a_cl, .inl (k_cl, 10000, .inl f_cl)), (a_te, .inl (k_te, 10000, .inl f_te))]) [0, 1, 2, 3, 4, 5] rfl
    have hD9 := hD.sub (ws' := [(a_m, .inr (5, [.int 0, .ref a_sa, .int v_sz, .int v_at, .int v_wr, .ref a_ru, .ref a_me, .ref a_le, .int v_n, .ref a_cl, .ref a_te, .ref a_ki, .ref a_ty, .ref a_bl, .ref a_ex, .ref a_lo, .int v_nl, .ref a_ho, .ref a_fi, .int v_nf, .ref a_cz, .int v_nc])), (a_ru, .inl (k_ru, 410, .inl f_ru)), (a_bl, .inl (k_bl, 50, .inl f_bl)), (a_lo, .inl (k_lo, 1407, .inl f_lo)), (a_cl, .inl (k_cl, 10000, .inl f_cl)), (a_te, .inl (k_te, 10000, .inl f_te))]) [0, 1, 2, 3, 4, 5] (by decide) rfl
    have hK9 := hK.sub (tys' := [(k_ru, .int), (k_bl, .int), (k_lo, .int), (k_cl, .boolean), (k_te, .boolean)]) [0, 1, 2, 3, 4] rfl
    exact W.iret (v := 0) hx hb hr (fun t ht hW => ⟨⟨0, (), rfl, by rw [← hz, hE], by rw [ht, ← hz, hE]; exact hP9, va_K.moved hW.alike hK9, by rw [← hz, hE]; exact hD9⟩, hS.F ht⟩) hS.2.2 d_M_renew_21
  · rw [if_neg c_3] at hE
    refine lv_iload_n hx hb d_M_renew_13 rfl (lv_at hl 2 rfl) ?_
    have hPc := hP.sub (ws' := []) [] rfl
    have hKc := hK.sub (tys' := []) [] rfl
    refine vp_callSi (va_Run.run (va_runS (As := [.int p1]) (rest := []) ⟨hx, hb, hml, hown, hts⟩ (c_Mg_isDay l dC dI adK adV (p0 := p1)) (va_cwS 1 hts (gS tw_736 tw_737 tw_46 tw_738) rfl rfl rfl (by decide +kernel) ⟨(Nat.le_of_ble_eq_true rfl), (Nat.le_of_ble_eq_true rfl)⟩) ⟨fun a U g mk q => by obtain ⟨q0, qZ, qP, qK⟩ := q; exact ⟨q0, zz_call qZ, qP, va_K.moved (u := U) (U := U.calling g mk a) (Vm.Alike.refl U.vm) qK⟩, fun U hU hW => ⟨rfl, zz_ro hS hU hW hZ, by rw [hU]; exact hPc, va_K.moved hW.alike hKc⟩⟩ rfl rfl hl.1 rfl (lv_room (Nat.le_of_ble_eq_true rfl)) d_M_renew_14 ⟨(Nat.le_of_ble_eq_true rfl), (Nat.le_of_ble_eq_true rfl)⟩)) (fun r_4 hw_5 => ?_)
    clear hPc hKc
    subst hw_5
    refine lv_if_ne (tgt := 22) hx hb d_M_renew_17 (by decide) (fun c_6 => ?_) (fun c_6 => ?_)
    · rw [if_neg c_6] at hE
      refine lv_bipush (v := 7) hx hb d_M_renew_22 (by decide) ?_
      refine lv_iload_n hx hb d_M_renew_24 rfl (lv_at hl 1 rfl) ?_
      refine lv_imul hx hb d_M_renew_25 ?_
      refine lv_istore_n (lv' := [(3, .int (7 * p0)), (0, .ref a_m), (1, .int p0), (2, .int p1)]) hx hb d_M_renew_26 rfl hl (by decide) rfl (fun ls hl => ?_)
      refine lv_aload_n hx hb d_M_renew_27 rfl (lv_at hl 1 rfl) ?_
      refine va_get (D := (dC, dI)) (ci := 5) (v := .ref a_bl) (C := "LoanRulesModel") (T := Fz_M) (N := 22) hx hb hts it_M hown hK hP 0 rfl rfl 13 (by decide) (hts _ tw_614) (fun _ h9 => h9) rfl d_M_renew_28 ?_
      refine lv_iconst (v := (-1)) hx hb d_M_renew_31 (by decide) ?_
      refine lv_aload_n hx hb d_M_renew_32 rfl (lv_at hl 1 rfl) ?_
      refine va_get (D := (dC, dI)) (ci := 5) (v := .ref a_lo) (C := "LoanRulesModel") (T := Fz_M) (N := 22) hx hb hts it_M hown hK hP 0 rfl rfl 15 (by decide) (hts _ tw_616) (fun _ h9 => h9) rfl d_M_renew_33 ?_
      refine lv_iload_n hx hb d_M_renew_36 rfl (lv_at hl 0 rfl) ?_
      refine lv_bipush (v := 6) hx hb d_M_renew_37 (by decide) ?_
      refine lv_iadd hx hb d_M_renew_39 ?_
      have i_7 : vp_in ((7 * p0) + 6) 1407 := ix7 (outM c_3 hnl).1 (by decide)
      refine va_iald (D := (dC, dI)) hx hb hK hP 3 2 rfl rfl i_7 d_M_renew_40 ?_
      refine lv_isub hx hb d_M_renew_41 ?_
      have i_8 : vp_in ((-1) - (f_lo ((7 * p0) + 6).toNatClampNeg)) 50 := ix_bl (outM c_3 hnl) hl6
      refine va_iald (D := (dC, dI)) hx hb hK hP 2 1 rfl rfl i_8 d_M_renew_42 ?_
      refine lv_istore (lv' := [(4, .int (f_bl ((-1) - (f_lo ((7 * p0) + 6).toNatClampNeg)).toNatClampNeg)), (3, .int (7 * p0)), (0, .ref a_m), (1, .int p0), (2, .int p1)]) hx hb d_M_renew_43 hl (by decide) rfl (fun ls hl => ?_)
      refine lv_iload hx hb d_M_renew_45 (lv_at hl 0 rfl) ?_
      refine lv_if_le (tgt := 56) hx hb d_M_renew_47 (by decide) (fun c_9 => ?_) (fun c_9 => ?_)
      · rw [if_pos c_9] at hE
        refine lv_aload_n hx hb d_M_renew_56 rfl (lv_at hl 2 rfl) ?_
        refine va_get (D := (dC, dI)) (ci := 5) (v := .ref a_lo) (C := "LoanRulesModel") (T := Fz_M) (N := 22) hx hb hts it_M hown hK hP 0 rfl rfl 15 (by decide) (hts _ tw_616) (fun _ h9 => h9) rfl d_M_renew_57 ?_
        refine lv_iload_n hx hb d_M_renew_60 rfl (lv_at hl 1 rfl) ?_
        refine lv_iconst (v := 1) hx hb d_M_renew_61 (by decide) ?_
        refine lv_iadd hx hb d_M_renew_62 ?_
        have i_10 : vp_in ((7 * p0) + 1) 1407 := ix7 (outM c_3 hnl).1 (by decide)
        refine va_iald (D := (dC, dI)) hx hb hK hP 3 2 rfl rfl i_10 d_M_renew_63 ?_
        refine lv_istore (lv' := [(5, .int (f_lo ((7 * p0) + 1).toNatClampNeg)), (4, .int (f_bl ((-1) - (f_lo ((7 * p0) + 6).toNatClampNeg)).toNatClampNeg)), (3, .int (7 * p0)), (0, .ref a_m), (1, .int p0), (2, .int p1)]) hx hb d_M_renew_64 hl (by decide) rfl (fun ls hl => ?_)
        refine lv_aload_n hx hb d_M_renew_66 rfl (lv_at hl 3 rfl) ?_
        refine va_get (D := (dC, dI)) (ci := 5) (v := .ref a_lo) (C := "LoanRulesModel") (T := Fz_M) (N := 22) hx hb hts it_M hown hK hP 0 rfl rfl 15 (by decide) (hts _ tw_616) (fun _ h9 => h9) rfl d_M_renew_67 ?_
        refine lv_iload_n hx hb d_M_renew_70 rfl (lv_at hl 2 rfl) ?_
        refine lv_iconst (v := 3) hx hb d_M_renew_71 (by decide) ?_
        refine lv_iadd hx hb d_M_renew_72 ?_
        have i_11 : vp_in ((7 * p0) + 3) 1407 := ix7 (outM c_3 hnl).1 (by decide)
        refine va_iald (D := (dC, dI)) hx hb hK hP 3 2 rfl rfl i_11 d_M_renew_73 ?_
        refine lv_aload_n hx hb d_M_renew_74 rfl (lv_at hl 3 rfl) ?_
        refine va_get (D := (dC, dI)) (ci := 5) (v := .ref a_ru) (C := "LoanRulesModel") (T := Fz_M) (N := 22) hx hb hts it_M hown hK hP 0 rfl rfl 5 (by decide) (hts _ tw_606) (fun _ h9 => h9) rfl d_M_renew_75 ?_
        refine lv_bipush (v := 10) hx hb d_M_renew_78 (by decide) ?_
        refine lv_iload hx hb d_M_renew_80 (lv_at hl 0 rfl) ?_
        refine lv_imul hx hb d_M_renew_82 ?_
        refine lv_iconst (v := 5) hx hb d_M_renew_83 (by decide) ?_
        refine lv_iadd hx hb d_M_renew_84 ?_
        have i_12 : vp_in ((10 * (f_lo ((7 * p0) + 1).toNatClampNeg)) + 5) 410 := ix10 (r40 (hl1 _ (outM c_3 hnl).1.1 (outM c_3 hnl).2.1)) (by decide)
        refine va_iald (D := (dC, dI)) hx hb hK hP 1 0 rfl rfl i_12 d_M_renew_85 ?_
        refine lv_icmp_lt (tgt := 91) hx hb d_M_renew_86 (by decide) (fun c_13 => ?_) (fun c_13 => ?_)
        · rw [if_pos c_13] at hE
          refine lv_iload_n hx hb d_M_renew_91 rfl (lv_at hl 5 rfl) ?_
          refine lv_aload_n hx hb d_M_renew_92 rfl (lv_at hl 3 rfl) ?_
          refine va_get (D := (dC, dI)) (ci := 5) (v := .ref a_lo) (C := "LoanRulesModel") (T := Fz_M) (N := 22) hx hb hts it_M hown hK hP 0 rfl rfl 15 (by decide) (hts _ tw_616) (fun _ h9 => h9) rfl d_M_renew_93 ?_
          refine lv_iload_n hx hb d_M_renew_96 rfl (lv_at hl 2 rfl) ?_
          refine lv_iconst (v := 4) hx hb d_M_renew_97 (by decide) ?_
          refine lv_iadd hx hb d_M_renew_98 ?_
          have i_14 : vp_in ((7 * p0) + 4) 1407 := ix7 (outM c_3 hnl).1 (by decide)
          refine va_iald (D := (dC, dI)) hx hb hK hP 3 2 rfl rfl i_14 d_M_renew_99 ?_
          refine lv_aload_n hx hb d_M_renew_100 rfl (lv_at hl 3 rfl) ?_
          refine va_get (D := (dC, dI)) (ci := 5) (v := .ref a_ru) (C := "LoanRulesModel") (T := Fz_M) (N := 22) hx hb hts it_M hown hK hP 0 rfl rfl 5 (by decide) (hts _ tw_606) (fun _ h9 => h9) rfl d_M_renew_101 ?_
          refine lv_bipush (v := 10) hx hb d_M_renew_104 (by decide) ?_
          refine lv_iload hx hb d_M_renew_106 (lv_at hl 0 rfl) ?_
          refine lv_imul hx hb d_M_renew_108 ?_
          refine lv_bipush (v := 6) hx hb d_M_renew_109 (by decide) ?_
          refine lv_iadd hx hb d_M_renew_111 ?_
          have i_15 : vp_in ((10 * (f_lo ((7 * p0) + 1).toNatClampNeg)) + 6) 410 := ix10 (r40 (hl1 _ (outM c_3 hnl).1.1 (outM c_3 hnl).2.1)) (by decide)
          refine va_iald (D := (dC, dI)) hx hb hK hP 1 0 rfl rfl i_15 d_M_renew_112 ?_
          refine lv_iadd hx hb d_M_renew_113 ?_
          refine lv_icmp_ge (tgt := 120) hx hb d_M_renew_114 (by decide) (fun c_16 => ?_) (fun c_16 => ?_)
          · rw [if_pos c_16] at hE
            refine lv_aload_n hx hb d_M_renew_120 rfl (lv_at hl 3 rfl) ?_
            refine va_get (D := (dC, dI)) (ci := 5) (v := .ref a_lo) (C := "LoanRulesModel") (T := Fz_M) (N := 22) hx hb hts it_M hown hK hP 0 rfl rfl 15 (by decide) (hts _ tw_616) (fun _ h9 => h9) rfl d_M_renew_121 ?_
            refine lv_iload_n hx hb d_M_renew_124 rfl (lv_at hl 2 rfl) ?_
            refine lv_iconst (v := 5) hx hb d_M_renew_125 (by decide) ?_
            refine lv_iadd hx hb d_M_renew_126 ?_
            have i_17 : vp_in ((7 * p0) + 5) 1407 := ix7 (outM c_3 hnl).1 (by decide)
            refine va_iald (D := (dC, dI)) hx hb hK hP 3 2 rfl rfl i_17 d_M_renew_127 ?_
            refine lv_iconst (v := 1) hx hb d_M_renew_128 (by decide) ?_
            refine lv_icmp_ne (tgt := 135) hx hb d_M_renew_129 (by decide) (fun c_18 => ?_) (fun c_18 => ?_)
            · rw [if_neg c_18] at hE
              refine lv_aload_n hx hb d_M_renew_135 rfl (lv_at hl 3 rfl) ?_
              refine lv_iload hx hb d_M_renew_136 (lv_at hl 0 rfl) ?_
              refine lv_iload_n hx hb d_M_renew_138 rfl (lv_at hl 5 rfl) ?_
              have hPc := hP.sub (ws' := [(a_m, .inr (5, [.int 0, .ref a_sa, .int v_sz, .int v_at, .int v_wr, .ref a_ru, .ref a_me, .ref a_le, .int v_n, .ref a_cl, .ref a_te, .ref a_ki, .ref a_ty, .ref a_bl, .ref a_ex, .ref a_lo, .int v_nl, .ref a_ho, .ref a_fi, .int v_nf, .ref a_cz, .int v_nc])), (a_ru, .inl (k_ru, 410, .inl f_ru)), (a_cl, .inl (k_cl, 10000, .inl f_cl)), (a_te, .inl (k_te, 10000, .inl f_te))]) [0, 1, 4, 5] rfl
              have hKc := hK.sub (tys' := [(k_ru, .int), (k_cl, .boolean), (k_te, .boolean)]) [0, 3, 4] rfl
              refine vp_callSi (va_Run.run (va_runV (As := [.int (f_lo ((7 * p0) + 1).toNatClampNeg), .int p1]) (rest := []) ⟨hx, hb, hml, hown, hts⟩ (c_Mg_dueOf l dC dI adK adV (a_m := a_m) (p0 := f_lo ((7 * p0) + 1).toNatClampNeg) (p1 := p1) (v_th := 0) (a_sa := a_sa) (v_sz := v_sz) (v_at := v_at) (v_wr := v_wr) (a_ru := a_ru) (a_me := a_me) (a_le := a_le) (v_n := v_n) (a_cl := a_cl) (a_te := a_te) (a_ki := a_ki) (a_ty := a_ty) (a_bl := a_bl) (a_ex := a_ex) (a_lo := a_lo) (v_nl := v_nl) (a_ho := a_ho) (a_fi := a_fi) (v_nf := v_nf) (a_cz := a_cz) (v_nc := v_nc) (k_ru := k_ru) (f_ru := f_ru) (k_cl := k_cl) (f_cl := f_cl) (k_te := k_te) (f_te := f_te) (hl1 _ (outM c_3 hnl).1.1 (outM c_3 hnl).2.1) (dayM c_6) hr4) (cwV 2 hts (gV tw_782 tw_784 tw_38 tw_46 tw_785) rfl rfl rfl (by decide +kernel) ⟨(Nat.le_of_ble_eq_true rfl), (Nat.le_of_ble_eq_true rfl)⟩) ⟨fun a U g mk q => by obtain ⟨q0, qZ, qP, qK⟩ := q; exact ⟨q0, zz_call qZ, qP, va_K.moved (u := U) (U := U.calling g mk a) (Vm.Alike.refl U.vm) qK⟩, va_recv hKc hPc (ci := 5) (q0 := 0) rfl rfl, fun U hU hW => ⟨rfl, zz_ro hS hU hW hZ, by rw [hU]; exact hPc, va_K.moved hW.alike hKc⟩⟩ rfl rfl hl.1 rfl (lv_room (Nat.le_of_ble_eq_true rfl)) d_M_renew_139 ⟨(Nat.le_of_ble_eq_true rfl), (Nat.le_of_ble_eq_true rfl)⟩)) (fun r_19 hw_20 => ?_)
              clear hPc hKc
              subst hw_20
              refine lv_istore (lv' := [(6, .int (g_Mg_dueOf (f_lo ((7 * p0) + 1).toNatClampNeg) p1 f_ru f_cl f_te)), (5, .int (f_lo ((7 * p0) + 1).toNatClampNeg)), (4, .int (f_bl ((-1) - (f_lo ((7 * p0) + 6).toNatClampNeg)).toNatClampNeg)), (3, .int (7 * p0)), (0, .ref a_m), (1, .int p0), (2, .int p1)]) hx hb d_M_renew_142 hl (by decide) rfl (fun ls hl => ?_)
              refine lv_iload hx hb d_M_renew_144 (lv_at hl 0 rfl) ?_
              refine lv_iconst (v := (-1)) hx hb d_M_renew_146 (by decide) ?_
              refine lv_icmp_ne (tgt := 153) hx hb d_M_renew_147 (by decide) (fun c_21 => ?_) (fun c_21 => ?_)
              · rw [if_neg c_21] at hE
                refine lv_aload_n hx hb d_M_renew_153 rfl (lv_at hl 4 rfl) ?_
                refine va_get (D := (dC, dI)) (ci := 5) (v := .ref a_lo) (C := "LoanRulesModel") (T := Fz_M) (N := 22) hx hb hts it_M hown hK hP 0 rfl rfl 15 (by decide) (hts _ tw_616) (fun _ h9 => h9) rfl d_M_renew_154 ?_
                refine lv_iload_n hx hb d_M_renew_157 rfl (lv_at hl 3 rfl) ?_
                refine lv_iconst (v := 2) hx hb d_M_renew_158 (by decide) ?_
                refine lv_iadd hx hb d_M_renew_159 ?_
                refine lv_iload hx hb d_M_renew_160 (lv_at hl 0 rfl) ?_
                refine lv_aload_n hx hb d_M_renew_162 rfl (lv_at hl 4 rfl) ?_
                refine va_get (D := (dC, dI)) (ci := 5) (v := .ref a_lo) (C := "LoanRulesModel") (T := Fz_M) (N := 22) hx hb hts it_M hown hK hP 0 rfl rfl 15 (by decide) (hts _ tw_616) (fun _ h9 => h9) rfl d_M_renew_163 ?_
                refine lv_iload_n hx hb d_M_renew_166 rfl (lv_at hl 3 rfl) ?_
                refine lv_iconst (v := 2) hx hb d_M_renew_167 (by decide) ?_
                refine lv_iadd hx hb d_M_renew_168 ?_
                have i_22 : vp_in ((7 * p0) + 2) 1407 := ix7 (outM c_3 hnl).1 (by decide)
                refine va_iald (D := (dC, dI)) hx hb hK hP 3 2 rfl rfl i_22 d_M_renew_169 ?_
                refine lv_icmp_le (tgt := 178) hx hb d_M_renew_170 (by decide) (fun c_23 => ?_) (fun c_23 => ?_)
                · rw [if_pos c_23] at hE
                  refine lv_aload_n hx hb d_M_renew_178 rfl (lv_at hl 4 rfl) ?_
                  refine va_get (D := (dC, dI)) (ci := 5) (v := .ref a_lo) (C := "LoanRulesModel") (T := Fz_M) (N := 22) hx hb hts it_M hown hK hP 0 rfl rfl 15 (by decide) (hts _ tw_616) (fun _ h9 => h9) rfl d_M_renew_179 ?_
                  refine lv_iload_n hx hb d_M_renew_182 rfl (lv_at hl 3 rfl) ?_
                  refine lv_iconst (v := 2) hx hb d_M_renew_183 (by decide) ?_
                  refine lv_iadd hx hb d_M_renew_184 ?_
                  have i_24 : vp_in ((7 * p0) + 2) 1407 := ix7 (outM c_3 hnl).1 (by decide)
                  refine va_iald (D := (dC, dI)) hx hb hK hP 3 2 rfl rfl i_24 d_M_renew_185 ?_
                  have i_25 : vp_in ((7 * p0) + 2) 1407 := ix7 (outM c_3 hnl).1 (by decide)
                  refine va_iast (D := (dC, dI)) hx hb hK hP hD hS 3 2 rfl rfl i_25 d_M_renew_186 (fun H locs hP hD hS => ?_)
                  replace hP : va_P (dC, dI) vwCl [(a_m, .inr (5, [.int 0, .ref a_sa, .int v_sz, .int v_at, .int v_wr, .ref a_ru, .ref a_me, .ref a_le, .int v_n, .ref a_cl, .ref a_te, .ref a_ki, .ref a_ty, .ref a_bl, .ref a_ex, .ref a_lo, .int v_nl, .ref a_ho, .ref a_fi, .int v_nf, .ref a_cz, .int v_nc])), (a_ru, .inl (k_ru, 410, .inl f_ru)), (a_bl, .inl (k_bl, 50, .inl f_bl)), (a_lo, .inl (k_lo, 1407, .inl (upd f_lo ((7 * p0) + 2).toNatClampNeg (f_lo ((7 * p0) + 2).toNatClampNeg)))), (a_cl, .inl (k_cl, 10000, .inl f_cl)), (a_te, .inl (k_te, 10000, .inl f_te))] H := hP
                  replace hD : va_D A [(a_m, .inr (5, [.int 0, .ref a_sa, .int v_sz, .int v_at, .int v_wr, .ref a_ru, .ref a_me, .ref a_le, .int v_n, .ref a_cl, .ref a_te, .ref a_ki, .ref a_ty, .ref a_bl, .ref a_ex, .ref a_lo, .int v_nl, .ref a_ho, .ref a_fi, .int v_nf, .ref a_cz, .int v_nc])), (a_ru, .inl (k_ru, 410, .inl f_ru)), (a_bl, .inl (k_bl, 50, .inl f_bl)), (a_lo, .inl (k_lo, 1407, .inl (upd f_lo ((7 * p0) + 2).toNatClampNeg (f_lo ((7 * p0) + 2).toNatClampNeg)))), (a_cl, .inl (k_cl, 10000, .inl f_cl)), (a_te, .inl (k_te, 10000, .inl f_te))] := hD
                  refine lv_aload_n hx hb d_M_renew_187 rfl (lv_at hl 4 rfl) ?_
                  refine va_get (D := (dC, dI)) (ci := 5) (v := .ref a_lo) (C := "LoanRulesModel") (T := Fz_M) (N := 22) hx hb hts it_M hown hK hP 0 rfl rfl 15 (by decide) (hts _ tw_616) (fun _ h9 => h9) rfl d_M_renew_188 ?_
                  refine lv_iload_n hx hb d_M_renew_191 rfl (lv_at hl 3 rfl) ?_
                  refine lv_iconst (v := 3) hx hb d_M_renew_192 (by decide) ?_
                  refine lv_iadd hx hb d_M_renew_193 ?_
                  refine lv_dup2_11 hx hb d_M_renew_194 rfl rfl ?_
                  have i_26 : vp_in ((7 * p0) + 3) 1407 := ix7 (outM c_3 hnl).1 (by decide)
                  refine va_iald (D := (dC, dI)) hx hb hK hP 3 2 rfl rfl i_26 d_M_renew_195 ?_
                  refine lv_iconst (v := 1) hx hb d_M_renew_196 (by decide) ?_
                  refine lv_iadd hx hb d_M_renew_197 ?_
                  have i_27 : vp_in ((7 * p0) + 3) 1407 := ix7 (outM c_3 hnl).1 (by decide)
                  refine va_iast (D := (dC, dI)) hx hb hK hP hD hS 3 2 rfl rfl i_27 d_M_renew_198 (fun H locs hP hD hS => ?_)
                  replace hP : va_P (dC, dI) vwCl [(a_m, .inr (5, [.int 0, .ref a_sa, .int v_sz, .int v_at, .int v_wr, .ref a_ru, .ref a_me, .ref a_le, .int v_n, .ref a_cl, .ref a_te, .ref a_ki, .ref a_ty, .ref a_bl, .ref a_ex, .ref a_lo, .int v_nl, .ref a_ho, .ref a_fi, .int v_nf, .ref a_cz, .int v_nc])), (a_ru, .inl (k_ru, 410, .inl f_ru)), (a_bl, .inl (k_bl, 50, .inl f_bl)), (a_lo, .inl (k_lo, 1407, .inl (upd (upd f_lo ((7 * p0) + 2).toNatClampNeg (f_lo ((7 * p0) + 2).toNatClampNeg)) ((7 * p0) + 3).toNatClampNeg (((upd f_lo ((7 * p0) + 2).toNatClampNeg (f_lo ((7 * p0) + 2).toNatClampNeg)) ((7 * p0) + 3).toNatClampNeg) + 1)))), (a_cl, .inl (k_cl, 10000, .inl f_cl)), (a_te, .inl (k_te, 10000, .inl f_te))] H := hP
                  replace hD : va_D A [(a_m, .inr (5, [.int 0, .ref a_sa, .int v_sz, .int v_at, .int v_wr, .ref a_ru, .ref a_me, .ref a_le, .int v_n, .ref a_cl, .ref a_te, .ref a_ki, .ref a_ty, .ref a_bl, .ref a_ex, .ref a_lo, .int v_nl, .ref a_ho, .ref a_fi, .int v_nf, .ref a_cz, .int v_nc])), (a_ru, .inl (k_ru, 410, .inl f_ru)), (a_bl, .inl (k_bl, 50, .inl f_bl)), (a_lo, .inl (k_lo, 1407, .inl (upd (upd f_lo ((7 * p0) + 2).toNatClampNeg (f_lo ((7 * p0) + 2).toNatClampNeg)) ((7 * p0) + 3).toNatClampNeg (((upd f_lo ((7 * p0) + 2).toNatClampNeg (f_lo ((7 * p0) + 2).toNatClampNeg)) ((7 * p0) + 3).toNatClampNeg) + 1)))), (a_cl, .inl (k_cl, 10000, .inl f_cl)), (a_te, .inl (k_te, 10000, .inl f_te))] := hD
                  refine lv_aload_n hx hb d_M_renew_199 rfl (lv_at hl 4 rfl) ?_
                  refine va_get (D := (dC, dI)) (ci := 5) (v := .ref a_lo) (C := "LoanRulesModel") (T := Fz_M) (N := 22) hx hb hts it_M hown hK hP 0 rfl rfl 15 (by decide) (hts _ tw_616) (fun _ h9 => h9) rfl d_M_renew_200 ?_
                  refine lv_iload_n hx hb d_M_renew_203 rfl (lv_at hl 3 rfl) ?_
                  refine lv_iconst (v := 4) hx hb d_M_renew_204 (by decide) ?_
                  refine lv_iadd hx hb d_M_renew_205 ?_
                  refine lv_iload_n hx hb d_M_renew_206 rfl (lv_at hl 6 rfl) ?_
                  have i_28 : vp_in ((7 * p0) + 4) 1407 := ix7 (outM c_3 hnl).1 (by decide)
                  refine va_iast (D := (dC, dI)) hx hb hK hP hD hS 3 2 rfl rfl i_28 d_M_renew_207 (fun H locs hP hD hS => ?_)
                  replace hP : va_P (dC, dI) vwCl [(a_m, .inr (5, [.int 0, .ref a_sa, .int v_sz, .int v_at, .int v_wr, .ref a_ru, .ref a_me, .ref a_le, .int v_n, .ref a_cl, .ref a_te, .ref a_ki, .ref a_ty, .ref a_bl, .ref a_ex, .ref a_lo, .int v_nl, .ref a_ho, .ref a_fi, .int v_nf, .ref a_cz, .int v_nc])), (a_ru, .inl (k_ru, 410, .inl f_ru)), (a_bl, .inl (k_bl, 50, .inl f_bl)), (a_lo, .inl (k_lo, 1407, .inl (upd (upd (upd f_lo ((7 * p0) + 2).toNatClampNeg (f_lo ((7 * p0) + 2).toNatClampNeg)) ((7 * p0) + 3).toNatClampNeg (((upd f_lo ((7 * p0) + 2).toNatClampNeg (f_lo ((7 * p0) + 2).toNatClampNeg)) ((7 * p0) + 3).toNatClampNeg) + 1)) ((7 * p0) + 4).toNatClampNeg p1))), (a_cl, .inl (k_cl, 10000, .inl f_cl)), (a_te, .inl (k_te, 10000, .inl f_te))] H := hP
                  replace hD : va_D A [(a_m, .inr (5, [.int 0, .ref a_sa, .int v_sz, .int v_at, .int v_wr, .ref a_ru, .ref a_me, .ref a_le, .int v_n, .ref a_cl, .ref a_te, .ref a_ki, .ref a_ty, .ref a_bl, .ref a_ex, .ref a_lo, .int v_nl, .ref a_ho, .ref a_fi, .int v_nf, .ref a_cz, .int v_nc])), (a_ru, .inl (k_ru, 410, .inl f_ru)), (a_bl, .inl (k_bl, 50, .inl f_bl)), (a_lo, .inl (k_lo, 1407, .inl (upd (upd (upd f_lo ((7 * p0) + 2).toNatClampNeg (f_lo ((7 * p0) + 2).toNatClampNeg)) ((7 * p0) + 3).toNatClampNeg (((upd f_lo ((7 * p0) + 2).toNatClampNeg (f_lo ((7 * p0) + 2).toNatClampNeg)) ((7 * p0) + 3).toNatClampNeg) + 1)) ((7 * p0) + 4).toNatClampNeg p1))), (a_cl, .inl (k_cl, 10000, .inl f_cl)), (a_te, .inl (k_te, 10000, .inl f_te))] := hD
                  refine lv_iconst (v := 1) hx hb d_M_renew_208 (by decide) ?_
                  have hP9 := hP.sub (ws' := [(a_m, .inr (5, [.int 0, .ref a_sa, .int v_sz, .int v_at, .int v_wr, .ref a_ru, .ref a_me, .ref a_le, .int v_n, .ref a_cl, .ref a_te, .ref a_ki, .ref a_ty, .ref a_bl, .ref a_ex, .ref a_lo, .int v_nl, .ref a_ho, .ref a_fi, .int v_nf, .ref a_cz, .int v_nc])), (a_ru, .inl (k_ru, 410, .inl f_ru)), (a_bl, .inl (k_bl, 50, .inl f_bl)), (a_lo, .inl (k_lo, 1407, .inl (upd (upd (upd f_lo ((7 * p0) + 2).toNatClampNeg (f_lo ((7 * p0) + 2).toNatClampNeg)) ((7 * p0) + 3).toNatClampNeg (((upd f_lo ((7 * p0) + 2).toNatClampNeg (f_lo ((7 * p0) + 2).toNatClampNeg)) ((7 * p0) + 3).toNatClampNeg) + 1)) ((7 * p0) + 4).toNatClampNeg p1))), (a_cl, .inl (k_cl, 10000, .inl f_cl)), (a_te, .inl (k_te, 10000, .inl f_te))]) [0, 1, 2, 3, 4, 5] rfl
                  have hD9 := hD.sub (ws' := [(a_m, .inr (5, [.int 0, .ref a_sa, .int v_sz, .int v_at, .int v_wr, .ref a_ru, .ref a_me, .ref a_le, .int v_n, .ref a_cl, .ref a_te, .ref a_ki, .ref a_ty, .ref a_bl, .ref a_ex, .ref a_lo, .int v_nl, .ref a_ho, .ref a_fi, .int v_nf, .ref a_cz, .int v_nc])), (a_ru, .inl (k_ru, 410, .inl f_ru)), (a_bl, .inl (k_bl, 50, .inl f_bl)), (a_lo, .inl (k_lo, 1407, .inl (upd (upd (upd f_lo ((7 * p0) + 2).toNatClampNeg (f_lo ((7 * p0) + 2).toNatClampNeg)) ((7 * p0) + 3).toNatClampNeg (((upd f_lo ((7 * p0) + 2).toNatClampNeg (f_lo ((7 * p0) + 2).toNatClampNeg)) ((7 * p0) + 3).toNatClampNeg) + 1)) ((7 * p0) + 4).toNatClampNeg p1))), (a_cl, .inl (k_cl, 10000, .inl f_cl)), (a_te, .inl (k_te, 10000, .inl f_te))]) [0, 1, 2, 3, 4, 5] (by decide) rfl
                  have hK9 := hK.sub (tys' := [(k_ru, .int), (k_bl, .int), (k_lo, .int), (k_cl, .boolean), (k_te, .boolean)]) [0, 1, 2, 3, 4] rfl
                  exact W.iret (v := 1) hx hb hr (fun t ht hW => ⟨⟨1, (), rfl, by rw [← hz, hE], by rw [ht, ← hz, hE]; exact hP9, va_K.moved hW.alike hK9, by rw [← hz, hE]; exact hD9⟩, hS.F ht⟩) hS.2.2 d_M_renew_209
                · rw [if_neg c_23] at hE
                  refine lv_iload hx hb d_M_renew_173 (lv_at hl 0 rfl) ?_
                  refine lv_goto (tgt := 186) hx hb d_M_renew_175 (by decide) ?_
                  have i_29 : vp_in ((7 * p0) + 2) 1407 := ix7 (outM c_3 hnl).1 (by decide)
                  refine va_iast (D := (dC, dI)) hx hb hK hP hD hS 3 2 rfl rfl i_29 d_M_renew_186 (fun H locs hP hD hS => ?_)
                  replace hP : va_P (dC, dI) vwCl [(a_m, .inr (5, [.int 0, .ref a_sa, .int v_sz, .int v_at, .int v_wr, .ref a_ru, .ref a_me, .ref a_le, .int v_n, .ref a_cl, .ref a_te, .ref a_ki, .ref a_ty, .ref a_bl, .ref a_ex, .ref a_lo, .int v_nl, .ref a_ho, .ref a_fi, .int v_nf, .ref a_cz, .int v_nc])), (a_ru, .inl (k_ru, 410, .inl f_ru)), (a_bl, .inl (k_bl, 50, .inl f_bl)), (a_lo, .inl (k_lo, 1407, .inl (upd f_lo ((7 * p0) + 2).toNatClampNeg (g_Mg_dueOf (f_lo ((7 * p0) + 1).toNatClampNeg) p1 f_ru f_cl f_te)))), (a_cl, .inl (k_cl, 10000, .inl f_cl)), (a_te, .inl (k_te, 10000, .inl f_te))] H := hP
                  replace hD : va_D A [(a_m, .inr (5, [.int 0, .ref a_sa, .int v_sz, .int v_at, .int v_wr, .ref a_ru, .ref a_me, .ref a_le, .int v_n, .ref a_cl, .ref a_te, .ref a_ki, .ref a_ty, .ref a_bl, .ref a_ex, .ref a_lo, .int v_nl, .ref a_ho, .ref a_fi, .int v_nf, .ref a_cz, .int v_nc])), (a_ru, .inl (k_ru, 410, .inl f_ru)), (a_bl, .inl (k_bl, 50, .inl f_bl)), (a_lo, .inl (k_lo, 1407, .inl (upd f_lo ((7 * p0) + 2).toNatClampNeg (g_Mg_dueOf (f_lo ((7 * p0) + 1).toNatClampNeg) p1 f_ru f_cl f_te)))), (a_cl, .inl (k_cl, 10000, .inl f_cl)), (a_te, .inl (k_te, 10000, .inl f_te))] := hD
                  refine lv_aload_n hx hb d_M_renew_187 rfl (lv_at hl 4 rfl) ?_
                  refine va_get (D := (dC, dI)) (ci := 5) (v := .ref a_lo) (C := "LoanRulesModel") (T := Fz_M) (N := 22) hx hb hts it_M hown hK hP 0 rfl rfl 15 (by decide) (hts _ tw_616) (fun _ h9 => h9) rfl d_M_renew_188 ?_
                  refine lv_iload_n hx hb d_M_renew_191 rfl (lv_at hl 3 rfl) ?_
                  refine lv_iconst (v := 3) hx hb d_M_renew_192 (by decide) ?_
                  refine lv_iadd hx hb d_M_renew_193 ?_
                  refine lv_dup2_11 hx hb d_M_renew_194 rfl rfl ?_
                  have i_30 : vp_in ((7 * p0) + 3) 1407 := ix7 (outM c_3 hnl).1 (by decide)
                  refine va_iald (D := (dC, dI)) hx hb hK hP 3 2 rfl rfl i_30 d_M_renew_195 ?_
                  refine lv_iconst (v := 1) hx hb d_M_renew_196 (by decide) ?_
                  refine lv_iadd hx hb d_M_renew_197 ?_
                  have i_31 : vp_in ((7 * p0) + 3) 1407 := ix7 (outM c_3 hnl).1 (by decide)
                  refine va_iast (D := (dC, dI)) hx hb hK hP hD hS 3 2 rfl rfl i_31 d_M_renew_198 (fun H locs hP hD hS => ?_)
                  replace hP : va_P (dC, dI) vwCl [(a_m, .inr (5, [.int 0, .ref a_sa, .int v_sz, .int v_at, .int v_wr, .ref a_ru, .ref a_me, .ref a_le, .int v_n, .ref a_cl, .ref a_te, .ref a_ki, .ref a_ty, .ref a_bl, .ref a_ex, .ref a_lo, .int v_nl, .ref a_ho, .ref a_fi, .int v_nf, .ref a_cz, .int v_nc])), (a_ru, .inl (k_ru, 410, .inl f_ru)), (a_bl, .inl (k_bl, 50, .inl f_bl)), (a_lo, .inl (k_lo, 1407, .inl (upd (upd f_lo ((7 * p0) + 2).toNatClampNeg (g_Mg_dueOf (f_lo ((7 * p0) + 1).toNatClampNeg) p1 f_ru f_cl f_te)) ((7 * p0) + 3).toNatClampNeg (((upd f_lo ((7 * p0) + 2).toNatClampNeg (g_Mg_dueOf (f_lo ((7 * p0) + 1).toNatClampNeg) p1 f_ru f_cl f_te)) ((7 * p0) + 3).toNatClampNeg) + 1)))), (a_cl, .inl (k_cl, 10000, .inl f_cl)), (a_te, .inl (k_te, 10000, .inl f_te))] H := hP
                  replace hD : va_D A [(a_m, .inr (5, [.int 0, .ref a_sa, .int v_sz, .int v_at, .int v_wr, .ref a_ru, .ref a_me, .ref a_le, .int v_n, .ref a_cl, .ref a_te, .ref a_ki, .ref a_ty, .ref a_bl, .ref a_ex, .ref a_lo, .int v_nl, .ref a_ho, .ref a_fi, .int v_nf, .ref a_cz, .int v_nc])), (a_ru, .inl (k_ru, 410, .inl f_ru)), (a_bl, .inl (k_bl, 50, .inl f_bl)), (a_lo, .inl (k_lo, 1407, .inl (upd (upd f_lo ((7 * p0) + 2).toNatClampNeg (g_Mg_dueOf (f_lo ((7 * p0) + 1).toNatClampNeg) p1 f_ru f_cl f_te)) ((7 * p0) + 3).toNatClampNeg (((upd f_lo ((7 * p0) + 2).toNatClampNeg (g_Mg_dueOf (f_lo ((7 * p0) + 1).toNatClampNeg) p1 f_ru f_cl f_te)) ((7 * p0) + 3).toNatClampNeg) + 1)))), (a_cl, .inl (k_cl, 10000, .inl f_cl)), (a_te, .inl (k_te, 10000, .inl f_te))] := hD
                  refine lv_aload_n hx hb d_M_renew_199 rfl (lv_at hl 4 rfl) ?_
                  refine va_get (D := (dC, dI)) (ci := 5) (v := .ref a_lo) (C := "LoanRulesModel") (T := Fz_M) (N := 22) hx hb hts it_M hown hK hP 0 rfl rfl 15 (by decide) (hts _ tw_616) (fun _ h9 => h9) rfl d_M_renew_200 ?_
                  refine lv_iload_n hx hb d_M_renew_203 rfl (lv_at hl 3 rfl) ?_
                  refine lv_iconst (v := 4) hx hb d_M_renew_204 (by decide) ?_
                  refine lv_iadd hx hb d_M_renew_205 ?_
                  refine lv_iload_n hx hb d_M_renew_206 rfl (lv_at hl 6 rfl) ?_
                  have i_32 : vp_in ((7 * p0) + 4) 1407 := ix7 (outM c_3 hnl).1 (by decide)
                  refine va_iast (D := (dC, dI)) hx hb hK hP hD hS 3 2 rfl rfl i_32 d_M_renew_207 (fun H locs hP hD hS => ?_)
                  replace hP : va_P (dC, dI) vwCl [(a_m, .inr (5, [.int 0, .ref a_sa, .int v_sz, .int v_at, .int v_wr, .ref a_ru, .ref a_me, .ref a_le, .int v_n, .ref a_cl, .ref a_te, .ref a_ki, .ref a_ty, .ref a_bl, .ref a_ex, .ref a_lo, .int v_nl, .ref a_ho, .ref a_fi, .int v_nf, .ref a_cz, .int v_nc])), (a_ru, .inl (k_ru, 410, .inl f_ru)), (a_bl, .inl (k_bl, 50, .inl f_bl)), (a_lo, .inl (k_lo, 1407, .inl (upd (upd (upd f_lo ((7 * p0) + 2).toNatClampNeg (g_Mg_dueOf (f_lo ((7 * p0) + 1).toNatClampNeg) p1 f_ru f_cl f_te)) ((7 * p0) + 3).toNatClampNeg (((upd f_lo ((7 * p0) + 2).toNatClampNeg (g_Mg_dueOf (f_lo ((7 * p0) + 1).toNatClampNeg) p1 f_ru f_cl f_te)) ((7 * p0) + 3).toNatClampNeg) + 1)) ((7 * p0) + 4).toNatClampNeg p1))), (a_cl, .inl (k_cl, 10000, .inl f_cl)), (a_te, .inl (k_te, 10000, .inl f_te))] H := hP
                  replace hD : va_D A [(a_m, .inr (5, [.int 0, .ref a_sa, .int v_sz, .int v_at, .int v_wr, .ref a_ru, .ref a_me, .ref a_le, .int v_n, .ref a_cl, .ref a_te, .ref a_ki, .ref a_ty, .ref a_bl, .ref a_ex, .ref a_lo, .int v_nl, .ref a_ho, .ref a_fi, .int v_nf, .ref a_cz, .int v_nc])), (a_ru, .inl (k_ru, 410, .inl f_ru)), (a_bl, .inl (k_bl, 50, .inl f_bl)), (a_lo, .inl (k_lo, 1407, .inl (upd (upd (upd f_lo ((7 * p0) + 2).toNatClampNeg (g_Mg_dueOf (f_lo ((7 * p0) + 1).toNatClampNeg) p1 f_ru f_cl f_te)) ((7 * p0) + 3).toNatClampNeg (((upd f_lo ((7 * p0) + 2).toNatClampNeg (g_Mg_dueOf (f_lo ((7 * p0) + 1).toNatClampNeg) p1 f_ru f_cl f_te)) ((7 * p0) + 3).toNatClampNeg) + 1)) ((7 * p0) + 4).toNatClampNeg p1))), (a_cl, .inl (k_cl, 10000, .inl f_cl)), (a_te, .inl (k_te, 10000, .inl f_te))] := hD
                  refine lv_iconst (v := 1) hx hb d_M_renew_208 (by decide) ?_
                  have hP9 := hP.sub (ws' := [(a_m, .inr (5, [.int 0, .ref a_sa, .int v_sz, .int v_at, .int v_wr, .ref a_ru, .ref a_me, .ref a_le, .int v_n, .ref a_cl, .ref a_te, .ref a_ki, .ref a_ty, .ref a_bl, .ref a_ex, .ref a_lo, .int v_nl, .ref a_ho, .ref a_fi, .int v_nf, .ref a_cz, .int v_nc])), (a_ru, .inl (k_ru, 410, .inl f_ru)), (a_bl, .inl (k_bl, 50, .inl f_bl)), (a_lo, .inl (k_lo, 1407, .inl (upd (upd (upd f_lo ((7 * p0) + 2).toNatClampNeg (g_Mg_dueOf (f_lo ((7 * p0) + 1).toNatClampNeg) p1 f_ru f_cl f_te)) ((7 * p0) + 3).toNatClampNeg (((upd f_lo ((7 * p0) + 2).toNatClampNeg (g_Mg_dueOf (f_lo ((7 * p0) + 1).toNatClampNeg) p1 f_ru f_cl f_te)) ((7 * p0) + 3).toNatClampNeg) + 1)) ((7 * p0) + 4).toNatClampNeg p1))), (a_cl, .inl (k_cl, 10000, .inl f_cl)), (a_te, .inl (k_te, 10000, .inl f_te))]) [0, 1, 2, 3, 4, 5] rfl
                  have hD9 := hD.sub (ws' := [(a_m, .inr (5, [.int 0, .ref a_sa, .int v_sz, .int v_at, .int v_wr, .ref a_ru, .ref a_me, .ref a_le, .int v_n, .ref a_cl, .ref a_te, .ref a_ki, .ref a_ty, .ref a_bl, .ref a_ex, .ref a_lo, .int v_nl, .ref a_ho, .ref a_fi, .int v_nf, .ref a_cz, .int v_nc])), (a_ru, .inl (k_ru, 410, .inl f_ru)), (a_bl, .inl (k_bl, 50, .inl f_bl)), (a_lo, .inl (k_lo, 1407, .inl (upd (upd (upd f_lo ((7 * p0) + 2).toNatClampNeg (g_Mg_dueOf (f_lo ((7 * p0) + 1).toNatClampNeg) p1 f_ru f_cl f_te)) ((7 * p0) + 3).toNatClampNeg (((upd f_lo ((7 * p0) + 2).toNatClampNeg (g_Mg_dueOf (f_lo ((7 * p0) + 1).toNatClampNeg) p1 f_ru f_cl f_te)) ((7 * p0) + 3).toNatClampNeg) + 1)) ((7 * p0) + 4).toNatClampNeg p1))), (a_cl, .inl (k_cl, 10000, .inl f_cl)), (a_te, .inl (k_te, 10000, .inl f_te))]) [0, 1, 2, 3, 4, 5] (by decide) rfl
                  have hK9 := hK.sub (tys' := [(k_ru, .int), (k_bl, .int), (k_lo, .int), (k_cl, .boolean), (k_te, .boolean)]) [0, 1, 2, 3, 4] rfl
                  exact W.iret (v := 1) hx hb hr (fun t ht hW => ⟨⟨1, (), rfl, by rw [← hz, hE], by rw [ht, ← hz, hE]; exact hP9, va_K.moved hW.alike hK9, by rw [← hz, hE]; exact hD9⟩, hS.F ht⟩) hS.2.2 d_M_renew_209
              · rw [if_pos c_21] at hE
                refine lv_bipush (v := (-4)) hx hb d_M_renew_150 (by decide) ?_
                have hP9 := hP.sub (ws' := [(a_m, .inr (5, [.int 0, .ref a_sa, .int v_sz, .int v_at, .int v_wr, .ref a_ru, .ref a_me, .ref a_le, .int v_n, .ref a_cl, .ref a_te, .ref a_ki, .ref a_ty, .ref a_bl, .ref a_ex, .ref a_lo, .int v_nl, .ref a_ho, .ref a_fi, .int v_nf, .ref a_cz, .int v_nc])), (a_ru, .inl (k_ru, 410, .inl f_ru)), (a_bl, .inl (k_bl, 50, .inl f_bl)), (a_lo, .inl (k_lo, 1407, .inl f_lo)), (a_cl, .inl (k_cl, 10000, .inl f_cl)), (a_te, .inl (k_te, 10000, .inl f_te))]) [0, 1, 2, 3, 4, 5] rfl
                have hD9 := hD.sub (ws' := [(a_m, .inr (5, [.int 0, .ref a_sa, .int v_sz, .int v_at, .int v_wr, .ref a_ru, .ref a_me, .ref a_le, .int v_n, .ref a_cl, .ref a_te, .ref a_ki, .ref a_ty, .ref a_bl, .ref a_ex, .ref a_lo, .int v_nl, .ref a_ho, .ref a_fi, .int v_nf, .ref a_cz, .int v_nc])), (a_ru, .inl (k_ru, 410, .inl f_ru)), (a_bl, .inl (k_bl, 50, .inl f_bl)), (a_lo, .inl (k_lo, 1407, .inl f_lo)), (a_cl, .inl (k_cl, 10000, .inl f_cl)), (a_te, .inl (k_te, 10000, .inl f_te))]) [0, 1, 2, 3, 4, 5] (by decide) rfl
                have hK9 := hK.sub (tys' := [(k_ru, .int), (k_bl, .int), (k_lo, .int), (k_cl, .boolean), (k_te, .boolean)]) [0, 1, 2, 3, 4] rfl
                exact W.iret (v := (-4)) hx hb hr (fun t ht hW => ⟨⟨(-4), (), rfl, by rw [← hz, hE], by rw [ht, ← hz, hE]; exact hP9, va_K.moved hW.alike hK9, by rw [← hz, hE]; exact hD9⟩, hS.F ht⟩) hS.2.2 d_M_renew_152
            · rw [if_pos c_18] at hE
              refine lv_bipush (v := (-3)) hx hb d_M_renew_132 (by decide) ?_
              have hP9 := hP.sub (ws' := [(a_m, .inr (5, [.int 0, .ref a_sa, .int v_sz, .int v_at, .int v_wr, .ref a_ru, .ref a_me, .ref a_le, .int v_n, .ref a_cl, .ref a_te, .ref a_ki, .ref a_ty, .ref a_bl, .ref a_ex, .ref a_lo, .int v_nl, .ref a_ho, .ref a_fi, .int v_nf, .ref a_cz, .int v_nc])), (a_ru, .inl (k_ru, 410, .inl f_ru)), (a_bl, .inl (k_bl, 50, .inl f_bl)), (a_lo, .inl (k_lo, 1407, .inl f_lo)), (a_cl, .inl (k_cl, 10000, .inl f_cl)), (a_te, .inl (k_te, 10000, .inl f_te))]) [0, 1, 2, 3, 4, 5] rfl
              have hD9 := hD.sub (ws' := [(a_m, .inr (5, [.int 0, .ref a_sa, .int v_sz, .int v_at, .int v_wr, .ref a_ru, .ref a_me, .ref a_le, .int v_n, .ref a_cl, .ref a_te, .ref a_ki, .ref a_ty, .ref a_bl, .ref a_ex, .ref a_lo, .int v_nl, .ref a_ho, .ref a_fi, .int v_nf, .ref a_cz, .int v_nc])), (a_ru, .inl (k_ru, 410, .inl f_ru)), (a_bl, .inl (k_bl, 50, .inl f_bl)), (a_lo, .inl (k_lo, 1407, .inl f_lo)), (a_cl, .inl (k_cl, 10000, .inl f_cl)), (a_te, .inl (k_te, 10000, .inl f_te))]) [0, 1, 2, 3, 4, 5] (by decide) rfl
              have hK9 := hK.sub (tys' := [(k_ru, .int), (k_bl, .int), (k_lo, .int), (k_cl, .boolean), (k_te, .boolean)]) [0, 1, 2, 3, 4] rfl
              exact W.iret (v := (-3)) hx hb hr (fun t ht hW => ⟨⟨(-3), (), rfl, by rw [← hz, hE], by rw [ht, ← hz, hE]; exact hP9, va_K.moved hW.alike hK9, by rw [← hz, hE]; exact hD9⟩, hS.F ht⟩) hS.2.2 d_M_renew_134
          · rw [if_neg c_16] at hE
            refine lv_bipush (v := (-2)) hx hb d_M_renew_117 (by decide) ?_
            have hP9 := hP.sub (ws' := [(a_m, .inr (5, [.int 0, .ref a_sa, .int v_sz, .int v_at, .int v_wr, .ref a_ru, .ref a_me, .ref a_le, .int v_n, .ref a_cl, .ref a_te, .ref a_ki, .ref a_ty, .ref a_bl, .ref a_ex, .ref a_lo, .int v_nl, .ref a_ho, .ref a_fi, .int v_nf, .ref a_cz, .int v_nc])), (a_ru, .inl (k_ru, 410, .inl f_ru)), (a_bl, .inl (k_bl, 50, .inl f_bl)), (a_lo, .inl (k_lo, 1407, .inl f_lo)), (a_cl, .inl (k_cl, 10000, .inl f_cl)), (a_te, .inl (k_te, 10000, .inl f_te))]) [0, 1, 2, 3, 4, 5] rfl
            have hD9 := hD.sub (ws' := [(a_m, .inr (5, [.int 0, .ref a_sa, .int v_sz, .int v_at, .int v_wr, .ref a_ru, .ref a_me, .ref a_le, .int v_n, .ref a_cl, .ref a_te, .ref a_ki, .ref a_ty, .ref a_bl, .ref a_ex, .ref a_lo, .int v_nl, .ref a_ho, .ref a_fi, .int v_nf, .ref a_cz, .int v_nc])), (a_ru, .inl (k_ru, 410, .inl f_ru)), (a_bl, .inl (k_bl, 50, .inl f_bl)), (a_lo, .inl (k_lo, 1407, .inl f_lo)), (a_cl, .inl (k_cl, 10000, .inl f_cl)), (a_te, .inl (k_te, 10000, .inl f_te))]) [0, 1, 2, 3, 4, 5] (by decide) rfl
            have hK9 := hK.sub (tys' := [(k_ru, .int), (k_bl, .int), (k_lo, .int), (k_cl, .boolean), (k_te, .boolean)]) [0, 1, 2, 3, 4] rfl
            exact W.iret (v := (-2)) hx hb hr (fun t ht hW => ⟨⟨(-2), (), rfl, by rw [← hz, hE], by rw [ht, ← hz, hE]; exact hP9, va_K.moved hW.alike hK9, by rw [← hz, hE]; exact hD9⟩, hS.F ht⟩) hS.2.2 d_M_renew_119
        · rw [if_neg c_13] at hE
          refine lv_iconst (v := (-1)) hx hb d_M_renew_89 (by decide) ?_
          have hP9 := hP.sub (ws' := [(a_m, .inr (5, [.int 0, .ref a_sa, .int v_sz, .int v_at, .int v_wr, .ref a_ru, .ref a_me, .ref a_le, .int v_n, .ref a_cl, .ref a_te, .ref a_ki, .ref a_ty, .ref a_bl, .ref a_ex, .ref a_lo, .int v_nl, .ref a_ho, .ref a_fi, .int v_nf, .ref a_cz, .int v_nc])), (a_ru, .inl (k_ru, 410, .inl f_ru)), (a_bl, .inl (k_bl, 50, .inl f_bl)), (a_lo, .inl (k_lo, 1407, .inl f_lo)), (a_cl, .inl (k_cl, 10000, .inl f_cl)), (a_te, .inl (k_te, 10000, .inl f_te))]) [0, 1, 2, 3, 4, 5] rfl
          have hD9 := hD.sub (ws' := [(a_m, .inr (5, [.int 0, .ref a_sa, .int v_sz, .int v_at, .int v_wr, .ref a_ru, .ref a_me, .ref a_le, .int v_n, .ref a_cl, .ref a_te, .ref a_ki, .ref a_ty, .ref a_bl, .ref a_ex, .ref a_lo, .int v_nl, .ref a_ho, .ref a_fi, .int v_nf, .ref a_cz, .int v_nc])), (a_ru, .inl (k_ru, 410, .inl f_ru)), (a_bl, .inl (k_bl, 50, .inl f_bl)), (a_lo, .inl (k_lo, 1407, .inl f_lo)), (a_cl, .inl (k_cl, 10000, .inl f_cl)), (a_te, .inl (k_te, 10000, .inl f_te))]) [0, 1, 2, 3, 4, 5] (by decide) rfl
          have hK9 := hK.sub (tys' := [(k_ru, .int), (k_bl, .int), (k_lo, .int), (k_cl, .boolean), (k_te, .boolean)]) [0, 1, 2, 3, 4] rfl
          exact W.iret (v := (-1)) hx hb hr (fun t ht hW => ⟨⟨(-1), (), rfl, by rw [← hz, hE], by rw [ht, ← hz, hE]; exact hP9, va_K.moved hW.alike hK9, by rw [← hz, hE]; exact hD9⟩, hS.F ht⟩) hS.2.2 d_M_renew_90
      · rw [if_neg c_9] at hE
        refine lv_bipush (v := (-102)) hx hb d_M_renew_50 (by decide) ?_
        refine lv_iload hx hb d_M_renew_52 (lv_at hl 0 rfl) ?_
        refine lv_isub hx hb d_M_renew_54 ?_
        have hP9 := hP.sub (ws' := [(a_m, .inr (5, [.int 0, .ref a_sa, .int v_sz, .int v_at, .int v_wr, .ref a_ru, .ref a_me, .ref a_le, .int v_n, .ref a_cl, .ref a_te, .ref a_ki, .ref a_ty, .ref a_bl, .ref a_ex, .ref a_lo, .int v_nl, .ref a_ho, .ref a_fi, .int v_nf, .ref a_cz, .int v_nc])), (a_ru, .inl (k_ru, 410, .inl f_ru)), (a_bl, .inl (k_bl, 50, .inl f_bl)), (a_lo, .inl (k_lo, 1407, .inl f_lo)), (a_cl, .inl (k_cl, 10000, .inl f_cl)), (a_te, .inl (k_te, 10000, .inl f_te))]) [0, 1, 2, 3, 4, 5] rfl
        have hD9 := hD.sub (ws' := [(a_m, .inr (5, [.int 0, .ref a_sa, .int v_sz, .int v_at, .int v_wr, .ref a_ru, .ref a_me, .ref a_le, .int v_n, .ref a_cl, .ref a_te, .ref a_ki, .ref a_ty, .ref a_bl, .ref a_ex, .ref a_lo, .int v_nl, .ref a_ho, .ref a_fi, .int v_nf, .ref a_cz, .int v_nc])), (a_ru, .inl (k_ru, 410, .inl f_ru)), (a_bl, .inl (k_bl, 50, .inl f_bl)), (a_lo, .inl (k_lo, 1407, .inl f_lo)), (a_cl, .inl (k_cl, 10000, .inl f_cl)), (a_te, .inl (k_te, 10000, .inl f_te))]) [0, 1, 2, 3, 4, 5] (by decide) rfl
        have hK9 := hK.sub (tys' := [(k_ru, .int), (k_bl, .int), (k_lo, .int), (k_cl, .boolean), (k_te, .boolean)]) [0, 1, 2, 3, 4] rfl
        exact W.iret (v := (-102) - (f_bl ((-1) - (f_lo ((7 * p0) + 6).toNatClampNeg)).toNatClampNeg)) hx hb hr (fun t ht hW => ⟨⟨(-102) - (f_bl ((-1) - (f_lo ((7 * p0) + 6).toNatClampNeg)).toNatClampNeg), (), rfl, by rw [← hz, hE], by rw [ht, ← hz, hE]; exact hP9, va_K.moved hW.alike hK9, by rw [← hz, hE]; exact hD9⟩, hS.F ht⟩) hS.2.2 d_M_renew_55
    · rw [if_pos c_6] at hE
      refine lv_iconst (v := 0) hx hb d_M_renew_20 (by decide) ?_
      have hP9 := hP.sub (ws' := [(a_m, .inr (5, [.int 0, .ref a_sa, .int v_sz, .int v_at, .int v_wr, .ref a_ru, .ref a_me, .ref a_le, .int v_n, .ref a_cl, .ref a_te, .ref a_ki, .ref a_ty, .ref a_bl, .ref a_ex, .ref a_lo, .int v_nl, .ref a_ho, .ref a_fi, .int v_nf, .ref a_cz, .int v_nc])), (a_ru, .inl (k_ru, 410, .inl f_ru)), (a_bl, .inl (k_bl, 50, .inl f_bl)), (a_lo, .inl (k_lo, 1407, .inl f_lo)), (a_cl, .inl (k_cl, 10000, .inl f_cl)), (a_te, .inl (k_te, 10000, .inl f_te))]) [0, 1, 2, 3, 4, 5] rfl
      have hD9 := hD.sub (ws' := [(a_m, .inr (5, [.int 0, .ref a_sa, .int v_sz, .int v_at, .int v_wr, .ref a_ru, .ref a_me, .ref a_le, .int v_n, .ref a_cl, .ref a_te, .ref a_ki, .ref a_ty, .ref a_bl, .ref a_ex, .ref a_lo, .int v_nl, .ref a_ho, .ref a_fi, .int v_nf, .ref a_cz, .int v_nc])), (a_ru, .inl (k_ru, 410, .inl f_ru)), (a_bl, .inl (k_bl, 50, .inl f_bl)), (a_lo, .inl (k_lo, 1407, .inl f_lo)), (a_cl, .inl (k_cl, 10000, .inl f_cl)), (a_te, .inl (k_te, 10000, .inl f_te))]) [0, 1, 2, 3, 4, 5] (by decide) rfl
      have hK9 := hK.sub (tys' := [(k_ru, .int), (k_bl, .int), (k_lo, .int), (k_cl, .boolean), (k_te, .boolean)]) [0, 1, 2, 3, 4] rfl
      exact W.iret (v := 0) hx hb hr (fun t ht hW => ⟨⟨0, (), rfl, by rw [← hz, hE], by rw [ht, ← hz, hE]; exact hP9, va_K.moved hW.alike hK9, by rw [← hz, hE]; exact hD9⟩, hS.F ht⟩) hS.2.2 d_M_renew_21
