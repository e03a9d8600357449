def gl_ins : Nat → (Nat → Int32) → (Int32) → (Int32) → (Nat → Int32) → Int32 × (Nat → Int32)
  | 0, f_ru, r, k, fj => (k, fj)
  | n + 1, f_ru, r, k, fj =>
    if k ≤ 0 then
      (k, fj)
    else
      if (f_ru ((10 * r) + 8).toNatClampNeg) ≤ (f_ru ((10 * (fj (k - 1).toNatClampNeg)) + 8).toNatClampNeg) then
        (k, fj)
      else
        gl_ins n f_ru r (k + (-1)) (upd fj k.toNatClampNeg (fj (k - 1).toNatClampNeg))
def gl_find : Nat → (Int32) → (Int32) → (Int32) → (Int32) → (Nat → Int32) → (Nat → Int32) → (Nat → Int32) → (Nat → Int32) → (Int32) → (Int32) → (Nat → Int32) → Int32 × Int32 × (Nat → Int32)
  | 0, p0, p1, p2, v_n, f_ru, f_ki, f_ty, f_ex, r, nf, fi => (r, nf, fi)
  | n + 1, p0, p1, p2, v_n, f_ru, f_ki, f_ty, f_ex, r, nf, fi =>
    if v_n ≤ r then
      (r, nf, fi)
    else
      if (g_Mg_fitsFor r p0 p1 p2 f_ru f_ki f_ty f_ex) = 0 then
        gl_find n p0 p1 p2 v_n f_ru f_ki f_ty f_ex (r + 1) nf fi
      else
        bv (gl_ins 41 f_ru r nf fi) (fun x_5 =>
          gl_find n p0 p1 p2 v_n f_ru f_ki f_ty f_ex (r + 1) (nf + 1) (upd x_5.2 x_5.1.toNatClampNeg r))
def g_Mg_find (p0 : Int32) (p1 : Int32) (p2 : Int32) (v_n : Int32) (f_ru : Nat → Int32) (f_ki : Nat → Int32) (f_ty : Nat → Int32) (f_ex : Nat → Int32) (f_fi : Nat → Int32) : Int32 × (Nat → Int32) :=
  bv (gl_find 41 p0 p1 p2 v_n f_ru f_ki f_ty f_ex 0 0 f_fi) (fun x_1 =>
    (x_1.2.1, x_1.2.2))
set_option maxHeartbeats 4000000 in
set_option maxRecDepth 100000 in
theorem c_Mg_find (l : Launch) (dC : Nat → ClassId) (dI : Nat → Nat → Nat) (adK adV : Nat → Nat) (a_m : Nat) (a_ru : Nat) (a_ki : Nat) (a_ty : Nat) (a_ex : Nat) (a_fi : Nat) (k_ru : ClassId) (k_ki : ClassId) (k_ty : ClassId) (k_ex : ClassId) (k_fi : ClassId) (p0 : Int32) (p1 : Int32) (p2 : Int32) (v_th : Int32) (a_sa : Nat) (v_sz : Int32) (v_at : Int32) (v_wr : Int32) (a_me : Nat) (a_le : Nat) (v_n : Int32) (a_cl : Nat) (a_te : Nat) (a_bl : Nat) (a_lo : Nat) (v_nl : Int32) (a_ho : Nat) (v_nf : Int32) (a_cz : Nat) (v_nc : Int32) (f_ru : Nat → Int32) (f_ki : Nat → Int32) (f_ty : Nat → Int32) (f_ex : Nat → Int32) (f_fi : Nat → Int32) (sz : Nat) (hp0 : 0 ≤ p0.toInt ∧ p0.toInt < 50) (hp1 : 0 ≤ p1.toInt ∧ p1.toInt < 50) (hn : 0 ≤ v_n.toInt ∧ v_n.toInt ≤ 40) : Met l y_M_find ws_M_find ({ frames := 1, cells := 0, slots := 0, locals := 27 }) (va_Pc [.ref a_m, .int p0, .int p1, .int p2] (fun U => U.heap.size = sz ∧ zz adK adV (va_A [(a_m, .inr (5, [.int v_th, .ref a_sa, .int v_sz, .int v_at, .int v_wr, .ref a_ru, .ref a_me, .ref a_le, .int v_n, .ref a_cl, .ref a_te, .ref a_ki, .ref a_ty, .ref a_bl, .ref a_ex, .ref a_lo, .int v_nl, .ref a_ho, .ref a_fi, .int v_nf, .ref a_cz, .int v_nc])), (a_ru, .inl (k_ru, 410, .inl f_ru)), (a_ki, .inl (k_ki, 50, .inl f_ki)), (a_ty, .inl (k_ty, 50, .inl f_ty)), (a_ex, .inl (k_ex, 2000, .inl f_ex)), (a_fi, .inl (k_fi, 40, .inl f_fi))] sz) U ∧ va_P (dC, dI) vwCl [(a_m, .inr (5, [.int v_th, .ref a_sa, .int v_sz, .int v_at, .int v_wr, .ref a_ru, .ref a_me, .ref a_le, .int v_n, .ref a_cl, .ref a_te, .ref a_ki, .ref a_ty, .ref a_bl, .ref a_ex, .ref a_lo, .int v_nl, .ref a_ho, .ref a_fi, .int v_nf, .ref a_cz, .int v_nc])), (a_ru, .inl (k_ru, 410, .inl f_ru)), (a_ki, .inl (k_ki, 50, .inl f_ki)), (a_ty, .inl (k_ty, 50, .inl f_ty)), (a_ex, .inl (k_ex, 2000, .inl f_ex)), (a_fi, .inl (k_fi, 40, .inl f_fi))] U.heap ∧ va_K (dC, dI) vwCl [(k_ru, .int), (k_ki, .int), (k_ty, .int), (k_ex, .int), (k_fi, .int)] U ∧ va_D (fun _ => True) [(a_m, .inr (5, [.int v_th, .ref a_sa, .int v_sz, .int v_at, .int v_wr, .ref a_ru, .ref a_me, .ref a_le, .int v_n, .ref a_cl, .ref a_te, .ref a_ki, .ref a_ty, .ref a_bl, .ref a_ex, .ref a_lo, .int v_nl, .ref a_ho, .ref a_fi, .int v_nf, .ref a_cz, .int v_nc])), (a_ru, .inl (k_ru, 410, .inl f_ru)), (a_ki, .inl (k_ki, 50, .inl f_ki)), (a_ty, .inl (k_ty, 50, .inl f_ty)), (a_ex, .inl (k_ex, 2000, .inl f_ex)), (a_fi, .inl (k_fi, 40, .inl f_fi))])) (va_Qv (fun _ : Unit => True) (fun (_ : Unit) (t : State) => va_P (dC, dI) vwCl [(a_m, .inr (5, [.int v_th, .ref a_sa, .int v_sz, .int v_at, .int v_wr, .ref a_ru, .ref a_me, .ref a_le, .int v_n, .ref a_cl, .ref a_te, .ref a_ki, .ref a_ty, .ref a_bl, .ref a_ex, .ref a_lo, .int v_nl, .ref a_ho, .ref a_fi, .int ((g_Mg_find p0 p1 p2 v_n f_ru f_ki f_ty f_ex f_fi).1), .ref a_cz, .int v_nc])), (a_ru, .inl (k_ru, 410, .inl f_ru)), (a_ki, .inl (k_ki, 50, .inl f_ki)), (a_ty, .inl (k_ty, 50, .inl f_ty)), (a_ex, .inl (k_ex, 2000, .inl f_ex)), (a_fi, .inl (k_fi, 40, .inl ((g_Mg_find p0 p1 p2 v_n f_ru f_ki f_ty f_ex f_fi).2)))] t.heap ∧ va_K (dC, dI) vwCl [(k_ru, .int), (k_ki, .int), (k_ty, .int), (k_ex, .int), (k_fi, .int)] t ∧ va_D (va_A [(a_m, .inr (5, [.int v_th, .ref a_sa, .int v_sz, .int v_at, .int v_wr, .ref a_ru, .ref a_me, .ref a_le, .int v_n, .ref a_cl, .ref a_te, .ref a_ki, .ref a_ty, .ref a_bl, .ref a_ex, .ref a_lo, .int v_nl, .ref a_ho, .ref a_fi, .int v_nf, .ref a_cz, .int v_nc])), (a_ru, .inl (k_ru, 410, .inl f_ru)), (a_ki, .inl (k_ki, 50, .inl f_ki)), (a_ty, .inl (k_ty, 50, .inl f_ty)), (a_ex, .inl (k_ex, 2000, .inl f_ex)), (a_fi, .inl (k_fi, 40, .inl f_fi))] sz) [(a_m, .inr (5, [.int v_th, .ref a_sa, .int v_sz, .int v_at, .int v_wr, .ref a_ru, .ref a_me, .ref a_le, .int v_n, .ref a_cl, .ref a_te, .ref a_ki, .ref a_ty, .ref a_bl, .ref a_ex, .ref a_lo, .int v_nl, .ref a_ho, .ref a_fi, .int ((g_Mg_find p0 p1 p2 v_n f_ru f_ki f_ty f_ex f_fi).1), .ref a_cz, .int v_nc])), (a_ru, .inl (k_ru, 410, .inl f_ru)), (a_ki, .inl (k_ki, 50, .inl f_ki)), (a_ty, .inl (k_ty, 50, .inl f_ty)), (a_ex, .inl (k_ex, 2000, .inl f_ex)), (a_fi, .inl (k_fi, 40, .inl ((g_Mg_find p0 p1 p2 v_n f_ru f_ki f_ty f_ex f_fi).2)))]) (va_A [(a_m, .inr (5, [.int v_th, .ref a_sa, .int v_sz, .int v_at, .int v_wr, .ref a_ru, .ref a_me, .ref a_le, .int v_n, .ref a_cl, .ref a_te, .ref a_ki, .ref a_ty, .ref a_bl, .ref a_ex, .ref a_lo, .int v_nl, .ref a_ho, .ref a_fi, .int v_nf, .ref a_cz, .int v_nc])), (a_ru, .inl (k_ru, 410, .inl f_ru)), (a_ki, .inl (k_ki, 50, .inl f_ki)), (a_ty, .inl (k_ty, 50, .inl f_ty)), (a_ex, .inl (k_ex, 2000, .inl f_ex)), (a_fi, .inl (k_fi, 40, .inl f_fi))] sz)) 0 0 (va_A [(a_m, .inr (5, [.int v_th, .ref a_sa, .int v_sz, .int v_at, .int v_wr, .ref a_ru, .ref a_me, .ref a_le, .int v_n, .ref a_cl, .ref a_te, .ref a_ki, .ref a_ty, .ref a_bl, .ref a_ex, .ref a_lo, .int v_nl, .ref a_ho, .ref a_fi, .int v_nf, .ref a_cz, .int v_nc])), (a_ru, .inl (k_ru, 410, .inl f_ru)), (a_ki, .inl (k_ki, 50, .inl f_ki)), (a_ty, .inl (k_ty, 50, .inl f_ty)), (a_ex, .inl (k_ex, 2000, .inl f_ex)), (a_fi, .inl (k_fi, 40, .inl f_fi))] sz) := by
  refine Met.ofW (cc := c_M_find) (maxL := 6) (ret := none) (by decide) rfl ?_
  intro p e s m args below meth c s₁ B hml hv
  obtain ⟨rfl, hsz, hZ, hP, hK, hD0⟩ := hv
  have hx := B.exec
  have hb := B.bytes
  have hr := B.returns
  have hts0 := atoms_spec (ws := ws_M_find) B.pre
  have hts : ∀ w ∈ TT, w.before _ s = true := fun w h => hts0 w (List.mem_cons_of_mem _ h)
  have hown : s.vm.findClass "LoanRulesModel" = some m.cls := findClass_of_methodNamed B.named
  have hlocks := B.notSynchronized
  subst hsz
  have hD := hD0.self (sz := s.heap.size)
  generalize hAe : va_A [(a_m, .inr (5, [.int v_th, .ref a_sa, .int v_sz, .int v_at, .int v_wr, .ref a_ru, .ref a_me, .ref a_le, .int v_n, .ref a_cl, .ref a_te, .ref a_ki, .ref a_ty, .ref a_bl, .ref a_ex, .ref a_lo, .int v_nl, .ref a_ho, .ref a_fi, .int v_nf, .ref a_cz, .int v_nc])), (a_ru, .inl (k_ru, 410, .inl f_ru)), (a_ki, .inl (k_ki, 50, .inl f_ki)), (a_ty, .inl (k_ty, 50, .inl f_ty)), (a_ex, .inl (k_ex, 2000, .inl f_ex)), (a_fi, .inl (k_fi, 40, .inl f_fi))] s.heap.size = A at hD hZ ⊢
  have hA : ∀ q : Nat, s.heap.size ≤ q → A q := fun q h => by rw [← hAe]; exact Or.inr h
  clear hAe hD0
  have hS : va_S A s.heap s.heap [] := va_S.rf
  replace hP : va_P (dC, dI) vwCl [(a_m, .inr (5, [.int v_th, .ref a_sa, .int v_sz, .int v_at, .int v_wr, .ref a_ru, .ref a_me, .ref a_le, .int v_n, .ref a_cl, .ref a_te, .ref a_ki, .ref a_ty, .ref a_bl, .ref a_ex, .ref a_lo, .int v_nl, .ref a_ho, .ref a_fi, .int v_nf, .ref a_cz, .int v_nc])), (a_ru, .inl (k_ru, 410, .inl f_ru)), (a_ki, .inl (k_ki, 50, .inl f_ki)), (a_ty, .inl (k_ty, 50, .inl f_ty)), (a_ex, .inl (k_ex, 2000, .inl f_ex)), (a_fi, .inl (k_fi, 40, .inl f_fi))] s.heap := hP
  have hl := lv_entry ([.ref a_m, .int p0, .int p1, .int p2]) (n := 6) (Nat.le_of_ble_eq_true rfl)
  rw [lg_entry_eq]
  generalize (lg_sl ([.ref a_m, .int p0, .int p1, .int p2]) ++ List.replicate (6 - (lg_sl ([.ref a_m, .int p0, .int p1, .int p2])).length) Slot.unset).toArray = ls at hl ⊢
  replace hl : lv_has ls 6 [(0, .ref a_m), (1, .int p0), (2, .int p1), (3, .int p2)] := hl
  obtain ⟨z, hz⟩ : ∃ z, z = g_Mg_find p0 p1 p2 v_n f_ru f_ki f_ty f_ex f_fi := ⟨_, rfl⟩
  have hE := hz
  rw [g_Mg_find] at hE
  refine lv_aload_n hx hb d_M_find_0 rfl (lv_at hl 0 rfl) ?_
  refine lv_iconst (v := 0) hx hb d_M_find_1 (by decide) ?_
  refine va_put (D := (dC, dI)) (ci := 5) (v := .int 0) (ty := .int) (C := "LoanRulesModel") (T := Fz_M) (N := 22) hx hb hts it_M tz_M tz_M_ok nz_M hown hK hP hD hS 0 rfl rfl 19 (by decide) (hts _ tw_620) (fun _ h9 => h9) rfl (by decide +kernel) rfl rfl (Nat.le_of_ble_eq_true rfl) d_M_find_2 (fun H locs hP hD hS => ?_)
  replace hP : va_P (dC, dI) vwCl [(a_m, .inr (5, [.int v_th, .ref a_sa, .int v_sz, .int v_at, .int v_wr, .ref a_ru, .ref a_me, .ref a_le, .int v_n, .ref a_cl, .ref a_te, .ref a_ki, .ref a_ty, .ref a_bl, .ref a_ex, .ref a_lo, .int v_nl, .ref a_ho, .ref a_fi, .int 0, .ref a_cz, .int v_nc])), (a_ru, .inl (k_ru, 410, .inl f_ru)), (a_ki, .inl (k_ki, 50, .inl f_ki)), (a_ty, .inl (k_ty, 50, .inl f_ty)), (a_ex, .inl (k_ex, 2000, .inl f_ex)), (a_fi, .inl (k_fi, 40, .inl f_fi))] H := hP
  replace hD : va_D A [(a_m, .inr (5, [.int v_th, .ref a_sa, .int v_sz, .int v_at, .int v_wr, .ref a_ru, .ref a_me, .ref a_le, .int v_n, .ref a_cl, .ref a_te, .ref a_ki, .ref a_ty, .ref a_bl, .ref a_ex, .ref a_lo, .int v_nl, .ref a_ho, .ref a_fi, .int 0, .ref a_cz, .int v_nc])), (a_ru, .inl (k_ru, 410, .inl f_ru)), (a_ki, .inl (k_ki, 50, .inl f_ki)), (a_ty, .inl (k_ty, 50, .inl f_ty)), (a_ex, .inl (k_ex, 2000, .inl f_ex)), (a_fi, .inl (k_fi, 40, .inl f_fi))] := hD
  refine lv_iconst (v := 0) hx hb d_M_find_5 (by decide) ?_
  refine lv_istore (lv' := [(4, .int 0), (0, .ref a_m), (1, .int p0), (2, .int p1), (3, .int p2)]) hx hb d_M_find_6 hl (by decide) rfl (fun ls hl => ?_)
  generalize hg_x_1 : gl_find 41 p0 p1 p2 v_n f_ru f_ki f_ty f_ex 0 0 f_fi = x_1 at hE
  rw [bv_eq] at hE
  obtain ⟨r, e_r⟩ : ∃ q9 : Int32, q9 = 0 := ⟨_, rfl⟩
  obtain ⟨nf, e_nf⟩ : ∃ q9 : Int32, q9 = 0 := ⟨_, rfl⟩
  obtain ⟨fi, e_fi⟩ : ∃ q9 : Nat → Int32, q9 = f_fi := ⟨_, rfl⟩
  obtain ⟨n, e_n⟩ : ∃ q9 : Nat, q9 = 41 := ⟨_, rfl⟩
  have hAll : va_P (dC, dI) vwCl [(a_m, .inr (5, [.int v_th, .ref a_sa, .int v_sz, .int v_at, .int v_wr, .ref a_ru, .ref a_me, .ref a_le, .int v_n, .ref a_cl, .ref a_te, .ref a_ki, .ref a_ty, .ref a_bl, .ref a_ex, .ref a_lo, .int v_nl, .ref a_ho, .ref a_fi, .int nf, .ref a_cz, .int v_nc])), (a_ru, .inl (k_ru, 410, .inl f_ru)), (a_ki, .inl (k_ki, 50, .inl f_ki)), (a_ty, .inl (k_ty, 50, .inl f_ty)), (a_ex, .inl (k_ex, 2000, .inl f_ex)), (a_fi, .inl (k_fi, 40, .inl fi))] H ∧ va_D A [(a_m, .inr (5, [.int v_th, .ref a_sa, .int v_sz, .int v_at, .int v_wr, .ref a_ru, .ref a_me, .ref a_le, .int v_n, .ref a_cl, .ref a_te, .ref a_ki, .ref a_ty, .ref a_bl, .ref a_ex, .ref a_lo, .int v_nl, .ref a_ho, .ref a_fi, .int nf, .ref a_cz, .int v_nc])), (a_ru, .inl (k_ru, 410, .inl f_ru)), (a_ki, .inl (k_ki, 50, .inl f_ki)), (a_ty, .inl (k_ty, 50, .inl f_ty)), (a_ex, .inl (k_ex, 2000, .inl f_ex)), (a_fi, .inl (k_fi, 40, .inl fi))] ∧ va_S A s.heap H locs ∧ lv_has ls 6 [(4, .int r), (0, .ref a_m), (1, .int p0), (2, .int p1), (3, .int p2)] ∧ (0 ≤ r.toInt ∧ r.toInt ≤ 40) ∧ (0 ≤ nf.toInt ∧ nf.toInt ≤ r.toInt) ∧ (∀ j : Nat, (j : Int) < nf.toInt → v40 (fi j)) ∧ 41 - r.toInt.toNat ≤ n ∧ gl_find n p0 p1 p2 v_n f_ru f_ki f_ty f_ex r nf fi = x_1 := by
    subst e_r e_nf e_fi e_n
    exact ⟨hP, hD, hS, hl, by decide, by decide, fun j h => absurd h (by rw [li_0]; omega), by decide, hg_x_1⟩
  clear hP hl hD hS e_r e_nf e_fi e_n hg_x_1
  induction n generalizing r nf fi H locs ls with
  | zero =>
    obtain ⟨hP, hD, hS, hl, hr0, hnf, hfi, hm_find, hg_find⟩ := hAll
    exfalso; omega
  | succ n ih_find =>
    obtain ⟨hP, hD, hS, hl, hr0, hnf, hfi, hm_find, hg_find⟩ := hAll
    rw [gl_find] at hg_find
    refine lv_iload hx hb d_M_find_8 (lv_at hl 0 rfl) ?_
    refine lv_aload_n hx hb d_M_find_10 rfl (lv_at hl 1 rfl) ?_
    refine va_get (D := (dC, dI)) (ci := 5) (v := .int v_n) (C := "LoanRulesModel") (T := Fz_M) (N := 22) hx hb hts it_M hown hK hP 0 rfl rfl 8 (by decide) (hts _ tw_609) (fun _ h9 => h9) rfl d_M_find_11 ?_
    refine lv_icmp_ge (tgt := 123) hx hb d_M_find_14 (by decide) (fun c_2 => ?_) (fun c_2 => ?_)
    · rw [if_pos c_2] at hg_find
      subst hg_find
      dsimp only at hE
      have hP9 := hP.sub (ws' := [(a_m, .inr (5, [.int v_th, .ref a_sa, .int v_sz, .int v_at, .int v_wr, .ref a_ru, .ref a_me, .ref a_le, .int v_n, .ref a_cl, .ref a_te, .ref a_ki, .ref a_ty, .ref a_bl, .ref a_ex, .ref a_lo, .int v_nl, .ref a_ho, .ref a_fi, .int nf, .ref a_cz, .int v_nc])), (a_ru, .inl (k_ru, 410, .inl f_ru)), (a_ki, .inl (k_ki, 50, .inl f_ki)), (a_ty, .inl (k_ty, 50, .inl f_ty)), (a_ex, .inl (k_ex, 2000, .inl f_ex)), (a_fi, .inl (k_fi, 40, .inl fi))]) [0, 1, 2, 3, 4, 5] rfl
      have hD9 := hD.sub (ws' := [(a_m, .inr (5, [.int v_th, .ref a_sa, .int v_sz, .int v_at, .int v_wr, .ref a_ru, .ref a_me, .ref a_le, .int v_n, .ref a_cl, .ref a_te, .ref a_ki, .ref a_ty, .ref a_bl, .ref a_ex, .ref a_lo, .int v_nl, .ref a_ho, .ref a_fi, .int nf, .ref a_cz, .int v_nc])), (a_ru, .inl (k_ru, 410, .inl f_ru)), (a_ki, .inl (k_ki, 50, .inl f_ki)), (a_ty, .inl (k_ty, 50, .inl f_ty)), (a_ex, .inl (k_ex, 2000, .inl f_ex)), (a_fi, .inl (k_fi, 40, .inl fi))]) [0, 1, 2, 3, 4, 5] (by decide) rfl
      have hK9 := hK.sub (tys' := [(k_ru, .int), (k_ki, .int), (k_ty, .int), (k_ex, .int), (k_fi, .int)]) [0, 1, 2, 3, 4] rfl
      exact W.vret hx hb hr (fun t ht hW => ⟨⟨(), rfl, trivial, by rw [ht, ← hz, hE]; exact hP9, va_K.moved hW.alike hK9, by rw [← hz, hE]; exact hD9⟩, hS.F ht⟩) hS.2.2 d_M_find_123
    · rw [if_neg c_2] at hg_find
      refine lv_aload_n hx hb d_M_find_17 rfl (lv_at hl 1 rfl) ?_
      refine lv_iload hx hb d_M_find_18 (lv_at hl 0 rfl) ?_
      refine lv_iload_n hx hb d_M_find_20 rfl (lv_at hl 2 rfl) ?_
      refine lv_iload_n hx hb d_M_find_21 rfl (lv_at hl 3 rfl) ?_
      refine lv_iload_n hx hb d_M_find_22 rfl (lv_at hl 4 rfl) ?_
      have hPc := hP.sub (ws' := [(a_m, .inr (5, [.int v_th, .ref a_sa, .int v_sz, .int v_at, .int v_wr, .ref a_ru, .ref a_me, .ref a_le, .int v_n, .ref a_cl, .ref a_te, .ref a_ki, .ref a_ty, .ref a_bl, .ref a_ex, .ref a_lo, .int v_nl, .ref a_ho, .ref a_fi, .int nf, .ref a_cz, .int v_nc])), (a_ru, .inl (k_ru, 410, .inl f_ru)), (a_ki, .inl (k_ki, 50, .inl f_ki)), (a_ty, .inl (k_ty, 50, .inl f_ty)), (a_ex, .inl (k_ex, 2000, .inl f_ex))]) [0, 1, 2, 3, 4] rfl
      have hKc := hK.sub (tys' := [(k_ru, .int), (k_ki, .int), (k_ty, .int), (k_ex, .int)]) [0, 1, 2, 3] rfl
      refine vp_callSi (va_Run.run (va_runV (As := [.int r, .int p0, .int p1, .int p2]) (rest := []) ⟨hx, hb, hml, hown, hts⟩ (c_Mg_fitsFor l dC dI adK adV (a_m := a_m) (p0 := r) (p1 := p0) (p2 := p1) (p3 := p2) (v_th := v_th) (a_sa := a_sa) (v_sz := v_sz) (v_at := v_at) (v_wr := v_wr) (a_ru := a_ru) (a_me := a_me) (a_le := a_le) (v_n := v_n) (a_cl := a_cl) (a_te := a_te) (a_ki := a_ki) (a_ty := a_ty) (a_bl := a_bl) (a_ex := a_ex) (a_lo := a_lo) (v_nl := v_nl) (a_ho := a_ho) (a_fi := a_fi) (v_nf := nf) (a_cz := a_cz) (v_nc := v_nc) (k_ru := k_ru) (f_ru := f_ru) (k_ki := k_ki) (f_ki := f_ki) (k_ty := k_ty) (f_ty := f_ty) (k_ex := k_ex) (f_ex := f_ex) (li_ltn0 hr0 c_2 hn.2) hp0 hp1) (cwV 4 hts (gV tw_774 tw_776 tw_36 tw_46 tw_777) rfl rfl rfl (by decide +kernel) ⟨(Nat.le_of_ble_eq_true rfl), (Nat.le_of_ble_eq_true rfl)⟩) ⟨fun a U g mk q => by obtain ⟨q0, qZ, qP, qK⟩ := q; exact ⟨q0, zz_call qZ, qP, va_K.moved (u := U) (U := U.calling g mk a) (Vm.Alike.refl U.vm) qK⟩, va_recv hKc hPc (ci := 5) (q0 := 0) rfl rfl, fun U hU hW => ⟨rfl, zz_ro hS hU hW hZ, by rw [hU]; exact hPc, va_K.moved hW.alike hKc⟩⟩ rfl rfl hl.1 rfl (lv_room (Nat.le_of_ble_eq_true rfl)) d_M_find_23 ⟨(Nat.le_of_ble_eq_true rfl), (Nat.le_of_ble_eq_true rfl)⟩)) (fun r_3 hw_4 => ?_)
      clear hPc hKc
      subst hw_4
      refine lv_if_eq (tgt := 117) hx hb d_M_find_26 (by decide) (fun c_5 => ?_) (fun c_5 => ?_)
      · rw [if_pos c_5] at hg_find
        refine lv_iinc (v := r + 1) (lv' := [(4, .int (r + 1)), (0, .ref a_m), (1, .int p0), (2, .int p1), (3, .int p2)]) hx hb d_M_find_117 hl (k := 0) rfl rfl (by decide) rfl (fun ls hl => ?_)
        refine lv_goto (tgt := 8) hx hb d_M_find_120 (by decide) ?_
        exact ih_find _ _ _ _ _ _ ⟨hP, hD, hS, lv_sub hl [0, 1, 2, 3, 4] rfl, (li_s40 hr0 (li_ltn0 hr0 c_2 hn.2)), (nf_a hnf (li_ltn0 hr0 c_2 hn.2)), (hfi), (li_m40 hr0 (li_ltn0 hr0 c_2 hn.2) hm_find), hg_find⟩
      · rw [if_neg c_5] at hg_find
        refine lv_aload_n hx hb d_M_find_29 rfl (lv_at hl 1 rfl) ?_
        refine va_get (D := (dC, dI)) (ci := 5) (v := .int nf) (C := "LoanRulesModel") (T := Fz_M) (N := 22) hx hb hts it_M hown hK hP 0 rfl rfl 19 (by decide) (hts _ tw_620) (fun _ h9 => h9) rfl d_M_find_30 ?_
        refine lv_istore (lv' := [(5, .int nf), (4, .int r), (0, .ref a_m), (1, .int p0), (2, .int p1), (3, .int p2)]) hx hb d_M_find_33 hl (by decide) rfl (fun ls hl => ?_)
        generalize hg_x_6 : gl_ins 41 f_ru r nf fi = x_6 at hg_find
        rw [bv_eq] at hg_find
        obtain ⟨k, e_k⟩ : ∃ q9 : Int32, q9 = nf := ⟨_, rfl⟩
        obtain ⟨fj, e_fj⟩ : ∃ q9 : Nat → Int32, q9 = fi := ⟨_, rfl⟩
        obtain ⟨n, e_n⟩ : ∃ q9 : Nat, q9 = 41 := ⟨_, rfl⟩
        have hAll : va_P (dC, dI) vwCl [(a_m, .inr (5, [.int v_th, .ref a_sa, .int v_sz, .int v_at, .int v_wr, .ref a_ru, .ref a_me, .ref a_le, .int v_n, .ref a_cl, .ref a_te, .ref a_ki, .ref a_ty, .ref a_bl, .ref a_ex, .ref a_lo, .int v_nl, .ref a_ho, .ref a_fi, .int nf, .ref a_cz, .int v_nc])), (a_ru, .inl (k_ru, 410, .inl f_ru)), (a_ki, .inl (k_ki, 50, .inl f_ki)), (a_ty, .inl (k_ty, 50, .inl f_ty)), (a_ex, .inl (k_ex, 2000, .inl f_ex)), (a_fi, .inl (k_fi, 40, .inl fj))] H ∧ va_D A [(a_m, .inr (5, [.int v_th, .ref a_sa, .int v_sz, .int v_at, .int v_wr, .ref a_ru, .ref a_me, .ref a_le, .int v_n, .ref a_cl, .ref a_te, .ref a_ki, .ref a_ty, .ref a_bl, .ref a_ex, .ref a_lo, .int v_nl, .ref a_ho, .ref a_fi, .int nf, .ref a_cz, .int v_nc])), (a_ru, .inl (k_ru, 410, .inl f_ru)), (a_ki, .inl (k_ki, 50, .inl f_ki)), (a_ty, .inl (k_ty, 50, .inl f_ty)), (a_ex, .inl (k_ex, 2000, .inl f_ex)), (a_fi, .inl (k_fi, 40, .inl fj))] ∧ va_S A s.heap H locs ∧ lv_has ls 6 [(5, .int k), (4, .int r), (0, .ref a_m), (1, .int p0), (2, .int p1), (3, .int p2)] ∧ (0 ≤ k.toInt ∧ k.toInt ≤ nf.toInt) ∧ (∀ j : Nat, (j : Int) ≤ nf.toInt → (j : Int) ≠ k.toInt → v40 (fj j)) ∧ k.toInt.toNat + 1 ≤ n ∧ gl_ins n f_ru r k fj = x_6 := by
          subst e_k e_fj e_n
          exact ⟨hP, hD, hS, hl, ⟨hnf.1, Int.le_refl _⟩, fun j h1 h2 => hfi j (by omega), by have := (nf_lt hnf (li_ltn0 hr0 c_2 hn.2)); omega, hg_x_6⟩
        clear hP hl hD hS e_k e_fj e_n hg_x_6
        induction n generalizing k fj H locs ls with
        | zero =>
          obtain ⟨hP, hD, hS, hl, hk, hfj, hm_ins, hg_ins⟩ := hAll
          exfalso; omega
        | succ n ih_ins =>
          obtain ⟨hP, hD, hS, hl, hk, hfj, hm_ins, hg_ins⟩ := hAll
          rw [gl_ins] at hg_ins
          refine lv_iload hx hb d_M_find_35 (lv_at hl 0 rfl) ?_
          refine lv_if_le (tgt := 98) hx hb d_M_find_37 (by decide) (fun c_7 => ?_) (fun c_7 => ?_)
          · rw [if_pos c_7] at hg_ins
            subst hg_ins
            dsimp only at hg_find
            refine lv_aload_n hx hb d_M_find_98 rfl (lv_at hl 2 rfl) ?_
            refine va_get (D := (dC, dI)) (ci := 5) (v := .ref a_fi) (C := "LoanRulesModel") (T := Fz_M) (N := 22) hx hb hts it_M hown hK hP 0 rfl rfl 18 (by decide) (hts _ tw_619) (fun _ h9 => h9) rfl d_M_find_99 ?_
            refine lv_iload hx hb d_M_find_102 (lv_at hl 0 rfl) ?_
            refine lv_iload hx hb d_M_find_104 (lv_at hl 1 rfl) ?_
            have i_8 : vp_in k 40 := k_in hk (nf_lt hnf (li_ltn0 hr0 c_2 hn.2))
            refine va_iast (D := (dC, dI)) hx hb hK hP hD hS 5 4 rfl rfl i_8 d_M_find_106 (fun H locs hP hD hS => ?_)
            replace hP : va_P (dC, dI) vwCl [(a_m, .inr (5, [.int v_th, .ref a_sa, .int v_sz, .int v_at, .int v_wr, .ref a_ru, .ref a_me, .ref a_le, .int v_n, .ref a_cl, .ref a_te, .ref a_ki, .ref a_ty, .ref a_bl, .ref a_ex, .ref a_lo, .int v_nl, .ref a_ho, .ref a_fi, .int nf, .ref a_cz, .int v_nc])), (a_ru, .inl (k_ru, 410, .inl f_ru)), (a_ki, .inl (k_ki, 50, .inl f_ki)), (a_ty, .inl (k_ty, 50, .inl f_ty)), (a_ex, .inl (k_ex, 2000, .inl f_ex)), (a_fi, .inl (k_fi, 40, .inl (upd fj k.toNatClampNeg r)))] H := hP
            replace hD : va_D A [(a_m, .inr (5, [.int v_th, .ref a_sa, .int v_sz, .int v_at, .int v_wr, .ref a_ru, .ref a_me, .ref a_le, .int v_n, .ref a_cl, .ref a_te, .ref a_ki, .ref a_ty, .ref a_bl, .ref a_ex, .ref a_lo, .int v_nl, .ref a_ho, .ref a_fi, .int nf, .ref a_cz, .int v_nc])), (a_ru, .inl (k_ru, 410, .inl f_ru)), (a_ki, .inl (k_ki, 50, .inl f_ki)), (a_ty, .inl (k_ty, 50, .inl f_ty)), (a_ex, .inl (k_ex, 2000, .inl f_ex)), (a_fi, .inl (k_fi, 40, .inl (upd fj k.toNatClampNeg r)))] := hD
            refine lv_aload_n hx hb d_M_find_107 rfl (lv_at hl 2 rfl) ?_
            refine lv_dup hx hb d_M_find_108 rfl ?_
            refine va_get (D := (dC, dI)) (ci := 5) (v := .int nf) (C := "LoanRulesModel") (T := Fz_M) (N := 22) hx hb hts it_M hown hK hP 0 rfl rfl 19 (by decide) (hts _ tw_620) (fun _ h9 => h9) rfl d_M_find_109 ?_
            refine lv_iconst (v := 1) hx hb d_M_find_112 (by decide) ?_
            refine lv_iadd hx hb d_M_find_113 ?_
            refine va_put (D := (dC, dI)) (ci := 5) (v := .int (nf + 1)) (ty := .int) (C := "LoanRulesModel") (T := Fz_M) (N := 22) hx hb hts it_M tz_M tz_M_ok nz_M hown hK hP hD hS 0 rfl rfl 19 (by decide) (hts _ tw_620) (fun _ h9 => h9) rfl (by decide +kernel) rfl rfl (Nat.le_of_ble_eq_true rfl) d_M_find_114 (fun H locs hP hD hS => ?_)
            replace hP : va_P (dC, dI) vwCl [(a_m, .inr (5, [.int v_th, .ref a_sa, .int v_sz, .int v_at, .int v_wr, .ref a_ru, .ref a_me, .ref a_le, .int v_n, .ref a_cl, .ref a_te, .ref a_ki, .ref a_ty, .ref a_bl, .ref a_ex, .ref a_lo, .int v_nl, .ref a_ho, .ref a_fi, .int (nf + 1), .ref a_cz, .int v_nc])), (a_ru, .inl (k_ru, 410, .inl f_ru)), (a_ki, .inl (k_ki, 50, .inl f_ki)), (a_ty, .inl (k_ty, 50, .inl f_ty)), (a_ex, .inl (k_ex, 2000, .inl f_ex)), (a_fi, .inl (k_fi, 40, .inl (upd fj k.toNatClampNeg r)))] H := hP
            replace hD : va_D A [(a_m, .inr (5, [.int v_th, .ref a_sa, .int v_sz, .int v_at, .int v_wr, .ref a_ru, .ref a_me, .ref a_le, .int v_n, .ref a_cl, .ref a_te, .ref a_ki, .ref a_ty, .ref a_bl, .ref a_ex, .ref a_lo, .int v_nl, .ref a_ho, .ref a_fi, .int (nf + 1), .ref a_cz, .int v_nc])), (a_ru, .inl (k_ru, 410, .inl f_ru)), (a_ki, .inl (k_ki, 50, .inl f_ki)), (a_ty, .inl (k_ty, 50, .inl f_ty)), (a_ex, .inl (k_ex, 2000, .inl f_ex)), (a_fi, .inl (k_fi, 40, .inl (upd fj k.toNatClampNeg r)))] := hD
            refine lv_iinc (v := r + 1) (lv' := [(4, .int (r + 1)), (5, .int k), (0, .ref a_m), (1, .int p0), (2, .int p1), (3, .int p2)]) hx hb d_M_find_117 hl (k := 1) rfl rfl (by decide) rfl (fun ls hl => ?_)
            refine lv_goto (tgt := 8) hx hb d_M_find_120 (by decide) ?_
            exact ih_find _ _ _ _ _ _ ⟨hP, hD, hS, lv_sub hl [0, 2, 3, 4, 5] rfl, (li_s40 hr0 (li_ltn0 hr0 c_2 hn.2)), ((fun _ => nf_b hnf (li_ltn0 hr0 c_2 hn.2)) c_7), ((fun _ => fi_b hk (nf_lt hnf (li_ltn0 hr0 c_2 hn.2)) (li_ltn0 hr0 c_2 hn.2) hfj) c_7), (li_m40 hr0 (li_ltn0 hr0 c_2 hn.2) hm_find), hg_find⟩
          · rw [if_neg c_7] at hg_ins
            refine lv_aload_n hx hb d_M_find_40 rfl (lv_at hl 2 rfl) ?_
            refine va_get (D := (dC, dI)) (ci := 5) (v := .ref a_ru) (C := "LoanRulesModel") (T := Fz_M) (N := 22) hx hb hts it_M hown hK hP 0 rfl rfl 5 (by decide) (hts _ tw_606) (fun _ h9 => h9) rfl d_M_find_41 ?_
            refine lv_bipush (v := 10) hx hb d_M_find_44 (by decide) ?_
            refine lv_aload_n hx hb d_M_find_46 rfl (lv_at hl 2 rfl) ?_
            refine va_get (D := (dC, dI)) (ci := 5) (v := .ref a_fi) (C := "LoanRulesModel") (T := Fz_M) (N := 22) hx hb hts it_M hown hK hP 0 rfl rfl 18 (by decide) (hts _ tw_619) (fun _ h9 => h9) rfl d_M_find_47 ?_
            refine lv_iload hx hb d_M_find_50 (lv_at hl 0 rfl) ?_
            refine lv_iconst (v := 1) hx hb d_M_find_52 (by decide) ?_
            refine lv_isub hx hb d_M_find_53 ?_
            have i_9 : vp_in (k - 1) 40 := in40 (fj_k1 hk (nf_lt hnf (li_ltn0 hr0 c_2 hn.2)) c_7)
            refine va_iald (D := (dC, dI)) hx hb hK hP 5 4 rfl rfl i_9 d_M_find_54 ?_
            refine lv_imul hx hb d_M_find_55 ?_
            refine lv_bipush (v := 8) hx hb d_M_find_56 (by decide) ?_
            refine lv_iadd hx hb d_M_find_58 ?_
            have i_10 : vp_in ((10 * (fj (k - 1).toNatClampNeg)) + 8) 410 := ix10 (r40 (fj_v hk (nf_lt hnf (li_ltn0 hr0 c_2 hn.2)) hfj c_7)) (by decide)
            refine va_iald (D := (dC, dI)) hx hb hK hP 1 0 rfl rfl i_10 d_M_find_59 ?_
            refine lv_aload_n hx hb d_M_find_60 rfl (lv_at hl 2 rfl) ?_
            refine va_get (D := (dC, dI)) (ci := 5) (v := .ref a_ru) (C := "LoanRulesModel") (T := Fz_M) (N := 22) hx hb hts it_M hown hK hP 0 rfl rfl 5 (by decide) (hts _ tw_606) (fun _ h9 => h9) rfl d_M_find_61 ?_
            refine lv_bipush (v := 10) hx hb d_M_find_64 (by decide) ?_
            refine lv_iload hx hb d_M_find_66 (lv_at hl 1 rfl) ?_
            refine lv_imul hx hb d_M_find_68 ?_
            refine lv_bipush (v := 8) hx hb d_M_find_69 (by decide) ?_
            refine lv_iadd hx hb d_M_find_71 ?_
            have i_11 : vp_in ((10 * r) + 8) 410 := ix10 (r40 (li_ltn0 hr0 c_2 hn.2)) (by decide)
            refine va_iald (D := (dC, dI)) hx hb hK hP 1 0 rfl rfl i_11 d_M_find_72 ?_
            refine lv_icmp_ge (tgt := 98) hx hb d_M_find_73 (by decide) (fun c_12 => ?_) (fun c_12 => ?_)
            · rw [if_pos c_12] at hg_ins
              subst hg_ins
              dsimp only at hg_find
              refine lv_aload_n hx hb d_M_find_98 rfl (lv_at hl 2 rfl) ?_
              refine va_get (D := (dC, dI)) (ci := 5) (v := .ref a_fi) (C := "LoanRulesModel") (T := Fz_M) (N := 22) hx hb hts it_M hown hK hP 0 rfl rfl 18 (by decide) (hts _ tw_619) (fun _ h9 => h9) rfl d_M_find_99 ?_
              refine lv_iload hx hb d_M_find_102 (lv_at hl 0 rfl) ?_
              refine lv_iload hx hb d_M_find_104 (lv_at hl 1 rfl) ?_
              have i_13 : vp_in k 40 := k_in hk (nf_lt hnf (li_ltn0 hr0 c_2 hn.2))
              refine va_iast (D := (dC, dI)) hx hb hK hP hD hS 5 4 rfl rfl i_13 d_M_find_106 (fun H locs hP hD hS => ?_)
              replace hP : va_P (dC, dI) vwCl [(a_m, .inr (5, [.int v_th, .ref a_sa, .int v_sz, .int v_at, .int v_wr, .ref a_ru, .ref a_me, .ref a_le, .int v_n, .ref a_cl, .ref a_te, .ref a_ki, .ref a_ty, .ref a_bl, .ref a_ex, .ref a_lo, .int v_nl, .ref a_ho, .ref a_fi, .int nf, .ref a_cz, .int v_nc])), (a_ru, .inl (k_ru, 410, .inl f_ru)), (a_ki, .inl (k_ki, 50, .inl f_ki)), (a_ty, .inl (k_ty, 50, .inl f_ty)), (a_ex, .inl (k_ex, 2000, .inl f_ex)), (a_fi, .inl (k_fi, 40, .inl (upd fj k.toNatClampNeg r)))] H := hP
              replace hD : va_D A [(a_m, .inr (5, [.int v_th, .ref a_sa, .int v_sz, .int v_at, .int v_wr, .ref a_ru, .ref a_me, .ref a_le, .int v_n, .ref a_cl, .ref a_te, .ref a_ki, .ref a_ty, .ref a_bl, .ref a_ex, .ref a_lo, .int v_nl, .ref a_ho, .ref a_fi, .int nf, .ref a_cz, .int v_nc])), (a_ru, .inl (k_ru, 410, .inl f_ru)), (a_ki, .inl (k_ki, 50, .inl f_ki)), (a_ty, .inl (k_ty, 50, .inl f_ty)), (a_ex, .inl (k_ex, 2000, .inl f_ex)), (a_fi, .inl (k_fi, 40, .inl (upd fj k.toNatClampNeg r)))] := hD
              refine lv_aload_n hx hb d_M_find_107 rfl (lv_at hl 2 rfl) ?_
              refine lv_dup hx hb d_M_find_108 rfl ?_
              refine va_get (D := (dC, dI)) (ci := 5) (v := .int nf) (C := "LoanRulesModel") (T := Fz_M) (N := 22) hx hb hts it_M hown hK hP 0 rfl rfl 19 (by decide) (hts _ tw_620) (fun _ h9 => h9) rfl d_M_find_109 ?_
              refine lv_iconst (v := 1) hx hb d_M_find_112 (by decide) ?_
              refine lv_iadd hx hb d_M_find_113 ?_
              refine va_put (D := (dC, dI)) (ci := 5) (v := .int (nf + 1)) (ty := .int) (C := "LoanRulesModel") (T := Fz_M) (N := 22) hx hb hts it_M tz_M tz_M_ok nz_M hown hK hP hD hS 0 rfl rfl 19 (by decide) (hts _ tw_620) (fun _ h9 => h9) rfl (by decide +kernel) rfl rfl (Nat.le_of_ble_eq_true rfl) d_M_find_114 (fun H locs hP hD hS => ?_)
              replace hP : va_P (dC, dI) vwCl [(a_m, .inr (5, [.int v_th, .ref a_sa, .int v_sz, .int v_at, .int v_wr, .ref a_ru, .ref a_me, .ref a_le, .int v_n, .ref a_cl, .ref a_te, .ref a_ki, .ref a_ty, .ref a_bl, .ref a_ex, .ref a_lo, .int v_nl, .ref a_ho, .ref a_fi, .int (nf + 1), .ref a_cz, .int v_nc])), (a_ru, .inl (k_ru, 410, .inl f_ru)), (a_ki, .inl (k_ki, 50, .inl f_ki)), (a_ty, .inl (k_ty, 50, .inl f_ty)), (a_ex, .inl (k_ex, 2000, .inl f_ex)), (a_fi, .inl (k_fi, 40, .inl (upd fj k.toNatClampNeg r)))] H := hP
              replace hD : va_D A [(a_m, .inr (5, [.int v_th, .ref a_sa, .int v_sz, .int v_at, .int v_wr, .ref a_ru, .ref a_me, .ref a_le, .int v_n, .ref a_cl, .ref a_te, .ref a_ki, .ref a_ty, .ref a_bl, .ref a_ex, .ref a_lo, .int v_nl, .ref a_ho, .ref a_fi, .int (nf + 1), .ref a_cz, .int v_nc])), (a_ru, .inl (k_ru, 410, .inl f_ru)), (a_ki, .inl (k_ki, 50, .inl f_ki)), (a_ty, .inl (k_ty, 50, .inl f_ty)), (a_ex, .inl (k_ex, 2000, .inl f_ex)), (a_fi, .inl (k_fi, 40, .inl (upd fj k.toNatClampNeg r)))] := hD
              refine lv_iinc (v := r + 1) (lv' := [(4, .int (r + 1)), (5, .int k), (0, .ref a_m), (1, .int p0), (2, .int p1), (3, .int p2)]) hx hb d_M_find_117 hl (k := 1) rfl rfl (by decide) rfl (fun ls hl => ?_)
              refine lv_goto (tgt := 8) hx hb d_M_find_120 (by decide) ?_
              exact ih_find _ _ _ _ _ _ ⟨hP, hD, hS, lv_sub hl [0, 2, 3, 4, 5] rfl, (li_s40 hr0 (li_ltn0 hr0 c_2 hn.2)), ((fun _ => nf_b hnf (li_ltn0 hr0 c_2 hn.2)) c_7), ((fun _ => fi_b hk (nf_lt hnf (li_ltn0 hr0 c_2 hn.2)) (li_ltn0 hr0 c_2 hn.2) hfj) c_7), (li_m40 hr0 (li_ltn0 hr0 c_2 hn.2) hm_find), hg_find⟩
            · rw [if_neg c_12] at hg_ins
              refine lv_aload_n hx hb d_M_find_76 rfl (lv_at hl 2 rfl) ?_
              refine va_get (D := (dC, dI)) (ci := 5) (v := .ref a_fi) (C := "LoanRulesModel") (T := Fz_M) (N := 22) hx hb hts it_M hown hK hP 0 rfl rfl 18 (by decide) (hts _ tw_619) (fun _ h9 => h9) rfl d_M_find_77 ?_
              refine lv_iload hx hb d_M_find_80 (lv_at hl 0 rfl) ?_
              refine lv_aload_n hx hb d_M_find_82 rfl (lv_at hl 2 rfl) ?_
              refine va_get (D := (dC, dI)) (ci := 5) (v := .ref a_fi) (C := "LoanRulesModel") (T := Fz_M) (N := 22) hx hb hts it_M hown hK hP 0 rfl rfl 18 (by decide) (hts _ tw_619) (fun _ h9 => h9) rfl d_M_find_83 ?_
              refine lv_iload hx hb d_M_find_86 (lv_at hl 0 rfl) ?_
              refine lv_iconst (v := 1) hx hb d_M_find_88 (by decide) ?_
              refine lv_isub hx hb d_M_find_89 ?_
              have i_14 : vp_in (k - 1) 40 := in40 (fj_k1 hk (nf_lt hnf (li_ltn0 hr0 c_2 hn.2)) c_7)
              refine va_iald (D := (dC, dI)) hx hb hK hP 5 4 rfl rfl i_14 d_M_find_90 ?_
              have i_15 : vp_in k 40 := k_in hk (nf_lt hnf (li_ltn0 hr0 c_2 hn.2))
              refine va_iast (D := (dC, dI)) hx hb hK hP hD hS 5 4 rfl rfl i_15 d_M_find_91 (fun H locs hP hD hS => ?_)
              replace hP : va_P (dC, dI) vwCl [(a_m, .inr (5, [.int v_th, .ref a_sa, .int v_sz, .int v_at, .int v_wr, .ref a_ru, .ref a_me, .ref a_le, .int v_n, .ref a_cl, .ref a_te, .ref a_ki, .ref a_ty, .ref a_bl, .ref a_ex, .ref a_lo, .int v_nl, .ref a_ho, .ref a_fi, .int nf, .ref a_cz, .int v_nc])), (a_ru, .inl (k_ru, 410, .inl f_ru)), (a_ki, .inl (k_ki, 50, .inl f_ki)), (a_ty, .inl (k_ty, 50, .inl f_ty)), (a_ex, .inl (k_ex, 2000, .inl f_ex)), (a_fi, .inl (k_fi, 40, .inl (upd fj k.toNatClampNeg (fj (k - 1).toNatClampNeg))))] H := hP
              replace hD : va_D A [(a_m, .inr (5, [.int v_th, .ref a_sa, .int v_sz, .int v_at, .int v_wr, .ref a_ru, .ref a_me, .ref a_le, .int v_n, .ref a_cl, .ref a_te, .ref a_ki, .ref a_ty, .ref a_bl, .ref a_ex, .ref a_lo, .int v_nl, .ref a_ho, .ref a_fi, .int nf, .ref a_cz, .int v_nc])), (a_ru, .inl (k_ru, 410, .inl f_ru)), (a_ki, .inl (k_ki, 50, .inl f_ki)), (a_ty, .inl (k_ty, 50, .inl f_ty)), (a_ex, .inl (k_ex, 2000, .inl f_ex)), (a_fi, .inl (k_fi, 40, .inl (upd fj k.toNatClampNeg (fj (k - 1).toNatClampNeg))))] := hD
              refine lv_iinc (v := k + (-1)) (lv' := [(5, .int (k + (-1))), (4, .int r), (0, .ref a_m), (1, .int p0), (2, .int p1), (3, .int p2)]) hx hb d_M_find_92 hl (k := 0) rfl rfl (by decide) rfl (fun ls hl => ?_)
              refine lv_goto (tgt := 35) hx hb d_M_find_95 (by decide) ?_
              exact ih_ins _ _ _ _ _ ⟨hP, hD, hS, lv_sub hl [0, 1, 2, 3, 4, 5] rfl, (fj_k hk (nf_lt hnf (li_ltn0 hr0 c_2 hn.2)) c_7), (fj_s hk (nf_lt hnf (li_ltn0 hr0 c_2 hn.2)) hfj c_7), (fj_m hk (nf_lt hnf (li_ltn0 hr0 c_2 hn.2)) c_7 hm_ins), hg_ins⟩
theorem gl_ins_ok {f_ru : Nat → Int32} {r nf : Int32} (hn : nf.toInt < 40) : ∀ (n : Nat) (k : Int32) (fj : Nat → Int32), 0 ≤ k.toInt ∧ k.toInt ≤ nf.toInt → (∀ j : Nat, (j : Int) ≤ nf.toInt → (j : Int) ≠ k.toInt → v40 (fj j)) → (0 ≤ (gl_ins n f_ru r k fj).1.toInt ∧ (gl_ins n f_ru r k fj).1.toInt ≤ nf.toInt) ∧ ∀ j : Nat, (j : Int) ≤ nf.toInt → (j : Int) ≠ (gl_ins n f_ru r k fj).1.toInt → v40 ((gl_ins n f_ru r k fj).2 j) := by
  intro n
  induction n with
  | zero => intro k fj hk hfj; exact ⟨hk, hfj⟩
  | succ n ih =>
    intro k fj hk hfj
    rw [gl_ins]
    by_cases c : k ≤ 0
    · rw [if_pos c]; exact ⟨hk, hfj⟩
    · rw [if_neg c]
      by_cases c2 : (f_ru ((10 * r) + 8).toNatClampNeg) ≤ (f_ru ((10 * (fj (k - 1).toNatClampNeg)) + 8).toNatClampNeg)
      · rw [if_pos c2]; exact ⟨hk, hfj⟩
      · rw [if_neg c2]; exact ih _ _ (fj_k hk hn c) (fj_s hk hn hfj c)
theorem gl_find_ok {p0 p1 p2 v_n : Int32} {f_ru f_ki f_ty f_ex : Nat → Int32} (hn : v_n.toInt ≤ 40) : ∀ (n : Nat) (r nf : Int32) (fi : Nat → Int32), 0 ≤ r.toInt ∧ r.toInt ≤ 40 → 0 ≤ nf.toInt ∧ nf.toInt ≤ r.toInt → (∀ j : Nat, (j : Int) < nf.toInt → v40 (fi j)) → (0 ≤ (gl_find n p0 p1 p2 v_n f_ru f_ki f_ty f_ex r nf fi).2.1.toInt ∧ (gl_find n p0 p1 p2 v_n f_ru f_ki f_ty f_ex r nf fi).2.1.toInt ≤ 40) ∧ ∀ j : Nat, (j : Int) < (gl_find n p0 p1 p2 v_n f_ru f_ki f_ty f_ex r nf fi).2.1.toInt → v40 ((gl_find n p0 p1 p2 v_n f_ru f_ki f_ty f_ex r nf fi).2.2 j) := by
  intro n
  induction n with
  | zero => intro r nf fi hr hnf hfi; exact ⟨by show 0 ≤ nf.toInt ∧ nf.toInt ≤ 40; omega, hfi⟩
  | succ n ih =>
    intro r nf fi hr hnf hfi
    rw [gl_find]
    by_cases c : v_n ≤ r
    · rw [if_pos c]; exact ⟨by show 0 ≤ nf.toInt ∧ nf.toInt ≤ 40; omega, hfi⟩
    · rw [if_neg c]
      have hr4 := li_ltn0 hr c hn
      by_cases c2 : (g_Mg_fitsFor r p0 p1 p2 f_ru f_ki f_ty f_ex) = 0
      · rw [if_pos c2]; exact ih _ _ _ (li_s40 hr hr4) (nf_a hnf hr4) hfi
      · rw [if_neg c2]
        rw [bv_eq]
        have h := gl_ins_ok (f_ru := f_ru) (r := r) (nf_lt hnf hr4) 41 nf fi ⟨hnf.1, Int.le_refl _⟩ (fun j h1 h2 => hfi j (by omega))
        exact ih _ _ _ (li_s40 hr hr4) (nf_b hnf hr4) (fi_b h.1 (nf_lt hnf hr4) hr4 h.2)
theorem find_ok {p0 p1 p2 v_n : Int32} {f_ru f_ki f_ty f_ex f_fi : Nat → Int32} (hn : v_n.toInt ≤ 40) : (0 ≤ (g_Mg_find p0 p1 p2 v_n f_ru f_ki f_ty f_ex f_fi).1.toInt ∧ (g_Mg_find p0 p1 p2 v_n f_ru f_ki f_ty f_ex f_fi).1.toInt ≤ 40) ∧ ∀ j : Nat, (j : Int) < (g_Mg_find p0 p1 p2 v_n f_ru f_ki f_ty f_ex f_fi).1.toInt → v40 ((g_Mg_find p0 p1 p2 v_n f_ru f_ki f_ty f_ex f_fi).2 j) := by
  unfold g_Mg_find
  rw [bv_eq]
  exact gl_find_ok hn 41 0 0 f_fi (by decide) (by decide) (fun j h => absurd h (by rw [li_0]; omega))
theorem find_okx {p0 p1 p2 v_n : Int32} {f_ru f_ki f_ty f_ex f_fi : Nat → Int32} {x : Int32 × (Nat → Int32)} (e : g_Mg_find p0 p1 p2 v_n f_ru f_ki f_ty f_ex f_fi = x) (hn : v_n.toInt ≤ 40) : (0 ≤ x.1.toInt ∧ x.1.toInt ≤ 40) ∧ ∀ j : Nat, (j : Int) < x.1.toInt → v40 (x.2 j) := e ▸ find_ok hn
theorem f0w {x : Int32 × (Nat → Int32)} (h : (0 ≤ x.1.toInt ∧ x.1.toInt ≤ 40) ∧ ∀ j : Nat, (j : Int) < x.1.toInt → v40 (x.2 j)) (c : ¬ x.1 = 0) : v40 (x.2 (0 : Int32).toNatClampNeg) := by
  have n0 : x.1.toInt ≠ 0 := fun q => c (Int32.toInt_inj.mp (by rw [q, li_0]))
  exact h.2 0 (by omega)
theorem li_nl1 {nl : Int32} (h : 0 ≤ nl.toInt ∧ nl.toInt ≤ 200) (c : ¬ nl = 200) : 0 < (nl + 1).toInt ∧ (nl + 1).toInt ≤ 200 := by
  have e : (200 : Int32).toInt = 200 := by decide
  have n0 : nl.toInt ≠ 200 := fun q => c (Int32.toInt_inj.mp (by rw [q, e]))
  rw [li_inc (by omega) (by omega)]; omega
def gl_clashes : Nat → (Int32) → (Nat → Int32) → (Nat → Int32) → (Int32) → Nat × Int32
  | 0, v_nc, f_fi, f_cz, k => (0, k)
  | n + 1, v_nc, f_fi, f_cz, k =>
    if v_nc ≤ k then
      (0, k)
    else
      if (f_cz (2 * k).toNatClampNeg) = (f_fi (0 : Int32).toNatClampNeg) then
        if (f_cz ((2 * k) + 1).toNatClampNeg) = (f_fi (1 : Int32).toNatClampNeg) then
          (1, k)
        else
          gl_clashes n v_nc f_fi f_cz (k + 1)
      else
        gl_clashes n v_nc f_fi f_cz (k + 1)
def g_Mg_clashes (v_nf : Int32) (v_nc : Int32) (f_ru : Nat → Int32) (f_fi : Nat → Int32) (f_cz : Nat → Int32) : Int32 × (Nat → Int32) :=
  if v_nf < 2 then
    (v_nc, f_cz)
  else
    if (f_ru ((10 * (f_fi (0 : Int32).toNatClampNeg)) + 8).toNatClampNeg) = (f_ru ((10 * (f_fi (1 : Int32).toNatClampNeg)) + 8).toNatClampNeg) then
      bv (gl_clashes 801 v_nc f_fi f_cz 0) (fun x_7 =>
        if x_7.1 = 0 then
          (v_nc + 1, upd (upd f_cz (2 * v_nc).toNatClampNeg (f_fi (0 : Int32).toNatClampNeg)) ((2 * v_nc) + 1).toNatClampNeg (f_fi (1 : Int32).toNatClampNeg))
        else
          (v_nc, f_cz))
    else
      (v_nc, f_cz)
set_option maxHeartbeats 4000000 in
set_option maxRecDepth 100000 in
theorem c_Mg_clashes (l : Launch) (dC : Nat → ClassId) (dI : Nat → Nat → Nat) (adK adV : Nat → Nat) (a_m : Nat) (a_ru : Nat) (a_fi : Nat) (a_cz : Nat) (k_ru : ClassId) (k_fi : ClassId) (k_cz : ClassId) (v_th : Int32) (a_sa : Nat) (v_sz : Int32) (v_at : Int32) (v_wr : Int32) (a_me : Nat) (a_le : Nat) (v_n : Int32) (a_cl : Nat) (a_te : Nat) (a_ki : Nat) (a_ty : Nat) (a_bl : Nat) (a_ex : Nat) (a_lo : Nat) (v_nl : Int32) (a_ho : Nat) (v_nf : Int32) (v_nc : Int32) (f_ru : Nat → Int32) (f_fi : Nat → Int32) (f_cz : Nat → Int32) (sz : Nat) (hfi : ∀ j : Nat, (j : Int) < v_nf.toInt → v40 (f_fi j)) (hnc : 0 ≤ v_nc.toInt ∧ v_nc.toInt ≤ 799) : Met l y_M_clashes ws_M_clashes ({ frames := 0, cells := 0, slots := 0, locals := 0 }) (va_Pc [.ref a_m] (fun U => U.heap.size = sz ∧ zz adK adV (va_A [(a_m, .inr (5, [.int v_th, .ref a_sa, .int v_sz, .int v_at, .int v_wr, .ref a_ru, .ref a_me, .ref a_le, .int v_n, .ref a_cl, .ref a_te, .ref a_ki, .ref a_ty, .ref a_bl, .ref a_ex, .ref a_lo, .int v_nl, .ref a_ho, .ref a_fi, .int v_nf, .ref a_cz, .int v_nc])), (a_ru, .inl (k_ru, 410, .inl f_ru)), (a_fi, .inl (k_fi, 40, .inl f_fi)), (a_cz, .inl (k_cz, 1600, .inl f_cz))] sz) U ∧ va_P (dC, dI) vwCl [(a_m, .inr (5, [.int v_th, .ref a_sa, .int v_sz, .int v_at, .int v_wr, .ref a_ru, .ref a_me, .ref a_le, .int v_n, .ref a_cl, .ref a_te, .ref a_ki, .ref a_ty, .ref a_bl, .ref a_ex, .ref a_lo, .int v_nl, .ref a_ho, .ref a_fi, .int v_nf, .ref a_cz, .int v_nc])), (a_ru, .inl (k_ru, 410, .inl f_ru)), (a_fi, .inl (k_fi, 40, .inl f_fi)), (a_cz, .inl (k_cz, 1600, .inl f_cz))] U.heap ∧ va_K (dC, dI) vwCl [(k_ru, .int), (k_fi, .int), (k_cz, .int)] U ∧ va_D (fun _ => True) [(a_m, .inr (5, [.int v_th, .ref a_sa, .int v_sz, .int v_at, .int v_wr, .ref a_ru, .ref a_me, .ref a_le, .int v_n, .ref a_cl, .ref a_te, .ref a_ki, .ref a_ty, .ref a_bl, .ref a_ex, .ref a_lo, .int v_nl, .ref a_ho, .ref a_fi, .int v_nf, .ref a_cz, .int v_nc])), (a_ru, .inl (k_ru, 410, .inl f_ru)), (a_fi, .inl (k_fi, 40, .inl f_fi)), (a_cz, .inl (k_cz, 1600, .inl f_cz))])) (va_Qv (fun _ : Unit => True) (fun (_ : Unit) (t : State) => va_P (dC, dI) vwCl [(a_m, .inr (5, [.int v_th, .ref a_sa, .int v_sz, .int v_at, .int v_wr, .ref a_ru, .ref a_me, .ref a_le, .int v_n, .ref a_cl, .ref a_te, .ref a_ki, .ref a_ty, .ref a_bl, .ref a_ex, .ref a_lo, .int v_nl, .ref a_ho, .ref a_fi, .int v_nf, .ref a_cz, .int ((g_Mg_clashes v_nf v_nc f_ru f_fi f_cz).1)])), (a_ru, .inl (k_ru, 410, .inl f_ru)), (a_fi, .inl (k_fi, 40, .inl f_fi)), (a_cz, .inl (k_cz, 1600, .inl ((g_Mg_clashes v_nf v_nc f_ru f_fi f_cz).2)))] t.heap ∧ va_K (dC, dI) vwCl [(k_ru, .int), (k_fi, .int), (k_cz, .int)] t ∧ va_D (va_A [(a_m, .inr (5, [.int v_th, .ref a_sa, .int v_sz, .int v_at, .int v_wr, .ref a_ru, .ref a_me, .ref a_le, .int v_n, .ref a_cl, .ref a_te, .ref a_ki, .ref a_ty, .ref a_bl, .ref a_ex, .ref a_lo, .int v_nl, .ref a_ho, .ref a_fi, .int v_nf, .ref a_cz, .int v_nc])), (a_ru, .inl (k_ru, 410, .inl f_ru)), (a_fi, .inl (k_fi, 40, .inl f_fi)), (a_cz, .inl (k_cz, 1600, .inl f_cz))] sz) [(a_m, .inr (5, [.int v_th, .ref a_sa, .int v_sz, .int v_at, .int v_wr, .ref a_ru, .ref a_me, .ref a_le, .int v_n, .ref a_cl, .ref a_te, .ref a_ki, .ref a_ty, .ref a_bl, .ref a_ex, .ref a_lo, .int v_nl, .ref a_ho, .ref a_fi, .int v_nf, .ref a_cz, .int ((g_Mg_clashes v_nf v_nc f_ru f_fi f_cz).1)])), (a_ru, .inl (k_ru, 410, .inl f_ru)), (a_fi, .inl (k_fi, 40, .inl f_fi)), (a_cz, .inl (k_cz, 1600, .inl ((g_Mg_clashes v_nf v_nc f_ru f_fi f_cz).2)))]) (va_A [(a_m, .inr (5, [.int v_th, .ref a_sa, .int v_sz, .int v_at, .int v_wr, .ref a_ru, .ref a_me, .ref a_le, .int v_n, .ref a_cl, .ref a_te, .ref a_ki, .ref a_ty, .ref a_bl, .ref a_ex, .ref a_lo, .int v_nl, .ref a_ho, .ref a_fi, .int v_nf, .ref a_cz, .int v_nc])), (a_ru, .inl (k_ru, 410, .inl f_ru)), (a_fi, .inl (k_fi, 40, .inl f_fi)), (a_cz, .inl (k_cz, 1600, .inl f_cz))] sz)) 0 0 (va_A [(a_m, .inr (5, [.int v_th, .ref a_sa, .int v_sz, .int v_at, .int v_wr, .ref a_ru, .ref a_me, .ref a_le, .int v_n, .ref a_cl, .ref a_te, .ref a_ki, .ref a_ty, .ref a_bl, .ref a_ex, .ref a_lo, .int v_nl, .ref a_ho, .ref a_fi, .int v_nf, .ref a_cz, .int v_nc])), (a_ru, .inl (k_ru, 410, .inl f_ru)), (a_fi, .inl (k_fi, 40, .inl f_fi)), (a_cz, .inl (k_cz, 1600, .inl f_cz))] sz) := by
  refine Met.ofW (cc := c_M_clashes) (maxL := 2) (ret := none) (by decide) rfl ?_
  intro p e s m args below meth c s₁ B hml hv
  obtain ⟨rfl, hsz, hZ, hP, hK, hD0⟩ := hv
  have hx := B.exec
  have hb := B.bytes
  have hr := B.returns
  have hts0 := atoms_spec (ws := ws_M_clashes) B.pre
  have hts : ∀ w ∈ TT, w.before _ s = true := fun w h => hts0 w (List.mem_cons_of_mem _ h)
  have hown : s.vm.findClass "LoanRulesModel" = some m.cls := findClass_of_methodNamed B.named
  have hlocks := B.notSynchronized
  subst hsz
  have hD := hD0.self (sz := s.heap.size)
  generalize hAe : va_A [(a_m, .inr (5, [.int v_th, .ref a_sa, .int v_sz, .int v_at, .int v_wr, .ref a_ru, .ref a_me, .ref a_le, .int v_n, .ref a_cl, .ref a_te, .ref a_ki, .ref a_ty, .ref a_bl, .ref a_ex, .ref a_lo, .int v_nl, .ref a_ho, .ref a_fi, .int v_nf, .ref a_cz, .int v_nc])), (a_ru, .inl (k_ru, 410, .inl f_ru)), (a_fi, .inl (k_fi, 40, .inl f_fi)), (a_cz, .inl (k_cz, 1600, .inl f_cz))] s.heap.size = A at hD hZ ⊢
  have hA : ∀ q : Nat, s.heap.size ≤ q → A q := fun q h => by rw [← hAe]; exact Or.inr h
  clear hAe hD0
  have hS : va_S A s.heap s.heap [] := va_S.rf
  replace hP : va_P (dC, dI) vwCl [(a_m, .inr (5, [.int v_th, .ref a_sa, .int v_sz, .int v_at, .int v_wr, .ref a_ru, .ref a_me, .ref a_le, .int v_n, .ref a_cl, .ref a_te, .ref a_ki, .ref a_ty, .ref a_bl, .ref a_ex, .ref a_lo, .int v_nl, .ref a_ho, .ref a_fi, .int v_nf, .ref a_cz, .int v_nc])), (a_ru, .inl (k_ru, 410, .inl f_ru)), (a_fi, .inl (k_fi, 40, .inl f_fi)), (a_cz, .inl (k_cz, 1600, .inl f_cz))] s.heap := hP
  have hl := lv_entry ([.ref a_m]) (n := 2) (Nat.le_of_ble_eq_true rfl)
  rw [lg_entry_eq]
  generalize (lg_sl ([.ref a_m]) ++ List.replicate (2 - (lg_sl ([.ref a_m])).length) Slot.unset).toArray = ls at hl ⊢
  replace hl : lv_has ls 2 [(0, .ref a_m)] := hl
  obtain ⟨z, hz⟩ : ∃ z, z = g_Mg_clashes v_nf v_nc f_ru f_fi f_cz := ⟨_, rfl⟩
  have hE := hz
  rw [g_Mg_clashes] at hE
  refine lv_aload_n hx hb d_M_clashes_0 rfl (lv_at hl 0 rfl) ?_
  refine va_get (D := (dC, dI)) (ci := 5) (v := .int v_nf) (C := "LoanRulesModel") (T := Fz_M) (N := 22) hx hb hts it_M hown hK hP 0 rfl rfl 19 (by decide) (hts _ tw_620) (fun _ h9 => h9) rfl d_M_clashes_1 ?_
  refine lv_iconst (v := 2) hx hb d_M_clashes_4 (by decide) ?_
  refine lv_icmp_lt (tgt := 45) hx hb d_M_clashes_5 (by decide) (fun c_1 => ?_) (fun c_1 => ?_)
  · rw [if_pos c_1] at hE
    have hP9 := hP.sub (ws' := [(a_m, .inr (5, [.int v_th, .ref a_sa, .int v_sz, .int v_at, .int v_wr, .ref a_ru, .ref a_me, .ref a_le, .int v_n, .ref a_cl, .ref a_te, .ref a_ki, .ref a_ty, .ref a_bl, .ref a_ex, .ref a_lo, .int v_nl, .ref a_ho, .ref a_fi, .int v_nf, .ref a_cz, .int v_nc])), (a_ru, .inl (k_ru, 410, .inl f_ru)), (a_fi, .inl (k_fi, 40, .inl f_fi)), (a_cz, .inl (k_cz, 1600, .inl f_cz))]) [0, 1, 2, 3] rfl
    have hD9 := hD.sub (ws' := [(a_m, .inr (5, [.int v_th, .ref a_sa, .int v_sz, .int v_at, .int v_wr, .ref a_ru, .ref a_me, .ref a_le, .int v_n, .ref a_cl, .ref a_te, .ref a_ki, .ref a_ty, .ref a_bl, .ref a_ex, .ref a_lo, .int v_nl, .ref a_ho, .ref a_fi, .int v_nf, .ref a_cz, .int v_nc])), (a_ru, .inl (k_ru, 410, .inl f_ru)), (a_fi, .inl (k_fi, 40, .inl f_fi)), (a_cz, .inl (k_cz, 1600, .inl f_cz))]) [0, 1, 2, 3] (by decide) rfl
    have hK9 := hK.sub (tys' := [(k_ru, .int), (k_fi, .int), (k_cz, .int)]) [0, 1, 2] rfl
    exact W.vret hx hb hr (fun t ht hW => ⟨⟨(), rfl, trivial, by rw [ht, ← hz, hE]; exact hP9, va_K.moved hW.alike hK9, by rw [← hz, hE]; exact hD9⟩, hS.F ht⟩) hS.2.2 d_M_clashes_45
  · rw [if_neg c_1] at hE
    refine lv_aload_n hx hb d_M_clashes_8 rfl (lv_at hl 0 rfl) ?_
    refine va_get (D := (dC, dI)) (ci := 5) (v := .ref a_ru) (C := "LoanRulesModel") (T := Fz_M) (N := 22) hx hb hts it_M hown hK hP 0 rfl rfl 5 (by decide) (hts _ tw_606) (fun _ h9 => h9) rfl d_M_clashes_9 ?_
    refine lv_bipush (v := 10) hx hb d_M_clashes_12 (by decide) ?_
    refine lv_aload_n hx hb d_M_clashes_14 rfl (lv_at hl 0 rfl) ?_
    refine va_get (D := (dC, dI)) (ci := 5) (v := .ref a_fi) (C := "LoanRulesModel") (T := Fz_M) (N := 22) hx hb hts it_M hown hK hP 0 rfl rfl 18 (by decide) (hts _ tw_619) (fun _ h9 => h9) rfl d_M_clashes_15 ?_
    refine lv_iconst (v := 0) hx hb d_M_clashes_18 (by decide) ?_
    have i_2 : vp_in 0 40 := by show ¬ (_ ∨ _); decide
    refine va_iald (D := (dC, dI)) hx hb hK hP 2 1 rfl rfl i_2 d_M_clashes_19 ?_
    refine lv_imul hx hb d_M_clashes_20 ?_
    refine lv_bipush (v := 8) hx hb d_M_clashes_21 (by decide) ?_
    refine lv_iadd hx hb d_M_clashes_23 ?_
    have i_3 : vp_in ((10 * (f_fi (0 : Int32).toNatClampNeg)) + 8) 410 := ix10 (r40 (f0v hfi c_1)) (by decide)
    refine va_iald (D := (dC, dI)) hx hb hK hP 1 0 rfl rfl i_3 d_M_clashes_24 ?_
    refine lv_aload_n hx hb d_M_clashes_25 rfl (lv_at hl 0 rfl) ?_
    refine va_get (D := (dC, dI)) (ci := 5) (v := .ref a_ru) (C := "LoanRulesModel") (T := Fz_M) (N := 22) hx hb hts it_M hown hK hP 0 rfl rfl 5 (by decide) (hts _ tw_606) (fun _ h9 => h9) rfl d_M_clashes_26 ?_
    refine lv_bipush (v := 10) hx hb d_M_clashes_29 (by decide) ?_
    refine lv_aload_n hx hb d_M_clashes_31 rfl (lv_at hl 0 rfl) ?_
    refine va_get (D := (dC, dI)) (ci := 5) (v := .ref a_fi) (C := "LoanRulesModel") (T := Fz_M) (N := 22) hx hb hts it_M hown hK hP 0 rfl rfl 18 (by decide) (hts _ tw_619) (fun _ h9 => h9) rfl d_M_clashes_32 ?_
    refine lv_iconst (v := 1) hx hb d_M_clashes_35 (by decide) ?_
    have i_4 : vp_in 1 40 := by show ¬ (_ ∨ _); decide
    refine va_iald (D := (dC, dI)) hx hb hK hP 2 1 rfl rfl i_4 d_M_clashes_36 ?_
    refine lv_imul hx hb d_M_clashes_37 ?_
    refine lv_bipush (v := 8) hx hb d_M_clashes_38 (by decide) ?_
    refine lv_iadd hx hb d_M_clashes_40 ?_
    have i_5 : vp_in ((10 * (f_fi (1 : Int32).toNatClampNeg)) + 8) 410 := ix10 (r40 (f1v hfi c_1)) (by decide)
    refine va_iald (D := (dC, dI)) hx hb hK hP 1 0 rfl rfl i_5 d_M_clashes_41 ?_
    refine lv_icmp_eq (tgt := 46) hx hb d_M_clashes_42 (by decide) (fun c_6 => ?_) (fun c_6 => ?_)
    · rw [if_pos c_6] at hE
      refine lv_iconst (v := 0) hx hb d_M_clashes_46 (by decide) ?_
      refine lv_istore_n (lv' := [(1, .int 0), (0, .ref a_m)]) hx hb d_M_clashes_47 rfl hl (by decide) rfl (fun ls hl => ?_)
      obtain ⟨H, hHe⟩ : ∃ H, H = s.heap := ⟨_, rfl⟩
      obtain ⟨locs, hLe⟩ : ∃ locs : List Loc, locs = [] := ⟨_, rfl⟩
      replace hP : va_P (dC, dI) vwCl [(a_m, .inr (5, [.int v_th, .ref a_sa, .int v_sz, .int v_at, .int v_wr, .ref a_ru, .ref a_me, .ref a_le, .int v_n, .ref a_cl, .ref a_te, .ref a_ki, .ref a_ty, .ref a_bl, .ref a_ex, .ref a_lo, .int v_nl, .ref a_ho, .ref a_fi, .int v_nf, .ref a_cz, .int v_nc])), (a_ru, .inl (k_ru, 410, .inl f_ru)), (a_fi, .inl (k_fi, 40, .inl f_fi)), (a_cz, .inl (k_cz, 1600, .inl f_cz))] H := by rw [hHe]; exact hP
      replace hS : va_S A s.heap H locs := by rw [hHe, hLe]; exact hS
      refine fl_gen hHe hLe ?_
      clear hHe hLe
      generalize hg_x_7 : gl_clashes 801 v_nc f_fi f_cz 0 = x_7 at hE
      rw [bv_eq] at hE
      obtain ⟨k, e_k⟩ : ∃ q9 : Int32, q9 = 0 := ⟨_, rfl⟩
      obtain ⟨n, e_n⟩ : ∃ q9 : Nat, q9 = 801 := ⟨_, rfl⟩
      have hAll : va_P (dC, dI) vwCl [(a_m, .inr (5, [.int v_th, .ref a_sa, .int v_sz, .int v_at, .int v_wr, .ref a_ru, .ref a_me, .ref a_le, .int v_n, .ref a_cl, .ref a_te, .ref a_ki, .ref a_ty, .ref a_bl, .ref a_ex, .ref a_lo, .int v_nl, .ref a_ho, .ref a_fi, .int v_nf, .ref a_cz, .int v_nc])), (a_ru, .inl (k_ru, 410, .inl f_ru)), (a_fi, .inl (k_fi, 40, .inl f_fi)), (a_cz, .inl (k_cz, 1600, .inl f_cz))] H ∧ va_D A [(a_m, .inr (5, [.int v_th, .ref a_sa, .int v_sz, .int v_at, .int v_wr, .ref a_ru, .ref a_me, .ref a_le, .int v_n, .ref a_cl, .ref a_te, .ref a_ki, .ref a_ty, .ref a_bl, .ref a_ex, .ref a_lo, .int v_nl, .ref a_ho, .ref a_fi, .int v_nf, .ref a_cz, .int v_nc])), (a_ru, .inl (k_ru, 410, .inl f_ru)), (a_fi, .inl (k_fi, 40, .inl f_fi)), (a_cz, .inl (k_cz, 1600, .inl f_cz))] ∧ va_S A s.heap H locs ∧ lv_has ls 2 [(1, .int k), (0, .ref a_m)] ∧ (0 ≤ k.toInt ∧ k.toInt ≤ 799) ∧ 800 - k.toInt.toNat ≤ n ∧ gl_clashes n v_nc f_fi f_cz k = x_7 := by
        subst e_k e_n
        exact ⟨hP, hD, hS, hl, by decide, by decide, hg_x_7⟩
      clear hP hl hD hS e_k e_n hg_x_7
      induction n generalizing k H locs ls with
      | zero =>
        obtain ⟨hP, hD, hS, hl, hk, hm_clashes, hg_clashes⟩ := hAll
        exfalso; omega
      | succ n ih_clashes =>
        obtain ⟨hP, hD, hS, hl, hk, hm_clashes, hg_clashes⟩ := hAll
        rw [gl_clashes] at hg_clashes
        refine lv_iload_n hx hb d_M_clashes_48 rfl (lv_at hl 0 rfl) ?_
        refine lv_aload_n hx hb d_M_clashes_49 rfl (lv_at hl 1 rfl) ?_
        refine va_get (D := (dC, dI)) (ci := 5) (v := .int v_nc) (C := "LoanRulesModel") (T := Fz_M) (N := 22) hx hb hts it_M hown hK hP 0 rfl rfl 21 (by decide) (hts _ tw_622) (fun _ h9 => h9) rfl d_M_clashes_50 ?_
        refine lv_icmp_ge (tgt := 99) hx hb d_M_clashes_53 (by decide) (fun c_8 => ?_) (fun c_8 => ?_)
        · rw [if_pos c_8] at hg_clashes
          subst hg_clashes
          dsimp only at hE
          rw [if_pos rfl] at hE
          refine lv_aload_n hx hb d_M_clashes_99 rfl (lv_at hl 1 rfl) ?_
          refine va_get (D := (dC, dI)) (ci := 5) (v := .ref a_cz) (C := "LoanRulesModel") (T := Fz_M) (N := 22) hx hb hts it_M hown hK hP 0 rfl rfl 20 (by decide) (hts _ tw_621) (fun _ h9 => h9) rfl d_M_clashes_100 ?_
          refine lv_iconst (v := 2) hx hb d_M_clashes_103 (by decide) ?_
          refine lv_aload_n hx hb d_M_clashes_104 rfl (lv_at hl 1 rfl) ?_
          refine va_get (D := (dC, dI)) (ci := 5) (v := .int v_nc) (C := "LoanRulesModel") (T := Fz_M) (N := 22) hx hb hts it_M hown hK hP 0 rfl rfl 21 (by decide) (hts _ tw_622) (fun _ h9 => h9) rfl d_M_clashes_105 ?_
          refine lv_imul hx hb d_M_clashes_108 ?_
          refine lv_aload_n hx hb d_M_clashes_109 rfl (lv_at hl 1 rfl) ?_
          refine va_get (D := (dC, dI)) (ci := 5) (v := .ref a_fi) (C := "LoanRulesModel") (T := Fz_M) (N := 22) hx hb hts it_M hown hK hP 0 rfl rfl 18 (by decide) (hts _ tw_619) (fun _ h9 => h9) rfl d_M_clashes_110 ?_
          refine lv_iconst (v := 0) hx hb d_M_clashes_113 (by decide) ?_
          have i_9 : vp_in 0 40 := by show ¬ (_ ∨ _); decide
          refine va_iald (D := (dC, dI)) hx hb hK hP 2 1 rfl rfl i_9 d_M_clashes_114 ?_
          have i_10 : vp_in (2 * v_nc) 1600 := ix2z hnc
          refine va_iast (D := (dC, dI)) hx hb hK hP hD hS 3 2 rfl rfl i_10 d_M_clashes_115 (fun H locs hP hD hS => ?_)
          replace hP : va_P (dC, dI) vwCl [(a_m, .inr (5, [.int v_th, .ref a_sa, .int v_sz, .int v_at, .int v_wr, .ref a_ru, .ref a_me, .ref a_le, .int v_n, .ref a_cl, .ref a_te, .ref a_ki, .ref a_ty, .ref a_bl, .ref a_ex, .ref a_lo, .int v_nl, .ref a_ho, .ref a_fi, .int v_nf, .ref a_cz, .int v_nc])), (a_ru, .inl (k_ru, 410, .inl f_ru)), (a_fi, .inl (k_fi, 40, .inl f_fi)), (a_cz, .inl (k_cz, 1600, .inl (upd f_cz (2 * v_nc).toNatClampNeg (f_fi (0 : Int32).toNatClampNeg))))] H := hP
          replace hD : va_D A [(a_m, .inr (5, [.int v_th, .ref a_sa, .int v_sz, .int v_at, .int v_wr, .ref a_ru, .ref a_me, .ref a_le, .int v_n, .ref a_cl, .ref a_te, .ref a_ki, .ref a_ty, .ref a_bl, .ref a_ex, .ref a_lo, .int v_nl, .ref a_ho, .ref a_fi, .int v_nf, .ref a_cz, .int v_nc])), (a_ru, .inl (k_ru, 410, .inl f_ru)), (a_fi, .inl (k_fi, 40, .inl f_fi)), (a_cz, .inl (k_cz, 1600, .inl (upd f_cz (2 * v_nc).toNatClampNeg (f_fi (0 : Int32).toNatClampNeg))))] := hD
          refine lv_aload_n hx hb d_M_clashes_116 rfl (lv_at hl 1 rfl) ?_
          refine va_get (D := (dC, dI)) (ci := 5) (v := .ref a_cz) (C := "LoanRulesModel") (T := Fz_M) (N := 22) hx hb hts it_M hown hK hP 0 rfl rfl 20 (by decide) (hts _ tw_621) (fun _ h9 => h9) rfl d_M_clashes_117 ?_
          refine lv_iconst (v := 2) hx hb d_M_clashes_120 (by decide) ?_
          refine lv_aload_n hx hb d_M_clashes_121 rfl (lv_at hl 1 rfl) ?_
          refine va_get (D := (dC, dI)) (ci := 5) (v := .int v_nc) (C := "LoanRulesModel") (T := Fz_M) (N := 22) hx hb hts it_M hown hK hP 0 rfl rfl 21 (by decide) (hts _ tw_622) (fun _ h9 => h9) rfl d_M_clashes_122 ?_
          refine lv_imul hx hb d_M_clashes_125 ?_
          refine lv_iconst (v := 1) hx hb d_M_clashes_126 (by decide) ?_
          refine lv_iadd hx hb d_M_clashes_127 ?_
          refine lv_aload_n hx hb d_M_clashes_128 rfl (lv_at hl 1 rfl) ?_
          refine va_get (D := (dC, dI)) (ci := 5) (v := .ref a_fi) (C := "LoanRulesModel") (T := Fz_M) (N := 22) hx hb hts it_M hown hK hP 0 rfl rfl 18 (by decide) (hts _ tw_619) (fun _ h9 => h9) rfl d_M_clashes_129 ?_
          refine lv_iconst (v := 1) hx hb d_M_clashes_132 (by decide) ?_
          have i_11 : vp_in 1 40 := by show ¬ (_ ∨ _); decide
          refine va_iald (D := (dC, dI)) hx hb hK hP 2 1 rfl rfl i_11 d_M_clashes_133 ?_
          have i_12 : vp_in ((2 * v_nc) + 1) 1600 := ix2 hnc (by decide)
          refine va_iast (D := (dC, dI)) hx hb hK hP hD hS 3 2 rfl rfl i_12 d_M_clashes_134 (fun H locs hP hD hS => ?_)
          replace hP : va_P (dC, dI) vwCl [(a_m, .inr (5, [.int v_th, .ref a_sa, .int v_sz, .int v_at, .int v_wr, .ref a_ru, .ref a_me, .ref a_le, .int v_n, .ref a_cl, .ref a_te, .ref a_ki, .ref a_ty, .ref a_bl, .ref a_ex, .ref a_lo, .int v_nl, .ref a_ho, .ref a_fi, .int v_nf, .ref a_cz, .int v_nc])), (a_ru, .inl (k_ru, 410, .inl f_ru)), (a_fi, .inl (k_fi, 40, .inl f_fi)), (a_cz, .inl (k_cz, 1600, .inl (upd (upd f_cz (2 * v_nc).toNatClampNeg (f_fi (0 : Int32).toNatClampNeg)) ((2 * v_nc) + 1).toNatClampNeg (f_fi (1 : Int32).toNatClampNeg))))] H := hP
          replace hD : va_D A [(a_m, .inr (5, [.int v_th, .ref a_sa, .int v_sz, .int v_at, .int v_wr, .ref a_ru, .ref a_me, .ref a_le, .int v_n, .ref a_cl, .ref a_te, .ref a_ki, .ref a_ty, .ref a_bl, .ref a_ex, .ref a_lo, .int v_nl, .ref a_ho, .ref a_fi, .int v_nf, .ref a_cz, .int v_nc])), (a_ru, .inl (k_ru, 410, .inl f_ru)), (a_fi, .inl (k_fi, 40, .inl f_fi)), (a_cz, .inl (k_cz, 1600, .inl (upd (upd f_cz (2 * v_nc).toNatClampNeg (f_fi (0 : Int32).toNatClampNeg)) ((2 * v_nc) + 1).toNatClampNeg (f_fi (1 : Int32).toNatClampNeg))))] := hD
          refine lv_aload_n hx hb d_M_clashes_135 rfl (lv_at hl 1 rfl) ?_
          refine lv_dup hx hb d_M_clashes_136 rfl ?_
          refine va_get (D := (dC, dI)) (ci := 5) (v := .int v_nc) (C := "LoanRulesModel") (T := Fz_M) (N := 22) hx hb hts it_M hown hK hP 0 rfl rfl 21 (by decide) (hts _ tw_622) (fun _ h9 => h9) rfl d_M_clashes_137 ?_
          refine lv_iconst (v := 1) hx hb d_M_clashes_140 (by decide) ?_
          refine lv_iadd hx hb d_M_clashes_141 ?_
          refine va_put (D := (dC, dI)) (ci := 5) (v := .int (v_nc + 1)) (ty := .int) (C := "LoanRulesModel") (T := Fz_M) (N := 22) hx hb hts it_M tz_M tz_M_ok nz_M hown hK hP hD hS 0 rfl rfl 21 (by decide) (hts _ tw_622) (fun _ h9 => h9) rfl (by decide +kernel) rfl rfl (Nat.le_of_ble_eq_true rfl) d_M_clashes_142 (fun H locs hP hD hS => ?_)
          replace hP : va_P (dC, dI) vwCl [(a_m, .inr (5, [.int v_th, .ref a_sa, .int v_sz, .int v_at, .int v_wr, .ref a_ru, .ref a_me, .ref a_le, .int v_n, .ref a_cl, .ref a_te, .ref a_ki, .ref a_ty, .ref a_bl, .ref a_ex, .ref a_lo, .int v_nl, .ref a_ho, .ref a_fi, .int v_nf, .ref a_cz, .int (v_nc + 1)])), (a_ru, .inl (k_ru, 410, .inl f_ru)), (a_fi, .inl (k_fi, 40, .inl f_fi)), (a_cz, .inl (k_cz, 1600, .inl (upd (upd f_cz (2 * v_nc).toNatClampNeg (f_fi (0 : Int32).toNatClampNeg)) ((2 * v_nc) + 1).toNatClampNeg (f_fi (1 : Int32).toNatClampNeg))))] H := hP
          replace hD : va_D A [(a_m, .inr (5, [.int v_th, .ref a_sa, .int v_sz, .int v_at, .int v_wr, .ref a_ru, .ref a_me, .ref a_le, .int v_n, .ref a_cl, .ref a_te, .ref a_ki, .ref a_ty, .ref a_bl, .ref a_ex, .ref a_lo, .int v_nl, .ref a_ho, .ref a_fi, .int v_nf, .ref a_cz, .int (v_nc + 1)])), (a_ru, .inl (k_ru, 410, .inl f_ru)), (a_fi, .inl (k_fi, 40, .inl f_fi)), (a_cz, .inl (k_cz, 1600, .inl (upd (upd f_cz (2 * v_nc).toNatClampNeg (f_fi (0 : Int32).toNatClampNeg)) ((2 * v_nc) + 1).toNatClampNeg (f_fi (1 : Int32).toNatClampNeg))))] := hD
          have hP9 := hP.sub (ws' := [(a_m, .inr (5, [.int v_th, .ref a_sa, .int v_sz, .int v_at, .int v_wr, .ref a_ru, .ref a_me, .ref a_le, .int v_n, .ref a_cl, .ref a_te, .ref a_ki, .ref a_ty, .ref a_bl, .ref a_ex, .ref a_lo, .int v_nl, .ref a_ho, .ref a_fi, .int v_nf, .ref a_cz, .int (v_nc + 1)])), (a_ru, .inl (k_ru, 410, .inl f_ru)), (a_fi, .inl (k_fi, 40, .inl f_fi)), (a_cz, .inl (k_cz, 1600, .inl (upd (upd f_cz (2 * v_nc).toNatClampNeg (f_fi (0 : Int32).toNatClampNeg)) ((2 * v_nc) + 1).toNatClampNeg (f_fi (1 : Int32).toNatClampNeg))))]) [0, 1, 2, 3] rfl
          have hD9 := hD.sub (ws' := [(a_m, .inr (5, [.int v_th, .ref a_sa, .int v_sz, .int v_at, .int v_wr, .ref a_ru, .ref a_me, .ref a_le, .int v_n, .ref a_cl, .ref a_te, .ref a_ki, .ref a_ty, .ref a_bl, .ref a_ex, .ref a_lo, .int v_nl, .ref a_ho, .ref a_fi, .int v_nf, .ref a_cz, .int (v_nc + 1)])), (a_ru, .inl (k_ru, 410, .inl f_ru)), (a_fi, .inl (k_fi, 40, .inl f_fi)), (a_cz, .inl (k_cz, 1600, .inl (upd (upd f_cz (2 * v_nc).toNatClampNeg (f_fi (0 : Int32).toNatClampNeg)) ((2 * v_nc) + 1).toNatClampNeg (f_fi (1 : Int32).toNatClampNeg))))]) [0, 1, 2, 3] (by decide) rfl
          have hK9 := hK.sub (tys' := [(k_ru, .int), (k_fi, .int), (k_cz, .int)]) [0, 1, 2] rfl
          exact W.vret hx hb hr (fun t ht hW => ⟨⟨(), rfl, trivial, by rw [ht, ← hz, hE]; exact hP9, va_K.moved hW.alike hK9, by rw [← hz, hE]; exact hD9⟩, hS.F ht⟩) hS.2.2 d_M_clashes_145
        · rw [if_neg c_8] at hg_clashes
          refine lv_aload_n hx hb d_M_clashes_56 rfl (lv_at hl 1 rfl) ?_
          refine va_get (D := (dC, dI)) (ci := 5) (v := .ref a_cz) (C := "LoanRulesModel") (T := Fz_M) (N := 22) hx hb hts it_M hown hK hP 0 rfl rfl 20 (by decide) (hts _ tw_621) (fun _ h9 => h9) rfl d_M_clashes_57 ?_
          refine lv_iconst (v := 2) hx hb d_M_clashes_60 (by decide) ?_
          refine lv_iload_n hx hb d_M_clashes_61 rfl (lv_at hl 0 rfl) ?_
          refine lv_imul hx hb d_M_clashes_62 ?_
          have i_13 : vp_in (2 * k) 1600 := ix2z (li_c3 hk c_8 hnc)
          refine va_iald (D := (dC, dI)) hx hb hK hP 3 2 rfl rfl i_13 d_M_clashes_63 ?_
          refine lv_aload_n hx hb d_M_clashes_64 rfl (lv_at hl 1 rfl) ?_
          refine va_get (D := (dC, dI)) (ci := 5) (v := .ref a_fi) (C := "LoanRulesModel") (T := Fz_M) (N := 22) hx hb hts it_M hown hK hP 0 rfl rfl 18 (by decide) (hts _ tw_619) (fun _ h9 => h9) rfl d_M_clashes_65 ?_
          refine lv_iconst (v := 0) hx hb d_M_clashes_68 (by decide) ?_
          have i_14 : vp_in 0 40 := by show ¬ (_ ∨ _); decide
          refine va_iald (D := (dC, dI)) hx hb hK hP 2 1 rfl rfl i_14 d_M_clashes_69 ?_
          refine lv_icmp_ne (tgt := 93) hx hb d_M_clashes_70 (by decide) (fun c_15 => ?_) (fun c_15 => ?_)
          · rw [if_neg c_15] at hg_clashes
            refine lv_iinc (v := k + 1) (lv' := [(1, .int (k + 1)), (0, .ref a_m)]) hx hb d_M_clashes_93 hl (k := 0) rfl rfl (by decide) rfl (fun ls hl => ?_)
            refine lv_goto (tgt := 48) hx hb d_M_clashes_96 (by decide) ?_
            exact ih_clashes _ _ _ _ ⟨hP, hD, hS, lv_sub hl [0, 1] rfl, (li_s3 hk c_8 hnc), (li_m3 hk c_8 hnc hm_clashes), hg_clashes⟩
          · rw [if_pos c_15] at hg_clashes
            refine lv_aload_n hx hb d_M_clashes_73 rfl (lv_at hl 1 rfl) ?_
            refine va_get (D := (dC, dI)) (ci := 5) (v := .ref a_cz) (C := "LoanRulesModel") (T := Fz_M) (N := 22) hx hb hts it_M hown hK hP 0 rfl rfl 20 (by decide) (hts _ tw_621) (fun _ h9 => h9) rfl d_M_clashes_74 ?_
            refine lv_iconst (v := 2) hx hb d_M_clashes_77 (by decide) ?_
            refine lv_iload_n hx hb d_M_clashes_78 rfl (lv_at hl 0 rfl) ?_
            refine lv_imul hx hb d_M_clashes_79 ?_
            refine lv_iconst (v := 1) hx hb d_M_clashes_80 (by decide) ?_
            refine lv_iadd hx hb d_M_clashes_81 ?_
            have i_16 : vp_in ((2 * k) + 1) 1600 := ix2 (li_c3 hk c_8 hnc) (by decide)
            refine va_iald (D := (dC, dI)) hx hb hK hP 3 2 rfl rfl i_16 d_M_clashes_82 ?_
            refine lv_aload_n hx hb d_M_clashes_83 rfl (lv_at hl 1 rfl) ?_
            refine va_get (D := (dC, dI)) (ci := 5) (v := .ref a_fi) (C := "LoanRulesModel") (T := Fz_M) (N := 22) hx hb hts it_M hown hK hP 0 rfl rfl 18 (by decide) (hts _ tw_619) (fun _ h9 => h9) rfl d_M_clashes_84 ?_
            refine lv_iconst (v := 1) hx hb d_M_clashes_87 (by decide) ?_
            have i_17 : vp_in 1 40 := by show ¬ (_ ∨ _); decide
            refine va_iald (D := (dC, dI)) hx hb hK hP 2 1 rfl rfl i_17 d_M_clashes_88 ?_
            refine lv_icmp_ne (tgt := 93) hx hb d_M_clashes_89 (by decide) (fun c_18 => ?_) (fun c_18 => ?_)
            · rw [if_neg c_18] at hg_clashes
              refine lv_iinc (v := k + 1) (lv' := [(1, .int (k + 1)), (0, .ref a_m)]) hx hb d_M_clashes_93 hl (k := 0) rfl rfl (by decide) rfl (fun ls hl => ?_)
              refine lv_goto (tgt := 48) hx hb d_M_clashes_96 (by decide) ?_
              exact ih_clashes _ _ _ _ ⟨hP, hD, hS, lv_sub hl [0, 1] rfl, (li_s3 hk c_8 hnc), (li_m3 hk c_8 hnc hm_clashes), hg_clashes⟩
            · rw [if_pos c_18] at hg_clashes
              subst hg_clashes
              dsimp only at hE
              rw [if_neg (by decide)] at hE
              have hP9 := hP.sub (ws' := [(a_m, .inr (5, [.int v_th, .ref a_sa, .int v_sz, .int v_at, .int v_wr, .ref a_ru, .ref a_me, .ref a_le, .int v_n, .ref a_cl, .ref a_te, .ref a_ki, .ref a_ty, .ref a_bl, .ref a_ex, .ref a_lo, .int v_nl, .ref a_ho, .ref a_fi, .int v_nf, .ref a_cz, .int v_nc])), (a_ru, .inl (k_ru, 410, .inl f_ru)), (a_fi, .inl (k_fi, 40, .inl f_fi)), (a_cz, .inl (k_cz, 1600, .inl f_cz))]) [0, 1, 2, 3] rfl
              have hD9 := hD.sub (ws' := [(a_m, .inr (5, [.int v_th, .ref a_sa, .int v_sz, .int v_at, .int v_wr, .ref a_ru, .ref a_me, .ref a_le, .int v_n, .ref a_cl, .ref a_te, .ref a_ki, .ref a_ty, .ref a_bl, .ref a_ex, .ref a_lo, .int v_nl, .ref a_ho, .ref a_fi, .int v_nf, .ref a_cz, .int v_nc])), (a_ru, .inl (k_ru, 410, .inl f_ru)), (a_fi, .inl (k_fi, 40, .inl f_fi)), (a_cz, .inl (k_cz, 1600, .inl f_cz))]) [0, 1, 2, 3] (by decide) rfl
              have hK9 := hK.sub (tys' := [(k_ru, .int), (k_fi, .int), (k_cz, .int)]) [0, 1, 2] rfl
              exact W.vret hx hb hr (fun t ht hW => ⟨⟨(), rfl, trivial, by rw [ht, ← hz, hE]; exact hP9, va_K.moved hW.alike hK9, by rw [← hz, hE]; exact hD9⟩, hS.F ht⟩) hS.2.2 d_M_clashes_92
    · rw [if_neg c_6] at hE
      have hP9 := hP.sub (ws' := [(a_m, .inr (5, [.int v_th, .ref a_sa, .int v_sz, .int v_at, .int v_wr, .ref a_ru, .ref a_me, .ref a_le, .int v_n, .ref a_cl, .ref a_te, .ref a_ki, .ref a_ty, .ref a_bl, .ref a_ex, .ref a_lo, .int v_nl, .ref a_ho, .ref a_fi, .int v_nf, .ref a_cz, .int v_nc])), (a_ru, .inl (k_ru, 410, .inl f_ru)), (a_fi, .inl (k_fi, 40, .inl f_fi)), (a_cz, .inl (k_cz, 1600, .inl f_cz))]) [0, 1, 2, 3] rfl
      have hD9 := hD.sub (ws' := [(a_m, .inr (5, [.int v_th, .ref a_sa, .int v_sz, .int v_at, .int v_wr, .ref a_ru, .ref a_me, .ref a_le, .int v_n, .ref a_cl, .ref a_te, .ref a_ki, .ref a_ty, .ref a_bl, .ref a_ex, .ref a_lo, .int v_nl, .ref a_ho, .ref a_fi, .int v_nf, .ref a_cz, .int v_nc])), (a_ru, .inl (k_ru, 410, .inl f_ru)), (a_fi, .inl (k_fi, 40, .inl f_fi)), (a_cz, .inl (k_cz, 1600, .inl f_cz))]) [0, 1, 2, 3] (by decide) rfl
      have hK9 := hK.sub (tys' := [(k_ru, .int), (k_fi, .int), (k_cz, .int)]) [0, 1, 2] rfl
      exact W.vret hx hb hr (fun t ht hW => ⟨⟨(), rfl, trivial, by rw [ht, ← hz, hE]; exact hP9, va_K.moved hW.alike hK9, by rw [← hz, hE]; exact hD9⟩, hS.F ht⟩) hS.2.2 d_M_clashes_45
