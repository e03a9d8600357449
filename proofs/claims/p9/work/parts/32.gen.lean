def gl_cins : Nat → (Int32) → (Int32) → (Nat → Nat → Int32) → (Int32) → (Nat → Int32) → Int32 × (Nat → Int32)
  | 0, p1, w_nr, F_, k, fj => (k, fj)
  | n + 1, p1, w_nr, F_, k, fj =>
    if k ≤ 0 then
      (k, fj)
    else
      if p1 ≤ (g_Cg_rankOf (fj (k - 1).toNatClampNeg) w_nr F_) then
        (k, fj)
      else
        gl_cins n p1 w_nr F_ (k + (-1)) (upd fj k.toNatClampNeg (fj (k - 1).toNatClampNeg))
def g_Cg_insertByRank (p0 : Int32) (p1 : Int32) (w_nr : Int32) (w_nf : Int32) (f_cfi : Nat → Int32) (F_ : Nat → Nat → Int32) : Int32 × (Nat → Int32) :=
  if w_nf < 0 then
    (w_nf, f_cfi)
  else
    if w_nf < 40 then
      bv (gl_cins 41 p1 w_nr F_ w_nf f_cfi) (fun x_3 =>
        (w_nf + 1, upd x_3.2 x_3.1.toNatClampNeg p0))
    else
      (w_nf, f_cfi)
set_option maxHeartbeats 4000000 in
set_option maxRecDepth 100000 in
theorem c_Cg_insertByRank (l : Launch) (dC : Nat → ClassId) (dI : Nat → Nat → Nat) (adK adV : Nat → Nat) (a_h : Nat) (a_cru : Nat) (a_cfi : Nat) (k_cru : ClassId) (k_cfi : ClassId) (p0 : Int32) (p1 : Int32) (a_tx : Nat) (w_nr : Int32) (a_cd : Nat) (a_td : Nat) (a_cki : Nat) (a_cca : Nat) (a_cty : Nat) (a_cio : Nat) (a_cex : Nat) (a_clo : Nat) (w_nl : Int32) (w_nf : Int32) (a_ccl : Nat) (w_nc : Int32) (f_cfi : Nat → Int32) (aR : Nat → Nat) (F_ : Nat → Nat → Int32) (aL : Nat → Nat) (G_ : Nat → Nat → Int32) (rho : Nat → Nat) (sz : Nat) (hnr : 0 ≤ w_nr.toInt ∧ w_nr.toInt ≤ 40) : Met l y_C_insertByRank ws_C_insertByRank ({ frames := 2, cells := 0, slots := 0, locals := 43 }) (va_Pc [.ref a_h, .int p0, .int p1] (fun U => U.heap.size = sz ∧ zz adK adV (va_A (([(a_h, .inr (0, [.ref a_tx, .ref a_cru, .int w_nr, .ref a_cd, .ref a_td, .ref a_cki, .ref a_cca, .ref a_cty, .ref a_cio, .ref a_cex, .ref a_clo, .int w_nl, .ref a_cfi, .int w_nf, .ref a_ccl, .int w_nc])), (a_cru, .inl (k_cru, 40, .inr (.inr (.inr (.inr (ruA (nN w_nr) aR)))))), (a_cfi, .inl (k_cfi, 40, .inl f_cfi))] : va_W) ++ plz (nN w_nr) aR F_ (nN w_nl) aL G_ rho) sz) U ∧ va_P (dC, dI) vwCl (([(a_h, .inr (0, [.ref a_tx, .ref a_cru, .int w_nr, .ref a_cd, .ref a_td, .ref a_cki, .ref a_cca, .ref a_cty, .ref a_cio, .ref a_cex, .ref a_clo, .int w_nl, .ref a_cfi, .int w_nf, .ref a_ccl, .int w_nc])), (a_cru, .inl (k_cru, 40, .inr (.inr (.inr (.inr (ruA (nN w_nr) aR)))))), (a_cfi, .inl (k_cfi, 40, .inl f_cfi))] : va_W) ++ plz (nN w_nr) aR F_ (nN w_nl) aL G_ rho) U.heap ∧ va_K (dC, dI) vwCl [(k_cru, .object "LoanRules$Rule"), (k_cfi, .int)] U ∧ va_D (fun _ => True) (([(a_h, .inr (0, [.ref a_tx, .ref a_cru, .int w_nr, .ref a_cd, .ref a_td, .ref a_cki, .ref a_cca, .ref a_cty, .ref a_cio, .ref a_cex, .ref a_clo, .int w_nl, .ref a_cfi, .int w_nf, .ref a_ccl, .int w_nc])), (a_cru, .inl (k_cru, 40, .inr (.inr (.inr (.inr (ruA (nN w_nr) aR)))))), (a_cfi, .inl (k_cfi, 40, .inl f_cfi))] : va_W) ++ plz (nN w_nr) aR F_ (nN w_nl) aL G_ rho))) (va_Qv (fun _ : Unit => True) (fun (_ : Unit) (t : State) => va_P (dC, dI) vwCl (([(a_h, .inr (0, [.ref a_tx, .ref a_cru, .int w_nr, .ref a_cd, .ref a_td, .ref a_cki, .ref a_cca, .ref a_cty, .ref a_cio, .ref a_cex, .ref a_clo, .int w_nl, .ref a_cfi, .int ((g_Cg_insertByRank p0 p1 w_nr w_nf f_cfi F_).1), .ref a_ccl, .int w_nc])), (a_cru, .inl (k_cru, 40, .inr (.inr (.inr (.inr (ruA (nN w_nr) aR)))))), (a_cfi, .inl (k_cfi, 40, .inl ((g_Cg_insertByRank p0 p1 w_nr w_nf f_cfi F_).2)))] : va_W) ++ plz (nN w_nr) aR F_ (nN w_nl) aL G_ rho) t.heap ∧ va_K (dC, dI) vwCl [(k_cru, .object "LoanRules$Rule"), (k_cfi, .int)] t ∧ va_D (va_A (([(a_h, .inr (0, [.ref a_tx, .ref a_cru, .int w_nr, .ref a_cd, .ref a_td, .ref a_cki, .ref a_cca, .ref a_cty, .ref a_cio, .ref a_cex, .ref a_clo, .int w_nl, .ref a_cfi, .int w_nf, .ref a_ccl, .int w_nc])), (a_cru, .inl (k_cru, 40, .inr (.inr (.inr (.inr (ruA (nN w_nr) aR)))))), (a_cfi, .inl (k_cfi, 40, .inl f_cfi))] : va_W) ++ plz (nN w_nr) aR F_ (nN w_nl) aL G_ rho) sz) (([(a_h, .inr (0, [.ref a_tx, .ref a_cru, .int w_nr, .ref a_cd, .ref a_td, .ref a_cki, .ref a_cca, .ref a_cty, .ref a_cio, .ref a_cex, .ref a_clo, .int w_nl, .ref a_cfi, .int ((g_Cg_insertByRank p0 p1 w_nr w_nf f_cfi F_).1), .ref a_ccl, .int w_nc])), (a_cru, .inl (k_cru, 40, .inr (.inr (.inr (.inr (ruA (nN w_nr) aR)))))), (a_cfi, .inl (k_cfi, 40, .inl ((g_Cg_insertByRank p0 p1 w_nr w_nf f_cfi F_).2)))] : va_W) ++ plz (nN w_nr) aR F_ (nN w_nl) aL G_ rho)) (va_A (([(a_h, .inr (0, [.ref a_tx, .ref a_cru, .int w_nr, .ref a_cd, .ref a_td, .ref a_cki, .ref a_cca, .ref a_cty, .ref a_cio, .ref a_cex, .ref a_clo, .int w_nl, .ref a_cfi, .int w_nf, .ref a_ccl, .int w_nc])), (a_cru, .inl (k_cru, 40, .inr (.inr (.inr (.inr (ruA (nN w_nr) aR)))))), (a_cfi, .inl (k_cfi, 40, .inl f_cfi))] : va_W) ++ plz (nN w_nr) aR F_ (nN w_nl) aL G_ rho) sz)) 0 0 (va_A (([(a_h, .inr (0, [.ref a_tx, .ref a_cru, .int w_nr, .ref a_cd, .ref a_td, .ref a_cki, .ref a_cca, .ref a_cty, .ref a_cio, .ref a_cex, .ref a_clo, .int w_nl, .ref a_cfi, .int w_nf, .ref a_ccl, .int w_nc])), (a_cru, .inl (k_cru, 40, .inr (.inr (.inr (.inr (ruA (nN w_nr) aR)))))), (a_cfi, .inl (k_cfi, 40, .inl f_cfi))] : va_W) ++ plz (nN w_nr) aR F_ (nN w_nl) aL G_ rho) sz) := by
  refine Met.ofW (cc := c_C_insertByRank) (maxL := 4) (ret := none) (by decide) rfl ?_
  intro p e s m args below meth c s₁ B hml hv
  obtain ⟨rfl, hsz, hZ, hP, hK, hD0⟩ := hv
  have hx := B.exec
  have hb := B.bytes
  have hr := B.returns
  have hts0 := atoms_spec (ws := ws_C_insertByRank) B.pre
  have hts : ∀ w ∈ TT, w.before _ s = true := fun w h => hts0 w (List.mem_cons_of_mem _ h)
  have hown : s.vm.findClass "LoanRules" = some m.cls := findClass_of_methodNamed B.named
  have hlocks := B.notSynchronized
  subst hsz
  have hD := hD0.self (sz := s.heap.size)
  generalize hAe : va_A (([(a_h, .inr (0, [.ref a_tx, .ref a_cru, .int w_nr, .ref a_cd, .ref a_td, .ref a_cki, .ref a_cca, .ref a_cty, .ref a_cio, .ref a_cex, .ref a_clo, .int w_nl, .ref a_cfi, .int w_nf, .ref a_ccl, .int w_nc])), (a_cru, .inl (k_cru, 40, .inr (.inr (.inr (.inr (ruA (nN w_nr) aR)))))), (a_cfi, .inl (k_cfi, 40, .inl f_cfi))] : va_W) ++ plz (nN w_nr) aR F_ (nN w_nl) aL G_ rho) s.heap.size = A at hD hZ ⊢
  have hA : ∀ q : Nat, s.heap.size ≤ q → A q := fun q h => by rw [← hAe]; exact Or.inr h
  clear hAe hD0
  have hS : va_S A s.heap s.heap [] := va_S.rf
  replace hP : va_P (dC, dI) vwCl (([(a_h, .inr (0, [.ref a_tx, .ref a_cru, .int w_nr, .ref a_cd, .ref a_td, .ref a_cki, .ref a_cca, .ref a_cty, .ref a_cio, .ref a_cex, .ref a_clo, .int w_nl, .ref a_cfi, .int w_nf, .ref a_ccl, .int w_nc])), (a_cru, .inl (k_cru, 40, .inr (.inr (.inr (.inr (ruA (nN w_nr) aR)))))), (a_cfi, .inl (k_cfi, 40, .inl f_cfi))] : va_W) ++ plz (nN w_nr) aR F_ (nN w_nl) aL G_ rho) s.heap := hP
  have hl := lv_entry ([.ref a_h, .int p0, .int p1]) (n := 4) (Nat.le_of_ble_eq_true rfl)
  rw [lg_entry_eq]
  generalize (lg_sl ([.ref a_h, .int p0, .int p1]) ++ List.replicate (4 - (lg_sl ([.ref a_h, .int p0, .int p1])).length) Slot.unset).toArray = ls at hl ⊢
  replace hl : lv_has ls 4 [(0, .ref a_h), (1, .int p0), (2, .int p1)] := hl
  obtain ⟨z, hz⟩ : ∃ z, z = g_Cg_insertByRank p0 p1 w_nr w_nf f_cfi F_ := ⟨_, rfl⟩
  have hE := hz
  rw [g_Cg_insertByRank] at hE
  refine lv_aload_n hx hb d_C_insertByRank_0 rfl (lv_at hl 0 rfl) ?_
  refine va_get (D := (dC, dI)) (ci := 0) (v := .int w_nf) (C := "LoanRules") (T := Fz_C) (N := 16) hx hb hts it_C hown hK hP 0 rfl rfl 13 (by decide) (hts _ tw_117) (fun _ h9 => h9) rfl d_C_insertByRank_1 ?_
  refine lv_if_lt (tgt := 19) hx hb d_C_insertByRank_4 (by decide) (fun c_1 => ?_) (fun c_1 => ?_)
  · rw [if_pos c_1] at hE
    have hP9 := va_P.part (cx := [(a_h, .inr (0, [.ref a_tx, .ref a_cru, .int w_nr, .ref a_cd, .ref a_td, .ref a_cki, .ref a_cca, .ref a_cty, .ref a_cio, .ref a_cex, .ref a_clo, .int w_nl, .ref a_cfi, .int w_nf, .ref a_ccl, .int w_nc])), (a_cru, .inl (k_cru, 40, .inr (.inr (.inr (.inr (ruA (nN w_nr) aR)))))), (a_cfi, .inl (k_cfi, 40, .inl f_cfi))]) hP [0, 1, 2] rfl
    have hD9 := va_D.part (cx := [(a_h, .inr (0, [.ref a_tx, .ref a_cru, .int w_nr, .ref a_cd, .ref a_td, .ref a_cki, .ref a_cca, .ref a_cty, .ref a_cio, .ref a_cex, .ref a_clo, .int w_nl, .ref a_cfi, .int w_nf, .ref a_ccl, .int w_nc])), (a_cru, .inl (k_cru, 40, .inr (.inr (.inr (.inr (ruA (nN w_nr) aR)))))), (a_cfi, .inl (k_cfi, 40, .inl f_cfi))]) hD [0, 1, 2] (by decide) rfl
    have hK9 := hK.sub (tys' := [(k_cru, .object "LoanRules$Rule"), (k_cfi, .int)]) [0, 1] rfl
    exact W.vret hx hb hr (fun t ht hW => ⟨⟨(), rfl, trivial, by rw [ht, ← hz, hE]; exact hP9, va_K.moved hW.alike hK9, by rw [← hz, hE]; exact hD9⟩, hS.F ht⟩) hS.2.2 d_C_insertByRank_19
  · rw [if_neg c_1] at hE
    refine lv_aload_n hx hb d_C_insertByRank_7 rfl (lv_at hl 0 rfl) ?_
    refine va_get (D := (dC, dI)) (ci := 0) (v := .int w_nf) (C := "LoanRules") (T := Fz_C) (N := 16) hx hb hts it_C hown hK hP 0 rfl rfl 13 (by decide) (hts _ tw_117) (fun _ h9 => h9) rfl d_C_insertByRank_8 ?_
    refine lv_aload_n hx hb d_C_insertByRank_11 rfl (lv_at hl 0 rfl) ?_
    refine va_get (D := (dC, dI)) (ci := 0) (v := .ref a_cfi) (C := "LoanRules") (T := Fz_C) (N := 16) hx hb hts it_C hown hK hP 0 rfl rfl 12 (by decide) (hts _ tw_116) (fun _ h9 => h9) rfl d_C_insertByRank_12 ?_
    refine va_alen (D := (dC, dI)) (v := 40) hx hb hK hP 2 1 rfl rfl rfl d_C_insertByRank_15 ?_
    refine lv_icmp_lt (tgt := 20) hx hb d_C_insertByRank_16 (by decide) (fun c_2 => ?_) (fun c_2 => ?_)
    · rw [if_pos c_2] at hE
      refine lv_aload_n hx hb d_C_insertByRank_20 rfl (lv_at hl 0 rfl) ?_
      refine va_get (D := (dC, dI)) (ci := 0) (v := .int w_nf) (C := "LoanRules") (T := Fz_C) (N := 16) hx hb hts it_C hown hK hP 0 rfl rfl 13 (by decide) (hts _ tw_117) (fun _ h9 => h9) rfl d_C_insertByRank_21 ?_
      refine lv_istore_n (lv' := [(3, .int w_nf), (0, .ref a_h), (1, .int p0), (2, .int p1)]) hx hb d_C_insertByRank_24 rfl hl (by decide) rfl (fun ls hl => ?_)
      obtain ⟨H, hHe⟩ : ∃ H, H = s.heap := ⟨_, rfl⟩
      obtain ⟨locs, hLe⟩ : ∃ locs : List Loc, locs = [] := ⟨_, rfl⟩
      replace hP : va_P (dC, dI) vwCl (([(a_h, .inr (0, [.ref a_tx, .ref a_cru, .int w_nr, .ref a_cd, .ref a_td, .ref a_cki, .ref a_cca, .ref a_cty, .ref a_cio, .ref a_cex, .ref a_clo, .int w_nl, .ref a_cfi, .int w_nf, .ref a_ccl, .int w_nc])), (a_cru, .inl (k_cru, 40, .inr (.inr (.inr (.inr (ruA (nN w_nr) aR)))))), (a_cfi, .inl (k_cfi, 40, .inl f_cfi))] : va_W) ++ plz (nN w_nr) aR F_ (nN w_nl) aL G_ rho) H := by rw [hHe]; exact hP
      replace hS : va_S A s.heap H locs := by rw [hHe, hLe]; exact hS
      refine fl_gen hHe hLe ?_
      clear hHe hLe
      generalize hg_x_3 : gl_cins 41 p1 w_nr F_ w_nf f_cfi = x_3 at hE
      rw [bv_eq] at hE
      obtain ⟨k, e_k⟩ : ∃ q9 : Int32, q9 = w_nf := ⟨_, rfl⟩
      obtain ⟨fj, e_fj⟩ : ∃ q9 : Nat → Int32, q9 = f_cfi := ⟨_, rfl⟩
      obtain ⟨n, e_n⟩ : ∃ q9 : Nat, q9 = 41 := ⟨_, rfl⟩
      have hAll : va_P (dC, dI) vwCl (([(a_h, .inr (0, [.ref a_tx, .ref a_cru, .int w_nr, .ref a_cd, .ref a_td, .ref a_cki, .ref a_cca, .ref a_cty, .ref a_cio, .ref a_cex, .ref a_clo, .int w_nl, .ref a_cfi, .int w_nf, .ref a_ccl, .int w_nc])), (a_cru, .inl (k_cru, 40, .inr (.inr (.inr (.inr (ruA (nN w_nr) aR)))))), (a_cfi, .inl (k_cfi, 40, .inl fj))] : va_W) ++ plz (nN w_nr) aR F_ (nN w_nl) aL G_ rho) H ∧ va_D A (([(a_h, .inr (0, [.ref a_tx, .ref a_cru, .int w_nr, .ref a_cd, .ref a_td, .ref a_cki, .ref a_cca, .ref a_cty, .ref a_cio, .ref a_cex, .ref a_clo, .int w_nl, .ref a_cfi, .int w_nf, .ref a_ccl, .int w_nc])), (a_cru, .inl (k_cru, 40, .inr (.inr (.inr (.inr (ruA (nN w_nr) aR)))))), (a_cfi, .inl (k_cfi, 40, .inl fj))] : va_W) ++ plz (nN w_nr) aR F_ (nN w_nl) aL G_ rho) ∧ va_S A s.heap H locs ∧ lv_has ls 4 [(3, .int k), (0, .ref a_h), (1, .int p0), (2, .int p1)] ∧ (0 ≤ k.toInt ∧ k.toInt < 40) ∧ k.toInt.toNat + 1 ≤ n ∧ gl_cins n p1 w_nr F_ k fj = x_3 := by
        subst e_k e_fj e_n
        exact ⟨hP, hD, hS, hl, li_b40 c_1 c_2, by have := li_b40 c_1 c_2; omega, hg_x_3⟩
      clear hP hl hD hS e_k e_fj e_n hg_x_3
      induction n generalizing k fj H locs ls with
      | zero =>
        obtain ⟨hP, hD, hS, hl, hk, hm_cins, hg_cins⟩ := hAll
        exfalso; omega
      | succ n ih_cins =>
        obtain ⟨hP, hD, hS, hl, hk, hm_cins, hg_cins⟩ := hAll
        rw [gl_cins] at hg_cins
        refine lv_iload_n hx hb d_C_insertByRank_25 rfl (lv_at hl 0 rfl) ?_
        refine lv_if_le (tgt := 65) hx hb d_C_insertByRank_26 (by decide) (fun c_4 => ?_) (fun c_4 => ?_)
        · rw [if_pos c_4] at hg_cins
          subst hg_cins
          dsimp only at hE
          refine lv_aload_n hx hb d_C_insertByRank_65 rfl (lv_at hl 1 rfl) ?_
          refine va_get (D := (dC, dI)) (ci := 0) (v := .ref a_cfi) (C := "LoanRules") (T := Fz_C) (N := 16) hx hb hts it_C hown hK hP 0 rfl rfl 12 (by decide) (hts _ tw_116) (fun _ h9 => h9) rfl d_C_insertByRank_66 ?_
          refine lv_iload_n hx hb d_C_insertByRank_69 rfl (lv_at hl 0 rfl) ?_
          refine lv_iload_n hx hb d_C_insertByRank_70 rfl (lv_at hl 2 rfl) ?_
          have i_5 : vp_in k 40 := in40 hk
          refine va_iast (D := (dC, dI)) hx hb hK hP hD hS 2 1 rfl rfl i_5 d_C_insertByRank_71 (fun H locs hP hD hS => ?_)
          replace hP : va_P (dC, dI) vwCl (([(a_h, .inr (0, [.ref a_tx, .ref a_cru, .int w_nr, .ref a_cd, .ref a_td, .ref a_cki, .ref a_cca, .ref a_cty, .ref a_cio, .ref a_cex, .ref a_clo, .int w_nl, .ref a_cfi, .int w_nf, .ref a_ccl, .int w_nc])), (a_cru, .inl (k_cru, 40, .inr (.inr (.inr (.inr (ruA (nN w_nr) aR)))))), (a_cfi, .inl (k_cfi, 40, .inl (upd fj k.toNatClampNeg p0)))] : va_W) ++ plz (nN w_nr) aR F_ (nN w_nl) aL G_ rho) H := hP
          replace hD : va_D A (([(a_h, .inr (0, [.ref a_tx, .ref a_cru, .int w_nr, .ref a_cd, .ref a_td, .ref a_cki, .ref a_cca, .ref a_cty, .ref a_cio, .ref a_cex, .ref a_clo, .int w_nl, .ref a_cfi, .int w_nf, .ref a_ccl, .int w_nc])), (a_cru, .inl (k_cru, 40, .inr (.inr (.inr (.inr (ruA (nN w_nr) aR)))))), (a_cfi, .inl (k_cfi, 40, .inl (upd fj k.toNatClampNeg p0)))] : va_W) ++ plz (nN w_nr) aR F_ (nN w_nl) aL G_ rho) := hD
          refine lv_aload_n hx hb d_C_insertByRank_72 rfl (lv_at hl 1 rfl) ?_
          refine lv_dup hx hb d_C_insertByRank_73 rfl ?_
          refine va_get (D := (dC, dI)) (ci := 0) (v := .int w_nf) (C := "LoanRules") (T := Fz_C) (N := 16) hx hb hts it_C hown hK hP 0 rfl rfl 13 (by decide) (hts _ tw_117) (fun _ h9 => h9) rfl d_C_insertByRank_74 ?_
          refine lv_iconst (v := 1) hx hb d_C_insertByRank_77 (by decide) ?_
          refine lv_iadd hx hb d_C_insertByRank_78 ?_
          refine va_put (D := (dC, dI)) (ci := 0) (v := .int (w_nf + 1)) (ty := .int) (C := "LoanRules") (T := Fz_C) (N := 16) hx hb hts it_C tz_C tz_C_ok nz_C hown hK hP hD hS 0 rfl rfl 13 (by decide) (hts _ tw_117) (fun _ h9 => h9) rfl (by decide +kernel) rfl rfl (Nat.le_of_ble_eq_true rfl) d_C_insertByRank_79 (fun H locs hP hD hS => ?_)
          replace hP : va_P (dC, dI) vwCl (([(a_h, .inr (0, [.ref a_tx, .ref a_cru, .int w_nr, .ref a_cd, .ref a_td, .ref a_cki, .ref a_cca, .ref a_cty, .ref a_cio, .ref a_cex, .ref a_clo, .int w_nl, .ref a_cfi, .int (w_nf + 1), .ref a_ccl, .int w_nc])), (a_cru, .inl (k_cru, 40, .inr (.inr (.inr (.inr (ruA (nN w_nr) aR)))))), (a_cfi, .inl (k_cfi, 40, .inl (upd fj k.toNatClampNeg p0)))] : va_W) ++ plz (nN w_nr) aR F_ (nN w_nl) aL G_ rho) H := hP
          replace hD : va_D A (([(a_h, .inr (0, [.ref a_tx, .ref a_cru, .int w_nr, .ref a_cd, .ref a_td, .ref a_cki, .ref a_cca, .ref a_cty, .ref a_cio, .ref a_cex, .ref a_clo, .int w_nl, .ref a_cfi, .int (w_nf + 1), .ref a_ccl, .int w_nc])), (a_cru, .inl (k_cru, 40, .inr (.inr (.inr (.inr (ruA (nN w_nr) aR)))))), (a_cfi, .inl (k_cfi, 40, .inl (upd fj k.toNatClampNeg p0)))] : va_W) ++ plz (nN w_nr) aR F_ (nN w_nl) aL G_ rho) := hD
          have hP9 := va_P.part (cx := [(a_h, .inr (0, [.ref a_tx, .ref a_cru, .int w_nr, .ref a_cd, .ref a_td, .ref a_cki, .ref a_cca, .ref a_cty, .ref a_cio, .ref a_cex, .ref a_clo, .int w_nl, .ref a_cfi, .int (w_nf + 1), .ref a_ccl, .int w_nc])), (a_cru, .inl (k_cru, 40, .inr (.inr (.inr (.inr (ruA (nN w_nr) aR)))))), (a_cfi, .inl (k_cfi, 40, .inl (upd fj k.toNatClampNeg p0)))]) hP [0, 1, 2] rfl
          have hD9 := va_D.part (cx := [(a_h, .inr (0, [.ref a_tx, .ref a_cru, .int w_nr, .ref a_cd, .ref a_td, .ref a_cki, .ref a_cca, .ref a_cty, .ref a_cio, .ref a_cex, .ref a_clo, .int w_nl, .ref a_cfi, .int (w_nf + 1), .ref a_ccl, .int w_nc])), (a_cru, .inl (k_cru, 40, .inr (.inr (.inr (.inr (ruA (nN w_nr) aR)))))), (a_cfi, .inl (k_cfi, 40, .inl (upd fj k.toNatClampNeg p0)))]) hD [0, 1, 2] (by decide) rfl
          have hK9 := hK.sub (tys' := [(k_cru, .object "LoanRules$Rule"), (k_cfi, .int)]) [0, 1] rfl
          exact W.vret hx hb hr (fun t ht hW => ⟨⟨(), rfl, trivial, by rw [ht, ← hz, hE]; exact hP9, va_K.moved hW.alike hK9, by rw [← hz, hE]; exact hD9⟩, hS.F ht⟩) hS.2.2 d_C_insertByRank_82
        · rw [if_neg c_4] at hg_cins
          refine lv_aload_n hx hb d_C_insertByRank_29 rfl (lv_at hl 1 rfl) ?_
          refine lv_aload_n hx hb d_C_insertByRank_30 rfl (lv_at hl 1 rfl) ?_
          refine va_get (D := (dC, dI)) (ci := 0) (v := .ref a_cfi) (C := "LoanRules") (T := Fz_C) (N := 16) hx hb hts it_C hown hK hP 0 rfl rfl 12 (by decide) (hts _ tw_116) (fun _ h9 => h9) rfl d_C_insertByRank_31 ?_
          refine lv_iload_n hx hb d_C_insertByRank_34 rfl (lv_at hl 0 rfl) ?_
          refine lv_iconst (v := 1) hx hb d_C_insertByRank_35 (by decide) ?_
          refine lv_isub hx hb d_C_insertByRank_36 ?_
          have i_6 : vp_in (k - 1) 40 := in40m hk c_4
          refine va_iald (D := (dC, dI)) hx hb hK hP 2 1 rfl rfl i_6 d_C_insertByRank_37 ?_
          have hPc := va_P.part (cx := [(a_h, .inr (0, [.ref a_tx, .ref a_cru, .int w_nr, .ref a_cd, .ref a_td, .ref a_cki, .ref a_cca, .ref a_cty, .ref a_cio, .ref a_cex, .ref a_clo, .int w_nl, .ref a_cfi, .int w_nf, .ref a_ccl, .int w_nc])), (a_cru, .inl (k_cru, 40, .inr (.inr (.inr (.inr (ruA (nN w_nr) aR))))))]) hP [0, 1] rfl
          have hKc := hK.sub (tys' := [(k_cru, .object "LoanRules$Rule")]) [0] rfl
          refine vp_callSi (va_Run.run (va_runV (As := [.int (fj (k - 1).toNatClampNeg)]) (rest := []) ⟨hx, hb, hml, hown, hts⟩ (c_Cg_rankOf l dC dI adK adV (a_h := a_h) (p0 := fj (k - 1).toNatClampNeg) (a_tx := a_tx) (a_cru := a_cru) (w_nr := w_nr) (a_cd := a_cd) (a_td := a_td) (a_cki := a_cki) (a_cca := a_cca) (a_cty := a_cty) (a_cio := a_cio) (a_cex := a_cex) (a_clo := a_clo) (w_nl := w_nl) (a_cfi := a_cfi) (w_nf := w_nf) (a_ccl := a_ccl) (w_nc := w_nc) (k_cru := k_cru) (aR := aR) (F_ := F_) (aL := aL) (G_ := G_) (rho := rho) hnr) (cwV 1 hts (gV tw_479 tw_481 tw_21 tw_42 tw_482) rfl rfl rfl (by decide +kernel) ⟨(Nat.le_of_ble_eq_true rfl), (Nat.le_of_ble_eq_true rfl)⟩) ⟨fun a U g mk q => by obtain ⟨q0, qZ, qP, qK⟩ := q; exact ⟨q0, zz_call qZ, qP, va_K.moved (u := U) (U := U.calling g mk a) (Vm.Alike.refl U.vm) qK⟩, va_recv hKc hPc (ci := 0) (q0 := 0) rfl rfl, fun U hU hW => ⟨rfl, zz_ro hS hU hW hZ, by rw [hU]; exact hPc, va_K.moved hW.alike hKc⟩⟩ rfl rfl hl.1 rfl (lv_room (Nat.le_of_ble_eq_true rfl)) d_C_insertByRank_38 ⟨(Nat.le_of_ble_eq_true rfl), (Nat.le_of_ble_eq_true rfl)⟩)) (fun r_7 hw_8 => ?_)
          clear hPc hKc
          subst hw_8
          refine lv_iload_n hx hb d_C_insertByRank_41 rfl (lv_at hl 3 rfl) ?_
          refine lv_icmp_ge (tgt := 65) hx hb d_C_insertByRank_42 (by decide) (fun c_9 => ?_) (fun c_9 => ?_)
          · rw [if_pos c_9] at hg_cins
            subst hg_cins
            dsimp only at hE
            refine lv_aload_n hx hb d_C_insertByRank_65 rfl (lv_at hl 1 rfl) ?_
            refine va_get (D := (dC, dI)) (ci := 0) (v := .ref a_cfi) (C := "LoanRules") (T := Fz_C) (N := 16) hx hb hts it_C hown hK hP 0 rfl rfl 12 (by decide) (hts _ tw_116) (fun _ h9 => h9) rfl d_C_insertByRank_66 ?_
            refine lv_iload_n hx hb d_C_insertByRank_69 rfl (lv_at hl 0 rfl) ?_
            refine lv_iload_n hx hb d_C_insertByRank_70 rfl (lv_at hl 2 rfl) ?_
            have i_10 : vp_in k 40 := in40 hk
            refine va_iast (D := (dC, dI)) hx hb hK hP hD hS 2 1 rfl rfl i_10 d_C_insertByRank_71 (fun H locs hP hD hS => ?_)
            replace hP : va_P (dC, dI) vwCl (([(a_h, .inr (0, [.ref a_tx, .ref a_cru, .int w_nr, .ref a_cd, .ref a_td, .ref a_cki, .ref a_cca, .ref a_cty, .ref a_cio, .ref a_cex, .ref a_clo, .int w_nl, .ref a_cfi, .int w_nf, .ref a_ccl, .int w_nc])), (a_cru, .inl (k_cru, 40, .inr (.inr (.inr (.inr (ruA (nN w_nr) aR)))))), (a_cfi, .inl (k_cfi, 40, .inl (upd fj k.toNatClampNeg p0)))] : va_W) ++ plz (nN w_nr) aR F_ (nN w_nl) aL G_ rho) H := hP
            replace hD : va_D A (([(a_h, .inr (0, [.ref a_tx, .ref a_cru, .int w_nr, .ref a_cd, .ref a_td, .ref a_cki, .ref a_cca, .ref a_cty, .ref a_cio, .ref a_cex, .ref a_clo, .int w_nl, .ref a_cfi, .int w_nf, .ref a_ccl, .int w_nc])), (a_cru, .inl (k_cru, 40, .inr (.inr (.inr (.inr (ruA (nN w_nr) aR)))))), (a_cfi, .inl (k_cfi, 40, .inl (upd fj k.toNatClampNeg p0)))] : va_W) ++ plz (nN w_nr) aR F_ (nN w_nl) aL G_ rho) := hD
            refine lv_aload_n hx hb d_C_insertByRank_72 rfl (lv_at hl 1 rfl) ?_
            refine lv_dup hx hb d_C_insertByRank_73 rfl ?_
            refine va_get (D := (dC, dI)) (ci := 0) (v := .int w_nf) (C := "LoanRules") (T := Fz_C) (N := 16) hx hb hts it_C hown hK hP 0 rfl rfl 13 (by decide) (hts _ tw_117) (fun _ h9 => h9) rfl d_C_insertByRank_74 ?_
            refine lv_iconst (v := 1) hx hb d_C_insertByRank_77 (by decide) ?_
            refine lv_iadd hx hb d_C_insertByRank_78 ?_
            refine va_put (D := (dC, dI)) (ci := 0) (v := .int (w_nf + 1)) (ty := .int) (C := "LoanRules") (T := Fz_C) (N := 16) hx hb hts it_C tz_C tz_C_ok nz_C hown hK hP hD hS 0 rfl rfl 13 (by decide) (hts _ tw_117) (fun _ h9 => h9) rfl (by decide +kernel) rfl rfl (Nat.le_of_ble_eq_true rfl) d_C_insertByRank_79 (fun H locs hP hD hS => ?_)
            replace hP : va_P (dC, dI) vwCl (([(a_h, .inr (0, [.ref a_tx, .ref a_cru, .int w_nr, .ref a_cd, .ref a_td, .ref a_cki, .ref a_cca, .ref a_cty, .ref a_cio, .ref a_cex, .ref a_clo, .int w_nl, .ref a_cfi, .int (w_nf + 1), .ref a_ccl, .int w_nc])), (a_cru, .inl (k_cru, 40, .inr (.inr (.inr (.inr (ruA (nN w_nr) aR)))))), (a_cfi, .inl (k_cfi, 40, .inl (upd fj k.toNatClampNeg p0)))] : va_W) ++ plz (nN w_nr) aR F_ (nN w_nl) aL G_ rho) H := hP
            replace hD : va_D A (([(a_h, .inr (0, [.ref a_tx, .ref a_cru, .int w_nr, .ref a_cd, .ref a_td, .ref a_cki, .ref a_cca, .ref a_cty, .ref a_cio, .ref a_cex, .ref a_clo, .int w_nl, .ref a_cfi, .int (w_nf + 1), .ref a_ccl, .int w_nc])), (a_cru, .inl (k_cru, 40, .inr (.inr (.inr (.inr (ruA (nN w_nr) aR)))))), (a_cfi, .inl (k_cfi, 40, .inl (upd fj k.toNatClampNeg p0)))] : va_W) ++ plz (nN w_nr) aR F_ (nN w_nl) aL G_ rho) := hD
            have hP9 := va_P.part (cx := [(a_h, .inr (0, [.ref a_tx, .ref a_cru, .int w_nr, .ref a_cd, .ref a_td, .ref a_cki, .ref a_cca, .ref a_cty, .ref a_cio, .ref a_cex, .ref a_clo, .int w_nl, .ref a_cfi, .int (w_nf + 1), .ref a_ccl, .int w_nc])), (a_cru, .inl (k_cru, 40, .inr (.inr (.inr (.inr (ruA (nN w_nr) aR)))))), (a_cfi, .inl (k_cfi, 40, .inl (upd fj k.toNatClampNeg p0)))]) hP [0, 1, 2] rfl
            have hD9 := va_D.part (cx := [(a_h, .inr (0, [.ref a_tx, .ref a_cru, .int w_nr, .ref a_cd, .ref a_td, .ref a_cki, .ref a_cca, .ref a_cty, .ref a_cio, .ref a_cex, .ref a_clo, .int w_nl, .ref a_cfi, .int (w_nf + 1), .ref a_ccl, .int w_nc])), (a_cru, .inl (k_cru, 40, .inr (.inr (.inr (.inr (ruA (nN w_nr) aR)))))), (a_cfi, .inl (k_cfi, 40, .inl (upd fj k.toNatClampNeg p0)))]) hD [0, 1, 2] (by decide) rfl
            have hK9 := hK.sub (tys' := [(k_cru, .object "LoanRules$Rule"), (k_cfi, .int)]) [0, 1] rfl
            exact W.vret hx hb hr (fun t ht hW => ⟨⟨(), rfl, trivial, by rw [ht, ← hz, hE]; exact hP9, va_K.moved hW.alike hK9, by rw [← hz, hE]; exact hD9⟩, hS.F ht⟩) hS.2.2 d_C_insertByRank_82
          · rw [if_neg c_9] at hg_cins
            refine lv_aload_n hx hb d_C_insertByRank_45 rfl (lv_at hl 1 rfl) ?_
            refine va_get (D := (dC, dI)) (ci := 0) (v := .ref a_cfi) (C := "LoanRules") (T := Fz_C) (N := 16) hx hb hts it_C hown hK hP 0 rfl rfl 12 (by decide) (hts _ tw_116) (fun _ h9 => h9) rfl d_C_insertByRank_46 ?_
            refine lv_iload_n hx hb d_C_insertByRank_49 rfl (lv_at hl 0 rfl) ?_
            refine lv_aload_n hx hb d_C_insertByRank_50 rfl (lv_at hl 1 rfl) ?_
            refine va_get (D := (dC, dI)) (ci := 0) (v := .ref a_cfi) (C := "LoanRules") (T := Fz_C) (N := 16) hx hb hts it_C hown hK hP 0 rfl rfl 12 (by decide) (hts _ tw_116) (fun _ h9 => h9) rfl d_C_insertByRank_51 ?_
            refine lv_iload_n hx hb d_C_insertByRank_54 rfl (lv_at hl 0 rfl) ?_
            refine lv_iconst (v := 1) hx hb d_C_insertByRank_55 (by decide) ?_
            refine lv_isub hx hb d_C_insertByRank_56 ?_
            have i_11 : vp_in (k - 1) 40 := in40m hk c_4
            refine va_iald (D := (dC, dI)) hx hb hK hP 2 1 rfl rfl i_11 d_C_insertByRank_57 ?_
            have i_12 : vp_in k 40 := in40 hk
            refine va_iast (D := (dC, dI)) hx hb hK hP hD hS 2 1 rfl rfl i_12 d_C_insertByRank_58 (fun H locs hP hD hS => ?_)
            replace hP : va_P (dC, dI) vwCl (([(a_h, .inr (0, [.ref a_tx, .ref a_cru, .int w_nr, .ref a_cd, .ref a_td, .ref a_cki, .ref a_cca, .ref a_cty, .ref a_cio, .ref a_cex, .ref a_clo, .int w_nl, .ref a_cfi, .int w_nf, .ref a_ccl, .int w_nc])), (a_cru, .inl (k_cru, 40, .inr (.inr (.inr (.inr (ruA (nN w_nr) aR)))))), (a_cfi, .inl (k_cfi, 40, .inl (upd fj k.toNatClampNeg (fj (k - 1).toNatClampNeg))))] : va_W) ++ plz (nN w_nr) aR F_ (nN w_nl) aL G_ rho) H := hP
            replace hD : va_D A (([(a_h, .inr (0, [.ref a_tx, .ref a_cru, .int w_nr, .ref a_cd, .ref a_td, .ref a_cki, .ref a_cca, .ref a_cty, .ref a_cio, .ref a_cex, .ref a_clo, .int w_nl, .ref a_cfi, .int w_nf, .ref a_ccl, .int w_nc])), (a_cru, .inl (k_cru, 40, .inr (.inr (.inr (.inr (ruA (nN w_nr) aR)))))), (a_cfi, .inl (k_cfi, 40, .inl (upd fj k.toNatClampNeg (fj (k - 1).toNatClampNeg))))] : va_W) ++ plz (nN w_nr) aR F_ (nN w_nl) aL G_ rho) := hD
            refine lv_iinc (v := k + (-1)) (lv' := [(3, .int (k + (-1))), (0, .ref a_h), (1, .int p0), (2, .int p1)]) hx hb d_C_insertByRank_59 hl (k := 0) rfl rfl (by decide) rfl (fun ls hl => ?_)
            refine lv_goto (tgt := 25) hx hb d_C_insertByRank_62 (by decide) ?_
            exact ih_cins _ _ _ _ _ ⟨hP, hD, hS, lv_sub hl [0, 1, 2, 3] rfl, (li_dm hk c_4), (li_dmm hk c_4 hm_cins), hg_cins⟩
    · rw [if_neg c_2] at hE
      have hP9 := va_P.part (cx := [(a_h, .inr (0, [.ref a_tx, .ref a_cru, .int w_nr, .ref a_cd, .ref a_td, .ref a_cki, .ref a_cca, .ref a_cty, .ref a_cio, .ref a_cex, .ref a_clo, .int w_nl, .ref a_cfi, .int w_nf, .ref a_ccl, .int w_nc])), (a_cru, .inl (k_cru, 40, .inr (.inr (.inr (.inr (ruA (nN w_nr) aR)))))), (a_cfi, .inl (k_cfi, 40, .inl f_cfi))]) hP [0, 1, 2] rfl
      have hD9 := va_D.part (cx := [(a_h, .inr (0, [.ref a_tx, .ref a_cru, .int w_nr, .ref a_cd, .ref a_td, .ref a_cki, .ref a_cca, .ref a_cty, .ref a_cio, .ref a_cex, .ref a_clo, .int w_nl, .ref a_cfi, .int w_nf, .ref a_ccl, .int w_nc])), (a_cru, .inl (k_cru, 40, .inr (.inr (.inr (.inr (ruA (nN w_nr) aR)))))), (a_cfi, .inl (k_cfi, 40, .inl f_cfi))]) hD [0, 1, 2] (by decide) rfl
      have hK9 := hK.sub (tys' := [(k_cru, .object "LoanRules$Rule"), (k_cfi, .int)]) [0, 1] rfl
      exact W.vret hx hb hr (fun t ht hW => ⟨⟨(), rfl, trivial, by rw [ht, ← hz, hE]; exact hP9, va_K.moved hW.alike hK9, by rw [← hz, hE]; exact hD9⟩, hS.F ht⟩) hS.2.2 d_C_insertByRank_19
def gl_cgat : Nat → (Int32) → (Int32) → (Int32) → (Int32) → (Nat → Int32) → (Nat → Int32) → (Nat → Int32) → (Nat → Nat → Int32) → (Int32) → (Int32) → (Nat → Int32) → Int32 × Int32 × (Nat → Int32)
  | 0, p0, p1, p2, w_nr, f_cki, f_cty, f_cex, F_, nu, nf, fj => (nu, nf, fj)
  | n + 1, p0, p1, p2, w_nr, f_cki, f_cty, f_cex, F_, nu, nf, fj =>
    if 40 ≤ nu then
      (nu, nf, fj)
    else
      if rIn nu w_nr then
        if (g_Cg_fits p0 p1 f_cki f_cty (F_ 0 (nN nu)) (F_ 1 (nN nu)) (F_ 2 (nN nu))) = 0 then
          gl_cgat n p0 p1 p2 w_nr f_cki f_cty f_cex F_ (nu + 1) nf fj
        else
          if (g_Cg_isExcepted p0 nu p2 f_cex) = 0 then
            bv (g_Cg_insertByRank nu (F_ 8 (nN nu)) w_nr nf fj F_) (fun x_12 =>
              gl_cgat n p0 p1 p2 w_nr f_cki f_cty f_cex F_ (nu + 1) x_12.1 x_12.2)
          else
            gl_cgat n p0 p1 p2 w_nr f_cki f_cty f_cex F_ (nu + 1) nf fj
      else
        gl_cgat n p0 p1 p2 w_nr f_cki f_cty f_cex F_ (nu + 1) nf fj
def g_Cg_gatherFitting (p0 : Int32) (p1 : Int32) (p2 : Int32) (w_nr : Int32) (f_cki : Nat → Int32) (f_cty : Nat → Int32) (f_cex : Nat → Int32) (f_cfi : Nat → Int32) (F_ : Nat → Nat → Int32) : Int32 × (Nat → Int32) :=
  bv (gl_cgat 41 p0 p1 p2 w_nr f_cki f_cty f_cex F_ 0 0 f_cfi) (fun x_1 =>
    (x_1.2.1, x_1.2.2))
set_option maxHeartbeats 4000000 in
set_option maxRecDepth 100000 in
theorem c_Cg_gatherFitting (l : Launch) (dC : Nat → ClassId) (dI : Nat → Nat → Nat) (adK adV : Nat → Nat) (a_h : Nat) (a_cru : Nat) (a_cki : Nat) (a_cty : Nat) (a_cex : Nat) (a_cfi : Nat) (k_cru : ClassId) (k_cki : ClassId) (k_cty : ClassId) (k_cex : ClassId) (k_cfi : ClassId) (p0 : Int32) (p1 : Int32) (p2 : Int32) (a_tx : Nat) (w_nr : Int32) (a_cd : Nat) (a_td : Nat) (a_cca : Nat) (a_cio : Nat) (a_clo : Nat) (w_nl : Int32) (w_nf : Int32) (a_ccl : Nat) (w_nc : Int32) (f_cki : Nat → Int32) (f_cty : Nat → Int32) (f_cex : Nat → Int32) (f_cfi : Nat → Int32) (aR : Nat → Nat) (F_ : Nat → Nat → Int32) (aL : Nat → Nat) (G_ : Nat → Nat → Int32) (rho : Nat → Nat) (sz : Nat) (hnr : 0 ≤ w_nr.toInt ∧ w_nr.toInt ≤ 40) : Met l y_C_gatherFitting ws_C_gatherFitting ({ frames := 3, cells := 0, slots := 0, locals := 66 }) (va_Pc [.ref a_h, .int p0, .int p1, .int p2] (fun U => U.heap.size = sz ∧ zz adK adV (va_A (([(a_h, .inr (0, [.ref a_tx, .ref a_cru, .int w_nr, .ref a_cd, .ref a_td, .ref a_cki, .ref a_cca, .ref a_cty, .ref a_cio, .ref a_cex, .ref a_clo, .int w_nl, .ref a_cfi, .int w_nf, .ref a_ccl, .int w_nc])), (a_cru, .inl (k_cru, 40, .inr (.inr (.inr (.inr (ruA (nN w_nr) aR)))))), (a_cki, .inl (k_cki, 50, .inl f_cki)), (a_cty, .inl (k_cty, 50, .inl f_cty)), (a_cex, .inl (k_cex, 2000, .inl f_cex)), (a_cfi, .inl (k_cfi, 40, .inl f_cfi))] : va_W) ++ plz (nN w_nr) aR F_ (nN w_nl) aL G_ rho) sz) U ∧ va_P (dC, dI) vwCl (([(a_h, .inr (0, [.ref a_tx, .ref a_cru, .int w_nr, .ref a_cd, .ref a_td, .ref a_cki, .ref a_cca, .ref a_cty, .ref a_cio, .ref a_cex, .ref a_clo, .int w_nl, .ref a_cfi, .int w_nf, .ref a_ccl, .int w_nc])), (a_cru, .inl (k_cru, 40, .inr (.inr (.inr (.inr (ruA (nN w_nr) aR)))))), (a_cki, .inl (k_cki, 50, .inl f_cki)), (a_cty, .inl (k_cty, 50, .inl f_cty)), (a_cex, .inl (k_cex, 2000, .inl f_cex)), (a_cfi, .inl (k_cfi, 40, .inl f_cfi))] : va_W) ++ plz (nN w_nr) aR F_ (nN w_nl) aL G_ rho) U.heap ∧ va_K (dC, dI) vwCl [(k_cru, .object "LoanRules$Rule"), (k_cki, .int), (k_cty, .int), (k_cex, .int), (k_cfi, .int)] U ∧ va_D (fun _ => True) (([(a_h, .inr (0, [.ref a_tx, .ref a_cru, .int w_nr, .ref a_cd, .ref a_td, .ref a_cki, .ref a_cca, .ref a_cty, .ref a_cio, .ref a_cex, .ref a_clo, .int w_nl, .ref a_cfi, .int w_nf, .ref a_ccl, .int w_nc])), (a_cru, .inl (k_cru, 40, .inr (.inr (.inr (.inr (ruA (nN w_nr) aR)))))), (a_cki, .inl (k_cki, 50, .inl f_cki)), (a_cty, .inl (k_cty, 50, .inl f_cty)), (a_cex, .inl (k_cex, 2000, .inl f_cex)), (a_cfi, .inl (k_cfi, 40, .inl f_cfi))] : va_W) ++ plz (nN w_nr) aR F_ (nN w_nl) aL G_ rho))) (va_Qv (fun _ : Unit => True) (fun (_ : Unit) (t : State) => va_P (dC, dI) vwCl (([(a_h, .inr (0, [.ref a_tx, .ref a_cru, .int w_nr, .ref a_cd, .ref a_td, .ref a_cki, .ref a_cca, .ref a_cty, .ref a_cio, .ref a_cex, .ref a_clo, .int w_nl, .ref a_cfi, .int ((g_Cg_gatherFitting p0 p1 p2 w_nr f_cki f_cty f_cex f_cfi F_).1), .ref a_ccl, .int w_nc])), (a_cru, .inl (k_cru, 40, .inr (.inr (.inr (.inr (ruA (nN w_nr) aR)))))), (a_cki, .inl (k_cki, 50, .inl f_cki)), (a_cty, .inl (k_cty, 50, .inl f_cty)), (a_cex, .inl (k_cex, 2000, .inl f_cex)), (a_cfi, .inl (k_cfi, 40, .inl ((g_Cg_gatherFitting p0 p1 p2 w_nr f_cki f_cty f_cex f_cfi F_).2)))] : va_W) ++ plz (nN w_nr) aR F_ (nN w_nl) aL G_ rho) t.heap ∧ va_K (dC, dI) vwCl [(k_cru, .object "LoanRules$Rule"), (k_cki, .int), (k_cty, .int), (k_cex, .int), (k_cfi, .int)] t ∧ va_D (va_A (([(a_h, .inr (0, [.ref a_tx, .ref a_cru, .int w_nr, .ref a_cd, .ref a_td, .ref a_cki, .ref a_cca, .ref a_cty, .ref a_cio, .ref a_cex, .ref a_clo, .int w_nl, .ref a_cfi, .int w_nf, .ref a_ccl, .int w_nc])), (a_cru, .inl (k_cru, 40, .inr (.inr (.inr (.inr (ruA (nN w_nr) aR)))))), (a_cki, .inl (k_cki, 50, .inl f_cki)), (a_cty, .inl (k_cty, 50, .inl f_cty)), (a_cex, .inl (k_cex, 2000, .inl f_cex)), (a_cfi, .inl (k_cfi, 40, .inl f_cfi))] : va_W) ++ plz (nN w_nr) aR F_ (nN w_nl) aL G_ rho) sz) (([(a_h, .inr (0, [.ref a_tx, .ref a_cru, .int w_nr, .ref a_cd, .ref a_td, .ref a_cki, .ref a_cca, .ref a_cty, .ref a_cio, .ref a_cex, .ref a_clo, .int w_nl, .ref a_cfi, .int ((g_Cg_gatherFitting p0 p1 p2 w_nr f_cki f_cty f_cex f_cfi F_).1), .ref a_ccl, .int w_nc])), (a_cru, .inl (k_cru, 40, .inr (.inr (.inr (.inr (ruA (nN w_nr) aR)))))), (a_cki, .inl (k_cki, 50, .inl f_cki)), (a_cty, .inl (k_cty, 50, .inl f_cty)), (a_cex, .inl (k_cex, 2000, .inl f_cex)), (a_cfi, .inl (k_cfi, 40, .inl ((g_Cg_gatherFitting p0 p1 p2 w_nr f_cki f_cty f_cex f_cfi F_).2)))] : va_W) ++ plz (nN w_nr) aR F_ (nN w_nl) aL G_ rho)) (va_A (([(a_h, .inr (0, [.ref a_tx, .ref a_cru, .int w_nr, .ref a_cd, .ref a_td, .ref a_cki, .ref a_cca, .ref a_cty, .ref a_cio, .ref a_cex, .ref a_clo, .int w_nl, .ref a_cfi, .int w_nf, .ref a_ccl, .int w_nc])), (a_cru, .inl (k_cru, 40, .inr (.inr (.inr (.inr (ruA (nN w_nr) aR)))))), (a_cki, .inl (k_cki, 50, .inl f_cki)), (a_cty, .inl (k_cty, 50, .inl f_cty)), (a_cex, .inl (k_cex, 2000, .inl f_cex)), (a_cfi, .inl (k_cfi, 40, .inl f_cfi))] : va_W) ++ plz (nN w_nr) aR F_ (nN w_nl) aL G_ rho) sz)) 0 0 (va_A (([(a_h, .inr (0, [.ref a_tx, .ref a_cru, .int w_nr, .ref a_cd, .ref a_td, .ref a_cki, .ref a_cca, .ref a_cty, .ref a_cio, .ref a_cex, .ref a_clo, .int w_nl, .ref a_cfi, .int w_nf, .ref a_ccl, .int w_nc])), (a_cru, .inl (k_cru, 40, .inr (.inr (.inr (.inr (ruA (nN w_nr) aR)))))), (a_cki, .inl (k_cki, 50, .inl f_cki)), (a_cty, .inl (k_cty, 50, .inl f_cty)), (a_cex, .inl (k_cex, 2000, .inl f_cex)), (a_cfi, .inl (k_cfi, 40, .inl f_cfi))] : va_W) ++ plz (nN w_nr) aR F_ (nN w_nl) aL G_ rho) sz) := by
  refine Met.ofW (cc := c_C_gatherFitting) (maxL := 6) (ret := none) (by decide) rfl ?_
  intro p e s m args below meth c s₁ B hml hv
  obtain ⟨rfl, hsz, hZ, hP, hK, hD0⟩ := hv
  have hx := B.exec
  have hb := B.bytes
  have hr := B.returns
  have hts0 := atoms_spec (ws := ws_C_gatherFitting) B.pre
  have hts : ∀ w ∈ TT, w.before _ s = true := fun w h => hts0 w (List.mem_cons_of_mem _ h)
  have hown : s.vm.findClass "LoanRules" = some m.cls := findClass_of_methodNamed B.named
  have hlocks := B.notSynchronized
  subst hsz
  have hD := hD0.self (sz := s.heap.size)
  generalize hAe : va_A (([(a_h, .inr (0, [.ref a_tx, .ref a_cru, .int w_nr, .ref a_cd, .ref a_td, .ref a_cki, .ref a_cca, .ref a_cty, .ref a_cio, .ref a_cex, .ref a_clo, .int w_nl, .ref a_cfi, .int w_nf, .ref a_ccl, .int w_nc])), (a_cru, .inl (k_cru, 40, .inr (.inr (.inr (.inr (ruA (nN w_nr) aR)))))), (a_cki, .inl (k_cki, 50, .inl f_cki)), (a_cty, .inl (k_cty, 50, .inl f_cty)), (a_cex, .inl (k_cex, 2000, .inl f_cex)), (a_cfi, .inl (k_cfi, 40, .inl f_cfi))] : va_W) ++ plz (nN w_nr) aR F_ (nN w_nl) aL G_ rho) s.heap.size = A at hD hZ ⊢
  have hA : ∀ q : Nat, s.heap.size ≤ q → A q := fun q h => by rw [← hAe]; exact Or.inr h
  clear hAe hD0
  have hS : va_S A s.heap s.heap [] := va_S.rf
  replace hP : va_P (dC, dI) vwCl (([(a_h, .inr (0, [.ref a_tx, .ref a_cru, .int w_nr, .ref a_cd, .ref a_td, .ref a_cki, .ref a_cca, .ref a_cty, .ref a_cio, .ref a_cex, .ref a_clo, .int w_nl, .ref a_cfi, .int w_nf, .ref a_ccl, .int w_nc])), (a_cru, .inl (k_cru, 40, .inr (.inr (.inr (.inr (ruA (nN w_nr) aR)))))), (a_cki, .inl (k_cki, 50, .inl f_cki)), (a_cty, .inl (k_cty, 50, .inl f_cty)), (a_cex, .inl (k_cex, 2000, .inl f_cex)), (a_cfi, .inl (k_cfi, 40, .inl f_cfi))] : va_W) ++ plz (nN w_nr) aR F_ (nN w_nl) aL G_ rho) s.heap := hP
  have hl := lv_entry ([.ref a_h, .int p0, .int p1, .int p2]) (n := 6) (Nat.le_of_ble_eq_true rfl)
  rw [lg_entry_eq]
  generalize (lg_sl ([.ref a_h, .int p0, .int p1, .int p2]) ++ List.replicate (6 - (lg_sl ([.ref a_h, .int p0, .int p1, .int p2])).length) Slot.unset).toArray = ls at hl ⊢
  replace hl : lv_has ls 6 [(0, .ref a_h), (1, .int p0), (2, .int p1), (3, .int p2)] := hl
  obtain ⟨z, hz⟩ : ∃ z, z = g_Cg_gatherFitting p0 p1 p2 w_nr f_cki f_cty f_cex f_cfi F_ := ⟨_, rfl⟩
  have hE := hz
  rw [g_Cg_gatherFitting] at hE
  refine lv_aload_n hx hb d_C_gatherFitting_0 rfl (lv_at hl 0 rfl) ?_
  refine lv_iconst (v := 0) hx hb d_C_gatherFitting_1 (by decide) ?_
  refine va_put (D := (dC, dI)) (ci := 0) (v := .int 0) (ty := .int) (C := "LoanRules") (T := Fz_C) (N := 16) hx hb hts it_C tz_C tz_C_ok nz_C hown hK hP hD hS 0 rfl rfl 13 (by decide) (hts _ tw_117) (fun _ h9 => h9) rfl (by decide +kernel) rfl rfl (Nat.le_of_ble_eq_true rfl) d_C_gatherFitting_2 (fun H locs hP hD hS => ?_)
  replace hP : va_P (dC, dI) vwCl (([(a_h, .inr (0, [.ref a_tx, .ref a_cru, .int w_nr, .ref a_cd, .ref a_td, .ref a_cki, .ref a_cca, .ref a_cty, .ref a_cio, .ref a_cex, .ref a_clo, .int w_nl, .ref a_cfi, .int 0, .ref a_ccl, .int w_nc])), (a_cru, .inl (k_cru, 40, .inr (.inr (.inr (.inr (ruA (nN w_nr) aR)))))), (a_cki, .inl (k_cki, 50, .inl f_cki)), (a_cty, .inl (k_cty, 50, .inl f_cty)), (a_cex, .inl (k_cex, 2000, .inl f_cex)), (a_cfi, .inl (k_cfi, 40, .inl f_cfi))] : va_W) ++ plz (nN w_nr) aR F_ (nN w_nl) aL G_ rho) H := hP
  replace hD : va_D A (([(a_h, .inr (0, [.ref a_tx, .ref a_cru, .int w_nr, .ref a_cd, .ref a_td, .ref a_cki, .ref a_cca, .ref a_cty, .ref a_cio, .ref a_cex, .ref a_clo, .int w_nl, .ref a_cfi, .int 0, .ref a_ccl, .int w_nc])), (a_cru, .inl (k_cru, 40, .inr (.inr (.inr (.inr (ruA (nN w_nr) aR)))))), (a_cki, .inl (k_cki, 50, .inl f_cki)), (a_cty, .inl (k_cty, 50, .inl f_cty)), (a_cex, .inl (k_cex, 2000, .inl f_cex)), (a_cfi, .inl (k_cfi, 40, .inl f_cfi))] : va_W) ++ plz (nN w_nr) aR F_ (nN w_nl) aL G_ rho) := hD
  refine lv_iconst (v := 0) hx hb d_C_gatherFitting_5 (by decide) ?_
  refine lv_istore (lv' := [(4, .int 0), (0, .ref a_h), (1, .int p0), (2, .int p1), (3, .int p2)]) hx hb d_C_gatherFitting_6 hl (by decide) rfl (fun ls hl => ?_)
  generalize hg_x_1 : gl_cgat 41 p0 p1 p2 w_nr f_cki f_cty f_cex F_ 0 0 f_cfi = x_1 at hE
  rw [bv_eq] at hE
  obtain ⟨nu, e_nu⟩ : ∃ q9 : Int32, q9 = 0 := ⟨_, rfl⟩
  obtain ⟨nf, e_nf⟩ : ∃ q9 : Int32, q9 = 0 := ⟨_, rfl⟩
  obtain ⟨fj, e_fj⟩ : ∃ q9 : Nat → Int32, q9 = f_cfi := ⟨_, rfl⟩
  obtain ⟨n, e_n⟩ : ∃ q9 : Nat, q9 = 41 := ⟨_, rfl⟩
  have hAll : va_P (dC, dI) vwCl (([(a_h, .inr (0, [.ref a_tx, .ref a_cru, .int w_nr, .ref a_cd, .ref a_td, .ref a_cki, .ref a_cca, .ref a_cty, .ref a_cio, .ref a_cex, .ref a_clo, .int w_nl, .ref a_cfi, .int nf, .ref a_ccl, .int w_nc])), (a_cru, .inl (k_cru, 40, .inr (.inr (.inr (.inr (ruA (nN w_nr) aR)))))), (a_cki, .inl (k_cki, 50, .inl f_cki)), (a_cty, .inl (k_cty, 50, .inl f_cty)), (a_cex, .inl (k_cex, 2000, .inl f_cex)), (a_cfi, .inl (k_cfi, 40, .inl fj))] : va_W) ++ plz (nN w_nr) aR F_ (nN w_nl) aL G_ rho) H ∧ va_D A (([(a_h, .inr (0, [.ref a_tx, .ref a_cru, .int w_nr, .ref a_cd, .ref a_td, .ref a_cki, .ref a_cca, .ref a_cty, .ref a_cio, .ref a_cex, .ref a_clo, .int w_nl, .ref a_cfi, .int nf, .ref a_ccl, .int w_nc])), (a_cru, .inl (k_cru, 40, .inr (.inr (.inr (.inr (ruA (nN w_nr) aR)))))), (a_cki, .inl (k_cki, 50, .inl f_cki)), (a_cty, .inl (k_cty, 50, .inl f_cty)), (a_cex, .inl (k_cex, 2000, .inl f_cex)), (a_cfi, .inl (k_cfi, 40, .inl fj))] : va_W) ++ plz (nN w_nr) aR F_ (nN w_nl) aL G_ rho) ∧ va_S A s.heap H locs ∧ lv_has ls 6 [(4, .int nu), (0, .ref a_h), (1, .int p0), (2, .int p1), (3, .int p2)] ∧ (0 ≤ nu.toInt ∧ nu.toInt ≤ 40) ∧ 41 - nu.toInt.toNat ≤ n ∧ gl_cgat n p0 p1 p2 w_nr f_cki f_cty f_cex F_ nu nf fj = x_1 := by
    subst e_nu e_nf e_fj e_n
    exact ⟨hP, hD, hS, hl, by decide, by decide, hg_x_1⟩
  clear hP hl hD hS e_nu e_nf e_fj e_n hg_x_1
  induction n generalizing nu nf fj H locs ls with
  | zero =>
    obtain ⟨hP, hD, hS, hl, hnu, hm_cgat, hg_cgat⟩ := hAll
    exfalso; omega
  | succ n ih_cgat =>
    obtain ⟨hP, hD, hS, hl, hnu, hm_cgat, hg_cgat⟩ := hAll
    rw [gl_cgat] at hg_cgat
    refine lv_iload hx hb d_C_gatherFitting_8 (lv_at hl 0 rfl) ?_
    refine lv_bipush (v := 40) hx hb d_C_gatherFitting_10 (by decide) ?_
    refine lv_icmp_ge (tgt := 67) hx hb d_C_gatherFitting_12 (by decide) (fun c_2 => ?_) (fun c_2 => ?_)
    · rw [if_pos c_2] at hg_cgat
      subst hg_cgat
      dsimp only at hE
      have hP9 := va_P.part (cx := [(a_h, .inr (0, [.ref a_tx, .ref a_cru, .int w_nr, .ref a_cd, .ref a_td, .ref a_cki, .ref a_cca, .ref a_cty, .ref a_cio, .ref a_cex, .ref a_clo, .int w_nl, .ref a_cfi, .int nf, .ref a_ccl, .int w_nc])), (a_cru, .inl (k_cru, 40, .inr (.inr (.inr (.inr (ruA (nN w_nr) aR)))))), (a_cki, .inl (k_cki, 50, .inl f_cki)), (a_cty, .inl (k_cty, 50, .inl f_cty)), (a_cex, .inl (k_cex, 2000, .inl f_cex)), (a_cfi, .inl (k_cfi, 40, .inl fj))]) hP [0, 1, 2, 3, 4, 5] rfl
      have hD9 := va_D.part (cx := [(a_h, .inr (0, [.ref a_tx, .ref a_cru, .int w_nr, .ref a_cd, .ref a_td, .ref a_cki, .ref a_cca, .ref a_cty, .ref a_cio, .ref a_cex, .ref a_clo, .int w_nl, .ref a_cfi, .int nf, .ref a_ccl, .int w_nc])), (a_cru, .inl (k_cru, 40, .inr (.inr (.inr (.inr (ruA (nN w_nr) aR)))))), (a_cki, .inl (k_cki, 50, .inl f_cki)), (a_cty, .inl (k_cty, 50, .inl f_cty)), (a_cex, .inl (k_cex, 2000, .inl f_cex)), (a_cfi, .inl (k_cfi, 40, .inl fj))]) hD [0, 1, 2, 3, 4, 5] (by decide) rfl
      have hK9 := hK.sub (tys' := [(k_cru, .object "LoanRules$Rule"), (k_cki, .int), (k_cty, .int), (k_cex, .int), (k_cfi, .int)]) [0, 1, 2, 3, 4] rfl
      exact W.vret hx hb hr (fun t ht hW => ⟨⟨(), rfl, trivial, by rw [ht, ← hz, hE]; exact hP9, va_K.moved hW.alike hK9, by rw [← hz, hE]; exact hD9⟩, hS.F ht⟩) hS.2.2 d_C_gatherFitting_67
    · rw [if_neg c_2] at hg_cgat
      refine lv_aload_n hx hb d_C_gatherFitting_15 rfl (lv_at hl 1 rfl) ?_
      refine lv_iload hx hb d_C_gatherFitting_16 (lv_at hl 0 rfl) ?_
      have hPc := hP.sub (ws' := [(a_h, .inr (0, [.ref a_tx, .ref a_cru, .int w_nr, .ref a_cd, .ref a_td, .ref a_cki, .ref a_cca, .ref a_cty, .ref a_cio, .ref a_cex, .ref a_clo, .int w_nl, .ref a_cfi, .int nf, .ref a_ccl, .int w_nc])), (a_cru, .inl (k_cru, 40, .inr (.inr (.inr (.inr (ruA (nN w_nr) aR))))))]) [0, 1] rfl
      have hKc := hK.sub (tys' := [(k_cru, .object "LoanRules$Rule")]) [0] rfl
      refine va_csq (va_Run.run (va_runV (As := [.int nu]) (rest := []) ⟨hx, hb, hml, hown, hts⟩ (c_Cg_ruleAt l dC dI adK adV (a_h := a_h) (p0 := nu) (a_tx := a_tx) (a_cru := a_cru) (w_nr := w_nr) (a_cd := a_cd) (a_td := a_td) (a_cki := a_cki) (a_cca := a_cca) (a_cty := a_cty) (a_cio := a_cio) (a_cex := a_cex) (a_clo := a_clo) (w_nl := w_nl) (a_cfi := a_cfi) (w_nf := nf) (a_ccl := a_ccl) (w_nc := w_nc) (k_cru := k_cru) (f_cru := (ruA (nN w_nr) aR))) (cwV 1 hts (gV tw_431 tw_433 tw_15 tw_42 tw_434) rfl rfl rfl (by decide +kernel) ⟨(Nat.le_of_ble_eq_true rfl), (Nat.le_of_ble_eq_true rfl)⟩) ⟨fun a U g mk q => by obtain ⟨q0, qZ, qP, qK⟩ := q; exact ⟨q0, zz_call qZ, qP, va_K.moved (u := U) (U := U.calling g mk a) (Vm.Alike.refl U.vm) qK⟩, va_recv hKc hPc (ci := 0) (q0 := 0) rfl rfl, fun U hU hW => ⟨rfl, zz_ro hS hU hW hZ, by rw [hU]; exact hPc, va_K.moved hW.alike hKc⟩⟩ rfl rfl hl.1 rfl (lv_room (Nat.le_of_ble_eq_true rfl)) d_C_gatherFitting_18 ⟨(Nat.le_of_ble_eq_true rfl), (Nat.le_of_ble_eq_true rfl)⟩)) (fun r_3 hw_4 => ?_)
      clear hPc hKc
      subst hw_4
      by_cases c_5 : rIn nu w_nr
      · rw [if_pos c_5] at hg_cgat
        refine W.eq (g2 := F0 m 21 ls [.ref (aR (nN nu))]) (by rw [rul_some hnr.2 c_5]; rfl) ?_
        refine lv_astore (lv' := [(5, .ref (aR (nN nu))), (4, .int nu), (0, .ref a_h), (1, .int p0), (2, .int p1), (3, .int p2)]) hx hb d_C_gatherFitting_21 hl (by decide) rfl (fun ls hl => ?_)
        refine lv_aload hx hb d_C_gatherFitting_23 (lv_at hl 0 rfl) ?_
        refine lv_ifnull hx hb d_C_gatherFitting_25 ?_
        refine lv_aload_n hx hb d_C_gatherFitting_28 rfl (lv_at hl 2 rfl) ?_
        refine lv_aload hx hb d_C_gatherFitting_29 (lv_at hl 0 rfl) ?_
        refine lv_iload_n hx hb d_C_gatherFitting_31 rfl (lv_at hl 3 rfl) ?_
        refine lv_iload_n hx hb d_C_gatherFitting_32 rfl (lv_at hl 4 rfl) ?_
        have hP1 := vP_one hP (plz_r (rIn_lt c_5))
        have hPc := hP1.sub (ws' := [(a_h, .inr (0, [.ref a_tx, .ref a_cru, .int w_nr, .ref a_cd, .ref a_td, .ref a_cki, .ref a_cca, .ref a_cty, .ref a_cio, .ref a_cex, .ref a_clo, .int w_nl, .ref a_cfi, .int nf, .ref a_ccl, .int w_nc])), (a_cki, .inl (k_cki, 50, .inl f_cki)), (a_cty, .inl (k_cty, 50, .inl f_cty)), ((aR (nN nu)), .inr (3, [.int (F_ 0 (nN nu)), .int (F_ 1 (nN nu)), .int (F_ 2 (nN nu)), .int (F_ 3 (nN nu)), .int (F_ 4 (nN nu)), .int (F_ 5 (nN nu)), .int (F_ 6 (nN nu)), .int (F_ 7 (nN nu)), .int (F_ 8 (nN nu)), .int (F_ 9 (nN nu)), .int (F_ 10 (nN nu))]))]) [0, 2, 3, 6] rfl
        clear hP1
        have hKc := hK.sub (tys' := [(k_cki, .int), (k_cty, .int)]) [1, 2] rfl
        refine vp_callSi (va_Run.run (va_runV (As := [.ref (aR (nN nu)), .int p0, .int p1]) (rest := []) ⟨hx, hb, hml, hown, hts⟩ (c_Cg_fits l dC dI adK adV (a_h := a_h) (a_to := (aR (nN nu))) (p0 := p0) (p1 := p1) (a_tx := a_tx) (a_cru := a_cru) (w_nr := w_nr) (a_cd := a_cd) (a_td := a_td) (a_cki := a_cki) (a_cca := a_cca) (a_cty := a_cty) (a_cio := a_cio) (a_cex := a_cex) (a_clo := a_clo) (w_nl := w_nl) (a_cfi := a_cfi) (w_nf := nf) (a_ccl := a_ccl) (w_nc := w_nc) (k_cki := k_cki) (f_cki := f_cki) (k_cty := k_cty) (f_cty := f_cty) (r_ki := F_ 0 (nN nu)) (r_ty := F_ 1 (nN nu)) (r_pe := F_ 2 (nN nu)) (r_de := F_ 3 (nN nu)) (r_da := F_ 4 (nN nu)) (r_re := F_ 5 (nN nu)) (r_ga := F_ 6 (nN nu)) (r_rc := F_ 7 (nN nu)) (r_rk := F_ 8 (nN nu)) (r_me := F_ 9 (nN nu)) (r_le := F_ 10 (nN nu))) (cwV 3 hts (gV tw_467 tw_469 tw_18 tw_42 tw_470) rfl rfl rfl (by decide +kernel) ⟨(Nat.le_of_ble_eq_true rfl), (Nat.le_of_ble_eq_true rfl)⟩) ⟨fun a U g mk q => by obtain ⟨q0, qZ, qP, qK⟩ := q; exact ⟨q0, zz_call qZ, qP, va_K.moved (u := U) (U := U.calling g mk a) (Vm.Alike.refl U.vm) qK⟩, va_recv hKc hPc (ci := 0) (q0 := 0) rfl rfl, fun U hU hW => ⟨rfl, zz_ro hS hU hW hZ, by rw [hU]; exact hPc, va_K.moved hW.alike hKc⟩⟩ rfl rfl hl.1 rfl (lv_room (Nat.le_of_ble_eq_true rfl)) d_C_gatherFitting_33 ⟨(Nat.le_of_ble_eq_true rfl), (Nat.le_of_ble_eq_true rfl)⟩)) (fun r_6 hw_7 => ?_)
        clear hPc hKc
        subst hw_7
        refine lv_if_eq (tgt := 61) hx hb d_C_gatherFitting_36 (by decide) (fun c_8 => ?_) (fun c_8 => ?_)
        · rw [if_pos c_8] at hg_cgat
          refine lv_iinc (v := nu + 1) (lv' := [(4, .int (nu + 1)), (5, .ref (aR (nN nu))), (0, .ref a_h), (1, .int p0), (2, .int p1), (3, .int p2)]) hx hb d_C_gatherFitting_61 hl (k := 1) rfl rfl (by decide) rfl (fun ls hl => ?_)
          refine lv_goto (tgt := 8) hx hb d_C_gatherFitting_64 (by decide) ?_
          exact ih_cgat _ _ _ _ _ _ ⟨hP, hD, hS, lv_sub hl [0, 2, 3, 4, 5] rfl, (li_s40 hnu (li_ltn0 hnu c_2 (by decide))), (li_m40 hnu (li_ltn0 hnu c_2 (by decide)) hm_cgat), hg_cgat⟩
        · rw [if_neg c_8] at hg_cgat
          refine lv_aload_n hx hb d_C_gatherFitting_39 rfl (lv_at hl 2 rfl) ?_
          refine lv_iload_n hx hb d_C_gatherFitting_40 rfl (lv_at hl 3 rfl) ?_
          refine lv_iload hx hb d_C_gatherFitting_41 (lv_at hl 1 rfl) ?_
          refine lv_iload_n hx hb d_C_gatherFitting_43 rfl (lv_at hl 5 rfl) ?_
          have hPc := hP.sub (ws' := [(a_h, .inr (0, [.ref a_tx, .ref a_cru, .int w_nr, .ref a_cd, .ref a_td, .ref a_cki, .ref a_cca, .ref a_cty, .ref a_cio, .ref a_cex, .ref a_clo, .int w_nl, .ref a_cfi, .int nf, .ref a_ccl, .int w_nc])), (a_cex, .inl (k_cex, 2000, .inl f_cex))]) [0, 4] rfl
          have hKc := hK.sub (tys' := [(k_cex, .int)]) [3] rfl
          refine vp_callSi (va_Run.run (va_runV (As := [.int p0, .int nu, .int p2]) (rest := []) ⟨hx, hb, hml, hown, hts⟩ (c_Cg_isExcepted l dC dI adK adV (a_h := a_h) (p0 := p0) (p1 := nu) (p2 := p2) (a_tx := a_tx) (a_cru := a_cru) (w_nr := w_nr) (a_cd := a_cd) (a_td := a_td) (a_cki := a_cki) (a_cca := a_cca) (a_cty := a_cty) (a_cio := a_cio) (a_cex := a_cex) (a_clo := a_clo) (w_nl := w_nl) (a_cfi := a_cfi) (w_nf := nf) (a_ccl := a_ccl) (w_nc := w_nc) (k_cex := k_cex) (f_cex := f_cex)) (cwV 3 hts (gV tw_471 tw_473 tw_19 tw_42 tw_474) rfl rfl rfl (by decide +kernel) ⟨(Nat.le_of_ble_eq_true rfl), (Nat.le_of_ble_eq_true rfl)⟩) ⟨fun a U g mk q => by obtain ⟨q0, qZ, qP, qK⟩ := q; exact ⟨q0, zz_call qZ, qP, va_K.moved (u := U) (U := U.calling g mk a) (Vm.Alike.refl U.vm) qK⟩, va_recv hKc hPc (ci := 0) (q0 := 0) rfl rfl, fun U hU hW => ⟨rfl, zz_ro hS hU hW hZ, by rw [hU]; exact hPc, va_K.moved hW.alike hKc⟩⟩ rfl rfl hl.1 rfl (lv_room (Nat.le_of_ble_eq_true rfl)) d_C_gatherFitting_44 ⟨(Nat.le_of_ble_eq_true rfl), (Nat.le_of_ble_eq_true rfl)⟩)) (fun r_9 hw_10 => ?_)
          clear hPc hKc
          subst hw_10
          refine lv_if_ne (tgt := 61) hx hb d_C_gatherFitting_47 (by decide) (fun c_11 => ?_) (fun c_11 => ?_)
          · rw [if_neg c_11] at hg_cgat
            refine lv_iinc (v := nu + 1) (lv' := [(4, .int (nu + 1)), (5, .ref (aR (nN nu))), (0, .ref a_h), (1, .int p0), (2, .int p1), (3, .int p2)]) hx hb d_C_gatherFitting_61 hl (k := 1) rfl rfl (by decide) rfl (fun ls hl => ?_)
            refine lv_goto (tgt := 8) hx hb d_C_gatherFitting_64 (by decide) ?_
            exact ih_cgat _ _ _ _ _ _ ⟨hP, hD, hS, lv_sub hl [0, 2, 3, 4, 5] rfl, (li_s40 hnu (li_ltn0 hnu c_2 (by decide))), (li_m40 hnu (li_ltn0 hnu c_2 (by decide)) hm_cgat), hg_cgat⟩
          · rw [if_pos c_11] at hg_cgat
            refine lv_aload_n hx hb d_C_gatherFitting_50 rfl (lv_at hl 2 rfl) ?_
            refine lv_iload hx hb d_C_gatherFitting_51 (lv_at hl 1 rfl) ?_
            refine lv_aload hx hb d_C_gatherFitting_53 (lv_at hl 0 rfl) ?_
            refine va_get (D := (dC, dI)) (ci := 3) (v := .int (F_ 8 (nN nu))) (C := "LoanRules$Rule") (T := Fz_R) (N := 11) hx hb hts it_R hown hK hP _ (plz_r (rIn_lt c_5)) rfl 8 (by decide) (hts _ tw_198) (fun _ h9 => h9) rfl d_C_gatherFitting_55 ?_
            have hPc := va_P.part (cx := [(a_h, .inr (0, [.ref a_tx, .ref a_cru, .int w_nr, .ref a_cd, .ref a_td, .ref a_cki, .ref a_cca, .ref a_cty, .ref a_cio, .ref a_cex, .ref a_clo, .int w_nl, .ref a_cfi, .int nf, .ref a_ccl, .int w_nc])), (a_cru, .inl (k_cru, 40, .inr (.inr (.inr (.inr (ruA (nN w_nr) aR)))))), (a_cfi, .inl (k_cfi, 40, .inl fj))]) hP [0, 1, 5] rfl
            have hKc := hK.sub (tys' := [(k_cru, .object "LoanRules$Rule"), (k_cfi, .int)]) [0, 4] rfl
            have hDc := va_D.part (cx := [(a_h, .inr (0, [.ref a_tx, .ref a_cru, .int w_nr, .ref a_cd, .ref a_td, .ref a_cki, .ref a_cca, .ref a_cty, .ref a_cio, .ref a_cex, .ref a_clo, .int w_nl, .ref a_cfi, .int nf, .ref a_ccl, .int w_nc])), (a_cru, .inl (k_cru, 40, .inr (.inr (.inr (.inr (ruA (nN w_nr) aR)))))), (a_cfi, .inl (k_cfi, 40, .inl fj))]) hD [0, 1, 5] (by decide) rfl
            have hFc := va_freeP (cx := [(a_h, .inr (0, [.ref a_tx, .ref a_cru, .int w_nr, .ref a_cd, .ref a_td, .ref a_cki, .ref a_cca, .ref a_cty, .ref a_cio, .ref a_cex, .ref a_clo, .int w_nl, .ref a_cfi, .int nf, .ref a_ccl, .int w_nc])), (a_cru, .inl (k_cru, 40, .inr (.inr (.inr (.inr (ruA (nN w_nr) aR)))))), (a_cfi, .inl (k_cfi, 40, .inl fj))]) hD hS hA [0, 1, 5] rfl
            refine va_callv (va_runV (As := [.int nu, .int (F_ 8 (nN nu))]) (rest := []) ⟨hx, hb, hml, hown, hts⟩ (c_Cg_insertByRank l dC dI adK adV (a_h := a_h) (p0 := nu) (p1 := F_ 8 (nN nu)) (a_tx := a_tx) (a_cru := a_cru) (w_nr := w_nr) (a_cd := a_cd) (a_td := a_td) (a_cki := a_cki) (a_cca := a_cca) (a_cty := a_cty) (a_cio := a_cio) (a_cex := a_cex) (a_clo := a_clo) (w_nl := w_nl) (a_cfi := a_cfi) (w_nf := nf) (a_ccl := a_ccl) (w_nc := w_nc) (k_cru := k_cru) (k_cfi := k_cfi) (f_cfi := fj) (aR := aR) (F_ := F_) (aL := aL) (G_ := G_) (rho := rho) (sz := H.size) hnr) (cwV 2 hts (gV tw_475 tw_477 tw_20 tw_42 tw_478) rfl rfl rfl (by decide +kernel) ⟨(Nat.le_of_ble_eq_true rfl), (Nat.le_of_ble_eq_true rfl)⟩) ⟨fun a U g mk q => by obtain ⟨q0, q1, qZ, qP, qK, qD⟩ := q; exact ⟨q0, q1, zz_call qZ, qP, va_K.moved (u := U) (U := U.calling g mk a) (Vm.Alike.refl U.vm) qK, qD⟩, va_recv hKc hPc (ci := 0) (q0 := 0) rfl rfl, fun U hU hW => ⟨rfl, by rw [hU], zz_rw hS hFc hU hW hZ, by rw [hU]; exact hPc, va_K.moved hW.alike hKc, hDc.weaken (fun _ _ _ _ => trivial)⟩⟩ rfl rfl hl.1 rfl (lv_room (Nat.le_of_ble_eq_true rfl)) d_C_gatherFitting_58 ⟨(Nat.le_of_ble_eq_true rfl), (Nat.le_of_ble_eq_true rfl)⟩) hS (fun q _ h => hFc q h) hFc (fun u t H1 locs ht hvm hw_12 hB hz1 hk1 hS => ?_)
            generalize hg_x_13 : g_Cg_insertByRank nu (F_ 8 (nN nu)) w_nr nf fj F_ = x_13 at hw_12 hB hg_cgat
            rw [bv_eq] at hg_cgat
            obtain ⟨hP1, hK1, hD1⟩ := hB
            rw [ht] at hP1
            have hK1 := va_K.moved hvm.symm hK1
            obtain ⟨hP, hD⟩ := va_joinP (wr := [(a_cki, .inl (k_cki, 50, .inl f_cki)), (a_cty, .inl (k_cty, 50, .inl f_cty)), (a_cex, .inl (k_cex, 2000, .inl f_cex))]) (rx := [(a_h, .inr (0, [.ref a_tx, .ref a_cru, .int w_nr, .ref a_cd, .ref a_td, .ref a_cki, .ref a_cca, .ref a_cty, .ref a_cio, .ref a_cex, .ref a_clo, .int w_nl, .ref a_cfi, .int x_13.1, .ref a_ccl, .int w_nc])), (a_cru, .inl (k_cru, 40, .inr (.inr (.inr (.inr (ruA (nN w_nr) aR)))))), (a_cfi, .inl (k_cfi, 40, .inl x_13.2))]) (pl1 := plz (nN w_nr) aR F_ (nN w_nl) aL G_ rho) hP hD [0, 1, 5] [2, 3, 4] rfl rfl (by decide) (by decide) hk1 hFc hP1 hD1
            replace hK := (hK.sub (tys' := [(k_cki, .int), (k_cty, .int), (k_cex, .int)]) [1, 2, 3] rfl).app hK1
            generalize H1 = H at hP hS ⊢
            replace hP := va_P.part (cx := [(a_h, .inr (0, [.ref a_tx, .ref a_cru, .int w_nr, .ref a_cd, .ref a_td, .ref a_cki, .ref a_cca, .ref a_cty, .ref a_cio, .ref a_cex, .ref a_clo, .int w_nl, .ref a_cfi, .int x_13.1, .ref a_ccl, .int w_nc])), (a_cru, .inl (k_cru, 40, .inr (.inr (.inr (.inr (ruA (nN w_nr) aR)))))), (a_cki, .inl (k_cki, 50, .inl f_cki)), (a_cty, .inl (k_cty, 50, .inl f_cty)), (a_cex, .inl (k_cex, 2000, .inl f_cex)), (a_cfi, .inl (k_cfi, 40, .inl x_13.2))]) hP [3, 4, 0, 1, 2, 5] rfl
            replace hD := va_D.part (cx := [(a_h, .inr (0, [.ref a_tx, .ref a_cru, .int w_nr, .ref a_cd, .ref a_td, .ref a_cki, .ref a_cca, .ref a_cty, .ref a_cio, .ref a_cex, .ref a_clo, .int w_nl, .ref a_cfi, .int x_13.1, .ref a_ccl, .int w_nc])), (a_cru, .inl (k_cru, 40, .inr (.inr (.inr (.inr (ruA (nN w_nr) aR)))))), (a_cki, .inl (k_cki, 50, .inl f_cki)), (a_cty, .inl (k_cty, 50, .inl f_cty)), (a_cex, .inl (k_cex, 2000, .inl f_cex)), (a_cfi, .inl (k_cfi, 40, .inl x_13.2))]) hD [3, 4, 0, 1, 2, 5] (by decide) rfl
            replace hK := hK.sub (tys' := [(k_cru, .object "LoanRules$Rule"), (k_cki, .int), (k_cty, .int), (k_cex, .int), (k_cfi, .int)]) [3, 0, 1, 2, 4] rfl
            refine lv_iinc (v := nu + 1) (lv' := [(4, .int (nu + 1)), (5, .ref (aR (nN nu))), (0, .ref a_h), (1, .int p0), (2, .int p1), (3, .int p2)]) hx hb d_C_gatherFitting_61 hl (k := 1) rfl rfl (by decide) rfl (fun ls hl => ?_)
            refine lv_goto (tgt := 8) hx hb d_C_gatherFitting_64 (by decide) ?_
            exact ih_cgat _ _ _ _ _ _ ⟨hP, hD, hS, lv_sub hl [0, 2, 3, 4, 5] rfl, (li_s40 hnu (li_ltn0 hnu c_2 (by decide))), (li_m40 hnu (li_ltn0 hnu c_2 (by decide)) hm_cgat), hg_cgat⟩
      · rw [if_neg c_5] at hg_cgat
        refine W.eq (g2 := F0 m 21 ls [.null]) (by rw [rul_none c_5]; rfl) ?_
        refine lv_astoreN (lv' := [(5, .null), (4, .int nu), (0, .ref a_h), (1, .int p0), (2, .int p1), (3, .int p2)]) hx hb d_C_gatherFitting_21 hl (by decide) rfl (fun ls hl => ?_)
        refine lv_aloadN hx hb d_C_gatherFitting_23 (lv_at hl 0 rfl) ?_
        refine lv_ifnullN (tgt := 61) hx hb d_C_gatherFitting_25 (by decide) ?_
        refine lv_iinc (v := nu + 1) (lv' := [(4, .int (nu + 1)), (5, .null), (0, .ref a_h), (1, .int p0), (2, .int p1), (3, .int p2)]) hx hb d_C_gatherFitting_61 hl (k := 1) rfl rfl (by decide) rfl (fun ls hl => ?_)
        refine lv_goto (tgt := 8) hx hb d_C_gatherFitting_64 (by decide) ?_
        exact ih_cgat _ _ _ _ _ _ ⟨hP, hD, hS, lv_sub hl [0, 2, 3, 4, 5] rfl, (li_s40 hnu (li_ltn0 hnu c_2 (by decide))), (li_m40 hnu (li_ltn0 hnu c_2 (by decide)) hm_cgat), hg_cgat⟩
def gl_cncl : Nat → (Int32) → (Int32) → (Nat → Int32) → (Nat → Int32) → (Int32) → Nat × Int32
  | 0, w_nf, w_nc, f_cfi, f_ccl, k => (0, k)
  | n + 1, w_nf, w_nc, f_cfi, f_ccl, k =>
    if w_nc ≤ k then
      (0, k)
    else
      if 780 ≤ k then
        (0, k)
      else
        if (f_ccl k.toNatClampNeg) = (((g_Cg_fittingAt 0 w_nf f_cfi) * 40) + (g_Cg_fittingAt 1 w_nf f_cfi)) then
          (1, k)
        else
          gl_cncl n w_nf w_nc f_cfi f_ccl (k + 1)
def g_Cg_noteClash (w_nr : Int32) (w_nf : Int32) (w_nc : Int32) (f_cfi : Nat → Int32) (f_ccl : Nat → Int32) (F_ : Nat → Nat → Int32) : Int32 × (Nat → Int32) :=
  if (g_Cg_fittingAt 1 w_nf f_cfi) = (-1) then
    (w_nc, f_ccl)
  else
    if (g_Cg_rankOf (g_Cg_fittingAt 0 w_nf f_cfi) w_nr F_) = (g_Cg_rankOf (g_Cg_fittingAt 1 w_nf f_cfi) w_nr F_) then
      bv (gl_cncl 782 w_nf w_nc f_cfi f_ccl 0) (fun x_11 =>
        if x_11.1 = 0 then
          if 780 ≤ w_nc then
            (w_nc, f_ccl)
          else
            (w_nc + 1, upd f_ccl w_nc.toNatClampNeg (((g_Cg_fittingAt 0 w_nf f_cfi) * 40) + (g_Cg_fittingAt 1 w_nf f_cfi)))
        else
          (w_nc, f_ccl))
    else
      (w_nc, f_ccl)
set_option maxHeartbeats 4000000 in
set_option maxRecDepth 100000 in
theorem c_Cg_noteClash (l : Launch) (dC : Nat → ClassId) (dI : Nat → Nat → Nat) (adK adV : Nat → Nat) (a_h : Nat) (a_cru : Nat) (a_cfi : Nat) (a_ccl : Nat) (k_cru : ClassId) (k_cfi : ClassId) (k_ccl : ClassId) (a_tx : Nat) (w_nr : Int32) (a_cd : Nat) (a_td : Nat) (a_cki : Nat) (a_cca : Nat) (a_cty : Nat) (a_cio : Nat) (a_cex : Nat) (a_clo : Nat) (w_nl : Int32) (w_nf : Int32) (w_nc : Int32) (f_cfi : Nat → Int32) (f_ccl : Nat → Int32) (aR : Nat → Nat) (F_ : Nat → Nat → Int32) (aL : Nat → Nat) (G_ : Nat → Nat → Int32) (rho : Nat → Nat) (sz : Nat) (hnr : 0 ≤ w_nr.toInt ∧ w_nr.toInt ≤ 40) (hnc : 0 ≤ w_nc.toInt ∧ w_nc.toInt ≤ 780) : Met l y_C_noteClash ws_C_noteClash ({ frames := 2, cells := 0, slots := 0, locals := 43 }) (va_Pc [.ref a_h] (fun U => U.heap.size = sz ∧ zz adK adV (va_A (([(a_h, .inr (0, [.ref a_tx, .ref a_cru, .int w_nr, .ref a_cd, .ref a_td, .ref a_cki, .ref a_cca, .ref a_cty, .ref a_cio, .ref a_cex, .ref a_clo, .int w_nl, .ref a_cfi, .int w_nf, .ref a_ccl, .int w_nc])), (a_cru, .inl (k_cru, 40, .inr (.inr (.inr (.inr (ruA (nN w_nr) aR)))))), (a_cfi, .inl (k_cfi, 40, .inl f_cfi)), (a_ccl, .inl (k_ccl, 780, .inl f_ccl))] : va_W) ++ plz (nN w_nr) aR F_ (nN w_nl) aL G_ rho) sz) U ∧ va_P (dC, dI) vwCl (([(a_h, .inr (0, [.ref a_tx, .ref a_cru, .int w_nr, .ref a_cd, .ref a_td, .ref a_cki, .ref a_cca, .ref a_cty, .ref a_cio, .ref a_cex, .ref a_clo, .int w_nl, .ref a_cfi, .int w_nf, .ref a_ccl, .int w_nc])), (a_cru, .inl (k_cru, 40, .inr (.inr (.inr (.inr (ruA (nN w_nr) aR)))))), (a_cfi, .inl (k_cfi, 40, .inl f_cfi)), (a_ccl, .inl (k_ccl, 780, .inl f_ccl))] : va_W) ++ plz (nN w_nr) aR F_ (nN w_nl) aL G_ rho) U.heap ∧ va_K (dC, dI) vwCl [(k_cru, .object "LoanRules$Rule"), (k_cfi, .int), (k_ccl, .int)] U ∧ va_D (fun _ => True) (([(a_h, .inr (0, [.ref a_tx, .ref a_cru, .int w_nr, .ref a_cd, .ref a_td, .ref a_cki, .ref a_cca, .ref a_cty, .ref a_cio, .ref a_cex, .ref a_clo, .int w_nl, .ref a_cfi, .int w_nf, .ref a_ccl, .int w_nc])), (a_cru, .inl (k_cru, 40, .inr (.inr (.inr (.inr (ruA (nN w_nr) aR)))))), (a_cfi, .inl (k_cfi, 40, .inl f_cfi)), (a_ccl, .inl (k_ccl, 780, .inl f_ccl))] : va_W) ++ plz (nN w_nr) aR F_ (nN w_nl) aL G_ rho))) (va_Qv (fun _ : Unit => True) (fun (_ : Unit) (t : State) => va_P (dC, dI) vwCl (([(a_h, .inr (0, [.ref a_tx, .ref a_cru, .int w_nr, .ref a_cd, .ref a_td, .ref a_cki, .ref a_cca, .ref a_cty, .ref a_cio, .ref a_cex, .ref a_clo, .int w_nl, .ref a_cfi, .int w_nf, .ref a_ccl, .int ((g_Cg_noteClash w_nr w_nf w_nc f_cfi f_ccl F_).1)])), (a_cru, .inl (k_cru, 40, .inr (.inr (.inr (.inr (ruA (nN w_nr) aR)))))), (a_cfi, .inl (k_cfi, 40, .inl f_cfi)), (a_ccl, .inl (k_ccl, 780, .inl ((g_Cg_noteClash w_nr w_nf w_nc f_cfi f_ccl F_).2)))] : va_W) ++ plz (nN w_nr) aR F_ (nN w_nl) aL G_ rho) t.heap ∧ va_K (dC, dI) vwCl [(k_cru, .object "LoanRules$Rule"), (k_cfi, .int), (k_ccl, .int)] t ∧ va_D (va_A (([(a_h, .inr (0, [.ref a_tx, .ref a_cru, .int w_nr, .ref a_cd, .ref a_td, .ref a_cki, .ref a_cca, .ref a_cty, .ref a_cio, .ref a_cex, .ref a_clo, .int w_nl, .ref a_cfi, .int w_nf, .ref a_ccl, .int w_nc])), (a_cru, .inl (k_cru, 40, .inr (.inr (.inr (.inr (ruA (nN w_nr) aR)))))), (a_cfi, .inl (k_cfi, 40, .inl f_cfi)), (a_ccl, .inl (k_ccl, 780, .inl f_ccl))] : va_W) ++ plz (nN w_nr) aR F_ (nN w_nl) aL G_ rho) sz) (([(a_h, .inr (0, [.ref a_tx, .ref a_cru, .int w_nr, .ref a_cd, .ref a_td, .ref a_cki, .ref a_cca, .ref a_cty, .ref a_cio, .ref a_cex, .ref a_clo, .int w_nl, .ref a_cfi, .int w_nf, .ref a_ccl, .int ((g_Cg_noteClash w_nr w_nf w_nc f_cfi f_ccl F_).1)])), (a_cru, .inl (k_cru, 40, .inr (.inr (.inr (.inr (ruA (nN w_nr) aR)))))), (a_cfi, .inl (k_cfi, 40, .inl f_cfi)), (a_ccl, .inl (k_ccl, 780, .inl ((g_Cg_noteClash w_nr w_nf w_nc f_cfi f_ccl F_).2)))] : va_W) ++ plz (nN w_nr) aR F_ (nN w_nl) aL G_ rho)) (va_A (([(a_h, .inr (0, [.ref a_tx, .ref a_cru, .int w_nr, .ref a_cd, .ref a_td, .ref a_cki, .ref a_cca, .ref a_cty, .ref a_cio, .ref a_cex, .ref a_clo, .int w_nl, .ref a_cfi, .int w_nf, .ref a_ccl, .int w_nc])), (a_cru, .inl (k_cru, 40, .inr (.inr (.inr (.inr (ruA (nN w_nr) aR)))))), (a_cfi, .inl (k_cfi, 40, .inl f_cfi)), (a_ccl, .inl (k_ccl, 780, .inl f_ccl))] : va_W) ++ plz (nN w_nr) aR F_ (nN w_nl) aL G_ rho) sz)) 0 0 (va_A (([(a_h, .inr (0, [.ref a_tx, .ref a_cru, .int w_nr, .ref a_cd, .ref a_td, .ref a_cki, .ref a_cca, .ref a_cty, .ref a_cio, .ref a_cex, .ref a_clo, .int w_nl, .ref a_cfi, .int w_nf, .ref a_ccl, .int w_nc])), (a_cru, .inl (k_cru, 40, .inr (.inr (.inr (.inr (ruA (nN w_nr) aR)))))), (a_cfi, .inl (k_cfi, 40, .inl f_cfi)), (a_ccl, .inl (k_ccl, 780, .inl f_ccl))] : va_W) ++ plz (nN w_nr) aR F_ (nN w_nl) aL G_ rho) sz) := by
  refine Met.ofW (cc := c_C_noteClash) (maxL := 5) (ret := none) (by decide) rfl ?_
  intro p e s m args below meth c s₁ B hml hv
  obtain ⟨rfl, hsz, hZ, hP, hK, hD0⟩ := hv
  have hx := B.exec
  have hb := B.bytes
  have hr := B.returns
  have hts0 := atoms_spec (ws := ws_C_noteClash) B.pre
  have hts : ∀ w ∈ TT, w.before _ s = true := fun w h => hts0 w (List.mem_cons_of_mem _ h)
  have hown : s.vm.findClass "LoanRules" = some m.cls := findClass_of_methodNamed B.named
  have hlocks := B.notSynchronized
  subst hsz
  have hD := hD0.self (sz := s.heap.size)
  generalize hAe : va_A (([(a_h, .inr (0, [.ref a_tx, .ref a_cru, .int w_nr, .ref a_cd, .ref a_td, .ref a_cki, .ref a_cca, .ref a_cty, .ref a_cio, .ref a_cex, .ref a_clo, .int w_nl, .ref a_cfi, .int w_nf, .ref a_ccl, .int w_nc])), (a_cru, .inl (k_cru, 40, .inr (.inr (.inr (.inr (ruA (nN w_nr) aR)))))), (a_cfi, .inl (k_cfi, 40, .inl f_cfi)), (a_ccl, .inl (k_ccl, 780, .inl f_ccl))] : va_W) ++ plz (nN w_nr) aR F_ (nN w_nl) aL G_ rho) s.heap.size = A at hD hZ ⊢
  have hA : ∀ q : Nat, s.heap.size ≤ q → A q := fun q h => by rw [← hAe]; exact Or.inr h
  clear hAe hD0
  have hS : va_S A s.heap s.heap [] := va_S.rf
  replace hP : va_P (dC, dI) vwCl (([(a_h, .inr (0, [.ref a_tx, .ref a_cru, .int w_nr, .ref a_cd, .ref a_td, .ref a_cki, .ref a_cca, .ref a_cty, .ref a_cio, .ref a_cex, .ref a_clo, .int w_nl, .ref a_cfi, .int w_nf, .ref a_ccl, .int w_nc])), (a_cru, .inl (k_cru, 40, .inr (.inr (.inr (.inr (ruA (nN w_nr) aR)))))), (a_cfi, .inl (k_cfi, 40, .inl f_cfi)), (a_ccl, .inl (k_ccl, 780, .inl f_ccl))] : va_W) ++ plz (nN w_nr) aR F_ (nN w_nl) aL G_ rho) s.heap := hP
  have hl := lv_entry ([.ref a_h]) (n := 5) (Nat.le_of_ble_eq_true rfl)
  rw [lg_entry_eq]
  generalize (lg_sl ([.ref a_h]) ++ List.replicate (5 - (lg_sl ([.ref a_h])).length) Slot.unset).toArray = ls at hl ⊢
  replace hl : lv_has ls 5 [(0, .ref a_h)] := hl
  obtain ⟨z, hz⟩ : ∃ z, z = g_Cg_noteClash w_nr w_nf w_nc f_cfi f_ccl F_ := ⟨_, rfl⟩
  have hE := hz
  rw [g_Cg_noteClash] at hE
  refine lv_aload_n hx hb d_C_noteClash_0 rfl (lv_at hl 0 rfl) ?_
  refine lv_iconst (v := 0) hx hb d_C_noteClash_1 (by decide) ?_
  have hPc := hP.sub (ws' := [(a_h, .inr (0, [.ref a_tx, .ref a_cru, .int w_nr, .ref a_cd, .ref a_td, .ref a_cki, .ref a_cca, .ref a_cty, .ref a_cio, .ref a_cex, .ref a_clo, .int w_nl, .ref a_cfi, .int w_nf, .ref a_ccl, .int w_nc])), (a_cfi, .inl (k_cfi, 40, .inl f_cfi))]) [0, 2] rfl
  have hKc := hK.sub (tys' := [(k_cfi, .int)]) [1] rfl
  refine vp_callSi (va_Run.run (va_runV (As := [.int 0]) (rest := []) ⟨hx, hb, hml, hown, hts⟩ (c_Cg_fittingAt l dC dI adK adV (a_h := a_h) (p0 := 0) (a_tx := a_tx) (a_cru := a_cru) (w_nr := w_nr) (a_cd := a_cd) (a_td := a_td) (a_cki := a_cki) (a_cca := a_cca) (a_cty := a_cty) (a_cio := a_cio) (a_cex := a_cex) (a_clo := a_clo) (w_nl := w_nl) (a_cfi := a_cfi) (w_nf := w_nf) (a_ccl := a_ccl) (w_nc := w_nc) (k_cfi := k_cfi) (f_cfi := f_cfi)) (cwV 1 hts (gV tw_443 tw_445 tw_16 tw_42 tw_446) rfl rfl rfl (by decide +kernel) ⟨(Nat.le_of_ble_eq_true rfl), (Nat.le_of_ble_eq_true rfl)⟩) ⟨fun a U g mk q => by obtain ⟨q0, qZ, qP, qK⟩ := q; exact ⟨q0, zz_call qZ, qP, va_K.moved (u := U) (U := U.calling g mk a) (Vm.Alike.refl U.vm) qK⟩, va_recv hKc hPc (ci := 0) (q0 := 0) rfl rfl, fun U hU hW => ⟨rfl, zz_ro hS hU hW hZ, by rw [hU]; exact hPc, va_K.moved hW.alike hKc⟩⟩ rfl rfl hl.1 rfl (lv_room (Nat.le_of_ble_eq_true rfl)) d_C_noteClash_2 ⟨(Nat.le_of_ble_eq_true rfl), (Nat.le_of_ble_eq_true rfl)⟩)) (fun r_1 hw_2 => ?_)
  clear hPc hKc
  subst hw_2
  refine lv_istore_n (lv' := [(1, .int (g_Cg_fittingAt 0 w_nf f_cfi)), (0, .ref a_h)]) hx hb d_C_noteClash_5 rfl hl (by decide) rfl (fun ls hl => ?_)
  refine lv_aload_n hx hb d_C_noteClash_6 rfl (lv_at hl 1 rfl) ?_
  refine lv_iconst (v := 1) hx hb d_C_noteClash_7 (by decide) ?_
  have hPc := hP.sub (ws' := [(a_h, .inr (0, [.ref a_tx, .ref a_cru, .int w_nr, .ref a_cd, .ref a_td, .ref a_cki, .ref a_cca, .ref a_cty, .ref a_cio, .ref a_cex, .ref a_clo, .int w_nl, .ref a_cfi, .int w_nf, .ref a_ccl, .int w_nc])), (a_cfi, .inl (k_cfi, 40, .inl f_cfi))]) [0, 2] rfl
  have hKc := hK.sub (tys' := [(k_cfi, .int)]) [1] rfl
  refine vp_callSi (va_Run.run (va_runV (As := [.int 1]) (rest := []) ⟨hx, hb, hml, hown, hts⟩ (c_Cg_fittingAt l dC dI adK adV (a_h := a_h) (p0 := 1) (a_tx := a_tx) (a_cru := a_cru) (w_nr := w_nr) (a_cd := a_cd) (a_td := a_td) (a_cki := a_cki) (a_cca := a_cca) (a_cty := a_cty) (a_cio := a_cio) (a_cex := a_cex) (a_clo := a_clo) (w_nl := w_nl) (a_cfi := a_cfi) (w_nf := w_nf) (a_ccl := a_ccl) (w_nc := w_nc) (k_cfi := k_cfi) (f_cfi := f_cfi)) (cwV 1 hts (gV tw_443 tw_445 tw_16 tw_42 tw_446) rfl rfl rfl (by decide +kernel) ⟨(Nat.le_of_ble_eq_true rfl), (Nat.le_of_ble_eq_true rfl)⟩) ⟨fun a U g mk q => by obtain ⟨q0, qZ, qP, qK⟩ := q; exact ⟨q0, zz_call qZ, qP, va_K.moved (u := U) (U := U.calling g mk a) (Vm.Alike.refl U.vm) qK⟩, va_recv hKc hPc (ci := 0) (q0 := 0) rfl rfl, fun U hU hW => ⟨rfl, zz_ro hS hU hW hZ, by rw [hU]; exact hPc, va_K.moved hW.alike hKc⟩⟩ rfl rfl hl.1 rfl (lv_room (Nat.le_of_ble_eq_true rfl)) d_C_noteClash_8 ⟨(Nat.le_of_ble_eq_true rfl), (Nat.le_of_ble_eq_true rfl)⟩)) (fun r_3 hw_4 => ?_)
  clear hPc hKc
  subst hw_4
  refine lv_istore_n (lv' := [(2, .int (g_Cg_fittingAt 1 w_nf f_cfi)), (1, .int (g_Cg_fittingAt 0 w_nf f_cfi)), (0, .ref a_h)]) hx hb d_C_noteClash_11 rfl hl (by decide) rfl (fun ls hl => ?_)
  refine lv_iload_n hx hb d_C_noteClash_12 rfl (lv_at hl 0 rfl) ?_
  refine lv_iconst (v := (-1)) hx hb d_C_noteClash_13 (by decide) ?_
  refine lv_icmp_eq (tgt := 30) hx hb d_C_noteClash_14 (by decide) (fun c_5 => ?_) (fun c_5 => ?_)
  · rw [if_pos c_5] at hE
    have hP9 := va_P.part (cx := [(a_h, .inr (0, [.ref a_tx, .ref a_cru, .int w_nr, .ref a_cd, .ref a_td, .ref a_cki, .ref a_cca, .ref a_cty, .ref a_cio, .ref a_cex, .ref a_clo, .int w_nl, .ref a_cfi, .int w_nf, .ref a_ccl, .int w_nc])), (a_cru, .inl (k_cru, 40, .inr (.inr (.inr (.inr (ruA (nN w_nr) aR)))))), (a_cfi, .inl (k_cfi, 40, .inl f_cfi)), (a_ccl, .inl (k_ccl, 780, .inl f_ccl))]) hP [0, 1, 2, 3] rfl
    have hD9 := va_D.part (cx := [(a_h, .inr (0, [.ref a_tx, .ref a_cru, .int w_nr, .ref a_cd, .ref a_td, .ref a_cki, .ref a_cca, .ref a_cty, .ref a_cio, .ref a_cex, .ref a_clo, .int w_nl, .ref a_cfi, .int w_nf, .ref a_ccl, .int w_nc])), (a_cru, .inl (k_cru, 40, .inr (.inr (.inr (.inr (ruA (nN w_nr) aR)))))), (a_cfi, .inl (k_cfi, 40, .inl f_cfi)), (a_ccl, .inl (k_ccl, 780, .inl f_ccl))]) hD [0, 1, 2, 3] (by decide) rfl
    have hK9 := hK.sub (tys' := [(k_cru, .object "LoanRules$Rule"), (k_cfi, .int), (k_ccl, .int)]) [0, 1, 2] rfl
    exact W.vret hx hb hr (fun t ht hW => ⟨⟨(), rfl, trivial, by rw [ht, ← hz, hE]; exact hP9, va_K.moved hW.alike hK9, by rw [← hz, hE]; exact hD9⟩, hS.F ht⟩) hS.2.2 d_C_noteClash_30
  · rw [if_neg c_5] at hE
    refine lv_aload_n hx hb d_C_noteClash_17 rfl (lv_at hl 2 rfl) ?_
    refine lv_iload_n hx hb d_C_noteClash_18 rfl (lv_at hl 1 rfl) ?_
    have hPc := va_P.part (cx := [(a_h, .inr (0, [.ref a_tx, .ref a_cru, .int w_nr, .ref a_cd, .ref a_td, .ref a_cki, .ref a_cca, .ref a_cty, .ref a_cio, .ref a_cex, .ref a_clo, .int w_nl, .ref a_cfi, .int w_nf, .ref a_ccl, .int w_nc])), (a_cru, .inl (k_cru, 40, .inr (.inr (.inr (.inr (ruA (nN w_nr) aR))))))]) hP [0, 1] rfl
    have hKc := hK.sub (tys' := [(k_cru, .object "LoanRules$Rule")]) [0] rfl
    refine vp_callSi (va_Run.run (va_runV (As := [.int (g_Cg_fittingAt 0 w_nf f_cfi)]) (rest := []) ⟨hx, hb, hml, hown, hts⟩ (c_Cg_rankOf l dC dI adK adV (a_h := a_h) (p0 := g_Cg_fittingAt 0 w_nf f_cfi) (a_tx := a_tx) (a_cru := a_cru) (w_nr := w_nr) (a_cd := a_cd) (a_td := a_td) (a_cki := a_cki) (a_cca := a_cca) (a_cty := a_cty) (a_cio := a_cio) (a_cex := a_cex) (a_clo := a_clo) (w_nl := w_nl) (a_cfi := a_cfi) (w_nf := w_nf) (a_ccl := a_ccl) (w_nc := w_nc) (k_cru := k_cru) (aR := aR) (F_ := F_) (aL := aL) (G_ := G_) (rho := rho) hnr) (cwV 1 hts (gV tw_479 tw_481 tw_21 tw_42 tw_482) rfl rfl rfl (by decide +kernel) ⟨(Nat.le_of_ble_eq_true rfl), (Nat.le_of_ble_eq_true rfl)⟩) ⟨fun a U g mk q => by obtain ⟨q0, qZ, qP, qK⟩ := q; exact ⟨q0, zz_call qZ, qP, va_K.moved (u := U) (U := U.calling g mk a) (Vm.Alike.refl U.vm) qK⟩, va_recv hKc hPc (ci := 0) (q0 := 0) rfl rfl, fun U hU hW => ⟨rfl, zz_ro hS hU hW hZ, by rw [hU]; exact hPc, va_K.moved hW.alike hKc⟩⟩ rfl rfl hl.1 rfl (lv_room (Nat.le_of_ble_eq_true rfl)) d_C_noteClash_19 ⟨(Nat.le_of_ble_eq_true rfl), (Nat.le_of_ble_eq_true rfl)⟩)) (fun r_6 hw_7 => ?_)
    clear hPc hKc
    subst hw_7
    refine lv_aload_n hx hb d_C_noteClash_22 rfl (lv_at hl 2 rfl) ?_
    refine lv_iload_n hx hb d_C_noteClash_23 rfl (lv_at hl 0 rfl) ?_
    have hPc := va_P.part (cx := [(a_h, .inr (0, [.ref a_tx, .ref a_cru, .int w_nr, .ref a_cd, .ref a_td, .ref a_cki, .ref a_cca, .ref a_cty, .ref a_cio, .ref a_cex, .ref a_clo, .int w_nl, .ref a_cfi, .int w_nf, .ref a_ccl, .int w_nc])), (a_cru, .inl (k_cru, 40, .inr (.inr (.inr (.inr (ruA (nN w_nr) aR))))))]) hP [0, 1] rfl
    have hKc := hK.sub (tys' := [(k_cru, .object "LoanRules$Rule")]) [0] rfl
    refine vp_callSi (va_Run.run (va_runV (As := [.int (g_Cg_fittingAt 1 w_nf f_cfi)]) (rest := [.int (g_Cg_rankOf (g_Cg_fittingAt 0 w_nf f_cfi) w_nr F_)]) ⟨hx, hb, hml, hown, hts⟩ (c_Cg_rankOf l dC dI adK adV (a_h := a_h) (p0 := g_Cg_fittingAt 1 w_nf f_cfi) (a_tx := a_tx) (a_cru := a_cru) (w_nr := w_nr) (a_cd := a_cd) (a_td := a_td) (a_cki := a_cki) (a_cca := a_cca) (a_cty := a_cty) (a_cio := a_cio) (a_cex := a_cex) (a_clo := a_clo) (w_nl := w_nl) (a_cfi := a_cfi) (w_nf := w_nf) (a_ccl := a_ccl) (w_nc := w_nc) (k_cru := k_cru) (aR := aR) (F_ := F_) (aL := aL) (G_ := G_) (rho := rho) hnr) (cwV 1 hts (gV tw_479 tw_481 tw_21 tw_42 tw_482) rfl rfl rfl (by decide +kernel) ⟨(Nat.le_of_ble_eq_true rfl), (Nat.le_of_ble_eq_true rfl)⟩) ⟨fun a U g mk q => by obtain ⟨q0, qZ, qP, qK⟩ := q; exact ⟨q0, zz_call qZ, qP, va_K.moved (u := U) (U := U.calling g mk a) (Vm.Alike.refl U.vm) qK⟩, va_recv hKc hPc (ci := 0) (q0 := 0) rfl rfl, fun U hU hW => ⟨rfl, zz_ro hS hU hW hZ, by rw [hU]; exact hPc, va_K.moved hW.alike hKc⟩⟩ rfl rfl hl.1 rfl (lv_room (Nat.le_of_ble_eq_true rfl)) d_C_noteClash_24 ⟨(Nat.le_of_ble_eq_true rfl), (Nat.le_of_ble_eq_true rfl)⟩)) (fun r_8 hw_9 => ?_)
    clear hPc hKc
    subst hw_9
    refine lv_icmp_eq (tgt := 31) hx hb d_C_noteClash_27 (by decide) (fun c_10 => ?_) (fun c_10 => ?_)
    · rw [if_pos c_10] at hE
      refine lv_iload_n hx hb d_C_noteClash_31 rfl (lv_at hl 1 rfl) ?_
      refine lv_bipush (v := 40) hx hb d_C_noteClash_32 (by decide) ?_
      refine lv_imul hx hb d_C_noteClash_34 ?_
      refine lv_iload_n hx hb d_C_noteClash_35 rfl (lv_at hl 0 rfl) ?_
      refine lv_iadd hx hb d_C_noteClash_36 ?_
      refine lv_istore_n (lv' := [(3, .int (((g_Cg_fittingAt 0 w_nf f_cfi) * 40) + (g_Cg_fittingAt 1 w_nf f_cfi))), (2, .int (g_Cg_fittingAt 1 w_nf f_cfi)), (1, .int (g_Cg_fittingAt 0 w_nf f_cfi)), (0, .ref a_h)]) hx hb d_C_noteClash_37 rfl hl (by decide) rfl (fun ls hl => ?_)
      refine lv_iconst (v := 0) hx hb d_C_noteClash_38 (by decide) ?_
      refine lv_istore (lv' := [(4, .int 0), (3, .int (((g_Cg_fittingAt 0 w_nf f_cfi) * 40) + (g_Cg_fittingAt 1 w_nf f_cfi))), (2, .int (g_Cg_fittingAt 1 w_nf f_cfi)), (1, .int (g_Cg_fittingAt 0 w_nf f_cfi)), (0, .ref a_h)]) hx hb d_C_noteClash_39 hl (by decide) rfl (fun ls hl => ?_)
      obtain ⟨H, hHe⟩ : ∃ H, H = s.heap := ⟨_, rfl⟩
      obtain ⟨locs, hLe⟩ : ∃ locs : List Loc, locs = [] := ⟨_, rfl⟩
      replace hP : va_P (dC, dI) vwCl (([(a_h, .inr (0, [.ref a_tx, .ref a_cru, .int w_nr, .ref a_cd, .ref a_td, .ref a_cki, .ref a_cca, .ref a_cty, .ref a_cio, .ref a_cex, .ref a_clo, .int w_nl, .ref a_cfi, .int w_nf, .ref a_ccl, .int w_nc])), (a_cru, .inl (k_cru, 40, .inr (.inr (.inr (.inr (ruA (nN w_nr) aR)))))), (a_cfi, .inl (k_cfi, 40, .inl f_cfi)), (a_ccl, .inl (k_ccl, 780, .inl f_ccl))] : va_W) ++ plz (nN w_nr) aR F_ (nN w_nl) aL G_ rho) H := by rw [hHe]; exact hP
      replace hS : va_S A s.heap H locs := by rw [hHe, hLe]; exact hS
      refine fl_gen hHe hLe ?_
      clear hHe hLe
      generalize hg_x_11 : gl_cncl 782 w_nf w_nc f_cfi f_ccl 0 = x_11 at hE
      rw [bv_eq] at hE
      obtain ⟨k, e_k⟩ : ∃ q9 : Int32, q9 = 0 := ⟨_, rfl⟩
      obtain ⟨n, e_n⟩ : ∃ q9 : Nat, q9 = 782 := ⟨_, rfl⟩
      have hAll : va_P (dC, dI) vwCl (([(a_h, .inr (0, [.ref a_tx, .ref a_cru, .int w_nr, .ref a_cd, .ref a_td, .ref a_cki, .ref a_cca, .ref a_cty, .ref a_cio, .ref a_cex, .ref a_clo, .int w_nl, .ref a_cfi, .int w_nf, .ref a_ccl, .int w_nc])), (a_cru, .inl (k_cru, 40, .inr (.inr (.inr (.inr (ruA (nN w_nr) aR)))))), (a_cfi, .inl (k_cfi, 40, .inl f_cfi)), (a_ccl, .inl (k_ccl, 780, .inl f_ccl))] : va_W) ++ plz (nN w_nr) aR F_ (nN w_nl) aL G_ rho) H ∧ va_D A (([(a_h, .inr (0, [.ref a_tx, .ref a_cru, .int w_nr, .ref a_cd, .ref a_td, .ref a_cki, .ref a_cca, .ref a_cty, .ref a_cio, .ref a_cex, .ref a_clo, .int w_nl, .ref a_cfi, .int w_nf, .ref a_ccl, .int w_nc])), (a_cru, .inl (k_cru, 40, .inr (.inr (.inr (.inr (ruA (nN w_nr) aR)))))), (a_cfi, .inl (k_cfi, 40, .inl f_cfi)), (a_ccl, .inl (k_ccl, 780, .inl f_ccl))] : va_W) ++ plz (nN w_nr) aR F_ (nN w_nl) aL G_ rho) ∧ va_S A s.heap H locs ∧ lv_has ls 5 [(4, .int k), (3, .int (((g_Cg_fittingAt 0 w_nf f_cfi) * 40) + (g_Cg_fittingAt 1 w_nf f_cfi))), (2, .int (g_Cg_fittingAt 1 w_nf f_cfi)), (1, .int (g_Cg_fittingAt 0 w_nf f_cfi)), (0, .ref a_h)] ∧ (0 ≤ k.toInt ∧ k.toInt ≤ 780) ∧ 781 - k.toInt.toNat ≤ n ∧ gl_cncl n w_nf w_nc f_cfi f_ccl k = x_11 := by
        subst e_k e_n
        exact ⟨hP, hD, hS, hl, by decide, by decide, hg_x_11⟩
      clear hP hl hD hS e_k e_n hg_x_11
      induction n generalizing k H locs ls with
      | zero =>
        obtain ⟨hP, hD, hS, hl, hk, hm_cncl, hg_cncl⟩ := hAll
        exfalso; omega
      | succ n ih_cncl =>
        obtain ⟨hP, hD, hS, hl, hk, hm_cncl, hg_cncl⟩ := hAll
        rw [gl_cncl] at hg_cncl
        refine lv_iload hx hb d_C_noteClash_41 (lv_at hl 0 rfl) ?_
        refine lv_aload_n hx hb d_C_noteClash_43 rfl (lv_at hl 4 rfl) ?_
        refine va_get (D := (dC, dI)) (ci := 0) (v := .int w_nc) (C := "LoanRules") (T := Fz_C) (N := 16) hx hb hts it_C hown hK hP 0 rfl rfl 15 (by decide) (hts _ tw_119) (fun _ h9 => h9) rfl d_C_noteClash_44 ?_
        refine lv_icmp_ge (tgt := 78) hx hb d_C_noteClash_47 (by decide) (fun c_12 => ?_) (fun c_12 => ?_)
        · rw [if_pos c_12] at hg_cncl
          subst hg_cncl
          dsimp only at hE
          rw [if_pos rfl] at hE
          refine lv_aload_n hx hb d_C_noteClash_78 rfl (lv_at hl 4 rfl) ?_
          refine va_get (D := (dC, dI)) (ci := 0) (v := .int w_nc) (C := "LoanRules") (T := Fz_C) (N := 16) hx hb hts it_C hown hK hP 0 rfl rfl 15 (by decide) (hts _ tw_119) (fun _ h9 => h9) rfl d_C_noteClash_79 ?_
          refine lv_aload_n hx hb d_C_noteClash_82 rfl (lv_at hl 4 rfl) ?_
          refine va_get (D := (dC, dI)) (ci := 0) (v := .ref a_ccl) (C := "LoanRules") (T := Fz_C) (N := 16) hx hb hts it_C hown hK hP 0 rfl rfl 14 (by decide) (hts _ tw_118) (fun _ h9 => h9) rfl d_C_noteClash_83 ?_
          refine va_alen (D := (dC, dI)) (v := 780) hx hb hK hP 3 2 rfl rfl rfl d_C_noteClash_86 ?_
          refine lv_icmp_ge (tgt := 110) hx hb d_C_noteClash_87 (by decide) (fun c_13 => ?_) (fun c_13 => ?_)
          · rw [if_pos c_13] at hE
            have hP9 := va_P.part (cx := [(a_h, .inr (0, [.ref a_tx, .ref a_cru, .int w_nr, .ref a_cd, .ref a_td, .ref a_cki, .ref a_cca, .ref a_cty, .ref a_cio, .ref a_cex, .ref a_clo, .int w_nl, .ref a_cfi, .int w_nf, .ref a_ccl, .int w_nc])), (a_cru, .inl (k_cru, 40, .inr (.inr (.inr (.inr (ruA (nN w_nr) aR)))))), (a_cfi, .inl (k_cfi, 40, .inl f_cfi)), (a_ccl, .inl (k_ccl, 780, .inl f_ccl))]) hP [0, 1, 2, 3] rfl
            have hD9 := va_D.part (cx := [(a_h, .inr (0, [.ref a_tx, .ref a_cru, .int w_nr, .ref a_cd, .ref a_td, .ref a_cki, .ref a_cca, .ref a_cty, .ref a_cio, .ref a_cex, .ref a_clo, .int w_nl, .ref a_cfi, .int w_nf, .ref a_ccl, .int w_nc])), (a_cru, .inl (k_cru, 40, .inr (.inr (.inr (.inr (ruA (nN w_nr) aR)))))), (a_cfi, .inl (k_cfi, 40, .inl f_cfi)), (a_ccl, .inl (k_ccl, 780, .inl f_ccl))]) hD [0, 1, 2, 3] (by decide) rfl
            have hK9 := hK.sub (tys' := [(k_cru, .object "LoanRules$Rule"), (k_cfi, .int), (k_ccl, .int)]) [0, 1, 2] rfl
            exact W.vret hx hb hr (fun t ht hW => ⟨⟨(), rfl, trivial, by rw [ht, ← hz, hE]; exact hP9, va_K.moved hW.alike hK9, by rw [← hz, hE]; exact hD9⟩, hS.F ht⟩) hS.2.2 d_C_noteClash_110
          · rw [if_neg c_13] at hE
            refine lv_aload_n hx hb d_C_noteClash_90 rfl (lv_at hl 4 rfl) ?_
            refine va_get (D := (dC, dI)) (ci := 0) (v := .ref a_ccl) (C := "LoanRules") (T := Fz_C) (N := 16) hx hb hts it_C hown hK hP 0 rfl rfl 14 (by decide) (hts _ tw_118) (fun _ h9 => h9) rfl d_C_noteClash_91 ?_
            refine lv_aload_n hx hb d_C_noteClash_94 rfl (lv_at hl 4 rfl) ?_
            refine va_get (D := (dC, dI)) (ci := 0) (v := .int w_nc) (C := "LoanRules") (T := Fz_C) (N := 16) hx hb hts it_C hown hK hP 0 rfl rfl 15 (by decide) (hts _ tw_119) (fun _ h9 => h9) rfl d_C_noteClash_95 ?_
            refine lv_iload_n hx hb d_C_noteClash_98 rfl (lv_at hl 1 rfl) ?_
            have i_14 : vp_in w_nc 780 := li_in hnc.1 c_13
            refine va_iast (D := (dC, dI)) hx hb hK hP hD hS 3 2 rfl rfl i_14 d_C_noteClash_99 (fun H locs hP hD hS => ?_)
            replace hP : va_P (dC, dI) vwCl (([(a_h, .inr (0, [.ref a_tx, .ref a_cru, .int w_nr, .ref a_cd, .ref a_td, .ref a_cki, .ref a_cca, .ref a_cty, .ref a_cio, .ref a_cex, .ref a_clo, .int w_nl, .ref a_cfi, .int w_nf, .ref a_ccl, .int w_nc])), (a_cru, .inl (k_cru, 40, .inr (.inr (.inr (.inr (ruA (nN w_nr) aR)))))), (a_cfi, .inl (k_cfi, 40, .inl f_cfi)), (a_ccl, .inl (k_ccl, 780, .inl (upd f_ccl w_nc.toNatClampNeg (((g_Cg_fittingAt 0 w_nf f_cfi) * 40) + (g_Cg_fittingAt 1 w_nf f_cfi)))))] : va_W) ++ plz (nN w_nr) aR F_ (nN w_nl) aL G_ rho) H := hP
            replace hD : va_D A (([(a_h, .inr (0, [.ref a_tx, .ref a_cru, .int w_nr, .ref a_cd, .ref a_td, .ref a_cki, .ref a_cca, .ref a_cty, .ref a_cio, .ref a_cex, .ref a_clo, .int w_nl, .ref a_cfi, .int w_nf, .ref a_ccl, .int w_nc])), (a_cru, .inl (k_cru, 40, .inr (.inr (.inr (.inr (ruA (nN w_nr) aR)))))), (a_cfi, .inl (k_cfi, 40, .inl f_cfi)), (a_ccl, .inl (k_ccl, 780, .inl (upd f_ccl w_nc.toNatClampNeg (((g_Cg_fittingAt 0 w_nf f_cfi) * 40) + (g_Cg_fittingAt 1 w_nf f_cfi)))))] : va_W) ++ plz (nN w_nr) aR F_ (nN w_nl) aL G_ rho) := hD
            refine lv_aload_n hx hb d_C_noteClash_100 rfl (lv_at hl 4 rfl) ?_
            refine lv_dup hx hb d_C_noteClash_101 rfl ?_
            refine va_get (D := (dC, dI)) (ci := 0) (v := .int w_nc) (C := "LoanRules") (T := Fz_C) (N := 16) hx hb hts it_C hown hK hP 0 rfl rfl 15 (by decide) (hts _ tw_119) (fun _ h9 => h9) rfl d_C_noteClash_102 ?_
            refine lv_iconst (v := 1) hx hb d_C_noteClash_105 (by decide) ?_
            refine lv_iadd hx hb d_C_noteClash_106 ?_
            refine va_put (D := (dC, dI)) (ci := 0) (v := .int (w_nc + 1)) (ty := .int) (C := "LoanRules") (T := Fz_C) (N := 16) hx hb hts it_C tz_C tz_C_ok nz_C hown hK hP hD hS 0 rfl rfl 15 (by decide) (hts _ tw_119) (fun _ h9 => h9) rfl (by decide +kernel) rfl rfl (Nat.le_of_ble_eq_true rfl) d_C_noteClash_107 (fun H locs hP hD hS => ?_)
            replace hP : va_P (dC, dI) vwCl (([(a_h, .inr (0, [.ref a_tx, .ref a_cru, .int w_nr, .ref a_cd, .ref a_td, .ref a_cki, .ref a_cca, .ref a_cty, .ref a_cio, .ref a_cex, .ref a_clo, .int w_nl, .ref a_cfi, .int w_nf, .ref a_ccl, .int (w_nc + 1)])), (a_cru, .inl (k_cru, 40, .inr (.inr (.inr (.inr (ruA (nN w_nr) aR)))))), (a_cfi, .inl (k_cfi, 40, .inl f_cfi)), (a_ccl, .inl (k_ccl, 780, .inl (upd f_ccl w_nc.toNatClampNeg (((g_Cg_fittingAt 0 w_nf f_cfi) * 40) + (g_Cg_fittingAt 1 w_nf f_cfi)))))] : va_W) ++ plz (nN w_nr) aR F_ (nN w_nl) aL G_ rho) H := hP
            replace hD : va_D A (([(a_h, .inr (0, [.ref a_tx, .ref a_cru, .int w_nr, .ref a_cd, .ref a_td, .ref a_cki, .ref a_cca, .ref a_cty, .ref a_cio, .ref a_cex, .ref a_clo, .int w_nl, .ref a_cfi, .int w_nf, .ref a_ccl, .int (w_nc + 1)])), (a_cru, .inl (k_cru, 40, .inr (.inr (.inr (.inr (ruA (nN w_nr) aR)))))), (a_cfi, .inl (k_cfi, 40, .inl f_cfi)), (a_ccl, .inl (k_ccl, 780, .inl (upd f_ccl w_nc.toNatClampNeg (((g_Cg_fittingAt 0 w_nf f_cfi) * 40) + (g_Cg_fittingAt 1 w_nf f_cfi)))))] : va_W) ++ plz (nN w_nr) aR F_ (nN w_nl) aL G_ rho) := hD
            have hP9 := va_P.part (cx := [(a_h, .inr (0, [.ref a_tx, .ref a_cru, .int w_nr, .ref a_cd, .ref a_td, .ref a_cki, .ref a_cca, .ref a_cty, .ref a_cio, .ref a_cex, .ref a_clo, .int w_nl, .ref a_cfi, .int w_nf, .ref a_ccl, .int (w_nc + 1)])), (a_cru, .inl (k_cru, 40, .inr (.inr (.inr (.inr (ruA (nN w_nr) aR)))))), (a_cfi, .inl (k_cfi, 40, .inl f_cfi)), (a_ccl, .inl (k_ccl, 780, .inl (upd f_ccl w_nc.toNatClampNeg (((g_Cg_fittingAt 0 w_nf f_cfi) * 40) + (g_Cg_fittingAt 1 w_nf f_cfi)))))]) hP [0, 1, 2, 3] rfl
            have hD9 := va_D.part (cx := [(a_h, .inr (0, [.ref a_tx, .ref a_cru, .int w_nr, .ref a_cd, .ref a_td, .ref a_cki, .ref a_cca, .ref a_cty, .ref a_cio, .ref a_cex, .ref a_clo, .int w_nl, .ref a_cfi, .int w_nf, .ref a_ccl, .int (w_nc + 1)])), (a_cru, .inl (k_cru, 40, .inr (.inr (.inr (.inr (ruA (nN w_nr) aR)))))), (a_cfi, .inl (k_cfi, 40, .inl f_cfi)), (a_ccl, .inl (k_ccl, 780, .inl (upd f_ccl w_nc.toNatClampNeg (((g_Cg_fittingAt 0 w_nf f_cfi) * 40) + (g_Cg_fittingAt 1 w_nf f_cfi)))))]) hD [0, 1, 2, 3] (by decide) rfl
            have hK9 := hK.sub (tys' := [(k_cru, .object "LoanRules$Rule"), (k_cfi, .int), (k_ccl, .int)]) [0, 1, 2] rfl
            exact W.vret hx hb hr (fun t ht hW => ⟨⟨(), rfl, trivial, by rw [ht, ← hz, hE]; exact hP9, va_K.moved hW.alike hK9, by rw [← hz, hE]; exact hD9⟩, hS.F ht⟩) hS.2.2 d_C_noteClash_110
        · rw [if_neg c_12] at hg_cncl
          refine lv_iload hx hb d_C_noteClash_50 (lv_at hl 0 rfl) ?_
          refine lv_aload_n hx hb d_C_noteClash_52 rfl (lv_at hl 4 rfl) ?_
          refine va_get (D := (dC, dI)) (ci := 0) (v := .ref a_ccl) (C := "LoanRules") (T := Fz_C) (N := 16) hx hb hts it_C hown hK hP 0 rfl rfl 14 (by decide) (hts _ tw_118) (fun _ h9 => h9) rfl d_C_noteClash_53 ?_
          refine va_alen (D := (dC, dI)) (v := 780) hx hb hK hP 3 2 rfl rfl rfl d_C_noteClash_56 ?_
          refine lv_icmp_ge (tgt := 78) hx hb d_C_noteClash_57 (by decide) (fun c_15 => ?_) (fun c_15 => ?_)
          · rw [if_pos c_15] at hg_cncl
            subst hg_cncl
            dsimp only at hE
            rw [if_pos rfl] at hE
            refine lv_aload_n hx hb d_C_noteClash_78 rfl (lv_at hl 4 rfl) ?_
            refine va_get (D := (dC, dI)) (ci := 0) (v := .int w_nc) (C := "LoanRules") (T := Fz_C) (N := 16) hx hb hts it_C hown hK hP 0 rfl rfl 15 (by decide) (hts _ tw_119) (fun _ h9 => h9) rfl d_C_noteClash_79 ?_
            refine lv_aload_n hx hb d_C_noteClash_82 rfl (lv_at hl 4 rfl) ?_
            refine va_get (D := (dC, dI)) (ci := 0) (v := .ref a_ccl) (C := "LoanRules") (T := Fz_C) (N := 16) hx hb hts it_C hown hK hP 0 rfl rfl 14 (by decide) (hts _ tw_118) (fun _ h9 => h9) rfl d_C_noteClash_83 ?_
            refine va_alen (D := (dC, dI)) (v := 780) hx hb hK hP 3 2 rfl rfl rfl d_C_noteClash_86 ?_
            refine lv_icmp_ge (tgt := 110) hx hb d_C_noteClash_87 (by decide) (fun c_16 => ?_) (fun c_16 => ?_)
            · rw [if_pos c_16] at hE
              have hP9 := va_P.part (cx := [(a_h, .inr (0, [.ref a_tx, .ref a_cru, .int w_nr, .ref a_cd, .ref a_td, .ref a_cki, .ref a_cca, .ref a_cty, .ref a_cio, .ref a_cex, .ref a_clo, .int w_nl, .ref a_cfi, .int w_nf, .ref a_ccl, .int w_nc])), (a_cru, .inl (k_cru, 40, .inr (.inr (.inr (.inr (ruA (nN w_nr) aR)))))), (a_cfi, .inl (k_cfi, 40, .inl f_cfi)), (a_ccl, .inl (k_ccl, 780, .inl f_ccl))]) hP [0, 1, 2, 3] rfl
              have hD9 := va_D.part (cx := [(a_h, .inr (0, [.ref a_tx, .ref a_cru, .int w_nr, .ref a_cd, .ref a_td, .ref a_cki, .ref a_cca, .ref a_cty, .ref a_cio, .ref a_cex, .ref a_clo, .int w_nl, .ref a_cfi, .int w_nf, .ref a_ccl, .int w_nc])), (a_cru, .inl (k_cru, 40, .inr (.inr (.inr (.inr (ruA (nN w_nr) aR)))))), (a_cfi, .inl (k_cfi, 40, .inl f_cfi)), (a_ccl, .inl (k_ccl, 780, .inl f_ccl))]) hD [0, 1, 2, 3] (by decide) rfl
              have hK9 := hK.sub (tys' := [(k_cru, .object "LoanRules$Rule"), (k_cfi, .int), (k_ccl, .int)]) [0, 1, 2] rfl
              exact W.vret hx hb hr (fun t ht hW => ⟨⟨(), rfl, trivial, by rw [ht, ← hz, hE]; exact hP9, va_K.moved hW.alike hK9, by rw [← hz, hE]; exact hD9⟩, hS.F ht⟩) hS.2.2 d_C_noteClash_110
            · rw [if_neg c_16] at hE
              refine lv_aload_n hx hb d_C_noteClash_90 rfl (lv_at hl 4 rfl) ?_
              refine va_get (D := (dC, dI)) (ci := 0) (v := .ref a_ccl) (C := "LoanRules") (T := Fz_C) (N := 16) hx hb hts it_C hown hK hP 0 rfl rfl 14 (by decide) (hts _ tw_118) (fun _ h9 => h9) rfl d_C_noteClash_91 ?_
              refine lv_aload_n hx hb d_C_noteClash_94 rfl (lv_at hl 4 rfl) ?_
              refine va_get (D := (dC, dI)) (ci := 0) (v := .int w_nc) (C := "LoanRules") (T := Fz_C) (N := 16) hx hb hts it_C hown hK hP 0 rfl rfl 15 (by decide) (hts _ tw_119) (fun _ h9 => h9) rfl d_C_noteClash_95 ?_
              refine lv_iload_n hx hb d_C_noteClash_98 rfl (lv_at hl 1 rfl) ?_
              have i_17 : vp_in w_nc 780 := li_in hnc.1 c_16
              refine va_iast (D := (dC, dI)) hx hb hK hP hD hS 3 2 rfl rfl i_17 d_C_noteClash_99 (fun H locs hP hD hS => ?_)
              replace hP : va_P (dC, dI) vwCl (([(a_h, .inr (0, [.ref a_tx, .ref a_cru, .int w_nr, .ref a_cd, .ref a_td, .ref a_cki, .ref a_cca, .ref a_cty, .ref a_cio, .ref a_cex, .ref a_clo, .int w_nl, .ref a_cfi, .int w_nf, .ref a_ccl, .int w_nc])), (a_cru, .inl (k_cru, 40, .inr (.inr (.inr (.inr (ruA (nN w_nr) aR)))))), (a_cfi, .inl (k_cfi, 40, .inl f_cfi)), (a_ccl, .inl (k_ccl, 780, .inl (upd f_ccl w_nc.toNatClampNeg (((g_Cg_fittingAt 0 w_nf f_cfi) * 40) + (g_Cg_fittingAt 1 w_nf f_cfi)))))] : va_W) ++ plz (nN w_nr) aR F_ (nN w_nl) aL G_ rho) H := hP
              replace hD : va_D A (([(a_h, .inr (0, [.ref a_tx, .ref a_cru, .int w_nr, .ref a_cd, .ref a_td, .ref a_cki, .ref a_cca, .ref a_cty, .ref a_cio, .ref a_cex, .ref a_clo, .int w_nl, .ref a_cfi, .int w_nf, .ref a_ccl, .int w_nc])), (a_cru, .inl (k_cru, 40, .inr (.inr (.inr (.inr (ruA (nN w_nr) aR)))))), (a_cfi, .inl (k_cfi, 40, .inl f_cfi)), (a_ccl, .inl (k_ccl, 780, .inl (upd f_ccl w_nc.toNatClampNeg (((g_Cg_fittingAt 0 w_nf f_cfi) * 40) + (g_Cg_fittingAt 1 w_nf f_cfi)))))] : va_W) ++ plz (nN w_nr) aR F_ (nN w_nl) aL G_ rho) := hD
              refine lv_aload_n hx hb d_C_noteClash_100 rfl (lv_at hl 4 rfl) ?_
              refine lv_dup hx hb d_C_noteClash_101 rfl ?_
              refine va_get (D := (dC, dI)) (ci := 0) (v := .int w_nc) (C := "LoanRules") (T := Fz_C) (N := 16) hx hb hts it_C hown hK hP 0 rfl rfl 15 (by decide) (hts _ tw_119) (fun _ h9 => h9) rfl d_C_noteClash_102 ?_
              refine lv_iconst (v := 1) hx hb d_C_noteClash_105 (by decide) ?_
              refine lv_iadd hx hb d_C_noteClash_106 ?_
              refine va_put (D := (dC, dI)) (ci := 0) (v := .int (w_nc + 1)) (ty := .int) (C := "LoanRules") (T := Fz_C) (N := 16) hx hb hts it_C tz_C tz_C_ok nz_C hown hK hP hD hS 0 rfl rfl 15 (by decide) (hts _ tw_119) (fun _ h9 => h9) rfl (by decide +kernel) rfl rfl (Nat.le_of_ble_eq_true rfl) d_C_noteClash_107 (fun H locs hP hD hS => ?_)
              replace hP : va_P (dC, dI) vwCl (([(a_h, .inr (0, [.ref a_tx, .ref a_cru, .int w_nr, .ref a_cd, .ref a_td, .ref a_cki, .ref a_cca, .ref a_cty, .ref a_cio, .ref a_cex, .ref a_clo, .int w_nl, .ref a_cfi, .int w_nf, .ref a_ccl, .int (w_nc + 1)])), (a_cru, .inl (k_cru, 40, .inr (.inr (.inr (.inr (ruA (nN w_nr) aR)))))), (a_cfi, .inl (k_cfi, 40, .inl f_cfi)), (a_ccl, .inl (k_ccl, 780, .inl (upd f_ccl w_nc.toNatClampNeg (((g_Cg_fittingAt 0 w_nf f_cfi) * 40) + (g_Cg_fittingAt 1 w_nf f_cfi)))))] : va_W) ++ plz (nN w_nr) aR F_ (nN w_nl) aL G_ rho) H := hP
              replace hD : va_D A (([(a_h, .inr (0, [.ref a_tx, .ref a_cru, .int w_nr, .ref a_cd, .ref a_td, .ref a_cki, .ref a_cca, .ref a_cty, .ref a_cio, .ref a_cex, .ref a_clo, .int w_nl, .ref a_cfi, .int w_nf, .ref a_ccl, .int (w_nc + 1)])), (a_cru, .inl (k_cru, 40, .inr (.inr (.inr (.inr (ruA (nN w_nr) aR)))))), (a_cfi, .inl (k_cfi, 40, .inl f_cfi)), (a_ccl, .inl (k_ccl, 780, .inl (upd f_ccl w_nc.toNatClampNeg (((g_Cg_fittingAt 0 w_nf f_cfi) * 40) + (g_Cg_fittingAt 1 w_nf f_cfi)))))] : va_W) ++ plz (nN w_nr) aR F_ (nN w_nl) aL G_ rho) := hD
              have hP9 := va_P.part (cx := [(a_h, .inr (0, [.ref a_tx, .ref a_cru, .int w_nr, .ref a_cd, .ref a_td, .ref a_cki, .ref a_cca, .ref a_cty, .ref a_cio, .ref a_cex, .ref a_clo, .int w_nl, .ref a_cfi, .int w_nf, .ref a_ccl, .int (w_nc + 1)])), (a_cru, .inl (k_cru, 40, .inr (.inr (.inr (.inr (ruA (nN w_nr) aR)))))), (a_cfi, .inl (k_cfi, 40, .inl f_cfi)), (a_ccl, .inl (k_ccl, 780, .inl (upd f_ccl w_nc.toNatClampNeg (((g_Cg_fittingAt 0 w_nf f_cfi) * 40) + (g_Cg_fittingAt 1 w_nf f_cfi)))))]) hP [0, 1, 2, 3] rfl
              have hD9 := va_D.part (cx := [(a_h, .inr (0, [.ref a_tx, .ref a_cru, .int w_nr, .ref a_cd, .ref a_td, .ref a_cki, .ref a_cca, .ref a_cty, .ref a_cio, .ref a_cex, .ref a_clo, .int w_nl, .ref a_cfi, .int w_nf, .ref a_ccl, .int (w_nc + 1)])), (a_cru, .inl (k_cru, 40, .inr (.inr (.inr (.inr (ruA (nN w_nr) aR)))))), (a_cfi, .inl (k_cfi, 40, .inl f_cfi)), (a_ccl, .inl (k_ccl, 780, .inl (upd f_ccl w_nc.toNatClampNeg (((g_Cg_fittingAt 0 w_nf f_cfi) * 40) + (g_Cg_fittingAt 1 w_nf f_cfi)))))]) hD [0, 1, 2, 3] (by decide) rfl
              have hK9 := hK.sub (tys' := [(k_cru, .object "LoanRules$Rule"), (k_cfi, .int), (k_ccl, .int)]) [0, 1, 2] rfl
              exact W.vret hx hb hr (fun t ht hW => ⟨⟨(), rfl, trivial, by rw [ht, ← hz, hE]; exact hP9, va_K.moved hW.alike hK9, by rw [← hz, hE]; exact hD9⟩, hS.F ht⟩) hS.2.2 d_C_noteClash_110
          · rw [if_neg c_15] at hg_cncl
            refine lv_aload_n hx hb d_C_noteClash_60 rfl (lv_at hl 4 rfl) ?_
            refine va_get (D := (dC, dI)) (ci := 0) (v := .ref a_ccl) (C := "LoanRules") (T := Fz_C) (N := 16) hx hb hts it_C hown hK hP 0 rfl rfl 14 (by decide) (hts _ tw_118) (fun _ h9 => h9) rfl d_C_noteClash_61 ?_
            refine lv_iload hx hb d_C_noteClash_64 (lv_at hl 0 rfl) ?_
            have i_18 : vp_in k 780 := li_in hk.1 c_15
            refine va_iald (D := (dC, dI)) hx hb hK hP 3 2 rfl rfl i_18 d_C_noteClash_66 ?_
            refine lv_iload_n hx hb d_C_noteClash_67 rfl (lv_at hl 1 rfl) ?_
            refine lv_icmp_ne (tgt := 72) hx hb d_C_noteClash_68 (by decide) (fun c_19 => ?_) (fun c_19 => ?_)
            · rw [if_neg c_19] at hg_cncl
              refine lv_iinc (v := k + 1) (lv' := [(4, .int (k + 1)), (3, .int (((g_Cg_fittingAt 0 w_nf f_cfi) * 40) + (g_Cg_fittingAt 1 w_nf f_cfi))), (2, .int (g_Cg_fittingAt 1 w_nf f_cfi)), (1, .int (g_Cg_fittingAt 0 w_nf f_cfi)), (0, .ref a_h)]) hx hb d_C_noteClash_72 hl (k := 0) rfl rfl (by decide) rfl (fun ls hl => ?_)
              refine lv_goto (tgt := 41) hx hb d_C_noteClash_75 (by decide) ?_
              exact ih_cncl _ _ _ _ ⟨hP, hD, hS, lv_sub hl [0, 1, 2, 3, 4] rfl, (li_s780 hk c_15), (li_m780 hk c_15 hm_cncl), hg_cncl⟩
            · rw [if_pos c_19] at hg_cncl
              subst hg_cncl
              dsimp only at hE
              rw [if_neg (by decide)] at hE
              have hP9 := va_P.part (cx := [(a_h, .inr (0, [.ref a_tx, .ref a_cru, .int w_nr, .ref a_cd, .ref a_td, .ref a_cki, .ref a_cca, .ref a_cty, .ref a_cio, .ref a_cex, .ref a_clo, .int w_nl, .ref a_cfi, .int w_nf, .ref a_ccl, .int w_nc])), (a_cru, .inl (k_cru, 40, .inr (.inr (.inr (.inr (ruA (nN w_nr) aR)))))), (a_cfi, .inl (k_cfi, 40, .inl f_cfi)), (a_ccl, .inl (k_ccl, 780, .inl f_ccl))]) hP [0, 1, 2, 3] rfl
              have hD9 := va_D.part (cx := [(a_h, .inr (0, [.ref a_tx, .ref a_cru, .int w_nr, .ref a_cd, .ref a_td, .ref a_cki, .ref a_cca, .ref a_cty, .ref a_cio, .ref a_cex, .ref a_clo, .int w_nl, .ref a_cfi, .int w_nf, .ref a_ccl, .int w_nc])), (a_cru, .inl (k_cru, 40, .inr (.inr (.inr (.inr (ruA (nN w_nr) aR)))))), (a_cfi, .inl (k_cfi, 40, .inl f_cfi)), (a_ccl, .inl (k_ccl, 780, .inl f_ccl))]) hD [0, 1, 2, 3] (by decide) rfl
              have hK9 := hK.sub (tys' := [(k_cru, .object "LoanRules$Rule"), (k_cfi, .int), (k_ccl, .int)]) [0, 1, 2] rfl
              exact W.vret hx hb hr (fun t ht hW => ⟨⟨(), rfl, trivial, by rw [ht, ← hz, hE]; exact hP9, va_K.moved hW.alike hK9, by rw [← hz, hE]; exact hD9⟩, hS.F ht⟩) hS.2.2 d_C_noteClash_71
    · rw [if_neg c_10] at hE
      have hP9 := va_P.part (cx := [(a_h, .inr (0, [.ref a_tx, .ref a_cru, .int w_nr, .ref a_cd, .ref a_td, .ref a_cki, .ref a_cca, .ref a_cty, .ref a_cio, .ref a_cex, .ref a_clo, .int w_nl, .ref a_cfi, .int w_nf, .ref a_ccl, .int w_nc])), (a_cru, .inl (k_cru, 40, .inr (.inr (.inr (.inr (ruA (nN w_nr) aR)))))), (a_cfi, .inl (k_cfi, 40, .inl f_cfi)), (a_ccl, .inl (k_ccl, 780, .inl f_ccl))]) hP [0, 1, 2, 3] rfl
      have hD9 := va_D.part (cx := [(a_h, .inr (0, [.ref a_tx, .ref a_cru, .int w_nr, .ref a_cd, .ref a_td, .ref a_cki, .ref a_cca, .ref a_cty, .ref a_cio, .ref a_cex, .ref a_clo, .int w_nl, .ref a_cfi, .int w_nf, .ref a_ccl, .int w_nc])), (a_cru, .inl (k_cru, 40, .inr (.inr (.inr (.inr (ruA (nN w_nr) aR)))))), (a_cfi, .inl (k_cfi, 40, .inl f_cfi)), (a_ccl, .inl (k_ccl, 780, .inl f_ccl))]) hD [0, 1, 2, 3] (by decide) rfl
      have hK9 := hK.sub (tys' := [(k_cru, .object "LoanRules$Rule"), (k_cfi, .int), (k_ccl, .int)]) [0, 1, 2] rfl
      exact W.vret hx hb hr (fun t ht hW => ⟨⟨(), rfl, trivial, by rw [ht, ← hz, hE]; exact hP9, va_K.moved hW.alike hK9, by rw [← hz, hE]; exact hD9⟩, hS.F ht⟩) hS.2.2 d_C_noteClash_30
