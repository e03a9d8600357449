def gl_never : Nat → (Int32) → (Int32) → (Nat → Int32) → (Int32) → (Int32) → Nat × Int32 × Int32
  | 0, p0, v_n, f_me, seen, r => (0, seen, r)
  | n + 1, p0, v_n, f_me, seen, r =>
    if v_n ≤ r then
      (0, seen, r)
    else
      if p0 < 0 then
        (0, seen, r)
      else
        if (f_me r.toNatClampNeg) = 0 then
          if seen = p0 then
            (1, seen, r)
          else
            gl_never n p0 v_n f_me (seen + 1) (r + 1)
        else
          gl_never n p0 v_n f_me seen (r + 1)
def g_Mg_never (p0 : Int32) (v_n : Int32) (f_me : Nat → Int32) : Int32 × Int32 :=
  bv (gl_never 41 p0 v_n f_me 0 0) (fun x_1 =>
    if x_1.1 = 0 then
      ((-1), 0)
    else
      (x_1.2.2, 0))
set_option maxHeartbeats 4000000 in
set_option maxRecDepth 100000 in
theorem c_Mg_never (l : Launch) (dC : Nat → ClassId) (dI : Nat → Nat → Nat) (adK adV : Nat → Nat) (a_m : Nat) (a_me : Nat) (k_me : ClassId) (p0 : Int32) (v_th : Int32) (a_sa : Nat) (v_sz : Int32) (v_at : Int32) (v_wr : Int32) (a_ru : Nat) (a_le : Nat) (v_n : Int32) (a_cl : Nat) (a_te : Nat) (a_ki : Nat) (a_ty : Nat) (a_bl : Nat) (a_ex : Nat) (a_lo : Nat) (v_nl : Int32) (a_ho : Nat) (a_fi : Nat) (v_nf : Int32) (a_cz : Nat) (v_nc : Int32) (f_me : Nat → Int32) (sz : Nat) (hn : 0 ≤ v_n.toInt ∧ v_n.toInt ≤ 40) : Met l y_M_never ws_M_never ({ frames := 0, cells := 0, slots := 0, locals := 0 }) (va_Pc [.ref a_m, .int p0] (fun U => U.heap.size = sz ∧ zz adK adV (va_A [(a_m, .inr (5, [.int v_th, .ref a_sa, .int v_sz, .int v_at, .int v_wr, .ref a_ru, .ref a_me, .ref a_le, .int v_n, .ref a_cl, .ref a_te, .ref a_ki, .ref a_ty, .ref a_bl, .ref a_ex, .ref a_lo, .int v_nl, .ref a_ho, .ref a_fi, .int v_nf, .ref a_cz, .int v_nc])), (a_me, .inl (k_me, 40, .inl f_me))] sz) U ∧ va_P (dC, dI) vwCl [(a_m, .inr (5, [.int v_th, .ref a_sa, .int v_sz, .int v_at, .int v_wr, .ref a_ru, .ref a_me, .ref a_le, .int v_n, .ref a_cl, .ref a_te, .ref a_ki, .ref a_ty, .ref a_bl, .ref a_ex, .ref a_lo, .int v_nl, .ref a_ho, .ref a_fi, .int v_nf, .ref a_cz, .int v_nc])), (a_me, .inl (k_me, 40, .inl f_me))] U.heap ∧ va_K (dC, dI) vwCl [(k_me, .boolean)] U ∧ va_D (fun _ => True) [(a_m, .inr (5, [.int v_th, .ref a_sa, .int v_sz, .int v_at, .int v_wr, .ref a_ru, .ref a_me, .ref a_le, .int v_n, .ref a_cl, .ref a_te, .ref a_ki, .ref a_ty, .ref a_bl, .ref a_ex, .ref a_lo, .int v_nl, .ref a_ho, .ref a_fi, .int v_nf, .ref a_cz, .int v_nc])), (a_me, .inl (k_me, 40, .inl f_me))])) (va_Qi (fun (r : Int32) (_ : Unit) => r = (g_Mg_never p0 v_n f_me).1) (fun (_ : Unit) (t : State) => va_P (dC, dI) vwCl [(a_m, .inr (5, [.int ((g_Mg_never p0 v_n f_me).2), .ref a_sa, .int v_sz, .int v_at, .int v_wr, .ref a_ru, .ref a_me, .ref a_le, .int v_n, .ref a_cl, .ref a_te, .ref a_ki, .ref a_ty, .ref a_bl, .ref a_ex, .ref a_lo, .int v_nl, .ref a_ho, .ref a_fi, .int v_nf, .ref a_cz, .int v_nc])), (a_me, .inl (k_me, 40, .inl f_me))] t.heap ∧ va_K (dC, dI) vwCl [(k_me, .boolean)] t ∧ va_D (va_A [(a_m, .inr (5, [.int v_th, .ref a_sa, .int v_sz, .int v_at, .int v_wr, .ref a_ru, .ref a_me, .ref a_le, .int v_n, .ref a_cl, .ref a_te, .ref a_ki, .ref a_ty, .ref a_bl, .ref a_ex, .ref a_lo, .int v_nl, .ref a_ho, .ref a_fi, .int v_nf, .ref a_cz, .int v_nc])), (a_me, .inl (k_me, 40, .inl f_me))] sz) [(a_m, .inr (5, [.int ((g_Mg_never p0 v_n f_me).2), .ref a_sa, .int v_sz, .int v_at, .int v_wr, .ref a_ru, .ref a_me, .ref a_le, .int v_n, .ref a_cl, .ref a_te, .ref a_ki, .ref a_ty, .ref a_bl, .ref a_ex, .ref a_lo, .int v_nl, .ref a_ho, .ref a_fi, .int v_nf, .ref a_cz, .int v_nc])), (a_me, .inl (k_me, 40, .inl f_me))]) (va_A [(a_m, .inr (5, [.int v_th, .ref a_sa, .int v_sz, .int v_at, .int v_wr, .ref a_ru, .ref a_me, .ref a_le, .int v_n, .ref a_cl, .ref a_te, .ref a_ki, .ref a_ty, .ref a_bl, .ref a_ex, .ref a_lo, .int v_nl, .ref a_ho, .ref a_fi, .int v_nf, .ref a_cz, .int v_nc])), (a_me, .inl (k_me, 40, .inl f_me))] sz)) 0 0 (va_A [(a_m, .inr (5, [.int v_th, .ref a_sa, .int v_sz, .int v_at, .int v_wr, .ref a_ru, .ref a_me, .ref a_le, .int v_n, .ref a_cl, .ref a_te, .ref a_ki, .ref a_ty, .ref a_bl, .ref a_ex, .ref a_lo, .int v_nl, .ref a_ho, .ref a_fi, .int v_nf, .ref a_cz, .int v_nc])), (a_me, .inl (k_me, 40, .inl f_me))] sz) := by
  refine Met.ofW (cc := c_M_never) (maxL := 4) (ret := (some .int)) (by decide) rfl ?_
  intro p e s m args below meth c s₁ B hml hv
  obtain ⟨rfl, hsz, hZ, hP, hK, hD0⟩ := hv
  have hx := B.exec
  have hb := B.bytes
  have hr := B.returns
  have hts0 := atoms_spec (ws := ws_M_never) B.pre
  have hts : ∀ w ∈ TT, w.before _ s = true := fun w h => hts0 w (List.mem_cons_of_mem _ h)
  have hown : s.vm.findClass "LoanRulesModel" = some m.cls := findClass_of_methodNamed B.named
  have hlocks := B.notSynchronized
  subst hsz
  have hD := hD0.self (sz := s.heap.size)
  generalize hAe : va_A [(a_m, .inr (5, [.int v_th, .ref a_sa, .int v_sz, .int v_at, .int v_wr, .ref a_ru, .ref a_me, .ref a_le, .int v_n, .ref a_cl, .ref a_te, .ref a_ki, .ref a_ty, .ref a_bl, .ref a_ex, .ref a_lo, .int v_nl, .ref a_ho, .ref a_fi, .int v_nf, .ref a_cz, .int v_nc])), (a_me, .inl (k_me, 40, .inl f_me))] s.heap.size = A at hD hZ ⊢
  have hA : ∀ q : Nat, s.heap.size ≤ q → A q := fun q h => by rw [← hAe]; exact Or.inr h
  clear hAe hD0
  have hS : va_S A s.heap s.heap [] := va_S.rf
  replace hP : va_P (dC, dI) vwCl [(a_m, .inr (5, [.int v_th, .ref a_sa, .int v_sz, .int v_at, .int v_wr, .ref a_ru, .ref a_me, .ref a_le, .int v_n, .ref a_cl, .ref a_te, .ref a_ki, .ref a_ty, .ref a_bl, .ref a_ex, .ref a_lo, .int v_nl, .ref a_ho, .ref a_fi, .int v_nf, .ref a_cz, .int v_nc])), (a_me, .inl (k_me, 40, .inl f_me))] s.heap := hP
  have hl := lv_entry ([.ref a_m, .int p0]) (n := 4) (Nat.le_of_ble_eq_true rfl)
  rw [lg_entry_eq]
  generalize (lg_sl ([.ref a_m, .int p0]) ++ List.replicate (4 - (lg_sl ([.ref a_m, .int p0])).length) Slot.unset).toArray = ls at hl ⊢
  replace hl : lv_has ls 4 [(0, .ref a_m), (1, .int p0)] := hl
  obtain ⟨z, hz⟩ : ∃ z, z = g_Mg_never p0 v_n f_me := ⟨_, rfl⟩
  have hE := hz
  rw [g_Mg_never] at hE
  refine lv_aload_n hx hb d_M_never_0 rfl (lv_at hl 0 rfl) ?_
  refine lv_iconst (v := 0) hx hb d_M_never_1 (by decide) ?_
  refine va_put (D := (dC, dI)) (ci := 5) (v := .int 0) (ty := .int) (C := "LoanRulesModel") (T := Fz_M) (N := 22) hx hb hts it_M tz_M tz_M_ok nz_M hown hK hP hD hS 0 rfl rfl 0 (by decide) (hts _ tw_601) (fun _ h9 => h9) rfl (by decide +kernel) rfl rfl (Nat.le_of_ble_eq_true rfl) d_M_never_2 (fun H locs hP hD hS => ?_)
  replace hP : va_P (dC, dI) vwCl [(a_m, .inr (5, [.int 0, .ref a_sa, .int v_sz, .int v_at, .int v_wr, .ref a_ru, .ref a_me, .ref a_le, .int v_n, .ref a_cl, .ref a_te, .ref a_ki, .ref a_ty, .ref a_bl, .ref a_ex, .ref a_lo, .int v_nl, .ref a_ho, .ref a_fi, .int v_nf, .ref a_cz, .int v_nc])), (a_me, .inl (k_me, 40, .inl f_me))] H := hP
  replace hD : va_D A [(a_m, .inr (5, [.int 0, .ref a_sa, .int v_sz, .int v_at, .int v_wr, .ref a_ru, .ref a_me, .ref a_le, .int v_n, .ref a_cl, .ref a_te, .ref a_ki, .ref a_ty, .ref a_bl, .ref a_ex, .ref a_lo, .int v_nl, .ref a_ho, .ref a_fi, .int v_nf, .ref a_cz, .int v_nc])), (a_me, .inl (k_me, 40, .inl f_me))] := hD
  refine lv_iconst (v := 0) hx hb d_M_never_5 (by decide) ?_
  refine lv_istore_n (lv' := [(2, .int 0), (0, .ref a_m), (1, .int p0)]) hx hb d_M_never_6 rfl hl (by decide) rfl (fun ls hl => ?_)
  refine lv_iconst (v := 0) hx hb d_M_never_7 (by decide) ?_
  refine lv_istore_n (lv' := [(3, .int 0), (2, .int 0), (0, .ref a_m), (1, .int p0)]) hx hb d_M_never_8 rfl hl (by decide) rfl (fun ls hl => ?_)
  generalize hg_x_1 : gl_never 41 p0 v_n f_me 0 0 = x_1 at hE
  rw [bv_eq] at hE
  obtain ⟨seen, e_seen⟩ : ∃ q9 : Int32, q9 = 0 := ⟨_, rfl⟩
  obtain ⟨r, e_r⟩ : ∃ q9 : Int32, q9 = 0 := ⟨_, rfl⟩
  obtain ⟨n, e_n⟩ : ∃ q9 : Nat, q9 = 41 := ⟨_, rfl⟩
  have hAll : va_P (dC, dI) vwCl [(a_m, .inr (5, [.int 0, .ref a_sa, .int v_sz, .int v_at, .int v_wr, .ref a_ru, .ref a_me, .ref a_le, .int v_n, .ref a_cl, .ref a_te, .ref a_ki, .ref a_ty, .ref a_bl, .ref a_ex, .ref a_lo, .int v_nl, .ref a_ho, .ref a_fi, .int v_nf, .ref a_cz, .int v_nc])), (a_me, .inl (k_me, 40, .inl f_me))] H ∧ va_D A [(a_m, .inr (5, [.int 0, .ref a_sa, .int v_sz, .int v_at, .int v_wr, .ref a_ru, .ref a_me, .ref a_le, .int v_n, .ref a_cl, .ref a_te, .ref a_ki, .ref a_ty, .ref a_bl, .ref a_ex, .ref a_lo, .int v_nl, .ref a_ho, .ref a_fi, .int v_nf, .ref a_cz, .int v_nc])), (a_me, .inl (k_me, 40, .inl f_me))] ∧ va_S A s.heap H locs ∧ lv_has ls 4 [(3, .int r), (2, .int seen), (0, .ref a_m), (1, .int p0)] ∧ (0 ≤ r.toInt ∧ r.toInt ≤ 40) ∧ 41 - r.toInt.toNat ≤ n ∧ gl_never n p0 v_n f_me seen r = x_1 := by
    subst e_seen e_r e_n
    exact ⟨hP, hD, hS, hl, by decide, by decide, hg_x_1⟩
  clear hP hl hD hS e_seen e_r e_n hg_x_1
  induction n generalizing seen r H locs ls with
  | zero =>
    obtain ⟨hP, hD, hS, hl, hr0, hm_never, hg_never⟩ := hAll
    exfalso; omega
  | succ n ih_never =>
    obtain ⟨hP, hD, hS, hl, hr0, hm_never, hg_never⟩ := hAll
    rw [gl_never] at hg_never
    refine lv_iload_n hx hb d_M_never_9 rfl (lv_at hl 0 rfl) ?_
    refine lv_aload_n hx hb d_M_never_10 rfl (lv_at hl 2 rfl) ?_
    refine va_get (D := (dC, dI)) (ci := 5) (v := .int v_n) (C := "LoanRulesModel") (T := Fz_M) (N := 22) hx hb hts it_M hown hK hP 0 rfl rfl 8 (by decide) (hts _ tw_609) (fun _ h9 => h9) rfl d_M_never_11 ?_
    refine lv_icmp_ge (tgt := 46) hx hb d_M_never_14 (by decide) (fun c_2 => ?_) (fun c_2 => ?_)
    · rw [if_pos c_2] at hg_never
      subst hg_never
      dsimp only at hE
      rw [if_pos rfl] at hE
      refine lv_iconst (v := (-1)) hx hb d_M_never_46 (by decide) ?_
      have hP9 := hP.sub (ws' := [(a_m, .inr (5, [.int 0, .ref a_sa, .int v_sz, .int v_at, .int v_wr, .ref a_ru, .ref a_me, .ref a_le, .int v_n, .ref a_cl, .ref a_te, .ref a_ki, .ref a_ty, .ref a_bl, .ref a_ex, .ref a_lo, .int v_nl, .ref a_ho, .ref a_fi, .int v_nf, .ref a_cz, .int v_nc])), (a_me, .inl (k_me, 40, .inl f_me))]) [0, 1] rfl
      have hD9 := hD.sub (ws' := [(a_m, .inr (5, [.int 0, .ref a_sa, .int v_sz, .int v_at, .int v_wr, .ref a_ru, .ref a_me, .ref a_le, .int v_n, .ref a_cl, .ref a_te, .ref a_ki, .ref a_ty, .ref a_bl, .ref a_ex, .ref a_lo, .int v_nl, .ref a_ho, .ref a_fi, .int v_nf, .ref a_cz, .int v_nc])), (a_me, .inl (k_me, 40, .inl f_me))]) [0, 1] (by decide) rfl
      have hK9 := hK.sub (tys' := [(k_me, .boolean)]) [0] rfl
      exact W.iret (v := (-1)) hx hb hr (fun t ht hW => ⟨⟨(-1), (), rfl, by rw [← hz, hE], by rw [ht, ← hz, hE]; exact hP9, va_K.moved hW.alike hK9, by rw [← hz, hE]; exact hD9⟩, hS.F ht⟩) hS.2.2 d_M_never_47
    · rw [if_neg c_2] at hg_never
      refine lv_iload_n hx hb d_M_never_17 rfl (lv_at hl 3 rfl) ?_
      refine lv_if_lt (tgt := 46) hx hb d_M_never_18 (by decide) (fun c_3 => ?_) (fun c_3 => ?_)
      · rw [if_pos c_3] at hg_never
        subst hg_never
        dsimp only at hE
        rw [if_pos rfl] at hE
        refine lv_iconst (v := (-1)) hx hb d_M_never_46 (by decide) ?_
        have hP9 := hP.sub (ws' := [(a_m, .inr (5, [.int 0, .ref a_sa, .int v_sz, .int v_at, .int v_wr, .ref a_ru, .ref a_me, .ref a_le, .int v_n, .ref a_cl, .ref a_te, .ref a_ki, .ref a_ty, .ref a_bl, .ref a_ex, .ref a_lo, .int v_nl, .ref a_ho, .ref a_fi, .int v_nf, .ref a_cz, .int v_nc])), (a_me, .inl (k_me, 40, .inl f_me))]) [0, 1] rfl
        have hD9 := hD.sub (ws' := [(a_m, .inr (5, [.int 0, .ref a_sa, .int v_sz, .int v_at, .int v_wr, .ref a_ru, .ref a_me, .ref a_le, .int v_n, .ref a_cl, .ref a_te, .ref a_ki, .ref a_ty, .ref a_bl, .ref a_ex, .ref a_lo, .int v_nl, .ref a_ho, .ref a_fi, .int v_nf, .ref a_cz, .int v_nc])), (a_me, .inl (k_me, 40, .inl f_me))]) [0, 1] (by decide) rfl
        have hK9 := hK.sub (tys' := [(k_me, .boolean)]) [0] rfl
        exact W.iret (v := (-1)) hx hb hr (fun t ht hW => ⟨⟨(-1), (), rfl, by rw [← hz, hE], by rw [ht, ← hz, hE]; exact hP9, va_K.moved hW.alike hK9, by rw [← hz, hE]; exact hD9⟩, hS.F ht⟩) hS.2.2 d_M_never_47
      · rw [if_neg c_3] at hg_never
        refine lv_aload_n hx hb d_M_never_21 rfl (lv_at hl 2 rfl) ?_
        refine va_get (D := (dC, dI)) (ci := 5) (v := .ref a_me) (C := "LoanRulesModel") (T := Fz_M) (N := 22) hx hb hts it_M hown hK hP 0 rfl rfl 6 (by decide) (hts _ tw_607) (fun _ h9 => h9) rfl d_M_never_22 ?_
        refine lv_iload_n hx hb d_M_never_25 rfl (lv_at hl 0 rfl) ?_
        have i_4 : vp_in r 40 := in40 (li_ltn0 hr0 c_2 hn.2)
        refine va_zald (D := (dC, dI)) hx hb hK hP 1 0 rfl rfl i_4 d_M_never_26 ?_
        refine lv_if_ne (tgt := 40) hx hb d_M_never_27 (by decide) (fun c_5 => ?_) (fun c_5 => ?_)
        · rw [if_neg c_5] at hg_never
          refine lv_iinc (v := r + 1) (lv' := [(3, .int (r + 1)), (2, .int seen), (0, .ref a_m), (1, .int p0)]) hx hb d_M_never_40 hl (k := 0) rfl rfl (by decide) rfl (fun ls hl => ?_)
          refine lv_goto (tgt := 9) hx hb d_M_never_43 (by decide) ?_
          exact ih_never _ _ _ _ _ ⟨hP, hD, hS, lv_sub hl [0, 1, 2, 3] rfl, (li_s40 hr0 (li_ltn0 hr0 c_2 hn.2)), (li_m40 hr0 (li_ltn0 hr0 c_2 hn.2) hm_never), hg_never⟩
        · rw [if_pos c_5] at hg_never
          refine lv_iload_n hx hb d_M_never_30 rfl (lv_at hl 1 rfl) ?_
          refine lv_iload_n hx hb d_M_never_31 rfl (lv_at hl 3 rfl) ?_
          refine lv_icmp_ne (tgt := 37) hx hb d_M_never_32 (by decide) (fun c_6 => ?_) (fun c_6 => ?_)
          · rw [if_neg c_6] at hg_never
            refine lv_iinc (v := seen + 1) (lv' := [(2, .int (seen + 1)), (3, .int r), (0, .ref a_m), (1, .int p0)]) hx hb d_M_never_37 hl (k := 1) rfl rfl (by decide) rfl (fun ls hl => ?_)
            refine lv_iinc (v := r + 1) (lv' := [(3, .int (r + 1)), (2, .int (seen + 1)), (0, .ref a_m), (1, .int p0)]) hx hb d_M_never_40 hl (k := 1) rfl rfl (by decide) rfl (fun ls hl => ?_)
            refine lv_goto (tgt := 9) hx hb d_M_never_43 (by decide) ?_
            exact ih_never _ _ _ _ _ ⟨hP, hD, hS, lv_sub hl [0, 1, 2, 3] rfl, (li_s40 hr0 (li_ltn0 hr0 c_2 hn.2)), (li_m40 hr0 (li_ltn0 hr0 c_2 hn.2) hm_never), hg_never⟩
          · rw [if_pos c_6] at hg_never
            subst hg_never
            dsimp only at hE
            rw [if_neg (by decide)] at hE
            refine lv_iload_n hx hb d_M_never_35 rfl (lv_at hl 0 rfl) ?_
            have hP9 := hP.sub (ws' := [(a_m, .inr (5, [.int 0, .ref a_sa, .int v_sz, .int v_at, .int v_wr, .ref a_ru, .ref a_me, .ref a_le, .int v_n, .ref a_cl, .ref a_te, .ref a_ki, .ref a_ty, .ref a_bl, .ref a_ex, .ref a_lo, .int v_nl, .ref a_ho, .ref a_fi, .int v_nf, .ref a_cz, .int v_nc])), (a_me, .inl (k_me, 40, .inl f_me))]) [0, 1] rfl
            have hD9 := hD.sub (ws' := [(a_m, .inr (5, [.int 0, .ref a_sa, .int v_sz, .int v_at, .int v_wr, .ref a_ru, .ref a_me, .ref a_le, .int v_n, .ref a_cl, .ref a_te, .ref a_ki, .ref a_ty, .ref a_bl, .ref a_ex, .ref a_lo, .int v_nl, .ref a_ho, .ref a_fi, .int v_nf, .ref a_cz, .int v_nc])), (a_me, .inl (k_me, 40, .inl f_me))]) [0, 1] (by decide) rfl
            have hK9 := hK.sub (tys' := [(k_me, .boolean)]) [0] rfl
            exact W.iret (v := r) hx hb hr (fun t ht hW => ⟨⟨r, (), rfl, by rw [← hz, hE], by rw [ht, ← hz, hE]; exact hP9, va_K.moved hW.alike hK9, by rw [← hz, hE]; exact hD9⟩, hS.F ht⟩) hS.2.2 d_M_never_36
def g_Mg_fitsFor (p0 : Int32) (p1 : Int32) (p2 : Int32) (p3 : Int32) (f_ru : Nat → Int32) (f_ki : Nat → Int32) (f_ty : Nat → Int32) (f_ex : Nat → Int32) : Int32 :=
  if (f_ru (10 * p0).toNatClampNeg) < 0 then
    if (f_ru ((10 * p0) + 1).toNatClampNeg) < 0 then
      if (f_ru ((10 * p0) + 2).toNatClampNeg) < 0 then
        if p3 < (f_ex ((40 * p1) + p0).toNatClampNeg) then
          0
        else
          1
      else
        if (f_ru ((10 * p0) + 2).toNatClampNeg) = p1 then
          if p3 < (f_ex ((40 * p1) + p0).toNatClampNeg) then
            0
          else
            1
        else
          0
    else
      if (f_ru ((10 * p0) + 1).toNatClampNeg) = (f_ty p2.toNatClampNeg) then
        if (f_ru ((10 * p0) + 2).toNatClampNeg) < 0 then
          if p3 < (f_ex ((40 * p1) + p0).toNatClampNeg) then
            0
          else
            1
        else
          if (f_ru ((10 * p0) + 2).toNatClampNeg) = p1 then
            if p3 < (f_ex ((40 * p1) + p0).toNatClampNeg) then
              0
            else
              1
          else
            0
      else
        0
  else
    if (f_ru (10 * p0).toNatClampNeg) = (f_ki p1.toNatClampNeg) then
      if (f_ru ((10 * p0) + 1).toNatClampNeg) < 0 then
        if (f_ru ((10 * p0) + 2).toNatClampNeg) < 0 then
          if p3 < (f_ex ((40 * p1) + p0).toNatClampNeg) then
            0
          else
            1
        else
          if (f_ru ((10 * p0) + 2).toNatClampNeg) = p1 then
            if p3 < (f_ex ((40 * p1) + p0).toNatClampNeg) then
              0
            else
              1
          else
            0
      else
        if (f_ru ((10 * p0) + 1).toNatClampNeg) = (f_ty p2.toNatClampNeg) then
          if (f_ru ((10 * p0) + 2).toNatClampNeg) < 0 then
            if p3 < (f_ex ((40 * p1) + p0).toNatClampNeg) then
              0
            else
              1
          else
            if (f_ru ((10 * p0) + 2).toNatClampNeg) = p1 then
              if p3 < (f_ex ((40 * p1) + p0).toNatClampNeg) then
                0
              else
                1
            else
              0
        else
          0
    else
      0
set_option maxHeartbeats 4000000 in
set_option maxRecDepth 100000 in
theorem c_Mg_fitsFor (l : Launch) (dC : Nat → ClassId) (dI : Nat → Nat → Nat) (adK adV : Nat → Nat) (a_m : Nat) (a_ru : Nat) (a_ki : Nat) (a_ty : Nat) (a_ex : Nat) (k_ru : ClassId) (k_ki : ClassId) (k_ty : ClassId) (k_ex : ClassId) (p0 : Int32) (p1 : Int32) (p2 : Int32) (p3 : Int32) (v_th : Int32) (a_sa : Nat) (v_sz : Int32) (v_at : Int32) (v_wr : Int32) (a_me : Nat) (a_le : Nat) (v_n : Int32) (a_cl : Nat) (a_te : Nat) (a_bl : Nat) (a_lo : Nat) (v_nl : Int32) (a_ho : Nat) (a_fi : Nat) (v_nf : Int32) (a_cz : Nat) (v_nc : Int32) (f_ru : Nat → Int32) (f_ki : Nat → Int32) (f_ty : Nat → Int32) (f_ex : Nat → Int32) (hp0 : 0 ≤ p0.toInt ∧ p0.toInt < 40) (hp1 : 0 ≤ p1.toInt ∧ p1.toInt < 50) (hp2 : 0 ≤ p2.toInt ∧ p2.toInt < 50) : Met l y_M_fitsFor ws_M_fitsFor ({ frames := 0, cells := 0, slots := 0, locals := 0 }) (va_Pc [.ref a_m, .int p0, .int p1, .int p2, .int p3] (fun U => zz adK adV (fun _ => False) U ∧ va_P (dC, dI) vwCl [(a_m, .inr (5, [.int v_th, .ref a_sa, .int v_sz, .int v_at, .int v_wr, .ref a_ru, .ref a_me, .ref a_le, .int v_n, .ref a_cl, .ref a_te, .ref a_ki, .ref a_ty, .ref a_bl, .ref a_ex, .ref a_lo, .int v_nl, .ref a_ho, .ref a_fi, .int v_nf, .ref a_cz, .int v_nc])), (a_ru, .inl (k_ru, 410, .inl f_ru)), (a_ki, .inl (k_ki, 50, .inl f_ki)), (a_ty, .inl (k_ty, 50, .inl f_ty)), (a_ex, .inl (k_ex, 2000, .inl f_ex))] U.heap ∧ va_K (dC, dI) vwCl [(k_ru, .int), (k_ki, .int), (k_ty, .int), (k_ex, .int)] U)) (vp_Si (fun r => r = g_Mg_fitsFor p0 p1 p2 p3 f_ru f_ki f_ty f_ex)) 0 0 (fun _ => False) := by
  refine Met.ofW (cc := c_M_fitsFor) (maxL := 8) (ret := (some .boolean)) (by decide) rfl ?_
  intro p e s m args below meth c s₁ B hml hv
  obtain ⟨rfl, hZ, hP, hK⟩ := hv
  have hx := B.exec
  have hb := B.bytes
  have hr := B.returns
  have hts0 := atoms_spec (ws := ws_M_fitsFor) B.pre
  have hts : ∀ w ∈ TT, w.before _ s = true := fun w h => hts0 w (List.mem_cons_of_mem _ h)
  have hown : s.vm.findClass "LoanRulesModel" = some m.cls := findClass_of_methodNamed B.named
  have hlocks := B.notSynchronized
  have hS : va_S (fun _ => False) s.heap s.heap [] := va_S.rf
  replace hP : va_P (dC, dI) vwCl [(a_m, .inr (5, [.int v_th, .ref a_sa, .int v_sz, .int v_at, .int v_wr, .ref a_ru, .ref a_me, .ref a_le, .int v_n, .ref a_cl, .ref a_te, .ref a_ki, .ref a_ty, .ref a_bl, .ref a_ex, .ref a_lo, .int v_nl, .ref a_ho, .ref a_fi, .int v_nf, .ref a_cz, .int v_nc])), (a_ru, .inl (k_ru, 410, .inl f_ru)), (a_ki, .inl (k_ki, 50, .inl f_ki)), (a_ty, .inl (k_ty, 50, .inl f_ty)), (a_ex, .inl (k_ex, 2000, .inl f_ex))] s.heap := hP
  have hl := lv_entry ([.ref a_m, .int p0, .int p1, .int p2, .int p3]) (n := 8) (Nat.le_of_ble_eq_true rfl)
  rw [lg_entry_eq]
  generalize (lg_sl ([.ref a_m, .int p0, .int p1, .int p2, .int p3]) ++ List.replicate (8 - (lg_sl ([.ref a_m, .int p0, .int p1, .int p2, .int p3])).length) Slot.unset).toArray = ls at hl ⊢
  replace hl : lv_has ls 8 [(0, .ref a_m), (1, .int p0), (2, .int p1), (3, .int p2), (4, .int p3)] := hl
  obtain ⟨z, hz⟩ : ∃ z, z = g_Mg_fitsFor p0 p1 p2 p3 f_ru f_ki f_ty f_ex := ⟨_, rfl⟩
  have hE := hz
  rw [g_Mg_fitsFor] at hE
  refine lv_aload_n hx hb d_M_fitsFor_0 rfl (lv_at hl 0 rfl) ?_
  refine va_get (D := (dC, dI)) (ci := 5) (v := .ref a_ru) (C := "LoanRulesModel") (T := Fz_M) (N := 22) hx hb hts it_M hown hK hP 0 rfl rfl 5 (by decide) (hts _ tw_606) (fun _ h9 => h9) rfl d_M_fitsFor_1 ?_
  refine lv_bipush (v := 10) hx hb d_M_fitsFor_4 (by decide) ?_
  refine lv_iload_n hx hb d_M_fitsFor_6 rfl (lv_at hl 1 rfl) ?_
  refine lv_imul hx hb d_M_fitsFor_7 ?_
  have i_1 : vp_in (10 * p0) 410 := ix10z (r40 hp0)
  refine va_iald (D := (dC, dI)) hx hb hK hP 1 0 rfl rfl i_1 d_M_fitsFor_8 ?_
  refine lv_istore (lv' := [(5, .int (f_ru (10 * p0).toNatClampNeg)), (0, .ref a_m), (1, .int p0), (2, .int p1), (3, .int p2), (4, .int p3)]) hx hb d_M_fitsFor_9 hl (by decide) rfl (fun ls hl => ?_)
  refine lv_aload_n hx hb d_M_fitsFor_11 rfl (lv_at hl 1 rfl) ?_
  refine va_get (D := (dC, dI)) (ci := 5) (v := .ref a_ru) (C := "LoanRulesModel") (T := Fz_M) (N := 22) hx hb hts it_M hown hK hP 0 rfl rfl 5 (by decide) (hts _ tw_606) (fun _ h9 => h9) rfl d_M_fitsFor_12 ?_
  refine lv_bipush (v := 10) hx hb d_M_fitsFor_15 (by decide) ?_
  refine lv_iload_n hx hb d_M_fitsFor_17 rfl (lv_at hl 2 rfl) ?_
  refine lv_imul hx hb d_M_fitsFor_18 ?_
  refine lv_iconst (v := 1) hx hb d_M_fitsFor_19 (by decide) ?_
  refine lv_iadd hx hb d_M_fitsFor_20 ?_
  have i_2 : vp_in ((10 * p0) + 1) 410 := ix10 (r40 hp0) (by decide)
  refine va_iald (D := (dC, dI)) hx hb hK hP 1 0 rfl rfl i_2 d_M_fitsFor_21 ?_
  refine lv_istore (lv' := [(6, .int (f_ru ((10 * p0) + 1).toNatClampNeg)), (5, .int (f_ru (10 * p0).toNatClampNeg)), (0, .ref a_m), (1, .int p0), (2, .int p1), (3, .int p2), (4, .int p3)]) hx hb d_M_fitsFor_22 hl (by decide) rfl (fun ls hl => ?_)
  refine lv_aload_n hx hb d_M_fitsFor_24 rfl (lv_at hl 2 rfl) ?_
  refine va_get (D := (dC, dI)) (ci := 5) (v := .ref a_ru) (C := "LoanRulesModel") (T := Fz_M) (N := 22) hx hb hts it_M hown hK hP 0 rfl rfl 5 (by decide) (hts _ tw_606) (fun _ h9 => h9) rfl d_M_fitsFor_25 ?_
  refine lv_bipush (v := 10) hx hb d_M_fitsFor_28 (by decide) ?_
  refine lv_iload_n hx hb d_M_fitsFor_30 rfl (lv_at hl 3 rfl) ?_
  refine lv_imul hx hb d_M_fitsFor_31 ?_
  refine lv_iconst (v := 2) hx hb d_M_fitsFor_32 (by decide) ?_
  refine lv_iadd hx hb d_M_fitsFor_33 ?_
  have i_3 : vp_in ((10 * p0) + 2) 410 := ix10 (r40 hp0) (by decide)
  refine va_iald (D := (dC, dI)) hx hb hK hP 1 0 rfl rfl i_3 d_M_fitsFor_34 ?_
  refine lv_istore (lv' := [(7, .int (f_ru ((10 * p0) + 2).toNatClampNeg)), (6, .int (f_ru ((10 * p0) + 1).toNatClampNeg)), (5, .int (f_ru (10 * p0).toNatClampNeg)), (0, .ref a_m), (1, .int p0), (2, .int p1), (3, .int p2), (4, .int p3)]) hx hb d_M_fitsFor_35 hl (by decide) rfl (fun ls hl => ?_)
  refine lv_iload hx hb d_M_fitsFor_37 (lv_at hl 2 rfl) ?_
  refine lv_if_lt (tgt := 53) hx hb d_M_fitsFor_39 (by decide) (fun c_4 => ?_) (fun c_4 => ?_)
  · rw [if_pos c_4] at hE
    refine lv_iload hx hb d_M_fitsFor_53 (lv_at hl 1 rfl) ?_
    refine lv_if_lt (tgt := 69) hx hb d_M_fitsFor_55 (by decide) (fun c_5 => ?_) (fun c_5 => ?_)
    · rw [if_pos c_5] at hE
      refine lv_iload hx hb d_M_fitsFor_69 (lv_at hl 0 rfl) ?_
      refine lv_if_lt (tgt := 80) hx hb d_M_fitsFor_71 (by decide) (fun c_6 => ?_) (fun c_6 => ?_)
      · rw [if_pos c_6] at hE
        refine lv_iload hx hb d_M_fitsFor_80 (lv_at hl 7 rfl) ?_
        refine lv_aload_n hx hb d_M_fitsFor_82 rfl (lv_at hl 3 rfl) ?_
        refine va_get (D := (dC, dI)) (ci := 5) (v := .ref a_ex) (C := "LoanRulesModel") (T := Fz_M) (N := 22) hx hb hts it_M hown hK hP 0 rfl rfl 14 (by decide) (hts _ tw_615) (fun _ h9 => h9) rfl d_M_fitsFor_83 ?_
        refine lv_bipush (v := 40) hx hb d_M_fitsFor_86 (by decide) ?_
        refine lv_iload_n hx hb d_M_fitsFor_88 rfl (lv_at hl 5 rfl) ?_
        refine lv_imul hx hb d_M_fitsFor_89 ?_
        refine lv_iload_n hx hb d_M_fitsFor_90 rfl (lv_at hl 4 rfl) ?_
        refine lv_iadd hx hb d_M_fitsFor_91 ?_
        have i_7 : vp_in ((40 * p1) + p0) 2000 := ix40 hp1 hp0
        refine va_iald (D := (dC, dI)) hx hb hK hP 4 3 rfl rfl i_7 d_M_fitsFor_92 ?_
        refine lv_icmp_lt (tgt := 100) hx hb d_M_fitsFor_93 (by decide) (fun c_8 => ?_) (fun c_8 => ?_)
        · rw [if_pos c_8] at hE
          refine lv_iconst (v := 0) hx hb d_M_fitsFor_100 (by decide) ?_
          exact W.zret (v := 0) hx hb hr rfl (fun t ht hW => ⟨0, rfl, hE.symm.trans hz, ht⟩) (fun _ h => by cases h) d_M_fitsFor_101
        · rw [if_neg c_8] at hE
          refine lv_iconst (v := 1) hx hb d_M_fitsFor_96 (by decide) ?_
          refine lv_goto (tgt := 101) hx hb d_M_fitsFor_97 (by decide) ?_
          exact W.zret (v := 1) hx hb hr rfl (fun t ht hW => ⟨1, rfl, hE.symm.trans hz, ht⟩) (fun _ h => by cases h) d_M_fitsFor_101
      · rw [if_neg c_6] at hE
        refine lv_iload hx hb d_M_fitsFor_74 (lv_at hl 0 rfl) ?_
        refine lv_iload_n hx hb d_M_fitsFor_76 rfl (lv_at hl 5 rfl) ?_
        refine lv_icmp_ne (tgt := 100) hx hb d_M_fitsFor_77 (by decide) (fun c_9 => ?_) (fun c_9 => ?_)
        · rw [if_neg c_9] at hE
          refine lv_iconst (v := 0) hx hb d_M_fitsFor_100 (by decide) ?_
          exact W.zret (v := 0) hx hb hr rfl (fun t ht hW => ⟨0, rfl, hE.symm.trans hz, ht⟩) (fun _ h => by cases h) d_M_fitsFor_101
        · rw [if_pos c_9] at hE
          refine lv_iload hx hb d_M_fitsFor_80 (lv_at hl 7 rfl) ?_
          refine lv_aload_n hx hb d_M_fitsFor_82 rfl (lv_at hl 3 rfl) ?_
          refine va_get (D := (dC, dI)) (ci := 5) (v := .ref a_ex) (C := "LoanRulesModel") (T := Fz_M) (N := 22) hx hb hts it_M hown hK hP 0 rfl rfl 14 (by decide) (hts _ tw_615) (fun _ h9 => h9) rfl d_M_fitsFor_83 ?_
          refine lv_bipush (v := 40) hx hb d_M_fitsFor_86 (by decide) ?_
          refine lv_iload_n hx hb d_M_fitsFor_88 rfl (lv_at hl 5 rfl) ?_
          refine lv_imul hx hb d_M_fitsFor_89 ?_
          refine lv_iload_n hx hb d_M_fitsFor_90 rfl (lv_at hl 4 rfl) ?_
          refine lv_iadd hx hb d_M_fitsFor_91 ?_
          have i_10 : vp_in ((40 * p1) + p0) 2000 := ix40 hp1 hp0
          refine va_iald (D := (dC, dI)) hx hb hK hP 4 3 rfl rfl i_10 d_M_fitsFor_92 ?_
          refine lv_icmp_lt (tgt := 100) hx hb d_M_fitsFor_93 (by decide) (fun c_11 => ?_) (fun c_11 => ?_)
          · rw [if_pos c_11] at hE
            refine lv_iconst (v := 0) hx hb d_M_fitsFor_100 (by decide) ?_
            exact W.zret (v := 0) hx hb hr rfl (fun t ht hW => ⟨0, rfl, hE.symm.trans hz, ht⟩) (fun _ h => by cases h) d_M_fitsFor_101
          · rw [if_neg c_11] at hE
            refine lv_iconst (v := 1) hx hb d_M_fitsFor_96 (by decide) ?_
            refine lv_goto (tgt := 101) hx hb d_M_fitsFor_97 (by decide) ?_
            exact W.zret (v := 1) hx hb hr rfl (fun t ht hW => ⟨1, rfl, hE.symm.trans hz, ht⟩) (fun _ h => by cases h) d_M_fitsFor_101
    · rw [if_neg c_5] at hE
      refine lv_iload hx hb d_M_fitsFor_58 (lv_at hl 1 rfl) ?_
      refine lv_aload_n hx hb d_M_fitsFor_60 rfl (lv_at hl 3 rfl) ?_
      refine va_get (D := (dC, dI)) (ci := 5) (v := .ref a_ty) (C := "LoanRulesModel") (T := Fz_M) (N := 22) hx hb hts it_M hown hK hP 0 rfl rfl 12 (by decide) (hts _ tw_613) (fun _ h9 => h9) rfl d_M_fitsFor_61 ?_
      refine lv_iload_n hx hb d_M_fitsFor_64 rfl (lv_at hl 6 rfl) ?_
      have i_12 : vp_in p2 50 := ix50 hp2
      refine va_iald (D := (dC, dI)) hx hb hK hP 3 2 rfl rfl i_12 d_M_fitsFor_65 ?_
      refine lv_icmp_ne (tgt := 100) hx hb d_M_fitsFor_66 (by decide) (fun c_13 => ?_) (fun c_13 => ?_)
      · rw [if_neg c_13] at hE
        refine lv_iconst (v := 0) hx hb d_M_fitsFor_100 (by decide) ?_
        exact W.zret (v := 0) hx hb hr rfl (fun t ht hW => ⟨0, rfl, hE.symm.trans hz, ht⟩) (fun _ h => by cases h) d_M_fitsFor_101
      · rw [if_pos c_13] at hE
        refine lv_iload hx hb d_M_fitsFor_69 (lv_at hl 0 rfl) ?_
        refine lv_if_lt (tgt := 80) hx hb d_M_fitsFor_71 (by decide) (fun c_14 => ?_) (fun c_14 => ?_)
        · rw [if_pos c_14] at hE
          refine lv_iload hx hb d_M_fitsFor_80 (lv_at hl 7 rfl) ?_
          refine lv_aload_n hx hb d_M_fitsFor_82 rfl (lv_at hl 3 rfl) ?_
          refine va_get (D := (dC, dI)) (ci := 5) (v := .ref a_ex) (C := "LoanRulesModel") (T := Fz_M) (N := 22) hx hb hts it_M hown hK hP 0 rfl rfl 14 (by decide) (hts _ tw_615) (fun _ h9 => h9) rfl d_M_fitsFor_83 ?_
          refine lv_bipush (v := 40) hx hb d_M_fitsFor_86 (by decide) ?_
          refine lv_iload_n hx hb d_M_fitsFor_88 rfl (lv_at hl 5 rfl) ?_
          refine lv_imul hx hb d_M_fitsFor_89 ?_
          refine lv_iload_n hx hb d_M_fitsFor_90 rfl (lv_at hl 4 rfl) ?_
          refine lv_iadd hx hb d_M_fitsFor_91 ?_
          have i_15 : vp_in ((40 * p1) + p0) 2000 := ix40 hp1 hp0
          refine va_iald (D := (dC, dI)) hx hb hK hP 4 3 rfl rfl i_15 d_M_fitsFor_92 ?_
          refine lv_icmp_lt (tgt := 100) hx hb d_M_fitsFor_93 (by decide) (fun c_16 => ?_) (fun c_16 => ?_)
          · rw [if_pos c_16] at hE
            refine lv_iconst (v := 0) hx hb d_M_fitsFor_100 (by decide) ?_
            exact W.zret (v := 0) hx hb hr rfl (fun t ht hW => ⟨0, rfl, hE.symm.trans hz, ht⟩) (fun _ h => by cases h) d_M_fitsFor_101
          · rw [if_neg c_16] at hE
            refine lv_iconst (v := 1) hx hb d_M_fitsFor_96 (by decide) ?_
            refine lv_goto (tgt := 101) hx hb d_M_fitsFor_97 (by decide) ?_
            exact W.zret (v := 1) hx hb hr rfl (fun t ht hW => ⟨1, rfl, hE.symm.trans hz, ht⟩) (fun _ h => by cases h) d_M_fitsFor_101
        · rw [if_neg c_14] at hE
          refine lv_iload hx hb d_M_fitsFor_74 (lv_at hl 0 rfl) ?_
          refine lv_iload_n hx hb d_M_fitsFor_76 rfl (lv_at hl 5 rfl) ?_
          refine lv_icmp_ne (tgt := 100) hx hb d_M_fitsFor_77 (by decide) (fun c_17 => ?_) (fun c_17 => ?_)
          · rw [if_neg c_17] at hE
            refine lv_iconst (v := 0) hx hb d_M_fitsFor_100 (by decide) ?_
            exact W.zret (v := 0) hx hb hr rfl (fun t ht hW => ⟨0, rfl, hE.symm.trans hz, ht⟩) (fun _ h => by cases h) d_M_fitsFor_101
          · rw [if_pos c_17] at hE
            refine lv_iload hx hb d_M_fitsFor_80 (lv_at hl 7 rfl) ?_
            refine lv_aload_n hx hb d_M_fitsFor_82 rfl (lv_at hl 3 rfl) ?_
            refine va_get (D := (dC, dI)) (ci := 5) (v := .ref a_ex) (C := "LoanRulesModel") (T := Fz_M) (N := 22) hx hb hts it_M hown hK hP 0 rfl rfl 14 (by decide) (hts _ tw_615) (fun _ h9 => h9) rfl d_M_fitsFor_83 ?_
            refine lv_bipush (v := 40) hx hb d_M_fitsFor_86 (by decide) ?_
            refine lv_iload_n hx hb d_M_fitsFor_88 rfl (lv_at hl 5 rfl) ?_
            refine lv_imul hx hb d_M_fitsFor_89 ?_
            refine lv_iload_n hx hb d_M_fitsFor_90 rfl (lv_at hl 4 rfl) ?_
            refine lv_iadd hx hb d_M_fitsFor_91 ?_
            have i_18 : vp_in ((40 * p1) + p0) 2000 := ix40 hp1 hp0
            refine va_iald (D := (dC, dI)) hx hb hK hP 4 3 rfl rfl i_18 d_M_fitsFor_92 ?_
            refine lv_icmp_lt (tgt := 100) hx hb d_M_fitsFor_93 (by decide) (fun c_19 => ?_) (fun c_19 => ?_)
            · rw [if_pos c_19] at hE
              refine lv_iconst (v := 0) hx hb d_M_fitsFor_100 (by decide) ?_
              exact W.zret (v := 0) hx hb hr rfl (fun t ht hW => ⟨0, rfl, hE.symm.trans hz, ht⟩) (fun _ h => by cases h) d_M_fitsFor_101
            · rw [if_neg c_19] at hE
              refine lv_iconst (v := 1) hx hb d_M_fitsFor_96 (by decide) ?_
              refine lv_goto (tgt := 101) hx hb d_M_fitsFor_97 (by decide) ?_
              exact W.zret (v := 1) hx hb hr rfl (fun t ht hW => ⟨1, rfl, hE.symm.trans hz, ht⟩) (fun _ h => by cases h) d_M_fitsFor_101
  · rw [if_neg c_4] at hE
    refine lv_iload hx hb d_M_fitsFor_42 (lv_at hl 2 rfl) ?_
    refine lv_aload_n hx hb d_M_fitsFor_44 rfl (lv_at hl 3 rfl) ?_
    refine va_get (D := (dC, dI)) (ci := 5) (v := .ref a_ki) (C := "LoanRulesModel") (T := Fz_M) (N := 22) hx hb hts it_M hown hK hP 0 rfl rfl 11 (by decide) (hts _ tw_612) (fun _ h9 => h9) rfl d_M_fitsFor_45 ?_
    refine lv_iload_n hx hb d_M_fitsFor_48 rfl (lv_at hl 5 rfl) ?_
    have i_20 : vp_in p1 50 := ix50 hp1
    refine va_iald (D := (dC, dI)) hx hb hK hP 2 1 rfl rfl i_20 d_M_fitsFor_49 ?_
    refine lv_icmp_ne (tgt := 100) hx hb d_M_fitsFor_50 (by decide) (fun c_21 => ?_) (fun c_21 => ?_)
    · rw [if_neg c_21] at hE
      refine lv_iconst (v := 0) hx hb d_M_fitsFor_100 (by decide) ?_
      exact W.zret (v := 0) hx hb hr rfl (fun t ht hW => ⟨0, rfl, hE.symm.trans hz, ht⟩) (fun _ h => by cases h) d_M_fitsFor_101
    · rw [if_pos c_21] at hE
      refine lv_iload hx hb d_M_fitsFor_53 (lv_at hl 1 rfl) ?_
      refine lv_if_lt (tgt := 69) hx hb d_M_fitsFor_55 (by decide) (fun c_22 => ?_) (fun c_22 => ?_)
      · rw [if_pos c_22] at hE
        refine lv_iload hx hb d_M_fitsFor_69 (lv_at hl 0 rfl) ?_
        refine lv_if_lt (tgt := 80) hx hb d_M_fitsFor_71 (by decide) (fun c_23 => ?_) (fun c_23 => ?_)
        · rw [if_pos c_23] at hE
          refine lv_iload hx hb d_M_fitsFor_80 (lv_at hl 7 rfl) ?_
          refine lv_aload_n hx hb d_M_fitsFor_82 rfl (lv_at hl 3 rfl) ?_
          refine va_get (D := (dC, dI)) (ci := 5) (v := .ref a_ex) (C := "LoanRulesModel") (T := Fz_M) (N := 22) hx hb hts it_M hown hK hP 0 rfl rfl 14 (by decide) (hts _ tw_615) (fun _ h9 => h9) rfl d_M_fitsFor_83 ?_
          refine lv_bipush (v := 40) hx hb d_M_fitsFor_86 (by decide) ?_
          refine lv_iload_n hx hb d_M_fitsFor_88 rfl (lv_at hl 5 rfl) ?_
          refine lv_imul hx hb d_M_fitsFor_89 ?_
          refine lv_iload_n hx hb d_M_fitsFor_90 rfl (lv_at hl 4 rfl) ?_
          refine lv_iadd hx hb d_M_fitsFor_91 ?_
          have i_24 : vp_in ((40 * p1) + p0) 2000 := ix40 hp1 hp0
          refine va_iald (D := (dC, dI)) hx hb hK hP 4 3 rfl rfl i_24 d_M_fitsFor_92 ?_
          refine lv_icmp_lt (tgt := 100) hx hb d_M_fitsFor_93 (by decide) (fun c_25 => ?_) (fun c_25 => ?_)
          · rw [if_pos c_25] at hE
            refine lv_iconst (v := 0) hx hb d_M_fitsFor_100 (by decide) ?_
            exact W.zret (v := 0) hx hb hr rfl (fun t ht hW => ⟨0, rfl, hE.symm.trans hz, ht⟩) (fun _ h => by cases h) d_M_fitsFor_101
          · rw [if_neg c_25] at hE
            refine lv_iconst (v := 1) hx hb d_M_fitsFor_96 (by decide) ?_
            refine lv_goto (tgt := 101) hx hb d_M_fitsFor_97 (by decide) ?_
            exact W.zret (v := 1) hx hb hr rfl (fun t ht hW => ⟨1, rfl, hE.symm.trans hz, ht⟩) (fun _ h => by cases h) d_M_fitsFor_101
        · rw [if_neg c_23] at hE
          refine lv_iload hx hb d_M_fitsFor_74 (lv_at hl 0 rfl) ?_
          refine lv_iload_n hx hb d_M_fitsFor_76 rfl (lv_at hl 5 rfl) ?_
          refine lv_icmp_ne (tgt := 100) hx hb d_M_fitsFor_77 (by decide) (fun c_26 => ?_) (fun c_26 => ?_)
          · rw [if_neg c_26] at hE
            refine lv_iconst (v := 0) hx hb d_M_fitsFor_100 (by decide) ?_
            exact W.zret (v := 0) hx hb hr rfl (fun t ht hW => ⟨0, rfl, hE.symm.trans hz, ht⟩) (fun _ h => by cases h) d_M_fitsFor_101
          · rw [if_pos c_26] at hE
            refine lv_iload hx hb d_M_fitsFor_80 (lv_at hl 7 rfl) ?_
            refine lv_aload_n hx hb d_M_fitsFor_82 rfl (lv_at hl 3 rfl) ?_
            refine va_get (D := (dC, dI)) (ci := 5) (v := .ref a_ex) (C := "LoanRulesModel") (T := Fz_M) (N := 22) hx hb hts it_M hown hK hP 0 rfl rfl 14 (by decide) (hts _ tw_615) (fun _ h9 => h9) rfl d_M_fitsFor_83 ?_
            refine lv_bipush (v := 40) hx hb d_M_fitsFor_86 (by decide) ?_
            refine lv_iload_n hx hb d_M_fitsFor_88 rfl (lv_at hl 5 rfl) ?_
            refine lv_imul hx hb d_M_fitsFor_89 ?_
            refine lv_iload_n hx hb d_M_fitsFor_90 rfl (lv_at hl 4 rfl) ?_
            refine lv_iadd hx hb d_M_fitsFor_91 ?_
            have i_27 : vp_in ((40 * p1) + p0) 2000 := ix40 hp1 hp0
            refine va_iald (D := (dC, dI)) hx hb hK hP 4 3 rfl rfl i_27 d_M_fitsFor_92 ?_
            refine lv_icmp_lt (tgt := 100) hx hb d_M_fitsFor_93 (by decide) (fun c_28 => ?_) (fun c_28 => ?_)
            · rw [if_pos c_28] at hE
              refine lv_iconst (v := 0) hx hb d_M_fitsFor_100 (by decide) ?_
              exact W.zret (v := 0) hx hb hr rfl (fun t ht hW => ⟨0, rfl, hE.symm.trans hz, ht⟩) (fun _ h => by cases h) d_M_fitsFor_101
            · rw [if_neg c_28] at hE
              refine lv_iconst (v := 1) hx hb d_M_fitsFor_96 (by decide) ?_
              refine lv_goto (tgt := 101) hx hb d_M_fitsFor_97 (by decide) ?_
              exact W.zret (v := 1) hx hb hr rfl (fun t ht hW => ⟨1, rfl, hE.symm.trans hz, ht⟩) (fun _ h => by cases h) d_M_fitsFor_101
      · rw [if_neg c_22] at hE
        refine lv_iload hx hb d_M_fitsFor_58 (lv_at hl 1 rfl) ?_
        refine lv_aload_n hx hb d_M_fitsFor_60 rfl (lv_at hl 3 rfl) ?_
        refine va_get (D := (dC, dI)) (ci := 5) (v := .ref a_ty) (C := "LoanRulesModel") (T := Fz_M) (N := 22) hx hb hts it_M hown hK hP 0 rfl rfl 12 (by decide) (hts _ tw_613) (fun _ h9 => h9) rfl d_M_fitsFor_61 ?_
        refine lv_iload_n hx hb d_M_fitsFor_64 rfl (lv_at hl 6 rfl) ?_
        have i_29 : vp_in p2 50 := ix50 hp2
        refine va_iald (D := (dC, dI)) hx hb hK hP 3 2 rfl rfl i_29 d_M_fitsFor_65 ?_
        refine lv_icmp_ne (tgt := 100) hx hb d_M_fitsFor_66 (by decide) (fun c_30 => ?_) (fun c_30 => ?_)
        · rw [if_neg c_30] at hE
          refine lv_iconst (v := 0) hx hb d_M_fitsFor_100 (by decide) ?_
          exact W.zret (v := 0) hx hb hr rfl (fun t ht hW => ⟨0, rfl, hE.symm.trans hz, ht⟩) (fun _ h => by cases h) d_M_fitsFor_101
        · rw [if_pos c_30] at hE
          refine lv_iload hx hb d_M_fitsFor_69 (lv_at hl 0 rfl) ?_
          refine lv_if_lt (tgt := 80) hx hb d_M_fitsFor_71 (by decide) (fun c_31 => ?_) (fun c_31 => ?_)
          · rw [if_pos c_31] at hE
            refine lv_iload hx hb d_M_fitsFor_80 (lv_at hl 7 rfl) ?_
            refine lv_aload_n hx hb d_M_fitsFor_82 rfl (lv_at hl 3 rfl) ?_
            refine va_get (D := (dC, dI)) (ci := 5) (v := .ref a_ex) (C := "LoanRulesModel") (T := Fz_M) (N := 22) hx hb hts it_M hown hK hP 0 rfl rfl 14 (by decide) (hts _ tw_615) (fun _ h9 => h9) rfl d_M_fitsFor_83 ?_
            refine lv_bipush (v := 40) hx hb d_M_fitsFor_86 (by decide) ?_
            refine lv_iload_n hx hb d_M_fitsFor_88 rfl (lv_at hl 5 rfl) ?_
            refine lv_imul hx hb d_M_fitsFor_89 ?_
            refine lv_iload_n hx hb d_M_fitsFor_90 rfl (lv_at hl 4 rfl) ?_
            refine lv_iadd hx hb d_M_fitsFor_91 ?_
            have i_32 : vp_in ((40 * p1) + p0) 2000 := ix40 hp1 hp0
            refine va_iald (D := (dC, dI)) hx hb hK hP 4 3 rfl rfl i_32 d_M_fitsFor_92 ?_
            refine lv_icmp_lt (tgt := 100) hx hb d_M_fitsFor_93 (by decide) (fun c_33 => ?_) (fun c_33 => ?_)
            · rw [if_pos c_33] at hE
              refine lv_iconst (v := 0) hx hb d_M_fitsFor_100 (by decide) ?_
              exact W.zret (v := 0) hx hb hr rfl (fun t ht hW => ⟨0, rfl, hE.symm.trans hz, ht⟩) (fun _ h => by cases h) d_M_fitsFor_101
            · rw [if_neg c_33] at hE
              refine lv_iconst (v := 1) hx hb d_M_fitsFor_96 (by decide) ?_
              refine lv_goto (tgt := 101) hx hb d_M_fitsFor_97 (by decide) ?_
              exact W.zret (v := 1) hx hb hr rfl (fun t ht hW => ⟨1, rfl, hE.symm.trans hz, ht⟩) (fun _ h => by cases h) d_M_fitsFor_101
          · rw [if_neg c_31] at hE
            refine lv_iload hx hb d_M_fitsFor_74 (lv_at hl 0 rfl) ?_
            refine lv_iload_n hx hb d_M_fitsFor_76 rfl (lv_at hl 5 rfl) ?_
            refine lv_icmp_ne (tgt := 100) hx hb d_M_fitsFor_77 (by decide) (fun c_34 => ?_) (fun c_34 => ?_)
            · rw [if_neg c_34] at hE
              refine lv_iconst (v := 0) hx hb d_M_fitsFor_100 (by decide) ?_
              exact W.zret (v := 0) hx hb hr rfl (fun t ht hW => ⟨0, rfl, hE.symm.trans hz, ht⟩) (fun _ h => by cases h) d_M_fitsFor_101
            · rw [if_pos c_34] at hE
              refine lv_iload hx hb d_M_fitsFor_80 (lv_at hl 7 rfl) ?_
              refine lv_aload_n hx hb d_M_fitsFor_82 rfl (lv_at hl 3 rfl) ?_
              refine va_get (D := (dC, dI)) (ci := 5) (v := .ref a_ex) (C := "LoanRulesModel") (T := Fz_M) (N := 22) hx hb hts it_M hown hK hP 0 rfl rfl 14 (by decide) (hts _ tw_615) (fun _ h9 => h9) rfl d_M_fitsFor_83 ?_
              refine lv_bipush (v := 40) hx hb d_M_fitsFor_86 (by decide) ?_
              refine lv_iload_n hx hb d_M_fitsFor_88 rfl (lv_at hl 5 rfl) ?_
              refine lv_imul hx hb d_M_fitsFor_89 ?_
              refine lv_iload_n hx hb d_M_fitsFor_90 rfl (lv_at hl 4 rfl) ?_
              refine lv_iadd hx hb d_M_fitsFor_91 ?_
              have i_35 : vp_in ((40 * p1) + p0) 2000 := ix40 hp1 hp0
              refine va_iald (D := (dC, dI)) hx hb hK hP 4 3 rfl rfl i_35 d_M_fitsFor_92 ?_
              refine lv_icmp_lt (tgt := 100) hx hb d_M_fitsFor_93 (by decide) (fun c_36 => ?_) (fun c_36 => ?_)
              · rw [if_pos c_36] at hE
                refine lv_iconst (v := 0) hx hb d_M_fitsFor_100 (by decide) ?_
                exact W.zret (v := 0) hx hb hr rfl (fun t ht hW => ⟨0, rfl, hE.symm.trans hz, ht⟩) (fun _ h => by cases h) d_M_fitsFor_101
              · rw [if_neg c_36] at hE
                refine lv_iconst (v := 1) hx hb d_M_fitsFor_96 (by decide) ?_
                refine lv_goto (tgt := 101) hx hb d_M_fitsFor_97 (by decide) ?_
                exact W.zret (v := 1) hx hb hr rfl (fun t ht hW => ⟨1, rfl, hE.symm.trans hz, ht⟩) (fun _ h => by cases h) d_M_fitsFor_101
def gl_ins : Nat → (Nat → Int32) → (Int32) → (Int32) → (Nat → Int32) → Int32 × (Nat → Int32)
  | 0, f_ru, r, k, fj => (k, fj)
  | n + 1, f_ru, r, k, fj =>
    if k ≤ 0 then
      (k, fj)
    else
      if (f_ru ((10 * r) + 8).toNatClampNeg) ≤ (f_ru ((10 * (fj (k - 1).toNatClampNeg)) + 8).toNatClampNeg) then
        (k, fj)
      else
        gl_ins n f_ru r (k + (-1)) (upd fj k.toNatClampNeg (fj (k - 1).toNatClampNeg))
def gl_find : Nat → (Int32) → (Int32) → (Int32) → (Int32) → (Nat → Int32) → (Nat → Int32) → (Nat → Int32) → (Nat → Int32) → (Int32) → (Int32) → (Nat → Int32) → Int32 × Int32 × (Nat → Int32)
  | 0, p0, p1, p2, v_n, f_ru, f_ki, f_ty, f_ex, r, nf, fi => (r, nf, fi)
  | n + 1, p0, p1, p2, v_n, f_ru, f_ki, f_ty, f_ex, r, nf, fi =>
    if v_n ≤ r then
      (r, nf, fi)
    else
      if (g_Mg_fitsFor r p0 p1 p2 f_ru f_ki f_ty f_ex) = 0 then
        gl_find n p0 p1 p2 v_n f_ru f_ki f_ty f_ex (r + 1) nf fi
      else
        bv (gl_ins 41 f_ru r nf fi) (fun x_5 =>
          gl_find n p0 p1 p2 v_n f_ru f_ki f_ty f_ex (r + 1) (nf + 1) (upd x_5.2 x_5.1.toNatClampNeg r))
def g_Mg_find (p0 : Int32) (p1 : Int32) (p2 : Int32) (v_n : Int32) (f_ru : Nat → Int32) (f_ki : Nat → Int32) (f_ty : Nat → Int32) (f_ex : Nat → Int32) (f_fi : Nat → Int32) : Int32 × (Nat → Int32) :=
  bv (gl_find 41 p0 p1 p2 v_n f_ru f_ki f_ty f_ex 0 0 f_fi) (fun x_1 =>
    (x_1.2.1, x_1.2.2))
set_option maxHeartbeats 4000000 in
set_option maxRecDepth 100000 in
theorem c_Mg_find (l : Launch) (dC : Nat → ClassId) (dI : Nat → Nat → Nat) (adK adV : Nat → Nat) (a_m : Nat) (a_ru : Nat) (a_ki : Nat) (a_ty : Nat) (a_ex : Nat) (a_fi : Nat) (k_ru : ClassId) (k_ki : ClassId) (k_ty : ClassId) (k_ex : ClassId) (k_fi : ClassId) (p0 : Int32) (p1 : Int32) (p2 : Int32) (v_th : Int32) (a_sa : Nat) (v_sz : Int32) (v_at : Int32) (v_wr : Int32) (a_me : Nat) (a_le : Nat) (v_n : Int32) (a_cl : Nat) (a_te : Nat) (a_bl : Nat) (a_lo : Nat) (v_nl : Int32) (a_ho : Nat) (v_nf : Int32) (a_cz : Nat) (v_nc : Int32) (f_ru : Nat → Int32) (f_ki : Nat → Int32) (f_ty : Nat → Int32) (f_ex : Nat → Int32) (f_fi : Nat → Int32) (sz : Nat) (hp0 : 0 ≤ p0.toInt ∧ p0.toInt < 50) (hp1 : 0 ≤ p1.toInt ∧ p1.toInt < 50) (hn : 0 ≤ v_n.toInt ∧ v_n.toInt ≤ 40) : Met l y_M_find ws_M_find ({ frames := 1, cells := 0, slots := 0, locals := 27 }) (va_Pc [.ref a_m, .int p0, .int p1, .int p2] (fun U => U.heap.size = sz ∧ zz adK adV (va_A [(a_m, .inr (5, [.int v_th, .ref a_sa, .int v_sz, .int v_at, .int v_wr, .ref a_ru, .ref a_me, .ref a_le, .int v_n, .ref a_cl, .ref a_te, .ref a_ki, .ref a_ty, .ref a_bl, .ref a_ex, .ref a_lo, .int v_nl, .ref a_ho, .ref a_fi, .int v_nf, .ref a_cz, .int v_nc])), (a_ru, .inl (k_ru, 410, .inl f_ru)), (a_ki, .inl (k_ki, 50, .inl f_ki)), (a_ty, .inl (k_ty, 50, .inl f_ty)), (a_ex, .inl (k_ex, 2000, .inl f_ex)), (a_fi, .inl (k_fi, 40, .inl f_fi))] sz) U ∧ va_P (dC, dI) vwCl [(a_m, .inr (5, [.int v_th, .ref a_sa, .int v_sz, .int v_at, .int v_wr, .ref a_ru, .ref a_me, .ref a_le, .int v_n, .ref a_cl, .ref a_te, .ref a_ki, .ref a_ty, .ref a_bl, .ref a_ex, .ref a_lo, .int v_nl, .ref a_ho, .ref a_fi, .int v_nf, .ref a_cz, .int v_nc])), (a_ru, .inl (k_ru, 410, .inl f_ru)), (a_ki, .inl (k_ki, 50, .inl f_ki)), (a_ty, .inl (k_ty, 50, .inl f_ty)), (a_ex, .inl (k_ex, 2000, .inl f_ex)), (a_fi, .inl (k_fi, 40, .inl f_fi))] U.heap ∧ va_K (dC, dI) vwCl [(k_ru, .int), (k_ki, .int), (k_ty, .int), (k_ex, .int), (k_fi, .int)] U ∧ va_D (fun _ => True) [(a_m, .inr (5, [.int v_th, .ref a_sa, .int v_sz, .int v_at, .int v_wr, .ref a_ru, .ref a_me, .ref a_le, .int v_n, .ref a_cl, .ref a_te, .ref a_ki, .ref a_ty, .ref a_bl, .ref a_ex, .ref a_lo, .int v_nl, .ref a_ho, .ref a_fi, .int v_nf, .ref a_cz, .int v_nc])), (a_ru, .inl (k_ru, 410, .inl f_ru)), (a_ki, .inl (k_ki, 50, .inl f_ki)), (a_ty, .inl (k_ty, 50, .inl f_ty)), (a_ex, .inl (k_ex, 2000, .inl f_ex)), (a_fi, .inl (k_fi, 40, .inl f_fi))])) (va_Qv (fun _ : Unit => True) (fun (_ : Unit) (t : State) => va_P (dC, dI) vwCl [(a_m, .inr (5, [.int v_th, .ref a_sa, .int v_sz, .int v_at, .int v_wr, .ref a_ru, .ref a_me, .ref a_le, .int v_n, .ref a_cl, .ref a_te, .ref a_ki, .ref a_ty, .ref a_bl, .ref a_ex, .ref a_lo, .int v_nl, .ref a_ho, .ref a_fi, .int ((g_Mg_find p0 p1 p2 v_n f_ru f_ki f_ty f_ex f_fi).1), .ref a_cz, .int v_nc])), (a_ru, .inl (k_ru, 410, .inl f_ru)), (a_ki, .inl (k_ki, 50, .inl f_ki)), (a_ty, .inl (k_ty, 50, .inl f_ty)), (a_ex, .inl (k_ex, 2000, .inl f_ex)), (a_fi, .inl (k_fi, 40, .inl ((g_Mg_find p0 p1 p2 v_n f_ru f_ki f_ty f_ex f_fi).2)))] t.heap ∧ va_K (dC, dI) vwCl [(k_ru, .int), (k_ki, .int), (k_ty, .int), (k_ex, .int), (k_fi, .int)] t ∧ va_D (va_A [(a_m, .inr (5, [.int v_th, .ref a_sa, .int v_sz, .int v_at, .int v_wr, .ref a_ru, .ref a_me, .ref a_le, .int v_n, .ref a_cl, .ref a_te, .ref a_ki, .ref a_ty, .ref a_bl, .ref a_ex, .ref a_lo, .int v_nl, .ref a_ho, .ref a_fi, .int v_nf, .ref a_cz, .int v_nc])), (a_ru, .inl (k_ru, 410, .inl f_ru)), (a_ki, .inl (k_ki, 50, .inl f_ki)), (a_ty, .inl (k_ty, 50, .inl f_ty)), (a_ex, .inl (k_ex, 2000, .inl f_ex)), (a_fi, .inl (k_fi, 40, .inl f_fi))] sz) [(a_m, .inr (5, [.int v_th, .ref a_sa, .int v_sz, .int v_at, .int v_wr, .ref a_ru, .ref a_me, .ref a_le, .int v_n, .ref a_cl, .ref a_te, .ref a_ki, .ref a_ty, .ref a_bl, .ref a_ex, .ref a_lo, .int v_nl, .ref a_ho, .ref a_fi, .int ((g_Mg_find p0 p1 p2 v_n f_ru f_ki f_ty f_ex f_fi).1), .ref a_cz, .int v_nc])), (a_ru, .inl (k_ru, 410, .inl f_ru)), (a_ki, .inl (k_ki, 50, .inl f_ki)), (a_ty, .inl (k_ty, 50, .inl f_ty)), (a_ex, .inl (k_ex, 2000, .inl f_ex)), (a_fi, .inl (k_fi, 40, .inl ((g_Mg_find p0 p1 p2 v_n f_ru f_ki f_ty f_ex f_fi).2)))]) (va_A [(a_m, .inr (5, [.int v_th, .ref a_sa, .int v_sz, .int v_at, .int v_wr, .ref a_ru, .ref a_me, .ref a_le, .int v_n, .ref a_cl, .ref a_te, .ref a_ki, .ref a_ty, .ref a_bl, .ref a_ex, .ref a_lo, .int v_nl, .ref a_ho, .ref a_fi, .int v_nf, .ref a_cz, .int v_nc])), (a_ru, .inl (k_ru, 410, .inl f_ru)), (a_ki, .inl (k_ki, 50, .inl f_ki)), (a_ty, .inl (k_ty, 50, .inl f_ty)), (a_ex, .inl (k_ex, 2000, .inl f_ex)), (a_fi, .inl (k_fi, 40, .inl f_fi))] sz)) 0 0 (va_A [(a_m, .inr (5, [.int v_th, .ref a_sa, .int v_sz, .int v_at, .int v_wr, .ref a_ru, .ref a_me, .ref a_le, .int v_n, .ref a_cl, .ref a_te, .ref a_ki, .ref a_ty, .ref a_bl, .ref a_ex, .ref a_lo, .int v_nl, .ref a_ho, .ref a_fi, .int v_nf, .ref a_cz, .int v_nc])), (a_ru, .inl (k_ru, 410, .inl f_ru)), (a_ki, .inl (k_ki, 50, .inl f_ki)), (a_ty, .inl (k_ty, 50, .inl f_ty)), (a_ex, .inl (k_ex, 2000, .inl f_ex)), (a_fi, .inl (k_fi, 40, .inl f_fi))] sz) := by
  refine Met.ofW (cc := c_M_find) (maxL := 6) (ret := none) (by decide) rfl ?_
  intro p e s m args below meth c s₁ B hml hv
  obtain ⟨rfl, hsz, hZ, hP, hK, hD0⟩ := hv
  have hx := B.exec
  have hb := B.bytes
  have hr := B.returns
  have hts0 := atoms_spec (ws := ws_M_find) B.pre
  have hts : ∀ w ∈ TT, w.before _ s = true := fun w h => hts0 w (List.mem_cons_of_mem _ h)
  have hown : s.vm.findClass "LoanRulesModel" = some m.cls := findClass_of_methodNamed B.named
  have hlocks := B.notSynchronized
  subst hsz
  have hD := hD0.self (sz := s.heap.size)
  generalize hAe : va_A [(a_m, .inr (5, [.int v_th, .ref a_sa, .int v_sz, .int v_at, .int v_wr, .ref a_ru, .ref a_me, .ref a_le, .int v_n, .ref a_cl, .ref a_te, .ref a_ki, .ref a_ty, .ref a_bl, .ref a_ex, .ref a_lo, .int v_nl, .ref a_ho, .ref a_fi, .int v_nf, .ref a_cz, .int v_nc])), (a_ru, .inl (k_ru, 410, .inl f_ru)), (a_ki, .inl (k_ki, 50, .inl f_ki)), (a_ty, .inl (k_ty, 50, .inl f_ty)), (a_ex, .inl (k_ex, 2000, .inl f_ex)), (a_fi, .inl (k_fi, 40, .inl f_fi))] s.heap.size = A at hD hZ ⊢
  have hA : ∀ q : Nat, s.heap.size ≤ q → A q := fun q h => by rw [← hAe]; exact Or.inr h
  clear hAe hD0
  have hS : va_S A s.heap s.heap [] := va_S.rf
  replace hP : va_P (dC, dI) vwCl [(a_m, .inr (5, [.int v_th, .ref a_sa, .int v_sz, .int v_at, .int v_wr, .ref a_ru, .ref a_me, .ref a_le, .int v_n, .ref a_cl, .ref a_te, .ref a_ki, .ref a_ty, .ref a_bl, .ref a_ex, .ref a_lo, .int v_nl, .ref a_ho, .ref a_fi, .int v_nf, .ref a_cz, .int v_nc])), (a_ru, .inl (k_ru, 410, .inl f_ru)), (a_ki, .inl (k_ki, 50, .inl f_ki)), (a_ty, .inl (k_ty, 50, .inl f_ty)), (a_ex, .inl (k_ex, 2000, .inl f_ex)), (a_fi, .inl (k_fi, 40, .inl f_fi))] s.heap := hP
  have hl := lv_entry ([.ref a_m, .int p0, .int p1, .int p2]) (n := 6) (Nat.le_of_ble_eq_true rfl)
  rw [lg_entry_eq]
  generalize (lg_sl ([.ref a_m, .int p0, .int p1, .int p2]) ++ List.replicate (6 - (lg_sl ([.ref a_m, .int p0, .int p1, .int p2])).length) Slot.unset).toArray = ls at hl ⊢
  replace hl : lv_has ls 6 [(0, .ref a_m), (1, .int p0), (2, .int p1), (3, .int p2)] := hl
  obtain ⟨z, hz⟩ : ∃ z, z = g_Mg_find p0 p1 p2 v_n f_ru f_ki f_ty f_ex f_fi := ⟨_, rfl⟩
  have hE := hz
  rw [g_Mg_find] at hE
  refine lv_aload_n hx hb d_M_find_0 rfl (lv_at hl 0 rfl) ?_
  refine lv_iconst (v := 0) hx hb d_M_find_1 (by decide) ?_
  refine va_put (D := (dC, dI)) (ci := 5) (v := .int 0) (ty := .int) (C := "LoanRulesModel") (T := Fz_M) (N := 22) hx hb hts it_M tz_M tz_M_ok nz_M hown hK hP hD hS 0 rfl rfl 19 (by decide) (hts _ tw_620) (fun _ h9 => h9) rfl (by decide +kernel) rfl rfl (Nat.le_of_ble_eq_true rfl) d_M_find_2 (fun H locs hP hD hS => ?_)
  replace hP : va_P (dC, dI) vwCl [(a_m, .inr (5, [.int v_th, .ref a_sa, .int v_sz, .int v_at, .int v_wr, .ref a_ru, .ref a_me, .ref a_le, .int v_n, .ref a_cl, .ref a_te, .ref a_ki, .ref a_ty, .ref a_bl, .ref a_ex, .ref a_lo, .int v_nl, .ref a_ho, .ref a_fi, .int 0, .ref a_cz, .int v_nc])), (a_ru, .inl (k_ru, 410, .inl f_ru)), (a_ki, .inl (k_ki, 50, .inl f_ki)), (a_ty, .inl (k_ty, 50, .inl f_ty)), (a_ex, .inl (k_ex, 2000, .inl f_ex)), (a_fi, .inl (k_fi, 40, .inl f_fi))] H := hP
  replace hD : va_D A [(a_m, .inr (5, [.int v_th, .ref a_sa, .int v_sz, .int v_at, .int v_wr, .ref a_ru, .ref a_me, .ref a_le, .int v_n, .ref a_cl, .ref a_te, .ref a_ki, .ref a_ty, .ref a_bl, .ref a_ex, .ref a_lo, .int v_nl, .ref a_ho, .ref a_fi, .int 0, .ref a_cz, .int v_nc])), (a_ru, .inl (k_ru, 410, .inl f_ru)), (a_ki, .inl (k_ki, 50, .inl f_ki)), (a_ty, .inl (k_ty, 50, .inl f_ty)), (a_ex, .inl (k_ex, 2000, .inl f_ex)), (a_fi, .inl (k_fi, 40, .inl f_fi))] := hD
  refine lv_iconst (v := 0) hx hb d_M_find_5 (by decide) ?_
  refine lv_istore (lv' := [(4, .int 0), (0, .ref a_m), (1, .int p0), (2, .int p1), (3, .int p2)]) hx hb d_M_find_6 hl (by decide) rfl (fun ls hl => ?_)
  generalize hg_x_1 : gl_find 41 p0 p1 p2 v_n f_ru f_ki f_ty f_ex 0 0 f_fi = x_1 at hE
  rw [bv_eq] at hE
  obtain ⟨r, e_r⟩ : ∃ q9 : Int32, q9 = 0 := ⟨_, rfl⟩
  obtain ⟨nf, e_nf⟩ : ∃ q9 : Int32, q9 = 0 := ⟨_, rfl⟩
  obtain ⟨fi, e_fi⟩ : ∃ q9 : Nat → Int32, q9 = f_fi := ⟨_, rfl⟩
  obtain ⟨n, e_n⟩ : ∃ q9 : Nat, q9 = 41 := ⟨_, rfl⟩
  have hAll : va_P (dC, dI) vwCl [(a_m, .inr (5, [.int v_th, .ref a_sa, .int v_sz, .int v_at, .int v_wr, .ref a_ru, .ref a_me, .ref a_le, .int v_n, .ref a_cl, .ref a_te, .ref a_ki, .ref a_ty, .ref a_bl, .ref a_ex, .ref a_lo, .int v_nl, .ref a_ho, .ref a_fi, .int nf, .ref a_cz, .int v_nc])), (a_ru, .inl (k_ru, 410, .inl f_ru)), (a_ki, .inl (k_ki, 50, .inl f_ki)), (a_ty, .inl (k_ty, 50, .inl f_ty)), (a_ex, .inl (k_ex, 2000, .inl f_ex)), (a_fi, .inl (k_fi, 40, .inl fi))] H ∧ va_D A [(a_m, .inr (5, [.int v_th, .ref a_sa, .int v_sz, .int v_at, .int v_wr, .ref a_ru, .ref a_me, .ref a_le, .int v_n, .ref a_cl, .ref a_te, .ref a_ki, .ref a_ty, .ref a_bl, .ref a_ex, .ref a_lo, .int v_nl, .ref a_ho, .ref a_fi, .int nf, .ref a_cz, .int v_nc])), (a_ru, .inl (k_ru, 410, .inl f_ru)), (a_ki, .inl (k_ki, 50, .inl f_ki)), (a_ty, .inl (k_ty, 50, .inl f_ty)), (a_ex, .inl (k_ex, 2000, .inl f_ex)), (a_fi, .inl (k_fi, 40, .inl fi))] ∧ va_S A s.heap H locs ∧ lv_has ls 6 [(4, .int r), (0, .ref a_m), (1, .int p0), (2, .int p1), (3, .int p2)] ∧ (0 ≤ r.toInt ∧ r.toInt ≤ 40) ∧ (0 ≤ nf.toInt ∧ nf.toInt ≤ r.toInt) ∧ (∀ j : Nat, (j : Int) < nf.toInt → v40 (fi j)) ∧ 41 - r.toInt.toNat ≤ n ∧ gl_find n p0 p1 p2 v_n f_ru f_ki f_ty f_ex r nf fi = x_1 := by
    subst e_r e_nf e_fi e_n
    exact ⟨hP, hD, hS, hl, by decide, by decide, fun j h => absurd h (by rw [li_0]; omega), by decide, hg_x_1⟩
  clear hP hl hD hS e_r e_nf e_fi e_n hg_x_1
  induction n generalizing r nf fi H locs ls with
  | zero =>
    obtain ⟨hP, hD, hS, hl, hr0, hnf, hfi, hm_find, hg_find⟩ := hAll
    exfalso; omega
  | succ n ih_find =>
    obtain ⟨hP, hD, hS, hl, hr0, hnf, hfi, hm_find, hg_find⟩ := hAll
    rw [gl_find] at hg_find
    refine lv_iload hx hb d_M_find_8 (lv_at hl 0 rfl) ?_
    refine lv_aload_n hx hb d_M_find_10 rfl (lv_at hl 1 rfl) ?_
    refine va_get (D := (dC, dI)) (ci := 5) (v := .int v_n) (C := "LoanRulesModel") (T := Fz_M) (N := 22) hx hb hts it_M hown hK hP 0 rfl rfl 8 (by decide) (hts _ tw_609) (fun _ h9 => h9) rfl d_M_find_11 ?_
    refine lv_icmp_ge (tgt := 123) hx hb d_M_find_14 (by decide) (fun c_2 => ?_) (fun c_2 => ?_)
    · rw [if_pos c_2] at hg_find
      subst hg_find
      dsimp only at hE
      have hP9 := hP.sub (ws' := [(a_m, .inr (5, [.int v_th, .ref a_sa, .int v_sz, .int v_at, .int v_wr, .ref a_ru, .ref a_me, .ref a_le, .int v_n, .ref a_cl, .ref a_te, .ref a_ki, .ref a_ty, .ref a_bl, .ref a_ex, .ref a_lo, .int v_nl, .ref a_ho, .ref a_fi, .int nf, .ref a_cz, .int v_nc])), (a_ru, .inl (k_ru, 410, .inl f_ru)), (a_ki, .inl (k_ki, 50, .inl f_ki)), (a_ty, .inl (k_ty, 50, .inl f_ty)), (a_ex, .inl (k_ex, 2000, .inl f_ex)), (a_fi, .inl (k_fi, 40, .inl fi))]) [0, 1, 2, 3, 4, 5] rfl
      have hD9 := hD.sub (ws' := [(a_m, .inr (5, [.int v_th, .ref a_sa, .int v_sz, .int v_at, .int v_wr, .ref a_ru, .ref a_me, .ref a_le, .int v_n, .ref a_cl, .ref a_te, .ref a_ki, .ref a_ty, .ref a_bl, .ref a_ex, .ref a_lo, .int v_nl, .ref a_ho, .ref a_fi, .int nf, .ref a_cz, .int v_nc])), (a_ru, .inl (k_ru, 410, .inl f_ru)), (a_ki, .inl (k_ki, 50, .inl f_ki)), (a_ty, .inl (k_ty, 50, .inl f_ty)), (a_ex, .inl (k_ex, 2000, .inl f_ex)), (a_fi, .inl (k_fi, 40, .inl fi))]) [0, 1, 2, 3, 4, 5] (by decide) rfl
      have hK9 := hK.sub (tys' := [(k_ru, .int), (k_ki, .int), (k_ty, .int), (k_ex, .int), (k_fi, .int)]) [0, 1, 2, 3, 4] rfl
      exact W.vret hx hb hr (fun t ht hW => ⟨⟨(), rfl, trivial, by rw [ht, ← hz, hE]; exact hP9, va_K.moved hW.alike hK9, by rw [← hz, hE]; exact hD9⟩, hS.F ht⟩) hS.2.2 d_M_find_123
    · rw [if_neg c_2] at hg_find
      refine lv_aload_n hx hb d_M_find_17 rfl (lv_at hl 1 rfl) ?_
      refine lv_iload hx hb d_M_find_18 (lv_at hl 0 rfl) ?_
      refine lv_iload_n hx hb d_M_find_20 rfl (lv_at hl 2 rfl) ?_
      refine lv_iload_n hx hb d_M_find_21 rfl (lv_at hl 3 rfl) ?_
      refine lv_iload_n hx hb d_M_find_22 rfl (lv_at hl 4 rfl) ?_
      have hPc := hP.sub (ws' := [(a_m, .inr (5, [.int v_th, .ref a_sa, .int v_sz, .int v_at, .int v_wr, .ref a_ru, .ref a_me, .ref a_le, .int v_n, .ref a_cl, .ref a_te, .ref a_ki, .ref a_ty, .ref a_bl, .ref a_ex, .ref a_lo, .int v_nl, .ref a_ho, .ref a_fi, .int nf, .ref a_cz, .int v_nc])), (a_ru, .inl (k_ru, 410, .inl f_ru)), (a_ki, .inl (k_ki, 50, .inl f_ki)), (a_ty, .inl (k_ty, 50, .inl f_ty)), (a_ex, .inl (k_ex, 2000, .inl f_ex))]) [0, 1, 2, 3, 4] rfl
      have hKc := hK.sub (tys' := [(k_ru, .int), (k_ki, .int), (k_ty, .int), (k_ex, .int)]) [0, 1, 2, 3] rfl
      refine vp_callSi (va_Run.run (va_runV (As := [.int r, .int p0, .int p1, .int p2]) (rest := []) ⟨hx, hb, hml, hown, hts⟩ (c_Mg_fitsFor l dC dI adK adV (a_m := a_m) (p0 := r) (p1 := p0) (p2 := p1) (p3 := p2) (v_th := v_th) (a_sa := a_sa) (v_sz := v_sz) (v_at := v_at) (v_wr := v_wr) (a_ru := a_ru) (a_me := a_me) (a_le := a_le) (v_n := v_n) (a_cl := a_cl) (a_te := a_te) (a_ki := a_ki) (a_ty := a_ty) (a_bl := a_bl) (a_ex := a_ex) (a_lo := a_lo) (v_nl := v_nl) (a_ho := a_ho) (a_fi := a_fi) (v_nf := nf) (a_cz := a_cz) (v_nc := v_nc) (k_ru := k_ru) (f_ru := f_ru) (k_ki := k_ki) (f_ki := f_ki) (k_ty := k_ty) (f_ty := f_ty) (k_ex := k_ex) (f_ex := f_ex) (li_ltn0 hr0 c_2 hn.2) hp0 hp1) (cwV 4 hts (gV tw_774 tw_776 tw_36 tw_46 tw_777) rfl rfl rfl (by decide +kernel) ⟨(Nat.le_of_ble_eq_true rfl), (Nat.le_of_ble_eq_true rfl)⟩) ⟨fun a U g mk q => by obtain ⟨q0, qZ, qP, qK⟩ := q; exact ⟨q0, zz_call qZ, qP, va_K.moved (u := U) (U := U.calling g mk a) (Vm.Alike.refl U.vm) qK⟩, va_recv hKc hPc (ci := 5) (q0 := 0) rfl rfl, fun U hU hW => ⟨rfl, zz_ro hS hU hW hZ, by rw [hU]; exact hPc, va_K.moved hW.alike hKc⟩⟩ rfl rfl hl.1 rfl (lv_room (Nat.le_of_ble_eq_true rfl)) d_M_find_23 ⟨(Nat.le_of_ble_eq_true rfl), (Nat.le_of_ble_eq_true rfl)⟩)) (fun r_3 hw_4 => ?_)
      clear hPc hKc
      subst hw_4
      refine lv_if_eq (tgt := 117) hx hb d_M_find_26 (by decide) (fun c_5 => ?_) (fun c_5 => ?_)
      · rw [if_pos c_5] at hg_find
        refine lv_iinc (v := r + 1) (lv' := [(4, .int (r + 1)), (0, .ref a_m), (1, .int p0), (2, .int p1), (3, .int p2)]) hx hb d_M_find_117 hl (k := 0) rfl rfl (by decide) rfl (fun ls hl => ?_)
        refine lv_goto (tgt := 8) hx hb d_M_find_120 (by decide) ?_
        exact ih_find _ _ _ _ _ _ ⟨hP, hD, hS, lv_sub hl [0, 1, 2, 3, 4] rfl, (li_s40 hr0 (li_ltn0 hr0 c_2 hn.2)), (nf_a hnf (li_ltn0 hr0 c_2 hn.2)), (hfi), (li_m40 hr0 (li_ltn0 hr0 c_2 hn.2) hm_find), hg_find⟩
      · rw [if_neg c_5] at hg_find
        refine lv_aload_n hx hb d_M_find_29 rfl (lv_at hl 1 rfl) ?_
        refine va_get (D := (dC, dI)) (ci := 5) (v := .int nf) (C := "LoanRulesModel") (T := Fz_M) (N := 22) hx hb hts it_M hown hK hP 0 rfl rfl 19 (by decide) (hts _ tw_620) (fun _ h9 => h9) rfl d_M_find_30 ?_
        refine lv_istore (lv' := [(5, .int nf), (4, .int r), (0, .ref a_m), (1, .int p0), (2, .int p1), (3, .int p2)]) hx hb d_M_find_33 hl (by decide) rfl (fun ls hl => ?_)
        generalize hg_x_6 : gl_ins 41 f_ru r nf fi = x_6 at hg_find
        rw [bv_eq] at hg_find
        obtain ⟨k, e_k⟩ : ∃ q9 : Int32, q9 = nf := ⟨_, rfl⟩
        obtain ⟨fj, e_fj⟩ : ∃ q9 : Nat → Int32, q9 = fi := ⟨_, rfl⟩
        obtain ⟨n, e_n⟩ : ∃ q9 : Nat, q9 = 41 := ⟨_, rfl⟩
        have hAll : va_P (dC, dI) vwCl [(a_m, .inr (5, [.int v_th, .ref a_sa, .int v_sz, .int v_at, .int v_wr, .ref a_ru, .ref a_me, .ref a_le, .int v_n, .ref a_cl, .ref a_te, .ref a_ki, .ref a_ty, .ref a_bl, .ref a_ex, .ref a_lo, .int v_nl, .ref a_ho, .ref a_fi, .int nf, .ref a_cz, .int v_nc])), (a_ru, .inl (k_ru, 410, .inl f_ru)), (a_ki, .inl (k_ki, 50, .inl f_ki)), (a_ty, .inl (k_ty, 50, .inl f_ty)), (a_ex, .inl (k_ex, 2000, .inl f_ex)), (a_fi, .inl (k_fi, 40, .inl fj))] H ∧ va_D A [(a_m, .inr (5, [.int v_th, .ref a_sa, .int v_sz, .int v_at, .int v_wr, .ref a_ru, .ref a_me, .ref a_le, .int v_n, .ref a_cl, .ref a_te, .ref a_ki, .ref a_ty, .ref a_bl, .ref a_ex, .ref a_lo, .int v_nl, .ref a_ho, .ref a_fi, .int nf, .ref a_cz, .int v_nc])), (a_ru, .inl (k_ru, 410, .inl f_ru)), (a_ki, .inl (k_ki, 50, .inl f_ki)), (a_ty, .inl (k_ty, 50, .inl f_ty)), (a_ex, .inl (k_ex, 2000, .inl f_ex)), (a_fi, .inl (k_fi, 40, .inl fj))] ∧ va_S A s.heap H locs ∧ lv_has ls 6 [(5, .int k), (4, .int r), (0, .ref a_m), (1, .int p0), (2, .int p1), (3, .int p2)] ∧ (0 ≤ k.toInt ∧ k.toInt ≤ nf.toInt) ∧ (∀ j : Nat, (j : Int) ≤ nf.toInt → (j : Int) ≠ k.toInt → v40 (fj j)) ∧ k.toInt.toNat + 1 ≤ n ∧ gl_ins n f_ru r k fj = x_6 := by
          subst e_k e_fj e_n
          exact ⟨hP, hD, hS, hl, ⟨hnf.1, Int.le_refl _⟩, fun j h1 h2 => hfi j (by omega), by have := (nf_lt hnf (li_ltn0 hr0 c_2 hn.2)); omega, hg_x_6⟩
        clear hP hl hD hS e_k e_fj e_n hg_x_6
        induction n generalizing k fj H locs ls with
        | zero =>
          obtain ⟨hP, hD, hS, hl, hk, hfj, hm_ins, hg_ins⟩ := hAll
          exfalso; omega
        | succ n ih_ins =>
          obtain ⟨hP, hD, hS, hl, hk, hfj, hm_ins, hg_ins⟩ := hAll
          rw [gl_ins] at hg_ins
          refine lv_iload hx hb d_M_find_35 (lv_at hl 0 rfl) ?_
          refine lv_if_le (tgt := 98) hx hb d_M_find_37 (by decide) (fun c_7 => ?_) (fun c_7 => ?_)
          · rw [if_pos c_7] at hg_ins
            subst hg_ins
            dsimp only at hg_find
            refine lv_aload_n hx hb d_M_find_98 rfl (lv_at hl 2 rfl) ?_
            refine va_get (D := (dC, dI)) (ci := 5) (v := .ref a_fi) (C := "LoanRulesModel") (T := Fz_M) (N := 22) hx hb hts it_M hown hK hP 0 rfl rfl 18 (by decide) (hts _ tw_619) (fun _ h9 => h9) rfl d_M_find_99 ?_
            refine lv_iload hx hb d_M_find_102 (lv_at hl 0 rfl) ?_
            refine lv_iload hx hb d_M_find_104 (lv_at hl 1 rfl) ?_
            have i_8 : vp_in k 40 := k_in hk (nf_lt hnf (li_ltn0 hr0 c_2 hn.2))
            refine va_iast (D := (dC, dI)) hx hb hK hP hD hS 5 4 rfl rfl i_8 d_M_find_106 (fun H locs hP hD hS => ?_)
            replace hP : va_P (dC, dI) vwCl [(a_m, .inr (5, [.int v_th, .ref a_sa, .int v_sz, .int v_at, .int v_wr, .ref a_ru, .ref a_me, .ref a_le, .int v_n, .ref a_cl, .ref a_te, .ref a_ki, .ref a_ty, .ref a_bl, .ref a_ex, .ref a_lo, .int v_nl, .ref a_ho, .ref a_fi, .int nf, .ref a_cz, .int v_nc])), (a_ru, .inl (k_ru, 410, .inl f_ru)), (a_ki, .inl (k_ki, 50, .inl f_ki)), (a_ty, .inl (k_ty, 50, .inl f_ty)), (a_ex, .inl (k_ex, 2000, .inl f_ex)), (a_fi, .inl (k_fi, 40, .inl (upd fj k.toNatClampNeg r)))] H := hP
            replace hD : va_D A [(a_m, .inr (5, [.int v_th, .ref a_sa, .int v_sz, .int v_at, .int v_wr, .ref a_ru, .ref a_me, .ref a_le, .int v_n, .ref a_cl, .ref a_te, .ref a_ki, .ref a_ty, .ref a_bl, .ref a_ex, .ref a_lo, .int v_nl, .ref a_ho, .ref a_fi, .int nf, .ref a_cz, .int v_nc])), (a_ru, .inl (k_ru, 410, .inl f_ru)), (a_ki, .inl (k_ki, 50, .inl f_ki)), (a_ty, .inl (k_ty, 50, .inl f_ty)), (a_ex, .inl (k_ex, 2000, .inl f_ex)), (a_fi, .inl (k_fi, 40, .inl (upd fj k.toNatClampNeg r)))] := hD
            refine lv_aload_n hx hb d_M_find_107 rfl (lv_at hl 2 rfl) ?_
            refine lv_dup hx hb d_M_find_108 rfl ?_
            refine va_get (D := (dC, dI)) (ci := 5) (v := .int nf) (C := "LoanRulesModel") (T := Fz_M) (N := 22) hx hb hts it_M hown hK hP 0 rfl rfl 19 (by decide) (hts _ tw_620) (fun _ h9 => h9) rfl d_M_find_109 ?_
            refine lv_iconst (v := 1) hx hb d_M_find_112 (by decide) ?_
            refine lv_iadd hx hb d_M_find_113 ?_
            refine va_put (D := (dC, dI)) (ci := 5) (v := .int (nf + 1)) (ty := .int) (C := "LoanRulesModel") (T := Fz_M) (N := 22) hx hb hts it_M tz_M tz_M_ok nz_M hown hK hP hD hS 0 rfl rfl 19 (by decide) (hts _ tw_620) (fun _ h9 => h9) rfl (by decide +kernel) rfl rfl (Nat.le_of_ble_eq_true rfl) d_M_find_114 (fun H locs hP hD hS => ?_)
            replace hP : va_P (dC, dI) vwCl [(a_m, .inr (5, [.int v_th, .ref a_sa, .int v_sz, .int v_at, .int v_wr, .ref a_ru, .ref a_me, .ref a_le, .int v_n, .ref a_cl, .ref a_te, .ref a_ki, .ref a_ty, .ref a_bl, .ref a_ex, .ref a_lo, .int v_nl, .ref a_ho, .ref a_fi, .int (nf + 1), .ref a_cz, .int v_nc])), (a_ru, .inl (k_ru, 410, .inl f_ru)), (a_ki, .inl (k_ki, 50, .inl f_ki)), (a_ty, .inl (k_ty, 50, .inl f_ty)), (a_ex, .inl (k_ex, 2000, .inl f_ex)), (a_fi, .inl (k_fi, 40, .inl (upd fj k.toNatClampNeg r)))] H := hP
            replace hD : va_D A [(a_m, .inr (5, [.int v_th, .ref a_sa, .int v_sz, .int v_at, .int v_wr, .ref a_ru, .ref a_me, .ref a_le, .int v_n, .ref a_cl, .ref a_te, .ref a_ki, .ref a_ty, .ref a_bl, .ref a_ex, .ref a_lo, .int v_nl, .ref a_ho, .ref a_fi, .int (nf + 1), .ref a_cz, .int v_nc])), (a_ru, .inl (k_ru, 410, .inl f_ru)), (a_ki, .inl (k_ki, 50, .inl f_ki)), (a_ty, .inl (k_ty, 50, .inl f_ty)), (a_ex, .inl (k_ex, 2000, .inl f_ex)), (a_fi, .inl (k_fi, 40, .inl (upd fj k.toNatClampNeg r)))] := hD
            refine lv_iinc (v := r + 1) (lv' := [(4, .int (r + 1)), (5, .int k), (0, .ref a_m), (1, .int p0), (2, .int p1), (3, .int p2)]) hx hb d_M_find_117 hl (k := 1) rfl rfl (by decide) rfl (fun ls hl => ?_)
            refine lv_goto (tgt := 8) hx hb d_M_find_120 (by decide) ?_
            exact ih_find _ _ _ _ _ _ ⟨hP, hD, hS, lv_sub hl [0, 2, 3, 4, 5] rfl, (li_s40 hr0 (li_ltn0 hr0 c_2 hn.2)), ((fun _ => nf_b hnf (li_ltn0 hr0 c_2 hn.2)) c_7), ((fun _ => fi_b hk (nf_lt hnf (li_ltn0 hr0 c_2 hn.2)) (li_ltn0 hr0 c_2 hn.2) hfj) c_7), (li_m40 hr0 (li_ltn0 hr0 c_2 hn.2) hm_find), hg_find⟩
          · rw [if_neg c_7] at hg_ins
            refine lv_aload_n hx hb d_M_find_40 rfl (lv_at hl 2 rfl) ?_
            refine va_get (D := (dC, dI)) (ci := 5) (v := .ref a_ru) (C := "LoanRulesModel") (T := Fz_M) (N := 22) hx hb hts it_M hown hK hP 0 rfl rfl 5 (by decide) (hts _ tw_606) (fun _ h9 => h9) rfl d_M_find_41 ?_
            refine lv_bipush (v := 10) hx hb d_M_find_44 (by decide) ?_
            refine lv_aload_n hx hb d_M_find_46 rfl (lv_at hl 2 rfl) ?_
            refine va_get (D := (dC, dI)) (ci := 5) (v := .ref a_fi) (C := "LoanRulesModel") (T := Fz_M) (N := 22) hx hb hts it_M hown hK hP 0 rfl rfl 18 (by decide) (hts _ tw_619) (fun _ h9 => h9) rfl d_M_find_47 ?_
            refine lv_iload hx hb d_M_find_50 (lv_at hl 0 rfl) ?_
            refine lv_iconst (v := 1) hx hb d_M_find_52 (by decide) ?_
            refine lv_isub hx hb d_M_find_53 ?_
            have i_9 : vp_in (k - 1) 40 := in40 (fj_k1 hk (nf_lt hnf (li_ltn0 hr0 c_2 hn.2)) c_7)
            refine va_iald (D := (dC, dI)) hx hb hK hP 5 4 rfl rfl i_9 d_M_find_54 ?_
            refine lv_imul hx hb d_M_find_55 ?_
            refine lv_bipush (v := 8) hx hb d_M_find_56 (by decide) ?_
            refine lv_iadd hx hb d_M_find_58 ?_
            have i_10 : vp_in ((10 * (fj (k - 1).toNatClampNeg)) + 8) 410 := ix10 (r40 (fj_v hk (nf_lt hnf (li_ltn0 hr0 c_2 hn.2)) hfj c_7)) (by decide)
            refine va_iald (D := (dC, dI)) hx hb hK hP 1 0 rfl rfl i_10 d_M_find_59 ?_
            refine lv_aload_n hx hb d_M_find_60 rfl (lv_at hl 2 rfl) ?_
            refine va_get (D := (dC, dI)) (ci := 5) (v := .ref a_ru) (C := "LoanRulesModel") (T := Fz_M) (N := 22) hx hb hts it_M hown hK hP 0 rfl rfl 5 (by decide) (hts _ tw_606) (fun _ h9 => h9) rfl d_M_find_61 ?_
            refine lv_bipush (v := 10) hx hb d_M_find_64 (by decide) ?_
            refine lv_iload hx hb d_M_find_66 (lv_at hl 1 rfl) ?_
            refine lv_imul hx hb d_M_find_68 ?_
            refine lv_bipush (v := 8) hx hb d_M_find_69 (by decide) ?_
            refine lv_iadd hx hb d_M_find_71 ?_
            have i_11 : vp_in ((10 * r) + 8) 410 := ix10 (r40 (li_ltn0 hr0 c_2 hn.2)) (by decide)
            refine va_iald (D := (dC, dI)) hx hb hK hP 1 0 rfl rfl i_11 d_M_find_72 ?_
            refine lv_icmp_ge (tgt := 98) hx hb d_M_find_73 (by decide) (fun c_12 => ?_) (fun c_12 => ?_)
            · rw [if_pos c_12] at hg_ins
              subst hg_ins
              dsimp only at hg_find
              refine lv_aload_n hx hb d_M_find_98 rfl (lv_at hl 2 rfl) ?_
              refine va_get (D := (dC, dI)) (ci := 5) (v := .ref a_fi) (C := "LoanRulesModel") (T := Fz_M) (N := 22) hx hb hts it_M hown hK hP 0 rfl rfl 18 (by decide) (hts _ tw_619) (fun _ h9 => h9) rfl d_M_find_99 ?_
              refine lv_iload hx hb d_M_find_102 (lv_at hl 0 rfl) ?_
              refine lv_iload hx hb d_M_find_104 (lv_at hl 1 rfl) ?_
              have i_13 : vp_in k 40 := k_in hk (nf_lt hnf (li_ltn0 hr0 c_2 hn.2))
              refine va_iast (D := (dC, dI)) hx hb hK hP hD hS 5 4 rfl rfl i_13 d_M_find_106 (fun H locs hP hD hS => ?_)
              replace hP : va_P (dC, dI) vwCl [(a_m, .inr (5, [.int v_th, .ref a_sa, .int v_sz, .int v_at, .int v_wr, .ref a_ru, .ref a_me, .ref a_le, .int v_n, .ref a_cl, .ref a_te, .ref a_ki, .ref a_ty, .ref a_bl, .ref a_ex, .ref a_lo, .int v_nl, .ref a_ho, .ref a_fi, .int nf, .ref a_cz, .int v_nc])), (a_ru, .inl (k_ru, 410, .inl f_ru)), (a_ki, .inl (k_ki, 50, .inl f_ki)), (a_ty, .inl (k_ty, 50, .inl f_ty)), (a_ex, .inl (k_ex, 2000, .inl f_ex)), (a_fi, .inl (k_fi, 40, .inl (upd fj k.toNatClampNeg r)))] H := hP
              replace hD : va_D A [(a_m, .inr (5, [.int v_th, .ref a_sa, .int v_sz, .int v_at, .int v_wr, .ref a_ru, .ref a_me, .ref a_le, .int v_n, .ref a_cl, .ref a_te, .ref a_ki, .ref a_ty, .ref a_bl, .ref a_ex, .ref a_lo, .int v_nl, .ref a_ho, .ref a_fi, .int nf, .ref a_cz, .int v_nc])), (a_ru, .inl (k_ru, 410, .inl f_ru)), (a_ki, .inl (k_ki, 50, .inl f_ki)), (a_ty, .inl (k_ty, 50, .inl f_ty)), (a_ex, .inl (k_ex, 2000, .inl f_ex)), (a_fi, .inl (k_fi, 40, .inl (upd fj k.toNatClampNeg r)))] := hD
              refine lv_aload_n hx hb d_M_find_107 rfl (lv_at hl 2 rfl) ?_
              refine lv_dup hx hb d_M_find_108 rfl ?_
              refine va_get (D := (dC, dI)) (ci := 5) (v := .int nf) (C := "LoanRulesModel") (T := Fz_M) (N := 22) hx hb hts it_M hown hK hP 0 rfl rfl 19 (by decide) (hts _ tw_620) (fun _ h9 => h9) rfl d_M_find_109 ?_
              refine lv_iconst (v := 1) hx hb d_M_find_112 (by decide) ?_
              refine lv_iadd hx hb d_M_find_113 ?_
              refine va_put (D := (dC, dI)) (ci := 5) (v := .int (nf + 1)) (ty := .int) (C := "LoanRulesModel") (T := Fz_M) (N := 22) hx hb hts it_M tz_M tz_M_ok nz_M hown hK hP hD hS 0 rfl rfl 19 (by decide) (hts _ tw_620) (fun _ h9 => h9) rfl (by decide +kernel) rfl rfl (Nat.le_of_ble_eq_true rfl) d_M_find_114 (fun H locs hP hD hS => ?_)
              replace hP : va_P (dC, dI) vwCl [(a_m, .inr (5, [.int v_th, .ref a_sa, .int v_sz, .int v_at, .int v_wr, .ref a_ru, .ref a_me, .ref a_le, .int v_n, .ref a_cl, .ref a_te, .ref a_ki, .ref a_ty, .ref a_bl, .ref a_ex, .ref a_lo, .int v_nl, .ref a_ho, .ref a_fi, .int (nf + 1), .ref a_cz, .int v_nc])), (a_ru, .inl (k_ru, 410, .inl f_ru)), (a_ki, .inl (k_ki, 50, .inl f_ki)), (a_ty, .inl (k_ty, 50, .inl f_ty)), (a_ex, .inl (k_ex, 2000, .inl f_ex)), (a_fi, .inl (k_fi, 40, .inl (upd fj k.toNatClampNeg r)))] H := hP
              replace hD : va_D A [(a_m, .inr (5, [.int v_th, .ref a_sa, .int v_sz, .int v_at, .int v_wr, .ref a_ru, .ref a_me, .ref a_le, .int v_n, .ref a_cl, .ref a_te, .ref a_ki, .ref a_ty, .ref a_bl, .ref a_ex, .ref a_lo, .int v_nl, .ref a_ho, .ref a_fi, .int (nf + 1), .ref a_cz, .int v_nc])), (a_ru, .inl (k_ru, 410, .inl f_ru)), (a_ki, .inl (k_ki, 50, .inl f_ki)), (a_ty, .inl (k_ty, 50, .inl f_ty)), (a_ex, .inl (k_ex, 2000, .inl f_ex)), (a_fi, .inl (k_fi, 40, .inl (upd fj k.toNatClampNeg r)))] := hD
              refine lv_iinc (v := r + 1) (lv' := [(4, .int (r + 1)), (5, .int k), (0, .ref a_m), (1, .int p0), (2, .int p1), (3, .int p2)]) hx hb d_M_find_117 hl (k := 1) rfl rfl (by decide) rfl (fun ls hl => ?_)
              refine lv_goto (tgt := 8) hx hb d_M_find_120 (by decide) ?_
              exact ih_find _ _ _ _ _ _ ⟨hP, hD, hS, lv_sub hl [0, 2, 3, 4, 5] rfl, (li_s40 hr0 (li_ltn0 hr0 c_2 hn.2)), ((fun _ => nf_b hnf (li_ltn0 hr0 c_2 hn.2)) c_7), ((fun _ => fi_b hk (nf_lt hnf (li_ltn0 hr0 c_2 hn.2)) (li_ltn0 hr0 c_2 hn.2) hfj) c_7), (li_m40 hr0 (li_ltn0 hr0 c_2 hn.2) hm_find), hg_find⟩
            · rw [if_neg c_12] at hg_ins
              refine lv_aload_n hx hb d_M_find_76 rfl (lv_at hl 2 rfl) ?_
              refine va_get (D := (dC, dI)) (ci := 5) (v := .ref a_fi) (C := "LoanRulesModel") (T := Fz_M) (N := 22) hx hb hts it_M hown hK hP 0 rfl rfl 18 (by decide) (hts _ tw_619) (fun _ h9 => h9) rfl d_M_find_77 ?_
              refine lv_iload hx hb d_M_find_80 (lv_at hl 0 rfl) ?_
              refine lv_aload_n hx hb d_M_find_82 rfl (lv_at hl 2 rfl) ?_
              refine va_get (D := (dC, dI)) (ci := 5) (v := .ref a_fi) (C := "LoanRulesModel") (T := Fz_M) (N := 22) hx hb hts it_M hown hK hP 0 rfl rfl 18 (by decide) (hts _ tw_619) (fun _ h9 => h9) rfl d_M_find_83 ?_
              refine lv_iload hx hb d_M_find_86 (lv_at hl 0 rfl) ?_
              refine lv_iconst (v := 1) hx hb d_M_find_88 (by decide) ?_
              refine lv_isub hx hb d_M_find_89 ?_
              have i_14 : vp_in (k - 1) 40 := in40 (fj_k1 hk (nf_lt hnf (li_ltn0 hr0 c_2 hn.2)) c_7)
              refine va_iald (D := (dC, dI)) hx hb hK hP 5 4 rfl rfl i_14 d_M_find_90 ?_
              have i_15 : vp_in k 40 := k_in hk (nf_lt hnf (li_ltn0 hr0 c_2 hn.2))
              refine va_iast (D := (dC, dI)) hx hb hK hP hD hS 5 4 rfl rfl i_15 d_M_find_91 (fun H locs hP hD hS => ?_)
              replace hP : va_P (dC, dI) vwCl [(a_m, .inr (5, [.int v_th, .ref a_sa, .int v_sz, .int v_at, .int v_wr, .ref a_ru, .ref a_me, .ref a_le, .int v_n, .ref a_cl, .ref a_te, .ref a_ki, .ref a_ty, .ref a_bl, .ref a_ex, .ref a_lo, .int v_nl, .ref a_ho, .ref a_fi, .int nf, .ref a_cz, .int v_nc])), (a_ru, .inl (k_ru, 410, .inl f_ru)), (a_ki, .inl (k_ki, 50, .inl f_ki)), (a_ty, .inl (k_ty, 50, .inl f_ty)), (a_ex, .inl (k_ex, 2000, .inl f_ex)), (a_fi, .inl (k_fi, 40, .inl (upd fj k.toNatClampNeg (fj (k - 1).toNatClampNeg))))] H := hP
              replace hD : va_D A [(a_m, .inr (5, [.int v_th, .ref a_sa, .int v_sz, .int v_at, .int v_wr, .ref a_ru, .ref a_me, .ref a_le, .int v_n, .ref a_cl, .ref a_te, .ref a_ki, .ref a_ty, .ref a_bl, .ref a_ex, .ref a_lo, .int v_nl, .ref a_ho, .ref a_fi, .int nf, .ref a_cz, .int v_nc])), (a_ru, .inl (k_ru, 410, .inl f_ru)), (a_ki, .inl (k_ki, 50, .inl f_ki)), (a_ty, .inl (k_ty, 50, .inl f_ty)), (a_ex, .inl (k_ex, 2000, .inl f_ex)), (a_fi, .inl (k_fi, 40, .inl (upd fj k.toNatClampNeg (fj (k - 1).toNatClampNeg))))] := hD
              refine lv_iinc (v := k + (-1)) (lv' := [(5, .int (k + (-1))), (4, .int r), (0, .ref a_m), (1, .int p0), (2, .int p1), (3, .int p2)]) hx hb d_M_find_92 hl (k := 0) rfl rfl (by decide) rfl (fun ls hl => ?_)
              refine lv_goto (tgt := 35) hx hb d_M_find_95 (by decide) ?_
              exact ih_ins _ _ _ _ _ ⟨hP, hD, hS, lv_sub hl [0, 1, 2, 3, 4, 5] rfl, (fj_k hk (nf_lt hnf (li_ltn0 hr0 c_2 hn.2)) c_7), (fj_s hk (nf_lt hnf (li_ltn0 hr0 c_2 hn.2)) hfj c_7), (fj_m hk (nf_lt hnf (li_ltn0 hr0 c_2 hn.2)) c_7 hm_ins), hg_ins⟩
