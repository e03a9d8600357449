def g_Cg_block (p0 : Int32) (p1 : Int32) (f_cca : Nat → Int32) : Int32 × (Nat → Int32) :=
  if (g_Cg_isPerson p0) = 0 then
    ((-1), f_cca)
  else
    if p1 < 0 then
      ((-1), f_cca)
    else
      if p1 ≤ 9 then
        (f_cca p0.toNatClampNeg, upd f_cca p0.toNatClampNeg p1)
      else
        ((-1), f_cca)
set_option maxHeartbeats 4000000 in
set_option maxRecDepth 100000 in
theorem c_Cg_block (l : Launch) (dC : Nat → ClassId) (dI : Nat → Nat → Nat) (adK adV : Nat → Nat) (a_h : Nat) (a_cca : Nat) (k_cca : ClassId) (p0 : Int32) (p1 : Int32) (a_tx : Nat) (a_cru : Nat) (w_nr : Int32) (a_cd : Nat) (a_td : Nat) (a_cki : Nat) (a_cty : Nat) (a_cio : Nat) (a_cex : Nat) (a_clo : Nat) (w_nl : Int32) (a_cfi : Nat) (w_nf : Int32) (a_ccl : Nat) (w_nc : Int32) (f_cca : Nat → Int32) (sz : Nat) : Met l y_C_block ws_C_block ({ frames := 1, cells := 0, slots := 0, locals := 20 }) (va_Pc [.ref a_h, .int p0, .int p1] (fun U => U.heap.size = sz ∧ zz adK adV (va_A [(a_h, .inr (0, [.ref a_tx, .ref a_cru, .int w_nr, .ref a_cd, .ref a_td, .ref a_cki, .ref a_cca, .ref a_cty, .ref a_cio, .ref a_cex, .ref a_clo, .int w_nl, .ref a_cfi, .int w_nf, .ref a_ccl, .int w_nc])), (a_cca, .inl (k_cca, 50, .inl f_cca))] sz) U ∧ va_P (dC, dI) vwCl [(a_h, .inr (0, [.ref a_tx, .ref a_cru, .int w_nr, .ref a_cd, .ref a_td, .ref a_cki, .ref a_cca, .ref a_cty, .ref a_cio, .ref a_cex, .ref a_clo, .int w_nl, .ref a_cfi, .int w_nf, .ref a_ccl, .int w_nc])), (a_cca, .inl (k_cca, 50, .inl f_cca))] U.heap ∧ va_K (dC, dI) vwCl [(k_cca, .int)] U ∧ va_D (fun _ => True) [(a_h, .inr (0, [.ref a_tx, .ref a_cru, .int w_nr, .ref a_cd, .ref a_td, .ref a_cki, .ref a_cca, .ref a_cty, .ref a_cio, .ref a_cex, .ref a_clo, .int w_nl, .ref a_cfi, .int w_nf, .ref a_ccl, .int w_nc])), (a_cca, .inl (k_cca, 50, .inl f_cca))])) (va_Qi (fun (r : Int32) (_ : Unit) => r = (g_Cg_block p0 p1 f_cca).1) (fun (_ : Unit) (t : State) => va_P (dC, dI) vwCl [(a_h, .inr (0, [.ref a_tx, .ref a_cru, .int w_nr, .ref a_cd, .ref a_td, .ref a_cki, .ref a_cca, .ref a_cty, .ref a_cio, .ref a_cex, .ref a_clo, .int w_nl, .ref a_cfi, .int w_nf, .ref a_ccl, .int w_nc])), (a_cca, .inl (k_cca, 50, .inl ((g_Cg_block p0 p1 f_cca).2)))] t.heap ∧ va_K (dC, dI) vwCl [(k_cca, .int)] t ∧ va_D (va_A [(a_h, .inr (0, [.ref a_tx, .ref a_cru, .int w_nr, .ref a_cd, .ref a_td, .ref a_cki, .ref a_cca, .ref a_cty, .ref a_cio, .ref a_cex, .ref a_clo, .int w_nl, .ref a_cfi, .int w_nf, .ref a_ccl, .int w_nc])), (a_cca, .inl (k_cca, 50, .inl f_cca))] sz) [(a_h, .inr (0, [.ref a_tx, .ref a_cru, .int w_nr, .ref a_cd, .ref a_td, .ref a_cki, .ref a_cca, .ref a_cty, .ref a_cio, .ref a_cex, .ref a_clo, .int w_nl, .ref a_cfi, .int w_nf, .ref a_ccl, .int w_nc])), (a_cca, .inl (k_cca, 50, .inl ((g_Cg_block p0 p1 f_cca).2)))]) (va_A [(a_h, .inr (0, [.ref a_tx, .ref a_cru, .int w_nr, .ref a_cd, .ref a_td, .ref a_cki, .ref a_cca, .ref a_cty, .ref a_cio, .ref a_cex, .ref a_clo, .int w_nl, .ref a_cfi, .int w_nf, .ref a_ccl, .int w_nc])), (a_cca, .inl (k_cca, 50, .inl f_cca))] sz)) 0 0 (va_A [(a_h, .inr (0, [.ref a_tx, .ref a_cru, .int w_nr, .ref a_cd, .ref a_td, .ref a_cki, .ref a_cca, .ref a_cty, .ref a_cio, .ref a_cex, .ref a_clo, .int w_nl, .ref a_cfi, .int w_nf, .ref a_ccl, .int w_nc])), (a_cca, .inl (k_cca, 50, .inl f_cca))] sz) := by
  refine Met.ofW (cc := c_C_block) (maxL := 4) (ret := (some .int)) (by decide) rfl ?_
  intro p e s m args below meth c s₁ B hml hv
  obtain ⟨rfl, hsz, hZ, hP, hK, hD0⟩ := hv
  have hx := B.exec
  have hb := B.bytes
  have hr := B.returns
  have hts0 := atoms_spec (ws := ws_C_block) B.pre
  have hts : ∀ w ∈ TT, w.before _ s = true := fun w h => hts0 w (List.mem_cons_of_mem _ h)
  have hown : s.vm.findClass "LoanRules" = some m.cls := findClass_of_methodNamed B.named
  have hlocks := B.notSynchronized
  subst hsz
  have hD := hD0.self (sz := s.heap.size)
  generalize hAe : va_A [(a_h, .inr (0, [.ref a_tx, .ref a_cru, .int w_nr, .ref a_cd, .ref a_td, .ref a_cki, .ref a_cca, .ref a_cty, .ref a_cio, .ref a_cex, .ref a_clo, .int w_nl, .ref a_cfi, .int w_nf, .ref a_ccl, .int w_nc])), (a_cca, .inl (k_cca, 50, .inl f_cca))] s.heap.size = A at hD hZ ⊢
  have hA : ∀ q : Nat, s.heap.size ≤ q → A q := fun q h => by rw [← hAe]; exact Or.inr h
  clear hAe hD0
  have hS : va_S A s.heap s.heap [] := va_S.rf
  replace hP : va_P (dC, dI) vwCl [(a_h, .inr (0, [.ref a_tx, .ref a_cru, .int w_nr, .ref a_cd, .ref a_td, .ref a_cki, .ref a_cca, .ref a_cty, .ref a_cio, .ref a_cex, .ref a_clo, .int w_nl, .ref a_cfi, .int w_nf, .ref a_ccl, .int w_nc])), (a_cca, .inl (k_cca, 50, .inl f_cca))] s.heap := hP
  have hl := lv_entry ([.ref a_h, .int p0, .int p1]) (n := 4) (Nat.le_of_ble_eq_true rfl)
  rw [lg_entry_eq]
  generalize (lg_sl ([.ref a_h, .int p0, .int p1]) ++ List.replicate (4 - (lg_sl ([.ref a_h, .int p0, .int p1])).length) Slot.unset).toArray = ls at hl ⊢
  replace hl : lv_has ls 4 [(0, .ref a_h), (1, .int p0), (2, .int p1)] := hl
  obtain ⟨z, hz⟩ : ∃ z, z = g_Cg_block p0 p1 f_cca := ⟨_, rfl⟩
  have hE := hz
  rw [g_Cg_block] at hE
  refine lv_iload_n hx hb d_C_block_0 rfl (lv_at hl 1 rfl) ?_
  have hPc := hP.sub (ws' := []) [] rfl
  have hKc := hK.sub (tys' := []) [] rfl
  refine vp_callSi (va_Run.run (va_runS (As := [.int p0]) (rest := []) ⟨hx, hb, hml, hown, hts⟩ (c_Cg_isPerson l dC dI adK adV (p0 := p0)) (va_cwS 1 hts (gS tw_373 tw_374 tw_42 tw_375) rfl rfl rfl (by decide +kernel) ⟨(Nat.le_of_ble_eq_true rfl), (Nat.le_of_ble_eq_true rfl)⟩) ⟨fun a U g mk q => by obtain ⟨q0, qZ, qP, qK⟩ := q; exact ⟨q0, zz_call qZ, qP, va_K.moved (u := U) (U := U.calling g mk a) (Vm.Alike.refl U.vm) qK⟩, fun U hU hW => ⟨rfl, zz_ro hS hU hW hZ, by rw [hU]; exact hPc, va_K.moved hW.alike hKc⟩⟩ rfl rfl hl.1 rfl (lv_room (Nat.le_of_ble_eq_true rfl)) d_C_block_1 ⟨(Nat.le_of_ble_eq_true rfl), (Nat.le_of_ble_eq_true rfl)⟩)) (fun r_1 hw_2 => ?_)
  clear hPc hKc
  subst hw_2
  refine lv_if_eq (tgt := 17) hx hb d_C_block_4 (by decide) (fun c_3 => ?_) (fun c_3 => ?_)
  · rw [if_pos c_3] at hE
    refine lv_iconst (v := (-1)) hx hb d_C_block_17 (by decide) ?_
    have hP9 := hP.sub (ws' := [(a_h, .inr (0, [.ref a_tx, .ref a_cru, .int w_nr, .ref a_cd, .ref a_td, .ref a_cki, .ref a_cca, .ref a_cty, .ref a_cio, .ref a_cex, .ref a_clo, .int w_nl, .ref a_cfi, .int w_nf, .ref a_ccl, .int w_nc])), (a_cca, .inl (k_cca, 50, .inl f_cca))]) [0, 1] rfl
    have hD9 := hD.sub (ws' := [(a_h, .inr (0, [.ref a_tx, .ref a_cru, .int w_nr, .ref a_cd, .ref a_td, .ref a_cki, .ref a_cca, .ref a_cty, .ref a_cio, .ref a_cex, .ref a_clo, .int w_nl, .ref a_cfi, .int w_nf, .ref a_ccl, .int w_nc])), (a_cca, .inl (k_cca, 50, .inl f_cca))]) [0, 1] (by decide) rfl
    have hK9 := hK.sub (tys' := [(k_cca, .int)]) [0] rfl
    exact W.iret (v := (-1)) hx hb hr (fun t ht hW => ⟨⟨(-1), (), rfl, by rw [← hz, hE], by rw [ht, ← hz, hE]; exact hP9, va_K.moved hW.alike hK9, by rw [← hz, hE]; exact hD9⟩, hS.F ht⟩) hS.2.2 d_C_block_18
  · rw [if_neg c_3] at hE
    refine lv_iload_n hx hb d_C_block_7 rfl (lv_at hl 2 rfl) ?_
    refine lv_if_lt (tgt := 17) hx hb d_C_block_8 (by decide) (fun c_4 => ?_) (fun c_4 => ?_)
    · rw [if_pos c_4] at hE
      refine lv_iconst (v := (-1)) hx hb d_C_block_17 (by decide) ?_
      have hP9 := hP.sub (ws' := [(a_h, .inr (0, [.ref a_tx, .ref a_cru, .int w_nr, .ref a_cd, .ref a_td, .ref a_cki, .ref a_cca, .ref a_cty, .ref a_cio, .ref a_cex, .ref a_clo, .int w_nl, .ref a_cfi, .int w_nf, .ref a_ccl, .int w_nc])), (a_cca, .inl (k_cca, 50, .inl f_cca))]) [0, 1] rfl
      have hD9 := hD.sub (ws' := [(a_h, .inr (0, [.ref a_tx, .ref a_cru, .int w_nr, .ref a_cd, .ref a_td, .ref a_cki, .ref a_cca, .ref a_cty, .ref a_cio, .ref a_cex, .ref a_clo, .int w_nl, .ref a_cfi, .int w_nf, .ref a_ccl, .int w_nc])), (a_cca, .inl (k_cca, 50, .inl f_cca))]) [0, 1] (by decide) rfl
      have hK9 := hK.sub (tys' := [(k_cca, .int)]) [0] rfl
      exact W.iret (v := (-1)) hx hb hr (fun t ht hW => ⟨⟨(-1), (), rfl, by rw [← hz, hE], by rw [ht, ← hz, hE]; exact hP9, va_K.moved hW.alike hK9, by rw [← hz, hE]; exact hD9⟩, hS.F ht⟩) hS.2.2 d_C_block_18
    · rw [if_neg c_4] at hE
      refine lv_iload_n hx hb d_C_block_11 rfl (lv_at hl 2 rfl) ?_
      refine lv_bipush (v := 9) hx hb d_C_block_12 (by decide) ?_
      refine lv_icmp_le (tgt := 19) hx hb d_C_block_14 (by decide) (fun c_5 => ?_) (fun c_5 => ?_)
      · rw [if_pos c_5] at hE
        refine lv_aload_n hx hb d_C_block_19 rfl (lv_at hl 0 rfl) ?_
        refine va_get (D := (dC, dI)) (ci := 0) (v := .ref a_cca) (C := "LoanRules") (T := Fz_C) (N := 16) hx hb hts it_C hown hK hP 0 rfl rfl 6 (by decide) (hts _ tw_110) (fun _ h9 => h9) rfl d_C_block_20 ?_
        refine lv_iload_n hx hb d_C_block_23 rfl (lv_at hl 1 rfl) ?_
        have i_6 : vp_in p0 50 := ix50 (persC c_3)
        refine va_iald (D := (dC, dI)) hx hb hK hP 1 0 rfl rfl i_6 d_C_block_24 ?_
        refine lv_istore_n (lv' := [(3, .int (f_cca p0.toNatClampNeg)), (0, .ref a_h), (1, .int p0), (2, .int p1)]) hx hb d_C_block_25 rfl hl (by decide) rfl (fun ls hl => ?_)
        refine lv_aload_n hx hb d_C_block_26 rfl (lv_at hl 1 rfl) ?_
        refine va_get (D := (dC, dI)) (ci := 0) (v := .ref a_cca) (C := "LoanRules") (T := Fz_C) (N := 16) hx hb hts it_C hown hK hP 0 rfl rfl 6 (by decide) (hts _ tw_110) (fun _ h9 => h9) rfl d_C_block_27 ?_
        refine lv_iload_n hx hb d_C_block_30 rfl (lv_at hl 2 rfl) ?_
        refine lv_iload_n hx hb d_C_block_31 rfl (lv_at hl 3 rfl) ?_
        have i_7 : vp_in p0 50 := ix50 (persC c_3)
        refine va_iast (D := (dC, dI)) hx hb hK hP hD hS 1 0 rfl rfl i_7 d_C_block_32 (fun H locs hP hD hS => ?_)
        replace hP : va_P (dC, dI) vwCl [(a_h, .inr (0, [.ref a_tx, .ref a_cru, .int w_nr, .ref a_cd, .ref a_td, .ref a_cki, .ref a_cca, .ref a_cty, .ref a_cio, .ref a_cex, .ref a_clo, .int w_nl, .ref a_cfi, .int w_nf, .ref a_ccl, .int w_nc])), (a_cca, .inl (k_cca, 50, .inl (upd f_cca p0.toNatClampNeg p1)))] H := hP
        replace hD : va_D A [(a_h, .inr (0, [.ref a_tx, .ref a_cru, .int w_nr, .ref a_cd, .ref a_td, .ref a_cki, .ref a_cca, .ref a_cty, .ref a_cio, .ref a_cex, .ref a_clo, .int w_nl, .ref a_cfi, .int w_nf, .ref a_ccl, .int w_nc])), (a_cca, .inl (k_cca, 50, .inl (upd f_cca p0.toNatClampNeg p1)))] := hD
        refine lv_iload_n hx hb d_C_block_33 rfl (lv_at hl 0 rfl) ?_
        have hP9 := hP.sub (ws' := [(a_h, .inr (0, [.ref a_tx, .ref a_cru, .int w_nr, .ref a_cd, .ref a_td, .ref a_cki, .ref a_cca, .ref a_cty, .ref a_cio, .ref a_cex, .ref a_clo, .int w_nl, .ref a_cfi, .int w_nf, .ref a_ccl, .int w_nc])), (a_cca, .inl (k_cca, 50, .inl (upd f_cca p0.toNatClampNeg p1)))]) [0, 1] rfl
        have hD9 := hD.sub (ws' := [(a_h, .inr (0, [.ref a_tx, .ref a_cru, .int w_nr, .ref a_cd, .ref a_td, .ref a_cki, .ref a_cca, .ref a_cty, .ref a_cio, .ref a_cex, .ref a_clo, .int w_nl, .ref a_cfi, .int w_nf, .ref a_ccl, .int w_nc])), (a_cca, .inl (k_cca, 50, .inl (upd f_cca p0.toNatClampNeg p1)))]) [0, 1] (by decide) rfl
        have hK9 := hK.sub (tys' := [(k_cca, .int)]) [0] rfl
        exact W.iret (v := f_cca p0.toNatClampNeg) hx hb hr (fun t ht hW => ⟨⟨f_cca p0.toNatClampNeg, (), rfl, by rw [← hz, hE], by rw [ht, ← hz, hE]; exact hP9, va_K.moved hW.alike hK9, by rw [← hz, hE]; exact hD9⟩, hS.F ht⟩) hS.2.2 d_C_block_34
      · rw [if_neg c_5] at hE
        refine lv_iconst (v := (-1)) hx hb d_C_block_17 (by decide) ?_
        have hP9 := hP.sub (ws' := [(a_h, .inr (0, [.ref a_tx, .ref a_cru, .int w_nr, .ref a_cd, .ref a_td, .ref a_cki, .ref a_cca, .ref a_cty, .ref a_cio, .ref a_cex, .ref a_clo, .int w_nl, .ref a_cfi, .int w_nf, .ref a_ccl, .int w_nc])), (a_cca, .inl (k_cca, 50, .inl f_cca))]) [0, 1] rfl
        have hD9 := hD.sub (ws' := [(a_h, .inr (0, [.ref a_tx, .ref a_cru, .int w_nr, .ref a_cd, .ref a_td, .ref a_cki, .ref a_cca, .ref a_cty, .ref a_cio, .ref a_cex, .ref a_clo, .int w_nl, .ref a_cfi, .int w_nf, .ref a_ccl, .int w_nc])), (a_cca, .inl (k_cca, 50, .inl f_cca))]) [0, 1] (by decide) rfl
        have hK9 := hK.sub (tys' := [(k_cca, .int)]) [0] rfl
        exact W.iret (v := (-1)) hx hb hr (fun t ht hW => ⟨⟨(-1), (), rfl, by rw [← hz, hE], by rw [ht, ← hz, hE]; exact hP9, va_K.moved hW.alike hK9, by rw [← hz, hE]; exact hD9⟩, hS.F ht⟩) hS.2.2 d_C_block_18
def g_Cg_causeOf (p0 : Int32) (f_cca : Nat → Int32) : Int32 :=
  if (g_Cg_isPerson p0) = 0 then
    0
  else
    f_cca p0.toNatClampNeg
set_option maxHeartbeats 4000000 in
set_option maxRecDepth 100000 in
theorem c_Cg_causeOf (l : Launch) (dC : Nat → ClassId) (dI : Nat → Nat → Nat) (adK adV : Nat → Nat) (a_h : Nat) (a_cca : Nat) (k_cca : ClassId) (p0 : Int32) (a_tx : Nat) (a_cru : Nat) (w_nr : Int32) (a_cd : Nat) (a_td : Nat) (a_cki : Nat) (a_cty : Nat) (a_cio : Nat) (a_cex : Nat) (a_clo : Nat) (w_nl : Int32) (a_cfi : Nat) (w_nf : Int32) (a_ccl : Nat) (w_nc : Int32) (f_cca : Nat → Int32) : Met l y_C_causeOf ws_C_causeOf ({ frames := 1, cells := 0, slots := 0, locals := 20 }) (va_Pc [.ref a_h, .int p0] (fun U => zz adK adV (fun _ => False) U ∧ va_P (dC, dI) vwCl [(a_h, .inr (0, [.ref a_tx, .ref a_cru, .int w_nr, .ref a_cd, .ref a_td, .ref a_cki, .ref a_cca, .ref a_cty, .ref a_cio, .ref a_cex, .ref a_clo, .int w_nl, .ref a_cfi, .int w_nf, .ref a_ccl, .int w_nc])), (a_cca, .inl (k_cca, 50, .inl f_cca))] U.heap ∧ va_K (dC, dI) vwCl [(k_cca, .int)] U)) (vp_Si (fun r => r = g_Cg_causeOf p0 f_cca)) 0 0 (fun _ => False) := by
  refine Met.ofW (cc := c_C_causeOf) (maxL := 2) (ret := (some .int)) (by decide) rfl ?_
  intro p e s m args below meth c s₁ B hml hv
  obtain ⟨rfl, hZ, hP, hK⟩ := hv
  have hx := B.exec
  have hb := B.bytes
  have hr := B.returns
  have hts0 := atoms_spec (ws := ws_C_causeOf) B.pre
  have hts : ∀ w ∈ TT, w.before _ s = true := fun w h => hts0 w (List.mem_cons_of_mem _ h)
  have hown : s.vm.findClass "LoanRules" = some m.cls := findClass_of_methodNamed B.named
  have hlocks := B.notSynchronized
  have hS : va_S (fun _ => False) s.heap s.heap [] := va_S.rf
  replace hP : va_P (dC, dI) vwCl [(a_h, .inr (0, [.ref a_tx, .ref a_cru, .int w_nr, .ref a_cd, .ref a_td, .ref a_cki, .ref a_cca, .ref a_cty, .ref a_cio, .ref a_cex, .ref a_clo, .int w_nl, .ref a_cfi, .int w_nf, .ref a_ccl, .int w_nc])), (a_cca, .inl (k_cca, 50, .inl f_cca))] s.heap := hP
  have hl := lv_entry ([.ref a_h, .int p0]) (n := 2) (Nat.le_of_ble_eq_true rfl)
  rw [lg_entry_eq]
  generalize (lg_sl ([.ref a_h, .int p0]) ++ List.replicate (2 - (lg_sl ([.ref a_h, .int p0])).length) Slot.unset).toArray = ls at hl ⊢
  replace hl : lv_has ls 2 [(0, .ref a_h), (1, .int p0)] := hl
  obtain ⟨z, hz⟩ : ∃ z, z = g_Cg_causeOf p0 f_cca := ⟨_, rfl⟩
  have hE := hz
  rw [g_Cg_causeOf] at hE
  refine lv_iload_n hx hb d_C_causeOf_0 rfl (lv_at hl 1 rfl) ?_
  have hPc := hP.sub (ws' := []) [] rfl
  have hKc := hK.sub (tys' := []) [] rfl
  refine vp_callSi (va_Run.run (va_runS (As := [.int p0]) (rest := []) ⟨hx, hb, hml, hown, hts⟩ (c_Cg_isPerson l dC dI adK adV (p0 := p0)) (va_cwS 1 hts (gS tw_373 tw_374 tw_42 tw_375) rfl rfl rfl (by decide +kernel) ⟨(Nat.le_of_ble_eq_true rfl), (Nat.le_of_ble_eq_true rfl)⟩) ⟨fun a U g mk q => by obtain ⟨q0, qZ, qP, qK⟩ := q; exact ⟨q0, zz_call qZ, qP, va_K.moved (u := U) (U := U.calling g mk a) (Vm.Alike.refl U.vm) qK⟩, fun U hU hW => ⟨rfl, zz_rr hU hW hZ, by rw [hU]; exact hPc, va_K.moved hW.alike hKc⟩⟩ rfl rfl hl.1 rfl (lv_room (Nat.le_of_ble_eq_true rfl)) d_C_causeOf_1 ⟨(Nat.le_of_ble_eq_true rfl), (Nat.le_of_ble_eq_true rfl)⟩)) (fun r_1 hw_2 => ?_)
  clear hPc hKc
  subst hw_2
  refine lv_if_eq (tgt := 16) hx hb d_C_causeOf_4 (by decide) (fun c_3 => ?_) (fun c_3 => ?_)
  · rw [if_pos c_3] at hE
    refine lv_iconst (v := 0) hx hb d_C_causeOf_16 (by decide) ?_
    exact W.iret (v := 0) hx hb hr (fun t ht hW => ⟨0, rfl, hE.symm.trans hz, ht⟩) (fun _ h => by cases h) d_C_causeOf_17
  · rw [if_neg c_3] at hE
    refine lv_aload_n hx hb d_C_causeOf_7 rfl (lv_at hl 0 rfl) ?_
    refine va_get (D := (dC, dI)) (ci := 0) (v := .ref a_cca) (C := "LoanRules") (T := Fz_C) (N := 16) hx hb hts it_C hown hK hP 0 rfl rfl 6 (by decide) (hts _ tw_110) (fun _ h9 => h9) rfl d_C_causeOf_8 ?_
    refine lv_iload_n hx hb d_C_causeOf_11 rfl (lv_at hl 1 rfl) ?_
    have i_4 : vp_in p0 50 := ix50 (persC c_3)
    refine va_iald (D := (dC, dI)) hx hb hK hP 1 0 rfl rfl i_4 d_C_causeOf_12 ?_
    refine lv_goto (tgt := 17) hx hb d_C_causeOf_13 (by decide) ?_
    exact W.iret (v := f_cca p0.toNatClampNeg) hx hb hr (fun t ht hW => ⟨f_cca p0.toNatClampNeg, rfl, hE.symm.trans hz, ht⟩) (fun _ h => by cases h) d_C_causeOf_17
def g_Cg_fittingAt (p0 : Int32) (w_nf : Int32) (f_cfi : Nat → Int32) : Int32 :=
  if p0 < 0 then
    (-1)
  else
    if w_nf ≤ p0 then
      (-1)
    else
      if 40 ≤ p0 then
        (-1)
      else
        f_cfi p0.toNatClampNeg
set_option maxHeartbeats 4000000 in
set_option maxRecDepth 100000 in
theorem c_Cg_fittingAt (l : Launch) (dC : Nat → ClassId) (dI : Nat → Nat → Nat) (adK adV : Nat → Nat) (a_h : Nat) (a_cfi : Nat) (k_cfi : ClassId) (p0 : Int32) (a_tx : Nat) (a_cru : Nat) (w_nr : Int32) (a_cd : Nat) (a_td : Nat) (a_cki : Nat) (a_cca : Nat) (a_cty : Nat) (a_cio : Nat) (a_cex : Nat) (a_clo : Nat) (w_nl : Int32) (w_nf : Int32) (a_ccl : Nat) (w_nc : Int32) (f_cfi : Nat → Int32) : Met l y_C_fittingAt ws_C_fittingAt ({ frames := 0, cells := 0, slots := 0, locals := 0 }) (va_Pc [.ref a_h, .int p0] (fun U => zz adK adV (fun _ => False) U ∧ va_P (dC, dI) vwCl [(a_h, .inr (0, [.ref a_tx, .ref a_cru, .int w_nr, .ref a_cd, .ref a_td, .ref a_cki, .ref a_cca, .ref a_cty, .ref a_cio, .ref a_cex, .ref a_clo, .int w_nl, .ref a_cfi, .int w_nf, .ref a_ccl, .int w_nc])), (a_cfi, .inl (k_cfi, 40, .inl f_cfi))] U.heap ∧ va_K (dC, dI) vwCl [(k_cfi, .int)] U)) (vp_Si (fun r => r = g_Cg_fittingAt p0 w_nf f_cfi)) 0 0 (fun _ => False) := by
  refine Met.ofW (cc := c_C_fittingAt) (maxL := 2) (ret := (some .int)) (by decide) rfl ?_
  intro p e s m args below meth c s₁ B hml hv
  obtain ⟨rfl, hZ, hP, hK⟩ := hv
  have hx := B.exec
  have hb := B.bytes
  have hr := B.returns
  have hts0 := atoms_spec (ws := ws_C_fittingAt) B.pre
  have hts : ∀ w ∈ TT, w.before _ s = true := fun w h => hts0 w (List.mem_cons_of_mem _ h)
  have hown : s.vm.findClass "LoanRules" = some m.cls := findClass_of_methodNamed B.named
  have hlocks := B.notSynchronized
  have hS : va_S (fun _ => False) s.heap s.heap [] := va_S.rf
  replace hP : va_P (dC, dI) vwCl [(a_h, .inr (0, [.ref a_tx, .ref a_cru, .int w_nr, .ref a_cd, .ref a_td, .ref a_cki, .ref a_cca, .ref a_cty, .ref a_cio, .ref a_cex, .ref a_clo, .int w_nl, .ref a_cfi, .int w_nf, .ref a_ccl, .int w_nc])), (a_cfi, .inl (k_cfi, 40, .inl f_cfi))] s.heap := hP
  have hl := lv_entry ([.ref a_h, .int p0]) (n := 2) (Nat.le_of_ble_eq_true rfl)
  rw [lg_entry_eq]
  generalize (lg_sl ([.ref a_h, .int p0]) ++ List.replicate (2 - (lg_sl ([.ref a_h, .int p0])).length) Slot.unset).toArray = ls at hl ⊢
  replace hl : lv_has ls 2 [(0, .ref a_h), (1, .int p0)] := hl
  obtain ⟨z, hz⟩ : ∃ z, z = g_Cg_fittingAt p0 w_nf f_cfi := ⟨_, rfl⟩
  have hE := hz
  rw [g_Cg_fittingAt] at hE
  refine lv_iload_n hx hb d_C_fittingAt_0 rfl (lv_at hl 1 rfl) ?_
  refine lv_if_lt (tgt := 30) hx hb d_C_fittingAt_1 (by decide) (fun c_1 => ?_) (fun c_1 => ?_)
  · rw [if_pos c_1] at hE
    refine lv_iconst (v := (-1)) hx hb d_C_fittingAt_30 (by decide) ?_
    exact W.iret (v := (-1)) hx hb hr (fun t ht hW => ⟨(-1), rfl, hE.symm.trans hz, ht⟩) (fun _ h => by cases h) d_C_fittingAt_31
  · rw [if_neg c_1] at hE
    refine lv_iload_n hx hb d_C_fittingAt_4 rfl (lv_at hl 1 rfl) ?_
    refine lv_aload_n hx hb d_C_fittingAt_5 rfl (lv_at hl 0 rfl) ?_
    refine va_get (D := (dC, dI)) (ci := 0) (v := .int w_nf) (C := "LoanRules") (T := Fz_C) (N := 16) hx hb hts it_C hown hK hP 0 rfl rfl 13 (by decide) (hts _ tw_117) (fun _ h9 => h9) rfl d_C_fittingAt_6 ?_
    refine lv_icmp_ge (tgt := 30) hx hb d_C_fittingAt_9 (by decide) (fun c_2 => ?_) (fun c_2 => ?_)
    · rw [if_pos c_2] at hE
      refine lv_iconst (v := (-1)) hx hb d_C_fittingAt_30 (by decide) ?_
      exact W.iret (v := (-1)) hx hb hr (fun t ht hW => ⟨(-1), rfl, hE.symm.trans hz, ht⟩) (fun _ h => by cases h) d_C_fittingAt_31
    · rw [if_neg c_2] at hE
      refine lv_iload_n hx hb d_C_fittingAt_12 rfl (lv_at hl 1 rfl) ?_
      refine lv_aload_n hx hb d_C_fittingAt_13 rfl (lv_at hl 0 rfl) ?_
      refine va_get (D := (dC, dI)) (ci := 0) (v := .ref a_cfi) (C := "LoanRules") (T := Fz_C) (N := 16) hx hb hts it_C hown hK hP 0 rfl rfl 12 (by decide) (hts _ tw_116) (fun _ h9 => h9) rfl d_C_fittingAt_14 ?_
      refine va_alen (D := (dC, dI)) (v := 40) hx hb hK hP 1 0 rfl rfl rfl d_C_fittingAt_17 ?_
      refine lv_icmp_ge (tgt := 30) hx hb d_C_fittingAt_18 (by decide) (fun c_3 => ?_) (fun c_3 => ?_)
      · rw [if_pos c_3] at hE
        refine lv_iconst (v := (-1)) hx hb d_C_fittingAt_30 (by decide) ?_
        exact W.iret (v := (-1)) hx hb hr (fun t ht hW => ⟨(-1), rfl, hE.symm.trans hz, ht⟩) (fun _ h => by cases h) d_C_fittingAt_31
      · rw [if_neg c_3] at hE
        refine lv_aload_n hx hb d_C_fittingAt_21 rfl (lv_at hl 0 rfl) ?_
        refine va_get (D := (dC, dI)) (ci := 0) (v := .ref a_cfi) (C := "LoanRules") (T := Fz_C) (N := 16) hx hb hts it_C hown hK hP 0 rfl rfl 12 (by decide) (hts _ tw_116) (fun _ h9 => h9) rfl d_C_fittingAt_22 ?_
        refine lv_iload_n hx hb d_C_fittingAt_25 rfl (lv_at hl 1 rfl) ?_
        have i_4 : vp_in p0 40 := li_in (li_n0 c_1) c_3
        refine va_iald (D := (dC, dI)) hx hb hK hP 1 0 rfl rfl i_4 d_C_fittingAt_26 ?_
        refine lv_goto (tgt := 31) hx hb d_C_fittingAt_27 (by decide) ?_
        exact W.iret (v := f_cfi p0.toNatClampNeg) hx hb hr (fun t ht hW => ⟨f_cfi p0.toNatClampNeg, rfl, hE.symm.trans hz, ht⟩) (fun _ h => by cases h) d_C_fittingAt_31
set_option maxHeartbeats 4000000 in
set_option maxRecDepth 100000 in
theorem c_Cg_explain (l : Launch) (dC : Nat → ClassId) (dI : Nat → Nat → Nat) (adK adV : Nat → Nat) (a_h : Nat) (a_cfi : Nat) (k_cfi : ClassId) (p0 : Int32) (a_tx : Nat) (a_cru : Nat) (w_nr : Int32) (a_cd : Nat) (a_td : Nat) (a_cki : Nat) (a_cca : Nat) (a_cty : Nat) (a_cio : Nat) (a_cex : Nat) (a_clo : Nat) (w_nl : Int32) (w_nf : Int32) (a_ccl : Nat) (w_nc : Int32) (f_cfi : Nat → Int32) : Met l y_C_explain ws_C_explain ({ frames := 1, cells := 0, slots := 0, locals := 21 }) (va_Pc [.ref a_h, .int p0] (fun U => zz adK adV (fun _ => False) U ∧ va_P (dC, dI) vwCl [(a_h, .inr (0, [.ref a_tx, .ref a_cru, .int w_nr, .ref a_cd, .ref a_td, .ref a_cki, .ref a_cca, .ref a_cty, .ref a_cio, .ref a_cex, .ref a_clo, .int w_nl, .ref a_cfi, .int w_nf, .ref a_ccl, .int w_nc])), (a_cfi, .inl (k_cfi, 40, .inl f_cfi))] U.heap ∧ va_K (dC, dI) vwCl [(k_cfi, .int)] U)) (vp_Si (fun r => r = g_Cg_fittingAt p0 w_nf f_cfi)) 0 0 (fun _ => False) := by
  refine Met.ofW (cc := c_C_explain) (maxL := 2) (ret := (some .int)) (by decide) rfl ?_
  intro p e s m args below meth c s₁ B hml hv
  obtain ⟨rfl, hZ, hP, hK⟩ := hv
  have hx := B.exec
  have hb := B.bytes
  have hr := B.returns
  have hts0 := atoms_spec (ws := ws_C_explain) B.pre
  have hts : ∀ w ∈ TT, w.before _ s = true := fun w h => hts0 w (List.mem_cons_of_mem _ h)
  have hown : s.vm.findClass "LoanRules" = some m.cls := findClass_of_methodNamed B.named
  have hlocks := B.notSynchronized
  have hS : va_S (fun _ => False) s.heap s.heap [] := va_S.rf
  replace hP : va_P (dC, dI) vwCl [(a_h, .inr (0, [.ref a_tx, .ref a_cru, .int w_nr, .ref a_cd, .ref a_td, .ref a_cki, .ref a_cca, .ref a_cty, .ref a_cio, .ref a_cex, .ref a_clo, .int w_nl, .ref a_cfi, .int w_nf, .ref a_ccl, .int w_nc])), (a_cfi, .inl (k_cfi, 40, .inl f_cfi))] s.heap := hP
  have hl := lv_entry ([.ref a_h, .int p0]) (n := 2) (Nat.le_of_ble_eq_true rfl)
  rw [lg_entry_eq]
  generalize (lg_sl ([.ref a_h, .int p0]) ++ List.replicate (2 - (lg_sl ([.ref a_h, .int p0])).length) Slot.unset).toArray = ls at hl ⊢
  replace hl : lv_has ls 2 [(0, .ref a_h), (1, .int p0)] := hl
  refine lv_aload_n hx hb d_C_explain_0 rfl (lv_at hl 0 rfl) ?_
  refine lv_iload_n hx hb d_C_explain_1 rfl (lv_at hl 1 rfl) ?_
  have hPc := hP.sub (ws' := [(a_h, .inr (0, [.ref a_tx, .ref a_cru, .int w_nr, .ref a_cd, .ref a_td, .ref a_cki, .ref a_cca, .ref a_cty, .ref a_cio, .ref a_cex, .ref a_clo, .int w_nl, .ref a_cfi, .int w_nf, .ref a_ccl, .int w_nc])), (a_cfi, .inl (k_cfi, 40, .inl f_cfi))]) [0, 1] rfl
  have hKc := hK.sub (tys' := [(k_cfi, .int)]) [0] rfl
  refine vp_callSi (va_Run.run (va_runV (As := [.int p0]) (rest := []) ⟨hx, hb, hml, hown, hts⟩ (c_Cg_fittingAt l dC dI adK adV (a_h := a_h) (p0 := p0) (a_tx := a_tx) (a_cru := a_cru) (w_nr := w_nr) (a_cd := a_cd) (a_td := a_td) (a_cki := a_cki) (a_cca := a_cca) (a_cty := a_cty) (a_cio := a_cio) (a_cex := a_cex) (a_clo := a_clo) (w_nl := w_nl) (a_cfi := a_cfi) (w_nf := w_nf) (a_ccl := a_ccl) (w_nc := w_nc) (k_cfi := k_cfi) (f_cfi := f_cfi)) (cwV 1 hts (gV tw_443 tw_445 tw_16 tw_42 tw_446) rfl rfl rfl (by decide +kernel) ⟨(Nat.le_of_ble_eq_true rfl), (Nat.le_of_ble_eq_true rfl)⟩) ⟨fun a U g mk q => by obtain ⟨q0, qZ, qP, qK⟩ := q; exact ⟨q0, zz_call qZ, qP, va_K.moved (u := U) (U := U.calling g mk a) (Vm.Alike.refl U.vm) qK⟩, va_recv hKc hPc (ci := 0) (q0 := 0) rfl rfl, fun U hU hW => ⟨rfl, zz_rr hU hW hZ, by rw [hU]; exact hPc, va_K.moved hW.alike hKc⟩⟩ rfl rfl hl.1 rfl (lv_room (Nat.le_of_ble_eq_true rfl)) d_C_explain_2 ⟨(Nat.le_of_ble_eq_true rfl), (Nat.le_of_ble_eq_true rfl)⟩)) (fun r_1 hw_2 => ?_)
  clear hPc hKc
  subst hw_2
  exact W.iret (v := g_Cg_fittingAt p0 w_nf f_cfi) hx hb hr (fun t ht hW => ⟨g_Cg_fittingAt p0 w_nf f_cfi, rfl, rfl, ht⟩) (fun _ h => by cases h) d_C_explain_5
def g_Cg_clash (p0 : Int32) (p1 : Int32) (w_nc : Int32) (f_ccl : Nat → Int32) : Int32 :=
  if p0 < 0 then
    (-1)
  else
    if w_nc ≤ p0 then
      (-1)
    else
      if p0 < 780 then
        if p1 = 0 then
          (f_ccl p0.toNatClampNeg) / 40
        else
          if p1 = 1 then
            (f_ccl p0.toNatClampNeg) - (f_ccl p0.toNatClampNeg) / 40 * 40
          else
            (-1)
      else
        (-1)
set_option maxHeartbeats 4000000 in
set_option maxRecDepth 100000 in
theorem c_Cg_clash (l : Launch) (dC : Nat → ClassId) (dI : Nat → Nat → Nat) (adK adV : Nat → Nat) (a_h : Nat) (a_ccl : Nat) (k_ccl : ClassId) (p0 : Int32) (p1 : Int32) (a_tx : Nat) (a_cru : Nat) (w_nr : Int32) (a_cd : Nat) (a_td : Nat) (a_cki : Nat) (a_cca : Nat) (a_cty : Nat) (a_cio : Nat) (a_cex : Nat) (a_clo : Nat) (w_nl : Int32) (a_cfi : Nat) (w_nf : Int32) (w_nc : Int32) (f_ccl : Nat → Int32) : Met l y_C_clash ws_C_clash ({ frames := 0, cells := 0, slots := 0, locals := 0 }) (va_Pc [.ref a_h, .int p0, .int p1] (fun U => zz adK adV (fun _ => False) U ∧ va_P (dC, dI) vwCl [(a_h, .inr (0, [.ref a_tx, .ref a_cru, .int w_nr, .ref a_cd, .ref a_td, .ref a_cki, .ref a_cca, .ref a_cty, .ref a_cio, .ref a_cex, .ref a_clo, .int w_nl, .ref a_cfi, .int w_nf, .ref a_ccl, .int w_nc])), (a_ccl, .inl (k_ccl, 780, .inl f_ccl))] U.heap ∧ va_K (dC, dI) vwCl [(k_ccl, .int)] U)) (vp_Si (fun r => r = g_Cg_clash p0 p1 w_nc f_ccl)) 0 0 (fun _ => False) := by
  refine Met.ofW (cc := c_C_clash) (maxL := 3) (ret := (some .int)) (by decide) rfl ?_
  intro p e s m args below meth c s₁ B hml hv
  obtain ⟨rfl, hZ, hP, hK⟩ := hv
  have hx := B.exec
  have hb := B.bytes
  have hr := B.returns
  have hts0 := atoms_spec (ws := ws_C_clash) B.pre
  have hts : ∀ w ∈ TT, w.before _ s = true := fun w h => hts0 w (List.mem_cons_of_mem _ h)
  have hown : s.vm.findClass "LoanRules" = some m.cls := findClass_of_methodNamed B.named
  have hlocks := B.notSynchronized
  have hS : va_S (fun _ => False) s.heap s.heap [] := va_S.rf
  replace hP : va_P (dC, dI) vwCl [(a_h, .inr (0, [.ref a_tx, .ref a_cru, .int w_nr, .ref a_cd, .ref a_td, .ref a_cki, .ref a_cca, .ref a_cty, .ref a_cio, .ref a_cex, .ref a_clo, .int w_nl, .ref a_cfi, .int w_nf, .ref a_ccl, .int w_nc])), (a_ccl, .inl (k_ccl, 780, .inl f_ccl))] s.heap := hP
  have hl := lv_entry ([.ref a_h, .int p0, .int p1]) (n := 3) (Nat.le_of_ble_eq_true rfl)
  rw [lg_entry_eq]
  generalize (lg_sl ([.ref a_h, .int p0, .int p1]) ++ List.replicate (3 - (lg_sl ([.ref a_h, .int p0, .int p1])).length) Slot.unset).toArray = ls at hl ⊢
  replace hl : lv_has ls 3 [(0, .ref a_h), (1, .int p0), (2, .int p1)] := hl
  obtain ⟨z, hz⟩ : ∃ z, z = g_Cg_clash p0 p1 w_nc f_ccl := ⟨_, rfl⟩
  have hE := hz
  rw [g_Cg_clash] at hE
  refine lv_iload_n hx hb d_C_clash_0 rfl (lv_at hl 1 rfl) ?_
  refine lv_if_lt (tgt := 21) hx hb d_C_clash_1 (by decide) (fun c_1 => ?_) (fun c_1 => ?_)
  · rw [if_pos c_1] at hE
    refine lv_iconst (v := (-1)) hx hb d_C_clash_21 (by decide) ?_
    exact W.iret (v := (-1)) hx hb hr (fun t ht hW => ⟨(-1), rfl, hE.symm.trans hz, ht⟩) (fun _ h => by cases h) d_C_clash_22
  · rw [if_neg c_1] at hE
    refine lv_iload_n hx hb d_C_clash_4 rfl (lv_at hl 1 rfl) ?_
    refine lv_aload_n hx hb d_C_clash_5 rfl (lv_at hl 0 rfl) ?_
    refine va_get (D := (dC, dI)) (ci := 0) (v := .int w_nc) (C := "LoanRules") (T := Fz_C) (N := 16) hx hb hts it_C hown hK hP 0 rfl rfl 15 (by decide) (hts _ tw_119) (fun _ h9 => h9) rfl d_C_clash_6 ?_
    refine lv_icmp_ge (tgt := 21) hx hb d_C_clash_9 (by decide) (fun c_2 => ?_) (fun c_2 => ?_)
    · rw [if_pos c_2] at hE
      refine lv_iconst (v := (-1)) hx hb d_C_clash_21 (by decide) ?_
      exact W.iret (v := (-1)) hx hb hr (fun t ht hW => ⟨(-1), rfl, hE.symm.trans hz, ht⟩) (fun _ h => by cases h) d_C_clash_22
    · rw [if_neg c_2] at hE
      refine lv_iload_n hx hb d_C_clash_12 rfl (lv_at hl 1 rfl) ?_
      refine lv_aload_n hx hb d_C_clash_13 rfl (lv_at hl 0 rfl) ?_
      refine va_get (D := (dC, dI)) (ci := 0) (v := .ref a_ccl) (C := "LoanRules") (T := Fz_C) (N := 16) hx hb hts it_C hown hK hP 0 rfl rfl 14 (by decide) (hts _ tw_118) (fun _ h9 => h9) rfl d_C_clash_14 ?_
      refine va_alen (D := (dC, dI)) (v := 780) hx hb hK hP 1 0 rfl rfl rfl d_C_clash_17 ?_
      refine lv_icmp_lt (tgt := 23) hx hb d_C_clash_18 (by decide) (fun c_3 => ?_) (fun c_3 => ?_)
      · rw [if_pos c_3] at hE
        refine lv_iload_n hx hb d_C_clash_23 rfl (lv_at hl 2 rfl) ?_
        refine lv_if_ne (tgt := 37) hx hb d_C_clash_24 (by decide) (fun c_4 => ?_) (fun c_4 => ?_)
        · rw [if_neg c_4] at hE
          refine lv_iload_n hx hb d_C_clash_37 rfl (lv_at hl 2 rfl) ?_
          refine lv_iconst (v := 1) hx hb d_C_clash_38 (by decide) ?_
          refine lv_icmp_ne (tgt := 54) hx hb d_C_clash_39 (by decide) (fun c_5 => ?_) (fun c_5 => ?_)
          · rw [if_neg c_5] at hE
            refine lv_iconst (v := (-1)) hx hb d_C_clash_54 (by decide) ?_
            exact W.iret (v := (-1)) hx hb hr (fun t ht hW => ⟨(-1), rfl, hE.symm.trans hz, ht⟩) (fun _ h => by cases h) d_C_clash_55
          · rw [if_pos c_5] at hE
            refine lv_aload_n hx hb d_C_clash_42 rfl (lv_at hl 0 rfl) ?_
            refine va_get (D := (dC, dI)) (ci := 0) (v := .ref a_ccl) (C := "LoanRules") (T := Fz_C) (N := 16) hx hb hts it_C hown hK hP 0 rfl rfl 14 (by decide) (hts _ tw_118) (fun _ h9 => h9) rfl d_C_clash_43 ?_
            refine lv_iload_n hx hb d_C_clash_46 rfl (lv_at hl 1 rfl) ?_
            have i_6 : vp_in p0 780 := li_in (li_n0 c_1) (Int32.not_le.mpr c_3)
            refine va_iald (D := (dC, dI)) hx hb hK hP 1 0 rfl rfl i_6 d_C_clash_47 ?_
            refine lv_bipush (v := 40) hx hb d_C_clash_48 (by decide) ?_
            refine lv_irem hx hb d_C_clash_50 (by decide) ?_
            refine lv_goto (tgt := 55) hx hb d_C_clash_51 (by decide) ?_
            exact W.iret (v := (f_ccl p0.toNatClampNeg) - (f_ccl p0.toNatClampNeg) / 40 * 40) hx hb hr (fun t ht hW => ⟨(f_ccl p0.toNatClampNeg) - (f_ccl p0.toNatClampNeg) / 40 * 40, rfl, hE.symm.trans hz, ht⟩) (fun _ h => by cases h) d_C_clash_55
        · rw [if_pos c_4] at hE
          refine lv_aload_n hx hb d_C_clash_27 rfl (lv_at hl 0 rfl) ?_
          refine va_get (D := (dC, dI)) (ci := 0) (v := .ref a_ccl) (C := "LoanRules") (T := Fz_C) (N := 16) hx hb hts it_C hown hK hP 0 rfl rfl 14 (by decide) (hts _ tw_118) (fun _ h9 => h9) rfl d_C_clash_28 ?_
          refine lv_iload_n hx hb d_C_clash_31 rfl (lv_at hl 1 rfl) ?_
          have i_7 : vp_in p0 780 := li_in (li_n0 c_1) (Int32.not_le.mpr c_3)
          refine va_iald (D := (dC, dI)) hx hb hK hP 1 0 rfl rfl i_7 d_C_clash_32 ?_
          refine lv_bipush (v := 40) hx hb d_C_clash_33 (by decide) ?_
          refine lv_idiv hx hb d_C_clash_35 (by decide) ?_
          exact W.iret (v := (f_ccl p0.toNatClampNeg) / 40) hx hb hr (fun t ht hW => ⟨(f_ccl p0.toNatClampNeg) / 40, rfl, hE.symm.trans hz, ht⟩) (fun _ h => by cases h) d_C_clash_36
      · rw [if_neg c_3] at hE
        refine lv_iconst (v := (-1)) hx hb d_C_clash_21 (by decide) ?_
        exact W.iret (v := (-1)) hx hb hr (fun t ht hW => ⟨(-1), rfl, hE.symm.trans hz, ht⟩) (fun _ h => by cases h) d_C_clash_22
def g_Cg_fits (p0 : Int32) (p1 : Int32) (f_cki : Nat → Int32) (f_cty : Nat → Int32) (r_ki : Int32) (r_ty : Int32) (r_pe : Int32) : Int32 :=
  if (g_Cg_isPerson p0) = 0 then
    0
  else
    if (g_Cg_isItem p1) = 0 then
      0
    else
      if r_ki = (-1) then
        if r_ty = (-1) then
          if r_pe = (-1) then
            1
          else
            if r_pe = p0 then
              1
            else
              0
        else
          if r_ty = (f_cty p1.toNatClampNeg) then
            if r_pe = (-1) then
              1
            else
              if r_pe = p0 then
                1
              else
                0
          else
            0
      else
        if r_ki = (f_cki p0.toNatClampNeg) then
          if r_ty = (-1) then
            if r_pe = (-1) then
              1
            else
              if r_pe = p0 then
                1
              else
                0
          else
            if r_ty = (f_cty p1.toNatClampNeg) then
              if r_pe = (-1) then
                1
              else
                if r_pe = p0 then
                  1
                else
                  0
            else
              0
        else
          0
set_option maxHeartbeats 4000000 in
set_option maxRecDepth 100000 in
theorem c_Cg_fits (l : Launch) (dC : Nat → ClassId) (dI : Nat → Nat → Nat) (adK adV : Nat → Nat) (a_h : Nat) (a_cki : Nat) (a_cty : Nat) (a_to : Nat) (k_cki : ClassId) (k_cty : ClassId) (p0 : Int32) (p1 : Int32) (a_tx : Nat) (a_cru : Nat) (w_nr : Int32) (a_cd : Nat) (a_td : Nat) (a_cca : Nat) (a_cio : Nat) (a_cex : Nat) (a_clo : Nat) (w_nl : Int32) (a_cfi : Nat) (w_nf : Int32) (a_ccl : Nat) (w_nc : Int32) (f_cki : Nat → Int32) (f_cty : Nat → Int32) (r_ki : Int32) (r_ty : Int32) (r_pe : Int32) (r_de : Int32) (r_da : Int32) (r_re : Int32) (r_ga : Int32) (r_rc : Int32) (r_rk : Int32) (r_me : Int32) (r_le : Int32) : Met l y_C_fits ws_C_fits ({ frames := 1, cells := 0, slots := 0, locals := 20 }) (va_Pc [.ref a_h, .ref a_to, .int p0, .int p1] (fun U => zz adK adV (fun _ => False) U ∧ va_P (dC, dI) vwCl [(a_h, .inr (0, [.ref a_tx, .ref a_cru, .int w_nr, .ref a_cd, .ref a_td, .ref a_cki, .ref a_cca, .ref a_cty, .ref a_cio, .ref a_cex, .ref a_clo, .int w_nl, .ref a_cfi, .int w_nf, .ref a_ccl, .int w_nc])), (a_cki, .inl (k_cki, 50, .inl f_cki)), (a_cty, .inl (k_cty, 50, .inl f_cty)), (a_to, .inr (3, [.int r_ki, .int r_ty, .int r_pe, .int r_de, .int r_da, .int r_re, .int r_ga, .int r_rc, .int r_rk, .int r_me, .int r_le]))] U.heap ∧ va_K (dC, dI) vwCl [(k_cki, .int), (k_cty, .int)] U)) (vp_Si (fun r => r = g_Cg_fits p0 p1 f_cki f_cty r_ki r_ty r_pe)) 0 0 (fun _ => False) := by
  refine Met.ofW (cc := c_C_fits) (maxL := 4) (ret := (some .boolean)) (by decide) rfl ?_
  intro p e s m args below meth c s₁ B hml hv
  obtain ⟨rfl, hZ, hP, hK⟩ := hv
  have hx := B.exec
  have hb := B.bytes
  have hr := B.returns
  have hts0 := atoms_spec (ws := ws_C_fits) B.pre
  have hts : ∀ w ∈ TT, w.before _ s = true := fun w h => hts0 w (List.mem_cons_of_mem _ h)
  have hown : s.vm.findClass "LoanRules" = some m.cls := findClass_of_methodNamed B.named
  have hlocks := B.notSynchronized
  have hS : va_S (fun _ => False) s.heap s.heap [] := va_S.rf
  replace hP : va_P (dC, dI) vwCl [(a_h, .inr (0, [.ref a_tx, .ref a_cru, .int w_nr, .ref a_cd, .ref a_td, .ref a_cki, .ref a_cca, .ref a_cty, .ref a_cio, .ref a_cex, .ref a_clo, .int w_nl, .ref a_cfi, .int w_nf, .ref a_ccl, .int w_nc])), (a_cki, .inl (k_cki, 50, .inl f_cki)), (a_cty, .inl (k_cty, 50, .inl f_cty)), (a_to, .inr (3, [.int r_ki, .int r_ty, .int r_pe, .int r_de, .int r_da, .int r_re, .int r_ga, .int r_rc, .int r_rk, .int r_me, .int r_le]))] s.heap := hP
  have hl := lv_entry ([.ref a_h, .ref a_to, .int p0, .int p1]) (n := 4) (Nat.le_of_ble_eq_true rfl)
  rw [lg_entry_eq]
  generalize (lg_sl ([.ref a_h, .ref a_to, .int p0, .int p1]) ++ List.replicate (4 - (lg_sl ([.ref a_h, .ref a_to, .int p0, .int p1])).length) Slot.unset).toArray = ls at hl ⊢
  replace hl : lv_has ls 4 [(0, .ref a_h), (1, .ref a_to), (2, .int p0), (3, .int p1)] := hl
  obtain ⟨z, hz⟩ : ∃ z, z = g_Cg_fits p0 p1 f_cki f_cty r_ki r_ty r_pe := ⟨_, rfl⟩
  have hE := hz
  rw [g_Cg_fits] at hE
  refine lv_iload_n hx hb d_C_fits_0 rfl (lv_at hl 2 rfl) ?_
  have hPc := hP.sub (ws' := []) [] rfl
  have hKc := hK.sub (tys' := []) [] rfl
  refine vp_callSi (va_Run.run (va_runS (As := [.int p0]) (rest := []) ⟨hx, hb, hml, hown, hts⟩ (c_Cg_isPerson l dC dI adK adV (p0 := p0)) (va_cwS 1 hts (gS tw_373 tw_374 tw_42 tw_375) rfl rfl rfl (by decide +kernel) ⟨(Nat.le_of_ble_eq_true rfl), (Nat.le_of_ble_eq_true rfl)⟩) ⟨fun a U g mk q => by obtain ⟨q0, qZ, qP, qK⟩ := q; exact ⟨q0, zz_call qZ, qP, va_K.moved (u := U) (U := U.calling g mk a) (Vm.Alike.refl U.vm) qK⟩, fun U hU hW => ⟨rfl, zz_rr hU hW hZ, by rw [hU]; exact hPc, va_K.moved hW.alike hKc⟩⟩ rfl rfl hl.1 rfl (lv_room (Nat.le_of_ble_eq_true rfl)) d_C_fits_1 ⟨(Nat.le_of_ble_eq_true rfl), (Nat.le_of_ble_eq_true rfl)⟩)) (fun r_1 hw_2 => ?_)
  clear hPc hKc
  subst hw_2
  refine lv_if_eq (tgt := 76) hx hb d_C_fits_4 (by decide) (fun c_3 => ?_) (fun c_3 => ?_)
  · rw [if_pos c_3] at hE
    refine lv_iconst (v := 0) hx hb d_C_fits_76 (by decide) ?_
    exact W.zret (v := 0) hx hb hr rfl (fun t ht hW => ⟨0, rfl, hE.symm.trans hz, ht⟩) (fun _ h => by cases h) d_C_fits_77
  · rw [if_neg c_3] at hE
    refine lv_iload_n hx hb d_C_fits_7 rfl (lv_at hl 3 rfl) ?_
    have hPc := hP.sub (ws' := []) [] rfl
    have hKc := hK.sub (tys' := []) [] rfl
    refine vp_callSi (va_Run.run (va_runS (As := [.int p1]) (rest := []) ⟨hx, hb, hml, hown, hts⟩ (c_Cg_isItem l dC dI adK adV (p0 := p1)) (va_cwS 1 hts (gS tw_376 tw_377 tw_42 tw_378) rfl rfl rfl (by decide +kernel) ⟨(Nat.le_of_ble_eq_true rfl), (Nat.le_of_ble_eq_true rfl)⟩) ⟨fun a U g mk q => by obtain ⟨q0, qZ, qP, qK⟩ := q; exact ⟨q0, zz_call qZ, qP, va_K.moved (u := U) (U := U.calling g mk a) (Vm.Alike.refl U.vm) qK⟩, fun U hU hW => ⟨rfl, zz_rr hU hW hZ, by rw [hU]; exact hPc, va_K.moved hW.alike hKc⟩⟩ rfl rfl hl.1 rfl (lv_room (Nat.le_of_ble_eq_true rfl)) d_C_fits_8 ⟨(Nat.le_of_ble_eq_true rfl), (Nat.le_of_ble_eq_true rfl)⟩)) (fun r_4 hw_5 => ?_)
    clear hPc hKc
    subst hw_5
    refine lv_if_eq (tgt := 76) hx hb d_C_fits_11 (by decide) (fun c_6 => ?_) (fun c_6 => ?_)
    · rw [if_pos c_6] at hE
      refine lv_iconst (v := 0) hx hb d_C_fits_76 (by decide) ?_
      exact W.zret (v := 0) hx hb hr rfl (fun t ht hW => ⟨0, rfl, hE.symm.trans hz, ht⟩) (fun _ h => by cases h) d_C_fits_77
    · rw [if_neg c_6] at hE
      refine lv_aload_n hx hb d_C_fits_14 rfl (lv_at hl 1 rfl) ?_
      refine va_get (D := (dC, dI)) (ci := 3) (v := .int r_ki) (C := "LoanRules$Rule") (T := Fz_R) (N := 11) hx hb hts it_R hown hK hP 3 rfl rfl 0 (by decide) (hts _ tw_174) (fun _ h9 => h9) rfl d_C_fits_15 ?_
      refine lv_iconst (v := (-1)) hx hb d_C_fits_18 (by decide) ?_
      refine lv_icmp_eq (tgt := 35) hx hb d_C_fits_19 (by decide) (fun c_7 => ?_) (fun c_7 => ?_)
      · rw [if_pos c_7] at hE
        refine lv_aload_n hx hb d_C_fits_35 rfl (lv_at hl 1 rfl) ?_
        refine va_get (D := (dC, dI)) (ci := 3) (v := .int r_ty) (C := "LoanRules$Rule") (T := Fz_R) (N := 11) hx hb hts it_R hown hK hP 3 rfl rfl 1 (by decide) (hts _ tw_177) (fun _ h9 => h9) rfl d_C_fits_36 ?_
        refine lv_iconst (v := (-1)) hx hb d_C_fits_39 (by decide) ?_
        refine lv_icmp_eq (tgt := 56) hx hb d_C_fits_40 (by decide) (fun c_8 => ?_) (fun c_8 => ?_)
        · rw [if_pos c_8] at hE
          refine lv_aload_n hx hb d_C_fits_56 rfl (lv_at hl 1 rfl) ?_
          refine va_get (D := (dC, dI)) (ci := 3) (v := .int r_pe) (C := "LoanRules$Rule") (T := Fz_R) (N := 11) hx hb hts it_R hown hK hP 3 rfl rfl 2 (by decide) (hts _ tw_180) (fun _ h9 => h9) rfl d_C_fits_57 ?_
          refine lv_iconst (v := (-1)) hx hb d_C_fits_60 (by decide) ?_
          refine lv_icmp_eq (tgt := 72) hx hb d_C_fits_61 (by decide) (fun c_9 => ?_) (fun c_9 => ?_)
          · rw [if_pos c_9] at hE
            refine lv_iconst (v := 1) hx hb d_C_fits_72 (by decide) ?_
            refine lv_goto (tgt := 77) hx hb d_C_fits_73 (by decide) ?_
            exact W.zret (v := 1) hx hb hr rfl (fun t ht hW => ⟨1, rfl, hE.symm.trans hz, ht⟩) (fun _ h => by cases h) d_C_fits_77
          · rw [if_neg c_9] at hE
            refine lv_aload_n hx hb d_C_fits_64 rfl (lv_at hl 1 rfl) ?_
            refine va_get (D := (dC, dI)) (ci := 3) (v := .int r_pe) (C := "LoanRules$Rule") (T := Fz_R) (N := 11) hx hb hts it_R hown hK hP 3 rfl rfl 2 (by decide) (hts _ tw_180) (fun _ h9 => h9) rfl d_C_fits_65 ?_
            refine lv_iload_n hx hb d_C_fits_68 rfl (lv_at hl 2 rfl) ?_
            refine lv_icmp_ne (tgt := 76) hx hb d_C_fits_69 (by decide) (fun c_10 => ?_) (fun c_10 => ?_)
            · rw [if_neg c_10] at hE
              refine lv_iconst (v := 0) hx hb d_C_fits_76 (by decide) ?_
              exact W.zret (v := 0) hx hb hr rfl (fun t ht hW => ⟨0, rfl, hE.symm.trans hz, ht⟩) (fun _ h => by cases h) d_C_fits_77
            · rw [if_pos c_10] at hE
              refine lv_iconst (v := 1) hx hb d_C_fits_72 (by decide) ?_
              refine lv_goto (tgt := 77) hx hb d_C_fits_73 (by decide) ?_
              exact W.zret (v := 1) hx hb hr rfl (fun t ht hW => ⟨1, rfl, hE.symm.trans hz, ht⟩) (fun _ h => by cases h) d_C_fits_77
        · rw [if_neg c_8] at hE
          refine lv_aload_n hx hb d_C_fits_43 rfl (lv_at hl 1 rfl) ?_
          refine va_get (D := (dC, dI)) (ci := 3) (v := .int r_ty) (C := "LoanRules$Rule") (T := Fz_R) (N := 11) hx hb hts it_R hown hK hP 3 rfl rfl 1 (by decide) (hts _ tw_177) (fun _ h9 => h9) rfl d_C_fits_44 ?_
          refine lv_aload_n hx hb d_C_fits_47 rfl (lv_at hl 0 rfl) ?_
          refine va_get (D := (dC, dI)) (ci := 0) (v := .ref a_cty) (C := "LoanRules") (T := Fz_C) (N := 16) hx hb hts it_C hown hK hP 0 rfl rfl 7 (by decide) (hts _ tw_111) (fun _ h9 => h9) rfl d_C_fits_48 ?_
          refine lv_iload_n hx hb d_C_fits_51 rfl (lv_at hl 3 rfl) ?_
          have i_11 : vp_in p1 50 := ix50 (itemC c_6)
          refine va_iald (D := (dC, dI)) hx hb hK hP 2 1 rfl rfl i_11 d_C_fits_52 ?_
          refine lv_icmp_ne (tgt := 76) hx hb d_C_fits_53 (by decide) (fun c_12 => ?_) (fun c_12 => ?_)
          · rw [if_neg c_12] at hE
            refine lv_iconst (v := 0) hx hb d_C_fits_76 (by decide) ?_
            exact W.zret (v := 0) hx hb hr rfl (fun t ht hW => ⟨0, rfl, hE.symm.trans hz, ht⟩) (fun _ h => by cases h) d_C_fits_77
          · rw [if_pos c_12] at hE
            refine lv_aload_n hx hb d_C_fits_56 rfl (lv_at hl 1 rfl) ?_
            refine va_get (D := (dC, dI)) (ci := 3) (v := .int r_pe) (C := "LoanRules$Rule") (T := Fz_R) (N := 11) hx hb hts it_R hown hK hP 3 rfl rfl 2 (by decide) (hts _ tw_180) (fun _ h9 => h9) rfl d_C_fits_57 ?_
            refine lv_iconst (v := (-1)) hx hb d_C_fits_60 (by decide) ?_
            refine lv_icmp_eq (tgt := 72) hx hb d_C_fits_61 (by decide) (fun c_13 => ?_) (fun c_13 => ?_)
            · rw [if_pos c_13] at hE
              refine lv_iconst (v := 1) hx hb d_C_fits_72 (by decide) ?_
              refine lv_goto (tgt := 77) hx hb d_C_fits_73 (by decide) ?_
              exact W.zret (v := 1) hx hb hr rfl (fun t ht hW => ⟨1, rfl, hE.symm.trans hz, ht⟩) (fun _ h => by cases h) d_C_fits_77
            · rw [if_neg c_13] at hE
              refine lv_aload_n hx hb d_C_fits_64 rfl (lv_at hl 1 rfl) ?_
              refine va_get (D := (dC, dI)) (ci := 3) (v := .int r_pe) (C := "LoanRules$Rule") (T := Fz_R) (N := 11) hx hb hts it_R hown hK hP 3 rfl rfl 2 (by decide) (hts _ tw_180) (fun _ h9 => h9) rfl d_C_fits_65 ?_
              refine lv_iload_n hx hb d_C_fits_68 rfl (lv_at hl 2 rfl) ?_
              refine lv_icmp_ne (tgt := 76) hx hb d_C_fits_69 (by decide) (fun c_14 => ?_) (fun c_14 => ?_)
              · rw [if_neg c_14] at hE
                refine lv_iconst (v := 0) hx hb d_C_fits_76 (by decide) ?_
                exact W.zret (v := 0) hx hb hr rfl (fun t ht hW => ⟨0, rfl, hE.symm.trans hz, ht⟩) (fun _ h => by cases h) d_C_fits_77
              · rw [if_pos c_14] at hE
                refine lv_iconst (v := 1) hx hb d_C_fits_72 (by decide) ?_
                refine lv_goto (tgt := 77) hx hb d_C_fits_73 (by decide) ?_
                exact W.zret (v := 1) hx hb hr rfl (fun t ht hW => ⟨1, rfl, hE.symm.trans hz, ht⟩) (fun _ h => by cases h) d_C_fits_77
      · rw [if_neg c_7] at hE
        refine lv_aload_n hx hb d_C_fits_22 rfl (lv_at hl 1 rfl) ?_
        refine va_get (D := (dC, dI)) (ci := 3) (v := .int r_ki) (C := "LoanRules$Rule") (T := Fz_R) (N := 11) hx hb hts it_R hown hK hP 3 rfl rfl 0 (by decide) (hts _ tw_174) (fun _ h9 => h9) rfl d_C_fits_23 ?_
        refine lv_aload_n hx hb d_C_fits_26 rfl (lv_at hl 0 rfl) ?_
        refine va_get (D := (dC, dI)) (ci := 0) (v := .ref a_cki) (C := "LoanRules") (T := Fz_C) (N := 16) hx hb hts it_C hown hK hP 0 rfl rfl 5 (by decide) (hts _ tw_109) (fun _ h9 => h9) rfl d_C_fits_27 ?_
        refine lv_iload_n hx hb d_C_fits_30 rfl (lv_at hl 2 rfl) ?_
        have i_15 : vp_in p0 50 := ix50 (persC c_3)
        refine va_iald (D := (dC, dI)) hx hb hK hP 1 0 rfl rfl i_15 d_C_fits_31 ?_
        refine lv_icmp_ne (tgt := 76) hx hb d_C_fits_32 (by decide) (fun c_16 => ?_) (fun c_16 => ?_)
        · rw [if_neg c_16] at hE
          refine lv_iconst (v := 0) hx hb d_C_fits_76 (by decide) ?_
          exact W.zret (v := 0) hx hb hr rfl (fun t ht hW => ⟨0, rfl, hE.symm.trans hz, ht⟩) (fun _ h => by cases h) d_C_fits_77
        · rw [if_pos c_16] at hE
          refine lv_aload_n hx hb d_C_fits_35 rfl (lv_at hl 1 rfl) ?_
          refine va_get (D := (dC, dI)) (ci := 3) (v := .int r_ty) (C := "LoanRules$Rule") (T := Fz_R) (N := 11) hx hb hts it_R hown hK hP 3 rfl rfl 1 (by decide) (hts _ tw_177) (fun _ h9 => h9) rfl d_C_fits_36 ?_
          refine lv_iconst (v := (-1)) hx hb d_C_fits_39 (by decide) ?_
          refine lv_icmp_eq (tgt := 56) hx hb d_C_fits_40 (by decide) (fun c_17 => ?_) (fun c_17 => ?_)
          · rw [if_pos c_17] at hE
            refine lv_aload_n hx hb d_C_fits_56 rfl (lv_at hl 1 rfl) ?_
            refine va_get (D := (dC, dI)) (ci := 3) (v := .int r_pe) (C := "LoanRules$Rule") (T := Fz_R) (N := 11) hx hb hts it_R hown hK hP 3 rfl rfl 2 (by decide) (hts _ tw_180) (fun _ h9 => h9) rfl d_C_fits_57 ?_
            refine lv_iconst (v := (-1)) hx hb d_C_fits_60 (by decide) ?_
            refine lv_icmp_eq (tgt := 72) hx hb d_C_fits_61 (by decide) (fun c_18 => ?_) (fun c_18 => ?_)
            · rw [if_pos c_18] at hE
              refine lv_iconst (v := 1) hx hb d_C_fits_72 (by decide) ?_
              refine lv_goto (tgt := 77) hx hb d_C_fits_73 (by decide) ?_
              exact W.zret (v := 1) hx hb hr rfl (fun t ht hW => ⟨1, rfl, hE.symm.trans hz, ht⟩) (fun _ h => by cases h) d_C_fits_77
            · rw [if_neg c_18] at hE
              refine lv_aload_n hx hb d_C_fits_64 rfl (lv_at hl 1 rfl) ?_
              refine va_get (D := (dC, dI)) (ci := 3) (v := .int r_pe) (C := "LoanRules$Rule") (T := Fz_R) (N := 11) hx hb hts it_R hown hK hP 3 rfl rfl 2 (by decide) (hts _ tw_180) (fun _ h9 => h9) rfl d_C_fits_65 ?_
              refine lv_iload_n hx hb d_C_fits_68 rfl (lv_at hl 2 rfl) ?_
              refine lv_icmp_ne (tgt := 76) hx hb d_C_fits_69 (by decide) (fun c_19 => ?_) (fun c_19 => ?_)
              · rw [if_neg c_19] at hE
                refine lv_iconst (v := 0) hx hb d_C_fits_76 (by decide) ?_
                exact W.zret (v := 0) hx hb hr rfl (fun t ht hW => ⟨0, rfl, hE.symm.trans hz, ht⟩) (fun _ h => by cases h) d_C_fits_77
              · rw [if_pos c_19] at hE
                refine lv_iconst (v := 1) hx hb d_C_fits_72 (by decide) ?_
                refine lv_goto (tgt := 77) hx hb d_C_fits_73 (by decide) ?_
                exact W.zret (v := 1) hx hb hr rfl (fun t ht hW => ⟨1, rfl, hE.symm.trans hz, ht⟩) (fun _ h => by cases h) d_C_fits_77
          · rw [if_neg c_17] at hE
            refine lv_aload_n hx hb d_C_fits_43 rfl (lv_at hl 1 rfl) ?_
            refine va_get (D := (dC, dI)) (ci := 3) (v := .int r_ty) (C := "LoanRules$Rule") (T := Fz_R) (N := 11) hx hb hts it_R hown hK hP 3 rfl rfl 1 (by decide) (hts _ tw_177) (fun _ h9 => h9) rfl d_C_fits_44 ?_
            refine lv_aload_n hx hb d_C_fits_47 rfl (lv_at hl 0 rfl) ?_
            refine va_get (D := (dC, dI)) (ci := 0) (v := .ref a_cty) (C := "LoanRules") (T := Fz_C) (N := 16) hx hb hts it_C hown hK hP 0 rfl rfl 7 (by decide) (hts _ tw_111) (fun _ h9 => h9) rfl d_C_fits_48 ?_
            refine lv_iload_n hx hb d_C_fits_51 rfl (lv_at hl 3 rfl) ?_
            have i_20 : vp_in p1 50 := ix50 (itemC c_6)
            refine va_iald (D := (dC, dI)) hx hb hK hP 2 1 rfl rfl i_20 d_C_fits_52 ?_
            refine lv_icmp_ne (tgt := 76) hx hb d_C_fits_53 (by decide) (fun c_21 => ?_) (fun c_21 => ?_)
            · rw [if_neg c_21] at hE
              refine lv_iconst (v := 0) hx hb d_C_fits_76 (by decide) ?_
              exact W.zret (v := 0) hx hb hr rfl (fun t ht hW => ⟨0, rfl, hE.symm.trans hz, ht⟩) (fun _ h => by cases h) d_C_fits_77
            · rw [if_pos c_21] at hE
              refine lv_aload_n hx hb d_C_fits_56 rfl (lv_at hl 1 rfl) ?_
              refine va_get (D := (dC, dI)) (ci := 3) (v := .int r_pe) (C := "LoanRules$Rule") (T := Fz_R) (N := 11) hx hb hts it_R hown hK hP 3 rfl rfl 2 (by decide) (hts _ tw_180) (fun _ h9 => h9) rfl d_C_fits_57 ?_
              refine lv_iconst (v := (-1)) hx hb d_C_fits_60 (by decide) ?_
              refine lv_icmp_eq (tgt := 72) hx hb d_C_fits_61 (by decide) (fun c_22 => ?_) (fun c_22 => ?_)
              · rw [if_pos c_22] at hE
                refine lv_iconst (v := 1) hx hb d_C_fits_72 (by decide) ?_
                refine lv_goto (tgt := 77) hx hb d_C_fits_73 (by decide) ?_
                exact W.zret (v := 1) hx hb hr rfl (fun t ht hW => ⟨1, rfl, hE.symm.trans hz, ht⟩) (fun _ h => by cases h) d_C_fits_77
              · rw [if_neg c_22] at hE
                refine lv_aload_n hx hb d_C_fits_64 rfl (lv_at hl 1 rfl) ?_
                refine va_get (D := (dC, dI)) (ci := 3) (v := .int r_pe) (C := "LoanRules$Rule") (T := Fz_R) (N := 11) hx hb hts it_R hown hK hP 3 rfl rfl 2 (by decide) (hts _ tw_180) (fun _ h9 => h9) rfl d_C_fits_65 ?_
                refine lv_iload_n hx hb d_C_fits_68 rfl (lv_at hl 2 rfl) ?_
                refine lv_icmp_ne (tgt := 76) hx hb d_C_fits_69 (by decide) (fun c_23 => ?_) (fun c_23 => ?_)
                · rw [if_neg c_23] at hE
                  refine lv_iconst (v := 0) hx hb d_C_fits_76 (by decide) ?_
                  exact W.zret (v := 0) hx hb hr rfl (fun t ht hW => ⟨0, rfl, hE.symm.trans hz, ht⟩) (fun _ h => by cases h) d_C_fits_77
                · rw [if_pos c_23] at hE
                  refine lv_iconst (v := 1) hx hb d_C_fits_72 (by decide) ?_
                  refine lv_goto (tgt := 77) hx hb d_C_fits_73 (by decide) ?_
                  exact W.zret (v := 1) hx hb hr rfl (fun t ht hW => ⟨1, rfl, hE.symm.trans hz, ht⟩) (fun _ h => by cases h) d_C_fits_77
def g_Cg_isExcepted (p0 : Int32) (p1 : Int32) (p2 : Int32) (f_cex : Nat → Int32) : Int32 :=
  if ((p0 * 40) + p1) < 0 then
    0
  else
    if 2000 ≤ ((p0 * 40) + p1) then
      0
    else
      if (f_cex ((p0 * 40) + p1).toNatClampNeg) < p2 then
        0
      else
        1
set_option maxHeartbeats 4000000 in
set_option maxRecDepth 100000 in
theorem c_Cg_isExcepted (l : Launch) (dC : Nat → ClassId) (dI : Nat → Nat → Nat) (adK adV : Nat → Nat) (a_h : Nat) (a_cex : Nat) (k_cex : ClassId) (p0 : Int32) (p1 : Int32) (p2 : Int32) (a_tx : Nat) (a_cru : Nat) (w_nr : Int32) (a_cd : Nat) (a_td : Nat) (a_cki : Nat) (a_cca : Nat) (a_cty : Nat) (a_cio : Nat) (a_clo : Nat) (w_nl : Int32) (a_cfi : Nat) (w_nf : Int32) (a_ccl : Nat) (w_nc : Int32) (f_cex : Nat → Int32) : Met l y_C_isExcepted ws_C_isExcepted ({ frames := 0, cells := 0, slots := 0, locals := 0 }) (va_Pc [.ref a_h, .int p0, .int p1, .int p2] (fun U => zz adK adV (fun _ => False) U ∧ va_P (dC, dI) vwCl [(a_h, .inr (0, [.ref a_tx, .ref a_cru, .int w_nr, .ref a_cd, .ref a_td, .ref a_cki, .ref a_cca, .ref a_cty, .ref a_cio, .ref a_cex, .ref a_clo, .int w_nl, .ref a_cfi, .int w_nf, .ref a_ccl, .int w_nc])), (a_cex, .inl (k_cex, 2000, .inl f_cex))] U.heap ∧ va_K (dC, dI) vwCl [(k_cex, .int)] U)) (vp_Si (fun r => r = g_Cg_isExcepted p0 p1 p2 f_cex)) 0 0 (fun _ => False) := by
  refine Met.ofW (cc := c_C_isExcepted) (maxL := 5) (ret := (some .boolean)) (by decide) rfl ?_
  intro p e s m args below meth c s₁ B hml hv
  obtain ⟨rfl, hZ, hP, hK⟩ := hv
  have hx := B.exec
  have hb := B.bytes
  have hr := B.returns
  have hts0 := atoms_spec (ws := ws_C_isExcepted) B.pre
  have hts : ∀ w ∈ TT, w.before _ s = true := fun w h => hts0 w (List.mem_cons_of_mem _ h)
  have hown : s.vm.findClass "LoanRules" = some m.cls := findClass_of_methodNamed B.named
  have hlocks := B.notSynchronized
  have hS : va_S (fun _ => False) s.heap s.heap [] := va_S.rf
  replace hP : va_P (dC, dI) vwCl [(a_h, .inr (0, [.ref a_tx, .ref a_cru, .int w_nr, .ref a_cd, .ref a_td, .ref a_cki, .ref a_cca, .ref a_cty, .ref a_cio, .ref a_cex, .ref a_clo, .int w_nl, .ref a_cfi, .int w_nf, .ref a_ccl, .int w_nc])), (a_cex, .inl (k_cex, 2000, .inl f_cex))] s.heap := hP
  have hl := lv_entry ([.ref a_h, .int p0, .int p1, .int p2]) (n := 5) (Nat.le_of_ble_eq_true rfl)
  rw [lg_entry_eq]
  generalize (lg_sl ([.ref a_h, .int p0, .int p1, .int p2]) ++ List.replicate (5 - (lg_sl ([.ref a_h, .int p0, .int p1, .int p2])).length) Slot.unset).toArray = ls at hl ⊢
  replace hl : lv_has ls 5 [(0, .ref a_h), (1, .int p0), (2, .int p1), (3, .int p2)] := hl
  obtain ⟨z, hz⟩ : ∃ z, z = g_Cg_isExcepted p0 p1 p2 f_cex := ⟨_, rfl⟩
  have hE := hz
  rw [g_Cg_isExcepted] at hE
  refine lv_iload_n hx hb d_C_isExcepted_0 rfl (lv_at hl 1 rfl) ?_
  refine lv_bipush (v := 40) hx hb d_C_isExcepted_1 (by decide) ?_
  refine lv_imul hx hb d_C_isExcepted_3 ?_
  refine lv_iload_n hx hb d_C_isExcepted_4 rfl (lv_at hl 2 rfl) ?_
  refine lv_iadd hx hb d_C_isExcepted_5 ?_
  refine lv_istore (lv' := [(4, .int ((p0 * 40) + p1)), (0, .ref a_h), (1, .int p0), (2, .int p1), (3, .int p2)]) hx hb d_C_isExcepted_6 hl (by decide) rfl (fun ls hl => ?_)
  refine lv_iload hx hb d_C_isExcepted_8 (lv_at hl 0 rfl) ?_
  refine lv_if_lt (tgt := 38) hx hb d_C_isExcepted_10 (by decide) (fun c_1 => ?_) (fun c_1 => ?_)
  · rw [if_pos c_1] at hE
    refine lv_iconst (v := 0) hx hb d_C_isExcepted_38 (by decide) ?_
    exact W.zret (v := 0) hx hb hr rfl (fun t ht hW => ⟨0, rfl, hE.symm.trans hz, ht⟩) (fun _ h => by cases h) d_C_isExcepted_39
  · rw [if_neg c_1] at hE
    refine lv_iload hx hb d_C_isExcepted_13 (lv_at hl 0 rfl) ?_
    refine lv_aload_n hx hb d_C_isExcepted_15 rfl (lv_at hl 1 rfl) ?_
    refine va_get (D := (dC, dI)) (ci := 0) (v := .ref a_cex) (C := "LoanRules") (T := Fz_C) (N := 16) hx hb hts it_C hown hK hP 0 rfl rfl 9 (by decide) (hts _ tw_113) (fun _ h9 => h9) rfl d_C_isExcepted_16 ?_
    refine va_alen (D := (dC, dI)) (v := 2000) hx hb hK hP 1 0 rfl rfl rfl d_C_isExcepted_19 ?_
    refine lv_icmp_ge (tgt := 38) hx hb d_C_isExcepted_20 (by decide) (fun c_2 => ?_) (fun c_2 => ?_)
    · rw [if_pos c_2] at hE
      refine lv_iconst (v := 0) hx hb d_C_isExcepted_38 (by decide) ?_
      exact W.zret (v := 0) hx hb hr rfl (fun t ht hW => ⟨0, rfl, hE.symm.trans hz, ht⟩) (fun _ h => by cases h) d_C_isExcepted_39
    · rw [if_neg c_2] at hE
      refine lv_iload_n hx hb d_C_isExcepted_23 rfl (lv_at hl 4 rfl) ?_
      refine lv_aload_n hx hb d_C_isExcepted_24 rfl (lv_at hl 1 rfl) ?_
      refine va_get (D := (dC, dI)) (ci := 0) (v := .ref a_cex) (C := "LoanRules") (T := Fz_C) (N := 16) hx hb hts it_C hown hK hP 0 rfl rfl 9 (by decide) (hts _ tw_113) (fun _ h9 => h9) rfl d_C_isExcepted_25 ?_
      refine lv_iload hx hb d_C_isExcepted_28 (lv_at hl 0 rfl) ?_
      have i_3 : vp_in ((p0 * 40) + p1) 2000 := li_in (li_n0 c_1) c_2
      refine va_iald (D := (dC, dI)) hx hb hK hP 1 0 rfl rfl i_3 d_C_isExcepted_30 ?_
      refine lv_icmp_gt (tgt := 38) hx hb d_C_isExcepted_31 (by decide) (fun c_4 => ?_) (fun c_4 => ?_)
      · rw [if_pos c_4] at hE
        refine lv_iconst (v := 0) hx hb d_C_isExcepted_38 (by decide) ?_
        exact W.zret (v := 0) hx hb hr rfl (fun t ht hW => ⟨0, rfl, hE.symm.trans hz, ht⟩) (fun _ h => by cases h) d_C_isExcepted_39
      · rw [if_neg c_4] at hE
        refine lv_iconst (v := 1) hx hb d_C_isExcepted_34 (by decide) ?_
        refine lv_goto (tgt := 39) hx hb d_C_isExcepted_35 (by decide) ?_
        exact W.zret (v := 1) hx hb hr rfl (fun t ht hW => ⟨1, rfl, hE.symm.trans hz, ht⟩) (fun _ h => by cases h) d_C_isExcepted_39
set_option maxHeartbeats 4000000 in
set_option maxRecDepth 100000 in
theorem c_Cg_openDayFrom (l : Launch) (dC : Nat → ClassId) (dI : Nat → Nat → Nat) (adK adV : Nat → Nat) (a_h : Nat) (a_cd : Nat) (a_cw : Nat) (k_cw : ClassId) (p0 : Int32) (a_tx : Nat) (a_cru : Nat) (w_nr : Int32) (a_td : Nat) (a_cki : Nat) (a_cca : Nat) (a_cty : Nat) (a_cio : Nat) (a_cex : Nat) (a_clo : Nat) (w_nl : Int32) (a_cfi : Nat) (w_nf : Int32) (a_ccl : Nat) (w_nc : Int32) (f_cw : Nat → Int64) (hp0 : p0.toInt < 20000) : Met l y_C_openDayFrom ws_C_openDayFrom ({ frames := 3, cells := 0, slots := 0, locals := 66 }) (va_Pc [.ref a_h, .int p0] (fun U => zz adK adV (fun _ => False) U ∧ va_P (dC, dI) vwCl [(a_h, .inr (0, [.ref a_tx, .ref a_cru, .int w_nr, .ref a_cd, .ref a_td, .ref a_cki, .ref a_cca, .ref a_cty, .ref a_cio, .ref a_cex, .ref a_clo, .int w_nl, .ref a_cfi, .int w_nf, .ref a_ccl, .int w_nc])), (a_cd, .inr (1, [.ref a_cw])), (a_cw, .inl (k_cw, 157, .inr (.inl f_cw)))] U.heap ∧ va_K (dC, dI) vwCl [(k_cw, .long)] U)) (vp_Si (fun r => r = g_Cg_firstFrom p0 0 f_cw)) 0 0 (fun _ => False) := by
  refine Met.ofW (cc := c_C_openDayFrom) (maxL := 2) (ret := (some .int)) (by decide) rfl ?_
  intro p e s m args below meth c s₁ B hml hv
  obtain ⟨rfl, hZ, hP, hK⟩ := hv
  have hx := B.exec
  have hb := B.bytes
  have hr := B.returns
  have hts0 := atoms_spec (ws := ws_C_openDayFrom) B.pre
  have hts : ∀ w ∈ TT, w.before _ s = true := fun w h => hts0 w (List.mem_cons_of_mem _ h)
  have hown : s.vm.findClass "LoanRules" = some m.cls := findClass_of_methodNamed B.named
  have hlocks := B.notSynchronized
  have hS : va_S (fun _ => False) s.heap s.heap [] := va_S.rf
  replace hP : va_P (dC, dI) vwCl [(a_h, .inr (0, [.ref a_tx, .ref a_cru, .int w_nr, .ref a_cd, .ref a_td, .ref a_cki, .ref a_cca, .ref a_cty, .ref a_cio, .ref a_cex, .ref a_clo, .int w_nl, .ref a_cfi, .int w_nf, .ref a_ccl, .int w_nc])), (a_cd, .inr (1, [.ref a_cw])), (a_cw, .inl (k_cw, 157, .inr (.inl f_cw)))] s.heap := hP
  have hl := lv_entry ([.ref a_h, .int p0]) (n := 2) (Nat.le_of_ble_eq_true rfl)
  rw [lg_entry_eq]
  generalize (lg_sl ([.ref a_h, .int p0]) ++ List.replicate (2 - (lg_sl ([.ref a_h, .int p0])).length) Slot.unset).toArray = ls at hl ⊢
  replace hl : lv_has ls 2 [(0, .ref a_h), (1, .int p0)] := hl
  refine lv_aload_n hx hb d_C_openDayFrom_0 rfl (lv_at hl 0 rfl) ?_
  refine va_get (D := (dC, dI)) (ci := 0) (v := .ref a_cd) (C := "LoanRules") (T := Fz_C) (N := 16) hx hb hts it_C hown hK hP 0 rfl rfl 3 (by decide) (hts _ tw_107) (fun _ h9 => h9) rfl d_C_openDayFrom_1 ?_
  refine lv_iload_n hx hb d_C_openDayFrom_4 rfl (lv_at hl 1 rfl) ?_
  refine lv_iconst (v := 0) hx hb d_C_openDayFrom_5 (by decide) ?_
  have hPc := hP.sub (ws' := [(a_cd, .inr (1, [.ref a_cw])), (a_cw, .inl (k_cw, 157, .inr (.inl f_cw)))]) [1, 2] rfl
  have hKc := hK.sub (tys' := [(k_cw, .long)]) [0] rfl
  refine vp_callSi (va_Run.run (va_runV (As := [.int p0, .int 0]) (rest := []) ⟨hx, hb, hml, hown, hts⟩ (c_Cg_firstFrom l dC dI adK adV (a_cd := a_cd) (p0 := p0) (p1 := 0) (a_cw := a_cw) (k_cw := k_cw) (f_cw := f_cw) hp0) (cwV 2 hts (gV tw_403 tw_404 tw_405 tw_44 tw_406) rfl rfl rfl (by decide +kernel) ⟨(Nat.le_of_ble_eq_true rfl), (Nat.le_of_ble_eq_true rfl)⟩) ⟨fun a U g mk q => by obtain ⟨q0, qZ, qP, qK⟩ := q; exact ⟨q0, zz_call qZ, qP, va_K.moved (u := U) (U := U.calling g mk a) (Vm.Alike.refl U.vm) qK⟩, va_recv hKc hPc (ci := 1) (q0 := 0) rfl rfl, fun U hU hW => ⟨rfl, zz_rr hU hW hZ, by rw [hU]; exact hPc, va_K.moved hW.alike hKc⟩⟩ rfl rfl hl.1 rfl (lv_room (Nat.le_of_ble_eq_true rfl)) d_C_openDayFrom_6 ⟨(Nat.le_of_ble_eq_true rfl), (Nat.le_of_ble_eq_true rfl)⟩)) (fun r_1 hw_2 => ?_)
  clear hPc hKc
  subst hw_2
  exact W.iret (v := g_Cg_firstFrom p0 0 f_cw) hx hb hr (fun t ht hW => ⟨g_Cg_firstFrom p0 0 f_cw, rfl, rfl, ht⟩) (fun _ h => by cases h) d_C_openDayFrom_9
