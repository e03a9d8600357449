abbrev r999 (x : Int32) : Prop := 0 ≤ x.toInt ∧ x.toInt ≤ 999
def CI (w_ln w_nr w_nl w_nc : Int32) (F : Nat → Nat → Int32) (rho : Nat → Nat) : Prop := (0 ≤ w_ln.toInt ∧ w_ln.toInt ≤ 120) ∧ (0 ≤ w_nr.toInt ∧ w_nr.toInt ≤ 40) ∧ (0 ≤ w_nl.toInt ∧ w_nl.toInt ≤ 200) ∧ (0 ≤ w_nc.toInt ∧ w_nc.toInt ≤ 780) ∧ (∀ i, i < nN w_nl → rho i < nN w_nr) ∧ (∀ i, i < nN w_nr → 0 ≤ (F 4 i).toInt ∧ (F 4 i).toInt ≤ 999) ∧ (∀ i, i < nN w_nr → 0 ≤ (F 7 i).toInt ∧ (F 7 i).toInt ≤ 999) ∧ (∀ j, b01 (F 10 j))
theorem isd_s {s : Int32} (h : ¬ g_Cg_isDigit s = 0) : 48 ≤ s.toInt ∧ s.toInt ≤ 57 := by
  unfold g_Cg_isDigit at h
  have e1 : (48 : Int32).toInt = 48 := by decide
  have e2 : (57 : Int32).toInt = 57 := by decide
  split at h
  · exact absurd rfl h
  · rename_i h1
    split at h
    · exact absurd rfl h
    · rename_i h2
      rw [li_lt, e1] at h1
      rw [li_lt, e2] at h2
      omega
theorem gl_num_v {p0 ln : Int32} {f : Nat → Int32} (hp : p0.toInt ≤ 3) (hln : i120 ln) : ∀ (n : Nat) (a fd v : Int32), 0 ≤ fd.toInt → fd.toInt ≤ a.toInt → a.toInt ≤ 120 → (0 ≤ v.toInt ∧ v.toInt ≤ 999 ∧ (a.toInt - fd.toInt = 0 → v.toInt ≤ 0) ∧ (a.toInt - fd.toInt = 1 → v.toInt ≤ 9) ∧ (a.toInt - fd.toInt = 2 → v.toInt ≤ 99)) → r999 (gl_num n p0 ln f a fd v).2.2 := by
  intro n
  induction n with
  | zero => intro a fd v _ _ _ h; exact ⟨h.1, h.2.1⟩
  | succ n ih =>
    intro a fd v h0 h1 h2 h
    have hl := hln.2
    rw [gl_num]
    split
    · exact ⟨h.1, h.2.1⟩
    · rename_i c1
      rw [li_le] at c1
      have ea : (a + 1).toInt = a.toInt + 1 := li_inc (by omega) (by omega)
      have es : (a - fd).toInt = a.toInt - fd.toInt := li_sub (by omega) (by omega)
      split
      · exact ⟨h.1, h.2.1⟩
      · rename_i c2
        have hd := isd_s c2
        split
        · rename_i c3
          refine ih _ _ _ h0 (by omega) (by omega) ⟨h.1, h.2.1, ?_, ?_, ?_⟩ <;> omega
        · rename_i c3
          rw [li_le, es] at c3
          have e48 : (48 : Int32).toInt = 48 := by decide
          have e10 : (10 : Int32).toInt = 10 := by decide
          have hv : v.toInt ≤ 99 := by omega
          have em : (v * 10).toInt = v.toInt * 10 := by rw [li_mul (by rw [e10]; omega) (by rw [e10]; omega), e10]
          have ed : (g_Cg_signAt a ln f - 48).toInt = (g_Cg_signAt a ln f).toInt - 48 := by rw [li_sub (by rw [e48]; omega) (by rw [e48]; omega), e48]
          have ev : (v * 10 + (g_Cg_signAt a ln f - 48)).toInt = v.toInt * 10 + ((g_Cg_signAt a ln f).toInt - 48) := by rw [li_add (by omega) (by omega), em, ed]
          refine ih _ _ _ h0 (by omega) (by omega) ⟨?_, ?_, ?_, ?_, ?_⟩ <;> omega
theorem tn_v {p1 w_ln w_pl w_wr : Int32} {f : Nat → Int32} (hln : i120 w_ln) (hpl : i120 w_pl) : r999 (g_Cg_takeNumber 3 p1 w_ln w_pl w_wr f).1 := by
  have h0 := tsp_at (w_wr := w_wr) (f_sg := f) hln hpl
  have h := gl_num_v (p0 := 3) (f := f) (by decide) hln 121 (g_Cg_takeSpace w_ln w_pl w_wr f).1 (g_Cg_takeSpace w_ln w_pl w_wr f).1 0 h0.1 (Int.le_refl _) h0.2 (by refine ⟨by decide, by decide, fun _ => by decide, fun _ => by decide, fun _ => by decide⟩)
  unfold g_Cg_takeNumber
  repeat' (first | with_reducible refine pt_i (fun t : Int32 × Int32 × Int32 => r999 t.1) (fun _ => ?_) (fun _ => ?_) | with_reducible refine pt_v (fun t : Int32 × Int32 × Int32 => r999 t.1) ?_)
  all_goals with_reducible exact h
theorem rop_v {iw : Nat} {p0 w_ln w_pl w_wr : Int32} {f : Nat → Int32} (hiw : iw < nst) (hln : i120 w_ln) (hpl : i120 w_pl) (hp : r999 p0) : r999 (g_Cg_readOption p0 iw w_ln w_pl w_wr f).1 := by
  have h := twb_at (f_sg := f) hiw hln hpl
  unfold g_Cg_readOption
  repeat' (first | with_reducible refine pt_i (fun t : Int32 × Int32 × Int32 => r999 t.1) (fun _ => ?_) (fun _ => ?_) | with_reducible refine pt_v (fun t : Int32 × Int32 × Int32 => r999 t.1) ?_)
  all_goals first | with_reducible exact hp | with_reducible exact tn_v hln h
theorem rln_v {w_ln w_pl w_wr r_da : Int32} {f : Nat → Int32} (hln : i120 w_ln) (hpl : i120 w_pl) (hp : r999 r_da) : r999 (g_Cg_readLength w_ln w_pl w_wr f r_da).2.2.2 := by
  have h := twb_at (iw := 0) (f_sg := f) (by decide) hln hpl
  unfold g_Cg_readLength
  repeat' (first | with_reducible refine pt_i (fun t : Int32 × Int32 × Int32 × Int32 => r999 t.2.2.2) (fun _ => ?_) (fun _ => ?_) | with_reducible refine pt_v (fun t : Int32 × Int32 × Int32 × Int32 => r999 t.2.2.2) ?_)
  all_goals first | with_reducible exact hp | with_reducible exact tn_v hln h
theorem rdd_v {w_ln w_pl w_wr r_de r_da : Int32} {f : Nat → Int32} (hln : i120 w_ln) (hpl : i120 w_pl) (hp : r999 r_da) : r999 (g_Cg_readDeed w_ln w_pl w_wr f r_de r_da).2.2.2 := by
  unfold g_Cg_readDeed
  repeat' (first | with_reducible refine pt_i (fun t : Int32 × Int32 × Int32 × Int32 => r999 t.2.2.2) (fun _ => ?_) (fun _ => ?_) | with_reducible refine pt_v (fun t : Int32 × Int32 × Int32 × Int32 => r999 t.2.2.2) ?_)
  all_goals first | with_reducible exact hp | with_reducible exact rln_v hln (twd_at (by decide) hln hpl) hp
theorem rrs_v {w_ln w_pl w_wr r_de r_re r_ga r_rc r_rk : Int32} {f : Nat → Int32} (hln : i120 w_ln) (hpl : i120 w_pl) (hp : r999 r_rc) : r999 (g_Cg_readRest w_ln w_pl w_wr f r_de r_re r_ga r_rc r_rk).2.2.2.2.1 := by
  unfold g_Cg_readRest
  repeat' (first | with_reducible refine pt_i (fun t : Int32 × Int32 × Int32 × Int32 × Int32 × Int32 => r999 t.2.2.2.2.1) (fun _ => ?_) (fun _ => ?_) | with_reducible refine pt_v (fun t : Int32 × Int32 × Int32 × Int32 × Int32 × Int32 => r999 t.2.2.2.2.1) ?_)
  all_goals first | with_reducible exact hp | with_reducible exact rop_v (by decide) hln (rop_at (by decide) hln (rop_at (by decide) hln hpl)) hp
theorem rin_da {w_ln r_de r_da r_re r_ga r_rc r_rk : Int32} {f : Nat → Int32} (hln : i120 w_ln) (hp : r999 r_da) : r999 (g_Cg_readInto w_ln f r_de r_da r_re r_ga r_rc r_rk).2.2.2.2.2.2.2.1 := by
  unfold g_Cg_readInto
  repeat' (first | with_reducible refine pt_v (fun t : Int32 × Int32 × Int32 × Int32 × Int32 × Int32 × Int32 × Int32 × Int32 × Int32 × Int32 × Int32 => r999 t.2.2.2.2.2.2.2.1) ?_)
  with_reducible exact rdd_v hln (rcn_at (by decide) hln (rcn_at (by decide) hln (rcn_at (by decide) hln (by decide)))) hp
theorem rin_rc {w_ln r_de r_da r_re r_ga r_rc r_rk : Int32} {f : Nat → Int32} (hln : i120 w_ln) (hp : r999 r_rc) : r999 (g_Cg_readInto w_ln f r_de r_da r_re r_ga r_rc r_rk).2.2.2.2.2.2.2.2.2.2.1 := by
  unfold g_Cg_readInto
  repeat' (first | with_reducible refine pt_v (fun t : Int32 × Int32 × Int32 × Int32 × Int32 × Int32 × Int32 × Int32 × Int32 × Int32 × Int32 × Int32 => r999 t.2.2.2.2.2.2.2.2.2.2.1) ?_)
  with_reducible exact rrs_v hln (rdd_at hln (rcn_at (by decide) hln (rcn_at (by decide) hln (rcn_at (by decide) hln (by decide))))) hp
section CIs
variable {w_ln w_nr w_nl w_nc : Int32} {F : Nat → Nat → Int32} {rho : Nat → Nat}
theorem ci_sign {p : Int32} {f : Nat → Int32} (h : CI w_ln w_nr w_nl w_nc F rho) : CI (g_Cg_sign p w_ln f).1 w_nr w_nl w_nc F rho := by
  refine ⟨?_, h.2⟩
  have h1 := h.1
  have e120 : (120 : Int32).toInt = 120 := by decide
  have hc : 0 ≤ (g_Cg_collect p w_ln f).1.toInt ∧ (g_Cg_collect p w_ln f).1.toInt ≤ 120 := by
    unfold g_Cg_collect
    split
    · rename_i c
      first
        | exact h1
        | (rw [li_lt, e120] at c
           show 0 ≤ (w_ln + 1).toInt ∧ (w_ln + 1).toInt ≤ 120
           rw [li_inc (by omega) (by omega)]; omega)
    · rename_i c
      first
        | exact h1
        | (rw [li_le, e120] at c
           show 0 ≤ (w_ln + 1).toInt ∧ (w_ln + 1).toInt ≤ 120
           rw [li_inc (by omega) (by omega)]; omega)
  exact hc
theorem ci_up {k j : Nat} {v : Int32} (hk : k ≠ 4) (hk7 : k ≠ 7) (hv : k = 10 → b01 v) (h : CI w_ln w_nr w_nl w_nc F rho) : CI w_ln w_nr w_nl w_nc (up2 F k j v) rho := by
  obtain ⟨h1, h2, h3, h4, h5, h6, h7, h8⟩ := h
  refine ⟨h1, h2, h3, h4, h5, fun i hi => ?_, fun i hi => ?_, fun i => ?_⟩
  · rw [show up2 F k j v 4 i = F 4 i by simp [up2, Ne.symm hk]]; exact h6 i hi
  · rw [show up2 F k j v 7 i = F 7 i by simp [up2, Ne.symm hk7]]; exact h7 i hi
  · unfold up2
    by_cases c : 10 = k
    · rw [if_pos c]
      split
      · exact hv c.symm
      · exact h8 i
    · rw [if_neg c]; exact h8 i
theorem ci_throwsUp {p0 p1 : Int32} (hb : b01 p1) (h : CI w_ln w_nr w_nl w_nc F rho) : CI w_ln w_nr w_nl w_nc (g_Cg_throwsUp p0 p1 w_nr F).2 rho := by
  unfold g_Cg_throwsUp
  split
  · split
    · exact ci_up (by decide) (by decide) (fun _ => hb) h
    · exact h
  · exact h
theorem ci_rule {f : Nat → Int32} (h : CI w_ln w_nr w_nl w_nc F rho) : CI (g_Cg_rule w_nr w_ln f F).2.2.1 (g_Cg_rule w_nr w_ln f F).2.1 w_nl w_nc (g_Cg_rule w_nr w_ln f F).2.2.2.2.2 rho := by
  obtain ⟨h1, h2, h3, h4, h5, h6, h7, h8⟩ := h
  have hda := rin_da (r_de := 2) (r_re := 0) (r_ga := 0) (r_rc := 7) (r_rk := 0) (f := f) h1 (show r999 0 by decide)
  have hrc := rin_rc (r_de := 2) (r_da := 0) (r_re := 0) (r_ga := 0) (r_rk := 0) (f := f) h1 (show r999 7 by decide)
  have hz : CI 0 w_nr w_nl w_nc F rho := ⟨by decide, h2, h3, h4, h5, h6, h7, h8⟩
  unfold g_Cg_rule
  with_reducible refine pt_v (fun t : Int32 × Int32 × Int32 × Int32 × Int32 × (Nat → Nat → Int32) => CI t.2.2.1 t.2.1 w_nl w_nc t.2.2.2.2.2 rho) ?_
  with_reducible refine pt_i (fun t : Int32 × Int32 × Int32 × Int32 × Int32 × (Nat → Nat → Int32) => CI t.2.2.1 t.2.1 w_nl w_nc t.2.2.2.2.2 rho) (fun _ => ?_) (fun _ => hz)
  with_reducible refine pt_i (fun t : Int32 × Int32 × Int32 × Int32 × Int32 × (Nat → Nat → Int32) => CI t.2.2.1 t.2.1 w_nl w_nc t.2.2.2.2.2 rho) (fun c => ?_) (fun _ => hz)
  have e40 : (40 : Int32).toInt = 40 := by decide
  rw [li_lt, e40] at c
  have en : nN (w_nr + 1) = nN w_nr + 1 := nN_1 h2.1 (by omega)
  have ei : (w_nr + 1).toInt = w_nr.toInt + 1 := li_inc (by omega) (by omega)
  refine ⟨show 0 ≤ (0 : Int32).toInt ∧ (0 : Int32).toInt ≤ 120 by decide, ?_, h3, h4, fun i hi => ?_, fun i hi => ?_, fun i hi => ?_, fun i => ?_⟩
  · show 0 ≤ (w_nr + 1).toInt ∧ (w_nr + 1).toInt ≤ 40
    omega
  · show rho i < nN (w_nr + 1)
    have := h5 i hi
    omega
  · change i < nN (w_nr + 1) at hi
    rw [en] at hi
    show 0 ≤ (fpush F (nN w_nr) _ 4 i).toInt ∧ (fpush F (nN w_nr) _ 4 i).toInt ≤ 999
    unfold fpush
    split
    · exact hda
    · exact h6 i (by omega)
  · change i < nN (w_nr + 1) at hi
    rw [en] at hi
    show 0 ≤ (fpush F (nN w_nr) _ 7 i).toInt ∧ (fpush F (nN w_nr) _ 7 i).toInt ≤ 999
    unfold fpush
    split
    · exact hrc
    · exact h7 i (by omega)
  · show b01 (fpush F (nN w_nr) _ 10 i)
    unfold fpush
    split
    · exact b01_0
    · exact h8 i
end CIs

