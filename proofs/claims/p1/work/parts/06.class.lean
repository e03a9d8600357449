def g_isDay (p0 : Int32) : Int32 :=
  if p0 < 0 then
    0
  else
    if 10000 ≤ p0 then
      0
    else
      1
set_option maxHeartbeats 4000000 in
set_option maxRecDepth 100000 in
theorem c_isDay (l : Launch) (dC : Nat → ClassId) (dI : Nat → Nat → Nat) (adK adV : Nat → Nat) (p0 : Int32) : Met l y_C_isDay ws_C_isDay ({ frames := 0, cells := 0, slots := 0, locals := 0 }) (va_Pc [.int p0] (fun U => zz adK adV (fun _ => False) U ∧ va_P (dC, dI) vwCl [] U.heap ∧ va_K (dC, dI) vwCl [] U)) (vp_Si (fun r => r = g_isDay p0)) 0 0 (fun _ => False) := by
  refine Met.ofW (cc := c_C_isDay) (maxL := 1) (ret := (some .boolean)) (by decide) rfl ?_
  intro p e s m args below meth c s₁ B hml hv
  obtain ⟨rfl, hZ, hP, hK⟩ := hv
  have hx := B.exec
  have hb := B.bytes
  have hr := B.returns
  have hts0 := atoms_spec (ws := ws_C_isDay) B.pre
  have hts : ∀ w ∈ TT, w.before _ s = true := fun w h => hts0 w (List.mem_cons_of_mem _ h)
  have hown : s.vm.findClass "LoanRules" = some m.cls := findClass_of_methodNamed B.named
  have hlocks := B.notSynchronized
  have hS : va_S (fun _ => False) s.heap s.heap [] := va_S.rf
  replace hP : va_P (dC, dI) vwCl [] s.heap := hP
  have hl := lv_entry ([.int p0]) (n := 1) (Nat.le_of_ble_eq_true rfl)
  rw [lg_entry_eq]
  generalize (lg_sl ([.int p0]) ++ List.replicate (1 - (lg_sl ([.int p0])).length) Slot.unset).toArray = ls at hl ⊢
  replace hl : lv_has ls 1 [(0, .int p0)] := hl
  obtain ⟨z, hz⟩ : ∃ z, z = g_isDay p0 := ⟨_, rfl⟩
  have hE := hz
  rw [g_isDay] at hE
  refine lv_iload_n hx hb d_C_isDay_0 rfl (lv_at hl 0 rfl) ?_
  refine lv_if_lt (tgt := 15) hx hb d_C_isDay_1 (by decide) (fun c_1 => ?_) (fun c_1 => ?_)
  · rw [if_pos c_1] at hE
    refine lv_iconst (v := 0) hx hb d_C_isDay_15 (by decide) ?_
    exact W.zret (v := 0) hx hb hr rfl (fun t ht hW => ⟨0, rfl, hE.symm.trans hz, ht⟩) (fun _ h => by cases h) d_C_isDay_16
  · rw [if_neg c_1] at hE
    refine lv_iload_n hx hb d_C_isDay_4 rfl (lv_at hl 0 rfl) ?_
    refine lv_sipush (v := 10000) hx hb d_C_isDay_5 (by decide) ?_
    refine lv_icmp_ge (tgt := 15) hx hb d_C_isDay_8 (by decide) (fun c_2 => ?_) (fun c_2 => ?_)
    · rw [if_pos c_2] at hE
      refine lv_iconst (v := 0) hx hb d_C_isDay_15 (by decide) ?_
      exact W.zret (v := 0) hx hb hr rfl (fun t ht hW => ⟨0, rfl, hE.symm.trans hz, ht⟩) (fun _ h => by cases h) d_C_isDay_16
    · rw [if_neg c_2] at hE
      refine lv_iconst (v := 1) hx hb d_C_isDay_11 (by decide) ?_
      refine lv_goto (tgt := 16) hx hb d_C_isDay_12 (by decide) ?_
      exact W.zret (v := 1) hx hb hr rfl (fun t ht hW => ⟨1, rfl, hE.symm.trans hz, ht⟩) (fun _ h => by cases h) d_C_isDay_16
def g_isPerson (p0 : Int32) : Int32 :=
  if p0 < 0 then
    0
  else
    if 50 ≤ p0 then
      0
    else
      1
set_option maxHeartbeats 4000000 in
set_option maxRecDepth 100000 in
theorem c_isPerson (l : Launch) (dC : Nat → ClassId) (dI : Nat → Nat → Nat) (adK adV : Nat → Nat) (p0 : Int32) : Met l y_C_isPerson ws_C_isPerson ({ frames := 0, cells := 0, slots := 0, locals := 0 }) (va_Pc [.int p0] (fun U => zz adK adV (fun _ => False) U ∧ va_P (dC, dI) vwCl [] U.heap ∧ va_K (dC, dI) vwCl [] U)) (vp_Si (fun r => r = g_isPerson p0)) 0 0 (fun _ => False) := by
  refine Met.ofW (cc := c_C_isPerson) (maxL := 1) (ret := (some .boolean)) (by decide) rfl ?_
  intro p e s m args below meth c s₁ B hml hv
  obtain ⟨rfl, hZ, hP, hK⟩ := hv
  have hx := B.exec
  have hb := B.bytes
  have hr := B.returns
  have hts0 := atoms_spec (ws := ws_C_isPerson) B.pre
  have hts : ∀ w ∈ TT, w.before _ s = true := fun w h => hts0 w (List.mem_cons_of_mem _ h)
  have hown : s.vm.findClass "LoanRules" = some m.cls := findClass_of_methodNamed B.named
  have hlocks := B.notSynchronized
  have hS : va_S (fun _ => False) s.heap s.heap [] := va_S.rf
  replace hP : va_P (dC, dI) vwCl [] s.heap := hP
  have hl := lv_entry ([.int p0]) (n := 1) (Nat.le_of_ble_eq_true rfl)
  rw [lg_entry_eq]
  generalize (lg_sl ([.int p0]) ++ List.replicate (1 - (lg_sl ([.int p0])).length) Slot.unset).toArray = ls at hl ⊢
  replace hl : lv_has ls 1 [(0, .int p0)] := hl
  obtain ⟨z, hz⟩ : ∃ z, z = g_isPerson p0 := ⟨_, rfl⟩
  have hE := hz
  rw [g_isPerson] at hE
  refine lv_iload_n hx hb d_C_isPerson_0 rfl (lv_at hl 0 rfl) ?_
  refine lv_if_lt (tgt := 14) hx hb d_C_isPerson_1 (by decide) (fun c_1 => ?_) (fun c_1 => ?_)
  · rw [if_pos c_1] at hE
    refine lv_iconst (v := 0) hx hb d_C_isPerson_14 (by decide) ?_
    exact W.zret (v := 0) hx hb hr rfl (fun t ht hW => ⟨0, rfl, hE.symm.trans hz, ht⟩) (fun _ h => by cases h) d_C_isPerson_15
  · rw [if_neg c_1] at hE
    refine lv_iload_n hx hb d_C_isPerson_4 rfl (lv_at hl 0 rfl) ?_
    refine lv_bipush (v := 50) hx hb d_C_isPerson_5 (by decide) ?_
    refine lv_icmp_ge (tgt := 14) hx hb d_C_isPerson_7 (by decide) (fun c_2 => ?_) (fun c_2 => ?_)
    · rw [if_pos c_2] at hE
      refine lv_iconst (v := 0) hx hb d_C_isPerson_14 (by decide) ?_
      exact W.zret (v := 0) hx hb hr rfl (fun t ht hW => ⟨0, rfl, hE.symm.trans hz, ht⟩) (fun _ h => by cases h) d_C_isPerson_15
    · rw [if_neg c_2] at hE
      refine lv_iconst (v := 1) hx hb d_C_isPerson_10 (by decide) ?_
      refine lv_goto (tgt := 15) hx hb d_C_isPerson_11 (by decide) ?_
      exact W.zret (v := 1) hx hb hr rfl (fun t ht hW => ⟨1, rfl, hE.symm.trans hz, ht⟩) (fun _ h => by cases h) d_C_isPerson_15
def g_isItem (p0 : Int32) : Int32 :=
  if p0 < 0 then
    0
  else
    if 50 ≤ p0 then
      0
    else
      1
set_option maxHeartbeats 4000000 in
set_option maxRecDepth 100000 in
theorem c_isItem (l : Launch) (dC : Nat → ClassId) (dI : Nat → Nat → Nat) (adK adV : Nat → Nat) (p0 : Int32) : Met l y_C_isItem ws_C_isItem ({ frames := 0, cells := 0, slots := 0, locals := 0 }) (va_Pc [.int p0] (fun U => zz adK adV (fun _ => False) U ∧ va_P (dC, dI) vwCl [] U.heap ∧ va_K (dC, dI) vwCl [] U)) (vp_Si (fun r => r = g_isItem p0)) 0 0 (fun _ => False) := by
  refine Met.ofW (cc := c_C_isItem) (maxL := 1) (ret := (some .boolean)) (by decide) rfl ?_
  intro p e s m args below meth c s₁ B hml hv
  obtain ⟨rfl, hZ, hP, hK⟩ := hv
  have hx := B.exec
  have hb := B.bytes
  have hr := B.returns
  have hts0 := atoms_spec (ws := ws_C_isItem) B.pre
  have hts : ∀ w ∈ TT, w.before _ s = true := fun w h => hts0 w (List.mem_cons_of_mem _ h)
  have hown : s.vm.findClass "LoanRules" = some m.cls := findClass_of_methodNamed B.named
  have hlocks := B.notSynchronized
  have hS : va_S (fun _ => False) s.heap s.heap [] := va_S.rf
  replace hP : va_P (dC, dI) vwCl [] s.heap := hP
  have hl := lv_entry ([.int p0]) (n := 1) (Nat.le_of_ble_eq_true rfl)
  rw [lg_entry_eq]
  generalize (lg_sl ([.int p0]) ++ List.replicate (1 - (lg_sl ([.int p0])).length) Slot.unset).toArray = ls at hl ⊢
  replace hl : lv_has ls 1 [(0, .int p0)] := hl
  obtain ⟨z, hz⟩ : ∃ z, z = g_isItem p0 := ⟨_, rfl⟩
  have hE := hz
  rw [g_isItem] at hE
  refine lv_iload_n hx hb d_C_isItem_0 rfl (lv_at hl 0 rfl) ?_
  refine lv_if_lt (tgt := 14) hx hb d_C_isItem_1 (by decide) (fun c_1 => ?_) (fun c_1 => ?_)
  · rw [if_pos c_1] at hE
    refine lv_iconst (v := 0) hx hb d_C_isItem_14 (by decide) ?_
    exact W.zret (v := 0) hx hb hr rfl (fun t ht hW => ⟨0, rfl, hE.symm.trans hz, ht⟩) (fun _ h => by cases h) d_C_isItem_15
  · rw [if_neg c_1] at hE
    refine lv_iload_n hx hb d_C_isItem_4 rfl (lv_at hl 0 rfl) ?_
    refine lv_bipush (v := 50) hx hb d_C_isItem_5 (by decide) ?_
    refine lv_icmp_ge (tgt := 14) hx hb d_C_isItem_7 (by decide) (fun c_2 => ?_) (fun c_2 => ?_)
    · rw [if_pos c_2] at hE
      refine lv_iconst (v := 0) hx hb d_C_isItem_14 (by decide) ?_
      exact W.zret (v := 0) hx hb hr rfl (fun t ht hW => ⟨0, rfl, hE.symm.trans hz, ht⟩) (fun _ h => by cases h) d_C_isItem_15
    · rw [if_neg c_2] at hE
      refine lv_iconst (v := 1) hx hb d_C_isItem_10 (by decide) ?_
      refine lv_goto (tgt := 15) hx hb d_C_isItem_11 (by decide) ?_
      exact W.zret (v := 1) hx hb hr rfl (fun t ht hW => ⟨1, rfl, hE.symm.trans hz, ht⟩) (fun _ h => by cases h) d_C_isItem_15
theorem in_person {x : Int32} (h : ¬ g_isPerson x = 0) : vp_in x 50 := by
  unfold g_isPerson at h
  split at h
  · exact absurd rfl h
  · split at h
    · exact absurd rfl h
    · exact lk_in 50 (by decide) (by assumption) (by assumption)
theorem in_item {x : Int32} (h : ¬ g_isItem x = 0) : vp_in x 50 := by
  unfold g_isItem at h
  split at h
  · exact absurd rfl h
  · split at h
    · exact absurd rfl h
    · exact lk_in 50 (by decide) (by assumption) (by assumption)
theorem in_day {x : Int32} (h : ¬ g_isDay x = 0) : vp_in (x / 64) 157 := by
  have h1 : vp_in x 10000 := by
    unfold g_isDay at h
    split at h
    · exact absurd rfl h
    · split at h
      · exact absurd rfl h
      · exact lk_in 10000 (by decide) (by assumption) (by assumption)
  obtain ⟨j, hj, rfl⟩ := vp_in_of h1 (by decide)
  have e : nI j / 64 = nI (j / 64) := by
    have := pk_div (a := j) (d := 64) (by omega) (by decide) (by decide)
    exact this
  rw [e]; exact vp_in_nI (by omega) (by decide)
set_option maxHeartbeats 4000000 in
set_option maxRecDepth 100000 in
theorem c_ruleAt (l : Launch) (dC : Nat → ClassId) (dI : Nat → Nat → Nat) (adK adV : Nat → Nat) (a_h : Nat) (p0 : Int32) (a_tx : Nat) (a_ru : Nat) (a_cd : Nat) (a_te : Nat) (a_ki : Nat) (a_ca : Nat) (a_ty : Nat) (a_io : Nat) (a_ex : Nat) (a_lo : Nat) (a_fi : Nat) (a_cl : Nat) : Met l y_C_ruleAt ws_C_ruleAt ({ frames := 0, cells := 0, slots := 0, locals := 0 }) (va_Pc [.ref a_h, .int p0] (fun U => zz adK adV (fun _ => False) U ∧ va_P (dC, dI) vwCl [(a_h, .inr (0, [.ref a_tx, .ref a_ru, .int 0, .ref a_cd, .ref a_te, .ref a_ki, .ref a_ca, .ref a_ty, .ref a_io, .ref a_ex, .ref a_lo, .int 0, .ref a_fi, .int 0, .ref a_cl, .int 0]))] U.heap ∧ va_K (dC, dI) vwCl [] U)) (va_Sq (fun r => r = none)) 0 0 (fun _ => False) := by
  refine Met.ofW (cc := c_C_ruleAt) (maxL := 2) (ret := (some (.object "LoanRules$Rule"))) (by decide) rfl ?_
  intro p e s m args below meth c s₁ B hml hv
  obtain ⟨rfl, hZ, hP, hK⟩ := hv
  have hx := B.exec
  have hb := B.bytes
  have hr := B.returns
  have hts0 := atoms_spec (ws := ws_C_ruleAt) B.pre
  have hts : ∀ w ∈ TT, w.before _ s = true := fun w h => hts0 w (List.mem_cons_of_mem _ h)
  have hown : s.vm.findClass "LoanRules" = some m.cls := findClass_of_methodNamed B.named
  have hlocks := B.notSynchronized
  have hS : va_S (fun _ => False) s.heap s.heap [] := va_S.rf
  replace hP : va_P (dC, dI) vwCl [(a_h, .inr (0, [.ref a_tx, .ref a_ru, .int 0, .ref a_cd, .ref a_te, .ref a_ki, .ref a_ca, .ref a_ty, .ref a_io, .ref a_ex, .ref a_lo, .int 0, .ref a_fi, .int 0, .ref a_cl, .int 0]))] s.heap := hP
  have hl := lv_entry ([.ref a_h, .int p0]) (n := 2) (Nat.le_of_ble_eq_true rfl)
  rw [lg_entry_eq]
  generalize (lg_sl ([.ref a_h, .int p0]) ++ List.replicate (2 - (lg_sl ([.ref a_h, .int p0])).length) Slot.unset).toArray = ls at hl ⊢
  replace hl : lv_has ls 2 [(0, .ref a_h), (1, .int p0)] := hl
  refine lv_iload_n hx hb d_C_ruleAt_0 rfl (lv_at hl 1 rfl) ?_
  refine lv_if_lt (tgt := 30) hx hb d_C_ruleAt_1 (by decide) (fun c_1 => ?_) (fun c_1 => ?_)
  · refine lv_null hx hb d_C_ruleAt_30 ?_
    exact W.aret (v := va_rf none) hx hb hr (Or.inl ⟨_, rfl⟩) (va_rf_or _) (fun t ht hW => ⟨none, rfl, rfl, ht⟩) (fun _ h => by cases h) d_C_ruleAt_31
  · refine lv_iload_n hx hb d_C_ruleAt_4 rfl (lv_at hl 1 rfl) ?_
    refine lv_aload_n hx hb d_C_ruleAt_5 rfl (lv_at hl 0 rfl) ?_
    refine va_get (D := (dC, dI)) (ci := 0) (v := .int 0) (C := "LoanRules") (T := Fz_C) (N := 16) hx hb hts it_C hown hK hP 0 rfl rfl 2 (by decide) (hts _ tw_106) (fun _ h9 => h9) rfl d_C_ruleAt_6 ?_
    refine lv_icmp_ge (tgt := 30) hx hb d_C_ruleAt_9 (by decide) (fun c_2 => ?_) (fun c_2 => ?_)
    · refine lv_null hx hb d_C_ruleAt_30 ?_
      exact W.aret (v := va_rf none) hx hb hr (Or.inl ⟨_, rfl⟩) (va_rf_or _) (fun t ht hW => ⟨none, rfl, rfl, ht⟩) (fun _ h => by cases h) d_C_ruleAt_31
    · exact absurd (lk_no c_1) c_2
set_option maxHeartbeats 4000000 in
set_option maxRecDepth 100000 in
theorem c_fittingAt (l : Launch) (dC : Nat → ClassId) (dI : Nat → Nat → Nat) (adK adV : Nat → Nat) (a_h : Nat) (p0 : Int32) (a_tx : Nat) (a_ru : Nat) (a_cd : Nat) (a_te : Nat) (a_ki : Nat) (a_ca : Nat) (a_ty : Nat) (a_io : Nat) (a_ex : Nat) (a_lo : Nat) (a_fi : Nat) (a_cl : Nat) : Met l y_C_fittingAt ws_C_fittingAt ({ frames := 0, cells := 0, slots := 0, locals := 0 }) (va_Pc [.ref a_h, .int p0] (fun U => zz adK adV (fun _ => False) U ∧ va_P (dC, dI) vwCl [(a_h, .inr (0, [.ref a_tx, .ref a_ru, .int 0, .ref a_cd, .ref a_te, .ref a_ki, .ref a_ca, .ref a_ty, .ref a_io, .ref a_ex, .ref a_lo, .int 0, .ref a_fi, .int 0, .ref a_cl, .int 0]))] U.heap ∧ va_K (dC, dI) vwCl [] U)) (vp_Si (fun r => r = (-1))) 0 0 (fun _ => False) := by
  refine Met.ofW (cc := c_C_fittingAt) (maxL := 2) (ret := (some .int)) (by decide) rfl ?_
  intro p e s m args below meth c s₁ B hml hv
  obtain ⟨rfl, hZ, hP, hK⟩ := hv
  have hx := B.exec
  have hb := B.bytes
  have hr := B.returns
  have hts0 := atoms_spec (ws := ws_C_fittingAt) B.pre
  have hts : ∀ w ∈ TT, w.before _ s = true := fun w h => hts0 w (List.mem_cons_of_mem _ h)
  have hown : s.vm.findClass "LoanRules" = some m.cls := findClass_of_methodNamed B.named
  have hlocks := B.notSynchronized
  have hS : va_S (fun _ => False) s.heap s.heap [] := va_S.rf
  replace hP : va_P (dC, dI) vwCl [(a_h, .inr (0, [.ref a_tx, .ref a_ru, .int 0, .ref a_cd, .ref a_te, .ref a_ki, .ref a_ca, .ref a_ty, .ref a_io, .ref a_ex, .ref a_lo, .int 0, .ref a_fi, .int 0, .ref a_cl, .int 0]))] s.heap := hP
  have hl := lv_entry ([.ref a_h, .int p0]) (n := 2) (Nat.le_of_ble_eq_true rfl)
  rw [lg_entry_eq]
  generalize (lg_sl ([.ref a_h, .int p0]) ++ List.replicate (2 - (lg_sl ([.ref a_h, .int p0])).length) Slot.unset).toArray = ls at hl ⊢
  replace hl : lv_has ls 2 [(0, .ref a_h), (1, .int p0)] := hl
  refine lv_iload_n hx hb d_C_fittingAt_0 rfl (lv_at hl 1 rfl) ?_
  refine lv_if_lt (tgt := 30) hx hb d_C_fittingAt_1 (by decide) (fun c_1 => ?_) (fun c_1 => ?_)
  · refine lv_iconst (v := (-1)) hx hb d_C_fittingAt_30 (by decide) ?_
    exact W.iret (v := (-1)) hx hb hr (fun t ht hW => ⟨(-1), rfl, rfl, ht⟩) (fun _ h => by cases h) d_C_fittingAt_31
  · refine lv_iload_n hx hb d_C_fittingAt_4 rfl (lv_at hl 1 rfl) ?_
    refine lv_aload_n hx hb d_C_fittingAt_5 rfl (lv_at hl 0 rfl) ?_
    refine va_get (D := (dC, dI)) (ci := 0) (v := .int 0) (C := "LoanRules") (T := Fz_C) (N := 16) hx hb hts it_C hown hK hP 0 rfl rfl 13 (by decide) (hts _ tw_117) (fun _ h9 => h9) rfl d_C_fittingAt_6 ?_
    refine lv_icmp_ge (tgt := 30) hx hb d_C_fittingAt_9 (by decide) (fun c_2 => ?_) (fun c_2 => ?_)
    · refine lv_iconst (v := (-1)) hx hb d_C_fittingAt_30 (by decide) ?_
      exact W.iret (v := (-1)) hx hb hr (fun t ht hW => ⟨(-1), rfl, rfl, ht⟩) (fun _ h => by cases h) d_C_fittingAt_31
    · exact absurd (lk_no c_1) c_2
set_option maxHeartbeats 4000000 in
set_option maxRecDepth 100000 in
theorem c_heldLoan (l : Launch) (dC : Nat → ClassId) (dI : Nat → Nat → Nat) (adK adV : Nat → Nat) (a_h : Nat) (p0 : Int32) (a_tx : Nat) (a_ru : Nat) (a_cd : Nat) (a_te : Nat) (a_ki : Nat) (a_ca : Nat) (a_ty : Nat) (a_io : Nat) (a_ex : Nat) (a_lo : Nat) (a_fi : Nat) (a_cl : Nat) : Met l y_C_heldLoan ws_C_heldLoan ({ frames := 0, cells := 0, slots := 0, locals := 0 }) (va_Pc [.ref a_h, .int p0] (fun U => zz adK adV (fun _ => False) U ∧ va_P (dC, dI) vwCl [(a_h, .inr (0, [.ref a_tx, .ref a_ru, .int 0, .ref a_cd, .ref a_te, .ref a_ki, .ref a_ca, .ref a_ty, .ref a_io, .ref a_ex, .ref a_lo, .int 0, .ref a_fi, .int 0, .ref a_cl, .int 0]))] U.heap ∧ va_K (dC, dI) vwCl [] U)) (va_Sq (fun r => r = none)) 0 0 (fun _ => False) := by
  refine Met.ofW (cc := c_C_heldLoan) (maxL := 3) (ret := (some (.object "LoanRules$Loan"))) (by decide) rfl ?_
  intro p e s m args below meth c s₁ B hml hv
  obtain ⟨rfl, hZ, hP, hK⟩ := hv
  have hx := B.exec
  have hb := B.bytes
  have hr := B.returns
  have hts0 := atoms_spec (ws := ws_C_heldLoan) B.pre
  have hts : ∀ w ∈ TT, w.before _ s = true := fun w h => hts0 w (List.mem_cons_of_mem _ h)
  have hown : s.vm.findClass "LoanRules" = some m.cls := findClass_of_methodNamed B.named
  have hlocks := B.notSynchronized
  have hS : va_S (fun _ => False) s.heap s.heap [] := va_S.rf
  replace hP : va_P (dC, dI) vwCl [(a_h, .inr (0, [.ref a_tx, .ref a_ru, .int 0, .ref a_cd, .ref a_te, .ref a_ki, .ref a_ca, .ref a_ty, .ref a_io, .ref a_ex, .ref a_lo, .int 0, .ref a_fi, .int 0, .ref a_cl, .int 0]))] s.heap := hP
  have hl := lv_entry ([.ref a_h, .int p0]) (n := 3) (Nat.le_of_ble_eq_true rfl)
  rw [lg_entry_eq]
  generalize (lg_sl ([.ref a_h, .int p0]) ++ List.replicate (3 - (lg_sl ([.ref a_h, .int p0])).length) Slot.unset).toArray = ls at hl ⊢
  replace hl : lv_has ls 3 [(0, .ref a_h), (1, .int p0)] := hl
  refine lv_iload_n hx hb d_C_heldLoan_0 rfl (lv_at hl 1 rfl) ?_
  refine lv_iconst (v := 1) hx hb d_C_heldLoan_1 (by decide) ?_
  refine lv_icmp_lt (tgt := 22) hx hb d_C_heldLoan_2 (by decide) (fun c_1 => ?_) (fun c_1 => ?_)
  · refine lv_null hx hb d_C_heldLoan_22 ?_
    exact W.aret (v := va_rf none) hx hb hr (Or.inl ⟨_, rfl⟩) (va_rf_or _) (fun t ht hW => ⟨none, rfl, rfl, ht⟩) (fun _ h => by cases h) d_C_heldLoan_23
  · refine lv_iload_n hx hb d_C_heldLoan_5 rfl (lv_at hl 1 rfl) ?_
    refine lv_aload_n hx hb d_C_heldLoan_6 rfl (lv_at hl 0 rfl) ?_
    refine va_get (D := (dC, dI)) (ci := 0) (v := .int 0) (C := "LoanRules") (T := Fz_C) (N := 16) hx hb hts it_C hown hK hP 0 rfl rfl 11 (by decide) (hts _ tw_115) (fun _ h9 => h9) rfl d_C_heldLoan_7 ?_
    refine lv_icmp_gt (tgt := 22) hx hb d_C_heldLoan_10 (by decide) (fun c_2 => ?_) (fun c_2 => ?_)
    · refine lv_null hx hb d_C_heldLoan_22 ?_
      exact W.aret (v := va_rf none) hx hb hr (Or.inl ⟨_, rfl⟩) (va_rf_or _) (fun t ht hW => ⟨none, rfl, rfl, ht⟩) (fun _ h => by cases h) d_C_heldLoan_23
    · exact absurd (lk_no1 c_1) c_2
set_option maxHeartbeats 4000000 in
set_option maxRecDepth 100000 in
theorem c_due (l : Launch) (dC : Nat → ClassId) (dI : Nat → Nat → Nat) (adK adV : Nat → Nat) (a_h : Nat) (p0 : Int32) (a_tx : Nat) (a_ru : Nat) (a_cd : Nat) (a_te : Nat) (a_ki : Nat) (a_ca : Nat) (a_ty : Nat) (a_io : Nat) (a_ex : Nat) (a_lo : Nat) (a_fi : Nat) (a_cl : Nat) : Met l y_C_due ws_C_due ({ frames := 1, cells := 0, slots := 0, locals := 22 }) (va_Pc [.ref a_h, .int p0] (fun U => zz adK adV (fun _ => False) U ∧ va_P (dC, dI) vwCl [(a_h, .inr (0, [.ref a_tx, .ref a_ru, .int 0, .ref a_cd, .ref a_te, .ref a_ki, .ref a_ca, .ref a_ty, .ref a_io, .ref a_ex, .ref a_lo, .int 0, .ref a_fi, .int 0, .ref a_cl, .int 0]))] U.heap ∧ va_K (dC, dI) vwCl [] U)) (vp_Si (fun r => r = (-1))) 0 0 (fun _ => False) := by
  refine Met.ofW (cc := c_C_due) (maxL := 3) (ret := (some .int)) (by decide) rfl ?_
  intro p e s m args below meth c s₁ B hml hv
  obtain ⟨rfl, hZ, hP, hK⟩ := hv
  have hx := B.exec
  have hb := B.bytes
  have hr := B.returns
  have hts0 := atoms_spec (ws := ws_C_due) B.pre
  have hts : ∀ w ∈ TT, w.before _ s = true := fun w h => hts0 w (List.mem_cons_of_mem _ h)
  have hown : s.vm.findClass "LoanRules" = some m.cls := findClass_of_methodNamed B.named
  have hlocks := B.notSynchronized
  have hS : va_S (fun _ => False) s.heap s.heap [] := va_S.rf
  replace hP : va_P (dC, dI) vwCl [(a_h, .inr (0, [.ref a_tx, .ref a_ru, .int 0, .ref a_cd, .ref a_te, .ref a_ki, .ref a_ca, .ref a_ty, .ref a_io, .ref a_ex, .ref a_lo, .int 0, .ref a_fi, .int 0, .ref a_cl, .int 0]))] s.heap := hP
  have hl := lv_entry ([.ref a_h, .int p0]) (n := 3) (Nat.le_of_ble_eq_true rfl)
  rw [lg_entry_eq]
  generalize (lg_sl ([.ref a_h, .int p0]) ++ List.replicate (3 - (lg_sl ([.ref a_h, .int p0])).length) Slot.unset).toArray = ls at hl ⊢
  replace hl : lv_has ls 3 [(0, .ref a_h), (1, .int p0)] := hl
  refine lv_aload_n hx hb d_C_due_0 rfl (lv_at hl 0 rfl) ?_
  refine lv_iload_n hx hb d_C_due_1 rfl (lv_at hl 1 rfl) ?_
  have hPc := hP.sub (ws' := [(a_h, .inr (0, [.ref a_tx, .ref a_ru, .int 0, .ref a_cd, .ref a_te, .ref a_ki, .ref a_ca, .ref a_ty, .ref a_io, .ref a_ex, .ref a_lo, .int 0, .ref a_fi, .int 0, .ref a_cl, .int 0]))]) [0] rfl
  have hKc := hK.sub (tys' := []) [] rfl
  refine va_csq (va_Run.run (va_runV (As := [.int p0]) (rest := []) ⟨hx, hb, hml, hown, hts⟩ (c_heldLoan l dC dI adK adV (a_h := a_h) (p0 := p0) (a_tx := a_tx) (a_ru := a_ru) (a_cd := a_cd) (a_te := a_te) (a_ki := a_ki) (a_ca := a_ca) (a_ty := a_ty) (a_io := a_io) (a_ex := a_ex) (a_lo := a_lo) (a_fi := a_fi) (a_cl := a_cl)) (cwV 1 hts (gV tw_383 tw_385 tw_11 tw_42 tw_386) rfl rfl rfl (by decide +kernel) ⟨(Nat.le_of_ble_eq_true rfl), (Nat.le_of_ble_eq_true rfl)⟩) ⟨fun a U g mk q => by obtain ⟨q0, qZ, qP, qK⟩ := q; exact ⟨q0, zz_call qZ, qP, va_K.moved (u := U) (U := U.calling g mk a) (Vm.Alike.refl U.vm) qK⟩, va_recv hKc hPc (ci := 0) (q0 := 0) rfl rfl, fun U hU hW => ⟨rfl, zz_rr hU hW hZ, by rw [hU]; exact hPc, va_K.moved hW.alike hKc⟩⟩ rfl rfl hl.1 rfl (lv_room (Nat.le_of_ble_eq_true rfl)) d_C_due_2 ⟨(Nat.le_of_ble_eq_true rfl), (Nat.le_of_ble_eq_true rfl)⟩)) (fun r_1 hw_2 => ?_)
  obtain rfl : r_1 = none := hw_2
  refine W.eq (g2 := F0 m 5 ls [.null]) rfl ?_
  refine lv_astore_nN (lv' := [(2, .null), (0, .ref a_h), (1, .int p0)]) hx hb d_C_due_5 rfl hl (by decide) rfl (fun ls hl => ?_)
  refine lv_aload_nN hx hb d_C_due_6 rfl (lv_at hl 0 rfl) ?_
  refine lv_ifnonnullN hx hb d_C_due_7 ?_
  refine lv_iconst (v := (-1)) hx hb d_C_due_10 (by decide) ?_
  refine lv_goto (tgt := 18) hx hb d_C_due_11 (by decide) ?_
  exact W.iret (v := (-1)) hx hb hr (fun t ht hW => ⟨(-1), rfl, rfl, ht⟩) (fun _ h => by cases h) d_C_due_18
set_option maxHeartbeats 4000000 in
set_option maxRecDepth 100000 in
theorem c_renew (l : Launch) (dC : Nat → ClassId) (dI : Nat → Nat → Nat) (adK adV : Nat → Nat) (a_h : Nat) (p0 : Int32) (p1 : Int32) (a_tx : Nat) (a_ru : Nat) (a_cd : Nat) (a_te : Nat) (a_ki : Nat) (a_ca : Nat) (a_ty : Nat) (a_io : Nat) (a_ex : Nat) (a_lo : Nat) (a_fi : Nat) (a_cl : Nat) : Met l y_C_renew ws_C_renew ({ frames := 1, cells := 0, slots := 0, locals := 22 }) (va_Pc [.ref a_h, .int p0, .int p1] (fun U => zz adK adV (fun _ => False) U ∧ va_P (dC, dI) vwCl [(a_h, .inr (0, [.ref a_tx, .ref a_ru, .int 0, .ref a_cd, .ref a_te, .ref a_ki, .ref a_ca, .ref a_ty, .ref a_io, .ref a_ex, .ref a_lo, .int 0, .ref a_fi, .int 0, .ref a_cl, .int 0]))] U.heap ∧ va_K (dC, dI) vwCl [] U)) (vp_Si (fun r => r = 0)) 0 0 (fun _ => False) := by
  refine Met.ofW (cc := c_C_renew) (maxL := 6) (ret := (some .int)) (by decide) rfl ?_
  intro p e s m args below meth c s₁ B hml hv
  obtain ⟨rfl, hZ, hP, hK⟩ := hv
  have hx := B.exec
  have hb := B.bytes
  have hr := B.returns
  have hts0 := atoms_spec (ws := ws_C_renew) B.pre
  have hts : ∀ w ∈ TT, w.before _ s = true := fun w h => hts0 w (List.mem_cons_of_mem _ h)
  have hown : s.vm.findClass "LoanRules" = some m.cls := findClass_of_methodNamed B.named
  have hlocks := B.notSynchronized
  have hS : va_S (fun _ => False) s.heap s.heap [] := va_S.rf
  replace hP : va_P (dC, dI) vwCl [(a_h, .inr (0, [.ref a_tx, .ref a_ru, .int 0, .ref a_cd, .ref a_te, .ref a_ki, .ref a_ca, .ref a_ty, .ref a_io, .ref a_ex, .ref a_lo, .int 0, .ref a_fi, .int 0, .ref a_cl, .int 0]))] s.heap := hP
  have hl := lv_entry ([.ref a_h, .int p0, .int p1]) (n := 6) (Nat.le_of_ble_eq_true rfl)
  rw [lg_entry_eq]
  generalize (lg_sl ([.ref a_h, .int p0, .int p1]) ++ List.replicate (6 - (lg_sl ([.ref a_h, .int p0, .int p1])).length) Slot.unset).toArray = ls at hl ⊢
  replace hl : lv_has ls 6 [(0, .ref a_h), (1, .int p0), (2, .int p1)] := hl
  refine lv_aload_n hx hb d_C_renew_0 rfl (lv_at hl 0 rfl) ?_
  refine lv_iload_n hx hb d_C_renew_1 rfl (lv_at hl 1 rfl) ?_
  have hPc := hP.sub (ws' := [(a_h, .inr (0, [.ref a_tx, .ref a_ru, .int 0, .ref a_cd, .ref a_te, .ref a_ki, .ref a_ca, .ref a_ty, .ref a_io, .ref a_ex, .ref a_lo, .int 0, .ref a_fi, .int 0, .ref a_cl, .int 0]))]) [0] rfl
  have hKc := hK.sub (tys' := []) [] rfl
  refine va_csq (va_Run.run (va_runV (As := [.int p0]) (rest := []) ⟨hx, hb, hml, hown, hts⟩ (c_heldLoan l dC dI adK adV (a_h := a_h) (p0 := p0) (a_tx := a_tx) (a_ru := a_ru) (a_cd := a_cd) (a_te := a_te) (a_ki := a_ki) (a_ca := a_ca) (a_ty := a_ty) (a_io := a_io) (a_ex := a_ex) (a_lo := a_lo) (a_fi := a_fi) (a_cl := a_cl)) (cwV 1 hts (gV tw_383 tw_385 tw_11 tw_42 tw_386) rfl rfl rfl (by decide +kernel) ⟨(Nat.le_of_ble_eq_true rfl), (Nat.le_of_ble_eq_true rfl)⟩) ⟨fun a U g mk q => by obtain ⟨q0, qZ, qP, qK⟩ := q; exact ⟨q0, zz_call qZ, qP, va_K.moved (u := U) (U := U.calling g mk a) (Vm.Alike.refl U.vm) qK⟩, va_recv hKc hPc (ci := 0) (q0 := 0) rfl rfl, fun U hU hW => ⟨rfl, zz_rr hU hW hZ, by rw [hU]; exact hPc, va_K.moved hW.alike hKc⟩⟩ rfl rfl hl.1 rfl (lv_room (Nat.le_of_ble_eq_true rfl)) d_C_renew_2 ⟨(Nat.le_of_ble_eq_true rfl), (Nat.le_of_ble_eq_true rfl)⟩)) (fun r_1 hw_2 => ?_)
  obtain rfl : r_1 = none := hw_2
  refine W.eq (g2 := F0 m 5 ls [.null]) rfl ?_
  refine lv_astore_nN (lv' := [(3, .null), (0, .ref a_h), (1, .int p0), (2, .int p1)]) hx hb d_C_renew_5 rfl hl (by decide) rfl (fun ls hl => ?_)
  refine lv_aload_nN hx hb d_C_renew_6 rfl (lv_at hl 0 rfl) ?_
  refine lv_ifnullN (tgt := 17) hx hb d_C_renew_7 (by decide) ?_
  refine lv_iconst (v := 0) hx hb d_C_renew_17 (by decide) ?_
  exact W.iret (v := 0) hx hb hr (fun t ht hW => ⟨0, rfl, rfl, ht⟩) (fun _ h => by cases h) d_C_renew_18
set_option maxHeartbeats 4000000 in
set_option maxRecDepth 100000 in
theorem c_recall (l : Launch) (dC : Nat → ClassId) (dI : Nat → Nat → Nat) (adK adV : Nat → Nat) (a_h : Nat) (p0 : Int32) (p1 : Int32) (a_tx : Nat) (a_ru : Nat) (a_cd : Nat) (a_te : Nat) (a_ki : Nat) (a_ca : Nat) (a_ty : Nat) (a_io : Nat) (a_ex : Nat) (a_lo : Nat) (a_fi : Nat) (a_cl : Nat) : Met l y_C_recall ws_C_recall ({ frames := 1, cells := 0, slots := 0, locals := 22 }) (va_Pc [.ref a_h, .int p0, .int p1] (fun U => zz adK adV (fun _ => False) U ∧ va_P (dC, dI) vwCl [(a_h, .inr (0, [.ref a_tx, .ref a_ru, .int 0, .ref a_cd, .ref a_te, .ref a_ki, .ref a_ca, .ref a_ty, .ref a_io, .ref a_ex, .ref a_lo, .int 0, .ref a_fi, .int 0, .ref a_cl, .int 0]))] U.heap ∧ va_K (dC, dI) vwCl [] U)) (vp_Si (fun r => r = 0)) 0 0 (fun _ => False) := by
  refine Met.ofW (cc := c_C_recall) (maxL := 5) (ret := (some .int)) (by decide) rfl ?_
  intro p e s m args below meth c s₁ B hml hv
  obtain ⟨rfl, hZ, hP, hK⟩ := hv
  have hx := B.exec
  have hb := B.bytes
  have hr := B.returns
  have hts0 := atoms_spec (ws := ws_C_recall) B.pre
  have hts : ∀ w ∈ TT, w.before _ s = true := fun w h => hts0 w (List.mem_cons_of_mem _ h)
  have hown : s.vm.findClass "LoanRules" = some m.cls := findClass_of_methodNamed B.named
  have hlocks := B.notSynchronized
  have hS : va_S (fun _ => False) s.heap s.heap [] := va_S.rf
  replace hP : va_P (dC, dI) vwCl [(a_h, .inr (0, [.ref a_tx, .ref a_ru, .int 0, .ref a_cd, .ref a_te, .ref a_ki, .ref a_ca, .ref a_ty, .ref a_io, .ref a_ex, .ref a_lo, .int 0, .ref a_fi, .int 0, .ref a_cl, .int 0]))] s.heap := hP
  have hl := lv_entry ([.ref a_h, .int p0, .int p1]) (n := 5) (Nat.le_of_ble_eq_true rfl)
  rw [lg_entry_eq]
  generalize (lg_sl ([.ref a_h, .int p0, .int p1]) ++ List.replicate (5 - (lg_sl ([.ref a_h, .int p0, .int p1])).length) Slot.unset).toArray = ls at hl ⊢
  replace hl : lv_has ls 5 [(0, .ref a_h), (1, .int p0), (2, .int p1)] := hl
  refine lv_aload_n hx hb d_C_recall_0 rfl (lv_at hl 0 rfl) ?_
  refine lv_iload_n hx hb d_C_recall_1 rfl (lv_at hl 1 rfl) ?_
  have hPc := hP.sub (ws' := [(a_h, .inr (0, [.ref a_tx, .ref a_ru, .int 0, .ref a_cd, .ref a_te, .ref a_ki, .ref a_ca, .ref a_ty, .ref a_io, .ref a_ex, .ref a_lo, .int 0, .ref a_fi, .int 0, .ref a_cl, .int 0]))]) [0] rfl
  have hKc := hK.sub (tys' := []) [] rfl
  refine va_csq (va_Run.run (va_runV (As := [.int p0]) (rest := []) ⟨hx, hb, hml, hown, hts⟩ (c_heldLoan l dC dI adK adV (a_h := a_h) (p0 := p0) (a_tx := a_tx) (a_ru := a_ru) (a_cd := a_cd) (a_te := a_te) (a_ki := a_ki) (a_ca := a_ca) (a_ty := a_ty) (a_io := a_io) (a_ex := a_ex) (a_lo := a_lo) (a_fi := a_fi) (a_cl := a_cl)) (cwV 1 hts (gV tw_383 tw_385 tw_11 tw_42 tw_386) rfl rfl rfl (by decide +kernel) ⟨(Nat.le_of_ble_eq_true rfl), (Nat.le_of_ble_eq_true rfl)⟩) ⟨fun a U g mk q => by obtain ⟨q0, qZ, qP, qK⟩ := q; exact ⟨q0, zz_call qZ, qP, va_K.moved (u := U) (U := U.calling g mk a) (Vm.Alike.refl U.vm) qK⟩, va_recv hKc hPc (ci := 0) (q0 := 0) rfl rfl, fun U hU hW => ⟨rfl, zz_rr hU hW hZ, by rw [hU]; exact hPc, va_K.moved hW.alike hKc⟩⟩ rfl rfl hl.1 rfl (lv_room (Nat.le_of_ble_eq_true rfl)) d_C_recall_2 ⟨(Nat.le_of_ble_eq_true rfl), (Nat.le_of_ble_eq_true rfl)⟩)) (fun r_1 hw_2 => ?_)
  obtain rfl : r_1 = none := hw_2
  refine W.eq (g2 := F0 m 5 ls [.null]) rfl ?_
  refine lv_astore_nN (lv' := [(3, .null), (0, .ref a_h), (1, .int p0), (2, .int p1)]) hx hb d_C_recall_5 rfl hl (by decide) rfl (fun ls hl => ?_)
  refine lv_aload_nN hx hb d_C_recall_6 rfl (lv_at hl 0 rfl) ?_
  refine lv_ifnullN (tgt := 17) hx hb d_C_recall_7 (by decide) ?_
  refine lv_iconst (v := 0) hx hb d_C_recall_17 (by decide) ?_
  exact W.iret (v := 0) hx hb hr (fun t ht hW => ⟨0, rfl, rfl, ht⟩) (fun _ h => by cases h) d_C_recall_18
set_option maxHeartbeats 4000000 in
set_option maxRecDepth 100000 in
theorem c_back (l : Launch) (dC : Nat → ClassId) (dI : Nat → Nat → Nat) (adK adV : Nat → Nat) (a_h : Nat) (p0 : Int32) (a_tx : Nat) (a_ru : Nat) (a_cd : Nat) (a_te : Nat) (a_ki : Nat) (a_ca : Nat) (a_ty : Nat) (a_io : Nat) (a_ex : Nat) (a_lo : Nat) (a_fi : Nat) (a_cl : Nat) : Met l y_C_back ws_C_back ({ frames := 1, cells := 0, slots := 0, locals := 22 }) (va_Pc [.ref a_h, .int p0] (fun U => zz adK adV (fun _ => False) U ∧ va_P (dC, dI) vwCl [(a_h, .inr (0, [.ref a_tx, .ref a_ru, .int 0, .ref a_cd, .ref a_te, .ref a_ki, .ref a_ca, .ref a_ty, .ref a_io, .ref a_ex, .ref a_lo, .int 0, .ref a_fi, .int 0, .ref a_cl, .int 0]))] U.heap ∧ va_K (dC, dI) vwCl [] U)) (vp_Si (fun r => r = 0)) 0 0 (fun _ => False) := by
  refine Met.ofW (cc := c_C_back) (maxL := 3) (ret := (some .int)) (by decide) rfl ?_
  intro p e s m args below meth c s₁ B hml hv
  obtain ⟨rfl, hZ, hP, hK⟩ := hv
  have hx := B.exec
  have hb := B.bytes
  have hr := B.returns
  have hts0 := atoms_spec (ws := ws_C_back) B.pre
  have hts : ∀ w ∈ TT, w.before _ s = true := fun w h => hts0 w (List.mem_cons_of_mem _ h)
  have hown : s.vm.findClass "LoanRules" = some m.cls := findClass_of_methodNamed B.named
  have hlocks := B.notSynchronized
  have hS : va_S (fun _ => False) s.heap s.heap [] := va_S.rf
  replace hP : va_P (dC, dI) vwCl [(a_h, .inr (0, [.ref a_tx, .ref a_ru, .int 0, .ref a_cd, .ref a_te, .ref a_ki, .ref a_ca, .ref a_ty, .ref a_io, .ref a_ex, .ref a_lo, .int 0, .ref a_fi, .int 0, .ref a_cl, .int 0]))] s.heap := hP
  have hl := lv_entry ([.ref a_h, .int p0]) (n := 3) (Nat.le_of_ble_eq_true rfl)
  rw [lg_entry_eq]
  generalize (lg_sl ([.ref a_h, .int p0]) ++ List.replicate (3 - (lg_sl ([.ref a_h, .int p0])).length) Slot.unset).toArray = ls at hl ⊢
  replace hl : lv_has ls 3 [(0, .ref a_h), (1, .int p0)] := hl
  refine lv_aload_n hx hb d_C_back_0 rfl (lv_at hl 0 rfl) ?_
  refine lv_iload_n hx hb d_C_back_1 rfl (lv_at hl 1 rfl) ?_
  have hPc := hP.sub (ws' := [(a_h, .inr (0, [.ref a_tx, .ref a_ru, .int 0, .ref a_cd, .ref a_te, .ref a_ki, .ref a_ca, .ref a_ty, .ref a_io, .ref a_ex, .ref a_lo, .int 0, .ref a_fi, .int 0, .ref a_cl, .int 0]))]) [0] rfl
  have hKc := hK.sub (tys' := []) [] rfl
  refine va_csq (va_Run.run (va_runV (As := [.int p0]) (rest := []) ⟨hx, hb, hml, hown, hts⟩ (c_heldLoan l dC dI adK adV (a_h := a_h) (p0 := p0) (a_tx := a_tx) (a_ru := a_ru) (a_cd := a_cd) (a_te := a_te) (a_ki := a_ki) (a_ca := a_ca) (a_ty := a_ty) (a_io := a_io) (a_ex := a_ex) (a_lo := a_lo) (a_fi := a_fi) (a_cl := a_cl)) (cwV 1 hts (gV tw_383 tw_385 tw_11 tw_42 tw_386) rfl rfl rfl (by decide +kernel) ⟨(Nat.le_of_ble_eq_true rfl), (Nat.le_of_ble_eq_true rfl)⟩) ⟨fun a U g mk q => by obtain ⟨q0, qZ, qP, qK⟩ := q; exact ⟨q0, zz_call qZ, qP, va_K.moved (u := U) (U := U.calling g mk a) (Vm.Alike.refl U.vm) qK⟩, va_recv hKc hPc (ci := 0) (q0 := 0) rfl rfl, fun U hU hW => ⟨rfl, zz_rr hU hW hZ, by rw [hU]; exact hPc, va_K.moved hW.alike hKc⟩⟩ rfl rfl hl.1 rfl (lv_room (Nat.le_of_ble_eq_true rfl)) d_C_back_2 ⟨(Nat.le_of_ble_eq_true rfl), (Nat.le_of_ble_eq_true rfl)⟩)) (fun r_1 hw_2 => ?_)
  obtain rfl : r_1 = none := hw_2
  refine W.eq (g2 := F0 m 5 ls [.null]) rfl ?_
  refine lv_astore_nN (lv' := [(2, .null), (0, .ref a_h), (1, .int p0)]) hx hb d_C_back_5 rfl hl (by decide) rfl (fun ls hl => ?_)
  refine lv_aload_nN hx hb d_C_back_6 rfl (lv_at hl 0 rfl) ?_
  refine lv_ifnonnullN hx hb d_C_back_7 ?_
  refine lv_iconst (v := 0) hx hb d_C_back_10 (by decide) ?_
  exact W.iret (v := 0) hx hb hr (fun t ht hW => ⟨0, rfl, rfl, ht⟩) (fun _ h => by cases h) d_C_back_11
set_option maxHeartbeats 4000000 in
set_option maxRecDepth 100000 in
theorem c_except (l : Launch) (dC : Nat → ClassId) (dI : Nat → Nat → Nat) (adK adV : Nat → Nat) (a_h : Nat) (p0 : Int32) (p1 : Int32) (p2 : Int32) (a_tx : Nat) (a_ru : Nat) (a_cd : Nat) (a_te : Nat) (a_ki : Nat) (a_ca : Nat) (a_ty : Nat) (a_io : Nat) (a_ex : Nat) (a_lo : Nat) (a_fi : Nat) (a_cl : Nat) : Met l y_C_except ws_C_except ({ frames := 1, cells := 0, slots := 0, locals := 21 }) (va_Pc [.ref a_h, .int p0, .int p1, .int p2] (fun U => zz adK adV (fun _ => False) U ∧ va_P (dC, dI) vwCl [(a_h, .inr (0, [.ref a_tx, .ref a_ru, .int 0, .ref a_cd, .ref a_te, .ref a_ki, .ref a_ca, .ref a_ty, .ref a_io, .ref a_ex, .ref a_lo, .int 0, .ref a_fi, .int 0, .ref a_cl, .int 0]))] U.heap ∧ va_K (dC, dI) vwCl [] U)) (vp_Si (fun r => r = 0)) 0 0 (fun _ => False) := by
  refine Met.ofW (cc := c_C_except) (maxL := 4) (ret := (some .int)) (by decide) rfl ?_
  intro p e s m args below meth c s₁ B hml hv
  obtain ⟨rfl, hZ, hP, hK⟩ := hv
  have hx := B.exec
  have hb := B.bytes
  have hr := B.returns
  have hts0 := atoms_spec (ws := ws_C_except) B.pre
  have hts : ∀ w ∈ TT, w.before _ s = true := fun w h => hts0 w (List.mem_cons_of_mem _ h)
  have hown : s.vm.findClass "LoanRules" = some m.cls := findClass_of_methodNamed B.named
  have hlocks := B.notSynchronized
  have hS : va_S (fun _ => False) s.heap s.heap [] := va_S.rf
  replace hP : va_P (dC, dI) vwCl [(a_h, .inr (0, [.ref a_tx, .ref a_ru, .int 0, .ref a_cd, .ref a_te, .ref a_ki, .ref a_ca, .ref a_ty, .ref a_io, .ref a_ex, .ref a_lo, .int 0, .ref a_fi, .int 0, .ref a_cl, .int 0]))] s.heap := hP
  have hl := lv_entry ([.ref a_h, .int p0, .int p1, .int p2]) (n := 4) (Nat.le_of_ble_eq_true rfl)
  rw [lg_entry_eq]
  generalize (lg_sl ([.ref a_h, .int p0, .int p1, .int p2]) ++ List.replicate (4 - (lg_sl ([.ref a_h, .int p0, .int p1, .int p2])).length) Slot.unset).toArray = ls at hl ⊢
  replace hl : lv_has ls 4 [(0, .ref a_h), (1, .int p0), (2, .int p1), (3, .int p2)] := hl
  refine lv_iload_n hx hb d_C_except_0 rfl (lv_at hl 1 rfl) ?_
  have hPc := hP.sub (ws' := []) [] rfl
  have hKc := hK.sub (tys' := []) [] rfl
  refine vp_callSi (va_Run.run (va_runS (As := [.int p0]) (rest := []) ⟨hx, hb, hml, hown, hts⟩ (c_isPerson l dC dI adK adV (p0 := p0)) (va_cwS 1 hts (gS tw_373 tw_374 tw_42 tw_375) rfl rfl rfl (by decide +kernel) ⟨(Nat.le_of_ble_eq_true rfl), (Nat.le_of_ble_eq_true rfl)⟩) ⟨fun a U g mk q => by obtain ⟨q0, qZ, qP, qK⟩ := q; exact ⟨q0, zz_call qZ, qP, va_K.moved (u := U) (U := U.calling g mk a) (Vm.Alike.refl U.vm) qK⟩, fun U hU hW => ⟨rfl, zz_rr hU hW hZ, by rw [hU]; exact hPc, va_K.moved hW.alike hKc⟩⟩ rfl rfl hl.1 rfl (lv_room (Nat.le_of_ble_eq_true rfl)) d_C_except_1 ⟨(Nat.le_of_ble_eq_true rfl), (Nat.le_of_ble_eq_true rfl)⟩)) (fun r_1 hw_2 => ?_)
  subst hw_2
  refine lv_if_eq (tgt := 15) hx hb d_C_except_4 (by decide) (fun c_3 => ?_) (fun c_3 => ?_)
  · refine lv_iconst (v := 0) hx hb d_C_except_15 (by decide) ?_
    exact W.iret (v := 0) hx hb hr (fun t ht hW => ⟨0, rfl, rfl, ht⟩) (fun _ h => by cases h) d_C_except_16
  · refine lv_aload_n hx hb d_C_except_7 rfl (lv_at hl 0 rfl) ?_
    refine lv_iload_n hx hb d_C_except_8 rfl (lv_at hl 2 rfl) ?_
    have hPc := hP.sub (ws' := [(a_h, .inr (0, [.ref a_tx, .ref a_ru, .int 0, .ref a_cd, .ref a_te, .ref a_ki, .ref a_ca, .ref a_ty, .ref a_io, .ref a_ex, .ref a_lo, .int 0, .ref a_fi, .int 0, .ref a_cl, .int 0]))]) [0] rfl
    have hKc := hK.sub (tys' := []) [] rfl
    refine va_csq (va_Run.run (va_runV (As := [.int p1]) (rest := []) ⟨hx, hb, hml, hown, hts⟩ (c_ruleAt l dC dI adK adV (a_h := a_h) (p0 := p1) (a_tx := a_tx) (a_ru := a_ru) (a_cd := a_cd) (a_te := a_te) (a_ki := a_ki) (a_ca := a_ca) (a_ty := a_ty) (a_io := a_io) (a_ex := a_ex) (a_lo := a_lo) (a_fi := a_fi) (a_cl := a_cl)) (cwV 1 hts (gV tw_431 tw_433 tw_15 tw_42 tw_434) rfl rfl rfl (by decide +kernel) ⟨(Nat.le_of_ble_eq_true rfl), (Nat.le_of_ble_eq_true rfl)⟩) ⟨fun a U g mk q => by obtain ⟨q0, qZ, qP, qK⟩ := q; exact ⟨q0, zz_call qZ, qP, va_K.moved (u := U) (U := U.calling g mk a) (Vm.Alike.refl U.vm) qK⟩, va_recv hKc hPc (ci := 0) (q0 := 0) rfl rfl, fun U hU hW => ⟨rfl, zz_rr hU hW hZ, by rw [hU]; exact hPc, va_K.moved hW.alike hKc⟩⟩ rfl rfl hl.1 rfl (lv_room (Nat.le_of_ble_eq_true rfl)) d_C_except_9 ⟨(Nat.le_of_ble_eq_true rfl), (Nat.le_of_ble_eq_true rfl)⟩)) (fun r_4 hw_5 => ?_)
    obtain rfl : r_4 = none := hw_5
    refine W.eq (g2 := F0 m 12 ls [.null]) rfl ?_
    refine lv_ifnonnullN hx hb d_C_except_12 ?_
    refine lv_iconst (v := 0) hx hb d_C_except_15 (by decide) ?_
    exact W.iret (v := 0) hx hb hr (fun t ht hW => ⟨0, rfl, rfl, ht⟩) (fun _ h => by cases h) d_C_except_16
set_option maxHeartbeats 4000000 in
set_option maxRecDepth 100000 in
theorem c_throwsUp (l : Launch) (dC : Nat → ClassId) (dI : Nat → Nat → Nat) (adK adV : Nat → Nat) (a_h : Nat) (p0 : Int32) (p1 : Int32) (a_tx : Nat) (a_ru : Nat) (a_cd : Nat) (a_te : Nat) (a_ki : Nat) (a_ca : Nat) (a_ty : Nat) (a_io : Nat) (a_ex : Nat) (a_lo : Nat) (a_fi : Nat) (a_cl : Nat) : Met l y_C_throwsUp ws_C_throwsUp ({ frames := 1, cells := 0, slots := 0, locals := 21 }) (va_Pc [.ref a_h, .int p0, .int p1] (fun U => zz adK adV (fun _ => False) U ∧ va_P (dC, dI) vwCl [(a_h, .inr (0, [.ref a_tx, .ref a_ru, .int 0, .ref a_cd, .ref a_te, .ref a_ki, .ref a_ca, .ref a_ty, .ref a_io, .ref a_ex, .ref a_lo, .int 0, .ref a_fi, .int 0, .ref a_cl, .int 0]))] U.heap ∧ va_K (dC, dI) vwCl [] U)) (vp_Si (fun r => r = 0)) 0 0 (fun _ => False) := by
  refine Met.ofW (cc := c_C_throwsUp) (maxL := 5) (ret := (some .boolean)) (by decide) rfl ?_
  intro p e s m args below meth c s₁ B hml hv
  obtain ⟨rfl, hZ, hP, hK⟩ := hv
  have hx := B.exec
  have hb := B.bytes
  have hr := B.returns
  have hts0 := atoms_spec (ws := ws_C_throwsUp) B.pre
  have hts : ∀ w ∈ TT, w.before _ s = true := fun w h => hts0 w (List.mem_cons_of_mem _ h)
  have hown : s.vm.findClass "LoanRules" = some m.cls := findClass_of_methodNamed B.named
  have hlocks := B.notSynchronized
  have hS : va_S (fun _ => False) s.heap s.heap [] := va_S.rf
  replace hP : va_P (dC, dI) vwCl [(a_h, .inr (0, [.ref a_tx, .ref a_ru, .int 0, .ref a_cd, .ref a_te, .ref a_ki, .ref a_ca, .ref a_ty, .ref a_io, .ref a_ex, .ref a_lo, .int 0, .ref a_fi, .int 0, .ref a_cl, .int 0]))] s.heap := hP
  have hl := lv_entry ([.ref a_h, .int p0, .int p1]) (n := 5) (Nat.le_of_ble_eq_true rfl)
  rw [lg_entry_eq]
  generalize (lg_sl ([.ref a_h, .int p0, .int p1]) ++ List.replicate (5 - (lg_sl ([.ref a_h, .int p0, .int p1])).length) Slot.unset).toArray = ls at hl ⊢
  replace hl : lv_has ls 5 [(0, .ref a_h), (1, .int p0), (2, .int p1)] := hl
  refine lv_aload_n hx hb d_C_throwsUp_0 rfl (lv_at hl 0 rfl) ?_
  refine lv_iload_n hx hb d_C_throwsUp_1 rfl (lv_at hl 1 rfl) ?_
  have hPc := hP.sub (ws' := [(a_h, .inr (0, [.ref a_tx, .ref a_ru, .int 0, .ref a_cd, .ref a_te, .ref a_ki, .ref a_ca, .ref a_ty, .ref a_io, .ref a_ex, .ref a_lo, .int 0, .ref a_fi, .int 0, .ref a_cl, .int 0]))]) [0] rfl
  have hKc := hK.sub (tys' := []) [] rfl
  refine va_csq (va_Run.run (va_runV (As := [.int p0]) (rest := []) ⟨hx, hb, hml, hown, hts⟩ (c_ruleAt l dC dI adK adV (a_h := a_h) (p0 := p0) (a_tx := a_tx) (a_ru := a_ru) (a_cd := a_cd) (a_te := a_te) (a_ki := a_ki) (a_ca := a_ca) (a_ty := a_ty) (a_io := a_io) (a_ex := a_ex) (a_lo := a_lo) (a_fi := a_fi) (a_cl := a_cl)) (cwV 1 hts (gV tw_431 tw_433 tw_15 tw_42 tw_434) rfl rfl rfl (by decide +kernel) ⟨(Nat.le_of_ble_eq_true rfl), (Nat.le_of_ble_eq_true rfl)⟩) ⟨fun a U g mk q => by obtain ⟨q0, qZ, qP, qK⟩ := q; exact ⟨q0, zz_call qZ, qP, va_K.moved (u := U) (U := U.calling g mk a) (Vm.Alike.refl U.vm) qK⟩, va_recv hKc hPc (ci := 0) (q0 := 0) rfl rfl, fun U hU hW => ⟨rfl, zz_rr hU hW hZ, by rw [hU]; exact hPc, va_K.moved hW.alike hKc⟩⟩ rfl rfl hl.1 rfl (lv_room (Nat.le_of_ble_eq_true rfl)) d_C_throwsUp_2 ⟨(Nat.le_of_ble_eq_true rfl), (Nat.le_of_ble_eq_true rfl)⟩)) (fun r_1 hw_2 => ?_)
  obtain rfl : r_1 = none := hw_2
  refine W.eq (g2 := F0 m 5 ls [.null]) rfl ?_
  refine lv_astore_nN (lv' := [(3, .null), (0, .ref a_h), (1, .int p0), (2, .int p1)]) hx hb d_C_throwsUp_5 rfl hl (by decide) rfl (fun ls hl => ?_)
  refine lv_aload_nN hx hb d_C_throwsUp_6 rfl (lv_at hl 0 rfl) ?_
  refine lv_ifnullN (tgt := 18) hx hb d_C_throwsUp_7 (by decide) ?_
  refine lv_iconst (v := 0) hx hb d_C_throwsUp_18 (by decide) ?_
  exact W.zret (v := 0) hx hb hr rfl (fun t ht hW => ⟨0, rfl, rfl, ht⟩) (fun _ h => by cases h) d_C_throwsUp_19
set_option maxHeartbeats 4000000 in
set_option maxRecDepth 100000 in
theorem c_explain (l : Launch) (dC : Nat → ClassId) (dI : Nat → Nat → Nat) (adK adV : Nat → Nat) (a_h : Nat) (p0 : Int32) (a_tx : Nat) (a_ru : Nat) (a_cd : Nat) (a_te : Nat) (a_ki : Nat) (a_ca : Nat) (a_ty : Nat) (a_io : Nat) (a_ex : Nat) (a_lo : Nat) (a_fi : Nat) (a_cl : Nat) : Met l y_C_explain ws_C_explain ({ frames := 1, cells := 0, slots := 0, locals := 21 }) (va_Pc [.ref a_h, .int p0] (fun U => zz adK adV (fun _ => False) U ∧ va_P (dC, dI) vwCl [(a_h, .inr (0, [.ref a_tx, .ref a_ru, .int 0, .ref a_cd, .ref a_te, .ref a_ki, .ref a_ca, .ref a_ty, .ref a_io, .ref a_ex, .ref a_lo, .int 0, .ref a_fi, .int 0, .ref a_cl, .int 0]))] U.heap ∧ va_K (dC, dI) vwCl [] U)) (vp_Si (fun r => r = (-1))) 0 0 (fun _ => False) := by
  refine Met.ofW (cc := c_C_explain) (maxL := 2) (ret := (some .int)) (by decide) rfl ?_
  intro p e s m args below meth c s₁ B hml hv
  obtain ⟨rfl, hZ, hP, hK⟩ := hv
  have hx := B.exec
  have hb := B.bytes
  have hr := B.returns
  have hts0 := atoms_spec (ws := ws_C_explain) B.pre
  have hts : ∀ w ∈ TT, w.before _ s = true := fun w h => hts0 w (List.mem_cons_of_mem _ h)
  have hown : s.vm.findClass "LoanRules" = some m.cls := findClass_of_methodNamed B.named
  have hlocks := B.notSynchronized
  have hS : va_S (fun _ => False) s.heap s.heap [] := va_S.rf
  replace hP : va_P (dC, dI) vwCl [(a_h, .inr (0, [.ref a_tx, .ref a_ru, .int 0, .ref a_cd, .ref a_te, .ref a_ki, .ref a_ca, .ref a_ty, .ref a_io, .ref a_ex, .ref a_lo, .int 0, .ref a_fi, .int 0, .ref a_cl, .int 0]))] s.heap := hP
  have hl := lv_entry ([.ref a_h, .int p0]) (n := 2) (Nat.le_of_ble_eq_true rfl)
  rw [lg_entry_eq]
  generalize (lg_sl ([.ref a_h, .int p0]) ++ List.replicate (2 - (lg_sl ([.ref a_h, .int p0])).length) Slot.unset).toArray = ls at hl ⊢
  replace hl : lv_has ls 2 [(0, .ref a_h), (1, .int p0)] := hl
  refine lv_aload_n hx hb d_C_explain_0 rfl (lv_at hl 0 rfl) ?_
  refine lv_iload_n hx hb d_C_explain_1 rfl (lv_at hl 1 rfl) ?_
  have hPc := hP.sub (ws' := [(a_h, .inr (0, [.ref a_tx, .ref a_ru, .int 0, .ref a_cd, .ref a_te, .ref a_ki, .ref a_ca, .ref a_ty, .ref a_io, .ref a_ex, .ref a_lo, .int 0, .ref a_fi, .int 0, .ref a_cl, .int 0]))]) [0] rfl
  have hKc := hK.sub (tys' := []) [] rfl
  refine vp_callSi (va_Run.run (va_runV (As := [.int p0]) (rest := []) ⟨hx, hb, hml, hown, hts⟩ (c_fittingAt l dC dI adK adV (a_h := a_h) (p0 := p0) (a_tx := a_tx) (a_ru := a_ru) (a_cd := a_cd) (a_te := a_te) (a_ki := a_ki) (a_ca := a_ca) (a_ty := a_ty) (a_io := a_io) (a_ex := a_ex) (a_lo := a_lo) (a_fi := a_fi) (a_cl := a_cl)) (cwV 1 hts (gV tw_443 tw_445 tw_16 tw_42 tw_446) rfl rfl rfl (by decide +kernel) ⟨(Nat.le_of_ble_eq_true rfl), (Nat.le_of_ble_eq_true rfl)⟩) ⟨fun a U g mk q => by obtain ⟨q0, qZ, qP, qK⟩ := q; exact ⟨q0, zz_call qZ, qP, va_K.moved (u := U) (U := U.calling g mk a) (Vm.Alike.refl U.vm) qK⟩, va_recv hKc hPc (ci := 0) (q0 := 0) rfl rfl, fun U hU hW => ⟨rfl, zz_rr hU hW hZ, by rw [hU]; exact hPc, va_K.moved hW.alike hKc⟩⟩ rfl rfl hl.1 rfl (lv_room (Nat.le_of_ble_eq_true rfl)) d_C_explain_2 ⟨(Nat.le_of_ble_eq_true rfl), (Nat.le_of_ble_eq_true rfl)⟩)) (fun r_1 hw_2 => ?_)
  obtain rfl : r_1 = (-1) := hw_2
  exact W.iret (v := (-1)) hx hb hr (fun t ht hW => ⟨(-1), rfl, rfl, ht⟩) (fun _ h => by cases h) d_C_explain_5
set_option maxHeartbeats 4000000 in
set_option maxRecDepth 100000 in
theorem c_clash (l : Launch) (dC : Nat → ClassId) (dI : Nat → Nat → Nat) (adK adV : Nat → Nat) (a_h : Nat) (a_cl : Nat) (k_cl : ClassId) (p0 : Int32) (p1 : Int32) (a_tx : Nat) (a_ru : Nat) (a_cd : Nat) (a_te : Nat) (a_ki : Nat) (a_ca : Nat) (a_ty : Nat) (a_io : Nat) (a_ex : Nat) (a_lo : Nat) (a_fi : Nat) : Met l y_C_clash ws_C_clash ({ frames := 0, cells := 0, slots := 0, locals := 0 }) (va_Pc [.ref a_h, .int p0, .int p1] (fun U => zz adK adV (fun _ => False) U ∧ va_P (dC, dI) vwCl [(a_h, .inr (0, [.ref a_tx, .ref a_ru, .int 0, .ref a_cd, .ref a_te, .ref a_ki, .ref a_ca, .ref a_ty, .ref a_io, .ref a_ex, .ref a_lo, .int 0, .ref a_fi, .int 0, .ref a_cl, .int 0])), (a_cl, .inl (k_cl, 780, .inl (fun _ => 0)))] U.heap ∧ va_K (dC, dI) vwCl [(k_cl, .int)] U)) (vp_Si (fun r => r = (-1))) 0 0 (fun _ => False) := by
  refine Met.ofW (cc := c_C_clash) (maxL := 3) (ret := (some .int)) (by decide) rfl ?_
  intro p e s m args below meth c s₁ B hml hv
  obtain ⟨rfl, hZ, hP, hK⟩ := hv
  have hx := B.exec
  have hb := B.bytes
  have hr := B.returns
  have hts0 := atoms_spec (ws := ws_C_clash) B.pre
  have hts : ∀ w ∈ TT, w.before _ s = true := fun w h => hts0 w (List.mem_cons_of_mem _ h)
  have hown : s.vm.findClass "LoanRules" = some m.cls := findClass_of_methodNamed B.named
  have hlocks := B.notSynchronized
  have hS : va_S (fun _ => False) s.heap s.heap [] := va_S.rf
  replace hP : va_P (dC, dI) vwCl [(a_h, .inr (0, [.ref a_tx, .ref a_ru, .int 0, .ref a_cd, .ref a_te, .ref a_ki, .ref a_ca, .ref a_ty, .ref a_io, .ref a_ex, .ref a_lo, .int 0, .ref a_fi, .int 0, .ref a_cl, .int 0])), (a_cl, .inl (k_cl, 780, .inl (fun _ => 0)))] s.heap := hP
  have hl := lv_entry ([.ref a_h, .int p0, .int p1]) (n := 3) (Nat.le_of_ble_eq_true rfl)
  rw [lg_entry_eq]
  generalize (lg_sl ([.ref a_h, .int p0, .int p1]) ++ List.replicate (3 - (lg_sl ([.ref a_h, .int p0, .int p1])).length) Slot.unset).toArray = ls at hl ⊢
  replace hl : lv_has ls 3 [(0, .ref a_h), (1, .int p0), (2, .int p1)] := hl
  refine lv_iload_n hx hb d_C_clash_0 rfl (lv_at hl 1 rfl) ?_
  refine lv_if_lt (tgt := 21) hx hb d_C_clash_1 (by decide) (fun c_1 => ?_) (fun c_1 => ?_)
  · refine lv_iconst (v := (-1)) hx hb d_C_clash_21 (by decide) ?_
    exact W.iret (v := (-1)) hx hb hr (fun t ht hW => ⟨(-1), rfl, rfl, ht⟩) (fun _ h => by cases h) d_C_clash_22
  · refine lv_iload_n hx hb d_C_clash_4 rfl (lv_at hl 1 rfl) ?_
    refine lv_aload_n hx hb d_C_clash_5 rfl (lv_at hl 0 rfl) ?_
    refine va_get (D := (dC, dI)) (ci := 0) (v := .int 0) (C := "LoanRules") (T := Fz_C) (N := 16) hx hb hts it_C hown hK hP 0 rfl rfl 15 (by decide) (hts _ tw_119) (fun _ h9 => h9) rfl d_C_clash_6 ?_
    refine lv_icmp_ge (tgt := 21) hx hb d_C_clash_9 (by decide) (fun c_2 => ?_) (fun c_2 => ?_)
    · refine lv_iconst (v := (-1)) hx hb d_C_clash_21 (by decide) ?_
      exact W.iret (v := (-1)) hx hb hr (fun t ht hW => ⟨(-1), rfl, rfl, ht⟩) (fun _ h => by cases h) d_C_clash_22
    · exact absurd (lk_no c_1) c_2
set_option maxHeartbeats 4000000 in
set_option maxRecDepth 100000 in
theorem c_never (l : Launch) (dC : Nat → ClassId) (dI : Nat → Nat → Nat) (adK adV : Nat → Nat) (a_h : Nat) (p0 : Int32) (a_tx : Nat) (a_ru : Nat) (a_cd : Nat) (a_te : Nat) (a_ki : Nat) (a_ca : Nat) (a_ty : Nat) (a_io : Nat) (a_ex : Nat) (a_lo : Nat) (a_fi : Nat) (a_cl : Nat) : Met l y_C_never ws_C_never ({ frames := 1, cells := 0, slots := 0, locals := 21 }) (va_Pc [.ref a_h, .int p0] (fun U => zz adK adV (fun _ => False) U ∧ va_P (dC, dI) vwCl [(a_h, .inr (0, [.ref a_tx, .ref a_ru, .int 0, .ref a_cd, .ref a_te, .ref a_ki, .ref a_ca, .ref a_ty, .ref a_io, .ref a_ex, .ref a_lo, .int 0, .ref a_fi, .int 0, .ref a_cl, .int 0]))] U.heap ∧ va_K (dC, dI) vwCl [] U)) (vp_Si (fun r => r = (-1))) 0 0 (fun _ => False) := by
  refine Met.ofW (cc := c_C_never) (maxL := 5) (ret := (some .int)) (by decide) rfl ?_
  intro p e s m args below meth c s₁ B hml hv
  obtain ⟨rfl, hZ, hP, hK⟩ := hv
  have hx := B.exec
  have hb := B.bytes
  have hr := B.returns
  have hts0 := atoms_spec (ws := ws_C_never) B.pre
  have hts : ∀ w ∈ TT, w.before _ s = true := fun w h => hts0 w (List.mem_cons_of_mem _ h)
  have hown : s.vm.findClass "LoanRules" = some m.cls := findClass_of_methodNamed B.named
  have hlocks := B.notSynchronized
  have hS : va_S (fun _ => False) s.heap s.heap [] := va_S.rf
  replace hP : va_P (dC, dI) vwCl [(a_h, .inr (0, [.ref a_tx, .ref a_ru, .int 0, .ref a_cd, .ref a_te, .ref a_ki, .ref a_ca, .ref a_ty, .ref a_io, .ref a_ex, .ref a_lo, .int 0, .ref a_fi, .int 0, .ref a_cl, .int 0]))] s.heap := hP
  have hl := lv_entry ([.ref a_h, .int p0]) (n := 5) (Nat.le_of_ble_eq_true rfl)
  rw [lg_entry_eq]
  generalize (lg_sl ([.ref a_h, .int p0]) ++ List.replicate (5 - (lg_sl ([.ref a_h, .int p0])).length) Slot.unset).toArray = ls at hl ⊢
  replace hl : lv_has ls 5 [(0, .ref a_h), (1, .int p0)] := hl
  refine lv_iconst (v := 0) hx hb d_C_never_0 (by decide) ?_
  refine lv_istore_n (lv' := [(2, .int 0), (0, .ref a_h), (1, .int p0)]) hx hb d_C_never_1 rfl hl (by decide) rfl (fun ls hl => ?_)
  refine lv_iconst (v := 0) hx hb d_C_never_2 (by decide) ?_
  refine lv_istore_n (lv' := [(3, .int 0), (2, .int 0), (0, .ref a_h), (1, .int p0)]) hx hb d_C_never_3 rfl hl (by decide) rfl (fun ls hl => ?_)
  obtain ⟨n, i, hni, hi0⟩ : ∃ n i : Nat, i + n = 40 ∧ nI i = 0 := ⟨40, 0, rfl, by decide⟩
  replace hl : lv_has ls 5 [(3, .int (nI i)), (2, .int 0), (0, .ref a_h), (1, .int p0)] := by rw [hi0]; exact hl
  clear hi0
  induction n generalizing i ls with
  | zero =>
    obtain rfl : i = 40 := by omega
    have hl : lv_has ls 5 [(3, .int 40), (2, .int 0), (0, .ref a_h), (1, .int p0)] := by have e9 : nI 40 = 40 := (by decide); rw [e9] at hl; exact hl
    refine lv_iload_n hx hb d_C_never_4 rfl (lv_at hl 0 rfl) ?_
    refine lv_bipush (v := 40) hx hb d_C_never_5 (by decide) ?_
    refine lv_icmp_ge (tgt := 46) hx hb d_C_never_7 (by decide) (fun c_1 => ?_) (fun c_1 => ?_)
    · refine lv_iconst (v := (-1)) hx hb d_C_never_46 (by decide) ?_
      exact W.iret (v := (-1)) hx hb hr (fun t ht hW => ⟨(-1), rfl, rfl, ht⟩) (fun _ h => by cases h) d_C_never_47
    · exact absurd (by decide) c_1
  | succ n ih =>
    have hlt : i < 40 := by omega
    refine lv_iload_n hx hb d_C_never_4 rfl (lv_at hl 0 rfl) ?_
    refine lv_bipush (v := 40) hx hb d_C_never_5 (by decide) ?_
    refine lv_icmp_ge (tgt := 46) hx hb d_C_never_7 (by decide) (fun c_2 => ?_) (fun c_2 => ?_)
    · exact absurd c_2 (lk_ge40 hlt)
    · refine lv_aload_n hx hb d_C_never_10 rfl (lv_at hl 2 rfl) ?_
      refine lv_iload_n hx hb d_C_never_11 rfl (lv_at hl 0 rfl) ?_
      have hPc := hP.sub (ws' := [(a_h, .inr (0, [.ref a_tx, .ref a_ru, .int 0, .ref a_cd, .ref a_te, .ref a_ki, .ref a_ca, .ref a_ty, .ref a_io, .ref a_ex, .ref a_lo, .int 0, .ref a_fi, .int 0, .ref a_cl, .int 0]))]) [0] rfl
      have hKc := hK.sub (tys' := []) [] rfl
      refine va_csq (va_Run.run (va_runV (As := [.int (nI i)]) (rest := []) ⟨hx, hb, hml, hown, hts⟩ (c_ruleAt l dC dI adK adV (a_h := a_h) (p0 := nI i) (a_tx := a_tx) (a_ru := a_ru) (a_cd := a_cd) (a_te := a_te) (a_ki := a_ki) (a_ca := a_ca) (a_ty := a_ty) (a_io := a_io) (a_ex := a_ex) (a_lo := a_lo) (a_fi := a_fi) (a_cl := a_cl)) (cwV 1 hts (gV tw_431 tw_433 tw_15 tw_42 tw_434) rfl rfl rfl (by decide +kernel) ⟨(Nat.le_of_ble_eq_true rfl), (Nat.le_of_ble_eq_true rfl)⟩) ⟨fun a U g mk q => by obtain ⟨q0, qZ, qP, qK⟩ := q; exact ⟨q0, zz_call qZ, qP, va_K.moved (u := U) (U := U.calling g mk a) (Vm.Alike.refl U.vm) qK⟩, va_recv hKc hPc (ci := 0) (q0 := 0) rfl rfl, fun U hU hW => ⟨rfl, zz_rr hU hW hZ, by rw [hU]; exact hPc, va_K.moved hW.alike hKc⟩⟩ rfl rfl hl.1 rfl (lv_room (Nat.le_of_ble_eq_true rfl)) d_C_never_12 ⟨(Nat.le_of_ble_eq_true rfl), (Nat.le_of_ble_eq_true rfl)⟩)) (fun r_3 hw_4 => ?_)
      obtain rfl : r_3 = none := hw_4
      refine W.eq (g2 := F0 m 15 ls [.null]) rfl ?_
      refine lv_astoreN (lv' := [(4, .null), (3, .int (nI i)), (2, .int 0), (0, .ref a_h), (1, .int p0)]) hx hb d_C_never_15 hl (by decide) rfl (fun ls hl => ?_)
      refine lv_aloadN hx hb d_C_never_17 (lv_at hl 0 rfl) ?_
      refine lv_ifnullN (tgt := 40) hx hb d_C_never_19 (by decide) ?_
      refine lv_iinc (v := (nI i) + 1) (lv' := [(3, .int ((nI i) + 1)), (4, .null), (2, .int 0), (0, .ref a_h), (1, .int p0)]) hx hb d_C_never_40 hl (k := 1) rfl rfl (by decide) rfl (fun ls hl => ?_)
      refine lv_goto (tgt := 4) hx hb d_C_never_43 (by decide) ?_
      replace hl := lv_sub hl [0, 2, 3, 4] rfl
      replace hl : lv_has ls 5 [(3, .int (nI (i + 1))), (2, .int 0), (0, .ref a_h), (1, .int p0)] := by rw [← nI_1]; exact hl
      exact ih (i := i + 1) _ (by omega) hl
set_option maxHeartbeats 4000000 in
set_option maxRecDepth 100000 in
theorem c_gatherFitting (l : Launch) (dC : Nat → ClassId) (dI : Nat → Nat → Nat) (adK adV : Nat → Nat) (a_h : Nat) (p0 : Int32) (p1 : Int32) (p2 : Int32) (a_tx : Nat) (a_ru : Nat) (a_cd : Nat) (a_te : Nat) (a_ki : Nat) (a_ca : Nat) (a_ty : Nat) (a_io : Nat) (a_ex : Nat) (a_lo : Nat) (a_fi : Nat) (a_cl : Nat) (sz : Nat) : Met l y_C_gatherFitting ws_C_gatherFitting ({ frames := 1, cells := 0, slots := 0, locals := 21 }) (va_Pc [.ref a_h, .int p0, .int p1, .int p2] (fun U => U.heap.size = sz ∧ zz adK adV (va_A [(a_h, .inr (0, [.ref a_tx, .ref a_ru, .int 0, .ref a_cd, .ref a_te, .ref a_ki, .ref a_ca, .ref a_ty, .ref a_io, .ref a_ex, .ref a_lo, .int 0, .ref a_fi, .int 0, .ref a_cl, .int 0]))] sz) U ∧ va_P (dC, dI) vwCl [(a_h, .inr (0, [.ref a_tx, .ref a_ru, .int 0, .ref a_cd, .ref a_te, .ref a_ki, .ref a_ca, .ref a_ty, .ref a_io, .ref a_ex, .ref a_lo, .int 0, .ref a_fi, .int 0, .ref a_cl, .int 0]))] U.heap ∧ va_K (dC, dI) vwCl [] U ∧ va_D (fun _ => True) [(a_h, .inr (0, [.ref a_tx, .ref a_ru, .int 0, .ref a_cd, .ref a_te, .ref a_ki, .ref a_ca, .ref a_ty, .ref a_io, .ref a_ex, .ref a_lo, .int 0, .ref a_fi, .int 0, .ref a_cl, .int 0]))])) (va_Qv (fun _ : Unit => True) (fun (_ : Unit) (t : State) => va_P (dC, dI) vwCl [(a_h, .inr (0, [.ref a_tx, .ref a_ru, .int 0, .ref a_cd, .ref a_te, .ref a_ki, .ref a_ca, .ref a_ty, .ref a_io, .ref a_ex, .ref a_lo, .int 0, .ref a_fi, .int 0, .ref a_cl, .int 0]))] t.heap ∧ va_K (dC, dI) vwCl [] t ∧ va_D (va_A [(a_h, .inr (0, [.ref a_tx, .ref a_ru, .int 0, .ref a_cd, .ref a_te, .ref a_ki, .ref a_ca, .ref a_ty, .ref a_io, .ref a_ex, .ref a_lo, .int 0, .ref a_fi, .int 0, .ref a_cl, .int 0]))] sz) [(a_h, .inr (0, [.ref a_tx, .ref a_ru, .int 0, .ref a_cd, .ref a_te, .ref a_ki, .ref a_ca, .ref a_ty, .ref a_io, .ref a_ex, .ref a_lo, .int 0, .ref a_fi, .int 0, .ref a_cl, .int 0]))]) (va_A [(a_h, .inr (0, [.ref a_tx, .ref a_ru, .int 0, .ref a_cd, .ref a_te, .ref a_ki, .ref a_ca, .ref a_ty, .ref a_io, .ref a_ex, .ref a_lo, .int 0, .ref a_fi, .int 0, .ref a_cl, .int 0]))] sz)) 0 0 (va_A [(a_h, .inr (0, [.ref a_tx, .ref a_ru, .int 0, .ref a_cd, .ref a_te, .ref a_ki, .ref a_ca, .ref a_ty, .ref a_io, .ref a_ex, .ref a_lo, .int 0, .ref a_fi, .int 0, .ref a_cl, .int 0]))] sz) := by
  refine Met.ofW (cc := c_C_gatherFitting) (maxL := 6) (ret := none) (by decide) rfl ?_
  intro p e s m args below meth c s₁ B hml hv
  obtain ⟨rfl, hsz, hZ, hP, hK, hD0⟩ := hv
  have hx := B.exec
  have hb := B.bytes
  have hr := B.returns
  have hts0 := atoms_spec (ws := ws_C_gatherFitting) B.pre
  have hts : ∀ w ∈ TT, w.before _ s = true := fun w h => hts0 w (List.mem_cons_of_mem _ h)
  have hown : s.vm.findClass "LoanRules" = some m.cls := findClass_of_methodNamed B.named
  have hlocks := B.notSynchronized
  subst hsz
  have hD := hD0.self (sz := s.heap.size)
  generalize hAe : va_A [(a_h, .inr (0, [.ref a_tx, .ref a_ru, .int 0, .ref a_cd, .ref a_te, .ref a_ki, .ref a_ca, .ref a_ty, .ref a_io, .ref a_ex, .ref a_lo, .int 0, .ref a_fi, .int 0, .ref a_cl, .int 0]))] s.heap.size = A at hD hZ ⊢
  have hA : ∀ q : Nat, s.heap.size ≤ q → A q := fun q h => by rw [← hAe]; exact Or.inr h
  clear hAe hD0
  have hS : va_S A s.heap s.heap [] := va_S.rf
  replace hP : va_P (dC, dI) vwCl [(a_h, .inr (0, [.ref a_tx, .ref a_ru, .int 0, .ref a_cd, .ref a_te, .ref a_ki, .ref a_ca, .ref a_ty, .ref a_io, .ref a_ex, .ref a_lo, .int 0, .ref a_fi, .int 0, .ref a_cl, .int 0]))] s.heap := hP
  have hl := lv_entry ([.ref a_h, .int p0, .int p1, .int p2]) (n := 6) (Nat.le_of_ble_eq_true rfl)
  rw [lg_entry_eq]
  generalize (lg_sl ([.ref a_h, .int p0, .int p1, .int p2]) ++ List.replicate (6 - (lg_sl ([.ref a_h, .int p0, .int p1, .int p2])).length) Slot.unset).toArray = ls at hl ⊢
  replace hl : lv_has ls 6 [(0, .ref a_h), (1, .int p0), (2, .int p1), (3, .int p2)] := hl
  refine lv_aload_n hx hb d_C_gatherFitting_0 rfl (lv_at hl 0 rfl) ?_
  refine lv_iconst (v := 0) hx hb d_C_gatherFitting_1 (by decide) ?_
  refine va_put (D := (dC, dI)) (ci := 0) (v := .int 0) (ty := .int) (C := "LoanRules") (T := Fz_C) (N := 16) hx hb hts it_C tz_C tz_C_ok nz_C hown hK hP hD hS 0 rfl rfl 13 (by decide) (hts _ tw_117) (fun _ h9 => h9) rfl (by decide +kernel) rfl rfl (Nat.le_of_ble_eq_true rfl) d_C_gatherFitting_2 (fun H locs hP hD hS => ?_)
  replace hP : va_P (dC, dI) vwCl [(a_h, .inr (0, [.ref a_tx, .ref a_ru, .int 0, .ref a_cd, .ref a_te, .ref a_ki, .ref a_ca, .ref a_ty, .ref a_io, .ref a_ex, .ref a_lo, .int 0, .ref a_fi, .int 0, .ref a_cl, .int 0]))] H := hP
  replace hD : va_D A [(a_h, .inr (0, [.ref a_tx, .ref a_ru, .int 0, .ref a_cd, .ref a_te, .ref a_ki, .ref a_ca, .ref a_ty, .ref a_io, .ref a_ex, .ref a_lo, .int 0, .ref a_fi, .int 0, .ref a_cl, .int 0]))] := hD
  refine lv_iconst (v := 0) hx hb d_C_gatherFitting_5 (by decide) ?_
  refine lv_istore (lv' := [(4, .int 0), (0, .ref a_h), (1, .int p0), (2, .int p1), (3, .int p2)]) hx hb d_C_gatherFitting_6 hl (by decide) rfl (fun ls hl => ?_)
  obtain ⟨n, i, hni, hi0⟩ : ∃ n i : Nat, i + n = 40 ∧ nI i = 0 := ⟨40, 0, rfl, by decide⟩
  replace hl : lv_has ls 6 [(4, .int (nI i)), (0, .ref a_h), (1, .int p0), (2, .int p1), (3, .int p2)] := by rw [hi0]; exact hl
  clear hi0
  induction n generalizing i ls H locs with
  | zero =>
    obtain rfl : i = 40 := by omega
    have hl : lv_has ls 6 [(4, .int 40), (0, .ref a_h), (1, .int p0), (2, .int p1), (3, .int p2)] := by have e9 : nI 40 = 40 := (by decide); rw [e9] at hl; exact hl
    refine lv_iload hx hb d_C_gatherFitting_8 (lv_at hl 0 rfl) ?_
    refine lv_bipush (v := 40) hx hb d_C_gatherFitting_10 (by decide) ?_
    refine lv_icmp_ge (tgt := 67) hx hb d_C_gatherFitting_12 (by decide) (fun c_1 => ?_) (fun c_1 => ?_)
    · have hP9 := hP.sub (ws' := [(a_h, .inr (0, [.ref a_tx, .ref a_ru, .int 0, .ref a_cd, .ref a_te, .ref a_ki, .ref a_ca, .ref a_ty, .ref a_io, .ref a_ex, .ref a_lo, .int 0, .ref a_fi, .int 0, .ref a_cl, .int 0]))]) [0] rfl
      have hD9 := hD.sub (ws' := [(a_h, .inr (0, [.ref a_tx, .ref a_ru, .int 0, .ref a_cd, .ref a_te, .ref a_ki, .ref a_ca, .ref a_ty, .ref a_io, .ref a_ex, .ref a_lo, .int 0, .ref a_fi, .int 0, .ref a_cl, .int 0]))]) [0] (by decide) rfl
      have hK9 := hK.sub (tys' := []) [] rfl
      exact W.vret hx hb hr (fun t ht hW => ⟨⟨(), rfl, trivial, by rw [ht]; exact hP9, va_K.moved hW.alike hK9, hD9⟩, hS.F ht⟩) hS.2.2 d_C_gatherFitting_67
    · exact absurd (by decide) c_1
  | succ n ih =>
    have hlt : i < 40 := by omega
    refine lv_iload hx hb d_C_gatherFitting_8 (lv_at hl 0 rfl) ?_
    refine lv_bipush (v := 40) hx hb d_C_gatherFitting_10 (by decide) ?_
    refine lv_icmp_ge (tgt := 67) hx hb d_C_gatherFitting_12 (by decide) (fun c_2 => ?_) (fun c_2 => ?_)
    · exact absurd c_2 (lk_ge40 hlt)
    · refine lv_aload_n hx hb d_C_gatherFitting_15 rfl (lv_at hl 1 rfl) ?_
      refine lv_iload hx hb d_C_gatherFitting_16 (lv_at hl 0 rfl) ?_
      have hPc := hP.sub (ws' := [(a_h, .inr (0, [.ref a_tx, .ref a_ru, .int 0, .ref a_cd, .ref a_te, .ref a_ki, .ref a_ca, .ref a_ty, .ref a_io, .ref a_ex, .ref a_lo, .int 0, .ref a_fi, .int 0, .ref a_cl, .int 0]))]) [0] rfl
      have hKc := hK.sub (tys' := []) [] rfl
      refine va_csq (va_Run.run (va_runV (As := [.int (nI i)]) (rest := []) ⟨hx, hb, hml, hown, hts⟩ (c_ruleAt l dC dI adK adV (a_h := a_h) (p0 := nI i) (a_tx := a_tx) (a_ru := a_ru) (a_cd := a_cd) (a_te := a_te) (a_ki := a_ki) (a_ca := a_ca) (a_ty := a_ty) (a_io := a_io) (a_ex := a_ex) (a_lo := a_lo) (a_fi := a_fi) (a_cl := a_cl)) (cwV 1 hts (gV tw_431 tw_433 tw_15 tw_42 tw_434) rfl rfl rfl (by decide +kernel) ⟨(Nat.le_of_ble_eq_true rfl), (Nat.le_of_ble_eq_true rfl)⟩) ⟨fun a U g mk q => by obtain ⟨q0, qZ, qP, qK⟩ := q; exact ⟨q0, zz_call qZ, qP, va_K.moved (u := U) (U := U.calling g mk a) (Vm.Alike.refl U.vm) qK⟩, va_recv hKc hPc (ci := 0) (q0 := 0) rfl rfl, fun U hU hW => ⟨rfl, zz_ro hS hU hW hZ, by rw [hU]; exact hPc, va_K.moved hW.alike hKc⟩⟩ rfl rfl hl.1 rfl (lv_room (Nat.le_of_ble_eq_true rfl)) d_C_gatherFitting_18 ⟨(Nat.le_of_ble_eq_true rfl), (Nat.le_of_ble_eq_true rfl)⟩)) (fun r_3 hw_4 => ?_)
      obtain rfl : r_3 = none := hw_4
      refine W.eq (g2 := F0 m 21 ls [.null]) rfl ?_
      refine lv_astoreN (lv' := [(5, .null), (4, .int (nI i)), (0, .ref a_h), (1, .int p0), (2, .int p1), (3, .int p2)]) hx hb d_C_gatherFitting_21 hl (by decide) rfl (fun ls hl => ?_)
      refine lv_aloadN hx hb d_C_gatherFitting_23 (lv_at hl 0 rfl) ?_
      refine lv_ifnullN (tgt := 61) hx hb d_C_gatherFitting_25 (by decide) ?_
      refine lv_iinc (v := (nI i) + 1) (lv' := [(4, .int ((nI i) + 1)), (5, .null), (0, .ref a_h), (1, .int p0), (2, .int p1), (3, .int p2)]) hx hb d_C_gatherFitting_61 hl (k := 1) rfl rfl (by decide) rfl (fun ls hl => ?_)
      refine lv_goto (tgt := 8) hx hb d_C_gatherFitting_64 (by decide) ?_
      replace hl := lv_sub hl [0, 2, 3, 4, 5] rfl
      replace hl : lv_has ls 6 [(4, .int (nI (i + 1))), (0, .ref a_h), (1, .int p0), (2, .int p1), (3, .int p2)] := by rw [← nI_1]; exact hl
      first | exact ih (i := i + 1) (H := H) (locs := locs) (ls := ls) hP hS (by omega) hl | exact ih (i := i + 1) (H := H) (locs := locs) (ls := ls) hS hP (by omega) hl
def g_lend (p0 : Int32) (p1 : Int32) (p2 : Int32) : Int32 :=
  if (g_isPerson p0) = 0 then
    0
  else
    if (g_isItem p1) = 0 then
      0
    else
      if (g_isDay p2) = 0 then
        0
      else
        (-100)
set_option maxHeartbeats 4000000 in
set_option maxRecDepth 100000 in
theorem c_lend (l : Launch) (dC : Nat → ClassId) (dI : Nat → Nat → Nat) (adK adV : Nat → Nat) (a_h : Nat) (a_io : Nat) (a_ca : Nat) (k_io : ClassId) (k_ca : ClassId) (p0 : Int32) (p1 : Int32) (p2 : Int32) (a_tx : Nat) (a_ru : Nat) (a_cd : Nat) (a_te : Nat) (a_ki : Nat) (a_ty : Nat) (a_ex : Nat) (a_lo : Nat) (a_fi : Nat) (a_cl : Nat) (sz : Nat) : Met l y_C_lend ws_C_lend ({ frames := 2, cells := 0, slots := 0, locals := 46 }) (va_Pc [.ref a_h, .int p0, .int p1, .int p2] (fun U => U.heap.size = sz ∧ zz adK adV (va_A [(a_h, .inr (0, [.ref a_tx, .ref a_ru, .int 0, .ref a_cd, .ref a_te, .ref a_ki, .ref a_ca, .ref a_ty, .ref a_io, .ref a_ex, .ref a_lo, .int 0, .ref a_fi, .int 0, .ref a_cl, .int 0])), (a_io, .inl (k_io, 50, .inl (fun _ => 0))), (a_ca, .inl (k_ca, 50, .inl (fun _ => 0)))] sz) U ∧ va_P (dC, dI) vwCl [(a_h, .inr (0, [.ref a_tx, .ref a_ru, .int 0, .ref a_cd, .ref a_te, .ref a_ki, .ref a_ca, .ref a_ty, .ref a_io, .ref a_ex, .ref a_lo, .int 0, .ref a_fi, .int 0, .ref a_cl, .int 0])), (a_io, .inl (k_io, 50, .inl (fun _ => 0))), (a_ca, .inl (k_ca, 50, .inl (fun _ => 0)))] U.heap ∧ va_K (dC, dI) vwCl [(k_io, .boolean), (k_ca, .int)] U ∧ va_D (fun _ => True) [(a_h, .inr (0, [.ref a_tx, .ref a_ru, .int 0, .ref a_cd, .ref a_te, .ref a_ki, .ref a_ca, .ref a_ty, .ref a_io, .ref a_ex, .ref a_lo, .int 0, .ref a_fi, .int 0, .ref a_cl, .int 0])), (a_io, .inl (k_io, 50, .inl (fun _ => 0))), (a_ca, .inl (k_ca, 50, .inl (fun _ => 0)))])) (va_Qi (fun (r : Int32) (_ : Unit) => r = g_lend p0 p1 p2) (fun (_ : Unit) (_ : State) => True) (va_A [(a_h, .inr (0, [.ref a_tx, .ref a_ru, .int 0, .ref a_cd, .ref a_te, .ref a_ki, .ref a_ca, .ref a_ty, .ref a_io, .ref a_ex, .ref a_lo, .int 0, .ref a_fi, .int 0, .ref a_cl, .int 0])), (a_io, .inl (k_io, 50, .inl (fun _ => 0))), (a_ca, .inl (k_ca, 50, .inl (fun _ => 0)))] sz)) 0 0 (va_A [(a_h, .inr (0, [.ref a_tx, .ref a_ru, .int 0, .ref a_cd, .ref a_te, .ref a_ki, .ref a_ca, .ref a_ty, .ref a_io, .ref a_ex, .ref a_lo, .int 0, .ref a_fi, .int 0, .ref a_cl, .int 0])), (a_io, .inl (k_io, 50, .inl (fun _ => 0))), (a_ca, .inl (k_ca, 50, .inl (fun _ => 0)))] sz) := by
  refine Met.ofW (cc := c_C_lend) (maxL := 6) (ret := (some .int)) (by decide) rfl ?_
  intro p e s m args below meth c s₁ B hml hv
  obtain ⟨rfl, hsz, hZ, hP, hK, hD0⟩ := hv
  have hx := B.exec
  have hb := B.bytes
  have hr := B.returns
  have hts0 := atoms_spec (ws := ws_C_lend) B.pre
  have hts : ∀ w ∈ TT, w.before _ s = true := fun w h => hts0 w (List.mem_cons_of_mem _ h)
  have hown : s.vm.findClass "LoanRules" = some m.cls := findClass_of_methodNamed B.named
  have hlocks := B.notSynchronized
  subst hsz
  have hD := hD0.self (sz := s.heap.size)
  generalize hAe : va_A [(a_h, .inr (0, [.ref a_tx, .ref a_ru, .int 0, .ref a_cd, .ref a_te, .ref a_ki, .ref a_ca, .ref a_ty, .ref a_io, .ref a_ex, .ref a_lo, .int 0, .ref a_fi, .int 0, .ref a_cl, .int 0])), (a_io, .inl (k_io, 50, .inl (fun _ => 0))), (a_ca, .inl (k_ca, 50, .inl (fun _ => 0)))] s.heap.size = A at hD hZ ⊢
  have hA : ∀ q : Nat, s.heap.size ≤ q → A q := fun q h => by rw [← hAe]; exact Or.inr h
  clear hAe hD0
  have hS : va_S A s.heap s.heap [] := va_S.rf
  replace hP : va_P (dC, dI) vwCl [(a_h, .inr (0, [.ref a_tx, .ref a_ru, .int 0, .ref a_cd, .ref a_te, .ref a_ki, .ref a_ca, .ref a_ty, .ref a_io, .ref a_ex, .ref a_lo, .int 0, .ref a_fi, .int 0, .ref a_cl, .int 0])), (a_io, .inl (k_io, 50, .inl (fun _ => 0))), (a_ca, .inl (k_ca, 50, .inl (fun _ => 0)))] s.heap := hP
  have hl := lv_entry ([.ref a_h, .int p0, .int p1, .int p2]) (n := 6) (Nat.le_of_ble_eq_true rfl)
  rw [lg_entry_eq]
  generalize (lg_sl ([.ref a_h, .int p0, .int p1, .int p2]) ++ List.replicate (6 - (lg_sl ([.ref a_h, .int p0, .int p1, .int p2])).length) Slot.unset).toArray = ls at hl ⊢
  replace hl : lv_has ls 6 [(0, .ref a_h), (1, .int p0), (2, .int p1), (3, .int p2)] := hl
  obtain ⟨z, hz⟩ : ∃ z, z = g_lend p0 p1 p2 := ⟨_, rfl⟩
  have hE := hz
  rw [g_lend] at hE
  refine lv_iload_n hx hb d_C_lend_0 rfl (lv_at hl 1 rfl) ?_
  have hPc := hP.sub (ws' := []) [] rfl
  have hKc := hK.sub (tys' := []) [] rfl
  refine vp_callSi (va_Run.run (va_runS (As := [.int p0]) (rest := []) ⟨hx, hb, hml, hown, hts⟩ (c_isPerson l dC dI adK adV (p0 := p0)) (va_cwS 1 hts (gS tw_373 tw_374 tw_42 tw_375) rfl rfl rfl (by decide +kernel) ⟨(Nat.le_of_ble_eq_true rfl), (Nat.le_of_ble_eq_true rfl)⟩) ⟨fun a U g mk q => by obtain ⟨q0, qZ, qP, qK⟩ := q; exact ⟨q0, zz_call qZ, qP, va_K.moved (u := U) (U := U.calling g mk a) (Vm.Alike.refl U.vm) qK⟩, fun U hU hW => ⟨rfl, zz_ro hS hU hW hZ, by rw [hU]; exact hPc, va_K.moved hW.alike hKc⟩⟩ rfl rfl hl.1 rfl (lv_room (Nat.le_of_ble_eq_true rfl)) d_C_lend_1 ⟨(Nat.le_of_ble_eq_true rfl), (Nat.le_of_ble_eq_true rfl)⟩)) (fun r_1 hw_2 => ?_)
  subst hw_2
  refine lv_if_eq (tgt := 21) hx hb d_C_lend_4 (by decide) (fun c_3 => ?_) (fun c_3 => ?_)
  · rw [if_pos c_3] at hE
    refine lv_iconst (v := 0) hx hb d_C_lend_21 (by decide) ?_
    exact W.iret (v := 0) hx hb hr (fun t ht hW => ⟨⟨0, (), rfl, hE.symm.trans hz, trivial⟩, hS.F ht⟩) hS.2.2 d_C_lend_22
  · rw [if_neg c_3] at hE
    refine lv_iload_n hx hb d_C_lend_7 rfl (lv_at hl 2 rfl) ?_
    have hPc := hP.sub (ws' := []) [] rfl
    have hKc := hK.sub (tys' := []) [] rfl
    refine vp_callSi (va_Run.run (va_runS (As := [.int p1]) (rest := []) ⟨hx, hb, hml, hown, hts⟩ (c_isItem l dC dI adK adV (p0 := p1)) (va_cwS 1 hts (gS tw_376 tw_377 tw_42 tw_378) rfl rfl rfl (by decide +kernel) ⟨(Nat.le_of_ble_eq_true rfl), (Nat.le_of_ble_eq_true rfl)⟩) ⟨fun a U g mk q => by obtain ⟨q0, qZ, qP, qK⟩ := q; exact ⟨q0, zz_call qZ, qP, va_K.moved (u := U) (U := U.calling g mk a) (Vm.Alike.refl U.vm) qK⟩, fun U hU hW => ⟨rfl, zz_ro hS hU hW hZ, by rw [hU]; exact hPc, va_K.moved hW.alike hKc⟩⟩ rfl rfl hl.1 rfl (lv_room (Nat.le_of_ble_eq_true rfl)) d_C_lend_8 ⟨(Nat.le_of_ble_eq_true rfl), (Nat.le_of_ble_eq_true rfl)⟩)) (fun r_4 hw_5 => ?_)
    subst hw_5
    refine lv_if_eq (tgt := 21) hx hb d_C_lend_11 (by decide) (fun c_6 => ?_) (fun c_6 => ?_)
    · rw [if_pos c_6] at hE
      refine lv_iconst (v := 0) hx hb d_C_lend_21 (by decide) ?_
      exact W.iret (v := 0) hx hb hr (fun t ht hW => ⟨⟨0, (), rfl, hE.symm.trans hz, trivial⟩, hS.F ht⟩) hS.2.2 d_C_lend_22
    · rw [if_neg c_6] at hE
      refine lv_iload_n hx hb d_C_lend_14 rfl (lv_at hl 3 rfl) ?_
      have hPc := hP.sub (ws' := []) [] rfl
      have hKc := hK.sub (tys' := []) [] rfl
      refine vp_callSi (va_Run.run (va_runS (As := [.int p2]) (rest := []) ⟨hx, hb, hml, hown, hts⟩ (c_isDay l dC dI adK adV (p0 := p2)) (va_cwS 1 hts (gS tw_352 tw_353 tw_42 tw_354) rfl rfl rfl (by decide +kernel) ⟨(Nat.le_of_ble_eq_true rfl), (Nat.le_of_ble_eq_true rfl)⟩) ⟨fun a U g mk q => by obtain ⟨q0, qZ, qP, qK⟩ := q; exact ⟨q0, zz_call qZ, qP, va_K.moved (u := U) (U := U.calling g mk a) (Vm.Alike.refl U.vm) qK⟩, fun U hU hW => ⟨rfl, zz_ro hS hU hW hZ, by rw [hU]; exact hPc, va_K.moved hW.alike hKc⟩⟩ rfl rfl hl.1 rfl (lv_room (Nat.le_of_ble_eq_true rfl)) d_C_lend_15 ⟨(Nat.le_of_ble_eq_true rfl), (Nat.le_of_ble_eq_true rfl)⟩)) (fun r_7 hw_8 => ?_)
      subst hw_8
      refine lv_if_ne (tgt := 23) hx hb d_C_lend_18 (by decide) (fun c_9 => ?_) (fun c_9 => ?_)
      · rw [if_neg c_9] at hE
        refine lv_aload_n hx hb d_C_lend_23 rfl (lv_at hl 0 rfl) ?_
        refine va_get (D := (dC, dI)) (ci := 0) (v := .ref a_io) (C := "LoanRules") (T := Fz_C) (N := 16) hx hb hts it_C hown hK hP 0 rfl rfl 8 (by decide) (hts _ tw_112) (fun _ h9 => h9) rfl d_C_lend_24 ?_
        refine lv_iload_n hx hb d_C_lend_27 rfl (lv_at hl 2 rfl) ?_
        have i_10 : vp_in p1 50 := in_item c_6
        refine va_zald (D := (dC, dI)) hx hb hK hP 1 0 rfl rfl i_10 d_C_lend_28 ?_
        refine lv_topi (fun x_11 ex_11 => ?_)
        obtain rfl : x_11 = 0 := ex_11
        refine lv_if_ne (tgt := 42) hx hb d_C_lend_29 (by decide) (fun c_12 => ?_) (fun c_12 => ?_)
        · exact absurd (by decide) c_12
        · refine lv_aload_n hx hb d_C_lend_32 rfl (lv_at hl 0 rfl) ?_
          refine va_get (D := (dC, dI)) (ci := 0) (v := .int 0) (C := "LoanRules") (T := Fz_C) (N := 16) hx hb hts it_C hown hK hP 0 rfl rfl 11 (by decide) (hts _ tw_115) (fun _ h9 => h9) rfl d_C_lend_33 ?_
          refine lv_sipush (v := 200) hx hb d_C_lend_36 (by decide) ?_
          refine lv_icmp_lt (tgt := 44) hx hb d_C_lend_39 (by decide) (fun c_13 => ?_) (fun c_13 => ?_)
          · refine lv_aload_n hx hb d_C_lend_44 rfl (lv_at hl 0 rfl) ?_
            refine va_get (D := (dC, dI)) (ci := 0) (v := .ref a_ca) (C := "LoanRules") (T := Fz_C) (N := 16) hx hb hts it_C hown hK hP 0 rfl rfl 6 (by decide) (hts _ tw_110) (fun _ h9 => h9) rfl d_C_lend_45 ?_
            refine lv_iload_n hx hb d_C_lend_48 rfl (lv_at hl 1 rfl) ?_
            have i_14 : vp_in p0 50 := in_person c_3
            refine va_iald (D := (dC, dI)) hx hb hK hP 2 1 rfl rfl i_14 d_C_lend_49 ?_
            refine lv_topi (fun x_15 ex_15 => ?_)
            obtain rfl : x_15 = 0 := ex_15
            refine lv_if_eq (tgt := 63) hx hb d_C_lend_50 (by decide) (fun c_16 => ?_) (fun c_16 => ?_)
            · refine lv_aload_n hx hb d_C_lend_63 rfl (lv_at hl 0 rfl) ?_
              refine lv_iload_n hx hb d_C_lend_64 rfl (lv_at hl 1 rfl) ?_
              refine lv_iload_n hx hb d_C_lend_65 rfl (lv_at hl 2 rfl) ?_
              refine lv_iload_n hx hb d_C_lend_66 rfl (lv_at hl 3 rfl) ?_
              have hPc := hP.sub (ws' := [(a_h, .inr (0, [.ref a_tx, .ref a_ru, .int 0, .ref a_cd, .ref a_te, .ref a_ki, .ref a_ca, .ref a_ty, .ref a_io, .ref a_ex, .ref a_lo, .int 0, .ref a_fi, .int 0, .ref a_cl, .int 0]))]) [0] rfl
              have hKc := hK.sub (tys' := []) [] rfl
              have hDc := hD.sub (ws' := [(a_h, .inr (0, [.ref a_tx, .ref a_ru, .int 0, .ref a_cd, .ref a_te, .ref a_ki, .ref a_ca, .ref a_ty, .ref a_io, .ref a_ex, .ref a_lo, .int 0, .ref a_fi, .int 0, .ref a_cl, .int 0]))]) [0] (by decide) rfl
              have hFc := va_free (wc := [(a_h, .inr (0, [.ref a_tx, .ref a_ru, .int 0, .ref a_cd, .ref a_te, .ref a_ki, .ref a_ca, .ref a_ty, .ref a_io, .ref a_ex, .ref a_lo, .int 0, .ref a_fi, .int 0, .ref a_cl, .int 0]))]) hD hS hA [0] rfl
              refine va_callv (va_runV (As := [.int p0, .int p1, .int p2]) (rest := []) ⟨hx, hb, hml, hown, hts⟩ (c_gatherFitting l dC dI adK adV (a_h := a_h) (p0 := p0) (p1 := p1) (p2 := p2) (a_tx := a_tx) (a_ru := a_ru) (a_cd := a_cd) (a_te := a_te) (a_ki := a_ki) (a_ca := a_ca) (a_ty := a_ty) (a_io := a_io) (a_ex := a_ex) (a_lo := a_lo) (a_fi := a_fi) (a_cl := a_cl) (sz := s.heap.size)) (cwV 3 hts (gV tw_463 tw_465 tw_17 tw_42 tw_466) rfl rfl rfl (by decide +kernel) ⟨(Nat.le_of_ble_eq_true rfl), (Nat.le_of_ble_eq_true rfl)⟩) ⟨fun a U g mk q => by obtain ⟨q0, q1, qZ, qP, qK, qD⟩ := q; exact ⟨q0, q1, zz_call qZ, qP, va_K.moved (u := U) (U := U.calling g mk a) (Vm.Alike.refl U.vm) qK, qD⟩, va_recv hKc hPc (ci := 0) (q0 := 0) rfl rfl, fun U hU hW => ⟨rfl, by rw [hU], zz_rw hS hFc hU hW hZ, by rw [hU]; exact hPc, va_K.moved hW.alike hKc, hDc.weaken (fun _ _ _ _ => trivial)⟩⟩ rfl rfl hl.1 rfl (lv_room (Nat.le_of_ble_eq_true rfl)) d_C_lend_67 ⟨(Nat.le_of_ble_eq_true rfl), (Nat.le_of_ble_eq_true rfl)⟩) hS (fun q _ h => hFc q h) hFc (fun u t H1 locs ht hvm hw_17 hB hz1 hk1 hS => ?_)
              obtain ⟨hP1, hK1, hD1⟩ := hB
              rw [ht] at hP1
              have hK1 := va_K.moved hvm.symm hK1
              obtain ⟨hP, hD⟩ := va_join (wr := [(a_io, .inl (k_io, 50, .inl (fun _ => 0))), (a_ca, .inl (k_ca, 50, .inl (fun _ => 0)))]) (w1 := [(a_h, .inr (0, [.ref a_tx, .ref a_ru, .int 0, .ref a_cd, .ref a_te, .ref a_ki, .ref a_ca, .ref a_ty, .ref a_io, .ref a_ex, .ref a_lo, .int 0, .ref a_fi, .int 0, .ref a_cl, .int 0]))]) hP hD [0] [1, 2] rfl rfl (by decide) (by decide) hk1 hFc hP1 hD1
              have hK := (hK.sub (tys' := [(k_io, .boolean), (k_ca, .int)]) [0, 1] rfl).app hK1
              generalize H1 = H at hP hS ⊢
              replace hP : va_P (dC, dI) vwCl [(a_io, .inl (k_io, 50, .inl (fun _ => 0))), (a_ca, .inl (k_ca, 50, .inl (fun _ => 0))), (a_h, .inr (0, [.ref a_tx, .ref a_ru, .int 0, .ref a_cd, .ref a_te, .ref a_ki, .ref a_ca, .ref a_ty, .ref a_io, .ref a_ex, .ref a_lo, .int 0, .ref a_fi, .int 0, .ref a_cl, .int 0]))] H := hP
              replace hD : va_D A [(a_io, .inl (k_io, 50, .inl (fun _ => 0))), (a_ca, .inl (k_ca, 50, .inl (fun _ => 0))), (a_h, .inr (0, [.ref a_tx, .ref a_ru, .int 0, .ref a_cd, .ref a_te, .ref a_ki, .ref a_ca, .ref a_ty, .ref a_io, .ref a_ex, .ref a_lo, .int 0, .ref a_fi, .int 0, .ref a_cl, .int 0]))] := hD
              replace hK : va_K (dC, dI) vwCl [(k_io, .boolean), (k_ca, .int)] s := hK
              refine lv_aload_n hx hb d_C_lend_70 rfl (lv_at hl 0 rfl) ?_
              refine lv_aload_n hx hb d_C_lend_71 rfl (lv_at hl 0 rfl) ?_
              refine lv_iconst (v := 0) hx hb d_C_lend_72 (by decide) ?_
              have hPc := hP.sub (ws' := [(a_h, .inr (0, [.ref a_tx, .ref a_ru, .int 0, .ref a_cd, .ref a_te, .ref a_ki, .ref a_ca, .ref a_ty, .ref a_io, .ref a_ex, .ref a_lo, .int 0, .ref a_fi, .int 0, .ref a_cl, .int 0]))]) [2] rfl
              have hKc := hK.sub (tys' := []) [] rfl
              refine vp_callSi (va_Run.run (va_runV (As := [.int 0]) (rest := [.ref a_h]) ⟨hx, hb, hml, hown, hts⟩ (c_fittingAt l dC dI adK adV (a_h := a_h) (p0 := 0) (a_tx := a_tx) (a_ru := a_ru) (a_cd := a_cd) (a_te := a_te) (a_ki := a_ki) (a_ca := a_ca) (a_ty := a_ty) (a_io := a_io) (a_ex := a_ex) (a_lo := a_lo) (a_fi := a_fi) (a_cl := a_cl)) (cwV 1 hts (gV tw_443 tw_445 tw_16 tw_42 tw_446) rfl rfl rfl (by decide +kernel) ⟨(Nat.le_of_ble_eq_true rfl), (Nat.le_of_ble_eq_true rfl)⟩) ⟨fun a U g mk q => by obtain ⟨q0, qZ, qP, qK⟩ := q; exact ⟨q0, zz_call qZ, qP, va_K.moved (u := U) (U := U.calling g mk a) (Vm.Alike.refl U.vm) qK⟩, va_recv hKc hPc (ci := 0) (q0 := 0) rfl rfl, fun U hU hW => ⟨rfl, zz_ro hS hU hW hZ, by rw [hU]; exact hPc, va_K.moved hW.alike hKc⟩⟩ rfl rfl hl.1 rfl (lv_room (Nat.le_of_ble_eq_true rfl)) d_C_lend_73 ⟨(Nat.le_of_ble_eq_true rfl), (Nat.le_of_ble_eq_true rfl)⟩)) (fun r_18 hw_19 => ?_)
              obtain rfl : r_18 = (-1) := hw_19
              have hPc := hP.sub (ws' := [(a_h, .inr (0, [.ref a_tx, .ref a_ru, .int 0, .ref a_cd, .ref a_te, .ref a_ki, .ref a_ca, .ref a_ty, .ref a_io, .ref a_ex, .ref a_lo, .int 0, .ref a_fi, .int 0, .ref a_cl, .int 0]))]) [2] rfl
              have hKc := hK.sub (tys' := []) [] rfl
              refine va_csq (va_Run.run (va_runV (As := [.int (-1)]) (rest := []) ⟨hx, hb, hml, hown, hts⟩ (c_ruleAt l dC dI adK adV (a_h := a_h) (p0 := (-1)) (a_tx := a_tx) (a_ru := a_ru) (a_cd := a_cd) (a_te := a_te) (a_ki := a_ki) (a_ca := a_ca) (a_ty := a_ty) (a_io := a_io) (a_ex := a_ex) (a_lo := a_lo) (a_fi := a_fi) (a_cl := a_cl)) (cwV 1 hts (gV tw_431 tw_433 tw_15 tw_42 tw_434) rfl rfl rfl (by decide +kernel) ⟨(Nat.le_of_ble_eq_true rfl), (Nat.le_of_ble_eq_true rfl)⟩) ⟨fun a U g mk q => by obtain ⟨q0, qZ, qP, qK⟩ := q; exact ⟨q0, zz_call qZ, qP, va_K.moved (u := U) (U := U.calling g mk a) (Vm.Alike.refl U.vm) qK⟩, va_recv hKc hPc (ci := 0) (q0 := 0) rfl rfl, fun U hU hW => ⟨rfl, zz_ro hS hU hW hZ, by rw [hU]; exact hPc, va_K.moved hW.alike hKc⟩⟩ rfl rfl hl.1 rfl (lv_room (Nat.le_of_ble_eq_true rfl)) d_C_lend_76 ⟨(Nat.le_of_ble_eq_true rfl), (Nat.le_of_ble_eq_true rfl)⟩)) (fun r_20 hw_21 => ?_)
              obtain rfl : r_20 = none := hw_21
              refine W.eq (g2 := F0 m 79 ls [.null]) rfl ?_
              refine lv_astoreN (lv' := [(4, .null), (0, .ref a_h), (1, .int p0), (2, .int p1), (3, .int p2)]) hx hb d_C_lend_79 hl (by decide) rfl (fun ls hl => ?_)
              refine lv_aloadN hx hb d_C_lend_81 (lv_at hl 0 rfl) ?_
              refine lv_ifnonnullN hx hb d_C_lend_83 ?_
              refine lv_bipush (v := (-100)) hx hb d_C_lend_86 (by decide) ?_
              exact W.iret (v := (-100)) hx hb hr (fun t ht hW => ⟨⟨(-100), (), rfl, hE.symm.trans hz, trivial⟩, hS.F ht⟩) hS.2.2 d_C_lend_88
            · exact absurd (by decide) c_16
          · exact absurd (by decide) c_13
      · rw [if_pos c_9] at hE
        refine lv_iconst (v := 0) hx hb d_C_lend_21 (by decide) ?_
        exact W.iret (v := 0) hx hb hr (fun t ht hW => ⟨⟨0, (), rfl, hE.symm.trans hz, trivial⟩, hS.F ht⟩) hS.2.2 d_C_lend_22
set_option maxHeartbeats 4000000 in
set_option maxRecDepth 100000 in
theorem c_holds (l : Launch) (dC : Nat → ClassId) (dI : Nat → Nat → Nat) (adK adV : Nat → Nat) (a_cd : Nat) (a_cw : Nat) (k_cw : ClassId) (p0 : Int32) : Met l y_D_holds ws_D_holds ({ frames := 1, cells := 0, slots := 0, locals := 20 }) (va_Pc [.ref a_cd, .int p0] (fun U => zz adK adV (fun _ => False) U ∧ va_P (dC, dI) vwCl [(a_cd, .inr (1, [.ref a_cw])), (a_cw, .inl (k_cw, 157, .inr (.inl (fun _ => 0))))] U.heap ∧ va_K (dC, dI) vwCl [(k_cw, .long)] U)) (vp_Si (fun r => r = 0)) 0 0 (fun _ => False) := by
  refine Met.ofW (cc := c_D_holds) (maxL := 2) (ret := (some .boolean)) (by decide) rfl ?_
  intro p e s m args below meth c s₁ B hml hv
  obtain ⟨rfl, hZ, hP, hK⟩ := hv
  have hx := B.exec
  have hb := B.bytes
  have hr := B.returns
  have hts0 := atoms_spec (ws := ws_D_holds) B.pre
  have hts : ∀ w ∈ TT, w.before _ s = true := fun w h => hts0 w (List.mem_cons_of_mem _ h)
  have hown : s.vm.findClass "LoanRules$DaySet" = some m.cls := findClass_of_methodNamed B.named
  have hlocks := B.notSynchronized
  have hS : va_S (fun _ => False) s.heap s.heap [] := va_S.rf
  replace hP : va_P (dC, dI) vwCl [(a_cd, .inr (1, [.ref a_cw])), (a_cw, .inl (k_cw, 157, .inr (.inl (fun _ => 0))))] s.heap := hP
  have hl := lv_entry ([.ref a_cd, .int p0]) (n := 2) (Nat.le_of_ble_eq_true rfl)
  rw [lg_entry_eq]
  generalize (lg_sl ([.ref a_cd, .int p0]) ++ List.replicate (2 - (lg_sl ([.ref a_cd, .int p0])).length) Slot.unset).toArray = ls at hl ⊢
  replace hl : lv_has ls 2 [(0, .ref a_cd), (1, .int p0)] := hl
  refine lv_iload_n hx hb d_D_holds_0 rfl (lv_at hl 1 rfl) ?_
  have hPc := hP.sub (ws' := []) [] rfl
  have hKc := hK.sub (tys' := []) [] rfl
  refine vp_callSi (va_Run.run (va_runSN (As := [.int p0]) (rest := []) ⟨hx, hb, hml, hown, hts⟩ (c_isDay l dC dI adK adV (p0 := p0)) ⟨va_cnB 1 hts (gI tw_354) rfl rfl rfl (zn_D_15 hZ) (hts _ tw_42) (by decide +kernel) ⟨(Nat.le_of_ble_eq_true rfl), (Nat.le_of_ble_eq_true rfl)⟩, (hts _ tw_353), trivial⟩ ⟨fun a U g mk q => by obtain ⟨q0, qZ, qP, qK⟩ := q; exact ⟨q0, zz_call qZ, qP, va_K.moved (u := U) (U := U.calling g mk a) (Vm.Alike.refl U.vm) qK⟩, fun U hU hW => ⟨rfl, zz_rr hU hW hZ, by rw [hU]; exact hPc, va_K.moved hW.alike hKc⟩⟩ rfl rfl hl.1 rfl (lv_room (Nat.le_of_ble_eq_true rfl)) d_D_holds_1 ⟨(Nat.le_of_ble_eq_true rfl), (Nat.le_of_ble_eq_true rfl)⟩)) (fun r_1 hw_2 => ?_)
  subst hw_2
  refine lv_if_eq (tgt := 32) hx hb d_D_holds_4 (by decide) (fun c_3 => ?_) (fun c_3 => ?_)
  · refine lv_iconst (v := 0) hx hb d_D_holds_32 (by decide) ?_
    exact W.zret (v := 0) hx hb hr rfl (fun t ht hW => ⟨0, rfl, rfl, ht⟩) (fun _ h => by cases h) d_D_holds_33
  · refine lv_aload_n hx hb d_D_holds_7 rfl (lv_at hl 0 rfl) ?_
    refine va_get (D := (dC, dI)) (ci := 1) (v := .ref a_cw) (C := "LoanRules$DaySet") (T := Fz_D) (N := 1) hx hb hts it_D hown hK hP 0 rfl rfl 0 (by decide) (hts _ tw_94) (fun _ h9 => h9) rfl d_D_holds_8 ?_
    refine lv_iload_n hx hb d_D_holds_11 rfl (lv_at hl 1 rfl) ?_
    refine lv_bipush (v := 64) hx hb d_D_holds_12 (by decide) ?_
    refine lv_idiv hx hb d_D_holds_14 (by decide) ?_
    have i_4 : vp_in (p0 / 64) 157 := in_day c_3
    refine va_lald (D := (dC, dI)) hx hb hK hP 1 0 rfl rfl i_4 d_D_holds_15 ?_
    refine lv_topl (fun x_5 ex_5 => ?_)
    obtain rfl : x_5 = 0 := ex_5
    refine lv_iload_n hx hb d_D_holds_16 rfl (lv_at hl 1 rfl) ?_
    refine lv_bipush (v := 64) hx hb d_D_holds_17 (by decide) ?_
    refine lv_irem hx hb d_D_holds_19 (by decide) ?_
    refine lv_lushr (v := 0) hx hb d_D_holds_20 (lz_ushr _) ?_
    refine lv_lconst (v := 1) hx hb d_D_holds_21 rfl ?_
    refine lv_land hx hb d_D_holds_22 ?_
    refine lv_topl (fun x_6 ex_6 => ?_)
    obtain rfl : x_6 = 0 := ex_6.trans (by decide)
    refine lv_lconst (v := 0) hx hb d_D_holds_23 rfl ?_
    refine W.lcmp hx hb d_D_holds_24 ?_
    refine lv_topi (fun x_7 ex_7 => ?_)
    obtain rfl : x_7 = 0 := ex_7.trans (by decide)
    refine lv_if_eq (tgt := 32) hx hb d_D_holds_25 (by decide) (fun c_8 => ?_) (fun c_8 => ?_)
    · refine lv_iconst (v := 0) hx hb d_D_holds_32 (by decide) ?_
      exact W.zret (v := 0) hx hb hr rfl (fun t ht hW => ⟨0, rfl, rfl, ht⟩) (fun _ h => by cases h) d_D_holds_33
    · exact absurd (by decide) c_8
set_option maxHeartbeats 4000000 in
set_option maxRecDepth 100000 in
theorem c_put (l : Launch) (dC : Nat → ClassId) (dI : Nat → Nat → Nat) (adK adV : Nat → Nat) (a_cd : Nat) (a_cw : Nat) (k_cw : ClassId) (p0 : Int32) (p1 : Int32) (f_w : Nat → Int64) (sz : Nat) : Met l y_D_put ws_D_put ({ frames := 1, cells := 0, slots := 0, locals := 20 }) (va_Pc [.ref a_cd, .int p0, .int p1] (fun U => U.heap.size = sz ∧ zz adK adV (va_A [(a_cd, .inr (1, [.ref a_cw])), (a_cw, .inl (k_cw, 157, .inr (.inl f_w)))] sz) U ∧ va_P (dC, dI) vwCl [(a_cd, .inr (1, [.ref a_cw])), (a_cw, .inl (k_cw, 157, .inr (.inl f_w)))] U.heap ∧ va_K (dC, dI) vwCl [(k_cw, .long)] U ∧ va_D (fun _ => True) [(a_cd, .inr (1, [.ref a_cw])), (a_cw, .inl (k_cw, 157, .inr (.inl f_w)))])) (va_Qv (fun _ : Unit => True) (fun (_ : Unit) (_ : State) => True) (va_A [(a_cd, .inr (1, [.ref a_cw])), (a_cw, .inl (k_cw, 157, .inr (.inl f_w)))] sz)) 0 0 (va_A [(a_cd, .inr (1, [.ref a_cw])), (a_cw, .inl (k_cw, 157, .inr (.inl f_w)))] sz) := by
  refine Met.ofW (cc := c_D_put) (maxL := 5) (ret := none) (by decide) rfl ?_
  intro p e s m args below meth c s₁ B hml hv
  obtain ⟨rfl, hsz, hZ, hP, hK, hD0⟩ := hv
  have hx := B.exec
  have hb := B.bytes
  have hr := B.returns
  have hts0 := atoms_spec (ws := ws_D_put) B.pre
  have hts : ∀ w ∈ TT, w.before _ s = true := fun w h => hts0 w (List.mem_cons_of_mem _ h)
  have hown : s.vm.findClass "LoanRules$DaySet" = some m.cls := findClass_of_methodNamed B.named
  have hlocks := B.notSynchronized
  subst hsz
  have hD := hD0.self (sz := s.heap.size)
  generalize hAe : va_A [(a_cd, .inr (1, [.ref a_cw])), (a_cw, .inl (k_cw, 157, .inr (.inl f_w)))] s.heap.size = A at hD hZ ⊢
  have hA : ∀ q : Nat, s.heap.size ≤ q → A q := fun q h => by rw [← hAe]; exact Or.inr h
  clear hAe hD0
  have hS : va_S A s.heap s.heap [] := va_S.rf
  replace hP : va_P (dC, dI) vwCl [(a_cd, .inr (1, [.ref a_cw])), (a_cw, .inl (k_cw, 157, .inr (.inl f_w)))] s.heap := hP
  have hl := lv_entry ([.ref a_cd, .int p0, .int p1]) (n := 5) (Nat.le_of_ble_eq_true rfl)
  rw [lg_entry_eq]
  generalize (lg_sl ([.ref a_cd, .int p0, .int p1]) ++ List.replicate (5 - (lg_sl ([.ref a_cd, .int p0, .int p1])).length) Slot.unset).toArray = ls at hl ⊢
  replace hl : lv_has ls 5 [(0, .ref a_cd), (1, .int p0), (2, .int p1)] := hl
  refine lv_iload_n hx hb d_D_put_0 rfl (lv_at hl 1 rfl) ?_
  have hPc := hP.sub (ws' := []) [] rfl
  have hKc := hK.sub (tys' := []) [] rfl
  refine vp_callSi (va_Run.run (va_runSN (As := [.int p0]) (rest := []) ⟨hx, hb, hml, hown, hts⟩ (c_isDay l dC dI adK adV (p0 := p0)) ⟨va_cnB 1 hts (gI tw_354) rfl rfl rfl (zn_D_15 hZ) (hts _ tw_42) (by decide +kernel) ⟨(Nat.le_of_ble_eq_true rfl), (Nat.le_of_ble_eq_true rfl)⟩, (hts _ tw_353), trivial⟩ ⟨fun a U g mk q => by obtain ⟨q0, qZ, qP, qK⟩ := q; exact ⟨q0, zz_call qZ, qP, va_K.moved (u := U) (U := U.calling g mk a) (Vm.Alike.refl U.vm) qK⟩, fun U hU hW => ⟨rfl, zz_ro hS hU hW hZ, by rw [hU]; exact hPc, va_K.moved hW.alike hKc⟩⟩ rfl rfl hl.1 rfl (lv_room (Nat.le_of_ble_eq_true rfl)) d_D_put_1 ⟨(Nat.le_of_ble_eq_true rfl), (Nat.le_of_ble_eq_true rfl)⟩)) (fun r_1 hw_2 => ?_)
  subst hw_2
  refine lv_if_ne (tgt := 8) hx hb d_D_put_4 (by decide) (fun c_3 => ?_) (fun c_3 => ?_)
  · refine lv_lconst (v := 1) hx hb d_D_put_8 rfl ?_
    refine lv_iload_n hx hb d_D_put_9 rfl (lv_at hl 1 rfl) ?_
    refine lv_bipush (v := 64) hx hb d_D_put_10 (by decide) ?_
    refine lv_irem hx hb d_D_put_12 (by decide) ?_
    refine lv_lshl hx hb d_D_put_13 rfl ?_
    refine lv_lstore_n (lv' := [(3, .long ((1 : Int64) <<< ((p0 - p0 / 64 * 64).toInt64 &&& 63))), (0, .ref a_cd), (1, .int p0), (2, .int p1)]) hx hb d_D_put_14 rfl hl (by decide) rfl (fun ls hl => ?_)
    refine lv_iload_n hx hb d_D_put_15 rfl (lv_at hl 3 rfl) ?_
    refine lv_if_eq (tgt := 35) hx hb d_D_put_16 (by decide) (fun c_4 => ?_) (fun c_4 => ?_)
    · refine lv_aload_n hx hb d_D_put_35 rfl (lv_at hl 1 rfl) ?_
      refine va_get (D := (dC, dI)) (ci := 1) (v := .ref a_cw) (C := "LoanRules$DaySet") (T := Fz_D) (N := 1) hx hb hts it_D hown hK hP 0 rfl rfl 0 (by decide) (hts _ tw_94) (fun _ h9 => h9) rfl d_D_put_36 ?_
      refine lv_iload_n hx hb d_D_put_39 rfl (lv_at hl 2 rfl) ?_
      refine lv_bipush (v := 64) hx hb d_D_put_40 (by decide) ?_
      refine lv_idiv hx hb d_D_put_42 (by decide) ?_
      refine lv_dup2_11 hx hb d_D_put_43 rfl rfl ?_
      have i_5 : vp_in (p0 / 64) 157 := in_day c_3
      refine va_lald (D := (dC, dI)) hx hb hK hP 1 0 rfl rfl i_5 d_D_put_44 ?_
      refine lv_lload_n hx hb d_D_put_45 rfl (lv_at hl 0 rfl) ?_
      refine lv_ldc2 (v := (-1)) hx hb hown (hts _ tw_364) d_D_put_46 ?_
      refine lv_lxor hx hb d_D_put_49 ?_
      refine lv_land hx hb d_D_put_50 ?_
      have i_6 : vp_in (p0 / 64) 157 := in_day c_3
      refine va_last (D := (dC, dI)) hx hb hK hP hD hS 1 0 rfl rfl i_6 d_D_put_51 (fun H locs hP hD hS => ?_)
      replace hP : va_P (dC, dI) vwCl [(a_cd, .inr (1, [.ref a_cw])), (a_cw, .inl (k_cw, 157, .inr (.inl (vp_updL f_w (p0 / 64).toNatClampNeg ((f_w (p0 / 64).toNatClampNeg) &&& (((1 : Int64) <<< ((p0 - p0 / 64 * 64).toInt64 &&& 63)) ^^^ (-1)))))))] H := hP
      replace hD : va_D A [(a_cd, .inr (1, [.ref a_cw])), (a_cw, .inl (k_cw, 157, .inr (.inl (vp_updL f_w (p0 / 64).toNatClampNeg ((f_w (p0 / 64).toNatClampNeg) &&& (((1 : Int64) <<< ((p0 - p0 / 64 * 64).toInt64 &&& 63)) ^^^ (-1)))))))] := hD
      exact W.vret hx hb hr (fun t ht hW => ⟨⟨(), rfl, trivial, trivial⟩, hS.F ht⟩) hS.2.2 d_D_put_52
    · refine lv_aload_n hx hb d_D_put_19 rfl (lv_at hl 1 rfl) ?_
      refine va_get (D := (dC, dI)) (ci := 1) (v := .ref a_cw) (C := "LoanRules$DaySet") (T := Fz_D) (N := 1) hx hb hts it_D hown hK hP 0 rfl rfl 0 (by decide) (hts _ tw_94) (fun _ h9 => h9) rfl d_D_put_20 ?_
      refine lv_iload_n hx hb d_D_put_23 rfl (lv_at hl 2 rfl) ?_
      refine lv_bipush (v := 64) hx hb d_D_put_24 (by decide) ?_
      refine lv_idiv hx hb d_D_put_26 (by decide) ?_
      refine lv_dup2_11 hx hb d_D_put_27 rfl rfl ?_
      have i_7 : vp_in (p0 / 64) 157 := in_day c_3
      refine va_lald (D := (dC, dI)) hx hb hK hP 1 0 rfl rfl i_7 d_D_put_28 ?_
      refine lv_lload_n hx hb d_D_put_29 rfl (lv_at hl 0 rfl) ?_
      refine lv_lor hx hb d_D_put_30 ?_
      have i_8 : vp_in (p0 / 64) 157 := in_day c_3
      refine va_last (D := (dC, dI)) hx hb hK hP hD hS 1 0 rfl rfl i_8 d_D_put_31 (fun H locs hP hD hS => ?_)
      replace hP : va_P (dC, dI) vwCl [(a_cd, .inr (1, [.ref a_cw])), (a_cw, .inl (k_cw, 157, .inr (.inl (vp_updL f_w (p0 / 64).toNatClampNeg ((f_w (p0 / 64).toNatClampNeg) ||| ((1 : Int64) <<< ((p0 - p0 / 64 * 64).toInt64 &&& 63)))))))] H := hP
      replace hD : va_D A [(a_cd, .inr (1, [.ref a_cw])), (a_cw, .inl (k_cw, 157, .inr (.inl (vp_updL f_w (p0 / 64).toNatClampNeg ((f_w (p0 / 64).toNatClampNeg) ||| ((1 : Int64) <<< ((p0 - p0 / 64 * 64).toInt64 &&& 63)))))))] := hD
      refine lv_goto (tgt := 52) hx hb d_D_put_32 (by decide) ?_
      exact W.vret hx hb hr (fun t ht hW => ⟨⟨(), rfl, trivial, trivial⟩, hS.F ht⟩) hS.2.2 d_D_put_52
  · exact W.vret hx hb hr (fun t ht hW => ⟨⟨(), rfl, trivial, trivial⟩, hS.F ht⟩) hS.2.2 d_D_put_7
set_option maxHeartbeats 4000000 in
set_option maxRecDepth 100000 in
theorem c_closed (l : Launch) (dC : Nat → ClassId) (dI : Nat → Nat → Nat) (adK adV : Nat → Nat) (a_h : Nat) (a_cd : Nat) (a_cw : Nat) (k_cw : ClassId) (p0 : Int32) (p1 : Int32) (a_tx : Nat) (a_ru : Nat) (a_te : Nat) (a_ki : Nat) (a_ca : Nat) (a_ty : Nat) (a_io : Nat) (a_ex : Nat) (a_lo : Nat) (a_fi : Nat) (a_cl : Nat) (sz : Nat) : Met l y_C_closed ws_C_closed ({ frames := 2, cells := 0, slots := 0, locals := 44 }) (va_Pc [.ref a_h, .int p0, .int p1] (fun U => U.heap.size = sz ∧ zz adK adV (va_A [(a_h, .inr (0, [.ref a_tx, .ref a_ru, .int 0, .ref a_cd, .ref a_te, .ref a_ki, .ref a_ca, .ref a_ty, .ref a_io, .ref a_ex, .ref a_lo, .int 0, .ref a_fi, .int 0, .ref a_cl, .int 0])), (a_cd, .inr (1, [.ref a_cw])), (a_cw, .inl (k_cw, 157, .inr (.inl (fun _ => 0))))] sz) U ∧ va_P (dC, dI) vwCl [(a_h, .inr (0, [.ref a_tx, .ref a_ru, .int 0, .ref a_cd, .ref a_te, .ref a_ki, .ref a_ca, .ref a_ty, .ref a_io, .ref a_ex, .ref a_lo, .int 0, .ref a_fi, .int 0, .ref a_cl, .int 0])), (a_cd, .inr (1, [.ref a_cw])), (a_cw, .inl (k_cw, 157, .inr (.inl (fun _ => 0))))] U.heap ∧ va_K (dC, dI) vwCl [(k_cw, .long)] U ∧ va_D (fun _ => True) [(a_h, .inr (0, [.ref a_tx, .ref a_ru, .int 0, .ref a_cd, .ref a_te, .ref a_ki, .ref a_ca, .ref a_ty, .ref a_io, .ref a_ex, .ref a_lo, .int 0, .ref a_fi, .int 0, .ref a_cl, .int 0])), (a_cd, .inr (1, [.ref a_cw])), (a_cw, .inl (k_cw, 157, .inr (.inl (fun _ => 0))))])) (va_Qi (fun (r : Int32) (_ : Unit) => r = 0) (fun (_ : Unit) (_ : State) => True) (va_A [(a_h, .inr (0, [.ref a_tx, .ref a_ru, .int 0, .ref a_cd, .ref a_te, .ref a_ki, .ref a_ca, .ref a_ty, .ref a_io, .ref a_ex, .ref a_lo, .int 0, .ref a_fi, .int 0, .ref a_cl, .int 0])), (a_cd, .inr (1, [.ref a_cw])), (a_cw, .inl (k_cw, 157, .inr (.inl (fun _ => 0))))] sz)) 0 0 (va_A [(a_h, .inr (0, [.ref a_tx, .ref a_ru, .int 0, .ref a_cd, .ref a_te, .ref a_ki, .ref a_ca, .ref a_ty, .ref a_io, .ref a_ex, .ref a_lo, .int 0, .ref a_fi, .int 0, .ref a_cl, .int 0])), (a_cd, .inr (1, [.ref a_cw])), (a_cw, .inl (k_cw, 157, .inr (.inl (fun _ => 0))))] sz) := by
  refine Met.ofW (cc := c_C_closed) (maxL := 4) (ret := (some .boolean)) (by decide) rfl ?_
  intro p e s m args below meth c s₁ B hml hv
  obtain ⟨rfl, hsz, hZ, hP, hK, hD0⟩ := hv
  have hx := B.exec
  have hb := B.bytes
  have hr := B.returns
  have hts0 := atoms_spec (ws := ws_C_closed) B.pre
  have hts : ∀ w ∈ TT, w.before _ s = true := fun w h => hts0 w (List.mem_cons_of_mem _ h)
  have hown : s.vm.findClass "LoanRules" = some m.cls := findClass_of_methodNamed B.named
  have hlocks := B.notSynchronized
  subst hsz
  have hD := hD0.self (sz := s.heap.size)
  generalize hAe : va_A [(a_h, .inr (0, [.ref a_tx, .ref a_ru, .int 0, .ref a_cd, .ref a_te, .ref a_ki, .ref a_ca, .ref a_ty, .ref a_io, .ref a_ex, .ref a_lo, .int 0, .ref a_fi, .int 0, .ref a_cl, .int 0])), (a_cd, .inr (1, [.ref a_cw])), (a_cw, .inl (k_cw, 157, .inr (.inl (fun _ => 0))))] s.heap.size = A at hD hZ ⊢
  have hA : ∀ q : Nat, s.heap.size ≤ q → A q := fun q h => by rw [← hAe]; exact Or.inr h
  clear hAe hD0
  have hS : va_S A s.heap s.heap [] := va_S.rf
  replace hP : va_P (dC, dI) vwCl [(a_h, .inr (0, [.ref a_tx, .ref a_ru, .int 0, .ref a_cd, .ref a_te, .ref a_ki, .ref a_ca, .ref a_ty, .ref a_io, .ref a_ex, .ref a_lo, .int 0, .ref a_fi, .int 0, .ref a_cl, .int 0])), (a_cd, .inr (1, [.ref a_cw])), (a_cw, .inl (k_cw, 157, .inr (.inl (fun _ => 0))))] s.heap := hP
  have hl := lv_entry ([.ref a_h, .int p0, .int p1]) (n := 4) (Nat.le_of_ble_eq_true rfl)
  rw [lg_entry_eq]
  generalize (lg_sl ([.ref a_h, .int p0, .int p1]) ++ List.replicate (4 - (lg_sl ([.ref a_h, .int p0, .int p1])).length) Slot.unset).toArray = ls at hl ⊢
  replace hl : lv_has ls 4 [(0, .ref a_h), (1, .int p0), (2, .int p1)] := hl
  refine lv_iload_n hx hb d_C_closed_0 rfl (lv_at hl 1 rfl) ?_
  have hPc := hP.sub (ws' := []) [] rfl
  have hKc := hK.sub (tys' := []) [] rfl
  refine vp_callSi (va_Run.run (va_runS (As := [.int p0]) (rest := []) ⟨hx, hb, hml, hown, hts⟩ (c_isDay l dC dI adK adV (p0 := p0)) (va_cwS 1 hts (gS tw_352 tw_353 tw_42 tw_354) rfl rfl rfl (by decide +kernel) ⟨(Nat.le_of_ble_eq_true rfl), (Nat.le_of_ble_eq_true rfl)⟩) ⟨fun a U g mk q => by obtain ⟨q0, qZ, qP, qK⟩ := q; exact ⟨q0, zz_call qZ, qP, va_K.moved (u := U) (U := U.calling g mk a) (Vm.Alike.refl U.vm) qK⟩, fun U hU hW => ⟨rfl, zz_ro hS hU hW hZ, by rw [hU]; exact hPc, va_K.moved hW.alike hKc⟩⟩ rfl rfl hl.1 rfl (lv_room (Nat.le_of_ble_eq_true rfl)) d_C_closed_1 ⟨(Nat.le_of_ble_eq_true rfl), (Nat.le_of_ble_eq_true rfl)⟩)) (fun r_1 hw_2 => ?_)
  subst hw_2
  refine lv_if_ne (tgt := 9) hx hb d_C_closed_4 (by decide) (fun c_3 => ?_) (fun c_3 => ?_)
  · refine lv_aload_n hx hb d_C_closed_9 rfl (lv_at hl 0 rfl) ?_
    refine va_get (D := (dC, dI)) (ci := 0) (v := .ref a_cd) (C := "LoanRules") (T := Fz_C) (N := 16) hx hb hts it_C hown hK hP 0 rfl rfl 3 (by decide) (hts _ tw_107) (fun _ h9 => h9) rfl d_C_closed_10 ?_
    refine lv_iload_n hx hb d_C_closed_13 rfl (lv_at hl 1 rfl) ?_
    have hPc := hP.sub (ws' := [(a_cd, .inr (1, [.ref a_cw])), (a_cw, .inl (k_cw, 157, .inr (.inl (fun _ => 0))))]) [1, 2] rfl
    have hKc := hK.sub (tys' := [(k_cw, .long)]) [0] rfl
    refine vp_callSi (va_Run.run (va_runV (As := [.int p0]) (rest := []) ⟨hx, hb, hml, hown, hts⟩ (c_holds l dC dI adK adV (a_cd := a_cd) (p0 := p0) (a_cw := a_cw) (k_cw := k_cw)) (cwV 1 hts (gV tw_355 tw_356 tw_357 tw_44 tw_358) rfl rfl rfl (by decide +kernel) ⟨(Nat.le_of_ble_eq_true rfl), (Nat.le_of_ble_eq_true rfl)⟩) ⟨fun a U g mk q => by obtain ⟨q0, qZ, qP, qK⟩ := q; exact ⟨q0, zz_call qZ, qP, va_K.moved (u := U) (U := U.calling g mk a) (Vm.Alike.refl U.vm) qK⟩, va_recv hKc hPc (ci := 1) (q0 := 0) rfl rfl, fun U hU hW => ⟨rfl, zz_ro hS hU hW hZ, by rw [hU]; exact hPc, va_K.moved hW.alike hKc⟩⟩ rfl rfl hl.1 rfl (lv_room (Nat.le_of_ble_eq_true rfl)) d_C_closed_14 ⟨(Nat.le_of_ble_eq_true rfl), (Nat.le_of_ble_eq_true rfl)⟩)) (fun r_4 hw_5 => ?_)
    obtain rfl : r_4 = 0 := hw_5
    refine lv_istore_n (lv' := [(3, .int 0), (0, .ref a_h), (1, .int p0), (2, .int p1)]) hx hb d_C_closed_17 rfl hl (by decide) rfl (fun ls hl => ?_)
    refine lv_aload_n hx hb d_C_closed_18 rfl (lv_at hl 1 rfl) ?_
    refine va_get (D := (dC, dI)) (ci := 0) (v := .ref a_cd) (C := "LoanRules") (T := Fz_C) (N := 16) hx hb hts it_C hown hK hP 0 rfl rfl 3 (by decide) (hts _ tw_107) (fun _ h9 => h9) rfl d_C_closed_19 ?_
    refine lv_iload_n hx hb d_C_closed_22 rfl (lv_at hl 2 rfl) ?_
    refine lv_iload_n hx hb d_C_closed_23 rfl (lv_at hl 3 rfl) ?_
    have hPc := hP.sub (ws' := [(a_cd, .inr (1, [.ref a_cw])), (a_cw, .inl (k_cw, 157, .inr (.inl (fun _ => 0))))]) [1, 2] rfl
    have hKc := hK.sub (tys' := [(k_cw, .long)]) [0] rfl
    have hDc := hD.sub (ws' := [(a_cd, .inr (1, [.ref a_cw])), (a_cw, .inl (k_cw, 157, .inr (.inl (fun _ => 0))))]) [1, 2] (by decide) rfl
    have hFc := va_free (wc := [(a_cd, .inr (1, [.ref a_cw])), (a_cw, .inl (k_cw, 157, .inr (.inl (fun _ => 0))))]) hD hS hA [1, 2] rfl
    refine va_callv (va_runV (As := [.int p0, .int p1]) (rest := []) ⟨hx, hb, hml, hown, hts⟩ (c_put l dC dI adK adV (a_cd := a_cd) (p0 := p0) (p1 := p1) (a_cw := a_cw) (k_cw := k_cw) (f_w := (fun _ => 0)) (sz := s.heap.size)) (cwV 2 hts (gV tw_360 tw_361 tw_362 tw_44 tw_363) rfl rfl rfl (by decide +kernel) ⟨(Nat.le_of_ble_eq_true rfl), (Nat.le_of_ble_eq_true rfl)⟩) ⟨fun a U g mk q => by obtain ⟨q0, q1, qZ, qP, qK, qD⟩ := q; exact ⟨q0, q1, zz_call qZ, qP, va_K.moved (u := U) (U := U.calling g mk a) (Vm.Alike.refl U.vm) qK, qD⟩, va_recv hKc hPc (ci := 1) (q0 := 0) rfl rfl, fun U hU hW => ⟨rfl, by rw [hU], zz_rw hS hFc hU hW hZ, by rw [hU]; exact hPc, va_K.moved hW.alike hKc, hDc.weaken (fun _ _ _ _ => trivial)⟩⟩ rfl rfl hl.1 rfl (lv_room (Nat.le_of_ble_eq_true rfl)) d_C_closed_24 ⟨(Nat.le_of_ble_eq_true rfl), (Nat.le_of_ble_eq_true rfl)⟩) hS (fun q _ h => hFc q h) hFc (fun u t H1 locs ht hvm hw_6 hB hz1 hk1 hS => ?_)
    obtain ⟨hP, hD⟩ := va_join (wr := [(a_h, .inr (0, [.ref a_tx, .ref a_ru, .int 0, .ref a_cd, .ref a_te, .ref a_ki, .ref a_ca, .ref a_ty, .ref a_io, .ref a_ex, .ref a_lo, .int 0, .ref a_fi, .int 0, .ref a_cl, .int 0]))]) (w1 := []) hP hD [1, 2] [0] rfl rfl (by decide) (by decide) hk1 hFc wn_P wn_D
    have hK := hK.sub (tys' := []) [] rfl
    generalize H1 = H at hP hS ⊢
    replace hP : va_P (dC, dI) vwCl [(a_h, .inr (0, [.ref a_tx, .ref a_ru, .int 0, .ref a_cd, .ref a_te, .ref a_ki, .ref a_ca, .ref a_ty, .ref a_io, .ref a_ex, .ref a_lo, .int 0, .ref a_fi, .int 0, .ref a_cl, .int 0]))] H := hP
    replace hD : va_D A [(a_h, .inr (0, [.ref a_tx, .ref a_ru, .int 0, .ref a_cd, .ref a_te, .ref a_ki, .ref a_ca, .ref a_ty, .ref a_io, .ref a_ex, .ref a_lo, .int 0, .ref a_fi, .int 0, .ref a_cl, .int 0]))] := hD
    refine lv_iload_n hx hb d_C_closed_27 rfl (lv_at hl 0 rfl) ?_
    exact W.zret (v := 0) hx hb hr rfl (fun t ht hW => ⟨⟨0, (), rfl, rfl, trivial⟩, hS.F ht⟩) hS.2.2 d_C_closed_28
  · refine lv_iconst (v := 0) hx hb d_C_closed_7 (by decide) ?_
    exact W.zret (v := 0) hx hb hr rfl (fun t ht hW => ⟨⟨0, (), rfl, rfl, trivial⟩, hS.F ht⟩) hS.2.2 d_C_closed_8
def g_term (p0 : Int32) : Int32 :=
  if (g_isDay p0) = 0 then
    0
  else
    1
set_option maxHeartbeats 4000000 in
set_option maxRecDepth 100000 in
theorem c_term (l : Launch) (dC : Nat → ClassId) (dI : Nat → Nat → Nat) (adK adV : Nat → Nat) (a_h : Nat) (a_te : Nat) (a_tw : Nat) (k_tw : ClassId) (p0 : Int32) (a_tx : Nat) (a_ru : Nat) (a_cd : Nat) (a_ki : Nat) (a_ca : Nat) (a_ty : Nat) (a_io : Nat) (a_ex : Nat) (a_lo : Nat) (a_fi : Nat) (a_cl : Nat) (sz : Nat) : Met l y_C_term ws_C_term ({ frames := 2, cells := 0, slots := 0, locals := 44 }) (va_Pc [.ref a_h, .int p0] (fun U => U.heap.size = sz ∧ zz adK adV (va_A [(a_h, .inr (0, [.ref a_tx, .ref a_ru, .int 0, .ref a_cd, .ref a_te, .ref a_ki, .ref a_ca, .ref a_ty, .ref a_io, .ref a_ex, .ref a_lo, .int 0, .ref a_fi, .int 0, .ref a_cl, .int 0])), (a_te, .inr (1, [.ref a_tw])), (a_tw, .inl (k_tw, 157, .inr (.inl (fun _ => 0))))] sz) U ∧ va_P (dC, dI) vwCl [(a_h, .inr (0, [.ref a_tx, .ref a_ru, .int 0, .ref a_cd, .ref a_te, .ref a_ki, .ref a_ca, .ref a_ty, .ref a_io, .ref a_ex, .ref a_lo, .int 0, .ref a_fi, .int 0, .ref a_cl, .int 0])), (a_te, .inr (1, [.ref a_tw])), (a_tw, .inl (k_tw, 157, .inr (.inl (fun _ => 0))))] U.heap ∧ va_K (dC, dI) vwCl [(k_tw, .long)] U ∧ va_D (fun _ => True) [(a_h, .inr (0, [.ref a_tx, .ref a_ru, .int 0, .ref a_cd, .ref a_te, .ref a_ki, .ref a_ca, .ref a_ty, .ref a_io, .ref a_ex, .ref a_lo, .int 0, .ref a_fi, .int 0, .ref a_cl, .int 0])), (a_te, .inr (1, [.ref a_tw])), (a_tw, .inl (k_tw, 157, .inr (.inl (fun _ => 0))))])) (va_Qi (fun (r : Int32) (_ : Unit) => r = g_term p0) (fun (_ : Unit) (_ : State) => True) (va_A [(a_h, .inr (0, [.ref a_tx, .ref a_ru, .int 0, .ref a_cd, .ref a_te, .ref a_ki, .ref a_ca, .ref a_ty, .ref a_io, .ref a_ex, .ref a_lo, .int 0, .ref a_fi, .int 0, .ref a_cl, .int 0])), (a_te, .inr (1, [.ref a_tw])), (a_tw, .inl (k_tw, 157, .inr (.inl (fun _ => 0))))] sz)) 0 0 (va_A [(a_h, .inr (0, [.ref a_tx, .ref a_ru, .int 0, .ref a_cd, .ref a_te, .ref a_ki, .ref a_ca, .ref a_ty, .ref a_io, .ref a_ex, .ref a_lo, .int 0, .ref a_fi, .int 0, .ref a_cl, .int 0])), (a_te, .inr (1, [.ref a_tw])), (a_tw, .inl (k_tw, 157, .inr (.inl (fun _ => 0))))] sz) := by
  refine Met.ofW (cc := c_C_term) (maxL := 2) (ret := (some .int)) (by decide) rfl ?_
  intro p e s m args below meth c s₁ B hml hv
  obtain ⟨rfl, hsz, hZ, hP, hK, hD0⟩ := hv
  have hx := B.exec
  have hb := B.bytes
  have hr := B.returns
  have hts0 := atoms_spec (ws := ws_C_term) B.pre
  have hts : ∀ w ∈ TT, w.before _ s = true := fun w h => hts0 w (List.mem_cons_of_mem _ h)
  have hown : s.vm.findClass "LoanRules" = some m.cls := findClass_of_methodNamed B.named
  have hlocks := B.notSynchronized
  subst hsz
  have hD := hD0.self (sz := s.heap.size)
  generalize hAe : va_A [(a_h, .inr (0, [.ref a_tx, .ref a_ru, .int 0, .ref a_cd, .ref a_te, .ref a_ki, .ref a_ca, .ref a_ty, .ref a_io, .ref a_ex, .ref a_lo, .int 0, .ref a_fi, .int 0, .ref a_cl, .int 0])), (a_te, .inr (1, [.ref a_tw])), (a_tw, .inl (k_tw, 157, .inr (.inl (fun _ => 0))))] s.heap.size = A at hD hZ ⊢
  have hA : ∀ q : Nat, s.heap.size ≤ q → A q := fun q h => by rw [← hAe]; exact Or.inr h
  clear hAe hD0
  have hS : va_S A s.heap s.heap [] := va_S.rf
  replace hP : va_P (dC, dI) vwCl [(a_h, .inr (0, [.ref a_tx, .ref a_ru, .int 0, .ref a_cd, .ref a_te, .ref a_ki, .ref a_ca, .ref a_ty, .ref a_io, .ref a_ex, .ref a_lo, .int 0, .ref a_fi, .int 0, .ref a_cl, .int 0])), (a_te, .inr (1, [.ref a_tw])), (a_tw, .inl (k_tw, 157, .inr (.inl (fun _ => 0))))] s.heap := hP
  have hl := lv_entry ([.ref a_h, .int p0]) (n := 2) (Nat.le_of_ble_eq_true rfl)
  rw [lg_entry_eq]
  generalize (lg_sl ([.ref a_h, .int p0]) ++ List.replicate (2 - (lg_sl ([.ref a_h, .int p0])).length) Slot.unset).toArray = ls at hl ⊢
  replace hl : lv_has ls 2 [(0, .ref a_h), (1, .int p0)] := hl
  obtain ⟨z, hz⟩ : ∃ z, z = g_term p0 := ⟨_, rfl⟩
  have hE := hz
  rw [g_term] at hE
  refine lv_iload_n hx hb d_C_term_0 rfl (lv_at hl 1 rfl) ?_
  have hPc := hP.sub (ws' := []) [] rfl
  have hKc := hK.sub (tys' := []) [] rfl
  refine vp_callSi (va_Run.run (va_runS (As := [.int p0]) (rest := []) ⟨hx, hb, hml, hown, hts⟩ (c_isDay l dC dI adK adV (p0 := p0)) (va_cwS 1 hts (gS tw_352 tw_353 tw_42 tw_354) rfl rfl rfl (by decide +kernel) ⟨(Nat.le_of_ble_eq_true rfl), (Nat.le_of_ble_eq_true rfl)⟩) ⟨fun a U g mk q => by obtain ⟨q0, qZ, qP, qK⟩ := q; exact ⟨q0, zz_call qZ, qP, va_K.moved (u := U) (U := U.calling g mk a) (Vm.Alike.refl U.vm) qK⟩, fun U hU hW => ⟨rfl, zz_ro hS hU hW hZ, by rw [hU]; exact hPc, va_K.moved hW.alike hKc⟩⟩ rfl rfl hl.1 rfl (lv_room (Nat.le_of_ble_eq_true rfl)) d_C_term_1 ⟨(Nat.le_of_ble_eq_true rfl), (Nat.le_of_ble_eq_true rfl)⟩)) (fun r_1 hw_2 => ?_)
  subst hw_2
  refine lv_if_eq (tgt := 18) hx hb d_C_term_4 (by decide) (fun c_3 => ?_) (fun c_3 => ?_)
  · rw [if_pos c_3] at hE
    refine lv_iconst (v := 0) hx hb d_C_term_18 (by decide) ?_
    exact W.iret (v := 0) hx hb hr (fun t ht hW => ⟨⟨0, (), rfl, hE.symm.trans hz, trivial⟩, hS.F ht⟩) hS.2.2 d_C_term_19
  · rw [if_neg c_3] at hE
    refine lv_aload_n hx hb d_C_term_7 rfl (lv_at hl 0 rfl) ?_
    refine va_get (D := (dC, dI)) (ci := 0) (v := .ref a_te) (C := "LoanRules") (T := Fz_C) (N := 16) hx hb hts it_C hown hK hP 0 rfl rfl 4 (by decide) (hts _ tw_108) (fun _ h9 => h9) rfl d_C_term_8 ?_
    refine lv_iload_n hx hb d_C_term_11 rfl (lv_at hl 1 rfl) ?_
    have hPc := hP.sub (ws' := [(a_te, .inr (1, [.ref a_tw])), (a_tw, .inl (k_tw, 157, .inr (.inl (fun _ => 0))))]) [1, 2] rfl
    have hKc := hK.sub (tys' := [(k_tw, .long)]) [0] rfl
    refine vp_callSi (va_Run.run (va_runV (As := [.int p0]) (rest := []) ⟨hx, hb, hml, hown, hts⟩ (c_holds l dC dI adK adV (a_cd := a_te) (p0 := p0) (a_cw := a_tw) (k_cw := k_tw)) (cwV 1 hts (gV tw_355 tw_356 tw_357 tw_44 tw_358) rfl rfl rfl (by decide +kernel) ⟨(Nat.le_of_ble_eq_true rfl), (Nat.le_of_ble_eq_true rfl)⟩) ⟨fun a U g mk q => by obtain ⟨q0, qZ, qP, qK⟩ := q; exact ⟨q0, zz_call qZ, qP, va_K.moved (u := U) (U := U.calling g mk a) (Vm.Alike.refl U.vm) qK⟩, va_recv hKc hPc (ci := 1) (q0 := 0) rfl rfl, fun U hU hW => ⟨rfl, zz_ro hS hU hW hZ, by rw [hU]; exact hPc, va_K.moved hW.alike hKc⟩⟩ rfl rfl hl.1 rfl (lv_room (Nat.le_of_ble_eq_true rfl)) d_C_term_12 ⟨(Nat.le_of_ble_eq_true rfl), (Nat.le_of_ble_eq_true rfl)⟩)) (fun r_4 hw_5 => ?_)
    obtain rfl : r_4 = 0 := hw_5
    refine lv_if_eq (tgt := 20) hx hb d_C_term_15 (by decide) (fun c_6 => ?_) (fun c_6 => ?_)
    · refine lv_aload_n hx hb d_C_term_20 rfl (lv_at hl 0 rfl) ?_
      refine va_get (D := (dC, dI)) (ci := 0) (v := .ref a_te) (C := "LoanRules") (T := Fz_C) (N := 16) hx hb hts it_C hown hK hP 0 rfl rfl 4 (by decide) (hts _ tw_108) (fun _ h9 => h9) rfl d_C_term_21 ?_
      refine lv_iload_n hx hb d_C_term_24 rfl (lv_at hl 1 rfl) ?_
      refine lv_iconst (v := 1) hx hb d_C_term_25 (by decide) ?_
      have hPc := hP.sub (ws' := [(a_te, .inr (1, [.ref a_tw])), (a_tw, .inl (k_tw, 157, .inr (.inl (fun _ => 0))))]) [1, 2] rfl
      have hKc := hK.sub (tys' := [(k_tw, .long)]) [0] rfl
      have hDc := hD.sub (ws' := [(a_te, .inr (1, [.ref a_tw])), (a_tw, .inl (k_tw, 157, .inr (.inl (fun _ => 0))))]) [1, 2] (by decide) rfl
      have hFc := va_free (wc := [(a_te, .inr (1, [.ref a_tw])), (a_tw, .inl (k_tw, 157, .inr (.inl (fun _ => 0))))]) hD hS hA [1, 2] rfl
      refine va_callv (va_runV (As := [.int p0, .int 1]) (rest := []) ⟨hx, hb, hml, hown, hts⟩ (c_put l dC dI adK adV (a_cd := a_te) (p0 := p0) (p1 := 1) (a_cw := a_tw) (k_cw := k_tw) (f_w := (fun _ => 0)) (sz := s.heap.size)) (cwV 2 hts (gV tw_360 tw_361 tw_362 tw_44 tw_363) rfl rfl rfl (by decide +kernel) ⟨(Nat.le_of_ble_eq_true rfl), (Nat.le_of_ble_eq_true rfl)⟩) ⟨fun a U g mk q => by obtain ⟨q0, q1, qZ, qP, qK, qD⟩ := q; exact ⟨q0, q1, zz_call qZ, qP, va_K.moved (u := U) (U := U.calling g mk a) (Vm.Alike.refl U.vm) qK, qD⟩, va_recv hKc hPc (ci := 1) (q0 := 0) rfl rfl, fun U hU hW => ⟨rfl, by rw [hU], zz_rw hS hFc hU hW hZ, by rw [hU]; exact hPc, va_K.moved hW.alike hKc, hDc.weaken (fun _ _ _ _ => trivial)⟩⟩ rfl rfl hl.1 rfl (lv_room (Nat.le_of_ble_eq_true rfl)) d_C_term_26 ⟨(Nat.le_of_ble_eq_true rfl), (Nat.le_of_ble_eq_true rfl)⟩) hS (fun q _ h => hFc q h) hFc (fun u t H1 locs ht hvm hw_7 hB hz1 hk1 hS => ?_)
      obtain ⟨hP, hD⟩ := va_join (wr := [(a_h, .inr (0, [.ref a_tx, .ref a_ru, .int 0, .ref a_cd, .ref a_te, .ref a_ki, .ref a_ca, .ref a_ty, .ref a_io, .ref a_ex, .ref a_lo, .int 0, .ref a_fi, .int 0, .ref a_cl, .int 0]))]) (w1 := []) hP hD [1, 2] [0] rfl rfl (by decide) (by decide) hk1 hFc wn_P wn_D
      have hK := hK.sub (tys' := []) [] rfl
      generalize H1 = H at hP hS ⊢
      replace hP : va_P (dC, dI) vwCl [(a_h, .inr (0, [.ref a_tx, .ref a_ru, .int 0, .ref a_cd, .ref a_te, .ref a_ki, .ref a_ca, .ref a_ty, .ref a_io, .ref a_ex, .ref a_lo, .int 0, .ref a_fi, .int 0, .ref a_cl, .int 0]))] H := hP
      replace hD : va_D A [(a_h, .inr (0, [.ref a_tx, .ref a_ru, .int 0, .ref a_cd, .ref a_te, .ref a_ki, .ref a_ca, .ref a_ty, .ref a_io, .ref a_ex, .ref a_lo, .int 0, .ref a_fi, .int 0, .ref a_cl, .int 0]))] := hD
      refine lv_iconst (v := 1) hx hb d_C_term_29 (by decide) ?_
      exact W.iret (v := 1) hx hb hr (fun t ht hW => ⟨⟨1, (), rfl, hE.symm.trans hz, trivial⟩, hS.F ht⟩) hS.2.2 d_C_term_30
    · exact absurd (by decide) c_6
def g_row (p0 : Int32) (p1 : Int32) (p2 : Int32) : Int32 :=
  if p2 < 0 then
    0
  else
    if p2 ≤ 9 then
      if p0 = 0 then
        if (g_isPerson p1) = 0 then
          if p0 = 1 then
            if (g_isItem p1) = 0 then
              0
            else
              1
          else
            0
        else
          1
      else
        if p0 = 1 then
          if (g_isItem p1) = 0 then
            0
          else
            1
        else
          0
    else
      0
set_option maxHeartbeats 4000000 in
set_option maxRecDepth 100000 in
theorem c_row (l : Launch) (dC : Nat → ClassId) (dI : Nat → Nat → Nat) (adK adV : Nat → Nat) (a_h : Nat) (a_ki : Nat) (a_ty : Nat) (k_ki : ClassId) (k_ty : ClassId) (p0 : Int32) (p1 : Int32) (p2 : Int32) (a_tx : Nat) (a_ru : Nat) (a_cd : Nat) (a_te : Nat) (a_ca : Nat) (a_io : Nat) (a_ex : Nat) (a_lo : Nat) (a_fi : Nat) (a_cl : Nat) (sz : Nat) : Met l y_C_row ws_C_row ({ frames := 1, cells := 0, slots := 0, locals := 20 }) (va_Pc [.ref a_h, .int p0, .int p1, .int p2] (fun U => U.heap.size = sz ∧ zz adK adV (va_A [(a_h, .inr (0, [.ref a_tx, .ref a_ru, .int 0, .ref a_cd, .ref a_te, .ref a_ki, .ref a_ca, .ref a_ty, .ref a_io, .ref a_ex, .ref a_lo, .int 0, .ref a_fi, .int 0, .ref a_cl, .int 0])), (a_ki, .inl (k_ki, 50, .inl (fun _ => 0))), (a_ty, .inl (k_ty, 50, .inl (fun _ => 0)))] sz) U ∧ va_P (dC, dI) vwCl [(a_h, .inr (0, [.ref a_tx, .ref a_ru, .int 0, .ref a_cd, .ref a_te, .ref a_ki, .ref a_ca, .ref a_ty, .ref a_io, .ref a_ex, .ref a_lo, .int 0, .ref a_fi, .int 0, .ref a_cl, .int 0])), (a_ki, .inl (k_ki, 50, .inl (fun _ => 0))), (a_ty, .inl (k_ty, 50, .inl (fun _ => 0)))] U.heap ∧ va_K (dC, dI) vwCl [(k_ki, .int), (k_ty, .int)] U ∧ va_D (fun _ => True) [(a_h, .inr (0, [.ref a_tx, .ref a_ru, .int 0, .ref a_cd, .ref a_te, .ref a_ki, .ref a_ca, .ref a_ty, .ref a_io, .ref a_ex, .ref a_lo, .int 0, .ref a_fi, .int 0, .ref a_cl, .int 0])), (a_ki, .inl (k_ki, 50, .inl (fun _ => 0))), (a_ty, .inl (k_ty, 50, .inl (fun _ => 0)))])) (va_Qi (fun (r : Int32) (_ : Unit) => r = g_row p0 p1 p2) (fun (_ : Unit) (_ : State) => True) (va_A [(a_h, .inr (0, [.ref a_tx, .ref a_ru, .int 0, .ref a_cd, .ref a_te, .ref a_ki, .ref a_ca, .ref a_ty, .ref a_io, .ref a_ex, .ref a_lo, .int 0, .ref a_fi, .int 0, .ref a_cl, .int 0])), (a_ki, .inl (k_ki, 50, .inl (fun _ => 0))), (a_ty, .inl (k_ty, 50, .inl (fun _ => 0)))] sz)) 0 0 (va_A [(a_h, .inr (0, [.ref a_tx, .ref a_ru, .int 0, .ref a_cd, .ref a_te, .ref a_ki, .ref a_ca, .ref a_ty, .ref a_io, .ref a_ex, .ref a_lo, .int 0, .ref a_fi, .int 0, .ref a_cl, .int 0])), (a_ki, .inl (k_ki, 50, .inl (fun _ => 0))), (a_ty, .inl (k_ty, 50, .inl (fun _ => 0)))] sz) := by
  refine Met.ofW (cc := c_C_row) (maxL := 4) (ret := (some .int)) (by decide) rfl ?_
  intro p e s m args below meth c s₁ B hml hv
  obtain ⟨rfl, hsz, hZ, hP, hK, hD0⟩ := hv
  have hx := B.exec
  have hb := B.bytes
  have hr := B.returns
  have hts0 := atoms_spec (ws := ws_C_row) B.pre
  have hts : ∀ w ∈ TT, w.before _ s = true := fun w h => hts0 w (List.mem_cons_of_mem _ h)
  have hown : s.vm.findClass "LoanRules" = some m.cls := findClass_of_methodNamed B.named
  have hlocks := B.notSynchronized
  subst hsz
  have hD := hD0.self (sz := s.heap.size)
  generalize hAe : va_A [(a_h, .inr (0, [.ref a_tx, .ref a_ru, .int 0, .ref a_cd, .ref a_te, .ref a_ki, .ref a_ca, .ref a_ty, .ref a_io, .ref a_ex, .ref a_lo, .int 0, .ref a_fi, .int 0, .ref a_cl, .int 0])), (a_ki, .inl (k_ki, 50, .inl (fun _ => 0))), (a_ty, .inl (k_ty, 50, .inl (fun _ => 0)))] s.heap.size = A at hD hZ ⊢
  have hA : ∀ q : Nat, s.heap.size ≤ q → A q := fun q h => by rw [← hAe]; exact Or.inr h
  clear hAe hD0
  have hS : va_S A s.heap s.heap [] := va_S.rf
  replace hP : va_P (dC, dI) vwCl [(a_h, .inr (0, [.ref a_tx, .ref a_ru, .int 0, .ref a_cd, .ref a_te, .ref a_ki, .ref a_ca, .ref a_ty, .ref a_io, .ref a_ex, .ref a_lo, .int 0, .ref a_fi, .int 0, .ref a_cl, .int 0])), (a_ki, .inl (k_ki, 50, .inl (fun _ => 0))), (a_ty, .inl (k_ty, 50, .inl (fun _ => 0)))] s.heap := hP
  have hl := lv_entry ([.ref a_h, .int p0, .int p1, .int p2]) (n := 4) (Nat.le_of_ble_eq_true rfl)
  rw [lg_entry_eq]
  generalize (lg_sl ([.ref a_h, .int p0, .int p1, .int p2]) ++ List.replicate (4 - (lg_sl ([.ref a_h, .int p0, .int p1, .int p2])).length) Slot.unset).toArray = ls at hl ⊢
  replace hl : lv_has ls 4 [(0, .ref a_h), (1, .int p0), (2, .int p1), (3, .int p2)] := hl
  obtain ⟨z, hz⟩ : ∃ z, z = g_row p0 p1 p2 := ⟨_, rfl⟩
  have hE := hz
  rw [g_row] at hE
  refine lv_iload_n hx hb d_C_row_0 rfl (lv_at hl 3 rfl) ?_
  refine lv_if_lt (tgt := 10) hx hb d_C_row_1 (by decide) (fun c_1 => ?_) (fun c_1 => ?_)
  · rw [if_pos c_1] at hE
    refine lv_iconst (v := 0) hx hb d_C_row_10 (by decide) ?_
    exact W.iret (v := 0) hx hb hr (fun t ht hW => ⟨⟨0, (), rfl, hE.symm.trans hz, trivial⟩, hS.F ht⟩) hS.2.2 d_C_row_11
  · rw [if_neg c_1] at hE
    refine lv_iload_n hx hb d_C_row_4 rfl (lv_at hl 3 rfl) ?_
    refine lv_bipush (v := 9) hx hb d_C_row_5 (by decide) ?_
    refine lv_icmp_le (tgt := 12) hx hb d_C_row_7 (by decide) (fun c_2 => ?_) (fun c_2 => ?_)
    · rw [if_pos c_2] at hE
      refine lv_iload_n hx hb d_C_row_12 rfl (lv_at hl 1 rfl) ?_
      refine lv_if_ne (tgt := 32) hx hb d_C_row_13 (by decide) (fun c_3 => ?_) (fun c_3 => ?_)
      · rw [if_neg c_3] at hE
        refine lv_iload_n hx hb d_C_row_32 rfl (lv_at hl 1 rfl) ?_
        refine lv_iconst (v := 1) hx hb d_C_row_33 (by decide) ?_
        refine lv_icmp_ne (tgt := 53) hx hb d_C_row_34 (by decide) (fun c_4 => ?_) (fun c_4 => ?_)
        · rw [if_neg c_4] at hE
          refine lv_iconst (v := 0) hx hb d_C_row_53 (by decide) ?_
          exact W.iret (v := 0) hx hb hr (fun t ht hW => ⟨⟨0, (), rfl, hE.symm.trans hz, trivial⟩, hS.F ht⟩) hS.2.2 d_C_row_54
        · rw [if_pos c_4] at hE
          refine lv_iload_n hx hb d_C_row_37 rfl (lv_at hl 2 rfl) ?_
          have hPc := hP.sub (ws' := []) [] rfl
          have hKc := hK.sub (tys' := []) [] rfl
          refine vp_callSi (va_Run.run (va_runS (As := [.int p1]) (rest := []) ⟨hx, hb, hml, hown, hts⟩ (c_isItem l dC dI adK adV (p0 := p1)) (va_cwS 1 hts (gS tw_376 tw_377 tw_42 tw_378) rfl rfl rfl (by decide +kernel) ⟨(Nat.le_of_ble_eq_true rfl), (Nat.le_of_ble_eq_true rfl)⟩) ⟨fun a U g mk q => by obtain ⟨q0, qZ, qP, qK⟩ := q; exact ⟨q0, zz_call qZ, qP, va_K.moved (u := U) (U := U.calling g mk a) (Vm.Alike.refl U.vm) qK⟩, fun U hU hW => ⟨rfl, zz_ro hS hU hW hZ, by rw [hU]; exact hPc, va_K.moved hW.alike hKc⟩⟩ rfl rfl hl.1 rfl (lv_room (Nat.le_of_ble_eq_true rfl)) d_C_row_38 ⟨(Nat.le_of_ble_eq_true rfl), (Nat.le_of_ble_eq_true rfl)⟩)) (fun r_5 hw_6 => ?_)
          subst hw_6
          refine lv_if_eq (tgt := 53) hx hb d_C_row_41 (by decide) (fun c_7 => ?_) (fun c_7 => ?_)
          · rw [if_pos c_7] at hE
            refine lv_iconst (v := 0) hx hb d_C_row_53 (by decide) ?_
            exact W.iret (v := 0) hx hb hr (fun t ht hW => ⟨⟨0, (), rfl, hE.symm.trans hz, trivial⟩, hS.F ht⟩) hS.2.2 d_C_row_54
          · rw [if_neg c_7] at hE
            refine lv_aload_n hx hb d_C_row_44 rfl (lv_at hl 0 rfl) ?_
            refine va_get (D := (dC, dI)) (ci := 0) (v := .ref a_ty) (C := "LoanRules") (T := Fz_C) (N := 16) hx hb hts it_C hown hK hP 0 rfl rfl 7 (by decide) (hts _ tw_111) (fun _ h9 => h9) rfl d_C_row_45 ?_
            refine lv_iload_n hx hb d_C_row_48 rfl (lv_at hl 2 rfl) ?_
            refine lv_iload_n hx hb d_C_row_49 rfl (lv_at hl 3 rfl) ?_
            have i_8 : vp_in p1 50 := in_item c_7
            refine va_iast (D := (dC, dI)) hx hb hK hP hD hS 2 1 rfl rfl i_8 d_C_row_50 (fun H locs hP hD hS => ?_)
            replace hP : va_P (dC, dI) vwCl [(a_h, .inr (0, [.ref a_tx, .ref a_ru, .int 0, .ref a_cd, .ref a_te, .ref a_ki, .ref a_ca, .ref a_ty, .ref a_io, .ref a_ex, .ref a_lo, .int 0, .ref a_fi, .int 0, .ref a_cl, .int 0])), (a_ki, .inl (k_ki, 50, .inl (fun _ => 0))), (a_ty, .inl (k_ty, 50, .inl (upd (fun _ => 0) p1.toNatClampNeg p2)))] H := hP
            replace hD : va_D A [(a_h, .inr (0, [.ref a_tx, .ref a_ru, .int 0, .ref a_cd, .ref a_te, .ref a_ki, .ref a_ca, .ref a_ty, .ref a_io, .ref a_ex, .ref a_lo, .int 0, .ref a_fi, .int 0, .ref a_cl, .int 0])), (a_ki, .inl (k_ki, 50, .inl (fun _ => 0))), (a_ty, .inl (k_ty, 50, .inl (upd (fun _ => 0) p1.toNatClampNeg p2)))] := hD
            refine lv_iconst (v := 1) hx hb d_C_row_51 (by decide) ?_
            exact W.iret (v := 1) hx hb hr (fun t ht hW => ⟨⟨1, (), rfl, hE.symm.trans hz, trivial⟩, hS.F ht⟩) hS.2.2 d_C_row_52
      · rw [if_pos c_3] at hE
        refine lv_iload_n hx hb d_C_row_16 rfl (lv_at hl 2 rfl) ?_
        have hPc := hP.sub (ws' := []) [] rfl
        have hKc := hK.sub (tys' := []) [] rfl
        refine vp_callSi (va_Run.run (va_runS (As := [.int p1]) (rest := []) ⟨hx, hb, hml, hown, hts⟩ (c_isPerson l dC dI adK adV (p0 := p1)) (va_cwS 1 hts (gS tw_373 tw_374 tw_42 tw_375) rfl rfl rfl (by decide +kernel) ⟨(Nat.le_of_ble_eq_true rfl), (Nat.le_of_ble_eq_true rfl)⟩) ⟨fun a U g mk q => by obtain ⟨q0, qZ, qP, qK⟩ := q; exact ⟨q0, zz_call qZ, qP, va_K.moved (u := U) (U := U.calling g mk a) (Vm.Alike.refl U.vm) qK⟩, fun U hU hW => ⟨rfl, zz_ro hS hU hW hZ, by rw [hU]; exact hPc, va_K.moved hW.alike hKc⟩⟩ rfl rfl hl.1 rfl (lv_room (Nat.le_of_ble_eq_true rfl)) d_C_row_17 ⟨(Nat.le_of_ble_eq_true rfl), (Nat.le_of_ble_eq_true rfl)⟩)) (fun r_9 hw_10 => ?_)
        subst hw_10
        refine lv_if_eq (tgt := 32) hx hb d_C_row_20 (by decide) (fun c_11 => ?_) (fun c_11 => ?_)
        · rw [if_pos c_11] at hE
          refine lv_iload_n hx hb d_C_row_32 rfl (lv_at hl 1 rfl) ?_
          refine lv_iconst (v := 1) hx hb d_C_row_33 (by decide) ?_
          refine lv_icmp_ne (tgt := 53) hx hb d_C_row_34 (by decide) (fun c_12 => ?_) (fun c_12 => ?_)
          · rw [if_neg c_12] at hE
            refine lv_iconst (v := 0) hx hb d_C_row_53 (by decide) ?_
            exact W.iret (v := 0) hx hb hr (fun t ht hW => ⟨⟨0, (), rfl, hE.symm.trans hz, trivial⟩, hS.F ht⟩) hS.2.2 d_C_row_54
          · rw [if_pos c_12] at hE
            refine lv_iload_n hx hb d_C_row_37 rfl (lv_at hl 2 rfl) ?_
            have hPc := hP.sub (ws' := []) [] rfl
            have hKc := hK.sub (tys' := []) [] rfl
            refine vp_callSi (va_Run.run (va_runS (As := [.int p1]) (rest := []) ⟨hx, hb, hml, hown, hts⟩ (c_isItem l dC dI adK adV (p0 := p1)) (va_cwS 1 hts (gS tw_376 tw_377 tw_42 tw_378) rfl rfl rfl (by decide +kernel) ⟨(Nat.le_of_ble_eq_true rfl), (Nat.le_of_ble_eq_true rfl)⟩) ⟨fun a U g mk q => by obtain ⟨q0, qZ, qP, qK⟩ := q; exact ⟨q0, zz_call qZ, qP, va_K.moved (u := U) (U := U.calling g mk a) (Vm.Alike.refl U.vm) qK⟩, fun U hU hW => ⟨rfl, zz_ro hS hU hW hZ, by rw [hU]; exact hPc, va_K.moved hW.alike hKc⟩⟩ rfl rfl hl.1 rfl (lv_room (Nat.le_of_ble_eq_true rfl)) d_C_row_38 ⟨(Nat.le_of_ble_eq_true rfl), (Nat.le_of_ble_eq_true rfl)⟩)) (fun r_13 hw_14 => ?_)
            subst hw_14
            refine lv_if_eq (tgt := 53) hx hb d_C_row_41 (by decide) (fun c_15 => ?_) (fun c_15 => ?_)
            · rw [if_pos c_15] at hE
              refine lv_iconst (v := 0) hx hb d_C_row_53 (by decide) ?_
              exact W.iret (v := 0) hx hb hr (fun t ht hW => ⟨⟨0, (), rfl, hE.symm.trans hz, trivial⟩, hS.F ht⟩) hS.2.2 d_C_row_54
            · rw [if_neg c_15] at hE
              refine lv_aload_n hx hb d_C_row_44 rfl (lv_at hl 0 rfl) ?_
              refine va_get (D := (dC, dI)) (ci := 0) (v := .ref a_ty) (C := "LoanRules") (T := Fz_C) (N := 16) hx hb hts it_C hown hK hP 0 rfl rfl 7 (by decide) (hts _ tw_111) (fun _ h9 => h9) rfl d_C_row_45 ?_
              refine lv_iload_n hx hb d_C_row_48 rfl (lv_at hl 2 rfl) ?_
              refine lv_iload_n hx hb d_C_row_49 rfl (lv_at hl 3 rfl) ?_
              have i_16 : vp_in p1 50 := in_item c_15
              refine va_iast (D := (dC, dI)) hx hb hK hP hD hS 2 1 rfl rfl i_16 d_C_row_50 (fun H locs hP hD hS => ?_)
              replace hP : va_P (dC, dI) vwCl [(a_h, .inr (0, [.ref a_tx, .ref a_ru, .int 0, .ref a_cd, .ref a_te, .ref a_ki, .ref a_ca, .ref a_ty, .ref a_io, .ref a_ex, .ref a_lo, .int 0, .ref a_fi, .int 0, .ref a_cl, .int 0])), (a_ki, .inl (k_ki, 50, .inl (fun _ => 0))), (a_ty, .inl (k_ty, 50, .inl (upd (fun _ => 0) p1.toNatClampNeg p2)))] H := hP
              replace hD : va_D A [(a_h, .inr (0, [.ref a_tx, .ref a_ru, .int 0, .ref a_cd, .ref a_te, .ref a_ki, .ref a_ca, .ref a_ty, .ref a_io, .ref a_ex, .ref a_lo, .int 0, .ref a_fi, .int 0, .ref a_cl, .int 0])), (a_ki, .inl (k_ki, 50, .inl (fun _ => 0))), (a_ty, .inl (k_ty, 50, .inl (upd (fun _ => 0) p1.toNatClampNeg p2)))] := hD
              refine lv_iconst (v := 1) hx hb d_C_row_51 (by decide) ?_
              exact W.iret (v := 1) hx hb hr (fun t ht hW => ⟨⟨1, (), rfl, hE.symm.trans hz, trivial⟩, hS.F ht⟩) hS.2.2 d_C_row_52
        · rw [if_neg c_11] at hE
          refine lv_aload_n hx hb d_C_row_23 rfl (lv_at hl 0 rfl) ?_
          refine va_get (D := (dC, dI)) (ci := 0) (v := .ref a_ki) (C := "LoanRules") (T := Fz_C) (N := 16) hx hb hts it_C hown hK hP 0 rfl rfl 5 (by decide) (hts _ tw_109) (fun _ h9 => h9) rfl d_C_row_24 ?_
          refine lv_iload_n hx hb d_C_row_27 rfl (lv_at hl 2 rfl) ?_
          refine lv_iload_n hx hb d_C_row_28 rfl (lv_at hl 3 rfl) ?_
          have i_17 : vp_in p1 50 := in_person c_11
          refine va_iast (D := (dC, dI)) hx hb hK hP hD hS 1 0 rfl rfl i_17 d_C_row_29 (fun H locs hP hD hS => ?_)
          replace hP : va_P (dC, dI) vwCl [(a_h, .inr (0, [.ref a_tx, .ref a_ru, .int 0, .ref a_cd, .ref a_te, .ref a_ki, .ref a_ca, .ref a_ty, .ref a_io, .ref a_ex, .ref a_lo, .int 0, .ref a_fi, .int 0, .ref a_cl, .int 0])), (a_ki, .inl (k_ki, 50, .inl (upd (fun _ => 0) p1.toNatClampNeg p2))), (a_ty, .inl (k_ty, 50, .inl (fun _ => 0)))] H := hP
          replace hD : va_D A [(a_h, .inr (0, [.ref a_tx, .ref a_ru, .int 0, .ref a_cd, .ref a_te, .ref a_ki, .ref a_ca, .ref a_ty, .ref a_io, .ref a_ex, .ref a_lo, .int 0, .ref a_fi, .int 0, .ref a_cl, .int 0])), (a_ki, .inl (k_ki, 50, .inl (upd (fun _ => 0) p1.toNatClampNeg p2))), (a_ty, .inl (k_ty, 50, .inl (fun _ => 0)))] := hD
          refine lv_iconst (v := 1) hx hb d_C_row_30 (by decide) ?_
          exact W.iret (v := 1) hx hb hr (fun t ht hW => ⟨⟨1, (), rfl, hE.symm.trans hz, trivial⟩, hS.F ht⟩) hS.2.2 d_C_row_31
    · rw [if_neg c_2] at hE
      refine lv_iconst (v := 0) hx hb d_C_row_10 (by decide) ?_
      exact W.iret (v := 0) hx hb hr (fun t ht hW => ⟨⟨0, (), rfl, hE.symm.trans hz, trivial⟩, hS.F ht⟩) hS.2.2 d_C_row_11
def g_block (p0 : Int32) (p1 : Int32) : Int32 :=
  if (g_isPerson p0) = 0 then
    (-1)
  else
    if p1 < 0 then
      (-1)
    else
      if p1 ≤ 9 then
        0
      else
        (-1)
set_option maxHeartbeats 4000000 in
set_option maxRecDepth 100000 in
theorem c_block (l : Launch) (dC : Nat → ClassId) (dI : Nat → Nat → Nat) (adK adV : Nat → Nat) (a_h : Nat) (a_ca : Nat) (k_ca : ClassId) (p0 : Int32) (p1 : Int32) (a_tx : Nat) (a_ru : Nat) (a_cd : Nat) (a_te : Nat) (a_ki : Nat) (a_ty : Nat) (a_io : Nat) (a_ex : Nat) (a_lo : Nat) (a_fi : Nat) (a_cl : Nat) (sz : Nat) : Met l y_C_block ws_C_block ({ frames := 1, cells := 0, slots := 0, locals := 20 }) (va_Pc [.ref a_h, .int p0, .int p1] (fun U => U.heap.size = sz ∧ zz adK adV (va_A [(a_h, .inr (0, [.ref a_tx, .ref a_ru, .int 0, .ref a_cd, .ref a_te, .ref a_ki, .ref a_ca, .ref a_ty, .ref a_io, .ref a_ex, .ref a_lo, .int 0, .ref a_fi, .int 0, .ref a_cl, .int 0])), (a_ca, .inl (k_ca, 50, .inl (fun _ => 0)))] sz) U ∧ va_P (dC, dI) vwCl [(a_h, .inr (0, [.ref a_tx, .ref a_ru, .int 0, .ref a_cd, .ref a_te, .ref a_ki, .ref a_ca, .ref a_ty, .ref a_io, .ref a_ex, .ref a_lo, .int 0, .ref a_fi, .int 0, .ref a_cl, .int 0])), (a_ca, .inl (k_ca, 50, .inl (fun _ => 0)))] U.heap ∧ va_K (dC, dI) vwCl [(k_ca, .int)] U ∧ va_D (fun _ => True) [(a_h, .inr (0, [.ref a_tx, .ref a_ru, .int 0, .ref a_cd, .ref a_te, .ref a_ki, .ref a_ca, .ref a_ty, .ref a_io, .ref a_ex, .ref a_lo, .int 0, .ref a_fi, .int 0, .ref a_cl, .int 0])), (a_ca, .inl (k_ca, 50, .inl (fun _ => 0)))])) (va_Qi (fun (r : Int32) (_ : Unit) => r = g_block p0 p1) (fun (_ : Unit) (_ : State) => True) (va_A [(a_h, .inr (0, [.ref a_tx, .ref a_ru, .int 0, .ref a_cd, .ref a_te, .ref a_ki, .ref a_ca, .ref a_ty, .ref a_io, .ref a_ex, .ref a_lo, .int 0, .ref a_fi, .int 0, .ref a_cl, .int 0])), (a_ca, .inl (k_ca, 50, .inl (fun _ => 0)))] sz)) 0 0 (va_A [(a_h, .inr (0, [.ref a_tx, .ref a_ru, .int 0, .ref a_cd, .ref a_te, .ref a_ki, .ref a_ca, .ref a_ty, .ref a_io, .ref a_ex, .ref a_lo, .int 0, .ref a_fi, .int 0, .ref a_cl, .int 0])), (a_ca, .inl (k_ca, 50, .inl (fun _ => 0)))] sz) := by
  refine Met.ofW (cc := c_C_block) (maxL := 4) (ret := (some .int)) (by decide) rfl ?_
  intro p e s m args below meth c s₁ B hml hv
  obtain ⟨rfl, hsz, hZ, hP, hK, hD0⟩ := hv
  have hx := B.exec
  have hb := B.bytes
  have hr := B.returns
  have hts0 := atoms_spec (ws := ws_C_block) B.pre
  have hts : ∀ w ∈ TT, w.before _ s = true := fun w h => hts0 w (List.mem_cons_of_mem _ h)
  have hown : s.vm.findClass "LoanRules" = some m.cls := findClass_of_methodNamed B.named
  have hlocks := B.notSynchronized
  subst hsz
  have hD := hD0.self (sz := s.heap.size)
  generalize hAe : va_A [(a_h, .inr (0, [.ref a_tx, .ref a_ru, .int 0, .ref a_cd, .ref a_te, .ref a_ki, .ref a_ca, .ref a_ty, .ref a_io, .ref a_ex, .ref a_lo, .int 0, .ref a_fi, .int 0, .ref a_cl, .int 0])), (a_ca, .inl (k_ca, 50, .inl (fun _ => 0)))] s.heap.size = A at hD hZ ⊢
  have hA : ∀ q : Nat, s.heap.size ≤ q → A q := fun q h => by rw [← hAe]; exact Or.inr h
  clear hAe hD0
  have hS : va_S A s.heap s.heap [] := va_S.rf
  replace hP : va_P (dC, dI) vwCl [(a_h, .inr (0, [.ref a_tx, .ref a_ru, .int 0, .ref a_cd, .ref a_te, .ref a_ki, .ref a_ca, .ref a_ty, .ref a_io, .ref a_ex, .ref a_lo, .int 0, .ref a_fi, .int 0, .ref a_cl, .int 0])), (a_ca, .inl (k_ca, 50, .inl (fun _ => 0)))] s.heap := hP
  have hl := lv_entry ([.ref a_h, .int p0, .int p1]) (n := 4) (Nat.le_of_ble_eq_true rfl)
  rw [lg_entry_eq]
  generalize (lg_sl ([.ref a_h, .int p0, .int p1]) ++ List.replicate (4 - (lg_sl ([.ref a_h, .int p0, .int p1])).length) Slot.unset).toArray = ls at hl ⊢
  replace hl : lv_has ls 4 [(0, .ref a_h), (1, .int p0), (2, .int p1)] := hl
  obtain ⟨z, hz⟩ : ∃ z, z = g_block p0 p1 := ⟨_, rfl⟩
  have hE := hz
  rw [g_block] at hE
  refine lv_iload_n hx hb d_C_block_0 rfl (lv_at hl 1 rfl) ?_
  have hPc := hP.sub (ws' := []) [] rfl
  have hKc := hK.sub (tys' := []) [] rfl
  refine vp_callSi (va_Run.run (va_runS (As := [.int p0]) (rest := []) ⟨hx, hb, hml, hown, hts⟩ (c_isPerson l dC dI adK adV (p0 := p0)) (va_cwS 1 hts (gS tw_373 tw_374 tw_42 tw_375) rfl rfl rfl (by decide +kernel) ⟨(Nat.le_of_ble_eq_true rfl), (Nat.le_of_ble_eq_true rfl)⟩) ⟨fun a U g mk q => by obtain ⟨q0, qZ, qP, qK⟩ := q; exact ⟨q0, zz_call qZ, qP, va_K.moved (u := U) (U := U.calling g mk a) (Vm.Alike.refl U.vm) qK⟩, fun U hU hW => ⟨rfl, zz_ro hS hU hW hZ, by rw [hU]; exact hPc, va_K.moved hW.alike hKc⟩⟩ rfl rfl hl.1 rfl (lv_room (Nat.le_of_ble_eq_true rfl)) d_C_block_1 ⟨(Nat.le_of_ble_eq_true rfl), (Nat.le_of_ble_eq_true rfl)⟩)) (fun r_1 hw_2 => ?_)
  subst hw_2
  refine lv_if_eq (tgt := 17) hx hb d_C_block_4 (by decide) (fun c_3 => ?_) (fun c_3 => ?_)
  · rw [if_pos c_3] at hE
    refine lv_iconst (v := (-1)) hx hb d_C_block_17 (by decide) ?_
    exact W.iret (v := (-1)) hx hb hr (fun t ht hW => ⟨⟨(-1), (), rfl, hE.symm.trans hz, trivial⟩, hS.F ht⟩) hS.2.2 d_C_block_18
  · rw [if_neg c_3] at hE
    refine lv_iload_n hx hb d_C_block_7 rfl (lv_at hl 2 rfl) ?_
    refine lv_if_lt (tgt := 17) hx hb d_C_block_8 (by decide) (fun c_4 => ?_) (fun c_4 => ?_)
    · rw [if_pos c_4] at hE
      refine lv_iconst (v := (-1)) hx hb d_C_block_17 (by decide) ?_
      exact W.iret (v := (-1)) hx hb hr (fun t ht hW => ⟨⟨(-1), (), rfl, hE.symm.trans hz, trivial⟩, hS.F ht⟩) hS.2.2 d_C_block_18
    · rw [if_neg c_4] at hE
      refine lv_iload_n hx hb d_C_block_11 rfl (lv_at hl 2 rfl) ?_
      refine lv_bipush (v := 9) hx hb d_C_block_12 (by decide) ?_
      refine lv_icmp_le (tgt := 19) hx hb d_C_block_14 (by decide) (fun c_5 => ?_) (fun c_5 => ?_)
      · rw [if_pos c_5] at hE
        refine lv_aload_n hx hb d_C_block_19 rfl (lv_at hl 0 rfl) ?_
        refine va_get (D := (dC, dI)) (ci := 0) (v := .ref a_ca) (C := "LoanRules") (T := Fz_C) (N := 16) hx hb hts it_C hown hK hP 0 rfl rfl 6 (by decide) (hts _ tw_110) (fun _ h9 => h9) rfl d_C_block_20 ?_
        refine lv_iload_n hx hb d_C_block_23 rfl (lv_at hl 1 rfl) ?_
        have i_6 : vp_in p0 50 := in_person c_3
        refine va_iald (D := (dC, dI)) hx hb hK hP 1 0 rfl rfl i_6 d_C_block_24 ?_
        refine lv_topi (fun x_7 ex_7 => ?_)
        obtain rfl : x_7 = 0 := ex_7
        refine lv_istore_n (lv' := [(3, .int 0), (0, .ref a_h), (1, .int p0), (2, .int p1)]) hx hb d_C_block_25 rfl hl (by decide) rfl (fun ls hl => ?_)
        refine lv_aload_n hx hb d_C_block_26 rfl (lv_at hl 1 rfl) ?_
        refine va_get (D := (dC, dI)) (ci := 0) (v := .ref a_ca) (C := "LoanRules") (T := Fz_C) (N := 16) hx hb hts it_C hown hK hP 0 rfl rfl 6 (by decide) (hts _ tw_110) (fun _ h9 => h9) rfl d_C_block_27 ?_
        refine lv_iload_n hx hb d_C_block_30 rfl (lv_at hl 2 rfl) ?_
        refine lv_iload_n hx hb d_C_block_31 rfl (lv_at hl 3 rfl) ?_
        have i_8 : vp_in p0 50 := in_person c_3
        refine va_iast (D := (dC, dI)) hx hb hK hP hD hS 1 0 rfl rfl i_8 d_C_block_32 (fun H locs hP hD hS => ?_)
        replace hP : va_P (dC, dI) vwCl [(a_h, .inr (0, [.ref a_tx, .ref a_ru, .int 0, .ref a_cd, .ref a_te, .ref a_ki, .ref a_ca, .ref a_ty, .ref a_io, .ref a_ex, .ref a_lo, .int 0, .ref a_fi, .int 0, .ref a_cl, .int 0])), (a_ca, .inl (k_ca, 50, .inl (upd (fun _ => 0) p0.toNatClampNeg p1)))] H := hP
        replace hD : va_D A [(a_h, .inr (0, [.ref a_tx, .ref a_ru, .int 0, .ref a_cd, .ref a_te, .ref a_ki, .ref a_ca, .ref a_ty, .ref a_io, .ref a_ex, .ref a_lo, .int 0, .ref a_fi, .int 0, .ref a_cl, .int 0])), (a_ca, .inl (k_ca, 50, .inl (upd (fun _ => 0) p0.toNatClampNeg p1)))] := hD
        refine lv_iload_n hx hb d_C_block_33 rfl (lv_at hl 0 rfl) ?_
        exact W.iret (v := 0) hx hb hr (fun t ht hW => ⟨⟨0, (), rfl, hE.symm.trans hz, trivial⟩, hS.F ht⟩) hS.2.2 d_C_block_34
      · rw [if_neg c_5] at hE
        refine lv_iconst (v := (-1)) hx hb d_C_block_17 (by decide) ?_
        exact W.iret (v := (-1)) hx hb hr (fun t ht hW => ⟨⟨(-1), (), rfl, hE.symm.trans hz, trivial⟩, hS.F ht⟩) hS.2.2 d_C_block_18
set_option maxHeartbeats 4000000 in
set_option maxRecDepth 100000 in
theorem c_collect (l : Launch) (dC : Nat → ClassId) (dI : Nat → Nat → Nat) (adK adV : Nat → Nat) (a_tx : Nat) (a_sg : Nat) (k_sg : ClassId) (p0 : Int32) (sz : Nat) : Met l y_T_collect ws_T_collect ({ frames := 0, cells := 0, slots := 0, locals := 0 }) (va_Pc [.ref a_tx, .int p0] (fun U => U.heap.size = sz ∧ zz adK adV (va_A [(a_tx, .inr (4, [.ref a_sg, .int 0, .int 0, .int (-1)])), (a_sg, .inl (k_sg, 120, .inl (fun _ => 0)))] sz) U ∧ va_P (dC, dI) vwCl [(a_tx, .inr (4, [.ref a_sg, .int 0, .int 0, .int (-1)])), (a_sg, .inl (k_sg, 120, .inl (fun _ => 0)))] U.heap ∧ va_K (dC, dI) vwCl [(k_sg, .char)] U ∧ va_D (fun _ => True) [(a_tx, .inr (4, [.ref a_sg, .int 0, .int 0, .int (-1)])), (a_sg, .inl (k_sg, 120, .inl (fun _ => 0)))])) (va_Qv (fun _ : Unit => True) (fun (_ : Unit) (_ : State) => True) (va_A [(a_tx, .inr (4, [.ref a_sg, .int 0, .int 0, .int (-1)])), (a_sg, .inl (k_sg, 120, .inl (fun _ => 0)))] sz)) 0 0 (va_A [(a_tx, .inr (4, [.ref a_sg, .int 0, .int 0, .int (-1)])), (a_sg, .inl (k_sg, 120, .inl (fun _ => 0)))] sz) := by
  refine Met.ofW (cc := c_T_collect) (maxL := 2) (ret := none) (by decide) rfl ?_
  intro p e s m args below meth c s₁ B hml hv
  obtain ⟨rfl, hsz, hZ, hP, hK, hD0⟩ := hv
  have hx := B.exec
  have hb := B.bytes
  have hr := B.returns
  have hts0 := atoms_spec (ws := ws_T_collect) B.pre
  have hts : ∀ w ∈ TT, w.before _ s = true := fun w h => hts0 w (List.mem_cons_of_mem _ h)
  have hown : s.vm.findClass "LoanRules$RuleText" = some m.cls := findClass_of_methodNamed B.named
  have hlocks := B.notSynchronized
  subst hsz
  have hD := hD0.self (sz := s.heap.size)
  generalize hAe : va_A [(a_tx, .inr (4, [.ref a_sg, .int 0, .int 0, .int (-1)])), (a_sg, .inl (k_sg, 120, .inl (fun _ => 0)))] s.heap.size = A at hD hZ ⊢
  have hA : ∀ q : Nat, s.heap.size ≤ q → A q := fun q h => by rw [← hAe]; exact Or.inr h
  clear hAe hD0
  have hS : va_S A s.heap s.heap [] := va_S.rf
  replace hP : va_P (dC, dI) vwCl [(a_tx, .inr (4, [.ref a_sg, .int 0, .int 0, .int (-1)])), (a_sg, .inl (k_sg, 120, .inl (fun _ => 0)))] s.heap := hP
  have hl := lv_entry ([.ref a_tx, .int p0]) (n := 2) (Nat.le_of_ble_eq_true rfl)
  rw [lg_entry_eq]
  generalize (lg_sl ([.ref a_tx, .int p0]) ++ List.replicate (2 - (lg_sl ([.ref a_tx, .int p0])).length) Slot.unset).toArray = ls at hl ⊢
  replace hl : lv_has ls 2 [(0, .ref a_tx), (1, .int p0)] := hl
  refine lv_aload_n hx hb d_T_collect_0 rfl (lv_at hl 0 rfl) ?_
  refine va_get (D := (dC, dI)) (ci := 4) (v := .int 0) (C := "LoanRules$RuleText") (T := Fz_T) (N := 4) hx hb hts it_T hown hK hP 0 rfl rfl 1 (by decide) (hts _ tw_73) (fun _ h9 => h9) rfl d_T_collect_1 ?_
  refine lv_aload_n hx hb d_T_collect_4 rfl (lv_at hl 0 rfl) ?_
  refine va_get (D := (dC, dI)) (ci := 4) (v := .ref a_sg) (C := "LoanRules$RuleText") (T := Fz_T) (N := 4) hx hb hts it_T hown hK hP 0 rfl rfl 0 (by decide) (hts _ tw_72) (fun _ h9 => h9) rfl d_T_collect_5 ?_
  refine va_alen (D := (dC, dI)) (v := 120) hx hb hK hP 1 0 rfl rfl rfl d_T_collect_8 ?_
  refine lv_icmp_ge (tgt := 37) hx hb d_T_collect_9 (by decide) (fun c_1 => ?_) (fun c_1 => ?_)
  · exact absurd c_1 (by decide)
  · refine lv_aload_n hx hb d_T_collect_12 rfl (lv_at hl 0 rfl) ?_
    refine va_get (D := (dC, dI)) (ci := 4) (v := .ref a_sg) (C := "LoanRules$RuleText") (T := Fz_T) (N := 4) hx hb hts it_T hown hK hP 0 rfl rfl 0 (by decide) (hts _ tw_72) (fun _ h9 => h9) rfl d_T_collect_13 ?_
    refine lv_aload_n hx hb d_T_collect_16 rfl (lv_at hl 0 rfl) ?_
    refine va_get (D := (dC, dI)) (ci := 4) (v := .int 0) (C := "LoanRules$RuleText") (T := Fz_T) (N := 4) hx hb hts it_T hown hK hP 0 rfl rfl 1 (by decide) (hts _ tw_73) (fun _ h9 => h9) rfl d_T_collect_17 ?_
    refine lv_iload_n hx hb d_T_collect_20 rfl (lv_at hl 1 rfl) ?_
    refine lv_sipush (v := 255) hx hb d_T_collect_21 (by decide) ?_
    refine lv_iand hx hb d_T_collect_24 ?_
    refine lv_i2c hx hb d_T_collect_25 rfl ?_
    have i_2 : vp_in 0 120 := by show ¬ (_ ∨ _); decide
    refine va_cast (D := (dC, dI)) hx hb hK hP hD hS 1 0 rfl rfl i_2 d_T_collect_26 (fun H locs hP hD hS => ?_)
    replace hP : va_P (dC, dI) vwCl [(a_tx, .inr (4, [.ref a_sg, .int 0, .int 0, .int (-1)])), (a_sg, .inl (k_sg, 120, .inl (upd (fun _ => 0) (0 : Int32).toNatClampNeg (vp_nar .char (((p0 &&& 255).toUInt32 % 65536).toInt32)))))] H := hP
    replace hD : va_D A [(a_tx, .inr (4, [.ref a_sg, .int 0, .int 0, .int (-1)])), (a_sg, .inl (k_sg, 120, .inl (upd (fun _ => 0) (0 : Int32).toNatClampNeg (vp_nar .char (((p0 &&& 255).toUInt32 % 65536).toInt32)))))] := hD
    refine lv_aload_n hx hb d_T_collect_27 rfl (lv_at hl 0 rfl) ?_
    refine lv_dup hx hb d_T_collect_28 rfl ?_
    refine va_get (D := (dC, dI)) (ci := 4) (v := .int 0) (C := "LoanRules$RuleText") (T := Fz_T) (N := 4) hx hb hts it_T hown hK hP 0 rfl rfl 1 (by decide) (hts _ tw_73) (fun _ h9 => h9) rfl d_T_collect_29 ?_
    refine lv_iconst (v := 1) hx hb d_T_collect_32 (by decide) ?_
    refine lv_iadd hx hb d_T_collect_33 ?_
    refine lv_topi (fun x_3 ex_3 => ?_)
    obtain rfl : x_3 = 1 := ex_3.trans (by decide)
    refine va_put (D := (dC, dI)) (ci := 4) (v := .int 1) (ty := .int) (C := "LoanRules$RuleText") (T := Fz_T) (N := 4) hx hb hts it_T tz_T tz_T_ok nz_T hown hK hP hD hS 0 rfl rfl 1 (by decide) (hts _ tw_73) (fun _ h9 => h9) rfl (by decide +kernel) rfl rfl (Nat.le_of_ble_eq_true rfl) d_T_collect_34 (fun H locs hP hD hS => ?_)
    replace hP : va_P (dC, dI) vwCl [(a_tx, .inr (4, [.ref a_sg, .int 1, .int 0, .int (-1)])), (a_sg, .inl (k_sg, 120, .inl (upd (fun _ => 0) (0 : Int32).toNatClampNeg (vp_nar .char (((p0 &&& 255).toUInt32 % 65536).toInt32)))))] H := hP
    replace hD : va_D A [(a_tx, .inr (4, [.ref a_sg, .int 1, .int 0, .int (-1)])), (a_sg, .inl (k_sg, 120, .inl (upd (fun _ => 0) (0 : Int32).toNatClampNeg (vp_nar .char (((p0 &&& 255).toUInt32 % 65536).toInt32)))))] := hD
    exact W.vret hx hb hr (fun t ht hW => ⟨⟨(), rfl, trivial, trivial⟩, hS.F ht⟩) hS.2.2 d_T_collect_37
set_option maxHeartbeats 4000000 in
set_option maxRecDepth 100000 in
theorem c_sign (l : Launch) (dC : Nat → ClassId) (dI : Nat → Nat → Nat) (adK adV : Nat → Nat) (a_h : Nat) (a_tx : Nat) (a_sg : Nat) (k_sg : ClassId) (p0 : Int32) (a_ru : Nat) (a_cd : Nat) (a_te : Nat) (a_ki : Nat) (a_ca : Nat) (a_ty : Nat) (a_io : Nat) (a_ex : Nat) (a_lo : Nat) (a_fi : Nat) (a_cl : Nat) (sz : Nat) : Met l y_C_sign ws_C_sign ({ frames := 1, cells := 0, slots := 0, locals := 21 }) (va_Pc [.ref a_h, .int p0] (fun U => U.heap.size = sz ∧ zz adK adV (va_A [(a_h, .inr (0, [.ref a_tx, .ref a_ru, .int 0, .ref a_cd, .ref a_te, .ref a_ki, .ref a_ca, .ref a_ty, .ref a_io, .ref a_ex, .ref a_lo, .int 0, .ref a_fi, .int 0, .ref a_cl, .int 0])), (a_tx, .inr (4, [.ref a_sg, .int 0, .int 0, .int (-1)])), (a_sg, .inl (k_sg, 120, .inl (fun _ => 0)))] sz) U ∧ va_P (dC, dI) vwCl [(a_h, .inr (0, [.ref a_tx, .ref a_ru, .int 0, .ref a_cd, .ref a_te, .ref a_ki, .ref a_ca, .ref a_ty, .ref a_io, .ref a_ex, .ref a_lo, .int 0, .ref a_fi, .int 0, .ref a_cl, .int 0])), (a_tx, .inr (4, [.ref a_sg, .int 0, .int 0, .int (-1)])), (a_sg, .inl (k_sg, 120, .inl (fun _ => 0)))] U.heap ∧ va_K (dC, dI) vwCl [(k_sg, .char)] U ∧ va_D (fun _ => True) [(a_h, .inr (0, [.ref a_tx, .ref a_ru, .int 0, .ref a_cd, .ref a_te, .ref a_ki, .ref a_ca, .ref a_ty, .ref a_io, .ref a_ex, .ref a_lo, .int 0, .ref a_fi, .int 0, .ref a_cl, .int 0])), (a_tx, .inr (4, [.ref a_sg, .int 0, .int 0, .int (-1)])), (a_sg, .inl (k_sg, 120, .inl (fun _ => 0)))])) (va_Qv (fun _ : Unit => True) (fun (_ : Unit) (_ : State) => True) (va_A [(a_h, .inr (0, [.ref a_tx, .ref a_ru, .int 0, .ref a_cd, .ref a_te, .ref a_ki, .ref a_ca, .ref a_ty, .ref a_io, .ref a_ex, .ref a_lo, .int 0, .ref a_fi, .int 0, .ref a_cl, .int 0])), (a_tx, .inr (4, [.ref a_sg, .int 0, .int 0, .int (-1)])), (a_sg, .inl (k_sg, 120, .inl (fun _ => 0)))] sz)) 0 0 (va_A [(a_h, .inr (0, [.ref a_tx, .ref a_ru, .int 0, .ref a_cd, .ref a_te, .ref a_ki, .ref a_ca, .ref a_ty, .ref a_io, .ref a_ex, .ref a_lo, .int 0, .ref a_fi, .int 0, .ref a_cl, .int 0])), (a_tx, .inr (4, [.ref a_sg, .int 0, .int 0, .int (-1)])), (a_sg, .inl (k_sg, 120, .inl (fun _ => 0)))] sz) := by
  refine Met.ofW (cc := c_C_sign) (maxL := 2) (ret := none) (by decide) rfl ?_
  intro p e s m args below meth c s₁ B hml hv
  obtain ⟨rfl, hsz, hZ, hP, hK, hD0⟩ := hv
  have hx := B.exec
  have hb := B.bytes
  have hr := B.returns
  have hts0 := atoms_spec (ws := ws_C_sign) B.pre
  have hts : ∀ w ∈ TT, w.before _ s = true := fun w h => hts0 w (List.mem_cons_of_mem _ h)
  have hown : s.vm.findClass "LoanRules" = some m.cls := findClass_of_methodNamed B.named
  have hlocks := B.notSynchronized
  subst hsz
  have hD := hD0.self (sz := s.heap.size)
  generalize hAe : va_A [(a_h, .inr (0, [.ref a_tx, .ref a_ru, .int 0, .ref a_cd, .ref a_te, .ref a_ki, .ref a_ca, .ref a_ty, .ref a_io, .ref a_ex, .ref a_lo, .int 0, .ref a_fi, .int 0, .ref a_cl, .int 0])), (a_tx, .inr (4, [.ref a_sg, .int 0, .int 0, .int (-1)])), (a_sg, .inl (k_sg, 120, .inl (fun _ => 0)))] s.heap.size = A at hD hZ ⊢
  have hA : ∀ q : Nat, s.heap.size ≤ q → A q := fun q h => by rw [← hAe]; exact Or.inr h
  clear hAe hD0
  have hS : va_S A s.heap s.heap [] := va_S.rf
  replace hP : va_P (dC, dI) vwCl [(a_h, .inr (0, [.ref a_tx, .ref a_ru, .int 0, .ref a_cd, .ref a_te, .ref a_ki, .ref a_ca, .ref a_ty, .ref a_io, .ref a_ex, .ref a_lo, .int 0, .ref a_fi, .int 0, .ref a_cl, .int 0])), (a_tx, .inr (4, [.ref a_sg, .int 0, .int 0, .int (-1)])), (a_sg, .inl (k_sg, 120, .inl (fun _ => 0)))] s.heap := hP
  have hl := lv_entry ([.ref a_h, .int p0]) (n := 2) (Nat.le_of_ble_eq_true rfl)
  rw [lg_entry_eq]
  generalize (lg_sl ([.ref a_h, .int p0]) ++ List.replicate (2 - (lg_sl ([.ref a_h, .int p0])).length) Slot.unset).toArray = ls at hl ⊢
  replace hl : lv_has ls 2 [(0, .ref a_h), (1, .int p0)] := hl
  refine lv_aload_n hx hb d_C_sign_0 rfl (lv_at hl 0 rfl) ?_
  refine va_get (D := (dC, dI)) (ci := 0) (v := .ref a_tx) (C := "LoanRules") (T := Fz_C) (N := 16) hx hb hts it_C hown hK hP 0 rfl rfl 0 (by decide) (hts _ tw_104) (fun _ h9 => h9) rfl d_C_sign_1 ?_
  refine lv_iload_n hx hb d_C_sign_4 rfl (lv_at hl 1 rfl) ?_
  have hPc := hP.sub (ws' := [(a_tx, .inr (4, [.ref a_sg, .int 0, .int 0, .int (-1)])), (a_sg, .inl (k_sg, 120, .inl (fun _ => 0)))]) [1, 2] rfl
  have hKc := hK.sub (tys' := [(k_sg, .char)]) [0] rfl
  have hDc := hD.sub (ws' := [(a_tx, .inr (4, [.ref a_sg, .int 0, .int 0, .int (-1)])), (a_sg, .inl (k_sg, 120, .inl (fun _ => 0)))]) [1, 2] (by decide) rfl
  have hFc := va_free (wc := [(a_tx, .inr (4, [.ref a_sg, .int 0, .int 0, .int (-1)])), (a_sg, .inl (k_sg, 120, .inl (fun _ => 0)))]) hD hS hA [1, 2] rfl
  refine va_callv (va_runV (As := [.int p0]) (rest := []) ⟨hx, hb, hml, hown, hts⟩ (c_collect l dC dI adK adV (a_tx := a_tx) (p0 := p0) (a_sg := a_sg) (k_sg := k_sg) (sz := s.heap.size)) (cwV 1 hts (gV tw_159 tw_160 tw_161 tw_43 tw_162) rfl rfl rfl (by decide +kernel) ⟨(Nat.le_of_ble_eq_true rfl), (Nat.le_of_ble_eq_true rfl)⟩) ⟨fun a U g mk q => by obtain ⟨q0, q1, qZ, qP, qK, qD⟩ := q; exact ⟨q0, q1, zz_call qZ, qP, va_K.moved (u := U) (U := U.calling g mk a) (Vm.Alike.refl U.vm) qK, qD⟩, va_recv hKc hPc (ci := 4) (q0 := 0) rfl rfl, fun U hU hW => ⟨rfl, by rw [hU], zz_rw hS hFc hU hW hZ, by rw [hU]; exact hPc, va_K.moved hW.alike hKc, hDc.weaken (fun _ _ _ _ => trivial)⟩⟩ rfl rfl hl.1 rfl (lv_room (Nat.le_of_ble_eq_true rfl)) d_C_sign_5 ⟨(Nat.le_of_ble_eq_true rfl), (Nat.le_of_ble_eq_true rfl)⟩) hS (fun q _ h => hFc q h) hFc (fun u t H1 locs ht hvm hw_1 hB hz1 hk1 hS => ?_)
  obtain ⟨hP, hD⟩ := va_join (wr := [(a_h, .inr (0, [.ref a_tx, .ref a_ru, .int 0, .ref a_cd, .ref a_te, .ref a_ki, .ref a_ca, .ref a_ty, .ref a_io, .ref a_ex, .ref a_lo, .int 0, .ref a_fi, .int 0, .ref a_cl, .int 0]))]) (w1 := []) hP hD [1, 2] [0] rfl rfl (by decide) (by decide) hk1 hFc wn_P wn_D
  have hK := hK.sub (tys' := []) [] rfl
  generalize H1 = H at hP hS ⊢
  replace hP : va_P (dC, dI) vwCl [(a_h, .inr (0, [.ref a_tx, .ref a_ru, .int 0, .ref a_cd, .ref a_te, .ref a_ki, .ref a_ca, .ref a_ty, .ref a_io, .ref a_ex, .ref a_lo, .int 0, .ref a_fi, .int 0, .ref a_cl, .int 0]))] H := hP
  replace hD : va_D A [(a_h, .inr (0, [.ref a_tx, .ref a_ru, .int 0, .ref a_cd, .ref a_te, .ref a_ki, .ref a_ca, .ref a_ty, .ref a_io, .ref a_ex, .ref a_lo, .int 0, .ref a_fi, .int 0, .ref a_cl, .int 0]))] := hD
  exact W.vret hx hb hr (fun t ht hW => ⟨⟨(), rfl, trivial, trivial⟩, hS.F ht⟩) hS.2.2 d_C_sign_8
set_option maxHeartbeats 4000000 in
set_option maxRecDepth 100000 in
theorem c_coder (l : Launch) (dC : Nat → ClassId) (dI : Nat → Nat → Nat) (adK adV : Nat → Nat) (iw : Nat) (hiw : iw < nst) : Met l y_S_coder ws_S_coder ({ frames := 0, cells := 0, slots := 0, locals := 0 }) (va_Pc [.ref (adK iw)] (fun U => zz adK adV (fun _ => False) U ∧ va_P (dC, dI) vwCl [] U.heap ∧ va_K (dC, dI) vwCl [] U)) (vp_Si (fun r => r = 0)) 0 0 (fun _ => False) := by
  refine Met.ofW (cc := c_S_coder) (maxL := 1) (ret := (some .byte)) (by decide) rfl ?_
  intro p e s m args below meth c s₁ B hml hv
  obtain ⟨rfl, hZ, hP, hK⟩ := hv
  have hx := B.exec
  have hb := B.bytes
  have hr := B.returns
  have hts0 := atoms_spec (ws := ws_S_coder) B.pre
  have hts : ∀ w ∈ TT, w.before _ s = true := fun w h => hts0 w (List.mem_cons_of_mem _ h)
  have hown : s.vm.findClass "java/lang/String" = some m.cls := findClass_of_methodNamed B.named
  have hlocks := B.notSynchronized
  have hS : va_S (fun _ => False) s.heap s.heap [] := va_S.rf
  replace hP : va_P (dC, dI) vwCl [] s.heap := hP
  have hl := lv_entry ([.ref (adK iw)]) (n := 1) (Nat.le_of_ble_eq_true rfl)
  rw [lg_entry_eq]
  generalize (lg_sl ([.ref (adK iw)]) ++ List.replicate (1 - (lg_sl ([.ref (adK iw)])).length) Slot.unset).toArray = ls at hl ⊢
  replace hl : lv_has ls 1 [(0, .ref (adK iw))] := hl
  refine va_gets hx hb (zz_cs hZ) hS hown (hts _ tw_247) (fun _ h => h) d_S_coder_0 ?_
  refine lv_if_eq (tgt := 13) hx hb d_S_coder_3 (by decide) (fun c_1 => ?_) (fun c_1 => ?_)
  · exact absurd c_1 (by decide)
  · refine lv_aload_n hx hb d_S_coder_6 rfl (lv_at hl 0 rfl) ?_
    refine vk_getf (v := .int 0) hx hb ((zz_S hZ).1 _ hiw).2.1 hS hown (hts _ tw_828) (fun _ h => h) d_S_coder_7 ?_
    refine lv_goto (tgt := 14) hx hb d_S_coder_10 (by decide) ?_
    exact W.zret (v := 0) hx hb hr rfl (fun t ht hW => ⟨0, rfl, rfl, ht⟩) (fun _ h => by cases h) d_S_coder_14
set_option maxHeartbeats 4000000 in
set_option maxRecDepth 100000 in
theorem c_isLatin1 (l : Launch) (dC : Nat → ClassId) (dI : Nat → Nat → Nat) (adK adV : Nat → Nat) (iw : Nat) (hiw : iw < nst) : Met l y_S_isLatin1 ws_S_isLatin1 ({ frames := 0, cells := 0, slots := 0, locals := 0 }) (va_Pc [.ref (adK iw)] (fun U => zz adK adV (fun _ => False) U ∧ va_P (dC, dI) vwCl [] U.heap ∧ va_K (dC, dI) vwCl [] U)) (vp_Si (fun r => r = 1)) 0 0 (fun _ => False) := by
  refine Met.ofW (cc := c_S_isLatin1) (maxL := 1) (ret := (some .boolean)) (by decide) rfl ?_
  intro p e s m args below meth c s₁ B hml hv
  obtain ⟨rfl, hZ, hP, hK⟩ := hv
  have hx := B.exec
  have hb := B.bytes
  have hr := B.returns
  have hts0 := atoms_spec (ws := ws_S_isLatin1) B.pre
  have hts : ∀ w ∈ TT, w.before _ s = true := fun w h => hts0 w (List.mem_cons_of_mem _ h)
  have hown : s.vm.findClass "java/lang/String" = some m.cls := findClass_of_methodNamed B.named
  have hlocks := B.notSynchronized
  have hS : va_S (fun _ => False) s.heap s.heap [] := va_S.rf
  replace hP : va_P (dC, dI) vwCl [] s.heap := hP
  have hl := lv_entry ([.ref (adK iw)]) (n := 1) (Nat.le_of_ble_eq_true rfl)
  rw [lg_entry_eq]
  generalize (lg_sl ([.ref (adK iw)]) ++ List.replicate (1 - (lg_sl ([.ref (adK iw)])).length) Slot.unset).toArray = ls at hl ⊢
  replace hl : lv_has ls 1 [(0, .ref (adK iw))] := hl
  refine va_gets hx hb (zz_cs hZ) hS hown (hts _ tw_247) (fun _ h => h) d_S_isLatin1_0 ?_
  refine lv_if_eq (tgt := 17) hx hb d_S_isLatin1_3 (by decide) (fun c_1 => ?_) (fun c_1 => ?_)
  · exact absurd c_1 (by decide)
  · refine lv_aload_n hx hb d_S_isLatin1_6 rfl (lv_at hl 0 rfl) ?_
    refine vk_getf (v := .int 0) hx hb ((zz_S hZ).1 _ hiw).2.1 hS hown (hts _ tw_828) (fun _ h => h) d_S_isLatin1_7 ?_
    refine lv_if_ne (tgt := 17) hx hb d_S_isLatin1_10 (by decide) (fun c_2 => ?_) (fun c_2 => ?_)
    · exact absurd (by decide) c_2
    · refine lv_iconst (v := 1) hx hb d_S_isLatin1_13 (by decide) ?_
      refine lv_goto (tgt := 18) hx hb d_S_isLatin1_14 (by decide) ?_
      exact W.zret (v := 1) hx hb hr rfl (fun t ht hW => ⟨1, rfl, rfl, ht⟩) (fun _ h => by cases h) d_S_isLatin1_18
set_option maxHeartbeats 4000000 in
set_option maxRecDepth 100000 in
theorem c_strlen (l : Launch) (dC : Nat → ClassId) (dI : Nat → Nat → Nat) (adK adV : Nat → Nat) (iw : Nat) (hiw : iw < nst) : Met l y_S_length ws_S_length ({ frames := 1, cells := 0, slots := 0, locals := 20 }) (va_Pc [.ref (adK iw)] (fun U => zz adK adV (fun _ => False) U ∧ va_P (dC, dI) vwCl [] U.heap ∧ va_K (dC, dI) vwCl [] U)) (vp_Si (fun r => r = nI (kz_len.getD iw 0))) 0 0 (fun _ => False) := by
  refine Met.ofW (cc := c_S_length) (maxL := 1) (ret := (some .int)) (by decide) rfl ?_
  intro p e s m args below meth c s₁ B hml hv
  obtain ⟨rfl, hZ, hP, hK⟩ := hv
  have hx := B.exec
  have hb := B.bytes
  have hr := B.returns
  have hts0 := atoms_spec (ws := ws_S_length) B.pre
  have hts : ∀ w ∈ TT, w.before _ s = true := fun w h => hts0 w (List.mem_cons_of_mem _ h)
  have hown : s.vm.findClass "java/lang/String" = some m.cls := findClass_of_methodNamed B.named
  have hlocks := B.notSynchronized
  have hS : va_S (fun _ => False) s.heap s.heap [] := va_S.rf
  replace hP : va_P (dC, dI) vwCl [] s.heap := hP
  have hl := lv_entry ([.ref (adK iw)]) (n := 1) (Nat.le_of_ble_eq_true rfl)
  rw [lg_entry_eq]
  generalize (lg_sl ([.ref (adK iw)]) ++ List.replicate (1 - (lg_sl ([.ref (adK iw)])).length) Slot.unset).toArray = ls at hl ⊢
  replace hl : lv_has ls 1 [(0, .ref (adK iw))] := hl
  refine lv_aload_n hx hb d_S_length_0 rfl (lv_at hl 0 rfl) ?_
  refine vk_getf (v := .ref (adV iw)) hx hb ((zz_S hZ).1 _ hiw).2.2.1 hS hown (hts _ tw_827) (fun _ h => h) d_S_length_1 ?_
  refine va_tlen (v := nI (kz_len.getD iw 0)) hx hb ((zz_S hZ).1 _ hiw).2.2.2 hS rfl d_S_length_4 ?_
  refine lv_aload_n hx hb d_S_length_5 rfl (lv_at hl 0 rfl) ?_
  have hPc := hP.sub (ws' := []) [] rfl
  have hKc := hK.sub (tys' := []) [] rfl
  refine vp_callSi (va_Run.run (va_runV (As := []) (rest := [.int (nI (kz_len.getD iw 0))]) ⟨hx, hb, hml, hown, hts⟩ (c_coder l dC dI adK adV (iw := iw) hiw) (cwV 0 hts (gV tw_243 tw_244 tw_245 tw_48 tw_246) rfl rfl rfl (by decide +kernel) ⟨(Nat.le_of_ble_eq_true rfl), (Nat.le_of_ble_eq_true rfl)⟩) ⟨fun a U g mk q => by obtain ⟨q0, qZ, qP, qK⟩ := q; exact ⟨q0, zz_call qZ, qP, va_K.moved (u := U) (U := U.calling g mk a) (Vm.Alike.refl U.vm) qK⟩, vk_recv (zz_S hZ) hiw hS, fun U hU hW => ⟨rfl, zz_rr hU hW hZ, by rw [hU]; exact hPc, va_K.moved hW.alike hKc⟩⟩ rfl rfl hl.1 rfl (lv_room (Nat.le_of_ble_eq_true rfl)) d_S_length_6 ⟨(Nat.le_of_ble_eq_true rfl), (Nat.le_of_ble_eq_true rfl)⟩)) (fun r_1 hw_2 => ?_)
  obtain rfl : r_1 = 0 := hw_2
  refine lv_ishr hx hb d_S_length_9 ?_
  rw [sb_shr0]
  exact W.iret (v := nI (kz_len.getD iw 0)) hx hb hr (fun t ht hW => ⟨nI (kz_len.getD iw 0), rfl, rfl, ht⟩) (fun _ h => by cases h) d_S_length_10
set_option maxHeartbeats 4000000 in
set_option maxRecDepth 100000 in
theorem c_pcheckN (l : Launch) (dC : Nat → ClassId) (dI : Nat → Nat → Nat) (adK adV : Nat → Nat) (p1 : Int32) (h01 : 0 < p1) : Met l y_PC_checkIndex ws_PC_checkIndex ({ frames := 0, cells := 0, slots := 0, locals := 0 }) (va_Pc [.int 0, .int p1, .null] (fun U => zz adK adV (fun _ => False) U ∧ va_P (dC, dI) vwCl [] U.heap ∧ va_K (dC, dI) vwCl [] U)) (vp_Si (fun r => r = 0)) 0 0 (fun _ => False) := by
  refine Met.ofW (cc := c_PC_checkIndex) (maxL := 3) (ret := (some .int)) (by decide) rfl ?_
  intro p e s m args below meth c s₁ B hml hv
  obtain ⟨rfl, hZ, hP, hK⟩ := hv
  have hx := B.exec
  have hb := B.bytes
  have hr := B.returns
  have hts0 := atoms_spec (ws := ws_PC_checkIndex) B.pre
  have hts : ∀ w ∈ TT, w.before _ s = true := fun w h => hts0 w (List.mem_cons_of_mem _ h)
  have hown : s.vm.findClass "jdk/internal/util/Preconditions" = some m.cls := findClass_of_methodNamed B.named
  have hlocks := B.notSynchronized
  have hS : va_S (fun _ => False) s.heap s.heap [] := va_S.rf
  replace hP : va_P (dC, dI) vwCl [] s.heap := hP
  have hl := lv_entry ([.int 0, .int p1, .null]) (n := 3) (Nat.le_of_ble_eq_true rfl)
  rw [lg_entry_eq]
  generalize (lg_sl ([.int 0, .int p1, .null]) ++ List.replicate (3 - (lg_sl ([.int 0, .int p1, .null])).length) Slot.unset).toArray = ls at hl ⊢
  replace hl : lv_has ls 3 [(0, .int 0), (1, .int p1), (2, .null)] := hl
  refine lv_iload_n hx hb d_PC_checkIndex_0 rfl (lv_at hl 0 rfl) ?_
  refine lv_if_lt (tgt := 9) hx hb d_PC_checkIndex_1 (by decide) (fun c_1 => ?_) (fun c_1 => ?_)
  · exact absurd c_1 (by decide)
  · refine lv_iload_n hx hb d_PC_checkIndex_4 rfl (lv_at hl 0 rfl) ?_
    refine lv_iload_n hx hb d_PC_checkIndex_5 rfl (lv_at hl 1 rfl) ?_
    refine lv_icmp_lt (tgt := 16) hx hb d_PC_checkIndex_6 (by decide) (fun c_2 => ?_) (fun c_2 => ?_)
    · refine lv_iload_n hx hb d_PC_checkIndex_16 rfl (lv_at hl 0 rfl) ?_
      exact W.iret (v := 0) hx hb hr (fun t ht hW => ⟨0, rfl, rfl, ht⟩) (fun _ h => by cases h) d_PC_checkIndex_17
    · exact absurd h01 c_2
set_option maxHeartbeats 4000000 in
set_option maxRecDepth 100000 in
theorem c_pcheckR (l : Launch) (dC : Nat → ClassId) (dI : Nat → Nat → Nat) (adK adV : Nat → Nat) (p1 : Int32) (tq : Nat) (h01 : 0 < p1) : Met l y_PC_checkIndex ws_PC_checkIndex ({ frames := 0, cells := 0, slots := 0, locals := 0 }) (va_Pc [.int 0, .int p1, .ref tq] (fun U => zz adK adV (fun _ => False) U ∧ va_P (dC, dI) vwCl [] U.heap ∧ va_K (dC, dI) vwCl [] U)) (vp_Si (fun r => r = 0)) 0 0 (fun _ => False) := by
  refine Met.ofW (cc := c_PC_checkIndex) (maxL := 3) (ret := (some .int)) (by decide) rfl ?_
  intro p e s m args below meth c s₁ B hml hv
  obtain ⟨rfl, hZ, hP, hK⟩ := hv
  have hx := B.exec
  have hb := B.bytes
  have hr := B.returns
  have hts0 := atoms_spec (ws := ws_PC_checkIndex) B.pre
  have hts : ∀ w ∈ TT, w.before _ s = true := fun w h => hts0 w (List.mem_cons_of_mem _ h)
  have hown : s.vm.findClass "jdk/internal/util/Preconditions" = some m.cls := findClass_of_methodNamed B.named
  have hlocks := B.notSynchronized
  have hS : va_S (fun _ => False) s.heap s.heap [] := va_S.rf
  replace hP : va_P (dC, dI) vwCl [] s.heap := hP
  have hl := lv_entry ([.int 0, .int p1, .ref tq]) (n := 3) (Nat.le_of_ble_eq_true rfl)
  rw [lg_entry_eq]
  generalize (lg_sl ([.int 0, .int p1, .ref tq]) ++ List.replicate (3 - (lg_sl ([.int 0, .int p1, .ref tq])).length) Slot.unset).toArray = ls at hl ⊢
  replace hl : lv_has ls 3 [(0, .int 0), (1, .int p1), (2, .ref tq)] := hl
  refine lv_iload_n hx hb d_PC_checkIndex_0 rfl (lv_at hl 0 rfl) ?_
  refine lv_if_lt (tgt := 9) hx hb d_PC_checkIndex_1 (by decide) (fun c_1 => ?_) (fun c_1 => ?_)
  · exact absurd c_1 (by decide)
  · refine lv_iload_n hx hb d_PC_checkIndex_4 rfl (lv_at hl 0 rfl) ?_
    refine lv_iload_n hx hb d_PC_checkIndex_5 rfl (lv_at hl 1 rfl) ?_
    refine lv_icmp_lt (tgt := 16) hx hb d_PC_checkIndex_6 (by decide) (fun c_2 => ?_) (fun c_2 => ?_)
    · refine lv_iload_n hx hb d_PC_checkIndex_16 rfl (lv_at hl 0 rfl) ?_
      exact W.iret (v := 0) hx hb hr (fun t ht hW => ⟨0, rfl, rfl, ht⟩) (fun _ h => by cases h) d_PC_checkIndex_17
    · exact absurd h01 c_2
set_option maxHeartbeats 4000000 in
set_option maxRecDepth 100000 in
theorem c_checkIndex (l : Launch) (dC : Nat → ClassId) (dI : Nat → Nat → Nat) (adK adV : Nat → Nat) (p1 : Int32) (h01 : 0 < p1) : Met l y_S_checkIndex ws_S_checkIndex ({ frames := 1, cells := 0, slots := 0, locals := 22 }) (va_Pc [.int 0, .int p1] (fun U => zz adK adV (fun _ => False) U ∧ va_P (dC, dI) vwCl [] U.heap ∧ va_K (dC, dI) vwCl [] U)) (va_Sv (fun _ => True)) 0 0 (fun _ => False) := by
  refine Met.ofW (cc := c_S_checkIndex) (maxL := 2) (ret := none) (by decide) rfl ?_
  intro p e s m args below meth c s₁ B hml hv
  obtain ⟨rfl, hZ, hP, hK⟩ := hv
  have hx := B.exec
  have hb := B.bytes
  have hr := B.returns
  have hts0 := atoms_spec (ws := ws_S_checkIndex) B.pre
  have hts : ∀ w ∈ TT, w.before _ s = true := fun w h => hts0 w (List.mem_cons_of_mem _ h)
  have hown : s.vm.findClass "java/lang/String" = some m.cls := findClass_of_methodNamed B.named
  have hlocks := B.notSynchronized
  have hS : va_S (fun _ => False) s.heap s.heap [] := va_S.rf
  replace hP : va_P (dC, dI) vwCl [] s.heap := hP
  have hl := lv_entry ([.int 0, .int p1]) (n := 2) (Nat.le_of_ble_eq_true rfl)
  rw [lg_entry_eq]
  generalize (lg_sl ([.int 0, .int p1]) ++ List.replicate (2 - (lg_sl ([.int 0, .int p1])).length) Slot.unset).toArray = ls at hl ⊢
  replace hl : lv_has ls 2 [(0, .int 0), (1, .int p1)] := hl
  refine lv_iload_n hx hb d_S_checkIndex_0 rfl (lv_at hl 0 rfl) ?_
  refine lv_iload_n hx hb d_S_checkIndex_1 rfl (lv_at hl 1 rfl) ?_
  rcases zz_sf hZ with hq | ⟨tq, hq⟩
  · refine va_gets hx hb hq hS hown (hts _ tw_267) (fun _ h => h) d_S_checkIndex_2 ?_
    have hPc := hP.sub (ws' := []) [] rfl
    have hKc := hK.sub (tys' := []) [] rfl
    refine vp_callSi (va_Run.run (va_runS (As := [.int 0, .int p1, .null]) (rest := []) ⟨hx, hb, hml, hown, hts⟩ (c_pcheckN l dC dI adK adV (p1 := p1) h01) (va_cwS 3 hts (gS tw_269 tw_270 tw_50 tw_271) rfl rfl rfl (by decide +kernel) ⟨(Nat.le_of_ble_eq_true rfl), (Nat.le_of_ble_eq_true rfl)⟩) ⟨fun a U g mk q => by obtain ⟨q0, qZ, qP, qK⟩ := q; exact ⟨q0, zz_call qZ, qP, va_K.moved (u := U) (U := U.calling g mk a) (Vm.Alike.refl U.vm) qK⟩, fun U hU hW => ⟨rfl, zz_rr hU hW hZ, by rw [hU]; exact hPc, va_K.moved hW.alike hKc⟩⟩ rfl rfl hl.1 rfl (lv_room (Nat.le_of_ble_eq_true rfl)) d_S_checkIndex_5 ⟨(Nat.le_of_ble_eq_true rfl), (Nat.le_of_ble_eq_true rfl)⟩)) (fun r_1 hw_2 => ?_)
    obtain rfl : r_1 = 0 := hw_2
    refine lv_pop hx hb d_S_checkIndex_8 rfl ?_
    exact W.vret hx hb hr (fun t ht hW => ⟨rfl, trivial, ht⟩) (fun _ h => by cases h) d_S_checkIndex_9
  · refine va_gets hx hb hq hS hown (hts _ tw_267) (fun _ h => h) d_S_checkIndex_2 ?_
    have hPc := hP.sub (ws' := []) [] rfl
    have hKc := hK.sub (tys' := []) [] rfl
    refine vp_callSi (va_Run.run (va_runS (As := [.int 0, .int p1, .ref tq]) (rest := []) ⟨hx, hb, hml, hown, hts⟩ (c_pcheckR l dC dI adK adV (p1 := p1) (tq := tq) h01) (va_cwS 3 hts (gS tw_269 tw_270 tw_50 tw_271) rfl rfl rfl (by decide +kernel) ⟨(Nat.le_of_ble_eq_true rfl), (Nat.le_of_ble_eq_true rfl)⟩) ⟨fun a U g mk q => by obtain ⟨q0, qZ, qP, qK⟩ := q; exact ⟨q0, zz_call qZ, qP, va_K.moved (u := U) (U := U.calling g mk a) (Vm.Alike.refl U.vm) qK⟩, fun U hU hW => ⟨rfl, zz_rr hU hW hZ, by rw [hU]; exact hPc, va_K.moved hW.alike hKc⟩⟩ rfl rfl hl.1 rfl (lv_room (Nat.le_of_ble_eq_true rfl)) d_S_checkIndex_5 ⟨(Nat.le_of_ble_eq_true rfl), (Nat.le_of_ble_eq_true rfl)⟩)) (fun r_3 hw_4 => ?_)
    obtain rfl : r_3 = 0 := hw_4
    refine lv_pop hx hb d_S_checkIndex_8 rfl ?_
    exact W.vret hx hb hr (fun t ht hW => ⟨rfl, trivial, ht⟩) (fun _ h => by cases h) d_S_checkIndex_9
set_option maxHeartbeats 4000000 in
set_option maxRecDepth 100000 in
theorem c_charAtL (l : Launch) (dC : Nat → ClassId) (dI : Nat → Nat → Nat) (adK adV : Nat → Nat) (iw : Nat) (hiw : iw < nst) : Met l y_SL_charAt ws_SL_charAt ({ frames := 2, cells := 0, slots := 0, locals := 43 }) (va_Pc [.ref (adV iw), .int 0] (fun U => zz adK adV (fun _ => False) U ∧ va_P (dC, dI) vwCl [] U.heap ∧ va_K (dC, dI) vwCl [] U)) (vp_Si (fun r => r = ((((kz_byt.getD iw []).getD (0 : Int32).toNatClampNeg 0) &&& 255).toUInt32 % 65536).toInt32)) 0 0 (fun _ => False) := by
  refine Met.ofW (cc := c_SL_charAt) (maxL := 2) (ret := (some .char)) (by decide) rfl ?_
  intro p e s m args below meth c s₁ B hml hv
  obtain ⟨rfl, hZ, hP, hK⟩ := hv
  have hx := B.exec
  have hb := B.bytes
  have hr := B.returns
  have hts0 := atoms_spec (ws := ws_SL_charAt) B.pre
  have hts : ∀ w ∈ TT, w.before _ s = true := fun w h => hts0 w (List.mem_cons_of_mem _ h)
  have hown : s.vm.findClass "java/lang/StringLatin1" = some m.cls := findClass_of_methodNamed B.named
  have hlocks := B.notSynchronized
  have hS : va_S (fun _ => False) s.heap s.heap [] := va_S.rf
  replace hP : va_P (dC, dI) vwCl [] s.heap := hP
  have hl := lv_entry ([.ref (adV iw), .int 0]) (n := 2) (Nat.le_of_ble_eq_true rfl)
  rw [lg_entry_eq]
  generalize (lg_sl ([.ref (adV iw), .int 0]) ++ List.replicate (2 - (lg_sl ([.ref (adV iw), .int 0])).length) Slot.unset).toArray = ls at hl ⊢
  replace hl : lv_has ls 2 [(0, .ref (adV iw)), (1, .int 0)] := hl
  refine lv_iload_n hx hb d_SL_charAt_0 rfl (lv_at hl 1 rfl) ?_
  refine lv_aload_n hx hb d_SL_charAt_1 rfl (lv_at hl 0 rfl) ?_
  refine va_tlen (v := nI (kz_len.getD iw 0)) hx hb ((zz_S hZ).1 _ hiw).2.2.2 hS rfl d_SL_charAt_2 ?_
  have hPc := hP.sub (ws' := []) [] rfl
  have hKc := hK.sub (tys' := []) [] rfl
  refine va_csv (va_Run.run (va_runS (As := [.int 0, .int (nI (kz_len.getD iw 0))]) (rest := []) ⟨hx, hb, hml, hown, hts⟩ (c_checkIndex l dC dI adK adV (p1 := nI (kz_len.getD iw 0)) (zk_pos hiw)) (va_cwS 2 hts (gS tw_264 tw_265 tw_48 tw_266) rfl rfl rfl (by decide +kernel) ⟨(Nat.le_of_ble_eq_true rfl), (Nat.le_of_ble_eq_true rfl)⟩) ⟨fun a U g mk q => by obtain ⟨q0, qZ, qP, qK⟩ := q; exact ⟨q0, zz_call qZ, qP, va_K.moved (u := U) (U := U.calling g mk a) (Vm.Alike.refl U.vm) qK⟩, fun U hU hW => ⟨rfl, zz_rr hU hW hZ, by rw [hU]; exact hPc, va_K.moved hW.alike hKc⟩⟩ rfl rfl hl.1 rfl (lv_room (Nat.le_of_ble_eq_true rfl)) d_SL_charAt_3 ⟨(Nat.le_of_ble_eq_true rfl), (Nat.le_of_ble_eq_true rfl)⟩)) (fun hw_1 => ?_)
  refine lv_aload_n hx hb d_SL_charAt_6 rfl (lv_at hl 0 rfl) ?_
  refine lv_iload_n hx hb d_SL_charAt_7 rfl (lv_at hl 1 rfl) ?_
  have i_2 : vp_in 0 (kz_len.getD iw 0) := zk_in hiw
  refine va_tb (v := .int ((kz_byt.getD iw []).getD (0 : Int32).toNatClampNeg 0)) hx hb ((zz_S hZ).1 _ hiw).2.2.2 hS i_2 rfl d_SL_charAt_8 ?_
  refine lv_sipush (v := 255) hx hb d_SL_charAt_9 (by decide) ?_
  refine lv_iand hx hb d_SL_charAt_12 ?_
  refine lv_i2c hx hb d_SL_charAt_13 rfl ?_
  exact W.zret (v := ((((kz_byt.getD iw []).getD (0 : Int32).toNatClampNeg 0) &&& 255).toUInt32 % 65536).toInt32) hx hb hr (pk_nc _) (fun t ht hW => ⟨((((kz_byt.getD iw []).getD (0 : Int32).toNatClampNeg 0) &&& 255).toUInt32 % 65536).toInt32, rfl, rfl, ht⟩) (fun _ h => by cases h) d_SL_charAt_14
set_option maxHeartbeats 4000000 in
set_option maxRecDepth 100000 in
theorem c_charAt (l : Launch) (dC : Nat → ClassId) (dI : Nat → Nat → Nat) (adK adV : Nat → Nat) (iw : Nat) (hiw : iw < nst) : Met l y_S_charAt ws_S_charAt ({ frames := 3, cells := 0, slots := 0, locals := 64 }) (va_Pc [.ref (adK iw), .int 0] (fun U => zz adK adV (fun _ => False) U ∧ va_P (dC, dI) vwCl [] U.heap ∧ va_K (dC, dI) vwCl [] U)) (vp_Si (fun r => r = ((((kz_byt.getD iw []).getD (0 : Int32).toNatClampNeg 0) &&& 255).toUInt32 % 65536).toInt32)) 0 0 (fun _ => False) := by
  refine Met.ofW (cc := c_S_charAt) (maxL := 2) (ret := (some .char)) (by decide) rfl ?_
  intro p e s m args below meth c s₁ B hml hv
  obtain ⟨rfl, hZ, hP, hK⟩ := hv
  have hx := B.exec
  have hb := B.bytes
  have hr := B.returns
  have hts0 := atoms_spec (ws := ws_S_charAt) B.pre
  have hts : ∀ w ∈ TT, w.before _ s = true := fun w h => hts0 w (List.mem_cons_of_mem _ h)
  have hown : s.vm.findClass "java/lang/String" = some m.cls := findClass_of_methodNamed B.named
  have hlocks := B.notSynchronized
  have hS : va_S (fun _ => False) s.heap s.heap [] := va_S.rf
  replace hP : va_P (dC, dI) vwCl [] s.heap := hP
  have hl := lv_entry ([.ref (adK iw), .int 0]) (n := 2) (Nat.le_of_ble_eq_true rfl)
  rw [lg_entry_eq]
  generalize (lg_sl ([.ref (adK iw), .int 0]) ++ List.replicate (2 - (lg_sl ([.ref (adK iw), .int 0])).length) Slot.unset).toArray = ls at hl ⊢
  replace hl : lv_has ls 2 [(0, .ref (adK iw)), (1, .int 0)] := hl
  refine lv_aload_n hx hb d_S_charAt_0 rfl (lv_at hl 0 rfl) ?_
  have hPc := hP.sub (ws' := []) [] rfl
  have hKc := hK.sub (tys' := []) [] rfl
  refine vp_callSi (va_Run.run (va_runV (As := []) (rest := []) ⟨hx, hb, hml, hown, hts⟩ (c_isLatin1 l dC dI adK adV (iw := iw) hiw) (cwV 0 hts (gV tw_257 tw_258 tw_259 tw_48 tw_260) rfl rfl rfl (by decide +kernel) ⟨(Nat.le_of_ble_eq_true rfl), (Nat.le_of_ble_eq_true rfl)⟩) ⟨fun a U g mk q => by obtain ⟨q0, qZ, qP, qK⟩ := q; exact ⟨q0, zz_call qZ, qP, va_K.moved (u := U) (U := U.calling g mk a) (Vm.Alike.refl U.vm) qK⟩, vk_recv (zz_S hZ) hiw hS, fun U hU hW => ⟨rfl, zz_rr hU hW hZ, by rw [hU]; exact hPc, va_K.moved hW.alike hKc⟩⟩ rfl rfl hl.1 rfl (lv_room (Nat.le_of_ble_eq_true rfl)) d_S_charAt_1 ⟨(Nat.le_of_ble_eq_true rfl), (Nat.le_of_ble_eq_true rfl)⟩)) (fun r_1 hw_2 => ?_)
  obtain rfl : r_1 = 1 := hw_2
  refine lv_if_eq (tgt := 16) hx hb d_S_charAt_4 (by decide) (fun c_3 => ?_) (fun c_3 => ?_)
  · exact absurd c_3 (by decide)
  · refine lv_aload_n hx hb d_S_charAt_7 rfl (lv_at hl 0 rfl) ?_
    refine vk_getf (v := .ref (adV iw)) hx hb ((zz_S hZ).1 _ hiw).2.2.1 hS hown (hts _ tw_827) (fun _ h => h) d_S_charAt_8 ?_
    refine lv_iload_n hx hb d_S_charAt_11 rfl (lv_at hl 1 rfl) ?_
    have hPc := hP.sub (ws' := []) [] rfl
    have hKc := hK.sub (tys' := []) [] rfl
    refine vp_callSi (va_Run.run (va_runS (As := [.ref (adV iw), .int 0]) (rest := []) ⟨hx, hb, hml, hown, hts⟩ (c_charAtL l dC dI adK adV (iw := iw) hiw) (va_cwS 2 hts (gS tw_261 tw_262 tw_49 tw_263) rfl rfl rfl (by decide +kernel) ⟨(Nat.le_of_ble_eq_true rfl), (Nat.le_of_ble_eq_true rfl)⟩) ⟨fun a U g mk q => by obtain ⟨q0, qZ, qP, qK⟩ := q; exact ⟨q0, zz_call qZ, qP, va_K.moved (u := U) (U := U.calling g mk a) (Vm.Alike.refl U.vm) qK⟩, fun U hU hW => ⟨rfl, zz_rr hU hW hZ, by rw [hU]; exact hPc, va_K.moved hW.alike hKc⟩⟩ rfl rfl hl.1 rfl (lv_room (Nat.le_of_ble_eq_true rfl)) d_S_charAt_12 ⟨(Nat.le_of_ble_eq_true rfl), (Nat.le_of_ble_eq_true rfl)⟩)) (fun r_4 hw_5 => ?_)
    subst hw_5
    exact W.zret (v := ((((kz_byt.getD iw []).getD (0 : Int32).toNatClampNeg 0) &&& 255).toUInt32 % 65536).toInt32) hx hb hr (pk_nc _) (fun t ht hW => ⟨((((kz_byt.getD iw []).getD (0 : Int32).toNatClampNeg 0) &&& 255).toUInt32 % 65536).toInt32, rfl, rfl, ht⟩) (fun _ h => by cases h) d_S_charAt_15
set_option maxHeartbeats 4000000 in
set_option maxRecDepth 100000 in
theorem c_signAt (l : Launch) (dC : Nat → ClassId) (dI : Nat → Nat → Nat) (adK adV : Nat → Nat) (a_tx : Nat) (p0 : Int32) (a_sg : Nat) : Met l y_T_signAt ws_T_signAt ({ frames := 0, cells := 0, slots := 0, locals := 0 }) (va_Pc [.ref a_tx, .int p0] (fun U => zz adK adV (fun _ => False) U ∧ va_P (dC, dI) vwCl [(a_tx, .inr (4, [.ref a_sg, .int 0, .int 0, .int (-1)]))] U.heap ∧ va_K (dC, dI) vwCl [] U)) (vp_Si (fun r => r = (-1))) 0 0 (fun _ => False) := by
  refine Met.ofW (cc := c_T_signAt) (maxL := 2) (ret := (some .int)) (by decide) rfl ?_
  intro p e s m args below meth c s₁ B hml hv
  obtain ⟨rfl, hZ, hP, hK⟩ := hv
  have hx := B.exec
  have hb := B.bytes
  have hr := B.returns
  have hts0 := atoms_spec (ws := ws_T_signAt) B.pre
  have hts : ∀ w ∈ TT, w.before _ s = true := fun w h => hts0 w (List.mem_cons_of_mem _ h)
  have hown : s.vm.findClass "LoanRules$RuleText" = some m.cls := findClass_of_methodNamed B.named
  have hlocks := B.notSynchronized
  have hS : va_S (fun _ => False) s.heap s.heap [] := va_S.rf
  replace hP : va_P (dC, dI) vwCl [(a_tx, .inr (4, [.ref a_sg, .int 0, .int 0, .int (-1)]))] s.heap := hP
  have hl := lv_entry ([.ref a_tx, .int p0]) (n := 2) (Nat.le_of_ble_eq_true rfl)
  rw [lg_entry_eq]
  generalize (lg_sl ([.ref a_tx, .int p0]) ++ List.replicate (2 - (lg_sl ([.ref a_tx, .int p0])).length) Slot.unset).toArray = ls at hl ⊢
  replace hl : lv_has ls 2 [(0, .ref a_tx), (1, .int p0)] := hl
  refine lv_iload_n hx hb d_T_signAt_0 rfl (lv_at hl 1 rfl) ?_
  refine lv_if_lt (tgt := 30) hx hb d_T_signAt_1 (by decide) (fun c_1 => ?_) (fun c_1 => ?_)
  · refine lv_iconst (v := (-1)) hx hb d_T_signAt_30 (by decide) ?_
    exact W.iret (v := (-1)) hx hb hr (fun t ht hW => ⟨(-1), rfl, rfl, ht⟩) (fun _ h => by cases h) d_T_signAt_31
  · refine lv_iload_n hx hb d_T_signAt_4 rfl (lv_at hl 1 rfl) ?_
    refine lv_aload_n hx hb d_T_signAt_5 rfl (lv_at hl 0 rfl) ?_
    refine va_get (D := (dC, dI)) (ci := 4) (v := .int 0) (C := "LoanRules$RuleText") (T := Fz_T) (N := 4) hx hb hts it_T hown hK hP 0 rfl rfl 1 (by decide) (hts _ tw_73) (fun _ h9 => h9) rfl d_T_signAt_6 ?_
    refine lv_icmp_ge (tgt := 30) hx hb d_T_signAt_9 (by decide) (fun c_2 => ?_) (fun c_2 => ?_)
    · refine lv_iconst (v := (-1)) hx hb d_T_signAt_30 (by decide) ?_
      exact W.iret (v := (-1)) hx hb hr (fun t ht hW => ⟨(-1), rfl, rfl, ht⟩) (fun _ h => by cases h) d_T_signAt_31
    · exact absurd (lk_no c_1) c_2
set_option maxHeartbeats 4000000 in
set_option maxRecDepth 100000 in
theorem c_signAt_w (l : Launch) (dC : Nat → ClassId) (dI : Nat → Nat → Nat) (adK adV : Nat → Nat) (a_tx : Nat) (p0 : Int32) (a_sg : Nat) : Met l y_T_signAt ws_T_signAt ({ frames := 0, cells := 0, slots := 0, locals := 0 }) (va_Pc [.ref a_tx, .int p0] (fun U => zz adK adV (fun _ => False) U ∧ va_P (dC, dI) vwCl [(a_tx, .inr (4, [.ref a_sg, .int 0, .int 0, .int 0]))] U.heap ∧ va_K (dC, dI) vwCl [] U)) (vp_Si (fun r => r = (-1))) 0 0 (fun _ => False) := by
  refine Met.ofW (cc := c_T_signAt) (maxL := 2) (ret := (some .int)) (by decide) rfl ?_
  intro p e s m args below meth c s₁ B hml hv
  obtain ⟨rfl, hZ, hP, hK⟩ := hv
  have hx := B.exec
  have hb := B.bytes
  have hr := B.returns
  have hts0 := atoms_spec (ws := ws_T_signAt) B.pre
  have hts : ∀ w ∈ TT, w.before _ s = true := fun w h => hts0 w (List.mem_cons_of_mem _ h)
  have hown : s.vm.findClass "LoanRules$RuleText" = some m.cls := findClass_of_methodNamed B.named
  have hlocks := B.notSynchronized
  have hS : va_S (fun _ => False) s.heap s.heap [] := va_S.rf
  replace hP : va_P (dC, dI) vwCl [(a_tx, .inr (4, [.ref a_sg, .int 0, .int 0, .int 0]))] s.heap := hP
  have hl := lv_entry ([.ref a_tx, .int p0]) (n := 2) (Nat.le_of_ble_eq_true rfl)
  rw [lg_entry_eq]
  generalize (lg_sl ([.ref a_tx, .int p0]) ++ List.replicate (2 - (lg_sl ([.ref a_tx, .int p0])).length) Slot.unset).toArray = ls at hl ⊢
  replace hl : lv_has ls 2 [(0, .ref a_tx), (1, .int p0)] := hl
  refine lv_iload_n hx hb d_T_signAt_0 rfl (lv_at hl 1 rfl) ?_
  refine lv_if_lt (tgt := 30) hx hb d_T_signAt_1 (by decide) (fun c_1 => ?_) (fun c_1 => ?_)
  · refine lv_iconst (v := (-1)) hx hb d_T_signAt_30 (by decide) ?_
    exact W.iret (v := (-1)) hx hb hr (fun t ht hW => ⟨(-1), rfl, rfl, ht⟩) (fun _ h => by cases h) d_T_signAt_31
  · refine lv_iload_n hx hb d_T_signAt_4 rfl (lv_at hl 1 rfl) ?_
    refine lv_aload_n hx hb d_T_signAt_5 rfl (lv_at hl 0 rfl) ?_
    refine va_get (D := (dC, dI)) (ci := 4) (v := .int 0) (C := "LoanRules$RuleText") (T := Fz_T) (N := 4) hx hb hts it_T hown hK hP 0 rfl rfl 1 (by decide) (hts _ tw_73) (fun _ h9 => h9) rfl d_T_signAt_6 ?_
    refine lv_icmp_ge (tgt := 30) hx hb d_T_signAt_9 (by decide) (fun c_2 => ?_) (fun c_2 => ?_)
    · refine lv_iconst (v := (-1)) hx hb d_T_signAt_30 (by decide) ?_
      exact W.iret (v := (-1)) hx hb hr (fun t ht hW => ⟨(-1), rfl, rfl, ht⟩) (fun _ h => by cases h) d_T_signAt_31
    · exact absurd (lk_no c_1) c_2
set_option maxHeartbeats 4000000 in
set_option maxRecDepth 100000 in
theorem c_takesWord (l : Launch) (dC : Nat → ClassId) (dI : Nat → Nat → Nat) (adK adV : Nat → Nat) (a_tx : Nat) (iw : Nat) (a_sg : Nat) (hiw : iw < nst) : Met l y_T_takesWord ws_T_takesWord ({ frames := 4, cells := 0, slots := 0, locals := 85 }) (va_Pc [.ref a_tx, .ref (adK iw)] (fun U => zz adK adV (fun _ => False) U ∧ va_P (dC, dI) vwCl [(a_tx, .inr (4, [.ref a_sg, .int 0, .int 0, .int (-1)]))] U.heap ∧ va_K (dC, dI) vwCl [] U)) (vp_Si (fun r => r = 0)) 0 0 (fun _ => False) := by
  refine Met.ofW (cc := c_T_takesWord) (maxL := 3) (ret := (some .boolean)) (by decide) rfl ?_
  intro p e s m args below meth c s₁ B hml hv
  obtain ⟨rfl, hZ, hP, hK⟩ := hv
  have hx := B.exec
  have hb := B.bytes
  have hr := B.returns
  have hts0 := atoms_spec (ws := ws_T_takesWord) B.pre
  have hts : ∀ w ∈ TT, w.before _ s = true := fun w h => hts0 w (List.mem_cons_of_mem _ h)
  have hown : s.vm.findClass "LoanRules$RuleText" = some m.cls := findClass_of_methodNamed B.named
  have hlocks := B.notSynchronized
  have hS : va_S (fun _ => False) s.heap s.heap [] := va_S.rf
  replace hP : va_P (dC, dI) vwCl [(a_tx, .inr (4, [.ref a_sg, .int 0, .int 0, .int (-1)]))] s.heap := hP
  have hl := lv_entry ([.ref a_tx, .ref (adK iw)]) (n := 3) (Nat.le_of_ble_eq_true rfl)
  rw [lg_entry_eq]
  generalize (lg_sl ([.ref a_tx, .ref (adK iw)]) ++ List.replicate (3 - (lg_sl ([.ref a_tx, .ref (adK iw)])).length) Slot.unset).toArray = ls at hl ⊢
  replace hl : lv_has ls 3 [(0, .ref a_tx), (1, .ref (adK iw))] := hl
  refine lv_iconst (v := 0) hx hb d_T_takesWord_0 (by decide) ?_
  refine lv_istore_n (lv' := [(2, .int 0), (0, .ref a_tx), (1, .ref (adK iw))]) hx hb d_T_takesWord_1 rfl hl (by decide) rfl (fun ls hl => ?_)
  refine lv_iload_n hx hb d_T_takesWord_2 rfl (lv_at hl 0 rfl) ?_
  refine lv_aload_n hx hb d_T_takesWord_3 rfl (lv_at hl 2 rfl) ?_
  have hPc := hP.sub (ws' := []) [] rfl
  have hKc := hK.sub (tys' := []) [] rfl
  refine vp_callSi (va_Run.run (va_runV (As := []) (rest := [.int 0]) ⟨hx, hb, hml, hown, hts⟩ (c_strlen l dC dI adK adV (iw := iw) hiw) (cwV 0 hts (gV tw_239 tw_240 tw_241 tw_48 tw_242) rfl rfl rfl (by decide +kernel) ⟨(Nat.le_of_ble_eq_true rfl), (Nat.le_of_ble_eq_true rfl)⟩) ⟨fun a U g mk q => by obtain ⟨q0, qZ, qP, qK⟩ := q; exact ⟨q0, zz_call qZ, qP, va_K.moved (u := U) (U := U.calling g mk a) (Vm.Alike.refl U.vm) qK⟩, vk_recv (zz_S hZ) hiw hS, fun U hU hW => ⟨rfl, zz_rr hU hW hZ, by rw [hU]; exact hPc, va_K.moved hW.alike hKc⟩⟩ rfl rfl hl.1 rfl (lv_room (Nat.le_of_ble_eq_true rfl)) d_T_takesWord_4 ⟨(Nat.le_of_ble_eq_true rfl), (Nat.le_of_ble_eq_true rfl)⟩)) (fun r_1 hw_2 => ?_)
  subst hw_2
  refine lv_icmp_ge (tgt := 36) hx hb d_T_takesWord_7 (by decide) (fun c_3 => ?_) (fun c_3 => ?_)
  · exact absurd c_3 (zk_len hiw)
  · refine lv_aload_n hx hb d_T_takesWord_10 rfl (lv_at hl 1 rfl) ?_
    refine lv_aload_n hx hb d_T_takesWord_11 rfl (lv_at hl 1 rfl) ?_
    refine va_get (D := (dC, dI)) (ci := 4) (v := .int 0) (C := "LoanRules$RuleText") (T := Fz_T) (N := 4) hx hb hts it_T hown hK hP 0 rfl rfl 2 (by decide) (hts _ tw_74) (fun _ h9 => h9) rfl d_T_takesWord_12 ?_
    refine lv_iload_n hx hb d_T_takesWord_15 rfl (lv_at hl 0 rfl) ?_
    refine lv_iadd hx hb d_T_takesWord_16 ?_
    refine lv_topi (fun x_4 ex_4 => ?_)
    obtain rfl : x_4 = 0 := ex_4.trans (by decide)
    have hPc := hP.sub (ws' := [(a_tx, .inr (4, [.ref a_sg, .int 0, .int 0, .int (-1)]))]) [0] rfl
    have hKc := hK.sub (tys' := []) [] rfl
    refine vp_callSi (va_Run.run (va_runV (As := [.int 0]) (rest := []) ⟨hx, hb, hml, hown, hts⟩ (c_signAt l dC dI adK adV (a_tx := a_tx) (p0 := 0) (a_sg := a_sg)) (cwV 1 hts (gV tw_249 tw_251 tw_2 tw_43 tw_252) rfl rfl rfl (by decide +kernel) ⟨(Nat.le_of_ble_eq_true rfl), (Nat.le_of_ble_eq_true rfl)⟩) ⟨fun a U g mk q => by obtain ⟨q0, qZ, qP, qK⟩ := q; exact ⟨q0, zz_call qZ, qP, va_K.moved (u := U) (U := U.calling g mk a) (Vm.Alike.refl U.vm) qK⟩, va_recv hKc hPc (ci := 4) (q0 := 0) rfl rfl, fun U hU hW => ⟨rfl, zz_rr hU hW hZ, by rw [hU]; exact hPc, va_K.moved hW.alike hKc⟩⟩ rfl rfl hl.1 rfl (lv_room (Nat.le_of_ble_eq_true rfl)) d_T_takesWord_17 ⟨(Nat.le_of_ble_eq_true rfl), (Nat.le_of_ble_eq_true rfl)⟩)) (fun r_5 hw_6 => ?_)
    obtain rfl : r_5 = (-1) := hw_6
    refine lv_aload_n hx hb d_T_takesWord_20 rfl (lv_at hl 2 rfl) ?_
    refine lv_iload_n hx hb d_T_takesWord_21 rfl (lv_at hl 0 rfl) ?_
    have hPc := hP.sub (ws' := []) [] rfl
    have hKc := hK.sub (tys' := []) [] rfl
    refine vp_callSi (va_Run.run (va_runV (As := [.int 0]) (rest := [.int (-1)]) ⟨hx, hb, hml, hown, hts⟩ (c_charAt l dC dI adK adV (iw := iw) hiw) (cwV 1 hts (gV tw_253 tw_254 tw_255 tw_48 tw_256) rfl rfl rfl (by decide +kernel) ⟨(Nat.le_of_ble_eq_true rfl), (Nat.le_of_ble_eq_true rfl)⟩) ⟨fun a U g mk q => by obtain ⟨q0, qZ, qP, qK⟩ := q; exact ⟨q0, zz_call qZ, qP, va_K.moved (u := U) (U := U.calling g mk a) (Vm.Alike.refl U.vm) qK⟩, vk_recv (zz_S hZ) hiw hS, fun U hU hW => ⟨rfl, zz_rr hU hW hZ, by rw [hU]; exact hPc, va_K.moved hW.alike hKc⟩⟩ rfl rfl hl.1 rfl (lv_room (Nat.le_of_ble_eq_true rfl)) d_T_takesWord_22 ⟨(Nat.le_of_ble_eq_true rfl), (Nat.le_of_ble_eq_true rfl)⟩)) (fun r_7 hw_8 => ?_)
    subst hw_8
    refine lv_icmp_eq (tgt := 30) hx hb d_T_takesWord_25 (by decide) (fun c_9 => ?_) (fun c_9 => ?_)
    · exact absurd c_9 zk_chr
    · refine lv_iconst (v := 0) hx hb d_T_takesWord_28 (by decide) ?_
      exact W.zret (v := 0) hx hb hr rfl (fun t ht hW => ⟨0, rfl, rfl, ht⟩) (fun _ h => by cases h) d_T_takesWord_29
set_option maxHeartbeats 4000000 in
set_option maxRecDepth 100000 in
theorem c_takesWord_w (l : Launch) (dC : Nat → ClassId) (dI : Nat → Nat → Nat) (adK adV : Nat → Nat) (a_tx : Nat) (iw : Nat) (a_sg : Nat) (hiw : iw < nst) : Met l y_T_takesWord ws_T_takesWord ({ frames := 4, cells := 0, slots := 0, locals := 85 }) (va_Pc [.ref a_tx, .ref (adK iw)] (fun U => zz adK adV (fun _ => False) U ∧ va_P (dC, dI) vwCl [(a_tx, .inr (4, [.ref a_sg, .int 0, .int 0, .int 0]))] U.heap ∧ va_K (dC, dI) vwCl [] U)) (vp_Si (fun r => r = 0)) 0 0 (fun _ => False) := by
  refine Met.ofW (cc := c_T_takesWord) (maxL := 3) (ret := (some .boolean)) (by decide) rfl ?_
  intro p e s m args below meth c s₁ B hml hv
  obtain ⟨rfl, hZ, hP, hK⟩ := hv
  have hx := B.exec
  have hb := B.bytes
  have hr := B.returns
  have hts0 := atoms_spec (ws := ws_T_takesWord) B.pre
  have hts : ∀ w ∈ TT, w.before _ s = true := fun w h => hts0 w (List.mem_cons_of_mem _ h)
  have hown : s.vm.findClass "LoanRules$RuleText" = some m.cls := findClass_of_methodNamed B.named
  have hlocks := B.notSynchronized
  have hS : va_S (fun _ => False) s.heap s.heap [] := va_S.rf
  replace hP : va_P (dC, dI) vwCl [(a_tx, .inr (4, [.ref a_sg, .int 0, .int 0, .int 0]))] s.heap := hP
  have hl := lv_entry ([.ref a_tx, .ref (adK iw)]) (n := 3) (Nat.le_of_ble_eq_true rfl)
  rw [lg_entry_eq]
  generalize (lg_sl ([.ref a_tx, .ref (adK iw)]) ++ List.replicate (3 - (lg_sl ([.ref a_tx, .ref (adK iw)])).length) Slot.unset).toArray = ls at hl ⊢
  replace hl : lv_has ls 3 [(0, .ref a_tx), (1, .ref (adK iw))] := hl
  refine lv_iconst (v := 0) hx hb d_T_takesWord_0 (by decide) ?_
  refine lv_istore_n (lv' := [(2, .int 0), (0, .ref a_tx), (1, .ref (adK iw))]) hx hb d_T_takesWord_1 rfl hl (by decide) rfl (fun ls hl => ?_)
  refine lv_iload_n hx hb d_T_takesWord_2 rfl (lv_at hl 0 rfl) ?_
  refine lv_aload_n hx hb d_T_takesWord_3 rfl (lv_at hl 2 rfl) ?_
  have hPc := hP.sub (ws' := []) [] rfl
  have hKc := hK.sub (tys' := []) [] rfl
  refine vp_callSi (va_Run.run (va_runV (As := []) (rest := [.int 0]) ⟨hx, hb, hml, hown, hts⟩ (c_strlen l dC dI adK adV (iw := iw) hiw) (cwV 0 hts (gV tw_239 tw_240 tw_241 tw_48 tw_242) rfl rfl rfl (by decide +kernel) ⟨(Nat.le_of_ble_eq_true rfl), (Nat.le_of_ble_eq_true rfl)⟩) ⟨fun a U g mk q => by obtain ⟨q0, qZ, qP, qK⟩ := q; exact ⟨q0, zz_call qZ, qP, va_K.moved (u := U) (U := U.calling g mk a) (Vm.Alike.refl U.vm) qK⟩, vk_recv (zz_S hZ) hiw hS, fun U hU hW => ⟨rfl, zz_rr hU hW hZ, by rw [hU]; exact hPc, va_K.moved hW.alike hKc⟩⟩ rfl rfl hl.1 rfl (lv_room (Nat.le_of_ble_eq_true rfl)) d_T_takesWord_4 ⟨(Nat.le_of_ble_eq_true rfl), (Nat.le_of_ble_eq_true rfl)⟩)) (fun r_1 hw_2 => ?_)
  subst hw_2
  refine lv_icmp_ge (tgt := 36) hx hb d_T_takesWord_7 (by decide) (fun c_3 => ?_) (fun c_3 => ?_)
  · exact absurd c_3 (zk_len hiw)
  · refine lv_aload_n hx hb d_T_takesWord_10 rfl (lv_at hl 1 rfl) ?_
    refine lv_aload_n hx hb d_T_takesWord_11 rfl (lv_at hl 1 rfl) ?_
    refine va_get (D := (dC, dI)) (ci := 4) (v := .int 0) (C := "LoanRules$RuleText") (T := Fz_T) (N := 4) hx hb hts it_T hown hK hP 0 rfl rfl 2 (by decide) (hts _ tw_74) (fun _ h9 => h9) rfl d_T_takesWord_12 ?_
    refine lv_iload_n hx hb d_T_takesWord_15 rfl (lv_at hl 0 rfl) ?_
    refine lv_iadd hx hb d_T_takesWord_16 ?_
    refine lv_topi (fun x_4 ex_4 => ?_)
    obtain rfl : x_4 = 0 := ex_4.trans (by decide)
    have hPc := hP.sub (ws' := [(a_tx, .inr (4, [.ref a_sg, .int 0, .int 0, .int 0]))]) [0] rfl
    have hKc := hK.sub (tys' := []) [] rfl
    refine vp_callSi (va_Run.run (va_runV (As := [.int 0]) (rest := []) ⟨hx, hb, hml, hown, hts⟩ (c_signAt_w l dC dI adK adV (a_tx := a_tx) (p0 := 0) (a_sg := a_sg)) (cwV 1 hts (gV tw_249 tw_251 tw_2 tw_43 tw_252) rfl rfl rfl (by decide +kernel) ⟨(Nat.le_of_ble_eq_true rfl), (Nat.le_of_ble_eq_true rfl)⟩) ⟨fun a U g mk q => by obtain ⟨q0, qZ, qP, qK⟩ := q; exact ⟨q0, zz_call qZ, qP, va_K.moved (u := U) (U := U.calling g mk a) (Vm.Alike.refl U.vm) qK⟩, va_recv hKc hPc (ci := 4) (q0 := 0) rfl rfl, fun U hU hW => ⟨rfl, zz_rr hU hW hZ, by rw [hU]; exact hPc, va_K.moved hW.alike hKc⟩⟩ rfl rfl hl.1 rfl (lv_room (Nat.le_of_ble_eq_true rfl)) d_T_takesWord_17 ⟨(Nat.le_of_ble_eq_true rfl), (Nat.le_of_ble_eq_true rfl)⟩)) (fun r_5 hw_6 => ?_)
    obtain rfl : r_5 = (-1) := hw_6
    refine lv_aload_n hx hb d_T_takesWord_20 rfl (lv_at hl 2 rfl) ?_
    refine lv_iload_n hx hb d_T_takesWord_21 rfl (lv_at hl 0 rfl) ?_
    have hPc := hP.sub (ws' := []) [] rfl
    have hKc := hK.sub (tys' := []) [] rfl
    refine vp_callSi (va_Run.run (va_runV (As := [.int 0]) (rest := [.int (-1)]) ⟨hx, hb, hml, hown, hts⟩ (c_charAt l dC dI adK adV (iw := iw) hiw) (cwV 1 hts (gV tw_253 tw_254 tw_255 tw_48 tw_256) rfl rfl rfl (by decide +kernel) ⟨(Nat.le_of_ble_eq_true rfl), (Nat.le_of_ble_eq_true rfl)⟩) ⟨fun a U g mk q => by obtain ⟨q0, qZ, qP, qK⟩ := q; exact ⟨q0, zz_call qZ, qP, va_K.moved (u := U) (U := U.calling g mk a) (Vm.Alike.refl U.vm) qK⟩, vk_recv (zz_S hZ) hiw hS, fun U hU hW => ⟨rfl, zz_rr hU hW hZ, by rw [hU]; exact hPc, va_K.moved hW.alike hKc⟩⟩ rfl rfl hl.1 rfl (lv_room (Nat.le_of_ble_eq_true rfl)) d_T_takesWord_22 ⟨(Nat.le_of_ble_eq_true rfl), (Nat.le_of_ble_eq_true rfl)⟩)) (fun r_7 hw_8 => ?_)
    subst hw_8
    refine lv_icmp_eq (tgt := 30) hx hb d_T_takesWord_25 (by decide) (fun c_9 => ?_) (fun c_9 => ?_)
    · exact absurd c_9 zk_chr
    · refine lv_iconst (v := 0) hx hb d_T_takesWord_28 (by decide) ?_
      exact W.zret (v := 0) hx hb hr rfl (fun t ht hW => ⟨0, rfl, rfl, ht⟩) (fun _ h => by cases h) d_T_takesWord_29
set_option maxHeartbeats 4000000 in
set_option maxRecDepth 100000 in
theorem c_takesWordBehindSpace (l : Launch) (dC : Nat → ClassId) (dI : Nat → Nat → Nat) (adK adV : Nat → Nat) (a_tx : Nat) (iw : Nat) (a_sg : Nat) (hiw : iw < nst) : Met l y_T_takesWordBehindSpace ws_T_takesWordBehindSpace ({ frames := 1, cells := 0, slots := 0, locals := 21 }) (va_Pc [.ref a_tx, .ref (adK iw)] (fun U => zz adK adV (fun _ => False) U ∧ va_P (dC, dI) vwCl [(a_tx, .inr (4, [.ref a_sg, .int 0, .int 0, .int 0]))] U.heap ∧ va_K (dC, dI) vwCl [] U)) (vp_Si (fun r => r = 0)) 0 0 (fun _ => False) := by
  refine Met.ofW (cc := c_T_takesWordBehindSpace) (maxL := 2) (ret := (some .boolean)) (by decide) rfl ?_
  intro p e s m args below meth c s₁ B hml hv
  obtain ⟨rfl, hZ, hP, hK⟩ := hv
  have hx := B.exec
  have hb := B.bytes
  have hr := B.returns
  have hts0 := atoms_spec (ws := ws_T_takesWordBehindSpace) B.pre
  have hts : ∀ w ∈ TT, w.before _ s = true := fun w h => hts0 w (List.mem_cons_of_mem _ h)
  have hown : s.vm.findClass "LoanRules$RuleText" = some m.cls := findClass_of_methodNamed B.named
  have hlocks := B.notSynchronized
  have hS : va_S (fun _ => False) s.heap s.heap [] := va_S.rf
  replace hP : va_P (dC, dI) vwCl [(a_tx, .inr (4, [.ref a_sg, .int 0, .int 0, .int 0]))] s.heap := hP
  have hl := lv_entry ([.ref a_tx, .ref (adK iw)]) (n := 2) (Nat.le_of_ble_eq_true rfl)
  rw [lg_entry_eq]
  generalize (lg_sl ([.ref a_tx, .ref (adK iw)]) ++ List.replicate (2 - (lg_sl ([.ref a_tx, .ref (adK iw)])).length) Slot.unset).toArray = ls at hl ⊢
  replace hl : lv_has ls 2 [(0, .ref a_tx), (1, .ref (adK iw))] := hl
  refine lv_aload_n hx hb d_T_takesWordBehindSpace_0 rfl (lv_at hl 0 rfl) ?_
  refine lv_aload_n hx hb d_T_takesWordBehindSpace_1 rfl (lv_at hl 0 rfl) ?_
  refine va_get (D := (dC, dI)) (ci := 4) (v := .int 0) (C := "LoanRules$RuleText") (T := Fz_T) (N := 4) hx hb hts it_T hown hK hP 0 rfl rfl 2 (by decide) (hts _ tw_74) (fun _ h9 => h9) rfl d_T_takesWordBehindSpace_2 ?_
  have hPc := hP.sub (ws' := [(a_tx, .inr (4, [.ref a_sg, .int 0, .int 0, .int 0]))]) [0] rfl
  have hKc := hK.sub (tys' := []) [] rfl
  refine vp_callSi (va_Run.run (va_runV (As := [.int 0]) (rest := []) ⟨hx, hb, hml, hown, hts⟩ (c_signAt_w l dC dI adK adV (a_tx := a_tx) (p0 := 0) (a_sg := a_sg)) (cwV 1 hts (gV tw_249 tw_251 tw_2 tw_43 tw_252) rfl rfl rfl (by decide +kernel) ⟨(Nat.le_of_ble_eq_true rfl), (Nat.le_of_ble_eq_true rfl)⟩) ⟨fun a U g mk q => by obtain ⟨q0, qZ, qP, qK⟩ := q; exact ⟨q0, zz_call qZ, qP, va_K.moved (u := U) (U := U.calling g mk a) (Vm.Alike.refl U.vm) qK⟩, va_recv hKc hPc (ci := 4) (q0 := 0) rfl rfl, fun U hU hW => ⟨rfl, zz_rr hU hW hZ, by rw [hU]; exact hPc, va_K.moved hW.alike hKc⟩⟩ rfl rfl hl.1 rfl (lv_room (Nat.le_of_ble_eq_true rfl)) d_T_takesWordBehindSpace_5 ⟨(Nat.le_of_ble_eq_true rfl), (Nat.le_of_ble_eq_true rfl)⟩)) (fun r_1 hw_2 => ?_)
  obtain rfl : r_1 = (-1) := hw_2
  refine lv_bipush (v := 32) hx hb d_T_takesWordBehindSpace_8 (by decide) ?_
  refine lv_icmp_eq (tgt := 15) hx hb d_T_takesWordBehindSpace_10 (by decide) (fun c_3 => ?_) (fun c_3 => ?_)
  · exact absurd c_3 (by decide)
  · refine lv_iconst (v := 0) hx hb d_T_takesWordBehindSpace_13 (by decide) ?_
    exact W.zret (v := 0) hx hb hr rfl (fun t ht hW => ⟨0, rfl, rfl, ht⟩) (fun _ h => by cases h) d_T_takesWordBehindSpace_14
set_option maxHeartbeats 4000000 in
set_option maxRecDepth 100000 in
theorem c_readOption (l : Launch) (dC : Nat → ClassId) (dI : Nat → Nat → Nat) (adK adV : Nat → Nat) (a_tx : Nat) (iw : Nat) (p0 : Int32) (a_sg : Nat) (hiw : iw < nst) : Met l y_T_readOption ws_T_readOption ({ frames := 2, cells := 0, slots := 0, locals := 42 }) (va_Pc [.ref a_tx, .ref (adK iw), .int p0] (fun U => zz adK adV (fun _ => False) U ∧ va_P (dC, dI) vwCl [(a_tx, .inr (4, [.ref a_sg, .int 0, .int 0, .int 0]))] U.heap ∧ va_K (dC, dI) vwCl [] U)) (vp_Si (fun r => r = p0)) 0 0 (fun _ => False) := by
  refine Met.ofW (cc := c_T_readOption) (maxL := 3) (ret := (some .int)) (by decide) rfl ?_
  intro p e s m args below meth c s₁ B hml hv
  obtain ⟨rfl, hZ, hP, hK⟩ := hv
  have hx := B.exec
  have hb := B.bytes
  have hr := B.returns
  have hts0 := atoms_spec (ws := ws_T_readOption) B.pre
  have hts : ∀ w ∈ TT, w.before _ s = true := fun w h => hts0 w (List.mem_cons_of_mem _ h)
  have hown : s.vm.findClass "LoanRules$RuleText" = some m.cls := findClass_of_methodNamed B.named
  have hlocks := B.notSynchronized
  have hS : va_S (fun _ => False) s.heap s.heap [] := va_S.rf
  replace hP : va_P (dC, dI) vwCl [(a_tx, .inr (4, [.ref a_sg, .int 0, .int 0, .int 0]))] s.heap := hP
  have hl := lv_entry ([.ref a_tx, .ref (adK iw), .int p0]) (n := 3) (Nat.le_of_ble_eq_true rfl)
  rw [lg_entry_eq]
  generalize (lg_sl ([.ref a_tx, .ref (adK iw), .int p0]) ++ List.replicate (3 - (lg_sl ([.ref a_tx, .ref (adK iw), .int p0])).length) Slot.unset).toArray = ls at hl ⊢
  replace hl : lv_has ls 3 [(0, .ref a_tx), (1, .ref (adK iw)), (2, .int p0)] := hl
  refine lv_aload_n hx hb d_T_readOption_0 rfl (lv_at hl 0 rfl) ?_
  refine lv_aload_n hx hb d_T_readOption_1 rfl (lv_at hl 1 rfl) ?_
  have hPc := hP.sub (ws' := [(a_tx, .inr (4, [.ref a_sg, .int 0, .int 0, .int 0]))]) [0] rfl
  have hKc := hK.sub (tys' := []) [] rfl
  refine vp_callSi (va_Run.run (va_runV (As := [.ref (adK iw)]) (rest := []) ⟨hx, hb, hml, hown, hts⟩ (c_takesWordBehindSpace l dC dI adK adV (a_tx := a_tx) (iw := iw) (a_sg := a_sg) hiw) (cwV 1 hts (gV tw_321 tw_323 tw_8 tw_43 tw_324) rfl rfl rfl (by decide +kernel) ⟨(Nat.le_of_ble_eq_true rfl), (Nat.le_of_ble_eq_true rfl)⟩) ⟨fun a U g mk q => by obtain ⟨q0, qZ, qP, qK⟩ := q; exact ⟨q0, zz_call qZ, qP, va_K.moved (u := U) (U := U.calling g mk a) (Vm.Alike.refl U.vm) qK⟩, va_recv hKc hPc (ci := 4) (q0 := 0) rfl rfl, fun U hU hW => ⟨rfl, zz_rr hU hW hZ, by rw [hU]; exact hPc, va_K.moved hW.alike hKc⟩⟩ rfl rfl hl.1 rfl (lv_room (Nat.le_of_ble_eq_true rfl)) d_T_readOption_2 ⟨(Nat.le_of_ble_eq_true rfl), (Nat.le_of_ble_eq_true rfl)⟩)) (fun r_1 hw_2 => ?_)
  obtain rfl : r_1 = 0 := hw_2
  refine lv_if_eq (tgt := 19) hx hb d_T_readOption_5 (by decide) (fun c_3 => ?_) (fun c_3 => ?_)
  · refine lv_iload_n hx hb d_T_readOption_19 rfl (lv_at hl 2 rfl) ?_
    exact W.iret (v := p0) hx hb hr (fun t ht hW => ⟨p0, rfl, rfl, ht⟩) (fun _ h => by cases h) d_T_readOption_20
  · exact absurd (by decide) c_3
set_option maxHeartbeats 4000000 in
set_option maxRecDepth 100000 in
theorem c_readCondition (l : Launch) (dC : Nat → ClassId) (dI : Nat → Nat → Nat) (adK adV : Nat → Nat) (a_tx : Nat) (iw : Nat) (p0 : Int32) (p1 : Int32) (a_sg : Nat) (hiw : iw < nst) : Met l y_T_readCondition ws_T_readCondition ({ frames := 5, cells := 0, slots := 0, locals := 107 }) (va_Pc [.ref a_tx, .ref (adK iw), .int p0, .int p1] (fun U => zz adK adV (fun _ => False) U ∧ va_P (dC, dI) vwCl [(a_tx, .inr (4, [.ref a_sg, .int 0, .int 0, .int (-1)]))] U.heap ∧ va_K (dC, dI) vwCl [] U)) (vp_Si (fun r => r = (-1))) 0 0 (fun _ => False) := by
  refine Met.ofW (cc := c_T_readCondition) (maxL := 5) (ret := (some .int)) (by decide) rfl ?_
  intro p e s m args below meth c s₁ B hml hv
  obtain ⟨rfl, hZ, hP, hK⟩ := hv
  have hx := B.exec
  have hb := B.bytes
  have hr := B.returns
  have hts0 := atoms_spec (ws := ws_T_readCondition) B.pre
  have hts : ∀ w ∈ TT, w.before _ s = true := fun w h => hts0 w (List.mem_cons_of_mem _ h)
  have hown : s.vm.findClass "LoanRules$RuleText" = some m.cls := findClass_of_methodNamed B.named
  have hlocks := B.notSynchronized
  have hS : va_S (fun _ => False) s.heap s.heap [] := va_S.rf
  replace hP : va_P (dC, dI) vwCl [(a_tx, .inr (4, [.ref a_sg, .int 0, .int 0, .int (-1)]))] s.heap := hP
  have hl := lv_entry ([.ref a_tx, .ref (adK iw), .int p0, .int p1]) (n := 5) (Nat.le_of_ble_eq_true rfl)
  rw [lg_entry_eq]
  generalize (lg_sl ([.ref a_tx, .ref (adK iw), .int p0, .int p1]) ++ List.replicate (5 - (lg_sl ([.ref a_tx, .ref (adK iw), .int p0, .int p1])).length) Slot.unset).toArray = ls at hl ⊢
  replace hl : lv_has ls 5 [(0, .ref a_tx), (1, .ref (adK iw)), (2, .int p0), (3, .int p1)] := hl
  refine lv_aload_n hx hb d_T_readCondition_0 rfl (lv_at hl 0 rfl) ?_
  refine lv_aload_n hx hb d_T_readCondition_1 rfl (lv_at hl 1 rfl) ?_
  have hPc := hP.sub (ws' := [(a_tx, .inr (4, [.ref a_sg, .int 0, .int 0, .int (-1)]))]) [0] rfl
  have hKc := hK.sub (tys' := []) [] rfl
  refine vp_callSi (va_Run.run (va_runV (As := [.ref (adK iw)]) (rest := []) ⟨hx, hb, hml, hown, hts⟩ (c_takesWord l dC dI adK adV (a_tx := a_tx) (iw := iw) (a_sg := a_sg) hiw) (cwV 1 hts (gV tw_235 tw_237 tw_1 tw_43 tw_238) rfl rfl rfl (by decide +kernel) ⟨(Nat.le_of_ble_eq_true rfl), (Nat.le_of_ble_eq_true rfl)⟩) ⟨fun a U g mk q => by obtain ⟨q0, qZ, qP, qK⟩ := q; exact ⟨q0, zz_call qZ, qP, va_K.moved (u := U) (U := U.calling g mk a) (Vm.Alike.refl U.vm) qK⟩, va_recv hKc hPc (ci := 4) (q0 := 0) rfl rfl, fun U hU hW => ⟨rfl, zz_rr hU hW hZ, by rw [hU]; exact hPc, va_K.moved hW.alike hKc⟩⟩ rfl rfl hl.1 rfl (lv_room (Nat.le_of_ble_eq_true rfl)) d_T_readCondition_2 ⟨(Nat.le_of_ble_eq_true rfl), (Nat.le_of_ble_eq_true rfl)⟩)) (fun r_1 hw_2 => ?_)
  obtain rfl : r_1 = 0 := hw_2
  refine lv_if_ne (tgt := 10) hx hb d_T_readCondition_5 (by decide) (fun c_3 => ?_) (fun c_3 => ?_)
  · exact absurd (by decide) c_3
  · refine lv_iconst (v := (-1)) hx hb d_T_readCondition_8 (by decide) ?_
    exact W.iret (v := (-1)) hx hb hr (fun t ht hW => ⟨(-1), rfl, rfl, ht⟩) (fun _ h => by cases h) d_T_readCondition_9
set_option maxHeartbeats 4000000 in
set_option maxRecDepth 100000 in
theorem c_markWrong (l : Launch) (dC : Nat → ClassId) (dI : Nat → Nat → Nat) (adK adV : Nat → Nat) (a_tx : Nat) (p0 : Int32) (a_sg : Nat) (sz : Nat) : Met l y_T_markWrong ws_T_markWrong ({ frames := 0, cells := 0, slots := 0, locals := 0 }) (va_Pc [.ref a_tx, .int p0] (fun U => U.heap.size = sz ∧ zz adK adV (va_A [(a_tx, .inr (4, [.ref a_sg, .int 0, .int 0, .int (-1)]))] sz) U ∧ va_P (dC, dI) vwCl [(a_tx, .inr (4, [.ref a_sg, .int 0, .int 0, .int (-1)]))] U.heap ∧ va_K (dC, dI) vwCl [] U ∧ va_D (fun _ => True) [(a_tx, .inr (4, [.ref a_sg, .int 0, .int 0, .int (-1)]))])) (va_Qv (fun _ : Unit => True) (fun (_ : Unit) (t : State) => va_P (dC, dI) vwCl [(a_tx, .inr (4, [.ref a_sg, .int 0, .int 0, .int p0]))] t.heap ∧ va_K (dC, dI) vwCl [] t ∧ va_D (va_A [(a_tx, .inr (4, [.ref a_sg, .int 0, .int 0, .int (-1)]))] sz) [(a_tx, .inr (4, [.ref a_sg, .int 0, .int 0, .int p0]))]) (va_A [(a_tx, .inr (4, [.ref a_sg, .int 0, .int 0, .int (-1)]))] sz)) 0 0 (va_A [(a_tx, .inr (4, [.ref a_sg, .int 0, .int 0, .int (-1)]))] sz) := by
  refine Met.ofW (cc := c_T_markWrong) (maxL := 2) (ret := none) (by decide) rfl ?_
  intro p e s m args below meth c s₁ B hml hv
  obtain ⟨rfl, hsz, hZ, hP, hK, hD0⟩ := hv
  have hx := B.exec
  have hb := B.bytes
  have hr := B.returns
  have hts0 := atoms_spec (ws := ws_T_markWrong) B.pre
  have hts : ∀ w ∈ TT, w.before _ s = true := fun w h => hts0 w (List.mem_cons_of_mem _ h)
  have hown : s.vm.findClass "LoanRules$RuleText" = some m.cls := findClass_of_methodNamed B.named
  have hlocks := B.notSynchronized
  subst hsz
  have hD := hD0.self (sz := s.heap.size)
  generalize hAe : va_A [(a_tx, .inr (4, [.ref a_sg, .int 0, .int 0, .int (-1)]))] s.heap.size = A at hD hZ ⊢
  have hA : ∀ q : Nat, s.heap.size ≤ q → A q := fun q h => by rw [← hAe]; exact Or.inr h
  clear hAe hD0
  have hS : va_S A s.heap s.heap [] := va_S.rf
  replace hP : va_P (dC, dI) vwCl [(a_tx, .inr (4, [.ref a_sg, .int 0, .int 0, .int (-1)]))] s.heap := hP
  have hl := lv_entry ([.ref a_tx, .int p0]) (n := 2) (Nat.le_of_ble_eq_true rfl)
  rw [lg_entry_eq]
  generalize (lg_sl ([.ref a_tx, .int p0]) ++ List.replicate (2 - (lg_sl ([.ref a_tx, .int p0])).length) Slot.unset).toArray = ls at hl ⊢
  replace hl : lv_has ls 2 [(0, .ref a_tx), (1, .int p0)] := hl
  refine lv_aload_n hx hb d_T_markWrong_0 rfl (lv_at hl 0 rfl) ?_
  refine va_get (D := (dC, dI)) (ci := 4) (v := .int (-1)) (C := "LoanRules$RuleText") (T := Fz_T) (N := 4) hx hb hts it_T hown hK hP 0 rfl rfl 3 (by decide) (hts _ tw_75) (fun _ h9 => h9) rfl d_T_markWrong_1 ?_
  refine lv_iconst (v := (-1)) hx hb d_T_markWrong_4 (by decide) ?_
  refine lv_icmp_ne (tgt := 13) hx hb d_T_markWrong_5 (by decide) (fun c_1 => ?_) (fun c_1 => ?_)
  · exact absurd (by decide) c_1
  · refine lv_aload_n hx hb d_T_markWrong_8 rfl (lv_at hl 0 rfl) ?_
    refine lv_iload_n hx hb d_T_markWrong_9 rfl (lv_at hl 1 rfl) ?_
    refine va_put (D := (dC, dI)) (ci := 4) (v := .int p0) (ty := .int) (C := "LoanRules$RuleText") (T := Fz_T) (N := 4) hx hb hts it_T tz_T tz_T_ok nz_T hown hK hP hD hS 0 rfl rfl 3 (by decide) (hts _ tw_75) (fun _ h9 => h9) rfl (by decide +kernel) rfl rfl (Nat.le_of_ble_eq_true rfl) d_T_markWrong_10 (fun H locs hP hD hS => ?_)
    replace hP : va_P (dC, dI) vwCl [(a_tx, .inr (4, [.ref a_sg, .int 0, .int 0, .int p0]))] H := hP
    replace hD : va_D A [(a_tx, .inr (4, [.ref a_sg, .int 0, .int 0, .int p0]))] := hD
    have hP9 := hP.sub (ws' := [(a_tx, .inr (4, [.ref a_sg, .int 0, .int 0, .int p0]))]) [0] rfl
    have hD9 := hD.sub (ws' := [(a_tx, .inr (4, [.ref a_sg, .int 0, .int 0, .int p0]))]) [0] (by decide) rfl
    have hK9 := hK.sub (tys' := []) [] rfl
    exact W.vret hx hb hr (fun t ht hW => ⟨⟨(), rfl, trivial, by rw [ht]; exact hP9, va_K.moved hW.alike hK9, hD9⟩, hS.F ht⟩) hS.2.2 d_T_markWrong_13
set_option maxHeartbeats 4000000 in
set_option maxRecDepth 100000 in
theorem c_lends (l : Launch) (dC : Nat → ClassId) (dI : Nat → Nat → Nat) (adK adV : Nat → Nat) (a_to : Nat) : Met l y_R_lends ws_R_lends ({ frames := 0, cells := 0, slots := 0, locals := 0 }) (va_Pc [.ref a_to] (fun U => zz adK adV (fun _ => False) U ∧ va_P (dC, dI) vwCl [(a_to, .inr (3, [.int (-1), .int (-1), .int (-1), .int 2, .int 0, .int 0, .int 0, .int 7, .int 0, .int 0, .int 0]))] U.heap ∧ va_K (dC, dI) vwCl [] U)) (vp_Si (fun r => r = 0)) 0 0 (fun _ => False) := by
  refine Met.ofW (cc := c_R_lends) (maxL := 1) (ret := (some .boolean)) (by decide) rfl ?_
  intro p e s m args below meth c s₁ B hml hv
  obtain ⟨rfl, hZ, hP, hK⟩ := hv
  have hx := B.exec
  have hb := B.bytes
  have hr := B.returns
  have hts0 := atoms_spec (ws := ws_R_lends) B.pre
  have hts : ∀ w ∈ TT, w.before _ s = true := fun w h => hts0 w (List.mem_cons_of_mem _ h)
  have hown : s.vm.findClass "LoanRules$Rule" = some m.cls := findClass_of_methodNamed B.named
  have hlocks := B.notSynchronized
  have hS : va_S (fun _ => False) s.heap s.heap [] := va_S.rf
  replace hP : va_P (dC, dI) vwCl [(a_to, .inr (3, [.int (-1), .int (-1), .int (-1), .int 2, .int 0, .int 0, .int 0, .int 7, .int 0, .int 0, .int 0]))] s.heap := hP
  have hl := lv_entry ([.ref a_to]) (n := 1) (Nat.le_of_ble_eq_true rfl)
  rw [lg_entry_eq]
  generalize (lg_sl ([.ref a_to]) ++ List.replicate (1 - (lg_sl ([.ref a_to])).length) Slot.unset).toArray = ls at hl ⊢
  replace hl : lv_has ls 1 [(0, .ref a_to)] := hl
  refine lv_aload_n hx hb d_R_lends_0 rfl (lv_at hl 0 rfl) ?_
  refine va_get (D := (dC, dI)) (ci := 3) (v := .int 2) (C := "LoanRules$Rule") (T := Fz_R) (N := 11) hx hb hts it_R hown hK hP 0 rfl rfl 3 (by decide) (hts _ tw_181) (fun _ h9 => h9) rfl d_R_lends_1 ?_
  refine lv_if_eq (tgt := 15) hx hb d_R_lends_4 (by decide) (fun c_1 => ?_) (fun c_1 => ?_)
  · exact absurd c_1 (by decide)
  · refine lv_aload_n hx hb d_R_lends_7 rfl (lv_at hl 0 rfl) ?_
    refine va_get (D := (dC, dI)) (ci := 3) (v := .int 2) (C := "LoanRules$Rule") (T := Fz_R) (N := 11) hx hb hts it_R hown hK hP 0 rfl rfl 3 (by decide) (hts _ tw_181) (fun _ h9 => h9) rfl d_R_lends_8 ?_
    refine lv_iconst (v := 1) hx hb d_R_lends_11 (by decide) ?_
    refine lv_icmp_ne (tgt := 19) hx hb d_R_lends_12 (by decide) (fun c_2 => ?_) (fun c_2 => ?_)
    · refine lv_iconst (v := 0) hx hb d_R_lends_19 (by decide) ?_
      exact W.zret (v := 0) hx hb hr rfl (fun t ht hW => ⟨0, rfl, rfl, ht⟩) (fun _ h => by cases h) d_R_lends_20
    · exact absurd c_2 (by decide)
set_option maxHeartbeats 4000000 in
set_option maxRecDepth 100000 in
theorem c_readDeed (l : Launch) (dC : Nat → ClassId) (dI : Nat → Nat → Nat) (adK adV : Nat → Nat) (a_tx : Nat) (a_to : Nat) (a_sg : Nat) (sz : Nat) : Met l y_T_readDeed ws_T_readDeed ({ frames := 5, cells := 0, slots := 0, locals := 107 }) (va_Pc [.ref a_tx, .ref a_to] (fun U => U.heap.size = sz ∧ zz adK adV (va_A [(a_tx, .inr (4, [.ref a_sg, .int 0, .int 0, .int (-1)])), (a_to, .inr (3, [.int (-1), .int (-1), .int (-1), .int 2, .int 0, .int 0, .int 0, .int 7, .int 0, .int 0, .int 0]))] sz) U ∧ va_P (dC, dI) vwCl [(a_tx, .inr (4, [.ref a_sg, .int 0, .int 0, .int (-1)])), (a_to, .inr (3, [.int (-1), .int (-1), .int (-1), .int 2, .int 0, .int 0, .int 0, .int 7, .int 0, .int 0, .int 0]))] U.heap ∧ va_K (dC, dI) vwCl [] U ∧ va_D (fun _ => True) [(a_tx, .inr (4, [.ref a_sg, .int 0, .int 0, .int (-1)])), (a_to, .inr (3, [.int (-1), .int (-1), .int (-1), .int 2, .int 0, .int 0, .int 0, .int 7, .int 0, .int 0, .int 0]))])) (va_Qv (fun _ : Unit => True) (fun (_ : Unit) (t : State) => va_P (dC, dI) vwCl [(a_tx, .inr (4, [.ref a_sg, .int 0, .int 0, .int 0])), (a_to, .inr (3, [.int (-1), .int (-1), .int (-1), .int 2, .int 0, .int 0, .int 0, .int 7, .int 0, .int 0, .int 0]))] t.heap ∧ va_K (dC, dI) vwCl [] t ∧ va_D (va_A [(a_tx, .inr (4, [.ref a_sg, .int 0, .int 0, .int (-1)])), (a_to, .inr (3, [.int (-1), .int (-1), .int (-1), .int 2, .int 0, .int 0, .int 0, .int 7, .int 0, .int 0, .int 0]))] sz) [(a_tx, .inr (4, [.ref a_sg, .int 0, .int 0, .int 0])), (a_to, .inr (3, [.int (-1), .int (-1), .int (-1), .int 2, .int 0, .int 0, .int 0, .int 7, .int 0, .int 0, .int 0]))]) (va_A [(a_tx, .inr (4, [.ref a_sg, .int 0, .int 0, .int (-1)])), (a_to, .inr (3, [.int (-1), .int (-1), .int (-1), .int 2, .int 0, .int 0, .int 0, .int 7, .int 0, .int 0, .int 0]))] sz)) 0 0 (va_A [(a_tx, .inr (4, [.ref a_sg, .int 0, .int 0, .int (-1)])), (a_to, .inr (3, [.int (-1), .int (-1), .int (-1), .int 2, .int 0, .int 0, .int 0, .int 7, .int 0, .int 0, .int 0]))] sz) := by
  refine Met.ofW (cc := c_T_readDeed) (maxL := 2) (ret := none) (by decide) rfl ?_
  intro p e s m args below meth c s₁ B hml hv
  obtain ⟨rfl, hsz, hZ, hP, hK, hD0⟩ := hv
  have hx := B.exec
  have hb := B.bytes
  have hr := B.returns
  have hts0 := atoms_spec (ws := ws_T_readDeed) B.pre
  have hts : ∀ w ∈ TT, w.before _ s = true := fun w h => hts0 w (List.mem_cons_of_mem _ h)
  have hown : s.vm.findClass "LoanRules$RuleText" = some m.cls := findClass_of_methodNamed B.named
  have hlocks := B.notSynchronized
  subst hsz
  have hD := hD0.self (sz := s.heap.size)
  generalize hAe : va_A [(a_tx, .inr (4, [.ref a_sg, .int 0, .int 0, .int (-1)])), (a_to, .inr (3, [.int (-1), .int (-1), .int (-1), .int 2, .int 0, .int 0, .int 0, .int 7, .int 0, .int 0, .int 0]))] s.heap.size = A at hD hZ ⊢
  have hA : ∀ q : Nat, s.heap.size ≤ q → A q := fun q h => by rw [← hAe]; exact Or.inr h
  clear hAe hD0
  have hS : va_S A s.heap s.heap [] := va_S.rf
  replace hP : va_P (dC, dI) vwCl [(a_tx, .inr (4, [.ref a_sg, .int 0, .int 0, .int (-1)])), (a_to, .inr (3, [.int (-1), .int (-1), .int (-1), .int 2, .int 0, .int 0, .int 0, .int 7, .int 0, .int 0, .int 0]))] s.heap := hP
  have hl := lv_entry ([.ref a_tx, .ref a_to]) (n := 2) (Nat.le_of_ble_eq_true rfl)
  rw [lg_entry_eq]
  generalize (lg_sl ([.ref a_tx, .ref a_to]) ++ List.replicate (2 - (lg_sl ([.ref a_tx, .ref a_to])).length) Slot.unset).toArray = ls at hl ⊢
  replace hl : lv_has ls 2 [(0, .ref a_tx), (1, .ref a_to)] := hl
  refine lv_aload_n hx hb d_T_readDeed_0 rfl (lv_at hl 0 rfl) ?_
  refine va_ldcS hx hb hown (zs_T_61 hZ) d_T_readDeed_1 ?_
  have hPc := hP.sub (ws' := [(a_tx, .inr (4, [.ref a_sg, .int 0, .int 0, .int (-1)]))]) [0] rfl
  have hKc := hK.sub (tys' := []) [] rfl
  refine vp_callSi (va_Run.run (va_runV (As := [.ref (adK 0)]) (rest := []) ⟨hx, hb, hml, hown, hts⟩ (c_takesWord l dC dI adK adV (a_tx := a_tx) (iw := 0) (a_sg := a_sg) (by decide)) (cwV 1 hts (gV tw_235 tw_237 tw_1 tw_43 tw_238) rfl rfl rfl (by decide +kernel) ⟨(Nat.le_of_ble_eq_true rfl), (Nat.le_of_ble_eq_true rfl)⟩) ⟨fun a U g mk q => by obtain ⟨q0, qZ, qP, qK⟩ := q; exact ⟨q0, zz_call qZ, qP, va_K.moved (u := U) (U := U.calling g mk a) (Vm.Alike.refl U.vm) qK⟩, va_recv hKc hPc (ci := 4) (q0 := 0) rfl rfl, fun U hU hW => ⟨rfl, zz_ro hS hU hW hZ, by rw [hU]; exact hPc, va_K.moved hW.alike hKc⟩⟩ rfl rfl hl.1 rfl (lv_room (Nat.le_of_ble_eq_true rfl)) d_T_readDeed_3 ⟨(Nat.le_of_ble_eq_true rfl), (Nat.le_of_ble_eq_true rfl)⟩)) (fun r_1 hw_2 => ?_)
  obtain rfl : r_1 = 0 := hw_2
  refine lv_if_eq (tgt := 17) hx hb d_T_readDeed_6 (by decide) (fun c_3 => ?_) (fun c_3 => ?_)
  · refine lv_aload_n hx hb d_T_readDeed_17 rfl (lv_at hl 0 rfl) ?_
    refine va_ldcS hx hb hown (zs_T_66 hZ) d_T_readDeed_18 ?_
    have hPc := hP.sub (ws' := [(a_tx, .inr (4, [.ref a_sg, .int 0, .int 0, .int (-1)]))]) [0] rfl
    have hKc := hK.sub (tys' := []) [] rfl
    refine vp_callSi (va_Run.run (va_runV (As := [.ref (adK 1)]) (rest := []) ⟨hx, hb, hml, hown, hts⟩ (c_takesWord l dC dI adK adV (a_tx := a_tx) (iw := 1) (a_sg := a_sg) (by decide)) (cwV 1 hts (gV tw_235 tw_237 tw_1 tw_43 tw_238) rfl rfl rfl (by decide +kernel) ⟨(Nat.le_of_ble_eq_true rfl), (Nat.le_of_ble_eq_true rfl)⟩) ⟨fun a U g mk q => by obtain ⟨q0, qZ, qP, qK⟩ := q; exact ⟨q0, zz_call qZ, qP, va_K.moved (u := U) (U := U.calling g mk a) (Vm.Alike.refl U.vm) qK⟩, va_recv hKc hPc (ci := 4) (q0 := 0) rfl rfl, fun U hU hW => ⟨rfl, zz_ro hS hU hW hZ, by rw [hU]; exact hPc, va_K.moved hW.alike hKc⟩⟩ rfl rfl hl.1 rfl (lv_room (Nat.le_of_ble_eq_true rfl)) d_T_readDeed_20 ⟨(Nat.le_of_ble_eq_true rfl), (Nat.le_of_ble_eq_true rfl)⟩)) (fun r_4 hw_5 => ?_)
    obtain rfl : r_4 = 0 := hw_5
    refine lv_if_eq (tgt := 34) hx hb d_T_readDeed_23 (by decide) (fun c_6 => ?_) (fun c_6 => ?_)
    · refine lv_aload_n hx hb d_T_readDeed_34 rfl (lv_at hl 0 rfl) ?_
      refine va_ldcS hx hb hown (zs_T_71 hZ) d_T_readDeed_35 ?_
      have hPc := hP.sub (ws' := [(a_tx, .inr (4, [.ref a_sg, .int 0, .int 0, .int (-1)]))]) [0] rfl
      have hKc := hK.sub (tys' := []) [] rfl
      refine vp_callSi (va_Run.run (va_runV (As := [.ref (adK 2)]) (rest := []) ⟨hx, hb, hml, hown, hts⟩ (c_takesWord l dC dI adK adV (a_tx := a_tx) (iw := 2) (a_sg := a_sg) (by decide)) (cwV 1 hts (gV tw_235 tw_237 tw_1 tw_43 tw_238) rfl rfl rfl (by decide +kernel) ⟨(Nat.le_of_ble_eq_true rfl), (Nat.le_of_ble_eq_true rfl)⟩) ⟨fun a U g mk q => by obtain ⟨q0, qZ, qP, qK⟩ := q; exact ⟨q0, zz_call qZ, qP, va_K.moved (u := U) (U := U.calling g mk a) (Vm.Alike.refl U.vm) qK⟩, va_recv hKc hPc (ci := 4) (q0 := 0) rfl rfl, fun U hU hW => ⟨rfl, zz_ro hS hU hW hZ, by rw [hU]; exact hPc, va_K.moved hW.alike hKc⟩⟩ rfl rfl hl.1 rfl (lv_room (Nat.le_of_ble_eq_true rfl)) d_T_readDeed_37 ⟨(Nat.le_of_ble_eq_true rfl), (Nat.le_of_ble_eq_true rfl)⟩)) (fun r_7 hw_8 => ?_)
      obtain rfl : r_7 = 0 := hw_8
      refine lv_if_eq (tgt := 51) hx hb d_T_readDeed_40 (by decide) (fun c_9 => ?_) (fun c_9 => ?_)
      · refine lv_aload_n hx hb d_T_readDeed_51 rfl (lv_at hl 0 rfl) ?_
        refine lv_aload_n hx hb d_T_readDeed_52 rfl (lv_at hl 0 rfl) ?_
        refine va_get (D := (dC, dI)) (ci := 4) (v := .int 0) (C := "LoanRules$RuleText") (T := Fz_T) (N := 4) hx hb hts it_T hown hK hP 0 rfl rfl 2 (by decide) (hts _ tw_74) (fun _ h9 => h9) rfl d_T_readDeed_53 ?_
        have hPc := hP.sub (ws' := [(a_tx, .inr (4, [.ref a_sg, .int 0, .int 0, .int (-1)]))]) [0] rfl
        have hKc := hK.sub (tys' := []) [] rfl
        have hDc := hD.sub (ws' := [(a_tx, .inr (4, [.ref a_sg, .int 0, .int 0, .int (-1)]))]) [0] (by decide) rfl
        have hFc := va_free (wc := [(a_tx, .inr (4, [.ref a_sg, .int 0, .int 0, .int (-1)]))]) hD hS hA [0] rfl
        refine va_callv (va_runV (As := [.int 0]) (rest := []) ⟨hx, hb, hml, hown, hts⟩ (c_markWrong l dC dI adK adV (a_tx := a_tx) (p0 := 0) (a_sg := a_sg) (sz := s.heap.size)) (cwV 1 hts (gV tw_302 tw_304 tw_5 tw_43 tw_305) rfl rfl rfl (by decide +kernel) ⟨(Nat.le_of_ble_eq_true rfl), (Nat.le_of_ble_eq_true rfl)⟩) ⟨fun a U g mk q => by obtain ⟨q0, q1, qZ, qP, qK, qD⟩ := q; exact ⟨q0, q1, zz_call qZ, qP, va_K.moved (u := U) (U := U.calling g mk a) (Vm.Alike.refl U.vm) qK, qD⟩, va_recv hKc hPc (ci := 4) (q0 := 0) rfl rfl, fun U hU hW => ⟨rfl, by rw [hU], zz_rw hS hFc hU hW hZ, by rw [hU]; exact hPc, va_K.moved hW.alike hKc, hDc.weaken (fun _ _ _ _ => trivial)⟩⟩ rfl rfl hl.1 rfl (lv_room (Nat.le_of_ble_eq_true rfl)) d_T_readDeed_56 ⟨(Nat.le_of_ble_eq_true rfl), (Nat.le_of_ble_eq_true rfl)⟩) hS (fun q _ h => hFc q h) hFc (fun u t H1 locs ht hvm hw_10 hB hz1 hk1 hS => ?_)
        obtain ⟨hP1, hK1, hD1⟩ := hB
        rw [ht] at hP1
        have hK1 := va_K.moved hvm.symm hK1
        obtain ⟨hP, hD⟩ := va_join (wr := [(a_to, .inr (3, [.int (-1), .int (-1), .int (-1), .int 2, .int 0, .int 0, .int 0, .int 7, .int 0, .int 0, .int 0]))]) (w1 := [(a_tx, .inr (4, [.ref a_sg, .int 0, .int 0, .int 0]))]) hP hD [0] [1] rfl rfl (by decide) (by decide) hk1 hFc hP1 hD1
        have hK := (hK.sub (tys' := []) [] rfl).app hK1
        generalize H1 = H at hP hS ⊢
        replace hP : va_P (dC, dI) vwCl [(a_to, .inr (3, [.int (-1), .int (-1), .int (-1), .int 2, .int 0, .int 0, .int 0, .int 7, .int 0, .int 0, .int 0])), (a_tx, .inr (4, [.ref a_sg, .int 0, .int 0, .int 0]))] H := hP
        replace hD : va_D A [(a_to, .inr (3, [.int (-1), .int (-1), .int (-1), .int 2, .int 0, .int 0, .int 0, .int 7, .int 0, .int 0, .int 0])), (a_tx, .inr (4, [.ref a_sg, .int 0, .int 0, .int 0]))] := hD
        replace hK : va_K (dC, dI) vwCl [] s := hK
        have hP9 := hP.sub (ws' := [(a_tx, .inr (4, [.ref a_sg, .int 0, .int 0, .int 0])), (a_to, .inr (3, [.int (-1), .int (-1), .int (-1), .int 2, .int 0, .int 0, .int 0, .int 7, .int 0, .int 0, .int 0]))]) [1, 0] rfl
        have hD9 := hD.sub (ws' := [(a_tx, .inr (4, [.ref a_sg, .int 0, .int 0, .int 0])), (a_to, .inr (3, [.int (-1), .int (-1), .int (-1), .int 2, .int 0, .int 0, .int 0, .int 7, .int 0, .int 0, .int 0]))]) [1, 0] (by decide) rfl
        have hK9 := hK.sub (tys' := []) [] rfl
        exact W.vret hx hb hr (fun t ht hW => ⟨⟨(), rfl, trivial, by rw [ht]; exact hP9, va_K.moved hW.alike hK9, hD9⟩, hS.F ht⟩) hS.2.2 d_T_readDeed_59
      · exact absurd (by decide) c_9
    · exact absurd (by decide) c_6
  · exact absurd (by decide) c_3
set_option maxHeartbeats 4000000 in
set_option maxRecDepth 100000 in
theorem c_readRest (l : Launch) (dC : Nat → ClassId) (dI : Nat → Nat → Nat) (adK adV : Nat → Nat) (a_tx : Nat) (a_to : Nat) (a_sg : Nat) (sz : Nat) : Met l y_T_readRest ws_T_readRest ({ frames := 3, cells := 0, slots := 0, locals := 64 }) (va_Pc [.ref a_tx, .ref a_to] (fun U => U.heap.size = sz ∧ zz adK adV (va_A [(a_tx, .inr (4, [.ref a_sg, .int 0, .int 0, .int 0])), (a_to, .inr (3, [.int (-1), .int (-1), .int (-1), .int 2, .int 0, .int 0, .int 0, .int 7, .int 0, .int 0, .int 0]))] sz) U ∧ va_P (dC, dI) vwCl [(a_tx, .inr (4, [.ref a_sg, .int 0, .int 0, .int 0])), (a_to, .inr (3, [.int (-1), .int (-1), .int (-1), .int 2, .int 0, .int 0, .int 0, .int 7, .int 0, .int 0, .int 0]))] U.heap ∧ va_K (dC, dI) vwCl [] U ∧ va_D (fun _ => True) [(a_tx, .inr (4, [.ref a_sg, .int 0, .int 0, .int 0])), (a_to, .inr (3, [.int (-1), .int (-1), .int (-1), .int 2, .int 0, .int 0, .int 0, .int 7, .int 0, .int 0, .int 0]))])) (va_Qv (fun _ : Unit => True) (fun (_ : Unit) (t : State) => va_P (dC, dI) vwCl [(a_tx, .inr (4, [.ref a_sg, .int 0, .int 0, .int 0])), (a_to, .inr (3, [.int (-1), .int (-1), .int (-1), .int 2, .int 0, .int 0, .int 0, .int 7, .int 0, .int 0, .int 0]))] t.heap ∧ va_K (dC, dI) vwCl [] t ∧ va_D (va_A [(a_tx, .inr (4, [.ref a_sg, .int 0, .int 0, .int 0])), (a_to, .inr (3, [.int (-1), .int (-1), .int (-1), .int 2, .int 0, .int 0, .int 0, .int 7, .int 0, .int 0, .int 0]))] sz) [(a_tx, .inr (4, [.ref a_sg, .int 0, .int 0, .int 0])), (a_to, .inr (3, [.int (-1), .int (-1), .int (-1), .int 2, .int 0, .int 0, .int 0, .int 7, .int 0, .int 0, .int 0]))]) (va_A [(a_tx, .inr (4, [.ref a_sg, .int 0, .int 0, .int 0])), (a_to, .inr (3, [.int (-1), .int (-1), .int (-1), .int 2, .int 0, .int 0, .int 0, .int 7, .int 0, .int 0, .int 0]))] sz)) 0 0 (va_A [(a_tx, .inr (4, [.ref a_sg, .int 0, .int 0, .int 0])), (a_to, .inr (3, [.int (-1), .int (-1), .int (-1), .int 2, .int 0, .int 0, .int 0, .int 7, .int 0, .int 0, .int 0]))] sz) := by
  refine Met.ofW (cc := c_T_readRest) (maxL := 2) (ret := none) (by decide) rfl ?_
  intro p e s m args below meth c s₁ B hml hv
  obtain ⟨rfl, hsz, hZ, hP, hK, hD0⟩ := hv
  have hx := B.exec
  have hb := B.bytes
  have hr := B.returns
  have hts0 := atoms_spec (ws := ws_T_readRest) B.pre
  have hts : ∀ w ∈ TT, w.before _ s = true := fun w h => hts0 w (List.mem_cons_of_mem _ h)
  have hown : s.vm.findClass "LoanRules$RuleText" = some m.cls := findClass_of_methodNamed B.named
  have hlocks := B.notSynchronized
  subst hsz
  have hD := hD0.self (sz := s.heap.size)
  generalize hAe : va_A [(a_tx, .inr (4, [.ref a_sg, .int 0, .int 0, .int 0])), (a_to, .inr (3, [.int (-1), .int (-1), .int (-1), .int 2, .int 0, .int 0, .int 0, .int 7, .int 0, .int 0, .int 0]))] s.heap.size = A at hD hZ ⊢
  have hA : ∀ q : Nat, s.heap.size ≤ q → A q := fun q h => by rw [← hAe]; exact Or.inr h
  clear hAe hD0
  have hS : va_S A s.heap s.heap [] := va_S.rf
  replace hP : va_P (dC, dI) vwCl [(a_tx, .inr (4, [.ref a_sg, .int 0, .int 0, .int 0])), (a_to, .inr (3, [.int (-1), .int (-1), .int (-1), .int 2, .int 0, .int 0, .int 0, .int 7, .int 0, .int 0, .int 0]))] s.heap := hP
  have hl := lv_entry ([.ref a_tx, .ref a_to]) (n := 2) (Nat.le_of_ble_eq_true rfl)
  rw [lg_entry_eq]
  generalize (lg_sl ([.ref a_tx, .ref a_to]) ++ List.replicate (2 - (lg_sl ([.ref a_tx, .ref a_to])).length) Slot.unset).toArray = ls at hl ⊢
  replace hl : lv_has ls 2 [(0, .ref a_tx), (1, .ref a_to)] := hl
  refine lv_aload_n hx hb d_T_readRest_0 rfl (lv_at hl 1 rfl) ?_
  have hPc := hP.sub (ws' := [(a_to, .inr (3, [.int (-1), .int (-1), .int (-1), .int 2, .int 0, .int 0, .int 0, .int 7, .int 0, .int 0, .int 0]))]) [1] rfl
  have hKc := hK.sub (tys' := []) [] rfl
  refine vp_callSi (va_Run.run (va_runV (As := []) (rest := []) ⟨hx, hb, hml, hown, hts⟩ (c_lends l dC dI adK adV (a_to := a_to)) (cwV 0 hts (gV tw_331 tw_332 tw_333 tw_47 tw_334) rfl rfl rfl (by decide +kernel) ⟨(Nat.le_of_ble_eq_true rfl), (Nat.le_of_ble_eq_true rfl)⟩) ⟨fun a U g mk q => by obtain ⟨q0, qZ, qP, qK⟩ := q; exact ⟨q0, zz_call qZ, qP, va_K.moved (u := U) (U := U.calling g mk a) (Vm.Alike.refl U.vm) qK⟩, va_recv hKc hPc (ci := 3) (q0 := 0) rfl rfl, fun U hU hW => ⟨rfl, zz_ro hS hU hW hZ, by rw [hU]; exact hPc, va_K.moved hW.alike hKc⟩⟩ rfl rfl hl.1 rfl (lv_room (Nat.le_of_ble_eq_true rfl)) d_T_readRest_1 ⟨(Nat.le_of_ble_eq_true rfl), (Nat.le_of_ble_eq_true rfl)⟩)) (fun r_1 hw_2 => ?_)
  obtain rfl : r_1 = 0 := hw_2
  refine lv_if_eq (tgt := 49) hx hb d_T_readRest_4 (by decide) (fun c_3 => ?_) (fun c_3 => ?_)
  · refine lv_aload_n hx hb d_T_readRest_49 rfl (lv_at hl 1 rfl) ?_
    refine lv_aload_n hx hb d_T_readRest_50 rfl (lv_at hl 0 rfl) ?_
    refine va_ldcS hx hb hown (zs_T_107 hZ) d_T_readRest_51 ?_
    refine lv_aload_n hx hb d_T_readRest_53 rfl (lv_at hl 1 rfl) ?_
    refine va_get (D := (dC, dI)) (ci := 3) (v := .int 0) (C := "LoanRules$Rule") (T := Fz_R) (N := 11) hx hb hts it_R hown hK hP 1 rfl rfl 8 (by decide) (hts _ tw_197) (fun _ h9 => h9) rfl d_T_readRest_54 ?_
    have hPc := hP.sub (ws' := [(a_tx, .inr (4, [.ref a_sg, .int 0, .int 0, .int 0]))]) [0] rfl
    have hKc := hK.sub (tys' := []) [] rfl
    refine vp_callSi (va_Run.run (va_runV (As := [.ref (adK 3), .int 0]) (rest := [.ref a_to]) ⟨hx, hb, hml, hown, hts⟩ (c_readOption l dC dI adK adV (a_tx := a_tx) (iw := 3) (p0 := 0) (a_sg := a_sg) (by decide)) (cwV 2 hts (gV tw_336 tw_338 tw_10 tw_43 tw_339) rfl rfl rfl (by decide +kernel) ⟨(Nat.le_of_ble_eq_true rfl), (Nat.le_of_ble_eq_true rfl)⟩) ⟨fun a U g mk q => by obtain ⟨q0, qZ, qP, qK⟩ := q; exact ⟨q0, zz_call qZ, qP, va_K.moved (u := U) (U := U.calling g mk a) (Vm.Alike.refl U.vm) qK⟩, va_recv hKc hPc (ci := 4) (q0 := 0) rfl rfl, fun U hU hW => ⟨rfl, zz_ro hS hU hW hZ, by rw [hU]; exact hPc, va_K.moved hW.alike hKc⟩⟩ rfl rfl hl.1 rfl (lv_room (Nat.le_of_ble_eq_true rfl)) d_T_readRest_57 ⟨(Nat.le_of_ble_eq_true rfl), (Nat.le_of_ble_eq_true rfl)⟩)) (fun r_4 hw_5 => ?_)
    obtain rfl : r_4 = 0 := hw_5.trans (by decide)
    refine va_put (D := (dC, dI)) (ci := 3) (v := .int 0) (ty := .int) (C := "LoanRules$Rule") (T := Fz_R) (N := 11) hx hb hts it_R tz_R tz_R_ok nz_R hown hK hP hD hS 1 rfl rfl 8 (by decide) (hts _ tw_197) (fun _ h9 => h9) rfl (by decide +kernel) rfl rfl (Nat.le_of_ble_eq_true rfl) d_T_readRest_60 (fun H locs hP hD hS => ?_)
    replace hP : va_P (dC, dI) vwCl [(a_tx, .inr (4, [.ref a_sg, .int 0, .int 0, .int 0])), (a_to, .inr (3, [.int (-1), .int (-1), .int (-1), .int 2, .int 0, .int 0, .int 0, .int 7, .int 0, .int 0, .int 0]))] H := hP
    replace hD : va_D A [(a_tx, .inr (4, [.ref a_sg, .int 0, .int 0, .int 0])), (a_to, .inr (3, [.int (-1), .int (-1), .int (-1), .int 2, .int 0, .int 0, .int 0, .int 7, .int 0, .int 0, .int 0]))] := hD
    refine lv_aload_n hx hb d_T_readRest_63 rfl (lv_at hl 0 rfl) ?_
    refine lv_aload_n hx hb d_T_readRest_64 rfl (lv_at hl 0 rfl) ?_
    refine va_get (D := (dC, dI)) (ci := 4) (v := .int 0) (C := "LoanRules$RuleText") (T := Fz_T) (N := 4) hx hb hts it_T hown hK hP 0 rfl rfl 2 (by decide) (hts _ tw_74) (fun _ h9 => h9) rfl d_T_readRest_65 ?_
    have hPc := hP.sub (ws' := [(a_tx, .inr (4, [.ref a_sg, .int 0, .int 0, .int 0]))]) [0] rfl
    have hKc := hK.sub (tys' := []) [] rfl
    refine vp_callSi (va_Run.run (va_runV (As := [.int 0]) (rest := []) ⟨hx, hb, hml, hown, hts⟩ (c_signAt_w l dC dI adK adV (a_tx := a_tx) (p0 := 0) (a_sg := a_sg)) (cwV 1 hts (gV tw_249 tw_251 tw_2 tw_43 tw_252) rfl rfl rfl (by decide +kernel) ⟨(Nat.le_of_ble_eq_true rfl), (Nat.le_of_ble_eq_true rfl)⟩) ⟨fun a U g mk q => by obtain ⟨q0, qZ, qP, qK⟩ := q; exact ⟨q0, zz_call qZ, qP, va_K.moved (u := U) (U := U.calling g mk a) (Vm.Alike.refl U.vm) qK⟩, va_recv hKc hPc (ci := 4) (q0 := 0) rfl rfl, fun U hU hW => ⟨rfl, zz_ro hS hU hW hZ, by rw [hU]; exact hPc, va_K.moved hW.alike hKc⟩⟩ rfl rfl hl.1 rfl (lv_room (Nat.le_of_ble_eq_true rfl)) d_T_readRest_68 ⟨(Nat.le_of_ble_eq_true rfl), (Nat.le_of_ble_eq_true rfl)⟩)) (fun r_6 hw_7 => ?_)
    obtain rfl : r_6 = (-1) := hw_7
    refine lv_iconst (v := (-1)) hx hb d_T_readRest_71 (by decide) ?_
    refine lv_icmp_eq (tgt := 87) hx hb d_T_readRest_72 (by decide) (fun c_8 => ?_) (fun c_8 => ?_)
    · have hP9 := hP.sub (ws' := [(a_tx, .inr (4, [.ref a_sg, .int 0, .int 0, .int 0])), (a_to, .inr (3, [.int (-1), .int (-1), .int (-1), .int 2, .int 0, .int 0, .int 0, .int 7, .int 0, .int 0, .int 0]))]) [0, 1] rfl
      have hD9 := hD.sub (ws' := [(a_tx, .inr (4, [.ref a_sg, .int 0, .int 0, .int 0])), (a_to, .inr (3, [.int (-1), .int (-1), .int (-1), .int 2, .int 0, .int 0, .int 0, .int 7, .int 0, .int 0, .int 0]))]) [0, 1] (by decide) rfl
      have hK9 := hK.sub (tys' := []) [] rfl
      exact W.vret hx hb hr (fun t ht hW => ⟨⟨(), rfl, trivial, by rw [ht]; exact hP9, va_K.moved hW.alike hK9, hD9⟩, hS.F ht⟩) hS.2.2 d_T_readRest_87
    · exact absurd (by decide) c_8
  · exact absurd (by decide) c_3
set_option maxHeartbeats 4000000 in
set_option maxRecDepth 100000 in
theorem c_readInto (l : Launch) (dC : Nat → ClassId) (dI : Nat → Nat → Nat) (adK adV : Nat → Nat) (a_tx : Nat) (a_to : Nat) (a_sg : Nat) (sz : Nat) : Met l y_T_readInto ws_T_readInto ({ frames := 6, cells := 0, slots := 0, locals := 131 }) (va_Pc [.ref a_tx, .ref a_to] (fun U => U.heap.size = sz ∧ zz adK adV (va_A [(a_tx, .inr (4, [.ref a_sg, .int 0, .int 0, .int (-1)])), (a_to, .inr (3, [.int (-1), .int (-1), .int (-1), .int 2, .int 0, .int 0, .int 0, .int 7, .int 0, .int 0, .int 0]))] sz) U ∧ va_P (dC, dI) vwCl [(a_tx, .inr (4, [.ref a_sg, .int 0, .int 0, .int (-1)])), (a_to, .inr (3, [.int (-1), .int (-1), .int (-1), .int 2, .int 0, .int 0, .int 0, .int 7, .int 0, .int 0, .int 0]))] U.heap ∧ va_K (dC, dI) vwCl [] U ∧ va_D (fun _ => True) [(a_tx, .inr (4, [.ref a_sg, .int 0, .int 0, .int (-1)])), (a_to, .inr (3, [.int (-1), .int (-1), .int (-1), .int 2, .int 0, .int 0, .int 0, .int 7, .int 0, .int 0, .int 0]))])) (va_Qi (fun (r : Int32) (_ : Unit) => r = 0) (fun (_ : Unit) (t : State) => va_P (dC, dI) vwCl [(a_tx, .inr (4, [.ref a_sg, .int 0, .int 0, .int 0]))] t.heap ∧ va_K (dC, dI) vwCl [] t ∧ va_D (va_A [(a_tx, .inr (4, [.ref a_sg, .int 0, .int 0, .int (-1)])), (a_to, .inr (3, [.int (-1), .int (-1), .int (-1), .int 2, .int 0, .int 0, .int 0, .int 7, .int 0, .int 0, .int 0]))] sz) [(a_tx, .inr (4, [.ref a_sg, .int 0, .int 0, .int 0]))]) (va_A [(a_tx, .inr (4, [.ref a_sg, .int 0, .int 0, .int (-1)])), (a_to, .inr (3, [.int (-1), .int (-1), .int (-1), .int 2, .int 0, .int 0, .int 0, .int 7, .int 0, .int 0, .int 0]))] sz)) 0 0 (va_A [(a_tx, .inr (4, [.ref a_sg, .int 0, .int 0, .int (-1)])), (a_to, .inr (3, [.int (-1), .int (-1), .int (-1), .int 2, .int 0, .int 0, .int 0, .int 7, .int 0, .int 0, .int 0]))] sz) := by
  refine Met.ofW (cc := c_T_readInto) (maxL := 2) (ret := (some .int)) (by decide) rfl ?_
  intro p e s m args below meth c s₁ B hml hv
  obtain ⟨rfl, hsz, hZ, hP, hK, hD0⟩ := hv
  have hx := B.exec
  have hb := B.bytes
  have hr := B.returns
  have hts0 := atoms_spec (ws := ws_T_readInto) B.pre
  have hts : ∀ w ∈ TT, w.before _ s = true := fun w h => hts0 w (List.mem_cons_of_mem _ h)
  have hown : s.vm.findClass "LoanRules$RuleText" = some m.cls := findClass_of_methodNamed B.named
  have hlocks := B.notSynchronized
  subst hsz
  have hD := hD0.self (sz := s.heap.size)
  generalize hAe : va_A [(a_tx, .inr (4, [.ref a_sg, .int 0, .int 0, .int (-1)])), (a_to, .inr (3, [.int (-1), .int (-1), .int (-1), .int 2, .int 0, .int 0, .int 0, .int 7, .int 0, .int 0, .int 0]))] s.heap.size = A at hD hZ ⊢
  have hA : ∀ q : Nat, s.heap.size ≤ q → A q := fun q h => by rw [← hAe]; exact Or.inr h
  clear hAe hD0
  have hS : va_S A s.heap s.heap [] := va_S.rf
  replace hP : va_P (dC, dI) vwCl [(a_tx, .inr (4, [.ref a_sg, .int 0, .int 0, .int (-1)])), (a_to, .inr (3, [.int (-1), .int (-1), .int (-1), .int 2, .int 0, .int 0, .int 0, .int 7, .int 0, .int 0, .int 0]))] s.heap := hP
  have hl := lv_entry ([.ref a_tx, .ref a_to]) (n := 2) (Nat.le_of_ble_eq_true rfl)
  rw [lg_entry_eq]
  generalize (lg_sl ([.ref a_tx, .ref a_to]) ++ List.replicate (2 - (lg_sl ([.ref a_tx, .ref a_to])).length) Slot.unset).toArray = ls at hl ⊢
  replace hl : lv_has ls 2 [(0, .ref a_tx), (1, .ref a_to)] := hl
  refine lv_aload_n hx hb d_T_readInto_0 rfl (lv_at hl 0 rfl) ?_
  refine lv_iconst (v := 0) hx hb d_T_readInto_1 (by decide) ?_
  refine va_put (D := (dC, dI)) (ci := 4) (v := .int 0) (ty := .int) (C := "LoanRules$RuleText") (T := Fz_T) (N := 4) hx hb hts it_T tz_T tz_T_ok nz_T hown hK hP hD hS 0 rfl rfl 2 (by decide) (hts _ tw_74) (fun _ h9 => h9) rfl (by decide +kernel) rfl rfl (Nat.le_of_ble_eq_true rfl) d_T_readInto_2 (fun H locs hP hD hS => ?_)
  replace hP : va_P (dC, dI) vwCl [(a_tx, .inr (4, [.ref a_sg, .int 0, .int 0, .int (-1)])), (a_to, .inr (3, [.int (-1), .int (-1), .int (-1), .int 2, .int 0, .int 0, .int 0, .int 7, .int 0, .int 0, .int 0]))] H := hP
  replace hD : va_D A [(a_tx, .inr (4, [.ref a_sg, .int 0, .int 0, .int (-1)])), (a_to, .inr (3, [.int (-1), .int (-1), .int (-1), .int 2, .int 0, .int 0, .int 0, .int 7, .int 0, .int 0, .int 0]))] := hD
  refine lv_aload_n hx hb d_T_readInto_5 rfl (lv_at hl 0 rfl) ?_
  refine lv_iconst (v := (-1)) hx hb d_T_readInto_6 (by decide) ?_
  refine va_put (D := (dC, dI)) (ci := 4) (v := .int (-1)) (ty := .int) (C := "LoanRules$RuleText") (T := Fz_T) (N := 4) hx hb hts it_T tz_T tz_T_ok nz_T hown hK hP hD hS 0 rfl rfl 3 (by decide) (hts _ tw_75) (fun _ h9 => h9) rfl (by decide +kernel) rfl rfl (Nat.le_of_ble_eq_true rfl) d_T_readInto_7 (fun H locs hP hD hS => ?_)
  replace hP : va_P (dC, dI) vwCl [(a_tx, .inr (4, [.ref a_sg, .int 0, .int 0, .int (-1)])), (a_to, .inr (3, [.int (-1), .int (-1), .int (-1), .int 2, .int 0, .int 0, .int 0, .int 7, .int 0, .int 0, .int 0]))] H := hP
  replace hD : va_D A [(a_tx, .inr (4, [.ref a_sg, .int 0, .int 0, .int (-1)])), (a_to, .inr (3, [.int (-1), .int (-1), .int (-1), .int 2, .int 0, .int 0, .int 0, .int 7, .int 0, .int 0, .int 0]))] := hD
  refine lv_aload_n hx hb d_T_readInto_10 rfl (lv_at hl 1 rfl) ?_
  refine lv_aload_n hx hb d_T_readInto_11 rfl (lv_at hl 0 rfl) ?_
  refine va_ldcS hx hb hown (zs_T_25 hZ) d_T_readInto_12 ?_
  refine lv_iconst (v := 1) hx hb d_T_readInto_14 (by decide) ?_
  refine lv_bipush (v := 9) hx hb d_T_readInto_15 (by decide) ?_
  have hPc := hP.sub (ws' := [(a_tx, .inr (4, [.ref a_sg, .int 0, .int 0, .int (-1)]))]) [0] rfl
  have hKc := hK.sub (tys' := []) [] rfl
  refine vp_callSi (va_Run.run (va_runV (As := [.ref (adK 4), .int 1, .int 9]) (rest := [.ref a_to]) ⟨hx, hb, hml, hown, hts⟩ (c_readCondition l dC dI adK adV (a_tx := a_tx) (iw := 4) (p0 := 1) (p1 := 9) (a_sg := a_sg) (by decide)) (cwV 3 hts (gV tw_231 tw_233 tw_0 tw_43 tw_234) rfl rfl rfl (by decide +kernel) ⟨(Nat.le_of_ble_eq_true rfl), (Nat.le_of_ble_eq_true rfl)⟩) ⟨fun a U g mk q => by obtain ⟨q0, qZ, qP, qK⟩ := q; exact ⟨q0, zz_call qZ, qP, va_K.moved (u := U) (U := U.calling g mk a) (Vm.Alike.refl U.vm) qK⟩, va_recv hKc hPc (ci := 4) (q0 := 0) rfl rfl, fun U hU hW => ⟨rfl, zz_ro hS hU hW hZ, by rw [hU]; exact hPc, va_K.moved hW.alike hKc⟩⟩ rfl rfl hl.1 rfl (lv_room (Nat.le_of_ble_eq_true rfl)) d_T_readInto_17 ⟨(Nat.le_of_ble_eq_true rfl), (Nat.le_of_ble_eq_true rfl)⟩)) (fun r_1 hw_2 => ?_)
  obtain rfl : r_1 = (-1) := hw_2
  refine va_put (D := (dC, dI)) (ci := 3) (v := .int (-1)) (ty := .int) (C := "LoanRules$Rule") (T := Fz_R) (N := 11) hx hb hts it_R tz_R tz_R_ok nz_R hown hK hP hD hS 1 rfl rfl 0 (by decide) (hts _ tw_173) (fun _ h9 => h9) rfl (by decide +kernel) rfl rfl (Nat.le_of_ble_eq_true rfl) d_T_readInto_20 (fun H locs hP hD hS => ?_)
  replace hP : va_P (dC, dI) vwCl [(a_tx, .inr (4, [.ref a_sg, .int 0, .int 0, .int (-1)])), (a_to, .inr (3, [.int (-1), .int (-1), .int (-1), .int 2, .int 0, .int 0, .int 0, .int 7, .int 0, .int 0, .int 0]))] H := hP
  replace hD : va_D A [(a_tx, .inr (4, [.ref a_sg, .int 0, .int 0, .int (-1)])), (a_to, .inr (3, [.int (-1), .int (-1), .int (-1), .int 2, .int 0, .int 0, .int 0, .int 7, .int 0, .int 0, .int 0]))] := hD
  refine lv_aload_n hx hb d_T_readInto_23 rfl (lv_at hl 1 rfl) ?_
  refine lv_aload_n hx hb d_T_readInto_24 rfl (lv_at hl 0 rfl) ?_
  refine va_ldcS hx hb hown (zs_T_35 hZ) d_T_readInto_25 ?_
  refine lv_iconst (v := 1) hx hb d_T_readInto_27 (by decide) ?_
  refine lv_bipush (v := 9) hx hb d_T_readInto_28 (by decide) ?_
  have hPc := hP.sub (ws' := [(a_tx, .inr (4, [.ref a_sg, .int 0, .int 0, .int (-1)]))]) [0] rfl
  have hKc := hK.sub (tys' := []) [] rfl
  refine vp_callSi (va_Run.run (va_runV (As := [.ref (adK 5), .int 1, .int 9]) (rest := [.ref a_to]) ⟨hx, hb, hml, hown, hts⟩ (c_readCondition l dC dI adK adV (a_tx := a_tx) (iw := 5) (p0 := 1) (p1 := 9) (a_sg := a_sg) (by decide)) (cwV 3 hts (gV tw_231 tw_233 tw_0 tw_43 tw_234) rfl rfl rfl (by decide +kernel) ⟨(Nat.le_of_ble_eq_true rfl), (Nat.le_of_ble_eq_true rfl)⟩) ⟨fun a U g mk q => by obtain ⟨q0, qZ, qP, qK⟩ := q; exact ⟨q0, zz_call qZ, qP, va_K.moved (u := U) (U := U.calling g mk a) (Vm.Alike.refl U.vm) qK⟩, va_recv hKc hPc (ci := 4) (q0 := 0) rfl rfl, fun U hU hW => ⟨rfl, zz_ro hS hU hW hZ, by rw [hU]; exact hPc, va_K.moved hW.alike hKc⟩⟩ rfl rfl hl.1 rfl (lv_room (Nat.le_of_ble_eq_true rfl)) d_T_readInto_30 ⟨(Nat.le_of_ble_eq_true rfl), (Nat.le_of_ble_eq_true rfl)⟩)) (fun r_3 hw_4 => ?_)
  obtain rfl : r_3 = (-1) := hw_4
  refine va_put (D := (dC, dI)) (ci := 3) (v := .int (-1)) (ty := .int) (C := "LoanRules$Rule") (T := Fz_R) (N := 11) hx hb hts it_R tz_R tz_R_ok nz_R hown hK hP hD hS 1 rfl rfl 1 (by decide) (hts _ tw_176) (fun _ h9 => h9) rfl (by decide +kernel) rfl rfl (Nat.le_of_ble_eq_true rfl) d_T_readInto_33 (fun H locs hP hD hS => ?_)
  replace hP : va_P (dC, dI) vwCl [(a_tx, .inr (4, [.ref a_sg, .int 0, .int 0, .int (-1)])), (a_to, .inr (3, [.int (-1), .int (-1), .int (-1), .int 2, .int 0, .int 0, .int 0, .int 7, .int 0, .int 0, .int 0]))] H := hP
  replace hD : va_D A [(a_tx, .inr (4, [.ref a_sg, .int 0, .int 0, .int (-1)])), (a_to, .inr (3, [.int (-1), .int (-1), .int (-1), .int 2, .int 0, .int 0, .int 0, .int 7, .int 0, .int 0, .int 0]))] := hD
  refine lv_aload_n hx hb d_T_readInto_36 rfl (lv_at hl 1 rfl) ?_
  refine lv_aload_n hx hb d_T_readInto_37 rfl (lv_at hl 0 rfl) ?_
  refine va_ldcS hx hb hown (zs_T_39 hZ) d_T_readInto_38 ?_
  refine lv_iconst (v := 2) hx hb d_T_readInto_40 (by decide) ?_
  refine lv_bipush (v := 49) hx hb d_T_readInto_41 (by decide) ?_
  have hPc := hP.sub (ws' := [(a_tx, .inr (4, [.ref a_sg, .int 0, .int 0, .int (-1)]))]) [0] rfl
  have hKc := hK.sub (tys' := []) [] rfl
  refine vp_callSi (va_Run.run (va_runV (As := [.ref (adK 6), .int 2, .int 49]) (rest := [.ref a_to]) ⟨hx, hb, hml, hown, hts⟩ (c_readCondition l dC dI adK adV (a_tx := a_tx) (iw := 6) (p0 := 2) (p1 := 49) (a_sg := a_sg) (by decide)) (cwV 3 hts (gV tw_231 tw_233 tw_0 tw_43 tw_234) rfl rfl rfl (by decide +kernel) ⟨(Nat.le_of_ble_eq_true rfl), (Nat.le_of_ble_eq_true rfl)⟩) ⟨fun a U g mk q => by obtain ⟨q0, qZ, qP, qK⟩ := q; exact ⟨q0, zz_call qZ, qP, va_K.moved (u := U) (U := U.calling g mk a) (Vm.Alike.refl U.vm) qK⟩, va_recv hKc hPc (ci := 4) (q0 := 0) rfl rfl, fun U hU hW => ⟨rfl, zz_ro hS hU hW hZ, by rw [hU]; exact hPc, va_K.moved hW.alike hKc⟩⟩ rfl rfl hl.1 rfl (lv_room (Nat.le_of_ble_eq_true rfl)) d_T_readInto_43 ⟨(Nat.le_of_ble_eq_true rfl), (Nat.le_of_ble_eq_true rfl)⟩)) (fun r_5 hw_6 => ?_)
  obtain rfl : r_5 = (-1) := hw_6
  refine va_put (D := (dC, dI)) (ci := 3) (v := .int (-1)) (ty := .int) (C := "LoanRules$Rule") (T := Fz_R) (N := 11) hx hb hts it_R tz_R tz_R_ok nz_R hown hK hP hD hS 1 rfl rfl 2 (by decide) (hts _ tw_179) (fun _ h9 => h9) rfl (by decide +kernel) rfl rfl (Nat.le_of_ble_eq_true rfl) d_T_readInto_46 (fun H locs hP hD hS => ?_)
  replace hP : va_P (dC, dI) vwCl [(a_tx, .inr (4, [.ref a_sg, .int 0, .int 0, .int (-1)])), (a_to, .inr (3, [.int (-1), .int (-1), .int (-1), .int 2, .int 0, .int 0, .int 0, .int 7, .int 0, .int 0, .int 0]))] H := hP
  replace hD : va_D A [(a_tx, .inr (4, [.ref a_sg, .int 0, .int 0, .int (-1)])), (a_to, .inr (3, [.int (-1), .int (-1), .int (-1), .int 2, .int 0, .int 0, .int 0, .int 7, .int 0, .int 0, .int 0]))] := hD
  refine lv_aload_n hx hb d_T_readInto_49 rfl (lv_at hl 0 rfl) ?_
  refine lv_aload_n hx hb d_T_readInto_50 rfl (lv_at hl 1 rfl) ?_
  have hPc := hP.sub (ws' := [(a_tx, .inr (4, [.ref a_sg, .int 0, .int 0, .int (-1)])), (a_to, .inr (3, [.int (-1), .int (-1), .int (-1), .int 2, .int 0, .int 0, .int 0, .int 7, .int 0, .int 0, .int 0]))]) [0, 1] rfl
  have hKc := hK.sub (tys' := []) [] rfl
  have hDc := hD.sub (ws' := [(a_tx, .inr (4, [.ref a_sg, .int 0, .int 0, .int (-1)])), (a_to, .inr (3, [.int (-1), .int (-1), .int (-1), .int 2, .int 0, .int 0, .int 0, .int 7, .int 0, .int 0, .int 0]))]) [0, 1] (by decide) rfl
  have hFc := va_free (wc := [(a_tx, .inr (4, [.ref a_sg, .int 0, .int 0, .int (-1)])), (a_to, .inr (3, [.int (-1), .int (-1), .int (-1), .int 2, .int 0, .int 0, .int 0, .int 7, .int 0, .int 0, .int 0]))]) hD hS hA [0, 1] rfl
  refine va_callv (va_runV (As := [.ref a_to]) (rest := []) ⟨hx, hb, hml, hown, hts⟩ (c_readDeed l dC dI adK adV (a_tx := a_tx) (a_to := a_to) (a_sg := a_sg) (sz := H.size)) (cwV 1 hts (gV tw_311 tw_313 tw_6 tw_43 tw_314) rfl rfl rfl (by decide +kernel) ⟨(Nat.le_of_ble_eq_true rfl), (Nat.le_of_ble_eq_true rfl)⟩) ⟨fun a U g mk q => by obtain ⟨q0, q1, qZ, qP, qK, qD⟩ := q; exact ⟨q0, q1, zz_call qZ, qP, va_K.moved (u := U) (U := U.calling g mk a) (Vm.Alike.refl U.vm) qK, qD⟩, va_recv hKc hPc (ci := 4) (q0 := 0) rfl rfl, fun U hU hW => ⟨rfl, by rw [hU], zz_rw hS hFc hU hW hZ, by rw [hU]; exact hPc, va_K.moved hW.alike hKc, hDc.weaken (fun _ _ _ _ => trivial)⟩⟩ rfl rfl hl.1 rfl (lv_room (Nat.le_of_ble_eq_true rfl)) d_T_readInto_51 ⟨(Nat.le_of_ble_eq_true rfl), (Nat.le_of_ble_eq_true rfl)⟩) hS (fun q _ h => hFc q h) hFc (fun u t H1 locs ht hvm hw_7 hB hz1 hk1 hS => ?_)
  obtain ⟨hP1, hK1, hD1⟩ := hB
  rw [ht] at hP1
  have hK1 := va_K.moved hvm.symm hK1
  obtain ⟨hP, hD⟩ := va_join (wr := []) (w1 := [(a_tx, .inr (4, [.ref a_sg, .int 0, .int 0, .int 0])), (a_to, .inr (3, [.int (-1), .int (-1), .int (-1), .int 2, .int 0, .int 0, .int 0, .int 7, .int 0, .int 0, .int 0]))]) hP hD [0, 1] [] rfl rfl (by decide) (by decide) hk1 hFc hP1 hD1
  have hK := (hK.sub (tys' := []) [] rfl).app hK1
  generalize H1 = H at hP hS ⊢
  replace hP : va_P (dC, dI) vwCl [(a_tx, .inr (4, [.ref a_sg, .int 0, .int 0, .int 0])), (a_to, .inr (3, [.int (-1), .int (-1), .int (-1), .int 2, .int 0, .int 0, .int 0, .int 7, .int 0, .int 0, .int 0]))] H := hP
  replace hD : va_D A [(a_tx, .inr (4, [.ref a_sg, .int 0, .int 0, .int 0])), (a_to, .inr (3, [.int (-1), .int (-1), .int (-1), .int 2, .int 0, .int 0, .int 0, .int 7, .int 0, .int 0, .int 0]))] := hD
  replace hK : va_K (dC, dI) vwCl [] s := hK
  refine lv_aload_n hx hb d_T_readInto_54 rfl (lv_at hl 0 rfl) ?_
  refine lv_aload_n hx hb d_T_readInto_55 rfl (lv_at hl 1 rfl) ?_
  have hPc := hP.sub (ws' := [(a_tx, .inr (4, [.ref a_sg, .int 0, .int 0, .int 0])), (a_to, .inr (3, [.int (-1), .int (-1), .int (-1), .int 2, .int 0, .int 0, .int 0, .int 7, .int 0, .int 0, .int 0]))]) [0, 1] rfl
  have hKc := hK.sub (tys' := []) [] rfl
  have hDc := hD.sub (ws' := [(a_tx, .inr (4, [.ref a_sg, .int 0, .int 0, .int 0])), (a_to, .inr (3, [.int (-1), .int (-1), .int (-1), .int 2, .int 0, .int 0, .int 0, .int 7, .int 0, .int 0, .int 0]))]) [0, 1] (by decide) rfl
  have hFc := va_free (wc := [(a_tx, .inr (4, [.ref a_sg, .int 0, .int 0, .int 0])), (a_to, .inr (3, [.int (-1), .int (-1), .int (-1), .int 2, .int 0, .int 0, .int 0, .int 7, .int 0, .int 0, .int 0]))]) hD hS hA [0, 1] rfl
  refine va_callv (va_runV (As := [.ref a_to]) (rest := []) ⟨hx, hb, hml, hown, hts⟩ (c_readRest l dC dI adK adV (a_tx := a_tx) (a_to := a_to) (a_sg := a_sg) (sz := H.size)) (cwV 1 hts (gV tw_327 tw_329 tw_9 tw_43 tw_330) rfl rfl rfl (by decide +kernel) ⟨(Nat.le_of_ble_eq_true rfl), (Nat.le_of_ble_eq_true rfl)⟩) ⟨fun a U g mk q => by obtain ⟨q0, q1, qZ, qP, qK, qD⟩ := q; exact ⟨q0, q1, zz_call qZ, qP, va_K.moved (u := U) (U := U.calling g mk a) (Vm.Alike.refl U.vm) qK, qD⟩, va_recv hKc hPc (ci := 4) (q0 := 0) rfl rfl, fun U hU hW => ⟨rfl, by rw [hU], zz_rw hS hFc hU hW hZ, by rw [hU]; exact hPc, va_K.moved hW.alike hKc, hDc.weaken (fun _ _ _ _ => trivial)⟩⟩ rfl rfl hl.1 rfl (lv_room (Nat.le_of_ble_eq_true rfl)) d_T_readInto_56 ⟨(Nat.le_of_ble_eq_true rfl), (Nat.le_of_ble_eq_true rfl)⟩) hS (fun q _ h => hFc q h) hFc (fun u t H1 locs ht hvm hw_8 hB hz1 hk1 hS => ?_)
  obtain ⟨hP1, hK1, hD1⟩ := hB
  rw [ht] at hP1
  have hK1 := va_K.moved hvm.symm hK1
  obtain ⟨hP, hD⟩ := va_join (wr := []) (w1 := [(a_tx, .inr (4, [.ref a_sg, .int 0, .int 0, .int 0])), (a_to, .inr (3, [.int (-1), .int (-1), .int (-1), .int 2, .int 0, .int 0, .int 0, .int 7, .int 0, .int 0, .int 0]))]) hP hD [0, 1] [] rfl rfl (by decide) (by decide) hk1 hFc hP1 hD1
  have hK := (hK.sub (tys' := []) [] rfl).app hK1
  generalize H1 = H at hP hS ⊢
  replace hP : va_P (dC, dI) vwCl [(a_tx, .inr (4, [.ref a_sg, .int 0, .int 0, .int 0])), (a_to, .inr (3, [.int (-1), .int (-1), .int (-1), .int 2, .int 0, .int 0, .int 0, .int 7, .int 0, .int 0, .int 0]))] H := hP
  replace hD : va_D A [(a_tx, .inr (4, [.ref a_sg, .int 0, .int 0, .int 0])), (a_to, .inr (3, [.int (-1), .int (-1), .int (-1), .int 2, .int 0, .int 0, .int 0, .int 7, .int 0, .int 0, .int 0]))] := hD
  replace hK : va_K (dC, dI) vwCl [] s := hK
  refine lv_aload_n hx hb d_T_readInto_59 rfl (lv_at hl 0 rfl) ?_
  refine va_get (D := (dC, dI)) (ci := 4) (v := .int 0) (C := "LoanRules$RuleText") (T := Fz_T) (N := 4) hx hb hts it_T hown hK hP 0 rfl rfl 3 (by decide) (hts _ tw_75) (fun _ h9 => h9) rfl d_T_readInto_60 ?_
  have hP9 := hP.sub (ws' := [(a_tx, .inr (4, [.ref a_sg, .int 0, .int 0, .int 0]))]) [0] rfl
  have hD9 := hD.sub (ws' := [(a_tx, .inr (4, [.ref a_sg, .int 0, .int 0, .int 0]))]) [0] (by decide) rfl
  have hK9 := hK.sub (tys' := []) [] rfl
  exact W.iret (v := 0) hx hb hr (fun t ht hW => ⟨⟨0, (), rfl, rfl, by rw [ht]; exact hP9, va_K.moved hW.alike hK9, hD9⟩, hS.F ht⟩) hS.2.2 d_T_readInto_63
set_option maxHeartbeats 4000000 in
set_option maxRecDepth 100000 in
theorem c_forget (l : Launch) (dC : Nat → ClassId) (dI : Nat → Nat → Nat) (adK adV : Nat → Nat) (a_tx : Nat) (a_sg : Nat) (sz : Nat) : Met l y_T_forget ws_T_forget ({ frames := 0, cells := 0, slots := 0, locals := 0 }) (va_Pc [.ref a_tx] (fun U => U.heap.size = sz ∧ zz adK adV (va_A [(a_tx, .inr (4, [.ref a_sg, .int 0, .int 0, .int 0]))] sz) U ∧ va_P (dC, dI) vwCl [(a_tx, .inr (4, [.ref a_sg, .int 0, .int 0, .int 0]))] U.heap ∧ va_K (dC, dI) vwCl [] U ∧ va_D (fun _ => True) [(a_tx, .inr (4, [.ref a_sg, .int 0, .int 0, .int 0]))])) (va_Qv (fun _ : Unit => True) (fun (_ : Unit) (_ : State) => True) (va_A [(a_tx, .inr (4, [.ref a_sg, .int 0, .int 0, .int 0]))] sz)) 0 0 (va_A [(a_tx, .inr (4, [.ref a_sg, .int 0, .int 0, .int 0]))] sz) := by
  refine Met.ofW (cc := c_T_forget) (maxL := 1) (ret := none) (by decide) rfl ?_
  intro p e s m args below meth c s₁ B hml hv
  obtain ⟨rfl, hsz, hZ, hP, hK, hD0⟩ := hv
  have hx := B.exec
  have hb := B.bytes
  have hr := B.returns
  have hts0 := atoms_spec (ws := ws_T_forget) B.pre
  have hts : ∀ w ∈ TT, w.before _ s = true := fun w h => hts0 w (List.mem_cons_of_mem _ h)
  have hown : s.vm.findClass "LoanRules$RuleText" = some m.cls := findClass_of_methodNamed B.named
  have hlocks := B.notSynchronized
  subst hsz
  have hD := hD0.self (sz := s.heap.size)
  generalize hAe : va_A [(a_tx, .inr (4, [.ref a_sg, .int 0, .int 0, .int 0]))] s.heap.size = A at hD hZ ⊢
  have hA : ∀ q : Nat, s.heap.size ≤ q → A q := fun q h => by rw [← hAe]; exact Or.inr h
  clear hAe hD0
  have hS : va_S A s.heap s.heap [] := va_S.rf
  replace hP : va_P (dC, dI) vwCl [(a_tx, .inr (4, [.ref a_sg, .int 0, .int 0, .int 0]))] s.heap := hP
  have hl := lv_entry ([.ref a_tx]) (n := 1) (Nat.le_of_ble_eq_true rfl)
  rw [lg_entry_eq]
  generalize (lg_sl ([.ref a_tx]) ++ List.replicate (1 - (lg_sl ([.ref a_tx])).length) Slot.unset).toArray = ls at hl ⊢
  replace hl : lv_has ls 1 [(0, .ref a_tx)] := hl
  refine lv_aload_n hx hb d_T_forget_0 rfl (lv_at hl 0 rfl) ?_
  refine lv_iconst (v := 0) hx hb d_T_forget_1 (by decide) ?_
  refine va_put (D := (dC, dI)) (ci := 4) (v := .int 0) (ty := .int) (C := "LoanRules$RuleText") (T := Fz_T) (N := 4) hx hb hts it_T tz_T tz_T_ok nz_T hown hK hP hD hS 0 rfl rfl 1 (by decide) (hts _ tw_73) (fun _ h9 => h9) rfl (by decide +kernel) rfl rfl (Nat.le_of_ble_eq_true rfl) d_T_forget_2 (fun H locs hP hD hS => ?_)
  replace hP : va_P (dC, dI) vwCl [(a_tx, .inr (4, [.ref a_sg, .int 0, .int 0, .int 0]))] H := hP
  replace hD : va_D A [(a_tx, .inr (4, [.ref a_sg, .int 0, .int 0, .int 0]))] := hD
  exact W.vret hx hb hr (fun t ht hW => ⟨⟨(), rfl, trivial, trivial⟩, hS.F ht⟩) hS.2.2 d_T_forget_5
set_option maxHeartbeats 4000000 in
set_option maxRecDepth 100000 in
theorem c_Rule_init (l : Launch) (dC : Nat → ClassId) (dI : Nat → Nat → Nat) (adK adV : Nat → Nat) (a_to : Nat) (sz : Nat) : Met l y_R_init ws_R_init ({ frames := 1, cells := 0, slots := 0, locals := 12 }) (va_Pc [.ref a_to] (fun U => U.heap.size = sz ∧ zz adK adV (va_A [(a_to, .inr (3, [.int 0, .int 0, .int 0, .int 0, .int 0, .int 0, .int 0, .int 0, .int 0, .int 0, .int 0]))] sz) U ∧ va_P (dC, dI) vwCl [(a_to, .inr (3, [.int 0, .int 0, .int 0, .int 0, .int 0, .int 0, .int 0, .int 0, .int 0, .int 0, .int 0]))] U.heap ∧ va_K (dC, dI) vwCl [] U ∧ va_D (fun _ => True) [(a_to, .inr (3, [.int 0, .int 0, .int 0, .int 0, .int 0, .int 0, .int 0, .int 0, .int 0, .int 0, .int 0]))])) (va_Qv (fun _ : Unit => True) (fun (_ : Unit) (t : State) => va_P (dC, dI) vwCl [(a_to, .inr (3, [.int (-1), .int (-1), .int (-1), .int 2, .int 0, .int 0, .int 0, .int 7, .int 0, .int 0, .int 0]))] t.heap ∧ va_K (dC, dI) vwCl [] t ∧ va_D (va_A [(a_to, .inr (3, [.int 0, .int 0, .int 0, .int 0, .int 0, .int 0, .int 0, .int 0, .int 0, .int 0, .int 0]))] sz) [(a_to, .inr (3, [.int (-1), .int (-1), .int (-1), .int 2, .int 0, .int 0, .int 0, .int 7, .int 0, .int 0, .int 0]))]) (va_A [(a_to, .inr (3, [.int 0, .int 0, .int 0, .int 0, .int 0, .int 0, .int 0, .int 0, .int 0, .int 0, .int 0]))] sz)) 0 0 (va_A [(a_to, .inr (3, [.int 0, .int 0, .int 0, .int 0, .int 0, .int 0, .int 0, .int 0, .int 0, .int 0, .int 0]))] sz) := by
  refine Met.ofW (cc := c_R_init) (maxL := 1) (ret := none) (by decide) rfl ?_
  intro p e s m args below meth c s₁ B hml hv
  obtain ⟨rfl, hsz, hZ, hP, hK, hD0⟩ := hv
  have hx := B.exec
  have hb := B.bytes
  have hr := B.returns
  have hts0 := atoms_spec (ws := ws_R_init) B.pre
  have hts : ∀ w ∈ TT, w.before _ s = true := fun w h => hts0 w (List.mem_cons_of_mem _ h)
  have hown : s.vm.findClass "LoanRules$Rule" = some m.cls := findClass_of_methodNamed B.named
  have hlocks := B.notSynchronized
  have hin : meth.name = "<init>" := (name_of_methodNamed B.named B.method).1
  subst hsz
  have hD := hD0.self (sz := s.heap.size)
  generalize hAe : va_A [(a_to, .inr (3, [.int 0, .int 0, .int 0, .int 0, .int 0, .int 0, .int 0, .int 0, .int 0, .int 0, .int 0]))] s.heap.size = A at hD hZ ⊢
  have hA : ∀ q : Nat, s.heap.size ≤ q → A q := fun q h => by rw [← hAe]; exact Or.inr h
  clear hAe hD0
  have hS : va_S A s.heap s.heap [] := va_S.rf
  replace hP : va_P (dC, dI) vwCl [(a_to, .inr (3, [.int 0, .int 0, .int 0, .int 0, .int 0, .int 0, .int 0, .int 0, .int 0, .int 0, .int 0]))] s.heap := hP
  have hl := lv_entry ([.ref a_to]) (n := 1) (Nat.le_of_ble_eq_true rfl)
  rw [lg_entry_eq]
  generalize (lg_sl ([.ref a_to]) ++ List.replicate (1 - (lg_sl ([.ref a_to])).length) Slot.unset).toArray = ls at hl ⊢
  replace hl : lv_has ls 1 [(0, .ref a_to)] := hl
  refine lv_aload_n hx hb d_R_init_0 rfl (lv_at hl 0 rfl) ?_
  refine W.objInit hx hb hown (hts _ tw_171) (hts _ tw_64) (hts _ tw_65) rfl (by rw [hml]; exact hl.1) rfl d_R_init_1 (Nat.le_of_ble_eq_true rfl) (Nat.le_of_ble_eq_true rfl) ?_
  refine W.eq (g2 := F0 m 4 ls []) rfl ?_
  refine lv_aload_n hx hb d_R_init_4 rfl (lv_at hl 0 rfl) ?_
  refine lv_iconst (v := (-1)) hx hb d_R_init_5 (by decide) ?_
  refine va_put (D := (dC, dI)) (ci := 3) (v := .int (-1)) (ty := .int) (C := "LoanRules$Rule") (T := Fz_R) (N := 11) hx hb hts it_R tz_R tz_R_ok nz_R hown hK hP hD hS 0 rfl rfl 0 (by decide) (hts _ tw_172) (fun _ h9 => h9) rfl (by decide +kernel) rfl rfl (Nat.le_of_ble_eq_true rfl) d_R_init_6 (fun H locs hP hD hS => ?_)
  replace hP : va_P (dC, dI) vwCl [(a_to, .inr (3, [.int (-1), .int 0, .int 0, .int 0, .int 0, .int 0, .int 0, .int 0, .int 0, .int 0, .int 0]))] H := hP
  replace hD : va_D A [(a_to, .inr (3, [.int (-1), .int 0, .int 0, .int 0, .int 0, .int 0, .int 0, .int 0, .int 0, .int 0, .int 0]))] := hD
  refine lv_aload_n hx hb d_R_init_9 rfl (lv_at hl 0 rfl) ?_
  refine lv_iconst (v := (-1)) hx hb d_R_init_10 (by decide) ?_
  refine va_put (D := (dC, dI)) (ci := 3) (v := .int (-1)) (ty := .int) (C := "LoanRules$Rule") (T := Fz_R) (N := 11) hx hb hts it_R tz_R tz_R_ok nz_R hown hK hP hD hS 0 rfl rfl 1 (by decide) (hts _ tw_175) (fun _ h9 => h9) rfl (by decide +kernel) rfl rfl (Nat.le_of_ble_eq_true rfl) d_R_init_11 (fun H locs hP hD hS => ?_)
  replace hP : va_P (dC, dI) vwCl [(a_to, .inr (3, [.int (-1), .int (-1), .int 0, .int 0, .int 0, .int 0, .int 0, .int 0, .int 0, .int 0, .int 0]))] H := hP
  replace hD : va_D A [(a_to, .inr (3, [.int (-1), .int (-1), .int 0, .int 0, .int 0, .int 0, .int 0, .int 0, .int 0, .int 0, .int 0]))] := hD
  refine lv_aload_n hx hb d_R_init_14 rfl (lv_at hl 0 rfl) ?_
  refine lv_iconst (v := (-1)) hx hb d_R_init_15 (by decide) ?_
  refine va_put (D := (dC, dI)) (ci := 3) (v := .int (-1)) (ty := .int) (C := "LoanRules$Rule") (T := Fz_R) (N := 11) hx hb hts it_R tz_R tz_R_ok nz_R hown hK hP hD hS 0 rfl rfl 2 (by decide) (hts _ tw_178) (fun _ h9 => h9) rfl (by decide +kernel) rfl rfl (Nat.le_of_ble_eq_true rfl) d_R_init_16 (fun H locs hP hD hS => ?_)
  replace hP : va_P (dC, dI) vwCl [(a_to, .inr (3, [.int (-1), .int (-1), .int (-1), .int 0, .int 0, .int 0, .int 0, .int 0, .int 0, .int 0, .int 0]))] H := hP
  replace hD : va_D A [(a_to, .inr (3, [.int (-1), .int (-1), .int (-1), .int 0, .int 0, .int 0, .int 0, .int 0, .int 0, .int 0, .int 0]))] := hD
  refine lv_aload_n hx hb d_R_init_19 rfl (lv_at hl 0 rfl) ?_
  refine lv_iconst (v := 2) hx hb d_R_init_20 (by decide) ?_
  refine va_put (D := (dC, dI)) (ci := 3) (v := .int 2) (ty := .int) (C := "LoanRules$Rule") (T := Fz_R) (N := 11) hx hb hts it_R tz_R tz_R_ok nz_R hown hK hP hD hS 0 rfl rfl 3 (by decide) (hts _ tw_181) (fun _ h9 => h9) rfl (by decide +kernel) rfl rfl (Nat.le_of_ble_eq_true rfl) d_R_init_21 (fun H locs hP hD hS => ?_)
  replace hP : va_P (dC, dI) vwCl [(a_to, .inr (3, [.int (-1), .int (-1), .int (-1), .int 2, .int 0, .int 0, .int 0, .int 0, .int 0, .int 0, .int 0]))] H := hP
  replace hD : va_D A [(a_to, .inr (3, [.int (-1), .int (-1), .int (-1), .int 2, .int 0, .int 0, .int 0, .int 0, .int 0, .int 0, .int 0]))] := hD
  refine lv_aload_n hx hb d_R_init_24 rfl (lv_at hl 0 rfl) ?_
  refine lv_iconst (v := 0) hx hb d_R_init_25 (by decide) ?_
  refine va_put (D := (dC, dI)) (ci := 3) (v := .int 0) (ty := .int) (C := "LoanRules$Rule") (T := Fz_R) (N := 11) hx hb hts it_R tz_R tz_R_ok nz_R hown hK hP hD hS 0 rfl rfl 4 (by decide) (hts _ tw_184) (fun _ h9 => h9) rfl (by decide +kernel) rfl rfl (Nat.le_of_ble_eq_true rfl) d_R_init_26 (fun H locs hP hD hS => ?_)
  replace hP : va_P (dC, dI) vwCl [(a_to, .inr (3, [.int (-1), .int (-1), .int (-1), .int 2, .int 0, .int 0, .int 0, .int 0, .int 0, .int 0, .int 0]))] H := hP
  replace hD : va_D A [(a_to, .inr (3, [.int (-1), .int (-1), .int (-1), .int 2, .int 0, .int 0, .int 0, .int 0, .int 0, .int 0, .int 0]))] := hD
  refine lv_aload_n hx hb d_R_init_29 rfl (lv_at hl 0 rfl) ?_
  refine lv_iconst (v := 0) hx hb d_R_init_30 (by decide) ?_
  refine va_put (D := (dC, dI)) (ci := 3) (v := .int 0) (ty := .int) (C := "LoanRules$Rule") (T := Fz_R) (N := 11) hx hb hts it_R tz_R tz_R_ok nz_R hown hK hP hD hS 0 rfl rfl 5 (by decide) (hts _ tw_187) (fun _ h9 => h9) rfl (by decide +kernel) rfl rfl (Nat.le_of_ble_eq_true rfl) d_R_init_31 (fun H locs hP hD hS => ?_)
  replace hP : va_P (dC, dI) vwCl [(a_to, .inr (3, [.int (-1), .int (-1), .int (-1), .int 2, .int 0, .int 0, .int 0, .int 0, .int 0, .int 0, .int 0]))] H := hP
  replace hD : va_D A [(a_to, .inr (3, [.int (-1), .int (-1), .int (-1), .int 2, .int 0, .int 0, .int 0, .int 0, .int 0, .int 0, .int 0]))] := hD
  refine lv_aload_n hx hb d_R_init_34 rfl (lv_at hl 0 rfl) ?_
  refine lv_iconst (v := 0) hx hb d_R_init_35 (by decide) ?_
  refine va_put (D := (dC, dI)) (ci := 3) (v := .int 0) (ty := .int) (C := "LoanRules$Rule") (T := Fz_R) (N := 11) hx hb hts it_R tz_R tz_R_ok nz_R hown hK hP hD hS 0 rfl rfl 6 (by decide) (hts _ tw_190) (fun _ h9 => h9) rfl (by decide +kernel) rfl rfl (Nat.le_of_ble_eq_true rfl) d_R_init_36 (fun H locs hP hD hS => ?_)
  replace hP : va_P (dC, dI) vwCl [(a_to, .inr (3, [.int (-1), .int (-1), .int (-1), .int 2, .int 0, .int 0, .int 0, .int 0, .int 0, .int 0, .int 0]))] H := hP
  replace hD : va_D A [(a_to, .inr (3, [.int (-1), .int (-1), .int (-1), .int 2, .int 0, .int 0, .int 0, .int 0, .int 0, .int 0, .int 0]))] := hD
  refine lv_aload_n hx hb d_R_init_39 rfl (lv_at hl 0 rfl) ?_
  refine lv_bipush (v := 7) hx hb d_R_init_40 (by decide) ?_
  refine va_put (D := (dC, dI)) (ci := 3) (v := .int 7) (ty := .int) (C := "LoanRules$Rule") (T := Fz_R) (N := 11) hx hb hts it_R tz_R tz_R_ok nz_R hown hK hP hD hS 0 rfl rfl 7 (by decide) (hts _ tw_193) (fun _ h9 => h9) rfl (by decide +kernel) rfl rfl (Nat.le_of_ble_eq_true rfl) d_R_init_42 (fun H locs hP hD hS => ?_)
  replace hP : va_P (dC, dI) vwCl [(a_to, .inr (3, [.int (-1), .int (-1), .int (-1), .int 2, .int 0, .int 0, .int 0, .int 7, .int 0, .int 0, .int 0]))] H := hP
  replace hD : va_D A [(a_to, .inr (3, [.int (-1), .int (-1), .int (-1), .int 2, .int 0, .int 0, .int 0, .int 7, .int 0, .int 0, .int 0]))] := hD
  refine lv_aload_n hx hb d_R_init_45 rfl (lv_at hl 0 rfl) ?_
  refine lv_iconst (v := 0) hx hb d_R_init_46 (by decide) ?_
  refine va_put (D := (dC, dI)) (ci := 3) (v := .int 0) (ty := .int) (C := "LoanRules$Rule") (T := Fz_R) (N := 11) hx hb hts it_R tz_R tz_R_ok nz_R hown hK hP hD hS 0 rfl rfl 8 (by decide) (hts _ tw_196) (fun _ h9 => h9) rfl (by decide +kernel) rfl rfl (Nat.le_of_ble_eq_true rfl) d_R_init_47 (fun H locs hP hD hS => ?_)
  replace hP : va_P (dC, dI) vwCl [(a_to, .inr (3, [.int (-1), .int (-1), .int (-1), .int 2, .int 0, .int 0, .int 0, .int 7, .int 0, .int 0, .int 0]))] H := hP
  replace hD : va_D A [(a_to, .inr (3, [.int (-1), .int (-1), .int (-1), .int 2, .int 0, .int 0, .int 0, .int 7, .int 0, .int 0, .int 0]))] := hD
  refine lv_aload_n hx hb d_R_init_50 rfl (lv_at hl 0 rfl) ?_
  refine lv_iconst (v := 0) hx hb d_R_init_51 (by decide) ?_
  refine va_put (D := (dC, dI)) (ci := 3) (v := .int 0) (ty := .boolean) (C := "LoanRules$Rule") (T := Fz_R) (N := 11) hx hb hts it_R tz_R tz_R_ok nz_R hown hK hP hD hS 0 rfl rfl 9 (by decide) (hts _ tw_199) (fun _ h9 => h9) rfl (by decide +kernel) rfl rfl (Nat.le_of_ble_eq_true rfl) d_R_init_52 (fun H locs hP hD hS => ?_)
  replace hP : va_P (dC, dI) vwCl [(a_to, .inr (3, [.int (-1), .int (-1), .int (-1), .int 2, .int 0, .int 0, .int 0, .int 7, .int 0, .int 0, .int 0]))] H := hP
  replace hD : va_D A [(a_to, .inr (3, [.int (-1), .int (-1), .int (-1), .int 2, .int 0, .int 0, .int 0, .int 7, .int 0, .int 0, .int 0]))] := hD
  refine lv_aload_n hx hb d_R_init_55 rfl (lv_at hl 0 rfl) ?_
  refine lv_iconst (v := 0) hx hb d_R_init_56 (by decide) ?_
  refine va_put (D := (dC, dI)) (ci := 3) (v := .int 0) (ty := .boolean) (C := "LoanRules$Rule") (T := Fz_R) (N := 11) hx hb hts it_R tz_R tz_R_ok nz_R hown hK hP hD hS 0 rfl rfl 10 (by decide) (hts _ tw_201) (fun _ h9 => h9) rfl (by decide +kernel) rfl rfl (Nat.le_of_ble_eq_true rfl) d_R_init_57 (fun H locs hP hD hS => ?_)
  replace hP : va_P (dC, dI) vwCl [(a_to, .inr (3, [.int (-1), .int (-1), .int (-1), .int 2, .int 0, .int 0, .int 0, .int 7, .int 0, .int 0, .int 0]))] H := hP
  replace hD : va_D A [(a_to, .inr (3, [.int (-1), .int (-1), .int (-1), .int 2, .int 0, .int 0, .int 0, .int 7, .int 0, .int 0, .int 0]))] := hD
  have hP9 := hP.sub (ws' := [(a_to, .inr (3, [.int (-1), .int (-1), .int (-1), .int 2, .int 0, .int 0, .int 0, .int 7, .int 0, .int 0, .int 0]))]) [0] rfl
  have hD9 := hD.sub (ws' := [(a_to, .inr (3, [.int (-1), .int (-1), .int (-1), .int 2, .int 0, .int 0, .int 0, .int 7, .int 0, .int 0, .int 0]))]) [0] (by decide) rfl
  have hK9 := hK.sub (tys' := []) [] rfl
  exact W.vret hx hb hr (fun t ht hW => ⟨⟨(), rfl, trivial, by rw [ht]; exact hP9, va_K.moved hW.alike hK9, hD9⟩, hS.F ht⟩) hS.2.2 d_R_init_60
set_option maxHeartbeats 4000000 in
set_option maxRecDepth 100000 in
theorem c_rule (l : Launch) (dC : Nat → ClassId) (dI : Nat → Nat → Nat) (adK adV : Nat → Nat) (a_h : Nat) (a_tx : Nat) (a_ru : Nat) (a_cd : Nat) (a_te : Nat) (a_ki : Nat) (a_ca : Nat) (a_ty : Nat) (a_io : Nat) (a_ex : Nat) (a_lo : Nat) (a_fi : Nat) (a_cl : Nat) (a_sg : Nat) (sz : Nat) : Met l y_C_rule ws_C_rule ({ frames := 7, cells := 1, slots := 11, locals := 152 }) (va_Pc [.ref a_h] (fun U => U.heap.size = sz ∧ zz adK adV (va_A [(a_h, .inr (0, [.ref a_tx, .ref a_ru, .int 0, .ref a_cd, .ref a_te, .ref a_ki, .ref a_ca, .ref a_ty, .ref a_io, .ref a_ex, .ref a_lo, .int 0, .ref a_fi, .int 0, .ref a_cl, .int 0])), (a_tx, .inr (4, [.ref a_sg, .int 0, .int 0, .int (-1)]))] sz) U ∧ va_P (dC, dI) vwCl [(a_h, .inr (0, [.ref a_tx, .ref a_ru, .int 0, .ref a_cd, .ref a_te, .ref a_ki, .ref a_ca, .ref a_ty, .ref a_io, .ref a_ex, .ref a_lo, .int 0, .ref a_fi, .int 0, .ref a_cl, .int 0])), (a_tx, .inr (4, [.ref a_sg, .int 0, .int 0, .int (-1)]))] U.heap ∧ va_K (dC, dI) vwCl [] U ∧ va_D (fun _ => True) [(a_h, .inr (0, [.ref a_tx, .ref a_ru, .int 0, .ref a_cd, .ref a_te, .ref a_ki, .ref a_ca, .ref a_ty, .ref a_io, .ref a_ex, .ref a_lo, .int 0, .ref a_fi, .int 0, .ref a_cl, .int 0])), (a_tx, .inr (4, [.ref a_sg, .int 0, .int 0, .int (-1)]))])) (va_Qi (fun (r : Int32) (_ : Unit) => r = (-1)) (fun (_ : Unit) (_ : State) => True) (va_A [(a_h, .inr (0, [.ref a_tx, .ref a_ru, .int 0, .ref a_cd, .ref a_te, .ref a_ki, .ref a_ca, .ref a_ty, .ref a_io, .ref a_ex, .ref a_lo, .int 0, .ref a_fi, .int 0, .ref a_cl, .int 0])), (a_tx, .inr (4, [.ref a_sg, .int 0, .int 0, .int (-1)]))] sz)) 1 11 (va_A [(a_h, .inr (0, [.ref a_tx, .ref a_ru, .int 0, .ref a_cd, .ref a_te, .ref a_ki, .ref a_ca, .ref a_ty, .ref a_io, .ref a_ex, .ref a_lo, .int 0, .ref a_fi, .int 0, .ref a_cl, .int 0])), (a_tx, .inr (4, [.ref a_sg, .int 0, .int 0, .int (-1)]))] sz) := by
  refine Met.ofW (cc := c_C_rule) (maxL := 3) (ret := (some .int)) (by decide) rfl ?_
  intro p e s m args below meth c s₁ B hml hv
  obtain ⟨rfl, hsz, hZ, hP, hK, hD0⟩ := hv
  have hx := B.exec
  have hb := B.bytes
  have hr := B.returns
  have hts0 := atoms_spec (ws := ws_C_rule) B.pre
  have hts : ∀ w ∈ TT, w.before _ s = true := fun w h => hts0 w (List.mem_cons_of_mem _ h)
  have hown : s.vm.findClass "LoanRules" = some m.cls := findClass_of_methodNamed B.named
  have hlocks := B.notSynchronized
  subst hsz
  have hD := hD0.self (sz := s.heap.size)
  generalize hAe : va_A [(a_h, .inr (0, [.ref a_tx, .ref a_ru, .int 0, .ref a_cd, .ref a_te, .ref a_ki, .ref a_ca, .ref a_ty, .ref a_io, .ref a_ex, .ref a_lo, .int 0, .ref a_fi, .int 0, .ref a_cl, .int 0])), (a_tx, .inr (4, [.ref a_sg, .int 0, .int 0, .int (-1)]))] s.heap.size = A at hD hZ ⊢
  have hA : ∀ q : Nat, s.heap.size ≤ q → A q := fun q h => by rw [← hAe]; exact Or.inr h
  clear hAe hD0
  have hS : va_S A s.heap s.heap [] := va_S.rf
  replace hP : va_P (dC, dI) vwCl [(a_h, .inr (0, [.ref a_tx, .ref a_ru, .int 0, .ref a_cd, .ref a_te, .ref a_ki, .ref a_ca, .ref a_ty, .ref a_io, .ref a_ex, .ref a_lo, .int 0, .ref a_fi, .int 0, .ref a_cl, .int 0])), (a_tx, .inr (4, [.ref a_sg, .int 0, .int 0, .int (-1)]))] s.heap := hP
  have hl := lv_entry ([.ref a_h]) (n := 3) (Nat.le_of_ble_eq_true rfl)
  rw [lg_entry_eq]
  generalize (lg_sl ([.ref a_h]) ++ List.replicate (3 - (lg_sl ([.ref a_h])).length) Slot.unset).toArray = ls at hl ⊢
  replace hl : lv_has ls 3 [(0, .ref a_h)] := hl
  refine va_new (ci := 3) (fs := [.int 0, .int 0, .int 0, .int 0, .int 0, .int 0, .int 0, .int 0, .int 0, .int 0, .int 0]) (C := "LoanRules$Rule") (T := Fz_R) (N := 11) hx hb hts it_R tz_R tz_R_ok hown (hts _ tw_86) (hts _ tw_167) (hts _ tw_47) hK hP hD hS hA rfl (by decide) (Nat.le_of_ble_eq_true rfl) (Nat.le_of_ble_eq_true rfl) d_C_rule_0 (fun q_1 H hP hD hS => ?_)
  refine W.widen (k := 1) (n := 11) (by omega) (by omega) ?_
  replace hP : va_P (dC, dI) vwCl [(a_h, .inr (0, [.ref a_tx, .ref a_ru, .int 0, .ref a_cd, .ref a_te, .ref a_ki, .ref a_ca, .ref a_ty, .ref a_io, .ref a_ex, .ref a_lo, .int 0, .ref a_fi, .int 0, .ref a_cl, .int 0])), (a_tx, .inr (4, [.ref a_sg, .int 0, .int 0, .int (-1)])), (q_1, .inr (3, [.int 0, .int 0, .int 0, .int 0, .int 0, .int 0, .int 0, .int 0, .int 0, .int 0, .int 0]))] H := hP
  replace hD : va_D A [(a_h, .inr (0, [.ref a_tx, .ref a_ru, .int 0, .ref a_cd, .ref a_te, .ref a_ki, .ref a_ca, .ref a_ty, .ref a_io, .ref a_ex, .ref a_lo, .int 0, .ref a_fi, .int 0, .ref a_cl, .int 0])), (a_tx, .inr (4, [.ref a_sg, .int 0, .int 0, .int (-1)])), (q_1, .inr (3, [.int 0, .int 0, .int 0, .int 0, .int 0, .int 0, .int 0, .int 0, .int 0, .int 0, .int 0]))] := hD
  refine lv_dup hx hb d_C_rule_3 rfl ?_
  have hPc := hP.sub (ws' := [(q_1, .inr (3, [.int 0, .int 0, .int 0, .int 0, .int 0, .int 0, .int 0, .int 0, .int 0, .int 0, .int 0]))]) [2] rfl
  have hKc := hK.sub (tys' := []) [] rfl
  have hDc := hD.sub (ws' := [(q_1, .inr (3, [.int 0, .int 0, .int 0, .int 0, .int 0, .int 0, .int 0, .int 0, .int 0, .int 0, .int 0]))]) [2] (by decide) rfl
  have hFc := va_free (wc := [(q_1, .inr (3, [.int 0, .int 0, .int 0, .int 0, .int 0, .int 0, .int 0, .int 0, .int 0, .int 0, .int 0]))]) hD hS hA [2] rfl
  refine va_callv (va_runIN (As := []) (rest := [.ref q_1]) ⟨hx, hb, hml, hown, hts⟩ (c_Rule_init l dC dI adK adV (a_to := q_1) (sz := H.size)) ⟨va_cnB 0 hts (gI tw_170) rfl rfl rfl (zn_C_84 hZ) (hts _ tw_47) (by decide +kernel) ⟨(Nat.le_of_ble_eq_true rfl), (Nat.le_of_ble_eq_true rfl)⟩, rfl, (hts _ tw_169)⟩ ⟨fun a U g mk q => by obtain ⟨q0, q1, qZ, qP, qK, qD⟩ := q; exact ⟨q0, q1, zz_call qZ, qP, va_K.moved (u := U) (U := U.calling g mk a) (Vm.Alike.refl U.vm) qK, qD⟩, fun U hU hW => ⟨rfl, by rw [hU], zz_rw hS hFc hU hW hZ, by rw [hU]; exact hPc, va_K.moved hW.alike hKc, hDc.weaken (fun _ _ _ _ => trivial)⟩⟩ rfl rfl hl.1 rfl (lv_room (Nat.le_of_ble_eq_true rfl)) d_C_rule_4 ⟨(Nat.le_of_ble_eq_true rfl), (Nat.le_of_ble_eq_true rfl)⟩) hS (fun q _ h => hFc q h) hFc (fun u t H1 locs ht hvm hw_2 hB hz1 hk1 hS => ?_)
  obtain ⟨hP1, hK1, hD1⟩ := hB
  rw [ht] at hP1
  have hK1 := va_K.moved hvm.symm hK1
  obtain ⟨hP, hD⟩ := va_join (wr := [(a_h, .inr (0, [.ref a_tx, .ref a_ru, .int 0, .ref a_cd, .ref a_te, .ref a_ki, .ref a_ca, .ref a_ty, .ref a_io, .ref a_ex, .ref a_lo, .int 0, .ref a_fi, .int 0, .ref a_cl, .int 0])), (a_tx, .inr (4, [.ref a_sg, .int 0, .int 0, .int (-1)]))]) (w1 := [(q_1, .inr (3, [.int (-1), .int (-1), .int (-1), .int 2, .int 0, .int 0, .int 0, .int 7, .int 0, .int 0, .int 0]))]) hP hD [2] [0, 1] rfl rfl (by decide) (by decide) hk1 hFc hP1 hD1
  have hK := (hK.sub (tys' := []) [] rfl).app hK1
  generalize H1 = H at hP hS ⊢
  replace hP : va_P (dC, dI) vwCl [(a_h, .inr (0, [.ref a_tx, .ref a_ru, .int 0, .ref a_cd, .ref a_te, .ref a_ki, .ref a_ca, .ref a_ty, .ref a_io, .ref a_ex, .ref a_lo, .int 0, .ref a_fi, .int 0, .ref a_cl, .int 0])), (a_tx, .inr (4, [.ref a_sg, .int 0, .int 0, .int (-1)])), (q_1, .inr (3, [.int (-1), .int (-1), .int (-1), .int 2, .int 0, .int 0, .int 0, .int 7, .int 0, .int 0, .int 0]))] H := hP
  replace hD : va_D A [(a_h, .inr (0, [.ref a_tx, .ref a_ru, .int 0, .ref a_cd, .ref a_te, .ref a_ki, .ref a_ca, .ref a_ty, .ref a_io, .ref a_ex, .ref a_lo, .int 0, .ref a_fi, .int 0, .ref a_cl, .int 0])), (a_tx, .inr (4, [.ref a_sg, .int 0, .int 0, .int (-1)])), (q_1, .inr (3, [.int (-1), .int (-1), .int (-1), .int 2, .int 0, .int 0, .int 0, .int 7, .int 0, .int 0, .int 0]))] := hD
  replace hK : va_K (dC, dI) vwCl [] s := hK
  refine lv_astore_n (lv' := [(1, .ref q_1), (0, .ref a_h)]) hx hb d_C_rule_7 rfl hl (by decide) rfl (fun ls hl => ?_)
  refine lv_aload_n hx hb d_C_rule_8 rfl (lv_at hl 1 rfl) ?_
  refine va_get (D := (dC, dI)) (ci := 0) (v := .ref a_tx) (C := "LoanRules") (T := Fz_C) (N := 16) hx hb hts it_C hown hK hP 0 rfl rfl 0 (by decide) (hts _ tw_104) (fun _ h9 => h9) rfl d_C_rule_9 ?_
  refine lv_aload_n hx hb d_C_rule_12 rfl (lv_at hl 0 rfl) ?_
  have hPc := hP.sub (ws' := [(a_tx, .inr (4, [.ref a_sg, .int 0, .int 0, .int (-1)])), (q_1, .inr (3, [.int (-1), .int (-1), .int (-1), .int 2, .int 0, .int 0, .int 0, .int 7, .int 0, .int 0, .int 0]))]) [1, 2] rfl
  have hKc := hK.sub (tys' := []) [] rfl
  have hDc := hD.sub (ws' := [(a_tx, .inr (4, [.ref a_sg, .int 0, .int 0, .int (-1)])), (q_1, .inr (3, [.int (-1), .int (-1), .int (-1), .int 2, .int 0, .int 0, .int 0, .int 7, .int 0, .int 0, .int 0]))]) [1, 2] (by decide) rfl
  have hFc := va_free (wc := [(a_tx, .inr (4, [.ref a_sg, .int 0, .int 0, .int (-1)])), (q_1, .inr (3, [.int (-1), .int (-1), .int (-1), .int 2, .int 0, .int 0, .int 0, .int 7, .int 0, .int 0, .int 0]))]) hD hS hA [1, 2] rfl
  refine va_calli (va_runV (As := [.ref q_1]) (rest := []) ⟨hx, hb, hml, hown, hts⟩ (c_readInto l dC dI adK adV (a_tx := a_tx) (a_to := q_1) (a_sg := a_sg) (sz := H.size)) (cwV 1 hts (gV tw_226 tw_227 tw_228 tw_43 tw_229) rfl rfl rfl (by decide +kernel) ⟨(Nat.le_of_ble_eq_true rfl), (Nat.le_of_ble_eq_true rfl)⟩) ⟨fun a U g mk q => by obtain ⟨q0, q1, qZ, qP, qK, qD⟩ := q; exact ⟨q0, q1, zz_call qZ, qP, va_K.moved (u := U) (U := U.calling g mk a) (Vm.Alike.refl U.vm) qK, qD⟩, va_recv hKc hPc (ci := 4) (q0 := 0) rfl rfl, fun U hU hW => ⟨rfl, by rw [hU], zz_rw hS hFc hU hW hZ, by rw [hU]; exact hPc, va_K.moved hW.alike hKc, hDc.weaken (fun _ _ _ _ => trivial)⟩⟩ rfl rfl hl.1 rfl (lv_room (Nat.le_of_ble_eq_true rfl)) d_C_rule_13 ⟨(Nat.le_of_ble_eq_true rfl), (Nat.le_of_ble_eq_true rfl)⟩) hS (fun q _ h => hFc q h) hFc (fun r_3 u t H1 locs ht hvm hw_4 hB hz1 hk1 hS => ?_)
  obtain rfl : r_3 = 0 := hw_4
  obtain ⟨hP1, hK1, hD1⟩ := hB
  rw [ht] at hP1
  have hK1 := va_K.moved hvm.symm hK1
  obtain ⟨hP, hD⟩ := va_join (wr := [(a_h, .inr (0, [.ref a_tx, .ref a_ru, .int 0, .ref a_cd, .ref a_te, .ref a_ki, .ref a_ca, .ref a_ty, .ref a_io, .ref a_ex, .ref a_lo, .int 0, .ref a_fi, .int 0, .ref a_cl, .int 0]))]) (w1 := [(a_tx, .inr (4, [.ref a_sg, .int 0, .int 0, .int 0]))]) hP hD [1, 2] [0] rfl rfl (by decide) (by decide) hk1 hFc hP1 hD1
  have hK := (hK.sub (tys' := []) [] rfl).app hK1
  generalize H1 = H at hP hS ⊢
  replace hP : va_P (dC, dI) vwCl [(a_h, .inr (0, [.ref a_tx, .ref a_ru, .int 0, .ref a_cd, .ref a_te, .ref a_ki, .ref a_ca, .ref a_ty, .ref a_io, .ref a_ex, .ref a_lo, .int 0, .ref a_fi, .int 0, .ref a_cl, .int 0])), (a_tx, .inr (4, [.ref a_sg, .int 0, .int 0, .int 0]))] H := hP
  replace hD : va_D A [(a_h, .inr (0, [.ref a_tx, .ref a_ru, .int 0, .ref a_cd, .ref a_te, .ref a_ki, .ref a_ca, .ref a_ty, .ref a_io, .ref a_ex, .ref a_lo, .int 0, .ref a_fi, .int 0, .ref a_cl, .int 0])), (a_tx, .inr (4, [.ref a_sg, .int 0, .int 0, .int 0]))] := hD
  replace hK : va_K (dC, dI) vwCl [] s := hK
  refine lv_istore_n (lv' := [(2, .int 0), (1, .ref q_1), (0, .ref a_h)]) hx hb d_C_rule_16 rfl hl (by decide) rfl (fun ls hl => ?_)
  refine lv_aload_n hx hb d_C_rule_17 rfl (lv_at hl 2 rfl) ?_
  refine va_get (D := (dC, dI)) (ci := 0) (v := .ref a_tx) (C := "LoanRules") (T := Fz_C) (N := 16) hx hb hts it_C hown hK hP 0 rfl rfl 0 (by decide) (hts _ tw_104) (fun _ h9 => h9) rfl d_C_rule_18 ?_
  have hPc := hP.sub (ws' := [(a_tx, .inr (4, [.ref a_sg, .int 0, .int 0, .int 0]))]) [1] rfl
  have hKc := hK.sub (tys' := []) [] rfl
  have hDc := hD.sub (ws' := [(a_tx, .inr (4, [.ref a_sg, .int 0, .int 0, .int 0]))]) [1] (by decide) rfl
  have hFc := va_free (wc := [(a_tx, .inr (4, [.ref a_sg, .int 0, .int 0, .int 0]))]) hD hS hA [1] rfl
  refine va_callv (va_runV (As := []) (rest := []) ⟨hx, hb, hml, hown, hts⟩ (c_forget l dC dI adK adV (a_tx := a_tx) (a_sg := a_sg) (sz := H.size)) (cwV 0 hts (gV tw_343 tw_344 tw_345 tw_43 tw_346) rfl rfl rfl (by decide +kernel) ⟨(Nat.le_of_ble_eq_true rfl), (Nat.le_of_ble_eq_true rfl)⟩) ⟨fun a U g mk q => by obtain ⟨q0, q1, qZ, qP, qK, qD⟩ := q; exact ⟨q0, q1, zz_call qZ, qP, va_K.moved (u := U) (U := U.calling g mk a) (Vm.Alike.refl U.vm) qK, qD⟩, va_recv hKc hPc (ci := 4) (q0 := 0) rfl rfl, fun U hU hW => ⟨rfl, by rw [hU], zz_rw hS hFc hU hW hZ, by rw [hU]; exact hPc, va_K.moved hW.alike hKc, hDc.weaken (fun _ _ _ _ => trivial)⟩⟩ rfl rfl hl.1 rfl (lv_room (Nat.le_of_ble_eq_true rfl)) d_C_rule_21 ⟨(Nat.le_of_ble_eq_true rfl), (Nat.le_of_ble_eq_true rfl)⟩) hS (fun q _ h => hFc q h) hFc (fun u t H1 locs ht hvm hw_5 hB hz1 hk1 hS => ?_)
  obtain ⟨hP, hD⟩ := va_join (wr := [(a_h, .inr (0, [.ref a_tx, .ref a_ru, .int 0, .ref a_cd, .ref a_te, .ref a_ki, .ref a_ca, .ref a_ty, .ref a_io, .ref a_ex, .ref a_lo, .int 0, .ref a_fi, .int 0, .ref a_cl, .int 0]))]) (w1 := []) hP hD [1] [0] rfl rfl (by decide) (by decide) hk1 hFc wn_P wn_D
  have hK := hK.sub (tys' := []) [] rfl
  generalize H1 = H at hP hS ⊢
  replace hP : va_P (dC, dI) vwCl [(a_h, .inr (0, [.ref a_tx, .ref a_ru, .int 0, .ref a_cd, .ref a_te, .ref a_ki, .ref a_ca, .ref a_ty, .ref a_io, .ref a_ex, .ref a_lo, .int 0, .ref a_fi, .int 0, .ref a_cl, .int 0]))] H := hP
  replace hD : va_D A [(a_h, .inr (0, [.ref a_tx, .ref a_ru, .int 0, .ref a_cd, .ref a_te, .ref a_ki, .ref a_ca, .ref a_ty, .ref a_io, .ref a_ex, .ref a_lo, .int 0, .ref a_fi, .int 0, .ref a_cl, .int 0]))] := hD
  refine lv_iload_n hx hb d_C_rule_24 rfl (lv_at hl 0 rfl) ?_
  refine lv_iconst (v := (-1)) hx hb d_C_rule_25 (by decide) ?_
  refine lv_icmp_eq (tgt := 33) hx hb d_C_rule_26 (by decide) (fun c_6 => ?_) (fun c_6 => ?_)
  · exact absurd c_6 (by decide)
  · refine lv_iconst (v := (-1)) hx hb d_C_rule_29 (by decide) ?_
    refine lv_iload_n hx hb d_C_rule_30 rfl (lv_at hl 0 rfl) ?_
    refine lv_isub hx hb d_C_rule_31 ?_
    refine lv_topi (fun x_7 ex_7 => ?_)
    obtain rfl : x_7 = (-1) := ex_7.trans (by decide)
    exact W.iret (v := (-1)) hx hb hr (fun t ht hW => ⟨⟨(-1), (), rfl, rfl, trivial⟩, hS.F ht⟩) hS.2.2 d_C_rule_32
set_option maxHeartbeats 4000000 in
set_option maxRecDepth 100000 in
theorem c_RuleText_init (l : Launch) (dC : Nat → ClassId) (dI : Nat → Nat → Nat) (adK adV : Nat → Nat) (a_tx : Nat) (sz : Nat) : Met l y_T_init ws_T_init ({ frames := 1, cells := 1, slots := 120, locals := 12 }) (va_Pc [.ref a_tx] (fun U => U.heap.size = sz ∧ zz adK adV (va_A [(a_tx, .inr (4, [.null, .int 0, .int 0, .int 0]))] sz) U ∧ va_P (dC, dI) vwCl [(a_tx, .inr (4, [.null, .int 0, .int 0, .int 0]))] U.heap ∧ va_K (dC, dI) vwCl [] U ∧ va_D (fun _ => True) [(a_tx, .inr (4, [.null, .int 0, .int 0, .int 0]))])) (va_Qv (fun _ : Unit => True) (fun (_ : Unit) (t : State) => ∃ q_1 : Nat, ∃ cA_2 : ClassId, va_P (dC, dI) vwCl [(a_tx, .inr (4, [.ref q_1, .int 0, .int 0, .int (-1)])), (q_1, .inl (cA_2, 120, .inl (fun _ => 0)))] t.heap ∧ va_K (dC, dI) vwCl [(cA_2, .char)] t ∧ va_D (va_A [(a_tx, .inr (4, [.null, .int 0, .int 0, .int 0]))] sz) [(a_tx, .inr (4, [.ref q_1, .int 0, .int 0, .int (-1)])), (q_1, .inl (cA_2, 120, .inl (fun _ => 0)))]) (va_A [(a_tx, .inr (4, [.null, .int 0, .int 0, .int 0]))] sz)) 1 120 (va_A [(a_tx, .inr (4, [.null, .int 0, .int 0, .int 0]))] sz) := by
  refine Met.ofW (cc := c_T_init) (maxL := 1) (ret := none) (by decide) rfl ?_
  intro p e s m args below meth c s₁ B hml hv
  obtain ⟨rfl, hsz, hZ, hP, hK, hD0⟩ := hv
  have hx := B.exec
  have hb := B.bytes
  have hr := B.returns
  have hts0 := atoms_spec (ws := ws_T_init) B.pre
  have hts : ∀ w ∈ TT, w.before _ s = true := fun w h => hts0 w (List.mem_cons_of_mem _ h)
  have hown : s.vm.findClass "LoanRules$RuleText" = some m.cls := findClass_of_methodNamed B.named
  have hlocks := B.notSynchronized
  have hin : meth.name = "<init>" := (name_of_methodNamed B.named B.method).1
  subst hsz
  have hD := hD0.self (sz := s.heap.size)
  generalize hAe : va_A [(a_tx, .inr (4, [.null, .int 0, .int 0, .int 0]))] s.heap.size = A at hD hZ ⊢
  have hA : ∀ q : Nat, s.heap.size ≤ q → A q := fun q h => by rw [← hAe]; exact Or.inr h
  clear hAe hD0
  have hS : va_S A s.heap s.heap [] := va_S.rf
  replace hP : va_P (dC, dI) vwCl [(a_tx, .inr (4, [.null, .int 0, .int 0, .int 0]))] s.heap := hP
  have hl := lv_entry ([.ref a_tx]) (n := 1) (Nat.le_of_ble_eq_true rfl)
  rw [lg_entry_eq]
  generalize (lg_sl ([.ref a_tx]) ++ List.replicate (1 - (lg_sl ([.ref a_tx])).length) Slot.unset).toArray = ls at hl ⊢
  replace hl : lv_has ls 1 [(0, .ref a_tx)] := hl
  refine lv_aload_n hx hb d_T_init_0 rfl (lv_at hl 0 rfl) ?_
  refine W.objInit hx hb hown (hts _ tw_71) (hts _ tw_64) (hts _ tw_65) rfl (by rw [hml]; exact hl.1) rfl d_T_init_1 (Nat.le_of_ble_eq_true rfl) (Nat.le_of_ble_eq_true rfl) ?_
  refine W.eq (g2 := F0 m 4 ls []) rfl ?_
  refine lv_aload_n hx hb d_T_init_4 rfl (lv_at hl 0 rfl) ?_
  refine lv_bipush (v := 120) hx hb d_T_init_5 (by decide) ?_
  refine va_newa (D := (dC, dI)) (atype := .char) (ty := .char) (N' := 120) (a0 := (120, .inl (fun _ => 0))) hx hb (hts _ tw_85) rfl hK hP hD hS hA (fun _ => rfl) (by decide) (by decide) (by decide) (Nat.le_of_ble_eq_true rfl) (Nat.le_of_ble_eq_true rfl) d_T_init_7 (fun q_1 cA_2 H hK hP hD hS => ?_)
  refine W.widen (k := 1) (n := 120) (by omega) (by omega) ?_
  replace hP : va_P (dC, dI) vwCl [(a_tx, .inr (4, [.null, .int 0, .int 0, .int 0])), (q_1, .inl (cA_2, 120, .inl (fun _ => 0)))] H := hP
  replace hD : va_D A [(a_tx, .inr (4, [.null, .int 0, .int 0, .int 0])), (q_1, .inl (cA_2, 120, .inl (fun _ => 0)))] := hD
  replace hK : va_K (dC, dI) vwCl [(cA_2, .char)] s := hK
  refine va_putF (D := (dC, dI)) (ci := 4) (v := .ref q_1) (ty := (.array .char)) (C := "LoanRules$RuleText") (T := Fz_T) (N := 4) hx hb hts it_T tz_T tz_T_ok nz_T hown hK hP hD hS 0 rfl rfl 0 (by decide) (hts _ tw_72) (fun _ h9 => h9) rfl hin rfl (by decide +kernel) rfl rfl (Nat.le_of_ble_eq_true rfl) d_T_init_9 (fun H locs hP hD hS => ?_)
  replace hP : va_P (dC, dI) vwCl [(a_tx, .inr (4, [.ref q_1, .int 0, .int 0, .int 0])), (q_1, .inl (cA_2, 120, .inl (fun _ => 0)))] H := hP
  replace hD : va_D A [(a_tx, .inr (4, [.ref q_1, .int 0, .int 0, .int 0])), (q_1, .inl (cA_2, 120, .inl (fun _ => 0)))] := hD
  refine lv_aload_n hx hb d_T_init_12 rfl (lv_at hl 0 rfl) ?_
  refine lv_iconst (v := 0) hx hb d_T_init_13 (by decide) ?_
  refine va_put (D := (dC, dI)) (ci := 4) (v := .int 0) (ty := .int) (C := "LoanRules$RuleText") (T := Fz_T) (N := 4) hx hb hts it_T tz_T tz_T_ok nz_T hown hK hP hD hS 0 rfl rfl 1 (by decide) (hts _ tw_73) (fun _ h9 => h9) rfl (by decide +kernel) rfl rfl (Nat.le_of_ble_eq_true rfl) d_T_init_14 (fun H locs hP hD hS => ?_)
  replace hP : va_P (dC, dI) vwCl [(a_tx, .inr (4, [.ref q_1, .int 0, .int 0, .int 0])), (q_1, .inl (cA_2, 120, .inl (fun _ => 0)))] H := hP
  replace hD : va_D A [(a_tx, .inr (4, [.ref q_1, .int 0, .int 0, .int 0])), (q_1, .inl (cA_2, 120, .inl (fun _ => 0)))] := hD
  refine lv_aload_n hx hb d_T_init_17 rfl (lv_at hl 0 rfl) ?_
  refine lv_iconst (v := 0) hx hb d_T_init_18 (by decide) ?_
  refine va_put (D := (dC, dI)) (ci := 4) (v := .int 0) (ty := .int) (C := "LoanRules$RuleText") (T := Fz_T) (N := 4) hx hb hts it_T tz_T tz_T_ok nz_T hown hK hP hD hS 0 rfl rfl 2 (by decide) (hts _ tw_74) (fun _ h9 => h9) rfl (by decide +kernel) rfl rfl (Nat.le_of_ble_eq_true rfl) d_T_init_19 (fun H locs hP hD hS => ?_)
  replace hP : va_P (dC, dI) vwCl [(a_tx, .inr (4, [.ref q_1, .int 0, .int 0, .int 0])), (q_1, .inl (cA_2, 120, .inl (fun _ => 0)))] H := hP
  replace hD : va_D A [(a_tx, .inr (4, [.ref q_1, .int 0, .int 0, .int 0])), (q_1, .inl (cA_2, 120, .inl (fun _ => 0)))] := hD
  refine lv_aload_n hx hb d_T_init_22 rfl (lv_at hl 0 rfl) ?_
  refine lv_iconst (v := (-1)) hx hb d_T_init_23 (by decide) ?_
  refine va_put (D := (dC, dI)) (ci := 4) (v := .int (-1)) (ty := .int) (C := "LoanRules$RuleText") (T := Fz_T) (N := 4) hx hb hts it_T tz_T tz_T_ok nz_T hown hK hP hD hS 0 rfl rfl 3 (by decide) (hts _ tw_75) (fun _ h9 => h9) rfl (by decide +kernel) rfl rfl (Nat.le_of_ble_eq_true rfl) d_T_init_24 (fun H locs hP hD hS => ?_)
  replace hP : va_P (dC, dI) vwCl [(a_tx, .inr (4, [.ref q_1, .int 0, .int 0, .int (-1)])), (q_1, .inl (cA_2, 120, .inl (fun _ => 0)))] H := hP
  replace hD : va_D A [(a_tx, .inr (4, [.ref q_1, .int 0, .int 0, .int (-1)])), (q_1, .inl (cA_2, 120, .inl (fun _ => 0)))] := hD
  have hP9 := hP.sub (ws' := [(a_tx, .inr (4, [.ref q_1, .int 0, .int 0, .int (-1)])), (q_1, .inl (cA_2, 120, .inl (fun _ => 0)))]) [0, 1] rfl
  have hD9 := hD.sub (ws' := [(a_tx, .inr (4, [.ref q_1, .int 0, .int 0, .int (-1)])), (q_1, .inl (cA_2, 120, .inl (fun _ => 0)))]) [0, 1] (by decide) rfl
  have hK9 := hK.sub (tys' := [(cA_2, .char)]) [0] rfl
  exact W.vret hx hb hr (fun t ht hW => ⟨⟨(), rfl, trivial, q_1, cA_2, by rw [ht]; exact hP9, va_K.moved hW.alike hK9, hD9⟩, hS.F ht⟩) hS.2.2 d_T_init_27
set_option maxHeartbeats 4000000 in
set_option maxRecDepth 100000 in
theorem c_DaySet_init (l : Launch) (dC : Nat → ClassId) (dI : Nat → Nat → Nat) (adK adV : Nat → Nat) (a_cd : Nat) (sz : Nat) : Met l y_D_init ws_D_init ({ frames := 1, cells := 1, slots := 157, locals := 12 }) (va_Pc [.ref a_cd] (fun U => U.heap.size = sz ∧ zz adK adV (va_A [(a_cd, .inr (1, [.null]))] sz) U ∧ va_P (dC, dI) vwCl [(a_cd, .inr (1, [.null]))] U.heap ∧ va_K (dC, dI) vwCl [] U ∧ va_D (fun _ => True) [(a_cd, .inr (1, [.null]))])) (va_Qv (fun _ : Unit => True) (fun (_ : Unit) (t : State) => ∃ q_1 : Nat, ∃ cA_2 : ClassId, va_P (dC, dI) vwCl [(a_cd, .inr (1, [.ref q_1])), (q_1, .inl (cA_2, 157, .inr (.inl (fun _ => 0))))] t.heap ∧ va_K (dC, dI) vwCl [(cA_2, .long)] t ∧ va_D (va_A [(a_cd, .inr (1, [.null]))] sz) [(a_cd, .inr (1, [.ref q_1])), (q_1, .inl (cA_2, 157, .inr (.inl (fun _ => 0))))]) (va_A [(a_cd, .inr (1, [.null]))] sz)) 1 157 (va_A [(a_cd, .inr (1, [.null]))] sz) := by
  refine Met.ofW (cc := c_D_init) (maxL := 1) (ret := none) (by decide) rfl ?_
  intro p e s m args below meth c s₁ B hml hv
  obtain ⟨rfl, hsz, hZ, hP, hK, hD0⟩ := hv
  have hx := B.exec
  have hb := B.bytes
  have hr := B.returns
  have hts0 := atoms_spec (ws := ws_D_init) B.pre
  have hts : ∀ w ∈ TT, w.before _ s = true := fun w h => hts0 w (List.mem_cons_of_mem _ h)
  have hown : s.vm.findClass "LoanRules$DaySet" = some m.cls := findClass_of_methodNamed B.named
  have hlocks := B.notSynchronized
  have hin : meth.name = "<init>" := (name_of_methodNamed B.named B.method).1
  subst hsz
  have hD := hD0.self (sz := s.heap.size)
  generalize hAe : va_A [(a_cd, .inr (1, [.null]))] s.heap.size = A at hD hZ ⊢
  have hA : ∀ q : Nat, s.heap.size ≤ q → A q := fun q h => by rw [← hAe]; exact Or.inr h
  clear hAe hD0
  have hS : va_S A s.heap s.heap [] := va_S.rf
  replace hP : va_P (dC, dI) vwCl [(a_cd, .inr (1, [.null]))] s.heap := hP
  have hl := lv_entry ([.ref a_cd]) (n := 1) (Nat.le_of_ble_eq_true rfl)
  rw [lg_entry_eq]
  generalize (lg_sl ([.ref a_cd]) ++ List.replicate (1 - (lg_sl ([.ref a_cd])).length) Slot.unset).toArray = ls at hl ⊢
  replace hl : lv_has ls 1 [(0, .ref a_cd)] := hl
  refine lv_aload_n hx hb d_D_init_0 rfl (lv_at hl 0 rfl) ?_
  refine W.objInit hx hb hown (hts _ tw_93) (hts _ tw_64) (hts _ tw_65) rfl (by rw [hml]; exact hl.1) rfl d_D_init_1 (Nat.le_of_ble_eq_true rfl) (Nat.le_of_ble_eq_true rfl) ?_
  refine W.eq (g2 := F0 m 4 ls []) rfl ?_
  refine lv_aload_n hx hb d_D_init_4 rfl (lv_at hl 0 rfl) ?_
  refine lv_sipush (v := 157) hx hb d_D_init_5 (by decide) ?_
  refine va_newa (D := (dC, dI)) (atype := .long) (ty := .long) (N' := 157) (a0 := (157, .inr (.inl (fun _ => 0)))) hx hb (hts _ tw_98) rfl hK hP hD hS hA (fun _ => rfl) (by decide) (by decide) (by decide) (Nat.le_of_ble_eq_true rfl) (Nat.le_of_ble_eq_true rfl) d_D_init_8 (fun q_1 cA_2 H hK hP hD hS => ?_)
  refine W.widen (k := 1) (n := 157) (by omega) (by omega) ?_
  replace hP : va_P (dC, dI) vwCl [(a_cd, .inr (1, [.null])), (q_1, .inl (cA_2, 157, .inr (.inl (fun _ => 0))))] H := hP
  replace hD : va_D A [(a_cd, .inr (1, [.null])), (q_1, .inl (cA_2, 157, .inr (.inl (fun _ => 0))))] := hD
  replace hK : va_K (dC, dI) vwCl [(cA_2, .long)] s := hK
  refine va_putF (D := (dC, dI)) (ci := 1) (v := .ref q_1) (ty := (.array .long)) (C := "LoanRules$DaySet") (T := Fz_D) (N := 1) hx hb hts it_D tz_D tz_D_ok nz_D hown hK hP hD hS 0 rfl rfl 0 (by decide) (hts _ tw_94) (fun _ h9 => h9) rfl hin rfl (by decide +kernel) rfl rfl (Nat.le_of_ble_eq_true rfl) d_D_init_10 (fun H locs hP hD hS => ?_)
  replace hP : va_P (dC, dI) vwCl [(a_cd, .inr (1, [.ref q_1])), (q_1, .inl (cA_2, 157, .inr (.inl (fun _ => 0))))] H := hP
  replace hD : va_D A [(a_cd, .inr (1, [.ref q_1])), (q_1, .inl (cA_2, 157, .inr (.inl (fun _ => 0))))] := hD
  have hP9 := hP.sub (ws' := [(a_cd, .inr (1, [.ref q_1])), (q_1, .inl (cA_2, 157, .inr (.inl (fun _ => 0))))]) [0, 1] rfl
  have hD9 := hD.sub (ws' := [(a_cd, .inr (1, [.ref q_1])), (q_1, .inl (cA_2, 157, .inr (.inl (fun _ => 0))))]) [0, 1] (by decide) rfl
  have hK9 := hK.sub (tys' := [(cA_2, .long)]) [0] rfl
  exact W.vret hx hb hr (fun t ht hW => ⟨⟨(), rfl, trivial, q_1, cA_2, by rw [ht]; exact hP9, va_K.moved hW.alike hK9, hD9⟩, hS.F ht⟩) hS.2.2 d_D_init_13
set_option maxHeartbeats 4000000 in
set_option maxRecDepth 100000 in
theorem c_fill (l : Launch) (dC : Nat → ClassId) (dI : Nat → Nat → Nat) (adK adV : Nat → Nat) (a_ex : Nat) (k_ex : ClassId) (f0 : Nat → Int32) (sz : Nat) : Met l y_AR_fill ws_AR_fill ({ frames := 0, cells := 0, slots := 0, locals := 0 }) (va_Pc [.ref a_ex, .int (-1)] (fun U => U.heap.size = sz ∧ zz adK adV (va_A [(a_ex, .inl (k_ex, 2000, .inl f0))] sz) U ∧ va_P (dC, dI) vwCl [(a_ex, .inl (k_ex, 2000, .inl f0))] U.heap ∧ va_K (dC, dI) vwCl [(k_ex, .int)] U ∧ va_D (fun _ => True) [(a_ex, .inl (k_ex, 2000, .inl f0))])) (va_Qv (fun _ : Nat → Int32 => True) (fun (u : Nat → Int32) (t : State) => va_P (dC, dI) vwCl [(a_ex, .inl (k_ex, 2000, .inl u))] t.heap ∧ va_K (dC, dI) vwCl [(k_ex, .int)] t ∧ va_D (va_A [(a_ex, .inl (k_ex, 2000, .inl f0))] sz) [(a_ex, .inl (k_ex, 2000, .inl u))]) (va_A [(a_ex, .inl (k_ex, 2000, .inl f0))] sz)) 0 0 (va_A [(a_ex, .inl (k_ex, 2000, .inl f0))] sz) := by
  refine Met.ofW (cc := c_AR_fill) (maxL := 4) (ret := none) (by decide) rfl ?_
  intro p e s m args below meth c s₁ B hml hv
  obtain ⟨rfl, hsz, hZ, hP, hK, hD0⟩ := hv
  have hx := B.exec
  have hb := B.bytes
  have hr := B.returns
  have hts0 := atoms_spec (ws := ws_AR_fill) B.pre
  have hts : ∀ w ∈ TT, w.before _ s = true := fun w h => hts0 w (List.mem_cons_of_mem _ h)
  have hown : s.vm.findClass "java/util/Arrays" = some m.cls := findClass_of_methodNamed B.named
  have hlocks := B.notSynchronized
  subst hsz
  have hD := hD0.self (sz := s.heap.size)
  generalize hAe : va_A [(a_ex, .inl (k_ex, 2000, .inl f0))] s.heap.size = A at hD hZ ⊢
  have hA : ∀ q : Nat, s.heap.size ≤ q → A q := fun q h => by rw [← hAe]; exact Or.inr h
  clear hAe hD0
  have hS : va_S A s.heap s.heap [] := va_S.rf
  replace hP : va_P (dC, dI) vwCl [(a_ex, .inl (k_ex, 2000, .inl f0))] s.heap := hP
  have hl := lv_entry ([.ref a_ex, .int (-1)]) (n := 4) (Nat.le_of_ble_eq_true rfl)
  rw [lg_entry_eq]
  generalize (lg_sl ([.ref a_ex, .int (-1)]) ++ List.replicate (4 - (lg_sl ([.ref a_ex, .int (-1)])).length) Slot.unset).toArray = ls at hl ⊢
  replace hl : lv_has ls 4 [(0, .ref a_ex), (1, .int (-1))] := hl
  refine lv_iconst (v := 0) hx hb d_AR_fill_0 (by decide) ?_
  refine lv_istore_n (lv' := [(2, .int 0), (0, .ref a_ex), (1, .int (-1))]) hx hb d_AR_fill_1 rfl hl (by decide) rfl (fun ls hl => ?_)
  refine lv_aload_n hx hb d_AR_fill_2 rfl (lv_at hl 1 rfl) ?_
  refine va_alen (D := (dC, dI)) (v := 2000) hx hb hK hP 0 0 rfl rfl rfl d_AR_fill_3 ?_
  refine lv_istore_n (lv' := [(3, .int 2000), (2, .int 0), (0, .ref a_ex), (1, .int (-1))]) hx hb d_AR_fill_4 rfl hl (by decide) rfl (fun ls hl => ?_)
  obtain ⟨H, hHe⟩ : ∃ H, H = s.heap := ⟨_, rfl⟩
  obtain ⟨locs, hLe⟩ : ∃ locs : List Loc, locs = [] := ⟨_, rfl⟩
  replace hP : va_P (dC, dI) vwCl [(a_ex, .inl (k_ex, 2000, .inl f0))] H := by rw [hHe]; exact hP
  replace hS : va_S A s.heap H locs := by rw [hHe, hLe]; exact hS
  refine fl_gen hHe hLe ?_
  clear hHe hLe
  obtain ⟨n, i, hni, hi0⟩ : ∃ n i : Nat, i + n = 2000 ∧ nI i = 0 := ⟨2000, 0, rfl, by decide⟩
  replace hl : lv_has ls 4 [(3, .int 2000), (2, .int (nI i)), (0, .ref a_ex), (1, .int (-1))] := by rw [hi0]; exact hl
  clear hi0
  induction n generalizing i ls H locs f0 with
  | zero =>
    obtain rfl : i = 2000 := by omega
    replace hl : lv_has ls 4 [(3, .int 2000), (2, .int 2000), (0, .ref a_ex), (1, .int (-1))] := by have e9 : nI 2000 = 2000 := (by decide); rw [e9] at hl; exact hl
    refine lv_iload_n hx hb d_AR_fill_5 rfl (lv_at hl 1 rfl) ?_
    refine lv_iload_n hx hb d_AR_fill_6 rfl (lv_at hl 0 rfl) ?_
    refine lv_icmp_ge (tgt := 20) hx hb d_AR_fill_7 (by decide) (fun c_1 => ?_) (fun c_1 => ?_)
    · have hP9 := hP.sub (ws' := [(a_ex, .inl (k_ex, 2000, .inl f0))]) [0] rfl
      have hD9 := hD.sub (ws' := [(a_ex, .inl (k_ex, 2000, .inl f0))]) [0] (by decide) rfl
      have hK9 := hK.sub (tys' := [(k_ex, .int)]) [0] rfl
      exact W.vret hx hb hr (fun t ht hW => ⟨⟨f0, rfl, trivial, by rw [ht]; exact hP9, va_K.moved hW.alike hK9, hD9⟩, hS.F ht⟩) hS.2.2 d_AR_fill_20
    · exact absurd (by decide) c_1
  | succ n ih =>
    have hlt : i < 2000 := by omega
    refine lv_iload_n hx hb d_AR_fill_5 rfl (lv_at hl 1 rfl) ?_
    refine lv_iload_n hx hb d_AR_fill_6 rfl (lv_at hl 0 rfl) ?_
    refine lv_icmp_ge (tgt := 20) hx hb d_AR_fill_7 (by decide) (fun c_2 => ?_) (fun c_2 => ?_)
    · exact absurd c_2 (lk_ge2000 hlt)
    · refine lv_aload_n hx hb d_AR_fill_10 rfl (lv_at hl 2 rfl) ?_
      refine lv_iload_n hx hb d_AR_fill_11 rfl (lv_at hl 1 rfl) ?_
      refine lv_iload_n hx hb d_AR_fill_12 rfl (lv_at hl 3 rfl) ?_
      have i_3 : vp_in (nI i) 2000 := vp_in_nI hlt (by decide)
      refine va_iast (D := (dC, dI)) hx hb hK hP hD hS 0 0 rfl rfl i_3 d_AR_fill_13 (fun H locs hP hD hS => ?_)
      replace hP : va_P (dC, dI) vwCl [(a_ex, .inl (k_ex, 2000, .inl (upd f0 (nI i).toNatClampNeg (-1))))] H := hP
      replace hD : va_D A [(a_ex, .inl (k_ex, 2000, .inl (upd f0 (nI i).toNatClampNeg (-1))))] := hD
      refine lv_iinc (v := (nI i) + 1) (lv' := [(2, .int ((nI i) + 1)), (3, .int 2000), (0, .ref a_ex), (1, .int (-1))]) hx hb d_AR_fill_14 hl (k := 1) rfl rfl (by decide) rfl (fun ls hl => ?_)
      refine lv_goto (tgt := 5) hx hb d_AR_fill_17 (by decide) ?_
      replace hl := lv_sub hl [1, 0, 2, 3] rfl
      replace hl : lv_has ls 4 [(3, .int 2000), (2, .int (nI (i + 1))), (0, .ref a_ex), (1, .int (-1))] := by rw [← nI_1]; exact hl
      exact ih _ hD _ _ _ hP hS (i + 1) (by omega) hl
set_option maxHeartbeats 4000000 in
set_option maxRecDepth 100000 in
theorem c_LoanRules_init (l : Launch) (dC : Nat → ClassId) (dI : Nat → Nat → Nat) (adK adV : Nat → Nat) (a_h : Nat) (sz : Nat) : Met l y_C_init ws_C_init ({ frames := 2, cells := 15, slots := 3700, locals := 32 }) (va_Pc [.ref a_h] (fun U => U.heap.size = sz ∧ zz adK adV (va_A [(a_h, .inr (0, [.null, .null, .int 0, .null, .null, .null, .null, .null, .null, .null, .null, .int 0, .null, .int 0, .null, .int 0]))] sz) U ∧ va_P (dC, dI) vwCl [(a_h, .inr (0, [.null, .null, .int 0, .null, .null, .null, .null, .null, .null, .null, .null, .int 0, .null, .int 0, .null, .int 0]))] U.heap ∧ va_K (dC, dI) vwCl [] U ∧ va_D (fun _ => True) [(a_h, .inr (0, [.null, .null, .int 0, .null, .null, .null, .null, .null, .null, .null, .null, .int 0, .null, .int 0, .null, .int 0]))])) (va_Qv (fun _ : Unit => True) (fun (_ : Unit) (t : State) => ∃ q_1 : Nat, ∃ q_3 : Nat, ∃ q_5 : Nat, ∃ q_7 : Nat, ∃ q_9 : Nat, ∃ q_11 : Nat, ∃ q_13 : Nat, ∃ q_15 : Nat, ∃ q_17 : Nat, ∃ q_19 : Nat, ∃ q_21 : Nat, ∃ q_25 : Nat, ∃ q_27 : Nat, ∃ q_29 : Nat, ∃ q_23 : Nat, ∃ cA_4 : ClassId, ∃ cA_6 : ClassId, ∃ cA_10 : ClassId, ∃ cA_14 : ClassId, ∃ cA_16 : ClassId, ∃ cA_18 : ClassId, ∃ cA_20 : ClassId, ∃ cA_22 : ClassId, ∃ cA_26 : ClassId, ∃ cA_28 : ClassId, ∃ cA_30 : ClassId, ∃ cA_24 : ClassId, ∃ u_32 : Nat → Int32, va_P (dC, dI) vwCl [(a_h, .inr (0, [.ref q_1, .ref q_5, .int 0, .ref q_7, .ref q_11, .ref q_15, .ref q_17, .ref q_19, .ref q_21, .ref q_23, .ref q_25, .int 0, .ref q_27, .int 0, .ref q_29, .int 0])), (q_1, .inr (4, [.ref q_3, .int 0, .int 0, .int (-1)])), (q_3, .inl (cA_4, 120, .inl (fun _ => 0))), (q_5, .inl (cA_6, 40, .inr (.inr (.inr (.inr (fun _ => none)))))), (q_7, .inr (1, [.ref q_9])), (q_9, .inl (cA_10, 157, .inr (.inl (fun _ => 0)))), (q_11, .inr (1, [.ref q_13])), (q_13, .inl (cA_14, 157, .inr (.inl (fun _ => 0)))), (q_15, .inl (cA_16, 50, .inl (fun _ => 0))), (q_17, .inl (cA_18, 50, .inl (fun _ => 0))), (q_19, .inl (cA_20, 50, .inl (fun _ => 0))), (q_21, .inl (cA_22, 50, .inl (fun _ => 0))), (q_25, .inl (cA_26, 200, .inr (.inr (.inr (.inr (fun _ => none)))))), (q_27, .inl (cA_28, 40, .inl (fun _ => 0))), (q_29, .inl (cA_30, 780, .inl (fun _ => 0))), (q_23, .inl (cA_24, 2000, .inl u_32))] t.heap ∧ va_K (dC, dI) vwCl [(cA_4, .char), (cA_6, .object "LoanRules$Rule"), (cA_10, .long), (cA_14, .long), (cA_16, .int), (cA_18, .int), (cA_20, .int), (cA_22, .boolean), (cA_26, .object "LoanRules$Loan"), (cA_28, .int), (cA_30, .int), (cA_24, .int)] t ∧ va_D (va_A [(a_h, .inr (0, [.null, .null, .int 0, .null, .null, .null, .null, .null, .null, .null, .null, .int 0, .null, .int 0, .null, .int 0]))] sz) [(a_h, .inr (0, [.ref q_1, .ref q_5, .int 0, .ref q_7, .ref q_11, .ref q_15, .ref q_17, .ref q_19, .ref q_21, .ref q_23, .ref q_25, .int 0, .ref q_27, .int 0, .ref q_29, .int 0])), (q_1, .inr (4, [.ref q_3, .int 0, .int 0, .int (-1)])), (q_3, .inl (cA_4, 120, .inl (fun _ => 0))), (q_5, .inl (cA_6, 40, .inr (.inr (.inr (.inr (fun _ => none)))))), (q_7, .inr (1, [.ref q_9])), (q_9, .inl (cA_10, 157, .inr (.inl (fun _ => 0)))), (q_11, .inr (1, [.ref q_13])), (q_13, .inl (cA_14, 157, .inr (.inl (fun _ => 0)))), (q_15, .inl (cA_16, 50, .inl (fun _ => 0))), (q_17, .inl (cA_18, 50, .inl (fun _ => 0))), (q_19, .inl (cA_20, 50, .inl (fun _ => 0))), (q_21, .inl (cA_22, 50, .inl (fun _ => 0))), (q_25, .inl (cA_26, 200, .inr (.inr (.inr (.inr (fun _ => none)))))), (q_27, .inl (cA_28, 40, .inl (fun _ => 0))), (q_29, .inl (cA_30, 780, .inl (fun _ => 0))), (q_23, .inl (cA_24, 2000, .inl u_32))]) (va_A [(a_h, .inr (0, [.null, .null, .int 0, .null, .null, .null, .null, .null, .null, .null, .null, .int 0, .null, .int 0, .null, .int 0]))] sz)) 15 3700 (va_A [(a_h, .inr (0, [.null, .null, .int 0, .null, .null, .null, .null, .null, .null, .null, .null, .int 0, .null, .int 0, .null, .int 0]))] sz) := by
  refine Met.ofW (cc := c_C_init) (maxL := 1) (ret := none) (by decide) rfl ?_
  intro p e s m args below meth c s₁ B hml hv
  obtain ⟨rfl, hsz, hZ, hP, hK, hD0⟩ := hv
  have hx := B.exec
  have hb := B.bytes
  have hr := B.returns
  have hts0 := atoms_spec (ws := ws_C_init) B.pre
  have hts : ∀ w ∈ TT, w.before _ s = true := fun w h => hts0 w (List.mem_cons_of_mem _ h)
  have hown : s.vm.findClass "LoanRules" = some m.cls := findClass_of_methodNamed B.named
  have hlocks := B.notSynchronized
  have hin : meth.name = "<init>" := (name_of_methodNamed B.named B.method).1
  subst hsz
  have hD := hD0.self (sz := s.heap.size)
  generalize hAe : va_A [(a_h, .inr (0, [.null, .null, .int 0, .null, .null, .null, .null, .null, .null, .null, .null, .int 0, .null, .int 0, .null, .int 0]))] s.heap.size = A at hD hZ ⊢
  have hA : ∀ q : Nat, s.heap.size ≤ q → A q := fun q h => by rw [← hAe]; exact Or.inr h
  clear hAe hD0
  have hS : va_S A s.heap s.heap [] := va_S.rf
  replace hP : va_P (dC, dI) vwCl [(a_h, .inr (0, [.null, .null, .int 0, .null, .null, .null, .null, .null, .null, .null, .null, .int 0, .null, .int 0, .null, .int 0]))] s.heap := hP
  have hl := lv_entry ([.ref a_h]) (n := 1) (Nat.le_of_ble_eq_true rfl)
  rw [lg_entry_eq]
  generalize (lg_sl ([.ref a_h]) ++ List.replicate (1 - (lg_sl ([.ref a_h])).length) Slot.unset).toArray = ls at hl ⊢
  replace hl : lv_has ls 1 [(0, .ref a_h)] := hl
  refine lv_aload_n hx hb d_C_init_0 rfl (lv_at hl 0 rfl) ?_
  refine W.objInit hx hb hown (hts _ tw_63) (hts _ tw_64) (hts _ tw_65) rfl (by rw [hml]; exact hl.1) rfl d_C_init_1 (Nat.le_of_ble_eq_true rfl) (Nat.le_of_ble_eq_true rfl) ?_
  refine W.eq (g2 := F0 m 4 ls []) rfl ?_
  refine lv_aload_n hx hb d_C_init_4 rfl (lv_at hl 0 rfl) ?_
  refine va_new (ci := 4) (fs := [.null, .int 0, .int 0, .int 0]) (C := "LoanRules$RuleText") (T := Fz_T) (N := 4) hx hb hts it_T tz_T tz_T_ok hown (hts _ tw_66) (hts _ tw_67) (hts _ tw_43) hK hP hD hS hA rfl (by decide) (Nat.le_of_ble_eq_true rfl) (Nat.le_of_ble_eq_true rfl) d_C_init_5 (fun q_1 H hP hD hS => ?_)
  refine W.widen (k := 1) (n := 4) (by omega) (by omega) ?_
  replace hP : va_P (dC, dI) vwCl [(a_h, .inr (0, [.null, .null, .int 0, .null, .null, .null, .null, .null, .null, .null, .null, .int 0, .null, .int 0, .null, .int 0])), (q_1, .inr (4, [.null, .int 0, .int 0, .int 0]))] H := hP
  replace hD : va_D A [(a_h, .inr (0, [.null, .null, .int 0, .null, .null, .null, .null, .null, .null, .null, .null, .int 0, .null, .int 0, .null, .int 0])), (q_1, .inr (4, [.null, .int 0, .int 0, .int 0]))] := hD
  refine lv_dup hx hb d_C_init_8 rfl ?_
  have hPc := hP.sub (ws' := [(q_1, .inr (4, [.null, .int 0, .int 0, .int 0]))]) [1] rfl
  have hKc := hK.sub (tys' := []) [] rfl
  have hDc := hD.sub (ws' := [(q_1, .inr (4, [.null, .int 0, .int 0, .int 0]))]) [1] (by decide) rfl
  have hFc := va_free (wc := [(q_1, .inr (4, [.null, .int 0, .int 0, .int 0]))]) hD hS hA [1] rfl
  refine va_callv (va_runIN (As := []) (rest := [.ref q_1, .ref a_h]) ⟨hx, hb, hml, hown, hts⟩ (c_RuleText_init l dC dI adK adV (a_tx := q_1) (sz := H.size)) ⟨va_cnB 0 hts (gI tw_70) rfl rfl rfl (zn_C_11 hZ) (hts _ tw_43) (by decide +kernel) ⟨(Nat.le_of_ble_eq_true rfl), (Nat.le_of_ble_eq_true rfl)⟩, rfl, (hts _ tw_69)⟩ ⟨fun a U g mk q => by obtain ⟨q0, q1, qZ, qP, qK, qD⟩ := q; exact ⟨q0, q1, zz_call qZ, qP, va_K.moved (u := U) (U := U.calling g mk a) (Vm.Alike.refl U.vm) qK, qD⟩, fun U hU hW => ⟨rfl, by rw [hU], zz_rw hS hFc hU hW hZ, by rw [hU]; exact hPc, va_K.moved hW.alike hKc, hDc.weaken (fun _ _ _ _ => trivial)⟩⟩ rfl rfl hl.1 rfl (lv_room (Nat.le_of_ble_eq_true rfl)) d_C_init_9 ⟨(Nat.le_of_ble_eq_true rfl), (Nat.le_of_ble_eq_true rfl)⟩) hS (fun q _ h => hFc q h) hFc (fun u t H1 locs ht hvm hw_2 hB hz1 hk1 hS => ?_)
  refine W.widen (k := 2) (n := 124) (by omega) (by omega) ?_
  obtain ⟨q_3, cA_4, hP1, hK1, hD1⟩ := hB
  rw [ht] at hP1
  have hK1 := va_K.moved hvm.symm hK1
  obtain ⟨hP, hD⟩ := va_join (wr := [(a_h, .inr (0, [.null, .null, .int 0, .null, .null, .null, .null, .null, .null, .null, .null, .int 0, .null, .int 0, .null, .int 0]))]) (w1 := [(q_1, .inr (4, [.ref q_3, .int 0, .int 0, .int (-1)])), (q_3, .inl (cA_4, 120, .inl (fun _ => 0)))]) hP hD [1] [0] rfl rfl (by decide) (by decide) hk1 hFc hP1 hD1
  have hK := (hK.sub (tys' := []) [] rfl).app hK1
  generalize H1 = H at hP hS ⊢
  replace hP : va_P (dC, dI) vwCl [(a_h, .inr (0, [.null, .null, .int 0, .null, .null, .null, .null, .null, .null, .null, .null, .int 0, .null, .int 0, .null, .int 0])), (q_1, .inr (4, [.ref q_3, .int 0, .int 0, .int (-1)])), (q_3, .inl (cA_4, 120, .inl (fun _ => 0)))] H := hP
  replace hD : va_D A [(a_h, .inr (0, [.null, .null, .int 0, .null, .null, .null, .null, .null, .null, .null, .null, .int 0, .null, .int 0, .null, .int 0])), (q_1, .inr (4, [.ref q_3, .int 0, .int 0, .int (-1)])), (q_3, .inl (cA_4, 120, .inl (fun _ => 0)))] := hD
  replace hK : va_K (dC, dI) vwCl [(cA_4, .char)] s := hK
  refine va_putF (D := (dC, dI)) (ci := 0) (v := .ref q_1) (ty := (.object "LoanRules$RuleText")) (C := "LoanRules") (T := Fz_C) (N := 16) hx hb hts it_C tz_C tz_C_ok nz_C hown hK hP hD hS 0 rfl rfl 0 (by decide) (hts _ tw_104) (fun _ h9 => h9) rfl hin rfl (by decide +kernel) rfl rfl (Nat.le_of_ble_eq_true rfl) d_C_init_12 (fun H locs hP hD hS => ?_)
  replace hP : va_P (dC, dI) vwCl [(a_h, .inr (0, [.ref q_1, .null, .int 0, .null, .null, .null, .null, .null, .null, .null, .null, .int 0, .null, .int 0, .null, .int 0])), (q_1, .inr (4, [.ref q_3, .int 0, .int 0, .int (-1)])), (q_3, .inl (cA_4, 120, .inl (fun _ => 0)))] H := hP
  replace hD : va_D A [(a_h, .inr (0, [.ref q_1, .null, .int 0, .null, .null, .null, .null, .null, .null, .null, .null, .int 0, .null, .int 0, .null, .int 0])), (q_1, .inr (4, [.ref q_3, .int 0, .int 0, .int (-1)])), (q_3, .inl (cA_4, 120, .inl (fun _ => 0)))] := hD
  refine lv_aload_n hx hb d_C_init_15 rfl (lv_at hl 0 rfl) ?_
  refine lv_bipush (v := 40) hx hb d_C_init_16 (by decide) ?_
  refine va_newq (D := (dC, dI)) (N' := 40) hx hb hown (hts _ tw_86) (zo_R hZ) hK hP hD hS hA (by decide) (by decide) (by decide) (Nat.le_of_ble_eq_true rfl) (Nat.le_of_ble_eq_true rfl) d_C_init_18 (fun q_5 cA_6 H hK hP hD hS => ?_)
  refine W.widen (k := 3) (n := 164) (by omega) (by omega) ?_
  replace hP : va_P (dC, dI) vwCl [(a_h, .inr (0, [.ref q_1, .null, .int 0, .null, .null, .null, .null, .null, .null, .null, .null, .int 0, .null, .int 0, .null, .int 0])), (q_1, .inr (4, [.ref q_3, .int 0, .int 0, .int (-1)])), (q_3, .inl (cA_4, 120, .inl (fun _ => 0))), (q_5, .inl (cA_6, 40, .inr (.inr (.inr (.inr (fun _ => none))))))] H := hP
  replace hD : va_D A [(a_h, .inr (0, [.ref q_1, .null, .int 0, .null, .null, .null, .null, .null, .null, .null, .null, .int 0, .null, .int 0, .null, .int 0])), (q_1, .inr (4, [.ref q_3, .int 0, .int 0, .int (-1)])), (q_3, .inl (cA_4, 120, .inl (fun _ => 0))), (q_5, .inl (cA_6, 40, .inr (.inr (.inr (.inr (fun _ => none))))))] := hD
  replace hK : va_K (dC, dI) vwCl [(cA_4, .char), (cA_6, .object "LoanRules$Rule")] s := hK
  refine va_putF (D := (dC, dI)) (ci := 0) (v := .ref q_5) (ty := (.array (.object "LoanRules$Rule"))) (C := "LoanRules") (T := Fz_C) (N := 16) hx hb hts it_C tz_C tz_C_ok nz_C hown hK hP hD hS 0 rfl rfl 1 (by decide) (hts _ tw_105) (fun _ h9 => h9) rfl hin rfl (by decide +kernel) rfl rfl (Nat.le_of_ble_eq_true rfl) d_C_init_21 (fun H locs hP hD hS => ?_)
  replace hP : va_P (dC, dI) vwCl [(a_h, .inr (0, [.ref q_1, .ref q_5, .int 0, .null, .null, .null, .null, .null, .null, .null, .null, .int 0, .null, .int 0, .null, .int 0])), (q_1, .inr (4, [.ref q_3, .int 0, .int 0, .int (-1)])), (q_3, .inl (cA_4, 120, .inl (fun _ => 0))), (q_5, .inl (cA_6, 40, .inr (.inr (.inr (.inr (fun _ => none))))))] H := hP
  replace hD : va_D A [(a_h, .inr (0, [.ref q_1, .ref q_5, .int 0, .null, .null, .null, .null, .null, .null, .null, .null, .int 0, .null, .int 0, .null, .int 0])), (q_1, .inr (4, [.ref q_3, .int 0, .int 0, .int (-1)])), (q_3, .inl (cA_4, 120, .inl (fun _ => 0))), (q_5, .inl (cA_6, 40, .inr (.inr (.inr (.inr (fun _ => none))))))] := hD
  refine lv_aload_n hx hb d_C_init_24 rfl (lv_at hl 0 rfl) ?_
  refine lv_iconst (v := 0) hx hb d_C_init_25 (by decide) ?_
  refine va_put (D := (dC, dI)) (ci := 0) (v := .int 0) (ty := .int) (C := "LoanRules") (T := Fz_C) (N := 16) hx hb hts it_C tz_C tz_C_ok nz_C hown hK hP hD hS 0 rfl rfl 2 (by decide) (hts _ tw_106) (fun _ h9 => h9) rfl (by decide +kernel) rfl rfl (Nat.le_of_ble_eq_true rfl) d_C_init_26 (fun H locs hP hD hS => ?_)
  replace hP : va_P (dC, dI) vwCl [(a_h, .inr (0, [.ref q_1, .ref q_5, .int 0, .null, .null, .null, .null, .null, .null, .null, .null, .int 0, .null, .int 0, .null, .int 0])), (q_1, .inr (4, [.ref q_3, .int 0, .int 0, .int (-1)])), (q_3, .inl (cA_4, 120, .inl (fun _ => 0))), (q_5, .inl (cA_6, 40, .inr (.inr (.inr (.inr (fun _ => none))))))] H := hP
  replace hD : va_D A [(a_h, .inr (0, [.ref q_1, .ref q_5, .int 0, .null, .null, .null, .null, .null, .null, .null, .null, .int 0, .null, .int 0, .null, .int 0])), (q_1, .inr (4, [.ref q_3, .int 0, .int 0, .int (-1)])), (q_3, .inl (cA_4, 120, .inl (fun _ => 0))), (q_5, .inl (cA_6, 40, .inr (.inr (.inr (.inr (fun _ => none))))))] := hD
  refine lv_aload_n hx hb d_C_init_29 rfl (lv_at hl 0 rfl) ?_
  refine va_new (ci := 1) (fs := [.null]) (C := "LoanRules$DaySet") (T := Fz_D) (N := 1) hx hb hts it_D tz_D tz_D_ok hown (hts _ tw_88) (hts _ tw_89) (hts _ tw_44) hK hP hD hS hA rfl (by decide) (Nat.le_of_ble_eq_true rfl) (Nat.le_of_ble_eq_true rfl) d_C_init_30 (fun q_7 H hP hD hS => ?_)
  refine W.widen (k := 4) (n := 165) (by omega) (by omega) ?_
  replace hP : va_P (dC, dI) vwCl [(a_h, .inr (0, [.ref q_1, .ref q_5, .int 0, .null, .null, .null, .null, .null, .null, .null, .null, .int 0, .null, .int 0, .null, .int 0])), (q_1, .inr (4, [.ref q_3, .int 0, .int 0, .int (-1)])), (q_3, .inl (cA_4, 120, .inl (fun _ => 0))), (q_5, .inl (cA_6, 40, .inr (.inr (.inr (.inr (fun _ => none)))))), (q_7, .inr (1, [.null]))] H := hP
  replace hD : va_D A [(a_h, .inr (0, [.ref q_1, .ref q_5, .int 0, .null, .null, .null, .null, .null, .null, .null, .null, .int 0, .null, .int 0, .null, .int 0])), (q_1, .inr (4, [.ref q_3, .int 0, .int 0, .int (-1)])), (q_3, .inl (cA_4, 120, .inl (fun _ => 0))), (q_5, .inl (cA_6, 40, .inr (.inr (.inr (.inr (fun _ => none)))))), (q_7, .inr (1, [.null]))] := hD
  refine lv_dup hx hb d_C_init_33 rfl ?_
  have hPc := hP.sub (ws' := [(q_7, .inr (1, [.null]))]) [4] rfl
  have hKc := hK.sub (tys' := []) [] rfl
  have hDc := hD.sub (ws' := [(q_7, .inr (1, [.null]))]) [4] (by decide) rfl
  have hFc := va_free (wc := [(q_7, .inr (1, [.null]))]) hD hS hA [4] rfl
  refine va_callv (va_runIN (As := []) (rest := [.ref q_7, .ref a_h]) ⟨hx, hb, hml, hown, hts⟩ (c_DaySet_init l dC dI adK adV (a_cd := q_7) (sz := H.size)) ⟨va_cnB 0 hts (gI tw_92) rfl rfl rfl (zn_C_28 hZ) (hts _ tw_44) (by decide +kernel) ⟨(Nat.le_of_ble_eq_true rfl), (Nat.le_of_ble_eq_true rfl)⟩, rfl, (hts _ tw_91)⟩ ⟨fun a U g mk q => by obtain ⟨q0, q1, qZ, qP, qK, qD⟩ := q; exact ⟨q0, q1, zz_call qZ, qP, va_K.moved (u := U) (U := U.calling g mk a) (Vm.Alike.refl U.vm) qK, qD⟩, fun U hU hW => ⟨rfl, by rw [hU], zz_rw hS hFc hU hW hZ, by rw [hU]; exact hPc, va_K.moved hW.alike hKc, hDc.weaken (fun _ _ _ _ => trivial)⟩⟩ rfl rfl hl.1 rfl (lv_room (Nat.le_of_ble_eq_true rfl)) d_C_init_34 ⟨(Nat.le_of_ble_eq_true rfl), (Nat.le_of_ble_eq_true rfl)⟩) hS (fun q _ h => hFc q h) hFc (fun u t H1 locs ht hvm hw_8 hB hz1 hk1 hS => ?_)
  refine W.widen (k := 5) (n := 322) (by omega) (by omega) ?_
  obtain ⟨q_9, cA_10, hP1, hK1, hD1⟩ := hB
  rw [ht] at hP1
  have hK1 := va_K.moved hvm.symm hK1
  obtain ⟨hP, hD⟩ := va_join (wr := [(a_h, .inr (0, [.ref q_1, .ref q_5, .int 0, .null, .null, .null, .null, .null, .null, .null, .null, .int 0, .null, .int 0, .null, .int 0])), (q_1, .inr (4, [.ref q_3, .int 0, .int 0, .int (-1)])), (q_3, .inl (cA_4, 120, .inl (fun _ => 0))), (q_5, .inl (cA_6, 40, .inr (.inr (.inr (.inr (fun _ => none))))))]) (w1 := [(q_7, .inr (1, [.ref q_9])), (q_9, .inl (cA_10, 157, .inr (.inl (fun _ => 0))))]) hP hD [4] [0, 1, 2, 3] rfl rfl (by decide) (by decide) hk1 hFc hP1 hD1
  have hK := (hK.sub (tys' := [(cA_4, .char), (cA_6, .object "LoanRules$Rule")]) [0, 1] rfl).app hK1
  generalize H1 = H at hP hS ⊢
  replace hP : va_P (dC, dI) vwCl [(a_h, .inr (0, [.ref q_1, .ref q_5, .int 0, .null, .null, .null, .null, .null, .null, .null, .null, .int 0, .null, .int 0, .null, .int 0])), (q_1, .inr (4, [.ref q_3, .int 0, .int 0, .int (-1)])), (q_3, .inl (cA_4, 120, .inl (fun _ => 0))), (q_5, .inl (cA_6, 40, .inr (.inr (.inr (.inr (fun _ => none)))))), (q_7, .inr (1, [.ref q_9])), (q_9, .inl (cA_10, 157, .inr (.inl (fun _ => 0))))] H := hP
  replace hD : va_D A [(a_h, .inr (0, [.ref q_1, .ref q_5, .int 0, .null, .null, .null, .null, .null, .null, .null, .null, .int 0, .null, .int 0, .null, .int 0])), (q_1, .inr (4, [.ref q_3, .int 0, .int 0, .int (-1)])), (q_3, .inl (cA_4, 120, .inl (fun _ => 0))), (q_5, .inl (cA_6, 40, .inr (.inr (.inr (.inr (fun _ => none)))))), (q_7, .inr (1, [.ref q_9])), (q_9, .inl (cA_10, 157, .inr (.inl (fun _ => 0))))] := hD
  replace hK : va_K (dC, dI) vwCl [(cA_4, .char), (cA_6, .object "LoanRules$Rule"), (cA_10, .long)] s := hK
  refine va_putF (D := (dC, dI)) (ci := 0) (v := .ref q_7) (ty := (.object "LoanRules$DaySet")) (C := "LoanRules") (T := Fz_C) (N := 16) hx hb hts it_C tz_C tz_C_ok nz_C hown hK hP hD hS 0 rfl rfl 3 (by decide) (hts _ tw_107) (fun _ h9 => h9) rfl hin rfl (by decide +kernel) rfl rfl (Nat.le_of_ble_eq_true rfl) d_C_init_37 (fun H locs hP hD hS => ?_)
  replace hP : va_P (dC, dI) vwCl [(a_h, .inr (0, [.ref q_1, .ref q_5, .int 0, .ref q_7, .null, .null, .null, .null, .null, .null, .null, .int 0, .null, .int 0, .null, .int 0])), (q_1, .inr (4, [.ref q_3, .int 0, .int 0, .int (-1)])), (q_3, .inl (cA_4, 120, .inl (fun _ => 0))), (q_5, .inl (cA_6, 40, .inr (.inr (.inr (.inr (fun _ => none)))))), (q_7, .inr (1, [.ref q_9])), (q_9, .inl (cA_10, 157, .inr (.inl (fun _ => 0))))] H := hP
  replace hD : va_D A [(a_h, .inr (0, [.ref q_1, .ref q_5, .int 0, .ref q_7, .null, .null, .null, .null, .null, .null, .null, .int 0, .null, .int 0, .null, .int 0])), (q_1, .inr (4, [.ref q_3, .int 0, .int 0, .int (-1)])), (q_3, .inl (cA_4, 120, .inl (fun _ => 0))), (q_5, .inl (cA_6, 40, .inr (.inr (.inr (.inr (fun _ => none)))))), (q_7, .inr (1, [.ref q_9])), (q_9, .inl (cA_10, 157, .inr (.inl (fun _ => 0))))] := hD
  refine lv_aload_n hx hb d_C_init_40 rfl (lv_at hl 0 rfl) ?_
  refine va_new (ci := 1) (fs := [.null]) (C := "LoanRules$DaySet") (T := Fz_D) (N := 1) hx hb hts it_D tz_D tz_D_ok hown (hts _ tw_88) (hts _ tw_89) (hts _ tw_44) hK hP hD hS hA rfl (by decide) (Nat.le_of_ble_eq_true rfl) (Nat.le_of_ble_eq_true rfl) d_C_init_41 (fun q_11 H hP hD hS => ?_)
  refine W.widen (k := 6) (n := 323) (by omega) (by omega) ?_
  replace hP : va_P (dC, dI) vwCl [(a_h, .inr (0, [.ref q_1, .ref q_5, .int 0, .ref q_7, .null, .null, .null, .null, .null, .null, .null, .int 0, .null, .int 0, .null, .int 0])), (q_1, .inr (4, [.ref q_3, .int 0, .int 0, .int (-1)])), (q_3, .inl (cA_4, 120, .inl (fun _ => 0))), (q_5, .inl (cA_6, 40, .inr (.inr (.inr (.inr (fun _ => none)))))), (q_7, .inr (1, [.ref q_9])), (q_9, .inl (cA_10, 157, .inr (.inl (fun _ => 0)))), (q_11, .inr (1, [.null]))] H := hP
  replace hD : va_D A [(a_h, .inr (0, [.ref q_1, .ref q_5, .int 0, .ref q_7, .null, .null, .null, .null, .null, .null, .null, .int 0, .null, .int 0, .null, .int 0])), (q_1, .inr (4, [.ref q_3, .int 0, .int 0, .int (-1)])), (q_3, .inl (cA_4, 120, .inl (fun _ => 0))), (q_5, .inl (cA_6, 40, .inr (.inr (.inr (.inr (fun _ => none)))))), (q_7, .inr (1, [.ref q_9])), (q_9, .inl (cA_10, 157, .inr (.inl (fun _ => 0)))), (q_11, .inr (1, [.null]))] := hD
  refine lv_dup hx hb d_C_init_44 rfl ?_
  have hPc := hP.sub (ws' := [(q_11, .inr (1, [.null]))]) [6] rfl
  have hKc := hK.sub (tys' := []) [] rfl
  have hDc := hD.sub (ws' := [(q_11, .inr (1, [.null]))]) [6] (by decide) rfl
  have hFc := va_free (wc := [(q_11, .inr (1, [.null]))]) hD hS hA [6] rfl
  refine va_callv (va_runIN (As := []) (rest := [.ref q_11, .ref a_h]) ⟨hx, hb, hml, hown, hts⟩ (c_DaySet_init l dC dI adK adV (a_cd := q_11) (sz := H.size)) ⟨va_cnB 0 hts (gI tw_92) rfl rfl rfl (zn_C_28 hZ) (hts _ tw_44) (by decide +kernel) ⟨(Nat.le_of_ble_eq_true rfl), (Nat.le_of_ble_eq_true rfl)⟩, rfl, (hts _ tw_91)⟩ ⟨fun a U g mk q => by obtain ⟨q0, q1, qZ, qP, qK, qD⟩ := q; exact ⟨q0, q1, zz_call qZ, qP, va_K.moved (u := U) (U := U.calling g mk a) (Vm.Alike.refl U.vm) qK, qD⟩, fun U hU hW => ⟨rfl, by rw [hU], zz_rw hS hFc hU hW hZ, by rw [hU]; exact hPc, va_K.moved hW.alike hKc, hDc.weaken (fun _ _ _ _ => trivial)⟩⟩ rfl rfl hl.1 rfl (lv_room (Nat.le_of_ble_eq_true rfl)) d_C_init_45 ⟨(Nat.le_of_ble_eq_true rfl), (Nat.le_of_ble_eq_true rfl)⟩) hS (fun q _ h => hFc q h) hFc (fun u t H1 locs ht hvm hw_12 hB hz1 hk1 hS => ?_)
  refine W.widen (k := 7) (n := 480) (by omega) (by omega) ?_
  obtain ⟨q_13, cA_14, hP1, hK1, hD1⟩ := hB
  rw [ht] at hP1
  have hK1 := va_K.moved hvm.symm hK1
  obtain ⟨hP, hD⟩ := va_join (wr := [(a_h, .inr (0, [.ref q_1, .ref q_5, .int 0, .ref q_7, .null, .null, .null, .null, .null, .null, .null, .int 0, .null, .int 0, .null, .int 0])), (q_1, .inr (4, [.ref q_3, .int 0, .int 0, .int (-1)])), (q_3, .inl (cA_4, 120, .inl (fun _ => 0))), (q_5, .inl (cA_6, 40, .inr (.inr (.inr (.inr (fun _ => none)))))), (q_7, .inr (1, [.ref q_9])), (q_9, .inl (cA_10, 157, .inr (.inl (fun _ => 0))))]) (w1 := [(q_11, .inr (1, [.ref q_13])), (q_13, .inl (cA_14, 157, .inr (.inl (fun _ => 0))))]) hP hD [6] [0, 1, 2, 3, 4, 5] rfl rfl (by decide) (by decide) hk1 hFc hP1 hD1
  have hK := (hK.sub (tys' := [(cA_4, .char), (cA_6, .object "LoanRules$Rule"), (cA_10, .long)]) [0, 1, 2] rfl).app hK1
  generalize H1 = H at hP hS ⊢
  replace hP : va_P (dC, dI) vwCl [(a_h, .inr (0, [.ref q_1, .ref q_5, .int 0, .ref q_7, .null, .null, .null, .null, .null, .null, .null, .int 0, .null, .int 0, .null, .int 0])), (q_1, .inr (4, [.ref q_3, .int 0, .int 0, .int (-1)])), (q_3, .inl (cA_4, 120, .inl (fun _ => 0))), (q_5, .inl (cA_6, 40, .inr (.inr (.inr (.inr (fun _ => none)))))), (q_7, .inr (1, [.ref q_9])), (q_9, .inl (cA_10, 157, .inr (.inl (fun _ => 0)))), (q_11, .inr (1, [.ref q_13])), (q_13, .inl (cA_14, 157, .inr (.inl (fun _ => 0))))] H := hP
  replace hD : va_D A [(a_h, .inr (0, [.ref q_1, .ref q_5, .int 0, .ref q_7, .null, .null, .null, .null, .null, .null, .null, .int 0, .null, .int 0, .null, .int 0])), (q_1, .inr (4, [.ref q_3, .int 0, .int 0, .int (-1)])), (q_3, .inl (cA_4, 120, .inl (fun _ => 0))), (q_5, .inl (cA_6, 40, .inr (.inr (.inr (.inr (fun _ => none)))))), (q_7, .inr (1, [.ref q_9])), (q_9, .inl (cA_10, 157, .inr (.inl (fun _ => 0)))), (q_11, .inr (1, [.ref q_13])), (q_13, .inl (cA_14, 157, .inr (.inl (fun _ => 0))))] := hD
  replace hK : va_K (dC, dI) vwCl [(cA_4, .char), (cA_6, .object "LoanRules$Rule"), (cA_10, .long), (cA_14, .long)] s := hK
  refine va_putF (D := (dC, dI)) (ci := 0) (v := .ref q_11) (ty := (.object "LoanRules$DaySet")) (C := "LoanRules") (T := Fz_C) (N := 16) hx hb hts it_C tz_C tz_C_ok nz_C hown hK hP hD hS 0 rfl rfl 4 (by decide) (hts _ tw_108) (fun _ h9 => h9) rfl hin rfl (by decide +kernel) rfl rfl (Nat.le_of_ble_eq_true rfl) d_C_init_48 (fun H locs hP hD hS => ?_)
  replace hP : va_P (dC, dI) vwCl [(a_h, .inr (0, [.ref q_1, .ref q_5, .int 0, .ref q_7, .ref q_11, .null, .null, .null, .null, .null, .null, .int 0, .null, .int 0, .null, .int 0])), (q_1, .inr (4, [.ref q_3, .int 0, .int 0, .int (-1)])), (q_3, .inl (cA_4, 120, .inl (fun _ => 0))), (q_5, .inl (cA_6, 40, .inr (.inr (.inr (.inr (fun _ => none)))))), (q_7, .inr (1, [.ref q_9])), (q_9, .inl (cA_10, 157, .inr (.inl (fun _ => 0)))), (q_11, .inr (1, [.ref q_13])), (q_13, .inl (cA_14, 157, .inr (.inl (fun _ => 0))))] H := hP
  replace hD : va_D A [(a_h, .inr (0, [.ref q_1, .ref q_5, .int 0, .ref q_7, .ref q_11, .null, .null, .null, .null, .null, .null, .int 0, .null, .int 0, .null, .int 0])), (q_1, .inr (4, [.ref q_3, .int 0, .int 0, .int (-1)])), (q_3, .inl (cA_4, 120, .inl (fun _ => 0))), (q_5, .inl (cA_6, 40, .inr (.inr (.inr (.inr (fun _ => none)))))), (q_7, .inr (1, [.ref q_9])), (q_9, .inl (cA_10, 157, .inr (.inl (fun _ => 0)))), (q_11, .inr (1, [.ref q_13])), (q_13, .inl (cA_14, 157, .inr (.inl (fun _ => 0))))] := hD
  refine lv_aload_n hx hb d_C_init_51 rfl (lv_at hl 0 rfl) ?_
  refine lv_bipush (v := 50) hx hb d_C_init_52 (by decide) ?_
  refine va_newa (D := (dC, dI)) (atype := .int) (ty := .int) (N' := 50) (a0 := (50, .inl (fun _ => 0))) hx hb (hts _ tw_153) rfl hK hP hD hS hA (fun _ => rfl) (by decide) (by decide) (by decide) (Nat.le_of_ble_eq_true rfl) (Nat.le_of_ble_eq_true rfl) d_C_init_54 (fun q_15 cA_16 H hK hP hD hS => ?_)
  refine W.widen (k := 8) (n := 530) (by omega) (by omega) ?_
  replace hP : va_P (dC, dI) vwCl [(a_h, .inr (0, [.ref q_1, .ref q_5, .int 0, .ref q_7, .ref q_11, .null, .null, .null, .null, .null, .null, .int 0, .null, .int 0, .null, .int 0])), (q_1, .inr (4, [.ref q_3, .int 0, .int 0, .int (-1)])), (q_3, .inl (cA_4, 120, .inl (fun _ => 0))), (q_5, .inl (cA_6, 40, .inr (.inr (.inr (.inr (fun _ => none)))))), (q_7, .inr (1, [.ref q_9])), (q_9, .inl (cA_10, 157, .inr (.inl (fun _ => 0)))), (q_11, .inr (1, [.ref q_13])), (q_13, .inl (cA_14, 157, .inr (.inl (fun _ => 0)))), (q_15, .inl (cA_16, 50, .inl (fun _ => 0)))] H := hP
  replace hD : va_D A [(a_h, .inr (0, [.ref q_1, .ref q_5, .int 0, .ref q_7, .ref q_11, .null, .null, .null, .null, .null, .null, .int 0, .null, .int 0, .null, .int 0])), (q_1, .inr (4, [.ref q_3, .int 0, .int 0, .int (-1)])), (q_3, .inl (cA_4, 120, .inl (fun _ => 0))), (q_5, .inl (cA_6, 40, .inr (.inr (.inr (.inr (fun _ => none)))))), (q_7, .inr (1, [.ref q_9])), (q_9, .inl (cA_10, 157, .inr (.inl (fun _ => 0)))), (q_11, .inr (1, [.ref q_13])), (q_13, .inl (cA_14, 157, .inr (.inl (fun _ => 0)))), (q_15, .inl (cA_16, 50, .inl (fun _ => 0)))] := hD
  replace hK : va_K (dC, dI) vwCl [(cA_4, .char), (cA_6, .object "LoanRules$Rule"), (cA_10, .long), (cA_14, .long), (cA_16, .int)] s := hK
  refine va_putF (D := (dC, dI)) (ci := 0) (v := .ref q_15) (ty := (.array .int)) (C := "LoanRules") (T := Fz_C) (N := 16) hx hb hts it_C tz_C tz_C_ok nz_C hown hK hP hD hS 0 rfl rfl 5 (by decide) (hts _ tw_109) (fun _ h9 => h9) rfl hin rfl (by decide +kernel) rfl rfl (Nat.le_of_ble_eq_true rfl) d_C_init_56 (fun H locs hP hD hS => ?_)
  replace hP : va_P (dC, dI) vwCl [(a_h, .inr (0, [.ref q_1, .ref q_5, .int 0, .ref q_7, .ref q_11, .ref q_15, .null, .null, .null, .null, .null, .int 0, .null, .int 0, .null, .int 0])), (q_1, .inr (4, [.ref q_3, .int 0, .int 0, .int (-1)])), (q_3, .inl (cA_4, 120, .inl (fun _ => 0))), (q_5, .inl (cA_6, 40, .inr (.inr (.inr (.inr (fun _ => none)))))), (q_7, .inr (1, [.ref q_9])), (q_9, .inl (cA_10, 157, .inr (.inl (fun _ => 0)))), (q_11, .inr (1, [.ref q_13])), (q_13, .inl (cA_14, 157, .inr (.inl (fun _ => 0)))), (q_15, .inl (cA_16, 50, .inl (fun _ => 0)))] H := hP
  replace hD : va_D A [(a_h, .inr (0, [.ref q_1, .ref q_5, .int 0, .ref q_7, .ref q_11, .ref q_15, .null, .null, .null, .null, .null, .int 0, .null, .int 0, .null, .int 0])), (q_1, .inr (4, [.ref q_3, .int 0, .int 0, .int (-1)])), (q_3, .inl (cA_4, 120, .inl (fun _ => 0))), (q_5, .inl (cA_6, 40, .inr (.inr (.inr (.inr (fun _ => none)))))), (q_7, .inr (1, [.ref q_9])), (q_9, .inl (cA_10, 157, .inr (.inl (fun _ => 0)))), (q_11, .inr (1, [.ref q_13])), (q_13, .inl (cA_14, 157, .inr (.inl (fun _ => 0)))), (q_15, .inl (cA_16, 50, .inl (fun _ => 0)))] := hD
  refine lv_aload_n hx hb d_C_init_59 rfl (lv_at hl 0 rfl) ?_
  refine lv_bipush (v := 50) hx hb d_C_init_60 (by decide) ?_
  refine va_newa (D := (dC, dI)) (atype := .int) (ty := .int) (N' := 50) (a0 := (50, .inl (fun _ => 0))) hx hb (hts _ tw_153) rfl hK hP hD hS hA (fun _ => rfl) (by decide) (by decide) (by decide) (Nat.le_of_ble_eq_true rfl) (Nat.le_of_ble_eq_true rfl) d_C_init_62 (fun q_17 cA_18 H hK hP hD hS => ?_)
  refine W.widen (k := 9) (n := 580) (by omega) (by omega) ?_
  replace hP : va_P (dC, dI) vwCl [(a_h, .inr (0, [.ref q_1, .ref q_5, .int 0, .ref q_7, .ref q_11, .ref q_15, .null, .null, .null, .null, .null, .int 0, .null, .int 0, .null, .int 0])), (q_1, .inr (4, [.ref q_3, .int 0, .int 0, .int (-1)])), (q_3, .inl (cA_4, 120, .inl (fun _ => 0))), (q_5, .inl (cA_6, 40, .inr (.inr (.inr (.inr (fun _ => none)))))), (q_7, .inr (1, [.ref q_9])), (q_9, .inl (cA_10, 157, .inr (.inl (fun _ => 0)))), (q_11, .inr (1, [.ref q_13])), (q_13, .inl (cA_14, 157, .inr (.inl (fun _ => 0)))), (q_15, .inl (cA_16, 50, .inl (fun _ => 0))), (q_17, .inl (cA_18, 50, .inl (fun _ => 0)))] H := hP
  replace hD : va_D A [(a_h, .inr (0, [.ref q_1, .ref q_5, .int 0, .ref q_7, .ref q_11, .ref q_15, .null, .null, .null, .null, .null, .int 0, .null, .int 0, .null, .int 0])), (q_1, .inr (4, [.ref q_3, .int 0, .int 0, .int (-1)])), (q_3, .inl (cA_4, 120, .inl (fun _ => 0))), (q_5, .inl (cA_6, 40, .inr (.inr (.inr (.inr (fun _ => none)))))), (q_7, .inr (1, [.ref q_9])), (q_9, .inl (cA_10, 157, .inr (.inl (fun _ => 0)))), (q_11, .inr (1, [.ref q_13])), (q_13, .inl (cA_14, 157, .inr (.inl (fun _ => 0)))), (q_15, .inl (cA_16, 50, .inl (fun _ => 0))), (q_17, .inl (cA_18, 50, .inl (fun _ => 0)))] := hD
  replace hK : va_K (dC, dI) vwCl [(cA_4, .char), (cA_6, .object "LoanRules$Rule"), (cA_10, .long), (cA_14, .long), (cA_16, .int), (cA_18, .int)] s := hK
  refine va_putF (D := (dC, dI)) (ci := 0) (v := .ref q_17) (ty := (.array .int)) (C := "LoanRules") (T := Fz_C) (N := 16) hx hb hts it_C tz_C tz_C_ok nz_C hown hK hP hD hS 0 rfl rfl 6 (by decide) (hts _ tw_110) (fun _ h9 => h9) rfl hin rfl (by decide +kernel) rfl rfl (Nat.le_of_ble_eq_true rfl) d_C_init_64 (fun H locs hP hD hS => ?_)
  replace hP : va_P (dC, dI) vwCl [(a_h, .inr (0, [.ref q_1, .ref q_5, .int 0, .ref q_7, .ref q_11, .ref q_15, .ref q_17, .null, .null, .null, .null, .int 0, .null, .int 0, .null, .int 0])), (q_1, .inr (4, [.ref q_3, .int 0, .int 0, .int (-1)])), (q_3, .inl (cA_4, 120, .inl (fun _ => 0))), (q_5, .inl (cA_6, 40, .inr (.inr (.inr (.inr (fun _ => none)))))), (q_7, .inr (1, [.ref q_9])), (q_9, .inl (cA_10, 157, .inr (.inl (fun _ => 0)))), (q_11, .inr (1, [.ref q_13])), (q_13, .inl (cA_14, 157, .inr (.inl (fun _ => 0)))), (q_15, .inl (cA_16, 50, .inl (fun _ => 0))), (q_17, .inl (cA_18, 50, .inl (fun _ => 0)))] H := hP
  replace hD : va_D A [(a_h, .inr (0, [.ref q_1, .ref q_5, .int 0, .ref q_7, .ref q_11, .ref q_15, .ref q_17, .null, .null, .null, .null, .int 0, .null, .int 0, .null, .int 0])), (q_1, .inr (4, [.ref q_3, .int 0, .int 0, .int (-1)])), (q_3, .inl (cA_4, 120, .inl (fun _ => 0))), (q_5, .inl (cA_6, 40, .inr (.inr (.inr (.inr (fun _ => none)))))), (q_7, .inr (1, [.ref q_9])), (q_9, .inl (cA_10, 157, .inr (.inl (fun _ => 0)))), (q_11, .inr (1, [.ref q_13])), (q_13, .inl (cA_14, 157, .inr (.inl (fun _ => 0)))), (q_15, .inl (cA_16, 50, .inl (fun _ => 0))), (q_17, .inl (cA_18, 50, .inl (fun _ => 0)))] := hD
  refine lv_aload_n hx hb d_C_init_67 rfl (lv_at hl 0 rfl) ?_
  refine lv_bipush (v := 50) hx hb d_C_init_68 (by decide) ?_
  refine va_newa (D := (dC, dI)) (atype := .int) (ty := .int) (N' := 50) (a0 := (50, .inl (fun _ => 0))) hx hb (hts _ tw_153) rfl hK hP hD hS hA (fun _ => rfl) (by decide) (by decide) (by decide) (Nat.le_of_ble_eq_true rfl) (Nat.le_of_ble_eq_true rfl) d_C_init_70 (fun q_19 cA_20 H hK hP hD hS => ?_)
  refine W.widen (k := 10) (n := 630) (by omega) (by omega) ?_
  replace hP : va_P (dC, dI) vwCl [(a_h, .inr (0, [.ref q_1, .ref q_5, .int 0, .ref q_7, .ref q_11, .ref q_15, .ref q_17, .null, .null, .null, .null, .int 0, .null, .int 0, .null, .int 0])), (q_1, .inr (4, [.ref q_3, .int 0, .int 0, .int (-1)])), (q_3, .inl (cA_4, 120, .inl (fun _ => 0))), (q_5, .inl (cA_6, 40, .inr (.inr (.inr (.inr (fun _ => none)))))), (q_7, .inr (1, [.ref q_9])), (q_9, .inl (cA_10, 157, .inr (.inl (fun _ => 0)))), (q_11, .inr (1, [.ref q_13])), (q_13, .inl (cA_14, 157, .inr (.inl (fun _ => 0)))), (q_15, .inl (cA_16, 50, .inl (fun _ => 0))), (q_17, .inl (cA_18, 50, .inl (fun _ => 0))), (q_19, .inl (cA_20, 50, .inl (fun _ => 0)))] H := hP
  replace hD : va_D A [(a_h, .inr (0, [.ref q_1, .ref q_5, .int 0, .ref q_7, .ref q_11, .ref q_15, .ref q_17, .null, .null, .null, .null, .int 0, .null, .int 0, .null, .int 0])), (q_1, .inr (4, [.ref q_3, .int 0, .int 0, .int (-1)])), (q_3, .inl (cA_4, 120, .inl (fun _ => 0))), (q_5, .inl (cA_6, 40, .inr (.inr (.inr (.inr (fun _ => none)))))), (q_7, .inr (1, [.ref q_9])), (q_9, .inl (cA_10, 157, .inr (.inl (fun _ => 0)))), (q_11, .inr (1, [.ref q_13])), (q_13, .inl (cA_14, 157, .inr (.inl (fun _ => 0)))), (q_15, .inl (cA_16, 50, .inl (fun _ => 0))), (q_17, .inl (cA_18, 50, .inl (fun _ => 0))), (q_19, .inl (cA_20, 50, .inl (fun _ => 0)))] := hD
  replace hK : va_K (dC, dI) vwCl [(cA_4, .char), (cA_6, .object "LoanRules$Rule"), (cA_10, .long), (cA_14, .long), (cA_16, .int), (cA_18, .int), (cA_20, .int)] s := hK
  refine va_putF (D := (dC, dI)) (ci := 0) (v := .ref q_19) (ty := (.array .int)) (C := "LoanRules") (T := Fz_C) (N := 16) hx hb hts it_C tz_C tz_C_ok nz_C hown hK hP hD hS 0 rfl rfl 7 (by decide) (hts _ tw_111) (fun _ h9 => h9) rfl hin rfl (by decide +kernel) rfl rfl (Nat.le_of_ble_eq_true rfl) d_C_init_72 (fun H locs hP hD hS => ?_)
  replace hP : va_P (dC, dI) vwCl [(a_h, .inr (0, [.ref q_1, .ref q_5, .int 0, .ref q_7, .ref q_11, .ref q_15, .ref q_17, .ref q_19, .null, .null, .null, .int 0, .null, .int 0, .null, .int 0])), (q_1, .inr (4, [.ref q_3, .int 0, .int 0, .int (-1)])), (q_3, .inl (cA_4, 120, .inl (fun _ => 0))), (q_5, .inl (cA_6, 40, .inr (.inr (.inr (.inr (fun _ => none)))))), (q_7, .inr (1, [.ref q_9])), (q_9, .inl (cA_10, 157, .inr (.inl (fun _ => 0)))), (q_11, .inr (1, [.ref q_13])), (q_13, .inl (cA_14, 157, .inr (.inl (fun _ => 0)))), (q_15, .inl (cA_16, 50, .inl (fun _ => 0))), (q_17, .inl (cA_18, 50, .inl (fun _ => 0))), (q_19, .inl (cA_20, 50, .inl (fun _ => 0)))] H := hP
  replace hD : va_D A [(a_h, .inr (0, [.ref q_1, .ref q_5, .int 0, .ref q_7, .ref q_11, .ref q_15, .ref q_17, .ref q_19, .null, .null, .null, .int 0, .null, .int 0, .null, .int 0])), (q_1, .inr (4, [.ref q_3, .int 0, .int 0, .int (-1)])), (q_3, .inl (cA_4, 120, .inl (fun _ => 0))), (q_5, .inl (cA_6, 40, .inr (.inr (.inr (.inr (fun _ => none)))))), (q_7, .inr (1, [.ref q_9])), (q_9, .inl (cA_10, 157, .inr (.inl (fun _ => 0)))), (q_11, .inr (1, [.ref q_13])), (q_13, .inl (cA_14, 157, .inr (.inl (fun _ => 0)))), (q_15, .inl (cA_16, 50, .inl (fun _ => 0))), (q_17, .inl (cA_18, 50, .inl (fun _ => 0))), (q_19, .inl (cA_20, 50, .inl (fun _ => 0)))] := hD
  refine lv_aload_n hx hb d_C_init_75 rfl (lv_at hl 0 rfl) ?_
  refine lv_bipush (v := 50) hx hb d_C_init_76 (by decide) ?_
  refine va_newa (D := (dC, dI)) (atype := .boolean) (ty := .boolean) (N' := 50) (a0 := (50, .inl (fun _ => 0))) hx hb (hts _ tw_154) rfl hK hP hD hS hA (fun _ => rfl) (by decide) (by decide) (by decide) (Nat.le_of_ble_eq_true rfl) (Nat.le_of_ble_eq_true rfl) d_C_init_78 (fun q_21 cA_22 H hK hP hD hS => ?_)
  refine W.widen (k := 11) (n := 680) (by omega) (by omega) ?_
  replace hP : va_P (dC, dI) vwCl [(a_h, .inr (0, [.ref q_1, .ref q_5, .int 0, .ref q_7, .ref q_11, .ref q_15, .ref q_17, .ref q_19, .null, .null, .null, .int 0, .null, .int 0, .null, .int 0])), (q_1, .inr (4, [.ref q_3, .int 0, .int 0, .int (-1)])), (q_3, .inl (cA_4, 120, .inl (fun _ => 0))), (q_5, .inl (cA_6, 40, .inr (.inr (.inr (.inr (fun _ => none)))))), (q_7, .inr (1, [.ref q_9])), (q_9, .inl (cA_10, 157, .inr (.inl (fun _ => 0)))), (q_11, .inr (1, [.ref q_13])), (q_13, .inl (cA_14, 157, .inr (.inl (fun _ => 0)))), (q_15, .inl (cA_16, 50, .inl (fun _ => 0))), (q_17, .inl (cA_18, 50, .inl (fun _ => 0))), (q_19, .inl (cA_20, 50, .inl (fun _ => 0))), (q_21, .inl (cA_22, 50, .inl (fun _ => 0)))] H := hP
  replace hD : va_D A [(a_h, .inr (0, [.ref q_1, .ref q_5, .int 0, .ref q_7, .ref q_11, .ref q_15, .ref q_17, .ref q_19, .null, .null, .null, .int 0, .null, .int 0, .null, .int 0])), (q_1, .inr (4, [.ref q_3, .int 0, .int 0, .int (-1)])), (q_3, .inl (cA_4, 120, .inl (fun _ => 0))), (q_5, .inl (cA_6, 40, .inr (.inr (.inr (.inr (fun _ => none)))))), (q_7, .inr (1, [.ref q_9])), (q_9, .inl (cA_10, 157, .inr (.inl (fun _ => 0)))), (q_11, .inr (1, [.ref q_13])), (q_13, .inl (cA_14, 157, .inr (.inl (fun _ => 0)))), (q_15, .inl (cA_16, 50, .inl (fun _ => 0))), (q_17, .inl (cA_18, 50, .inl (fun _ => 0))), (q_19, .inl (cA_20, 50, .inl (fun _ => 0))), (q_21, .inl (cA_22, 50, .inl (fun _ => 0)))] := hD
  replace hK : va_K (dC, dI) vwCl [(cA_4, .char), (cA_6, .object "LoanRules$Rule"), (cA_10, .long), (cA_14, .long), (cA_16, .int), (cA_18, .int), (cA_20, .int), (cA_22, .boolean)] s := hK
  refine va_putF (D := (dC, dI)) (ci := 0) (v := .ref q_21) (ty := (.array .boolean)) (C := "LoanRules") (T := Fz_C) (N := 16) hx hb hts it_C tz_C tz_C_ok nz_C hown hK hP hD hS 0 rfl rfl 8 (by decide) (hts _ tw_112) (fun _ h9 => h9) rfl hin rfl (by decide +kernel) rfl rfl (Nat.le_of_ble_eq_true rfl) d_C_init_80 (fun H locs hP hD hS => ?_)
  replace hP : va_P (dC, dI) vwCl [(a_h, .inr (0, [.ref q_1, .ref q_5, .int 0, .ref q_7, .ref q_11, .ref q_15, .ref q_17, .ref q_19, .ref q_21, .null, .null, .int 0, .null, .int 0, .null, .int 0])), (q_1, .inr (4, [.ref q_3, .int 0, .int 0, .int (-1)])), (q_3, .inl (cA_4, 120, .inl (fun _ => 0))), (q_5, .inl (cA_6, 40, .inr (.inr (.inr (.inr (fun _ => none)))))), (q_7, .inr (1, [.ref q_9])), (q_9, .inl (cA_10, 157, .inr (.inl (fun _ => 0)))), (q_11, .inr (1, [.ref q_13])), (q_13, .inl (cA_14, 157, .inr (.inl (fun _ => 0)))), (q_15, .inl (cA_16, 50, .inl (fun _ => 0))), (q_17, .inl (cA_18, 50, .inl (fun _ => 0))), (q_19, .inl (cA_20, 50, .inl (fun _ => 0))), (q_21, .inl (cA_22, 50, .inl (fun _ => 0)))] H := hP
  replace hD : va_D A [(a_h, .inr (0, [.ref q_1, .ref q_5, .int 0, .ref q_7, .ref q_11, .ref q_15, .ref q_17, .ref q_19, .ref q_21, .null, .null, .int 0, .null, .int 0, .null, .int 0])), (q_1, .inr (4, [.ref q_3, .int 0, .int 0, .int (-1)])), (q_3, .inl (cA_4, 120, .inl (fun _ => 0))), (q_5, .inl (cA_6, 40, .inr (.inr (.inr (.inr (fun _ => none)))))), (q_7, .inr (1, [.ref q_9])), (q_9, .inl (cA_10, 157, .inr (.inl (fun _ => 0)))), (q_11, .inr (1, [.ref q_13])), (q_13, .inl (cA_14, 157, .inr (.inl (fun _ => 0)))), (q_15, .inl (cA_16, 50, .inl (fun _ => 0))), (q_17, .inl (cA_18, 50, .inl (fun _ => 0))), (q_19, .inl (cA_20, 50, .inl (fun _ => 0))), (q_21, .inl (cA_22, 50, .inl (fun _ => 0)))] := hD
  refine lv_aload_n hx hb d_C_init_83 rfl (lv_at hl 0 rfl) ?_
  refine lv_sipush (v := 2000) hx hb d_C_init_84 (by decide) ?_
  refine va_newa (D := (dC, dI)) (atype := .int) (ty := .int) (N' := 2000) (a0 := (2000, .inl (fun _ => 0))) hx hb (hts _ tw_153) rfl hK hP hD hS hA (fun _ => rfl) (by decide) (by decide) (by decide) (Nat.le_of_ble_eq_true rfl) (Nat.le_of_ble_eq_true rfl) d_C_init_87 (fun q_23 cA_24 H hK hP hD hS => ?_)
  refine W.widen (k := 12) (n := 2680) (by omega) (by omega) ?_
  replace hP : va_P (dC, dI) vwCl [(a_h, .inr (0, [.ref q_1, .ref q_5, .int 0, .ref q_7, .ref q_11, .ref q_15, .ref q_17, .ref q_19, .ref q_21, .null, .null, .int 0, .null, .int 0, .null, .int 0])), (q_1, .inr (4, [.ref q_3, .int 0, .int 0, .int (-1)])), (q_3, .inl (cA_4, 120, .inl (fun _ => 0))), (q_5, .inl (cA_6, 40, .inr (.inr (.inr (.inr (fun _ => none)))))), (q_7, .inr (1, [.ref q_9])), (q_9, .inl (cA_10, 157, .inr (.inl (fun _ => 0)))), (q_11, .inr (1, [.ref q_13])), (q_13, .inl (cA_14, 157, .inr (.inl (fun _ => 0)))), (q_15, .inl (cA_16, 50, .inl (fun _ => 0))), (q_17, .inl (cA_18, 50, .inl (fun _ => 0))), (q_19, .inl (cA_20, 50, .inl (fun _ => 0))), (q_21, .inl (cA_22, 50, .inl (fun _ => 0))), (q_23, .inl (cA_24, 2000, .inl (fun _ => 0)))] H := hP
  replace hD : va_D A [(a_h, .inr (0, [.ref q_1, .ref q_5, .int 0, .ref q_7, .ref q_11, .ref q_15, .ref q_17, .ref q_19, .ref q_21, .null, .null, .int 0, .null, .int 0, .null, .int 0])), (q_1, .inr (4, [.ref q_3, .int 0, .int 0, .int (-1)])), (q_3, .inl (cA_4, 120, .inl (fun _ => 0))), (q_5, .inl (cA_6, 40, .inr (.inr (.inr (.inr (fun _ => none)))))), (q_7, .inr (1, [.ref q_9])), (q_9, .inl (cA_10, 157, .inr (.inl (fun _ => 0)))), (q_11, .inr (1, [.ref q_13])), (q_13, .inl (cA_14, 157, .inr (.inl (fun _ => 0)))), (q_15, .inl (cA_16, 50, .inl (fun _ => 0))), (q_17, .inl (cA_18, 50, .inl (fun _ => 0))), (q_19, .inl (cA_20, 50, .inl (fun _ => 0))), (q_21, .inl (cA_22, 50, .inl (fun _ => 0))), (q_23, .inl (cA_24, 2000, .inl (fun _ => 0)))] := hD
  replace hK : va_K (dC, dI) vwCl [(cA_4, .char), (cA_6, .object "LoanRules$Rule"), (cA_10, .long), (cA_14, .long), (cA_16, .int), (cA_18, .int), (cA_20, .int), (cA_22, .boolean), (cA_24, .int)] s := hK
  refine va_putF (D := (dC, dI)) (ci := 0) (v := .ref q_23) (ty := (.array .int)) (C := "LoanRules") (T := Fz_C) (N := 16) hx hb hts it_C tz_C tz_C_ok nz_C hown hK hP hD hS 0 rfl rfl 9 (by decide) (hts _ tw_113) (fun _ h9 => h9) rfl hin rfl (by decide +kernel) rfl rfl (Nat.le_of_ble_eq_true rfl) d_C_init_89 (fun H locs hP hD hS => ?_)
  replace hP : va_P (dC, dI) vwCl [(a_h, .inr (0, [.ref q_1, .ref q_5, .int 0, .ref q_7, .ref q_11, .ref q_15, .ref q_17, .ref q_19, .ref q_21, .ref q_23, .null, .int 0, .null, .int 0, .null, .int 0])), (q_1, .inr (4, [.ref q_3, .int 0, .int 0, .int (-1)])), (q_3, .inl (cA_4, 120, .inl (fun _ => 0))), (q_5, .inl (cA_6, 40, .inr (.inr (.inr (.inr (fun _ => none)))))), (q_7, .inr (1, [.ref q_9])), (q_9, .inl (cA_10, 157, .inr (.inl (fun _ => 0)))), (q_11, .inr (1, [.ref q_13])), (q_13, .inl (cA_14, 157, .inr (.inl (fun _ => 0)))), (q_15, .inl (cA_16, 50, .inl (fun _ => 0))), (q_17, .inl (cA_18, 50, .inl (fun _ => 0))), (q_19, .inl (cA_20, 50, .inl (fun _ => 0))), (q_21, .inl (cA_22, 50, .inl (fun _ => 0))), (q_23, .inl (cA_24, 2000, .inl (fun _ => 0)))] H := hP
  replace hD : va_D A [(a_h, .inr (0, [.ref q_1, .ref q_5, .int 0, .ref q_7, .ref q_11, .ref q_15, .ref q_17, .ref q_19, .ref q_21, .ref q_23, .null, .int 0, .null, .int 0, .null, .int 0])), (q_1, .inr (4, [.ref q_3, .int 0, .int 0, .int (-1)])), (q_3, .inl (cA_4, 120, .inl (fun _ => 0))), (q_5, .inl (cA_6, 40, .inr (.inr (.inr (.inr (fun _ => none)))))), (q_7, .inr (1, [.ref q_9])), (q_9, .inl (cA_10, 157, .inr (.inl (fun _ => 0)))), (q_11, .inr (1, [.ref q_13])), (q_13, .inl (cA_14, 157, .inr (.inl (fun _ => 0)))), (q_15, .inl (cA_16, 50, .inl (fun _ => 0))), (q_17, .inl (cA_18, 50, .inl (fun _ => 0))), (q_19, .inl (cA_20, 50, .inl (fun _ => 0))), (q_21, .inl (cA_22, 50, .inl (fun _ => 0))), (q_23, .inl (cA_24, 2000, .inl (fun _ => 0)))] := hD
  refine lv_aload_n hx hb d_C_init_92 rfl (lv_at hl 0 rfl) ?_
  refine lv_sipush (v := 200) hx hb d_C_init_93 (by decide) ?_
  refine va_newq (D := (dC, dI)) (N' := 200) hx hb hown (hts _ tw_99) (zo_N hZ) hK hP hD hS hA (by decide) (by decide) (by decide) (Nat.le_of_ble_eq_true rfl) (Nat.le_of_ble_eq_true rfl) d_C_init_96 (fun q_25 cA_26 H hK hP hD hS => ?_)
  refine W.widen (k := 13) (n := 2880) (by omega) (by omega) ?_
  replace hP : va_P (dC, dI) vwCl [(a_h, .inr (0, [.ref q_1, .ref q_5, .int 0, .ref q_7, .ref q_11, .ref q_15, .ref q_17, .ref q_19, .ref q_21, .ref q_23, .null, .int 0, .null, .int 0, .null, .int 0])), (q_1, .inr (4, [.ref q_3, .int 0, .int 0, .int (-1)])), (q_3, .inl (cA_4, 120, .inl (fun _ => 0))), (q_5, .inl (cA_6, 40, .inr (.inr (.inr (.inr (fun _ => none)))))), (q_7, .inr (1, [.ref q_9])), (q_9, .inl (cA_10, 157, .inr (.inl (fun _ => 0)))), (q_11, .inr (1, [.ref q_13])), (q_13, .inl (cA_14, 157, .inr (.inl (fun _ => 0)))), (q_15, .inl (cA_16, 50, .inl (fun _ => 0))), (q_17, .inl (cA_18, 50, .inl (fun _ => 0))), (q_19, .inl (cA_20, 50, .inl (fun _ => 0))), (q_21, .inl (cA_22, 50, .inl (fun _ => 0))), (q_23, .inl (cA_24, 2000, .inl (fun _ => 0))), (q_25, .inl (cA_26, 200, .inr (.inr (.inr (.inr (fun _ => none))))))] H := hP
  replace hD : va_D A [(a_h, .inr (0, [.ref q_1, .ref q_5, .int 0, .ref q_7, .ref q_11, .ref q_15, .ref q_17, .ref q_19, .ref q_21, .ref q_23, .null, .int 0, .null, .int 0, .null, .int 0])), (q_1, .inr (4, [.ref q_3, .int 0, .int 0, .int (-1)])), (q_3, .inl (cA_4, 120, .inl (fun _ => 0))), (q_5, .inl (cA_6, 40, .inr (.inr (.inr (.inr (fun _ => none)))))), (q_7, .inr (1, [.ref q_9])), (q_9, .inl (cA_10, 157, .inr (.inl (fun _ => 0)))), (q_11, .inr (1, [.ref q_13])), (q_13, .inl (cA_14, 157, .inr (.inl (fun _ => 0)))), (q_15, .inl (cA_16, 50, .inl (fun _ => 0))), (q_17, .inl (cA_18, 50, .inl (fun _ => 0))), (q_19, .inl (cA_20, 50, .inl (fun _ => 0))), (q_21, .inl (cA_22, 50, .inl (fun _ => 0))), (q_23, .inl (cA_24, 2000, .inl (fun _ => 0))), (q_25, .inl (cA_26, 200, .inr (.inr (.inr (.inr (fun _ => none))))))] := hD
  replace hK : va_K (dC, dI) vwCl [(cA_4, .char), (cA_6, .object "LoanRules$Rule"), (cA_10, .long), (cA_14, .long), (cA_16, .int), (cA_18, .int), (cA_20, .int), (cA_22, .boolean), (cA_24, .int), (cA_26, .object "LoanRules$Loan")] s := hK
  refine va_putF (D := (dC, dI)) (ci := 0) (v := .ref q_25) (ty := (.array (.object "LoanRules$Loan"))) (C := "LoanRules") (T := Fz_C) (N := 16) hx hb hts it_C tz_C tz_C_ok nz_C hown hK hP hD hS 0 rfl rfl 10 (by decide) (hts _ tw_114) (fun _ h9 => h9) rfl hin rfl (by decide +kernel) rfl rfl (Nat.le_of_ble_eq_true rfl) d_C_init_99 (fun H locs hP hD hS => ?_)
  replace hP : va_P (dC, dI) vwCl [(a_h, .inr (0, [.ref q_1, .ref q_5, .int 0, .ref q_7, .ref q_11, .ref q_15, .ref q_17, .ref q_19, .ref q_21, .ref q_23, .ref q_25, .int 0, .null, .int 0, .null, .int 0])), (q_1, .inr (4, [.ref q_3, .int 0, .int 0, .int (-1)])), (q_3, .inl (cA_4, 120, .inl (fun _ => 0))), (q_5, .inl (cA_6, 40, .inr (.inr (.inr (.inr (fun _ => none)))))), (q_7, .inr (1, [.ref q_9])), (q_9, .inl (cA_10, 157, .inr (.inl (fun _ => 0)))), (q_11, .inr (1, [.ref q_13])), (q_13, .inl (cA_14, 157, .inr (.inl (fun _ => 0)))), (q_15, .inl (cA_16, 50, .inl (fun _ => 0))), (q_17, .inl (cA_18, 50, .inl (fun _ => 0))), (q_19, .inl (cA_20, 50, .inl (fun _ => 0))), (q_21, .inl (cA_22, 50, .inl (fun _ => 0))), (q_23, .inl (cA_24, 2000, .inl (fun _ => 0))), (q_25, .inl (cA_26, 200, .inr (.inr (.inr (.inr (fun _ => none))))))] H := hP
  replace hD : va_D A [(a_h, .inr (0, [.ref q_1, .ref q_5, .int 0, .ref q_7, .ref q_11, .ref q_15, .ref q_17, .ref q_19, .ref q_21, .ref q_23, .ref q_25, .int 0, .null, .int 0, .null, .int 0])), (q_1, .inr (4, [.ref q_3, .int 0, .int 0, .int (-1)])), (q_3, .inl (cA_4, 120, .inl (fun _ => 0))), (q_5, .inl (cA_6, 40, .inr (.inr (.inr (.inr (fun _ => none)))))), (q_7, .inr (1, [.ref q_9])), (q_9, .inl (cA_10, 157, .inr (.inl (fun _ => 0)))), (q_11, .inr (1, [.ref q_13])), (q_13, .inl (cA_14, 157, .inr (.inl (fun _ => 0)))), (q_15, .inl (cA_16, 50, .inl (fun _ => 0))), (q_17, .inl (cA_18, 50, .inl (fun _ => 0))), (q_19, .inl (cA_20, 50, .inl (fun _ => 0))), (q_21, .inl (cA_22, 50, .inl (fun _ => 0))), (q_23, .inl (cA_24, 2000, .inl (fun _ => 0))), (q_25, .inl (cA_26, 200, .inr (.inr (.inr (.inr (fun _ => none))))))] := hD
  refine lv_aload_n hx hb d_C_init_102 rfl (lv_at hl 0 rfl) ?_
  refine lv_iconst (v := 0) hx hb d_C_init_103 (by decide) ?_
  refine va_put (D := (dC, dI)) (ci := 0) (v := .int 0) (ty := .int) (C := "LoanRules") (T := Fz_C) (N := 16) hx hb hts it_C tz_C tz_C_ok nz_C hown hK hP hD hS 0 rfl rfl 11 (by decide) (hts _ tw_115) (fun _ h9 => h9) rfl (by decide +kernel) rfl rfl (Nat.le_of_ble_eq_true rfl) d_C_init_104 (fun H locs hP hD hS => ?_)
  replace hP : va_P (dC, dI) vwCl [(a_h, .inr (0, [.ref q_1, .ref q_5, .int 0, .ref q_7, .ref q_11, .ref q_15, .ref q_17, .ref q_19, .ref q_21, .ref q_23, .ref q_25, .int 0, .null, .int 0, .null, .int 0])), (q_1, .inr (4, [.ref q_3, .int 0, .int 0, .int (-1)])), (q_3, .inl (cA_4, 120, .inl (fun _ => 0))), (q_5, .inl (cA_6, 40, .inr (.inr (.inr (.inr (fun _ => none)))))), (q_7, .inr (1, [.ref q_9])), (q_9, .inl (cA_10, 157, .inr (.inl (fun _ => 0)))), (q_11, .inr (1, [.ref q_13])), (q_13, .inl (cA_14, 157, .inr (.inl (fun _ => 0)))), (q_15, .inl (cA_16, 50, .inl (fun _ => 0))), (q_17, .inl (cA_18, 50, .inl (fun _ => 0))), (q_19, .inl (cA_20, 50, .inl (fun _ => 0))), (q_21, .inl (cA_22, 50, .inl (fun _ => 0))), (q_23, .inl (cA_24, 2000, .inl (fun _ => 0))), (q_25, .inl (cA_26, 200, .inr (.inr (.inr (.inr (fun _ => none))))))] H := hP
  replace hD : va_D A [(a_h, .inr (0, [.ref q_1, .ref q_5, .int 0, .ref q_7, .ref q_11, .ref q_15, .ref q_17, .ref q_19, .ref q_21, .ref q_23, .ref q_25, .int 0, .null, .int 0, .null, .int 0])), (q_1, .inr (4, [.ref q_3, .int 0, .int 0, .int (-1)])), (q_3, .inl (cA_4, 120, .inl (fun _ => 0))), (q_5, .inl (cA_6, 40, .inr (.inr (.inr (.inr (fun _ => none)))))), (q_7, .inr (1, [.ref q_9])), (q_9, .inl (cA_10, 157, .inr (.inl (fun _ => 0)))), (q_11, .inr (1, [.ref q_13])), (q_13, .inl (cA_14, 157, .inr (.inl (fun _ => 0)))), (q_15, .inl (cA_16, 50, .inl (fun _ => 0))), (q_17, .inl (cA_18, 50, .inl (fun _ => 0))), (q_19, .inl (cA_20, 50, .inl (fun _ => 0))), (q_21, .inl (cA_22, 50, .inl (fun _ => 0))), (q_23, .inl (cA_24, 2000, .inl (fun _ => 0))), (q_25, .inl (cA_26, 200, .inr (.inr (.inr (.inr (fun _ => none))))))] := hD
  refine lv_aload_n hx hb d_C_init_107 rfl (lv_at hl 0 rfl) ?_
  refine lv_bipush (v := 40) hx hb d_C_init_108 (by decide) ?_
  refine va_newa (D := (dC, dI)) (atype := .int) (ty := .int) (N' := 40) (a0 := (40, .inl (fun _ => 0))) hx hb (hts _ tw_153) rfl hK hP hD hS hA (fun _ => rfl) (by decide) (by decide) (by decide) (Nat.le_of_ble_eq_true rfl) (Nat.le_of_ble_eq_true rfl) d_C_init_110 (fun q_27 cA_28 H hK hP hD hS => ?_)
  refine W.widen (k := 14) (n := 2920) (by omega) (by omega) ?_
  replace hP : va_P (dC, dI) vwCl [(a_h, .inr (0, [.ref q_1, .ref q_5, .int 0, .ref q_7, .ref q_11, .ref q_15, .ref q_17, .ref q_19, .ref q_21, .ref q_23, .ref q_25, .int 0, .null, .int 0, .null, .int 0])), (q_1, .inr (4, [.ref q_3, .int 0, .int 0, .int (-1)])), (q_3, .inl (cA_4, 120, .inl (fun _ => 0))), (q_5, .inl (cA_6, 40, .inr (.inr (.inr (.inr (fun _ => none)))))), (q_7, .inr (1, [.ref q_9])), (q_9, .inl (cA_10, 157, .inr (.inl (fun _ => 0)))), (q_11, .inr (1, [.ref q_13])), (q_13, .inl (cA_14, 157, .inr (.inl (fun _ => 0)))), (q_15, .inl (cA_16, 50, .inl (fun _ => 0))), (q_17, .inl (cA_18, 50, .inl (fun _ => 0))), (q_19, .inl (cA_20, 50, .inl (fun _ => 0))), (q_21, .inl (cA_22, 50, .inl (fun _ => 0))), (q_23, .inl (cA_24, 2000, .inl (fun _ => 0))), (q_25, .inl (cA_26, 200, .inr (.inr (.inr (.inr (fun _ => none)))))), (q_27, .inl (cA_28, 40, .inl (fun _ => 0)))] H := hP
  replace hD : va_D A [(a_h, .inr (0, [.ref q_1, .ref q_5, .int 0, .ref q_7, .ref q_11, .ref q_15, .ref q_17, .ref q_19, .ref q_21, .ref q_23, .ref q_25, .int 0, .null, .int 0, .null, .int 0])), (q_1, .inr (4, [.ref q_3, .int 0, .int 0, .int (-1)])), (q_3, .inl (cA_4, 120, .inl (fun _ => 0))), (q_5, .inl (cA_6, 40, .inr (.inr (.inr (.inr (fun _ => none)))))), (q_7, .inr (1, [.ref q_9])), (q_9, .inl (cA_10, 157, .inr (.inl (fun _ => 0)))), (q_11, .inr (1, [.ref q_13])), (q_13, .inl (cA_14, 157, .inr (.inl (fun _ => 0)))), (q_15, .inl (cA_16, 50, .inl (fun _ => 0))), (q_17, .inl (cA_18, 50, .inl (fun _ => 0))), (q_19, .inl (cA_20, 50, .inl (fun _ => 0))), (q_21, .inl (cA_22, 50, .inl (fun _ => 0))), (q_23, .inl (cA_24, 2000, .inl (fun _ => 0))), (q_25, .inl (cA_26, 200, .inr (.inr (.inr (.inr (fun _ => none)))))), (q_27, .inl (cA_28, 40, .inl (fun _ => 0)))] := hD
  replace hK : va_K (dC, dI) vwCl [(cA_4, .char), (cA_6, .object "LoanRules$Rule"), (cA_10, .long), (cA_14, .long), (cA_16, .int), (cA_18, .int), (cA_20, .int), (cA_22, .boolean), (cA_24, .int), (cA_26, .object "LoanRules$Loan"), (cA_28, .int)] s := hK
  refine va_putF (D := (dC, dI)) (ci := 0) (v := .ref q_27) (ty := (.array .int)) (C := "LoanRules") (T := Fz_C) (N := 16) hx hb hts it_C tz_C tz_C_ok nz_C hown hK hP hD hS 0 rfl rfl 12 (by decide) (hts _ tw_116) (fun _ h9 => h9) rfl hin rfl (by decide +kernel) rfl rfl (Nat.le_of_ble_eq_true rfl) d_C_init_112 (fun H locs hP hD hS => ?_)
  replace hP : va_P (dC, dI) vwCl [(a_h, .inr (0, [.ref q_1, .ref q_5, .int 0, .ref q_7, .ref q_11, .ref q_15, .ref q_17, .ref q_19, .ref q_21, .ref q_23, .ref q_25, .int 0, .ref q_27, .int 0, .null, .int 0])), (q_1, .inr (4, [.ref q_3, .int 0, .int 0, .int (-1)])), (q_3, .inl (cA_4, 120, .inl (fun _ => 0))), (q_5, .inl (cA_6, 40, .inr (.inr (.inr (.inr (fun _ => none)))))), (q_7, .inr (1, [.ref q_9])), (q_9, .inl (cA_10, 157, .inr (.inl (fun _ => 0)))), (q_11, .inr (1, [.ref q_13])), (q_13, .inl (cA_14, 157, .inr (.inl (fun _ => 0)))), (q_15, .inl (cA_16, 50, .inl (fun _ => 0))), (q_17, .inl (cA_18, 50, .inl (fun _ => 0))), (q_19, .inl (cA_20, 50, .inl (fun _ => 0))), (q_21, .inl (cA_22, 50, .inl (fun _ => 0))), (q_23, .inl (cA_24, 2000, .inl (fun _ => 0))), (q_25, .inl (cA_26, 200, .inr (.inr (.inr (.inr (fun _ => none)))))), (q_27, .inl (cA_28, 40, .inl (fun _ => 0)))] H := hP
  replace hD : va_D A [(a_h, .inr (0, [.ref q_1, .ref q_5, .int 0, .ref q_7, .ref q_11, .ref q_15, .ref q_17, .ref q_19, .ref q_21, .ref q_23, .ref q_25, .int 0, .ref q_27, .int 0, .null, .int 0])), (q_1, .inr (4, [.ref q_3, .int 0, .int 0, .int (-1)])), (q_3, .inl (cA_4, 120, .inl (fun _ => 0))), (q_5, .inl (cA_6, 40, .inr (.inr (.inr (.inr (fun _ => none)))))), (q_7, .inr (1, [.ref q_9])), (q_9, .inl (cA_10, 157, .inr (.inl (fun _ => 0)))), (q_11, .inr (1, [.ref q_13])), (q_13, .inl (cA_14, 157, .inr (.inl (fun _ => 0)))), (q_15, .inl (cA_16, 50, .inl (fun _ => 0))), (q_17, .inl (cA_18, 50, .inl (fun _ => 0))), (q_19, .inl (cA_20, 50, .inl (fun _ => 0))), (q_21, .inl (cA_22, 50, .inl (fun _ => 0))), (q_23, .inl (cA_24, 2000, .inl (fun _ => 0))), (q_25, .inl (cA_26, 200, .inr (.inr (.inr (.inr (fun _ => none)))))), (q_27, .inl (cA_28, 40, .inl (fun _ => 0)))] := hD
  refine lv_aload_n hx hb d_C_init_115 rfl (lv_at hl 0 rfl) ?_
  refine lv_iconst (v := 0) hx hb d_C_init_116 (by decide) ?_
  refine va_put (D := (dC, dI)) (ci := 0) (v := .int 0) (ty := .int) (C := "LoanRules") (T := Fz_C) (N := 16) hx hb hts it_C tz_C tz_C_ok nz_C hown hK hP hD hS 0 rfl rfl 13 (by decide) (hts _ tw_117) (fun _ h9 => h9) rfl (by decide +kernel) rfl rfl (Nat.le_of_ble_eq_true rfl) d_C_init_117 (fun H locs hP hD hS => ?_)
  replace hP : va_P (dC, dI) vwCl [(a_h, .inr (0, [.ref q_1, .ref q_5, .int 0, .ref q_7, .ref q_11, .ref q_15, .ref q_17, .ref q_19, .ref q_21, .ref q_23, .ref q_25, .int 0, .ref q_27, .int 0, .null, .int 0])), (q_1, .inr (4, [.ref q_3, .int 0, .int 0, .int (-1)])), (q_3, .inl (cA_4, 120, .inl (fun _ => 0))), (q_5, .inl (cA_6, 40, .inr (.inr (.inr (.inr (fun _ => none)))))), (q_7, .inr (1, [.ref q_9])), (q_9, .inl (cA_10, 157, .inr (.inl (fun _ => 0)))), (q_11, .inr (1, [.ref q_13])), (q_13, .inl (cA_14, 157, .inr (.inl (fun _ => 0)))), (q_15, .inl (cA_16, 50, .inl (fun _ => 0))), (q_17, .inl (cA_18, 50, .inl (fun _ => 0))), (q_19, .inl (cA_20, 50, .inl (fun _ => 0))), (q_21, .inl (cA_22, 50, .inl (fun _ => 0))), (q_23, .inl (cA_24, 2000, .inl (fun _ => 0))), (q_25, .inl (cA_26, 200, .inr (.inr (.inr (.inr (fun _ => none)))))), (q_27, .inl (cA_28, 40, .inl (fun _ => 0)))] H := hP
  replace hD : va_D A [(a_h, .inr (0, [.ref q_1, .ref q_5, .int 0, .ref q_7, .ref q_11, .ref q_15, .ref q_17, .ref q_19, .ref q_21, .ref q_23, .ref q_25, .int 0, .ref q_27, .int 0, .null, .int 0])), (q_1, .inr (4, [.ref q_3, .int 0, .int 0, .int (-1)])), (q_3, .inl (cA_4, 120, .inl (fun _ => 0))), (q_5, .inl (cA_6, 40, .inr (.inr (.inr (.inr (fun _ => none)))))), (q_7, .inr (1, [.ref q_9])), (q_9, .inl (cA_10, 157, .inr (.inl (fun _ => 0)))), (q_11, .inr (1, [.ref q_13])), (q_13, .inl (cA_14, 157, .inr (.inl (fun _ => 0)))), (q_15, .inl (cA_16, 50, .inl (fun _ => 0))), (q_17, .inl (cA_18, 50, .inl (fun _ => 0))), (q_19, .inl (cA_20, 50, .inl (fun _ => 0))), (q_21, .inl (cA_22, 50, .inl (fun _ => 0))), (q_23, .inl (cA_24, 2000, .inl (fun _ => 0))), (q_25, .inl (cA_26, 200, .inr (.inr (.inr (.inr (fun _ => none)))))), (q_27, .inl (cA_28, 40, .inl (fun _ => 0)))] := hD
  refine lv_aload_n hx hb d_C_init_120 rfl (lv_at hl 0 rfl) ?_
  refine lv_sipush (v := 780) hx hb d_C_init_121 (by decide) ?_
  refine va_newa (D := (dC, dI)) (atype := .int) (ty := .int) (N' := 780) (a0 := (780, .inl (fun _ => 0))) hx hb (hts _ tw_153) rfl hK hP hD hS hA (fun _ => rfl) (by decide) (by decide) (by decide) (Nat.le_of_ble_eq_true rfl) (Nat.le_of_ble_eq_true rfl) d_C_init_124 (fun q_29 cA_30 H hK hP hD hS => ?_)
  refine W.widen (k := 15) (n := 3700) (by omega) (by omega) ?_
  replace hP : va_P (dC, dI) vwCl [(a_h, .inr (0, [.ref q_1, .ref q_5, .int 0, .ref q_7, .ref q_11, .ref q_15, .ref q_17, .ref q_19, .ref q_21, .ref q_23, .ref q_25, .int 0, .ref q_27, .int 0, .null, .int 0])), (q_1, .inr (4, [.ref q_3, .int 0, .int 0, .int (-1)])), (q_3, .inl (cA_4, 120, .inl (fun _ => 0))), (q_5, .inl (cA_6, 40, .inr (.inr (.inr (.inr (fun _ => none)))))), (q_7, .inr (1, [.ref q_9])), (q_9, .inl (cA_10, 157, .inr (.inl (fun _ => 0)))), (q_11, .inr (1, [.ref q_13])), (q_13, .inl (cA_14, 157, .inr (.inl (fun _ => 0)))), (q_15, .inl (cA_16, 50, .inl (fun _ => 0))), (q_17, .inl (cA_18, 50, .inl (fun _ => 0))), (q_19, .inl (cA_20, 50, .inl (fun _ => 0))), (q_21, .inl (cA_22, 50, .inl (fun _ => 0))), (q_23, .inl (cA_24, 2000, .inl (fun _ => 0))), (q_25, .inl (cA_26, 200, .inr (.inr (.inr (.inr (fun _ => none)))))), (q_27, .inl (cA_28, 40, .inl (fun _ => 0))), (q_29, .inl (cA_30, 780, .inl (fun _ => 0)))] H := hP
  replace hD : va_D A [(a_h, .inr (0, [.ref q_1, .ref q_5, .int 0, .ref q_7, .ref q_11, .ref q_15, .ref q_17, .ref q_19, .ref q_21, .ref q_23, .ref q_25, .int 0, .ref q_27, .int 0, .null, .int 0])), (q_1, .inr (4, [.ref q_3, .int 0, .int 0, .int (-1)])), (q_3, .inl (cA_4, 120, .inl (fun _ => 0))), (q_5, .inl (cA_6, 40, .inr (.inr (.inr (.inr (fun _ => none)))))), (q_7, .inr (1, [.ref q_9])), (q_9, .inl (cA_10, 157, .inr (.inl (fun _ => 0)))), (q_11, .inr (1, [.ref q_13])), (q_13, .inl (cA_14, 157, .inr (.inl (fun _ => 0)))), (q_15, .inl (cA_16, 50, .inl (fun _ => 0))), (q_17, .inl (cA_18, 50, .inl (fun _ => 0))), (q_19, .inl (cA_20, 50, .inl (fun _ => 0))), (q_21, .inl (cA_22, 50, .inl (fun _ => 0))), (q_23, .inl (cA_24, 2000, .inl (fun _ => 0))), (q_25, .inl (cA_26, 200, .inr (.inr (.inr (.inr (fun _ => none)))))), (q_27, .inl (cA_28, 40, .inl (fun _ => 0))), (q_29, .inl (cA_30, 780, .inl (fun _ => 0)))] := hD
  replace hK : va_K (dC, dI) vwCl [(cA_4, .char), (cA_6, .object "LoanRules$Rule"), (cA_10, .long), (cA_14, .long), (cA_16, .int), (cA_18, .int), (cA_20, .int), (cA_22, .boolean), (cA_24, .int), (cA_26, .object "LoanRules$Loan"), (cA_28, .int), (cA_30, .int)] s := hK
  refine va_putF (D := (dC, dI)) (ci := 0) (v := .ref q_29) (ty := (.array .int)) (C := "LoanRules") (T := Fz_C) (N := 16) hx hb hts it_C tz_C tz_C_ok nz_C hown hK hP hD hS 0 rfl rfl 14 (by decide) (hts _ tw_118) (fun _ h9 => h9) rfl hin rfl (by decide +kernel) rfl rfl (Nat.le_of_ble_eq_true rfl) d_C_init_126 (fun H locs hP hD hS => ?_)
  replace hP : va_P (dC, dI) vwCl [(a_h, .inr (0, [.ref q_1, .ref q_5, .int 0, .ref q_7, .ref q_11, .ref q_15, .ref q_17, .ref q_19, .ref q_21, .ref q_23, .ref q_25, .int 0, .ref q_27, .int 0, .ref q_29, .int 0])), (q_1, .inr (4, [.ref q_3, .int 0, .int 0, .int (-1)])), (q_3, .inl (cA_4, 120, .inl (fun _ => 0))), (q_5, .inl (cA_6, 40, .inr (.inr (.inr (.inr (fun _ => none)))))), (q_7, .inr (1, [.ref q_9])), (q_9, .inl (cA_10, 157, .inr (.inl (fun _ => 0)))), (q_11, .inr (1, [.ref q_13])), (q_13, .inl (cA_14, 157, .inr (.inl (fun _ => 0)))), (q_15, .inl (cA_16, 50, .inl (fun _ => 0))), (q_17, .inl (cA_18, 50, .inl (fun _ => 0))), (q_19, .inl (cA_20, 50, .inl (fun _ => 0))), (q_21, .inl (cA_22, 50, .inl (fun _ => 0))), (q_23, .inl (cA_24, 2000, .inl (fun _ => 0))), (q_25, .inl (cA_26, 200, .inr (.inr (.inr (.inr (fun _ => none)))))), (q_27, .inl (cA_28, 40, .inl (fun _ => 0))), (q_29, .inl (cA_30, 780, .inl (fun _ => 0)))] H := hP
  replace hD : va_D A [(a_h, .inr (0, [.ref q_1, .ref q_5, .int 0, .ref q_7, .ref q_11, .ref q_15, .ref q_17, .ref q_19, .ref q_21, .ref q_23, .ref q_25, .int 0, .ref q_27, .int 0, .ref q_29, .int 0])), (q_1, .inr (4, [.ref q_3, .int 0, .int 0, .int (-1)])), (q_3, .inl (cA_4, 120, .inl (fun _ => 0))), (q_5, .inl (cA_6, 40, .inr (.inr (.inr (.inr (fun _ => none)))))), (q_7, .inr (1, [.ref q_9])), (q_9, .inl (cA_10, 157, .inr (.inl (fun _ => 0)))), (q_11, .inr (1, [.ref q_13])), (q_13, .inl (cA_14, 157, .inr (.inl (fun _ => 0)))), (q_15, .inl (cA_16, 50, .inl (fun _ => 0))), (q_17, .inl (cA_18, 50, .inl (fun _ => 0))), (q_19, .inl (cA_20, 50, .inl (fun _ => 0))), (q_21, .inl (cA_22, 50, .inl (fun _ => 0))), (q_23, .inl (cA_24, 2000, .inl (fun _ => 0))), (q_25, .inl (cA_26, 200, .inr (.inr (.inr (.inr (fun _ => none)))))), (q_27, .inl (cA_28, 40, .inl (fun _ => 0))), (q_29, .inl (cA_30, 780, .inl (fun _ => 0)))] := hD
  refine lv_aload_n hx hb d_C_init_129 rfl (lv_at hl 0 rfl) ?_
  refine lv_iconst (v := 0) hx hb d_C_init_130 (by decide) ?_
  refine va_put (D := (dC, dI)) (ci := 0) (v := .int 0) (ty := .int) (C := "LoanRules") (T := Fz_C) (N := 16) hx hb hts it_C tz_C tz_C_ok nz_C hown hK hP hD hS 0 rfl rfl 15 (by decide) (hts _ tw_119) (fun _ h9 => h9) rfl (by decide +kernel) rfl rfl (Nat.le_of_ble_eq_true rfl) d_C_init_131 (fun H locs hP hD hS => ?_)
  replace hP : va_P (dC, dI) vwCl [(a_h, .inr (0, [.ref q_1, .ref q_5, .int 0, .ref q_7, .ref q_11, .ref q_15, .ref q_17, .ref q_19, .ref q_21, .ref q_23, .ref q_25, .int 0, .ref q_27, .int 0, .ref q_29, .int 0])), (q_1, .inr (4, [.ref q_3, .int 0, .int 0, .int (-1)])), (q_3, .inl (cA_4, 120, .inl (fun _ => 0))), (q_5, .inl (cA_6, 40, .inr (.inr (.inr (.inr (fun _ => none)))))), (q_7, .inr (1, [.ref q_9])), (q_9, .inl (cA_10, 157, .inr (.inl (fun _ => 0)))), (q_11, .inr (1, [.ref q_13])), (q_13, .inl (cA_14, 157, .inr (.inl (fun _ => 0)))), (q_15, .inl (cA_16, 50, .inl (fun _ => 0))), (q_17, .inl (cA_18, 50, .inl (fun _ => 0))), (q_19, .inl (cA_20, 50, .inl (fun _ => 0))), (q_21, .inl (cA_22, 50, .inl (fun _ => 0))), (q_23, .inl (cA_24, 2000, .inl (fun _ => 0))), (q_25, .inl (cA_26, 200, .inr (.inr (.inr (.inr (fun _ => none)))))), (q_27, .inl (cA_28, 40, .inl (fun _ => 0))), (q_29, .inl (cA_30, 780, .inl (fun _ => 0)))] H := hP
  replace hD : va_D A [(a_h, .inr (0, [.ref q_1, .ref q_5, .int 0, .ref q_7, .ref q_11, .ref q_15, .ref q_17, .ref q_19, .ref q_21, .ref q_23, .ref q_25, .int 0, .ref q_27, .int 0, .ref q_29, .int 0])), (q_1, .inr (4, [.ref q_3, .int 0, .int 0, .int (-1)])), (q_3, .inl (cA_4, 120, .inl (fun _ => 0))), (q_5, .inl (cA_6, 40, .inr (.inr (.inr (.inr (fun _ => none)))))), (q_7, .inr (1, [.ref q_9])), (q_9, .inl (cA_10, 157, .inr (.inl (fun _ => 0)))), (q_11, .inr (1, [.ref q_13])), (q_13, .inl (cA_14, 157, .inr (.inl (fun _ => 0)))), (q_15, .inl (cA_16, 50, .inl (fun _ => 0))), (q_17, .inl (cA_18, 50, .inl (fun _ => 0))), (q_19, .inl (cA_20, 50, .inl (fun _ => 0))), (q_21, .inl (cA_22, 50, .inl (fun _ => 0))), (q_23, .inl (cA_24, 2000, .inl (fun _ => 0))), (q_25, .inl (cA_26, 200, .inr (.inr (.inr (.inr (fun _ => none)))))), (q_27, .inl (cA_28, 40, .inl (fun _ => 0))), (q_29, .inl (cA_30, 780, .inl (fun _ => 0)))] := hD
  refine lv_aload_n hx hb d_C_init_134 rfl (lv_at hl 0 rfl) ?_
  refine va_get (D := (dC, dI)) (ci := 0) (v := .ref q_23) (C := "LoanRules") (T := Fz_C) (N := 16) hx hb hts it_C hown hK hP 0 rfl rfl 9 (by decide) (hts _ tw_113) (fun _ h9 => h9) rfl d_C_init_135 ?_
  refine lv_iconst (v := (-1)) hx hb d_C_init_138 (by decide) ?_
  have hPc := hP.sub (ws' := [(q_23, .inl (cA_24, 2000, .inl (fun _ => 0)))]) [12] rfl
  have hKc := hK.sub (tys' := [(cA_24, .int)]) [8] rfl
  have hDc := hD.sub (ws' := [(q_23, .inl (cA_24, 2000, .inl (fun _ => 0)))]) [12] (by decide) rfl
  have hFc := va_free (wc := [(q_23, .inl (cA_24, 2000, .inl (fun _ => 0)))]) hD hS hA [12] rfl
  refine va_callv (va_runS (As := [.ref q_23, .int (-1)]) (rest := []) ⟨hx, hb, hml, hown, hts⟩ (c_fill l dC dI adK adV (a_ex := q_23) (k_ex := cA_24) (f0 := (fun _ => 0)) (sz := H.size)) (va_cwS 2 hts (gS tw_101 tw_102 tw_45 tw_103) rfl rfl rfl (by decide +kernel) ⟨(Nat.le_of_ble_eq_true rfl), (Nat.le_of_ble_eq_true rfl)⟩) ⟨fun a U g mk q => by obtain ⟨q0, q1, qZ, qP, qK, qD⟩ := q; exact ⟨q0, q1, zz_call qZ, qP, va_K.moved (u := U) (U := U.calling g mk a) (Vm.Alike.refl U.vm) qK, qD⟩, fun U hU hW => ⟨rfl, by rw [hU], zz_rw hS hFc hU hW hZ, by rw [hU]; exact hPc, va_K.moved hW.alike hKc, hDc.weaken (fun _ _ _ _ => trivial)⟩⟩ rfl rfl hl.1 rfl (lv_room (Nat.le_of_ble_eq_true rfl)) d_C_init_139 ⟨(Nat.le_of_ble_eq_true rfl), (Nat.le_of_ble_eq_true rfl)⟩) hS (fun q _ h => hFc q h) hFc (fun u_32 t H1 locs ht hvm hw_31 hB hz1 hk1 hS => ?_)
  obtain ⟨hP1, hK1, hD1⟩ := hB
  rw [ht] at hP1
  have hK1 := va_K.moved hvm.symm hK1
  obtain ⟨hP, hD⟩ := va_join (wr := [(a_h, .inr (0, [.ref q_1, .ref q_5, .int 0, .ref q_7, .ref q_11, .ref q_15, .ref q_17, .ref q_19, .ref q_21, .ref q_23, .ref q_25, .int 0, .ref q_27, .int 0, .ref q_29, .int 0])), (q_1, .inr (4, [.ref q_3, .int 0, .int 0, .int (-1)])), (q_3, .inl (cA_4, 120, .inl (fun _ => 0))), (q_5, .inl (cA_6, 40, .inr (.inr (.inr (.inr (fun _ => none)))))), (q_7, .inr (1, [.ref q_9])), (q_9, .inl (cA_10, 157, .inr (.inl (fun _ => 0)))), (q_11, .inr (1, [.ref q_13])), (q_13, .inl (cA_14, 157, .inr (.inl (fun _ => 0)))), (q_15, .inl (cA_16, 50, .inl (fun _ => 0))), (q_17, .inl (cA_18, 50, .inl (fun _ => 0))), (q_19, .inl (cA_20, 50, .inl (fun _ => 0))), (q_21, .inl (cA_22, 50, .inl (fun _ => 0))), (q_25, .inl (cA_26, 200, .inr (.inr (.inr (.inr (fun _ => none)))))), (q_27, .inl (cA_28, 40, .inl (fun _ => 0))), (q_29, .inl (cA_30, 780, .inl (fun _ => 0)))]) (w1 := [(q_23, .inl (cA_24, 2000, .inl u_32))]) hP hD [12] [0, 1, 2, 3, 4, 5, 6, 7, 8, 9, 10, 11, 13, 14, 15] rfl rfl (by decide) (by decide) hk1 hFc hP1 hD1
  have hK := (hK.sub (tys' := [(cA_4, .char), (cA_6, .object "LoanRules$Rule"), (cA_10, .long), (cA_14, .long), (cA_16, .int), (cA_18, .int), (cA_20, .int), (cA_22, .boolean), (cA_26, .object "LoanRules$Loan"), (cA_28, .int), (cA_30, .int)]) [0, 1, 2, 3, 4, 5, 6, 7, 9, 10, 11] rfl).app hK1
  generalize H1 = H at hP hS ⊢
  replace hP : va_P (dC, dI) vwCl [(a_h, .inr (0, [.ref q_1, .ref q_5, .int 0, .ref q_7, .ref q_11, .ref q_15, .ref q_17, .ref q_19, .ref q_21, .ref q_23, .ref q_25, .int 0, .ref q_27, .int 0, .ref q_29, .int 0])), (q_1, .inr (4, [.ref q_3, .int 0, .int 0, .int (-1)])), (q_3, .inl (cA_4, 120, .inl (fun _ => 0))), (q_5, .inl (cA_6, 40, .inr (.inr (.inr (.inr (fun _ => none)))))), (q_7, .inr (1, [.ref q_9])), (q_9, .inl (cA_10, 157, .inr (.inl (fun _ => 0)))), (q_11, .inr (1, [.ref q_13])), (q_13, .inl (cA_14, 157, .inr (.inl (fun _ => 0)))), (q_15, .inl (cA_16, 50, .inl (fun _ => 0))), (q_17, .inl (cA_18, 50, .inl (fun _ => 0))), (q_19, .inl (cA_20, 50, .inl (fun _ => 0))), (q_21, .inl (cA_22, 50, .inl (fun _ => 0))), (q_25, .inl (cA_26, 200, .inr (.inr (.inr (.inr (fun _ => none)))))), (q_27, .inl (cA_28, 40, .inl (fun _ => 0))), (q_29, .inl (cA_30, 780, .inl (fun _ => 0))), (q_23, .inl (cA_24, 2000, .inl u_32))] H := hP
  replace hD : va_D A [(a_h, .inr (0, [.ref q_1, .ref q_5, .int 0, .ref q_7, .ref q_11, .ref q_15, .ref q_17, .ref q_19, .ref q_21, .ref q_23, .ref q_25, .int 0, .ref q_27, .int 0, .ref q_29, .int 0])), (q_1, .inr (4, [.ref q_3, .int 0, .int 0, .int (-1)])), (q_3, .inl (cA_4, 120, .inl (fun _ => 0))), (q_5, .inl (cA_6, 40, .inr (.inr (.inr (.inr (fun _ => none)))))), (q_7, .inr (1, [.ref q_9])), (q_9, .inl (cA_10, 157, .inr (.inl (fun _ => 0)))), (q_11, .inr (1, [.ref q_13])), (q_13, .inl (cA_14, 157, .inr (.inl (fun _ => 0)))), (q_15, .inl (cA_16, 50, .inl (fun _ => 0))), (q_17, .inl (cA_18, 50, .inl (fun _ => 0))), (q_19, .inl (cA_20, 50, .inl (fun _ => 0))), (q_21, .inl (cA_22, 50, .inl (fun _ => 0))), (q_25, .inl (cA_26, 200, .inr (.inr (.inr (.inr (fun _ => none)))))), (q_27, .inl (cA_28, 40, .inl (fun _ => 0))), (q_29, .inl (cA_30, 780, .inl (fun _ => 0))), (q_23, .inl (cA_24, 2000, .inl u_32))] := hD
  replace hK : va_K (dC, dI) vwCl [(cA_4, .char), (cA_6, .object "LoanRules$Rule"), (cA_10, .long), (cA_14, .long), (cA_16, .int), (cA_18, .int), (cA_20, .int), (cA_22, .boolean), (cA_26, .object "LoanRules$Loan"), (cA_28, .int), (cA_30, .int), (cA_24, .int)] s := hK
  have hP9 := hP.sub (ws' := [(a_h, .inr (0, [.ref q_1, .ref q_5, .int 0, .ref q_7, .ref q_11, .ref q_15, .ref q_17, .ref q_19, .ref q_21, .ref q_23, .ref q_25, .int 0, .ref q_27, .int 0, .ref q_29, .int 0])), (q_1, .inr (4, [.ref q_3, .int 0, .int 0, .int (-1)])), (q_3, .inl (cA_4, 120, .inl (fun _ => 0))), (q_5, .inl (cA_6, 40, .inr (.inr (.inr (.inr (fun _ => none)))))), (q_7, .inr (1, [.ref q_9])), (q_9, .inl (cA_10, 157, .inr (.inl (fun _ => 0)))), (q_11, .inr (1, [.ref q_13])), (q_13, .inl (cA_14, 157, .inr (.inl (fun _ => 0)))), (q_15, .inl (cA_16, 50, .inl (fun _ => 0))), (q_17, .inl (cA_18, 50, .inl (fun _ => 0))), (q_19, .inl (cA_20, 50, .inl (fun _ => 0))), (q_21, .inl (cA_22, 50, .inl (fun _ => 0))), (q_25, .inl (cA_26, 200, .inr (.inr (.inr (.inr (fun _ => none)))))), (q_27, .inl (cA_28, 40, .inl (fun _ => 0))), (q_29, .inl (cA_30, 780, .inl (fun _ => 0))), (q_23, .inl (cA_24, 2000, .inl u_32))]) [0, 1, 2, 3, 4, 5, 6, 7, 8, 9, 10, 11, 12, 13, 14, 15] rfl
  have hD9 := hD.sub (ws' := [(a_h, .inr (0, [.ref q_1, .ref q_5, .int 0, .ref q_7, .ref q_11, .ref q_15, .ref q_17, .ref q_19, .ref q_21, .ref q_23, .ref q_25, .int 0, .ref q_27, .int 0, .ref q_29, .int 0])), (q_1, .inr (4, [.ref q_3, .int 0, .int 0, .int (-1)])), (q_3, .inl (cA_4, 120, .inl (fun _ => 0))), (q_5, .inl (cA_6, 40, .inr (.inr (.inr (.inr (fun _ => none)))))), (q_7, .inr (1, [.ref q_9])), (q_9, .inl (cA_10, 157, .inr (.inl (fun _ => 0)))), (q_11, .inr (1, [.ref q_13])), (q_13, .inl (cA_14, 157, .inr (.inl (fun _ => 0)))), (q_15, .inl (cA_16, 50, .inl (fun _ => 0))), (q_17, .inl (cA_18, 50, .inl (fun _ => 0))), (q_19, .inl (cA_20, 50, .inl (fun _ => 0))), (q_21, .inl (cA_22, 50, .inl (fun _ => 0))), (q_25, .inl (cA_26, 200, .inr (.inr (.inr (.inr (fun _ => none)))))), (q_27, .inl (cA_28, 40, .inl (fun _ => 0))), (q_29, .inl (cA_30, 780, .inl (fun _ => 0))), (q_23, .inl (cA_24, 2000, .inl u_32))]) [0, 1, 2, 3, 4, 5, 6, 7, 8, 9, 10, 11, 12, 13, 14, 15] (by decide) rfl
  have hK9 := hK.sub (tys' := [(cA_4, .char), (cA_6, .object "LoanRules$Rule"), (cA_10, .long), (cA_14, .long), (cA_16, .int), (cA_18, .int), (cA_20, .int), (cA_22, .boolean), (cA_26, .object "LoanRules$Loan"), (cA_28, .int), (cA_30, .int), (cA_24, .int)]) [0, 1, 2, 3, 4, 5, 6, 7, 8, 9, 10, 11] rfl
  exact W.vret hx hb hr (fun t ht hW => ⟨⟨(), rfl, trivial, q_1, q_3, q_5, q_7, q_9, q_11, q_13, q_15, q_17, q_19, q_21, q_25, q_27, q_29, q_23, cA_4, cA_6, cA_10, cA_14, cA_16, cA_18, cA_20, cA_22, cA_26, cA_28, cA_30, cA_24, u_32, by rw [ht]; exact hP9, va_K.moved hW.alike hK9, hD9⟩, hS.F ht⟩) hS.2.2 d_C_init_142
